theorem lv_1 {κ : KP} : lv κ 1 0 := lv_s (by decide) (by decide) (by decide) (by decide)
theorem lv_u1 {κ : KP} (n : Nat) (h : lv κ 1 n) : n = 0 := lv_u (by decide) (by decide) (by decide) n h
theorem lv_3 {κ : KP} : lv κ 3 0 := lv_s (by decide) (by decide) (by decide) (by decide)
theorem lv_u3 {κ : KP} (n : Nat) (h : lv κ 3 n) : n = 0 := lv_u (by decide) (by decide) (by decide) n h
theorem lv_4 {κ : KP} : lv κ 4 0 := lv_s (by decide) (by decide) (by decide) (by decide)
theorem lv_u4 {κ : KP} (n : Nat) (h : lv κ 4 n) : n = 0 := lv_u (by decide) (by decide) (by decide) n h
theorem lv_6 {κ : KP} : lv κ 6 0 := lv_s (by decide) (by decide) (by decide) (by decide)
theorem lv_u6 {κ : KP} (n : Nat) (h : lv κ 6 n) : n = 0 := lv_u (by decide) (by decide) (by decide) n h
theorem lv_7 {κ : KP} : lv κ 7 0 := lv_s (by decide) (by decide) (by decide) (by decide)
theorem lv_u7 {κ : KP} (n : Nat) (h : lv κ 7 n) : n = 0 := lv_u (by decide) (by decide) (by decide) n h
theorem lv_9 {κ : KP} : lv κ 9 0 := lv_s (by decide) (by decide) (by decide) (by decide)
theorem lv_u9 {κ : KP} (n : Nat) (h : lv κ 9 n) : n = 0 := lv_u (by decide) (by decide) (by decide) n h
theorem lv_10 {κ : KP} : lv κ 10 0 := lv_s (by decide) (by decide) (by decide) (by decide)
theorem lv_u10 {κ : KP} (n : Nat) (h : lv κ 10 n) : n = 0 := lv_u (by decide) (by decide) (by decide) n h
theorem lv_11 {κ : KP} : lv κ 11 0 := lv_s (by decide) (by decide) (by decide) (by decide)
theorem lv_u11 {κ : KP} (n : Nat) (h : lv κ 11 n) : n = 0 := lv_u (by decide) (by decide) (by decide) n h
theorem lv_12 {κ : KP} : lv κ 12 0 := lv_s (by decide) (by decide) (by decide) (by decide)
theorem lv_u12 {κ : KP} (n : Nat) (h : lv κ 12 n) : n = 0 := lv_u (by decide) (by decide) (by decide) n h
theorem lv_13 {κ : KP} : lv κ 13 0 := lv_s (by decide) (by decide) (by decide) (by decide)
theorem lv_u13 {κ : KP} (n : Nat) (h : lv κ 13 n) : n = 0 := lv_u (by decide) (by decide) (by decide) n h
theorem lv_14 {κ : KP} : lv κ 14 0 := lv_s (by decide) (by decide) (by decide) (by decide)
theorem lv_u14 {κ : KP} (n : Nat) (h : lv κ 14 n) : n = 0 := lv_u (by decide) (by decide) (by decide) n h
theorem lv_15 {κ : KP} : lv κ 15 0 := lv_s (by decide) (by decide) (by decide) (by decide)
theorem lv_u15 {κ : KP} (n : Nat) (h : lv κ 15 n) : n = 0 := lv_u (by decide) (by decide) (by decide) n h
theorem lv_16 {κ : KP} : lv κ 16 0 := lv_s (by decide) (by decide) (by decide) (by decide)
theorem lv_u16 {κ : KP} (n : Nat) (h : lv κ 16 n) : n = 0 := lv_u (by decide) (by decide) (by decide) n h
theorem lv_17 {κ : KP} : lv κ 17 0 := lv_s (by decide) (by decide) (by decide) (by decide)
theorem lv_u17 {κ : KP} (n : Nat) (h : lv κ 17 n) : n = 0 := lv_u (by decide) (by decide) (by decide) n h
theorem inX0 : ∀ w ∈ u_ws RX0 TX0 10, w ∈ TW := by
  intro w hw
  obtain ⟨k, hk, rfl⟩ := List.mem_map.mp hw
  have hk := List.mem_range.mp hk
  match k, hk with
  | 0, _ => exact tw_492
  | 1, _ => exact tw_494
  | 2, _ => exact tw_496
  | 3, _ => exact tw_498
  | 4, _ => exact tw_500
  | 5, _ => exact tw_502
  | 6, _ => exact tw_504
  | 7, _ => exact tw_506
  | 8, _ => exact tw_508
  | 9, _ => exact tw_510
  | k + 10, hk => exact absurd hk (by omega)
theorem inX1 : ∀ w ∈ u_ws RX1 TX1 3, w ∈ TW := by
  intro w hw
  obtain ⟨k, hk, rfl⟩ := List.mem_map.mp hw
  have hk := List.mem_range.mp hk
  match k, hk with
  | 0, _ => exact tw_129
  | 1, _ => exact tw_131
  | 2, _ => exact tw_133
  | k + 3, hk => exact absurd hk (by omega)
theorem inX2 : ∀ w ∈ u_ws RX2 TX2 4, w ∈ TW := by
  intro w hw
  obtain ⟨k, hk, rfl⟩ := List.mem_map.mp hw
  have hk := List.mem_range.mp hk
  match k, hk with
  | 0, _ => exact tw_467
  | 1, _ => exact tw_469
  | 2, _ => exact tw_471
  | 3, _ => exact tw_473
  | k + 4, hk => exact absurd hk (by omega)
theorem inX3 : ∀ w ∈ u_ws RX3 TX3 1, w ∈ TW := by
  intro w hw
  obtain ⟨k, hk, rfl⟩ := List.mem_map.mp hw
  have hk := List.mem_range.mp hk
  match k, hk with
  | 0, _ => exact tw_144
  | k + 1, hk => exact absurd hk (by omega)
theorem inX4 : ∀ w ∈ u_ws RX4 TX4 7, w ∈ TW := by
  intro w hw
  obtain ⟨k, hk, rfl⟩ := List.mem_map.mp hw
  have hk := List.mem_range.mp hk
  match k, hk with
  | 0, _ => exact tw_104
  | 1, _ => exact tw_106
  | 2, _ => exact tw_108
  | 3, _ => exact tw_110
  | 4, _ => exact tw_112
  | 5, _ => exact tw_114
  | 6, _ => exact tw_116
  | k + 7, hk => exact absurd hk (by omega)
theorem inX5 : ∀ w ∈ u_ws RX5 TX5 5, w ∈ TW := by
  intro w hw
  obtain ⟨k, hk, rfl⟩ := List.mem_map.mp hw
  have hk := List.mem_range.mp hk
  match k, hk with
  | 0, _ => exact tw_765
  | 1, _ => exact tw_767
  | 2, _ => exact tw_769
  | 3, _ => exact tw_771
  | 4, _ => exact tw_773
  | k + 5, hk => exact absurd hk (by omega)
theorem inX6 : ∀ w ∈ u_ws RX6 TX6 5, w ∈ TW := by
  intro w hw
  obtain ⟨k, hk, rfl⟩ := List.mem_map.mp hw
  have hk := List.mem_range.mp hk
  match k, hk with
  | 0, _ => exact tw_84
  | 1, _ => exact tw_86
  | 2, _ => exact tw_88
  | 3, _ => exact tw_90
  | 4, _ => exact tw_92
  | k + 5, hk => exact absurd hk (by omega)
theorem inX7 : ∀ w ∈ u_ws RX7 TX7 10, w ∈ TW := by
  intro w hw
  obtain ⟨k, hk, rfl⟩ := List.mem_map.mp hw
  have hk := List.mem_range.mp hk
  match k, hk with
  | 0, _ => exact tw_157
  | 1, _ => exact tw_159
  | 2, _ => exact tw_161
  | 3, _ => exact tw_163
  | 4, _ => exact tw_165
  | 5, _ => exact tw_167
  | 6, _ => exact tw_169
  | 7, _ => exact tw_171
  | 8, _ => exact tw_173
  | 9, _ => exact tw_175
  | k + 10, hk => exact absurd hk (by omega)
theorem pe_0_5 (κ : KP) (γ : St) (n : Nat) (v : Int32) : cel κ (sV γ 0 n 5 v) 0 n = .inr (0, ([.ref (kA κ 2 (2 * n)), .ref (kA κ 2 (2 * n + 1)), .int (gV γ 0 n 2), .int (gV γ 0 n 3), .int (gV γ 0 n 4), .int (gV γ 0 n 5), .int (gV γ 0 n 6), .int (gV γ 0 n 7), .int (gV γ 0 n 8), .int (gV γ 0 n 9)] : List Value).set 5 (.int v)) := by simp [cel, cel0, gV_sV, gL_sV, gR_sV]
theorem pe_0_6 (κ : KP) (γ : St) (n : Nat) (v : Int32) : cel κ (sV γ 0 n 6 v) 0 n = .inr (0, ([.ref (kA κ 2 (2 * n)), .ref (kA κ 2 (2 * n + 1)), .int (gV γ 0 n 2), .int (gV γ 0 n 3), .int (gV γ 0 n 4), .int (gV γ 0 n 5), .int (gV γ 0 n 6), .int (gV γ 0 n 7), .int (gV γ 0 n 8), .int (gV γ 0 n 9)] : List Value).set 6 (.int v)) := by simp [cel, cel0, gV_sV, gL_sV, gR_sV]
theorem pe_0_7 (κ : KP) (γ : St) (n : Nat) (v : Int32) : cel κ (sV γ 0 n 7 v) 0 n = .inr (0, ([.ref (kA κ 2 (2 * n)), .ref (kA κ 2 (2 * n + 1)), .int (gV γ 0 n 2), .int (gV γ 0 n 3), .int (gV γ 0 n 4), .int (gV γ 0 n 5), .int (gV γ 0 n 6), .int (gV γ 0 n 7), .int (gV γ 0 n 8), .int (gV γ 0 n 9)] : List Value).set 7 (.int v)) := by simp [cel, cel0, gV_sV, gL_sV, gR_sV]
theorem pe_0_8 (κ : KP) (γ : St) (n : Nat) (v : Int32) : cel κ (sV γ 0 n 8 v) 0 n = .inr (0, ([.ref (kA κ 2 (2 * n)), .ref (kA κ 2 (2 * n + 1)), .int (gV γ 0 n 2), .int (gV γ 0 n 3), .int (gV γ 0 n 4), .int (gV γ 0 n 5), .int (gV γ 0 n 6), .int (gV γ 0 n 7), .int (gV γ 0 n 8), .int (gV γ 0 n 9)] : List Value).set 8 (.int v)) := by simp [cel, cel0, gV_sV, gL_sV, gR_sV]
theorem pe_0_9 (κ : KP) (γ : St) (n : Nat) (v : Int32) : cel κ (sV γ 0 n 9 v) 0 n = .inr (0, ([.ref (kA κ 2 (2 * n)), .ref (kA κ 2 (2 * n + 1)), .int (gV γ 0 n 2), .int (gV γ 0 n 3), .int (gV γ 0 n 4), .int (gV γ 0 n 5), .int (gV γ 0 n 6), .int (gV γ 0 n 7), .int (gV γ 0 n 8), .int (gV γ 0 n 9)] : List Value).set 9 (.int v)) := by simp [cel, cel0, gV_sV, gL_sV, gR_sV]
theorem pe_1_2 (κ : KP) (γ : St) (n : Nat) (v : Int32) : cel κ (sV γ 1 n 2 v) 1 n = .inr (1, ([.ref (kA κ 16 n), .ref (kA κ 17 n), .int (gV γ 1 n 2)] : List Value).set 2 (.int v)) := by simp [cel, cel0, gV_sV, gL_sV, gR_sV]
theorem pe_2_1 (κ : KP) (γ : St) (n : Nat) (v : Int32) : cel κ (sV γ 2 n 1 v) 2 n = .inr (2, ([.int (gV γ 2 n 0), .int (gV γ 2 n 1), .int (gV γ 2 n 2), .int (gV γ 2 n 3)] : List Value).set 1 (.int v)) := by simp [cel, cel0, gV_sV, gL_sV, gR_sV]
theorem pe_2_2 (κ : KP) (γ : St) (n : Nat) (v : Int32) : cel κ (sV γ 2 n 2 v) 2 n = .inr (2, ([.int (gV γ 2 n 0), .int (gV γ 2 n 1), .int (gV γ 2 n 2), .int (gV γ 2 n 3)] : List Value).set 2 (.int v)) := by simp [cel, cel0, gV_sV, gL_sV, gR_sV]
theorem pe_2_3 (κ : KP) (γ : St) (n : Nat) (v : Int32) : cel κ (sV γ 2 n 3 v) 2 n = .inr (2, ([.int (gV γ 2 n 0), .int (gV γ 2 n 1), .int (gV γ 2 n 2), .int (gV γ 2 n 3)] : List Value).set 3 (.int v)) := by simp [cel, cel0, gV_sV, gL_sV, gR_sV]
theorem pe_4_6 (κ : KP) (γ : St) (n : Nat) (v : Int32) : cel κ (sV γ 4 n 6 v) 4 n = .inr (4, ([.ref (kA κ 11 n), .ref (kA κ 12 n), .ref (kA κ 13 n), .ref (kA κ 14 n), .ref (kA κ 15 n), .ref (kA κ 6 (n)), .int (gV γ 4 n 6)] : List Value).set 6 (.int v)) := by simp [cel, cel0, gV_sV, gL_sV, gR_sV]
theorem pe_5_4 (κ : KP) (γ : St) (n : Nat) (v : Int32) : cel κ (sV γ 5 n 4 v) 5 n = .inr (5, ([.int (gV γ 5 n 0), .int (gV γ 5 n 1), .ref (kA κ 18 n), .ref (kA κ 19 n), .int (gV γ 5 n 4)] : List Value).set 4 (.int v)) := by simp [cel, cel0, gV_sV, gL_sV, gR_sV]
theorem pe_6_0 (κ : KP) (γ : St) (n : Nat) (v : Int32) : cel κ (sV γ 6 n 0 v) 6 n = .inr (6, ([.int (gV γ 6 n 0), .int (gV γ 6 n 1), .int (gV γ 6 n 2), .int (gV γ 6 n 3), .int (gV γ 6 n 4)] : List Value).set 0 (.int v)) := by simp [cel, cel0, gV_sV, gL_sV, gR_sV]
theorem pe_6_1 (κ : KP) (γ : St) (n : Nat) (v : Int32) : cel κ (sV γ 6 n 1 v) 6 n = .inr (6, ([.int (gV γ 6 n 0), .int (gV γ 6 n 1), .int (gV γ 6 n 2), .int (gV γ 6 n 3), .int (gV γ 6 n 4)] : List Value).set 1 (.int v)) := by simp [cel, cel0, gV_sV, gL_sV, gR_sV]
theorem pe_6_2 (κ : KP) (γ : St) (n : Nat) (v : Int32) : cel κ (sV γ 6 n 2 v) 6 n = .inr (6, ([.int (gV γ 6 n 0), .int (gV γ 6 n 1), .int (gV γ 6 n 2), .int (gV γ 6 n 3), .int (gV γ 6 n 4)] : List Value).set 2 (.int v)) := by simp [cel, cel0, gV_sV, gL_sV, gR_sV]
theorem pe_6_3 (κ : KP) (γ : St) (n : Nat) (v : Int32) : cel κ (sV γ 6 n 3 v) 6 n = .inr (6, ([.int (gV γ 6 n 0), .int (gV γ 6 n 1), .int (gV γ 6 n 2), .int (gV γ 6 n 3), .int (gV γ 6 n 4)] : List Value).set 3 (.int v)) := by simp [cel, cel0, gV_sV, gL_sV, gR_sV]
theorem pe_6_4 (κ : KP) (γ : St) (n : Nat) (v : Int32) : cel κ (sV γ 6 n 4 v) 6 n = .inr (6, ([.int (gV γ 6 n 0), .int (gV γ 6 n 1), .int (gV γ 6 n 2), .int (gV γ 6 n 3), .int (gV γ 6 n 4)] : List Value).set 4 (.int v)) := by simp [cel, cel0, gV_sV, gL_sV, gR_sV]
theorem pe_7_5 (κ : KP) (γ : St) (n : Nat) (v : Int32) : cel κ (sV γ 7 n 5 v) 7 n = .inr (7, ([.ref (kA κ 9 0), .ref (kA κ 10 0), .ref (kA κ 4 (0)), .ref (kA κ 1 (0)), .ref (kA κ 3 (0)), .int (gV γ 7 n 5), .int (gV γ 7 n 6), .int (gV γ 7 n 7), va_rf ((gR γ 7 8).map (kA κ 0)), .int (gV γ 7 n 9)] : List Value).set 5 (.int v)) := by simp [cel, cel0, gV_sV, gL_sV, gR_sV]
theorem pe_7_6 (κ : KP) (γ : St) (n : Nat) (v : Int32) : cel κ (sV γ 7 n 6 v) 7 n = .inr (7, ([.ref (kA κ 9 0), .ref (kA κ 10 0), .ref (kA κ 4 (0)), .ref (kA κ 1 (0)), .ref (kA κ 3 (0)), .int (gV γ 7 n 5), .int (gV γ 7 n 6), .int (gV γ 7 n 7), va_rf ((gR γ 7 8).map (kA κ 0)), .int (gV γ 7 n 9)] : List Value).set 6 (.int v)) := by simp [cel, cel0, gV_sV, gL_sV, gR_sV]
theorem pe_7_7 (κ : KP) (γ : St) (n : Nat) (v : Int32) : cel κ (sV γ 7 n 7 v) 7 n = .inr (7, ([.ref (kA κ 9 0), .ref (kA κ 10 0), .ref (kA κ 4 (0)), .ref (kA κ 1 (0)), .ref (kA κ 3 (0)), .int (gV γ 7 n 5), .int (gV γ 7 n 6), .int (gV γ 7 n 7), va_rf ((gR γ 7 8).map (kA κ 0)), .int (gV γ 7 n 9)] : List Value).set 7 (.int v)) := by simp [cel, cel0, gV_sV, gL_sV, gR_sV]
theorem pe_7_9 (κ : KP) (γ : St) (n : Nat) (v : Int32) : cel κ (sV γ 7 n 9 v) 7 n = .inr (7, ([.ref (kA κ 9 0), .ref (kA κ 10 0), .ref (kA κ 4 (0)), .ref (kA κ 1 (0)), .ref (kA κ 3 (0)), .int (gV γ 7 n 5), .int (gV γ 7 n 6), .int (gV γ 7 n 7), va_rf ((gR γ 7 8).map (kA κ 0)), .int (gV γ 7 n 9)] : List Value).set 9 (.int v)) := by simp [cel, cel0, gV_sV, gL_sV, gR_sV]
theorem pl_3_0 (κ : KP) (γ : St) (v : Int64) : cel κ (sL γ 3 0 v) 3 0 = .inr (3, ([.long (gL γ 3 0)] : List Value).set 0 (.long v)) := by simp [cel, cel0, gV_sL, gL_sL, gR_sL]
theorem pq_7_8 (κ : KP) (γ : St) (v : Option Nat) : cel κ (sR γ 7 8 v) 7 0 = .inr (7, ([.ref (kA κ 9 0), .ref (kA κ 10 0), .ref (kA κ 4 (0)), .ref (kA κ 1 (0)), .ref (kA κ 3 (0)), .int (gV γ 7 0 5), .int (gV γ 7 0 6), .int (gV γ 7 0 7), va_rf ((gR γ 7 8).map (kA κ 0)), .int (gV γ 7 0 9)] : List Value).set 8 (va_rf (v.map (kA κ 0)))) := by simp [cel, cel0, gV_sR, gL_sR, gR_sR]
theorem hd_J6_bitCount_0f7a4 : yJ6_bitCount_0f7a4.cls ≠ "java/lang/invoke/MethodHandle" ∧ yJ6_bitCount_0f7a4.cls ≠ "java/lang/invoke/VarHandle" ∧ (parseMethodDescriptor yJ6_bitCount_0f7a4.desc).map (fun d => d.parameters.length) = some 1 := ⟨by decide +kernel, by decide +kernel, by decide +kernel⟩
theorem hd_X0_addTouches : yX0_addTouches.cls = RX0 ∧ yX0_addTouches.cls ≠ "java/lang/invoke/MethodHandle" ∧ yX0_addTouches.cls ≠ "java/lang/invoke/VarHandle" ∧ (parseMethodDescriptor yX0_addTouches.desc).map (fun d => d.parameters.length) = some 1 := ⟨rfl, by decide +kernel, by decide +kernel, by decide +kernel⟩
theorem hd_X0_becomePassive : yX0_becomePassive.cls = RX0 ∧ yX0_becomePassive.cls ≠ "java/lang/invoke/MethodHandle" ∧ yX0_becomePassive.cls ≠ "java/lang/invoke/VarHandle" ∧ (parseMethodDescriptor yX0_becomePassive.desc).map (fun d => d.parameters.length) = some 0 := ⟨rfl, by decide +kernel, by decide +kernel, by decide +kernel⟩
theorem hd_X0_corner : yX0_corner.cls = RX0 ∧ yX0_corner.cls ≠ "java/lang/invoke/MethodHandle" ∧ yX0_corner.cls ≠ "java/lang/invoke/VarHandle" ∧ (parseMethodDescriptor yX0_corner.desc).map (fun d => d.parameters.length) = some 1 := ⟨rfl, by decide +kernel, by decide +kernel, by decide +kernel⟩
theorem hd_X0_finish : yX0_finish.cls = RX0 ∧ yX0_finish.cls ≠ "java/lang/invoke/MethodHandle" ∧ yX0_finish.cls ≠ "java/lang/invoke/VarHandle" ∧ (parseMethodDescriptor yX0_finish.desc).map (fun d => d.parameters.length) = some 1 := ⟨rfl, by decide +kernel, by decide +kernel, by decide +kernel⟩
theorem hd_X0_giveCard : yX0_giveCard.cls = RX0 ∧ yX0_giveCard.cls ≠ "java/lang/invoke/MethodHandle" ∧ yX0_giveCard.cls ≠ "java/lang/invoke/VarHandle" ∧ (parseMethodDescriptor yX0_giveCard.desc).map (fun d => d.parameters.length) = some 2 := ⟨rfl, by decide +kernel, by decide +kernel, by decide +kernel⟩
theorem hd_X0_giveTouches : yX0_giveTouches.cls = RX0 ∧ yX0_giveTouches.cls ≠ "java/lang/invoke/MethodHandle" ∧ yX0_giveTouches.cls ≠ "java/lang/invoke/VarHandle" ∧ (parseMethodDescriptor yX0_giveTouches.desc).map (fun d => d.parameters.length) = some 1 := ⟨rfl, by decide +kernel, by decide +kernel, by decide +kernel⟩
theorem hd_X0_has : yX0_has.cls = RX0 ∧ yX0_has.cls ≠ "java/lang/invoke/MethodHandle" ∧ yX0_has.cls ≠ "java/lang/invoke/VarHandle" ∧ (parseMethodDescriptor yX0_has.desc).map (fun d => d.parameters.length) = some 1 := ⟨rfl, by decide +kernel, by decide +kernel, by decide +kernel⟩
theorem hd_X0_isDoubleTooFar : yX0_isDoubleTooFar.cls = RX0 ∧ yX0_isDoubleTooFar.cls ≠ "java/lang/invoke/MethodHandle" ∧ yX0_isDoubleTooFar.cls ≠ "java/lang/invoke/VarHandle" ∧ (parseMethodDescriptor yX0_isDoubleTooFar.desc).map (fun d => d.parameters.length) = some 0 := ⟨rfl, by decide +kernel, by decide +kernel, by decide +kernel⟩
theorem hd_X0_isLike : yX0_isLike.cls = RX0 ∧ yX0_isLike.cls ≠ "java/lang/invoke/MethodHandle" ∧ yX0_isLike.cls ≠ "java/lang/invoke/VarHandle" ∧ (parseMethodDescriptor yX0_isLike.desc).map (fun d => d.parameters.length) = some 0 := ⟨rfl, by decide +kernel, by decide +kernel, by decide +kernel⟩
theorem hd_X0_isOver : yX0_isOver.cls = RX0 ∧ yX0_isOver.cls ≠ "java/lang/invoke/MethodHandle" ∧ yX0_isOver.cls ≠ "java/lang/invoke/VarHandle" ∧ (parseMethodDescriptor yX0_isOver.desc).map (fun d => d.parameters.length) = some 0 := ⟨rfl, by decide +kernel, by decide +kernel, by decide +kernel⟩
theorem hd_X0_leader : yX0_leader.cls = RX0 ∧ yX0_leader.cls ≠ "java/lang/invoke/MethodHandle" ∧ yX0_leader.cls ≠ "java/lang/invoke/VarHandle" ∧ (parseMethodDescriptor yX0_leader.desc).map (fun d => d.parameters.length) = some 0 := ⟨rfl, by decide +kernel, by decide +kernel, by decide +kernel⟩
theorem hd_X0_lookAtTime : yX0_lookAtTime.cls = RX0 ∧ yX0_lookAtTime.cls ≠ "java/lang/invoke/MethodHandle" ∧ yX0_lookAtTime.cls ≠ "java/lang/invoke/VarHandle" ∧ (parseMethodDescriptor yX0_lookAtTime.desc).map (fun d => d.parameters.length) = some 1 := ⟨rfl, by decide +kernel, by decide +kernel, by decide +kernel⟩
theorem hd_X0_passSecond : yX0_passSecond.cls = RX0 ∧ yX0_passSecond.cls ≠ "java/lang/invoke/MethodHandle" ∧ yX0_passSecond.cls ≠ "java/lang/invoke/VarHandle" ∧ (parseMethodDescriptor yX0_passSecond.desc).map (fun d => d.parameters.length) = some 1 := ⟨rfl, by decide +kernel, by decide +kernel, by decide +kernel⟩
theorem hd_X0_secondsLeft : yX0_secondsLeft.cls = RX0 ∧ yX0_secondsLeft.cls ≠ "java/lang/invoke/MethodHandle" ∧ yX0_secondsLeft.cls ≠ "java/lang/invoke/VarHandle" ∧ (parseMethodDescriptor yX0_secondsLeft.desc).map (fun d => d.parameters.length) = some 0 := ⟨rfl, by decide +kernel, by decide +kernel, by decide +kernel⟩
theorem hd_X0_share : yX0_share.cls = RX0 ∧ yX0_share.cls ≠ "java/lang/invoke/MethodHandle" ∧ yX0_share.cls ≠ "java/lang/invoke/VarHandle" ∧ (parseMethodDescriptor yX0_share.desc).map (fun d => d.parameters.length) = some 2 := ⟨rfl, by decide +kernel, by decide +kernel, by decide +kernel⟩
theorem hd_X0_sideOf : yX0_sideOf.cls = RX0 ∧ yX0_sideOf.cls ≠ "java/lang/invoke/MethodHandle" ∧ yX0_sideOf.cls ≠ "java/lang/invoke/VarHandle" ∧ (parseMethodDescriptor yX0_sideOf.desc).map (fun d => d.parameters.length) = some 1 := ⟨rfl, by decide +kernel, by decide +kernel, by decide +kernel⟩
theorem hd_X0_timeLimit : yX0_timeLimit.cls = RX0 ∧ yX0_timeLimit.cls ≠ "java/lang/invoke/MethodHandle" ∧ yX0_timeLimit.cls ≠ "java/lang/invoke/VarHandle" ∧ (parseMethodDescriptor yX0_timeLimit.desc).map (fun d => d.parameters.length) = some 0 := ⟨rfl, by decide +kernel, by decide +kernel, by decide +kernel⟩
theorem hd_X0_told : yX0_told.cls = RX0 ∧ yX0_told.cls ≠ "java/lang/invoke/MethodHandle" ∧ yX0_told.cls ≠ "java/lang/invoke/VarHandle" ∧ (parseMethodDescriptor yX0_told.desc).map (fun d => d.parameters.length) = some 1 := ⟨rfl, by decide +kernel, by decide +kernel, by decide +kernel⟩
theorem hd_X1_at : yX1_at.cls = RX1 ∧ yX1_at.cls ≠ "java/lang/invoke/MethodHandle" ∧ yX1_at.cls ≠ "java/lang/invoke/VarHandle" ∧ (parseMethodDescriptor yX1_at.desc).map (fun d => d.parameters.length) = some 1 := ⟨rfl, by decide +kernel, by decide +kernel, by decide +kernel⟩
theorem hd_X1_fencerIn : yX1_fencerIn.cls = RX1 ∧ yX1_fencerIn.cls ≠ "java/lang/invoke/MethodHandle" ∧ yX1_fencerIn.cls ≠ "java/lang/invoke/VarHandle" ∧ (parseMethodDescriptor yX1_fencerIn.desc).map (fun d => d.parameters.length) = some 3 := ⟨rfl, by decide +kernel, by decide +kernel, by decide +kernel⟩
theorem hd_X1_hasMatch : yX1_hasMatch.cls = RX1 ∧ yX1_hasMatch.cls ≠ "java/lang/invoke/MethodHandle" ∧ yX1_hasMatch.cls ≠ "java/lang/invoke/VarHandle" ∧ (parseMethodDescriptor yX1_hasMatch.desc).map (fun d => d.parameters.length) = some 2 := ⟨rfl, by decide +kernel, by decide +kernel, by decide +kernel⟩
theorem hd_X1_isOpen : yX1_isOpen.cls = RX1 ∧ yX1_isOpen.cls ≠ "java/lang/invoke/MethodHandle" ∧ yX1_isOpen.cls ≠ "java/lang/invoke/VarHandle" ∧ (parseMethodDescriptor yX1_isOpen.desc).map (fun d => d.parameters.length) = some 2 := ⟨rfl, by decide +kernel, by decide +kernel, by decide +kernel⟩
theorem hd_X1_leastPlaces : yX1_leastPlaces.cls ≠ "java/lang/invoke/MethodHandle" ∧ yX1_leastPlaces.cls ≠ "java/lang/invoke/VarHandle" ∧ (parseMethodDescriptor yX1_leastPlaces.desc).map (fun d => d.parameters.length) = some 1 := ⟨by decide +kernel, by decide +kernel, by decide +kernel⟩
theorem hd_X1_makeFrom : yX1_makeFrom.cls = RX1 ∧ yX1_makeFrom.cls ≠ "java/lang/invoke/MethodHandle" ∧ yX1_makeFrom.cls ≠ "java/lang/invoke/VarHandle" ∧ (parseMethodDescriptor yX1_makeFrom.desc).map (fun d => d.parameters.length) = some 1 := ⟨rfl, by decide +kernel, by decide +kernel, by decide +kernel⟩
theorem hd_X1_matchesIn : yX1_matchesIn.cls = RX1 ∧ yX1_matchesIn.cls ≠ "java/lang/invoke/MethodHandle" ∧ yX1_matchesIn.cls ≠ "java/lang/invoke/VarHandle" ∧ (parseMethodDescriptor yX1_matchesIn.desc).map (fun d => d.parameters.length) = some 1 := ⟨rfl, by decide +kernel, by decide +kernel, by decide +kernel⟩
theorem hd_X1_nodeOf : yX1_nodeOf.cls = RX1 ∧ yX1_nodeOf.cls ≠ "java/lang/invoke/MethodHandle" ∧ yX1_nodeOf.cls ≠ "java/lang/invoke/VarHandle" ∧ (parseMethodDescriptor yX1_nodeOf.desc).map (fun d => d.parameters.length) = some 2 := ⟨rfl, by decide +kernel, by decide +kernel, by decide +kernel⟩
theorem hd_X1_orderPlaces : yX1_orderPlaces.cls = RX1 ∧ yX1_orderPlaces.cls ≠ "java/lang/invoke/MethodHandle" ∧ yX1_orderPlaces.cls ≠ "java/lang/invoke/VarHandle" ∧ (parseMethodDescriptor yX1_orderPlaces.desc).map (fun d => d.parameters.length) = some 1 := ⟨rfl, by decide +kernel, by decide +kernel, by decide +kernel⟩
theorem hd_X1_passBye : yX1_passBye.cls = RX1 ∧ yX1_passBye.cls ≠ "java/lang/invoke/MethodHandle" ∧ yX1_passBye.cls ≠ "java/lang/invoke/VarHandle" ∧ (parseMethodDescriptor yX1_passBye.desc).map (fun d => d.parameters.length) = some 1 := ⟨rfl, by decide +kernel, by decide +kernel, by decide +kernel⟩
theorem hd_X1_put : yX1_put.cls = RX1 ∧ yX1_put.cls ≠ "java/lang/invoke/MethodHandle" ∧ yX1_put.cls ≠ "java/lang/invoke/VarHandle" ∧ (parseMethodDescriptor yX1_put.desc).map (fun d => d.parameters.length) = some 2 := ⟨rfl, by decide +kernel, by decide +kernel, by decide +kernel⟩
theorem hd_X1_settle : yX1_settle.cls = RX1 ∧ yX1_settle.cls ≠ "java/lang/invoke/MethodHandle" ∧ yX1_settle.cls ≠ "java/lang/invoke/VarHandle" ∧ (parseMethodDescriptor yX1_settle.desc).map (fun d => d.parameters.length) = some 3 := ⟨rfl, by decide +kernel, by decide +kernel, by decide +kernel⟩
theorem hd_X1_winnerOf : yX1_winnerOf.cls = RX1 ∧ yX1_winnerOf.cls ≠ "java/lang/invoke/MethodHandle" ∧ yX1_winnerOf.cls ≠ "java/lang/invoke/VarHandle" ∧ (parseMethodDescriptor yX1_winnerOf.desc).map (fun d => d.parameters.length) = some 2 := ⟨rfl, by decide +kernel, by decide +kernel, by decide +kernel⟩
theorem hd_X2_colourFor : yX2_colourFor.cls = RX2 ∧ yX2_colourFor.cls ≠ "java/lang/invoke/MethodHandle" ∧ yX2_colourFor.cls ≠ "java/lang/invoke/VarHandle" ∧ (parseMethodDescriptor yX2_colourFor.desc).map (fun d => d.parameters.length) = some 1 := ⟨rfl, by decide +kernel, by decide +kernel, by decide +kernel⟩
theorem hd_X2_note : yX2_note.cls = RX2 ∧ yX2_note.cls ≠ "java/lang/invoke/MethodHandle" ∧ yX2_note.cls ≠ "java/lang/invoke/VarHandle" ∧ (parseMethodDescriptor yX2_note.desc).map (fun d => d.parameters.length) = some 1 := ⟨rfl, by decide +kernel, by decide +kernel, by decide +kernel⟩
theorem hd_X3_draw : yX3_draw.cls = RX3 ∧ yX3_draw.cls ≠ "java/lang/invoke/MethodHandle" ∧ yX3_draw.cls ≠ "java/lang/invoke/VarHandle" ∧ (parseMethodDescriptor yX3_draw.desc).map (fun d => d.parameters.length) = some 0 := ⟨rfl, by decide +kernel, by decide +kernel, by decide +kernel⟩
theorem hd_X4_addAction : yX4_addAction.cls = RX4 ∧ yX4_addAction.cls ≠ "java/lang/invoke/MethodHandle" ∧ yX4_addAction.cls ≠ "java/lang/invoke/VarHandle" ∧ (parseMethodDescriptor yX4_addAction.desc).map (fun d => d.parameters.length) = some 3 := ⟨rfl, by decide +kernel, by decide +kernel, by decide +kernel⟩
theorem hd_X4_addContact : yX4_addContact.cls = RX4 ∧ yX4_addContact.cls ≠ "java/lang/invoke/MethodHandle" ∧ yX4_addContact.cls ≠ "java/lang/invoke/VarHandle" ∧ (parseMethodDescriptor yX4_addContact.desc).map (fun d => d.parameters.length) = some 4 := ⟨rfl, by decide +kernel, by decide +kernel, by decide +kernel⟩
theorem hd_X4_append : yX4_append.cls = RX4 ∧ yX4_append.cls ≠ "java/lang/invoke/MethodHandle" ∧ yX4_append.cls ≠ "java/lang/invoke/VarHandle" ∧ (parseMethodDescriptor yX4_append.desc).map (fun d => d.parameters.length) = some 5 := ⟨rfl, by decide +kernel, by decide +kernel, by decide +kernel⟩
theorem hd_X4_couldRegister : yX4_couldRegister.cls = RX4 ∧ yX4_couldRegister.cls ≠ "java/lang/invoke/MethodHandle" ∧ yX4_couldRegister.cls ≠ "java/lang/invoke/VarHandle" ∧ (parseMethodDescriptor yX4_couldRegister.desc).map (fun d => d.parameters.length) = some 2 := ⟨rfl, by decide +kernel, by decide +kernel, by decide +kernel⟩
theorem hd_X4_empty : yX4_empty.cls = RX4 ∧ yX4_empty.cls ≠ "java/lang/invoke/MethodHandle" ∧ yX4_empty.cls ≠ "java/lang/invoke/VarHandle" ∧ (parseMethodDescriptor yX4_empty.desc).map (fun d => d.parameters.length) = some 0 := ⟨rfl, by decide +kernel, by decide +kernel, by decide +kernel⟩
theorem hd_X4_holderAhead : yX4_holderAhead.cls = RX4 ∧ yX4_holderAhead.cls ≠ "java/lang/invoke/MethodHandle" ∧ yX4_holderAhead.cls ≠ "java/lang/invoke/VarHandle" ∧ (parseMethodDescriptor yX4_holderAhead.desc).map (fun d => d.parameters.length) = some 1 := ⟨rfl, by decide +kernel, by decide +kernel, by decide +kernel⟩
theorem hd_X4_isEntry : yX4_isEntry.cls = RX4 ∧ yX4_isEntry.cls ≠ "java/lang/invoke/MethodHandle" ∧ yX4_isEntry.cls ≠ "java/lang/invoke/VarHandle" ∧ (parseMethodDescriptor yX4_isEntry.desc).map (fun d => d.parameters.length) = some 1 := ⟨rfl, by decide +kernel, by decide +kernel, by decide +kernel⟩
theorem hd_X4_isFull : yX4_isFull.cls = RX4 ∧ yX4_isFull.cls ≠ "java/lang/invoke/MethodHandle" ∧ yX4_isFull.cls ≠ "java/lang/invoke/VarHandle" ∧ (parseMethodDescriptor yX4_isFull.desc).map (fun d => d.parameters.length) = some 0 := ⟨rfl, by decide +kernel, by decide +kernel, by decide +kernel⟩
theorem hd_X4_lastTime : yX4_lastTime.cls = RX4 ∧ yX4_lastTime.cls ≠ "java/lang/invoke/MethodHandle" ∧ yX4_lastTime.cls ≠ "java/lang/invoke/VarHandle" ∧ (parseMethodDescriptor yX4_lastTime.desc).map (fun d => d.parameters.length) = some 0 := ⟨rfl, by decide +kernel, by decide +kernel, by decide +kernel⟩
theorem hd_X4_leastSpan : yX4_leastSpan.cls ≠ "java/lang/invoke/MethodHandle" ∧ yX4_leastSpan.cls ≠ "java/lang/invoke/VarHandle" ∧ (parseMethodDescriptor yX4_leastSpan.desc).map (fun d => d.parameters.length) = some 1 := ⟨by decide +kernel, by decide +kernel, by decide +kernel⟩
theorem hd_X4_lockout : yX4_lockout.cls ≠ "java/lang/invoke/MethodHandle" ∧ yX4_lockout.cls ≠ "java/lang/invoke/VarHandle" ∧ (parseMethodDescriptor yX4_lockout.desc).map (fun d => d.parameters.length) = some 1 := ⟨by decide +kernel, by decide +kernel, by decide +kernel⟩
theorem hd_X4_registered : yX4_registered.cls = RX4 ∧ yX4_registered.cls ≠ "java/lang/invoke/MethodHandle" ∧ yX4_registered.cls ≠ "java/lang/invoke/VarHandle" ∧ (parseMethodDescriptor yX4_registered.desc).map (fun d => d.parameters.length) = some 2 := ⟨rfl, by decide +kernel, by decide +kernel, by decide +kernel⟩
theorem hd_X4_targetAt : yX4_targetAt.cls = RX4 ∧ yX4_targetAt.cls ≠ "java/lang/invoke/MethodHandle" ∧ yX4_targetAt.cls ≠ "java/lang/invoke/VarHandle" ∧ (parseMethodDescriptor yX4_targetAt.desc).map (fun d => d.parameters.length) = some 1 := ⟨rfl, by decide +kernel, by decide +kernel, by decide +kernel⟩
theorem hd_X4_timeAt : yX4_timeAt.cls = RX4 ∧ yX4_timeAt.cls ≠ "java/lang/invoke/MethodHandle" ∧ yX4_timeAt.cls ≠ "java/lang/invoke/VarHandle" ∧ (parseMethodDescriptor yX4_timeAt.desc).map (fun d => d.parameters.length) = some 1 := ⟨rfl, by decide +kernel, by decide +kernel, by decide +kernel⟩
theorem hd_X5_addTo : yX5_addTo.cls = RX5 ∧ yX5_addTo.cls ≠ "java/lang/invoke/MethodHandle" ∧ yX5_addTo.cls ≠ "java/lang/invoke/VarHandle" ∧ (parseMethodDescriptor yX5_addTo.desc).map (fun d => d.parameters.length) = some 3 := ⟨rfl, by decide +kernel, by decide +kernel, by decide +kernel⟩
theorem hd_X5_balance : yX5_balance.cls = RX5 ∧ yX5_balance.cls ≠ "java/lang/invoke/MethodHandle" ∧ yX5_balance.cls ≠ "java/lang/invoke/VarHandle" ∧ (parseMethodDescriptor yX5_balance.desc).map (fun d => d.parameters.length) = some 1 := ⟨rfl, by decide +kernel, by decide +kernel, by decide +kernel⟩
theorem hd_X5_counts : yX5_counts.cls = RX5 ∧ yX5_counts.cls ≠ "java/lang/invoke/MethodHandle" ∧ yX5_counts.cls ≠ "java/lang/invoke/VarHandle" ∧ (parseMethodDescriptor yX5_counts.desc).map (fun d => d.parameters.length) = some 1 := ⟨rfl, by decide +kernel, by decide +kernel, by decide +kernel⟩
theorem hd_X5_enter : yX5_enter.cls = RX5 ∧ yX5_enter.cls ≠ "java/lang/invoke/MethodHandle" ∧ yX5_enter.cls ≠ "java/lang/invoke/VarHandle" ∧ (parseMethodDescriptor yX5_enter.desc).map (fun d => d.parameters.length) = some 2 := ⟨rfl, by decide +kernel, by decide +kernel, by decide +kernel⟩
theorem hd_X5_has : yX5_has.cls = RX5 ∧ yX5_has.cls ≠ "java/lang/invoke/MethodHandle" ∧ yX5_has.cls ≠ "java/lang/invoke/VarHandle" ∧ (parseMethodDescriptor yX5_has.desc).map (fun d => d.parameters.length) = some 1 := ⟨rfl, by decide +kernel, by decide +kernel, by decide +kernel⟩
theorem hd_X5_insert : yX5_insert.cls = RX5 ∧ yX5_insert.cls ≠ "java/lang/invoke/MethodHandle" ∧ yX5_insert.cls ≠ "java/lang/invoke/VarHandle" ∧ (parseMethodDescriptor yX5_insert.desc).map (fun d => d.parameters.length) = some 2 := ⟨rfl, by decide +kernel, by decide +kernel, by decide +kernel⟩
theorem hd_X5_isAhead : yX5_isAhead.cls = RX5 ∧ yX5_isAhead.cls ≠ "java/lang/invoke/MethodHandle" ∧ yX5_isAhead.cls ≠ "java/lang/invoke/VarHandle" ∧ (parseMethodDescriptor yX5_isAhead.desc).map (fun d => d.parameters.length) = some 2 := ⟨rfl, by decide +kernel, by decide +kernel, by decide +kernel⟩
theorem hd_X5_isIn : yX5_isIn.cls ≠ "java/lang/invoke/MethodHandle" ∧ yX5_isIn.cls ≠ "java/lang/invoke/VarHandle" ∧ (parseMethodDescriptor yX5_isIn.desc).map (fun d => d.parameters.length) = some 2 := ⟨by decide +kernel, by decide +kernel, by decide +kernel⟩
theorem hd_X5_isRanked : yX5_isRanked.cls = RX5 ∧ yX5_isRanked.cls ≠ "java/lang/invoke/MethodHandle" ∧ yX5_isRanked.cls ≠ "java/lang/invoke/VarHandle" ∧ (parseMethodDescriptor yX5_isRanked.desc).map (fun d => d.parameters.length) = some 1 := ⟨rfl, by decide +kernel, by decide +kernel, by decide +kernel⟩
theorem hd_X5_isWithdrawn : yX5_isWithdrawn.cls = RX5 ∧ yX5_isWithdrawn.cls ≠ "java/lang/invoke/MethodHandle" ∧ yX5_isWithdrawn.cls ≠ "java/lang/invoke/VarHandle" ∧ (parseMethodDescriptor yX5_isWithdrawn.desc).map (fun d => d.parameters.length) = some 1 := ⟨rfl, by decide +kernel, by decide +kernel, by decide +kernel⟩
theorem hd_X5_kept : yX5_kept.cls = RX5 ∧ yX5_kept.cls ≠ "java/lang/invoke/MethodHandle" ∧ yX5_kept.cls ≠ "java/lang/invoke/VarHandle" ∧ (parseMethodDescriptor yX5_kept.desc).map (fun d => d.parameters.length) = some 2 := ⟨rfl, by decide +kernel, by decide +kernel, by decide +kernel⟩
theorem hd_X5_markWithdrawn : yX5_markWithdrawn.cls = RX5 ∧ yX5_markWithdrawn.cls ≠ "java/lang/invoke/MethodHandle" ∧ yX5_markWithdrawn.cls ≠ "java/lang/invoke/VarHandle" ∧ (parseMethodDescriptor yX5_markWithdrawn.desc).map (fun d => d.parameters.length) = some 1 := ⟨rfl, by decide +kernel, by decide +kernel, by decide +kernel⟩
theorem hd_X5_orderRanked : yX5_orderRanked.cls = RX5 ∧ yX5_orderRanked.cls ≠ "java/lang/invoke/MethodHandle" ∧ yX5_orderRanked.cls ≠ "java/lang/invoke/VarHandle" ∧ (parseMethodDescriptor yX5_orderRanked.desc).map (fun d => d.parameters.length) = some 0 := ⟨rfl, by decide +kernel, by decide +kernel, by decide +kernel⟩
theorem hd_X5_rankedAt : yX5_rankedAt.cls = RX5 ∧ yX5_rankedAt.cls ≠ "java/lang/invoke/MethodHandle" ∧ yX5_rankedAt.cls ≠ "java/lang/invoke/VarHandle" ∧ (parseMethodDescriptor yX5_rankedAt.desc).map (fun d => d.parameters.length) = some 1 := ⟨rfl, by decide +kernel, by decide +kernel, by decide +kernel⟩
theorem hd_X5_rankedCount : yX5_rankedCount.cls = RX5 ∧ yX5_rankedCount.cls ≠ "java/lang/invoke/MethodHandle" ∧ yX5_rankedCount.cls ≠ "java/lang/invoke/VarHandle" ∧ (parseMethodDescriptor yX5_rankedCount.desc).map (fun d => d.parameters.length) = some 0 := ⟨rfl, by decide +kernel, by decide +kernel, by decide +kernel⟩
theorem hd_X6_attack : yX6_attack.cls = RX6 ∧ yX6_attack.cls ≠ "java/lang/invoke/MethodHandle" ∧ yX6_attack.cls ≠ "java/lang/invoke/VarHandle" ∧ (parseMethodDescriptor yX6_attack.desc).map (fun d => d.parameters.length) = some 2 := ⟨rfl, by decide +kernel, by decide +kernel, by decide +kernel⟩
theorem hd_X6_forget : yX6_forget.cls = RX6 ∧ yX6_forget.cls ≠ "java/lang/invoke/MethodHandle" ∧ yX6_forget.cls ≠ "java/lang/invoke/VarHandle" ∧ (parseMethodDescriptor yX6_forget.desc).map (fun d => d.parameters.length) = some 0 := ⟨rfl, by decide +kernel, by decide +kernel, by decide +kernel⟩
theorem hd_X6_give : yX6_give.cls = RX6 ∧ yX6_give.cls ≠ "java/lang/invoke/MethodHandle" ∧ yX6_give.cls ≠ "java/lang/invoke/VarHandle" ∧ (parseMethodDescriptor yX6_give.desc).map (fun d => d.parameters.length) = some 3 := ⟨rfl, by decide +kernel, by decide +kernel, by decide +kernel⟩
theorem hd_X6_parry : yX6_parry.cls = RX6 ∧ yX6_parry.cls ≠ "java/lang/invoke/MethodHandle" ∧ yX6_parry.cls ≠ "java/lang/invoke/VarHandle" ∧ (parseMethodDescriptor yX6_parry.desc).map (fun d => d.parameters.length) = some 2 := ⟨rfl, by decide +kernel, by decide +kernel, by decide +kernel⟩
theorem hd_X6_take : yX6_take.cls = RX6 ∧ yX6_take.cls ≠ "java/lang/invoke/MethodHandle" ∧ yX6_take.cls ≠ "java/lang/invoke/VarHandle" ∧ (parseMethodDescriptor yX6_take.desc).map (fun d => d.parameters.length) = some 3 := ⟨rfl, by decide +kernel, by decide +kernel, by decide +kernel⟩
theorem hd_X7_because : yX7_because.cls = RX7 ∧ yX7_because.cls ≠ "java/lang/invoke/MethodHandle" ∧ yX7_because.cls ≠ "java/lang/invoke/VarHandle" ∧ (parseMethodDescriptor yX7_because.desc).map (fun d => d.parameters.length) = some 2 := ⟨rfl, by decide +kernel, by decide +kernel, by decide +kernel⟩
theorem hd_X7_bitOf : yX7_bitOf.cls ≠ "java/lang/invoke/MethodHandle" ∧ yX7_bitOf.cls ≠ "java/lang/invoke/VarHandle" ∧ (parseMethodDescriptor yX7_bitOf.desc).map (fun d => d.parameters.length) = some 1 := ⟨by decide +kernel, by decide +kernel, by decide +kernel⟩
theorem hd_X7_boutAt : yX7_boutAt.cls = RX7 ∧ yX7_boutAt.cls ≠ "java/lang/invoke/MethodHandle" ∧ yX7_boutAt.cls ≠ "java/lang/invoke/VarHandle" ∧ (parseMethodDescriptor yX7_boutAt.desc).map (fun d => d.parameters.length) = some 1 := ⟨rfl, by decide +kernel, by decide +kernel, by decide +kernel⟩
theorem hd_X7_boutOnPiste : yX7_boutOnPiste.cls = RX7 ∧ yX7_boutOnPiste.cls ≠ "java/lang/invoke/MethodHandle" ∧ yX7_boutOnPiste.cls ≠ "java/lang/invoke/VarHandle" ∧ (parseMethodDescriptor yX7_boutOnPiste.desc).map (fun d => d.parameters.length) = some 0 := ⟨rfl, by decide +kernel, by decide +kernel, by decide +kernel⟩
theorem hd_X7_checkMatch : yX7_checkMatch.cls = RX7 ∧ yX7_checkMatch.cls ≠ "java/lang/invoke/MethodHandle" ∧ yX7_checkMatch.cls ≠ "java/lang/invoke/VarHandle" ∧ (parseMethodDescriptor yX7_checkMatch.desc).map (fun d => d.parameters.length) = some 2 := ⟨rfl, by decide +kernel, by decide +kernel, by decide +kernel⟩
theorem hd_X7_checkOfPool : yX7_checkOfPool.cls ≠ "java/lang/invoke/MethodHandle" ∧ yX7_checkOfPool.cls ≠ "java/lang/invoke/VarHandle" ∧ (parseMethodDescriptor yX7_checkOfPool.desc).map (fun d => d.parameters.length) = some 1 := ⟨by decide +kernel, by decide +kernel, by decide +kernel⟩
theorem hd_X7_checkRoomInPhrase : yX7_checkRoomInPhrase.cls = RX7 ∧ yX7_checkRoomInPhrase.cls ≠ "java/lang/invoke/MethodHandle" ∧ yX7_checkRoomInPhrase.cls ≠ "java/lang/invoke/VarHandle" ∧ (parseMethodDescriptor yX7_checkRoomInPhrase.desc).map (fun d => d.parameters.length) = some 1 := ⟨rfl, by decide +kernel, by decide +kernel, by decide +kernel⟩
theorem hd_X7_clearPisteIfOver : yX7_clearPisteIfOver.cls = RX7 ∧ yX7_clearPisteIfOver.cls ≠ "java/lang/invoke/MethodHandle" ∧ yX7_clearPisteIfOver.cls ≠ "java/lang/invoke/VarHandle" ∧ (parseMethodDescriptor yX7_clearPisteIfOver.desc).map (fun d => d.parameters.length) = some 1 := ⟨rfl, by decide +kernel, by decide +kernel, by decide +kernel⟩
theorem hd_X7_isBusyFor : yX7_isBusyFor.cls = RX7 ∧ yX7_isBusyFor.cls ≠ "java/lang/invoke/MethodHandle" ∧ yX7_isBusyFor.cls ≠ "java/lang/invoke/VarHandle" ∧ (parseMethodDescriptor yX7_isBusyFor.desc).map (fun d => d.parameters.length) = some 2 := ⟨rfl, by decide +kernel, by decide +kernel, by decide +kernel⟩
theorem hd_X7_isFencer : yX7_isFencer.cls = RX7 ∧ yX7_isFencer.cls ≠ "java/lang/invoke/MethodHandle" ∧ yX7_isFencer.cls ≠ "java/lang/invoke/VarHandle" ∧ (parseMethodDescriptor yX7_isFencer.desc).map (fun d => d.parameters.length) = some 1 := ⟨rfl, by decide +kernel, by decide +kernel, by decide +kernel⟩
theorem hd_X7_isSide : yX7_isSide.cls ≠ "java/lang/invoke/MethodHandle" ∧ yX7_isSide.cls ≠ "java/lang/invoke/VarHandle" ∧ (parseMethodDescriptor yX7_isSide.desc).map (fun d => d.parameters.length) = some 1 := ⟨by decide +kernel, by decide +kernel, by decide +kernel⟩
theorem hd_X7_isWithin : yX7_isWithin.cls ≠ "java/lang/invoke/MethodHandle" ∧ yX7_isWithin.cls ≠ "java/lang/invoke/VarHandle" ∧ (parseMethodDescriptor yX7_isWithin.desc).map (fun d => d.parameters.length) = some 3 := ⟨by decide +kernel, by decide +kernel, by decide +kernel⟩
theorem hd_X7_judgeByRight : yX7_judgeByRight.cls = RX7 ∧ yX7_judgeByRight.cls ≠ "java/lang/invoke/MethodHandle" ∧ yX7_judgeByRight.cls ≠ "java/lang/invoke/VarHandle" ∧ (parseMethodDescriptor yX7_judgeByRight.desc).map (fun d => d.parameters.length) = some 2 := ⟨rfl, by decide +kernel, by decide +kernel, by decide +kernel⟩
theorem hd_X7_judgeFor : yX7_judgeFor.cls = RX7 ∧ yX7_judgeFor.cls ≠ "java/lang/invoke/MethodHandle" ∧ yX7_judgeFor.cls ≠ "java/lang/invoke/VarHandle" ∧ (parseMethodDescriptor yX7_judgeFor.desc).map (fun d => d.parameters.length) = some 2 := ⟨rfl, by decide +kernel, by decide +kernel, by decide +kernel⟩
theorem hd_X7_poolOf : yX7_poolOf.cls = RX7 ∧ yX7_poolOf.cls ≠ "java/lang/invoke/MethodHandle" ∧ yX7_poolOf.cls ≠ "java/lang/invoke/VarHandle" ∧ (parseMethodDescriptor yX7_poolOf.desc).map (fun d => d.parameters.length) = some 1 := ⟨rfl, by decide +kernel, by decide +kernel, by decide +kernel⟩
theorem hd_X7_poolWith : yX7_poolWith.cls = RX7 ∧ yX7_poolWith.cls ≠ "java/lang/invoke/MethodHandle" ∧ yX7_poolWith.cls ≠ "java/lang/invoke/VarHandle" ∧ (parseMethodDescriptor yX7_poolWith.desc).map (fun d => d.parameters.length) = some 2 := ⟨rfl, by decide +kernel, by decide +kernel, by decide +kernel⟩
theorem hd_X7_putOnPiste : yX7_putOnPiste.cls = RX7 ∧ yX7_putOnPiste.cls ≠ "java/lang/invoke/MethodHandle" ∧ yX7_putOnPiste.cls ≠ "java/lang/invoke/VarHandle" ∧ (parseMethodDescriptor yX7_putOnPiste.desc).map (fun d => d.parameters.length) = some 1 := ⟨rfl, by decide +kernel, by decide +kernel, by decide +kernel⟩
