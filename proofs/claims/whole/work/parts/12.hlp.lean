theorem lv_1 {κ : KP} : lv κ 1 0 := lv_s (by decide) (by decide) (by decide) (by decide)
theorem lv_u1 {κ : KP} (n : Nat) (h : lv κ 1 n) : n = 0 := lv_u (by decide) (by decide) (by decide) n h
theorem lv_3 {κ : KP} : lv κ 3 0 := lv_s (by decide) (by decide) (by decide) (by decide)
theorem lv_u3 {κ : KP} (n : Nat) (h : lv κ 3 n) : n = 0 := lv_u (by decide) (by decide) (by decide) n h
theorem lv_4 {κ : KP} : lv κ 4 0 := lv_s (by decide) (by decide) (by decide) (by decide)
theorem lv_u4 {κ : KP} (n : Nat) (h : lv κ 4 n) : n = 0 := lv_u (by decide) (by decide) (by decide) n h
theorem lv_6 {κ : KP} : lv κ 6 0 := lv_s (by decide) (by decide) (by decide) (by decide)
theorem lv_u6 {κ : KP} (n : Nat) (h : lv κ 6 n) : n = 0 := lv_u (by decide) (by decide) (by decide) n h
theorem lv_7 {κ : KP} : lv κ 7 0 := lv_s (by decide) (by decide) (by decide) (by decide)
theorem lv_u7 {κ : KP} (n : Nat) (h : lv κ 7 n) : n = 0 := lv_u (by decide) (by decide) (by decide) n h
theorem lv_8 {κ : KP} : lv κ 8 0 := lv_s (by decide) (by decide) (by decide) (by decide)
theorem lv_u8 {κ : KP} (n : Nat) (h : lv κ 8 n) : n = 0 := lv_u (by decide) (by decide) (by decide) n h
theorem lv_9 {κ : KP} : lv κ 9 0 := lv_s (by decide) (by decide) (by decide) (by decide)
theorem lv_u9 {κ : KP} (n : Nat) (h : lv κ 9 n) : n = 0 := lv_u (by decide) (by decide) (by decide) n h
theorem lv_10 {κ : KP} : lv κ 10 0 := lv_s (by decide) (by decide) (by decide) (by decide)
theorem lv_u10 {κ : KP} (n : Nat) (h : lv κ 10 n) : n = 0 := lv_u (by decide) (by decide) (by decide) n h
theorem lv_11 {κ : KP} : lv κ 11 0 := lv_s (by decide) (by decide) (by decide) (by decide)
theorem lv_u11 {κ : KP} (n : Nat) (h : lv κ 11 n) : n = 0 := lv_u (by decide) (by decide) (by decide) n h
theorem lv_12 {κ : KP} : lv κ 12 0 := lv_s (by decide) (by decide) (by decide) (by decide)
theorem lv_u12 {κ : KP} (n : Nat) (h : lv κ 12 n) : n = 0 := lv_u (by decide) (by decide) (by decide) n h
theorem lv_13 {κ : KP} : lv κ 13 0 := lv_s (by decide) (by decide) (by decide) (by decide)
theorem lv_u13 {κ : KP} (n : Nat) (h : lv κ 13 n) : n = 0 := lv_u (by decide) (by decide) (by decide) n h
theorem lv_14 {κ : KP} : lv κ 14 0 := lv_s (by decide) (by decide) (by decide) (by decide)
theorem lv_u14 {κ : KP} (n : Nat) (h : lv κ 14 n) : n = 0 := lv_u (by decide) (by decide) (by decide) n h
theorem lv_15 {κ : KP} : lv κ 15 0 := lv_s (by decide) (by decide) (by decide) (by decide)
theorem lv_u15 {κ : KP} (n : Nat) (h : lv κ 15 n) : n = 0 := lv_u (by decide) (by decide) (by decide) n h
theorem lv_16 {κ : KP} : lv κ 16 0 := lv_s (by decide) (by decide) (by decide) (by decide)
theorem lv_u16 {κ : KP} (n : Nat) (h : lv κ 16 n) : n = 0 := lv_u (by decide) (by decide) (by decide) n h
theorem lv_17 {κ : KP} : lv κ 17 0 := lv_s (by decide) (by decide) (by decide) (by decide)
theorem lv_u17 {κ : KP} (n : Nat) (h : lv κ 17 n) : n = 0 := lv_u (by decide) (by decide) (by decide) n h
theorem lv_20 {κ : KP} : lv κ 20 0 := lv_s (by decide) (by decide) (by decide) (by decide)
theorem lv_u20 {κ : KP} (n : Nat) (h : lv κ 20 n) : n = 0 := lv_u (by decide) (by decide) (by decide) n h
theorem lv_21 {κ : KP} : lv κ 21 0 := lv_s (by decide) (by decide) (by decide) (by decide)
theorem lv_u21 {κ : KP} (n : Nat) (h : lv κ 21 n) : n = 0 := lv_u (by decide) (by decide) (by decide) n h
theorem lv_22 {κ : KP} : lv κ 22 0 := lv_s (by decide) (by decide) (by decide) (by decide)
theorem lv_u22 {κ : KP} (n : Nat) (h : lv κ 22 n) : n = 0 := lv_u (by decide) (by decide) (by decide) n h
theorem lv_23 {κ : KP} : lv κ 23 0 := lv_s (by decide) (by decide) (by decide) (by decide)
theorem lv_u23 {κ : KP} (n : Nat) (h : lv κ 23 n) : n = 0 := lv_u (by decide) (by decide) (by decide) n h
theorem lv_24 {κ : KP} : lv κ 24 0 := lv_s (by decide) (by decide) (by decide) (by decide)
theorem lv_u24 {κ : KP} (n : Nat) (h : lv κ 24 n) : n = 0 := lv_u (by decide) (by decide) (by decide) n h
theorem lv_25 {κ : KP} : lv κ 25 0 := lv_s (by decide) (by decide) (by decide) (by decide)
theorem lv_u25 {κ : KP} (n : Nat) (h : lv κ 25 n) : n = 0 := lv_u (by decide) (by decide) (by decide) n h
theorem lv_26 {κ : KP} : lv κ 26 0 := lv_s (by decide) (by decide) (by decide) (by decide)
theorem lv_u26 {κ : KP} (n : Nat) (h : lv κ 26 n) : n = 0 := lv_u (by decide) (by decide) (by decide) n h
theorem lv_27 {κ : KP} : lv κ 27 0 := lv_s (by decide) (by decide) (by decide) (by decide)
theorem lv_u27 {κ : KP} (n : Nat) (h : lv κ 27 n) : n = 0 := lv_u (by decide) (by decide) (by decide) n h
theorem lv_28 {κ : KP} : lv κ 28 0 := lv_s (by decide) (by decide) (by decide) (by decide)
theorem lv_u28 {κ : KP} (n : Nat) (h : lv κ 28 n) : n = 0 := lv_u (by decide) (by decide) (by decide) n h
theorem lv_29 {κ : KP} : lv κ 29 0 := lv_s (by decide) (by decide) (by decide) (by decide)
theorem lv_u29 {κ : KP} (n : Nat) (h : lv κ 29 n) : n = 0 := lv_u (by decide) (by decide) (by decide) n h
theorem lv_30 {κ : KP} : lv κ 30 0 := lv_s (by decide) (by decide) (by decide) (by decide)
theorem lv_u30 {κ : KP} (n : Nat) (h : lv κ 30 n) : n = 0 := lv_u (by decide) (by decide) (by decide) n h
theorem lv_31 {κ : KP} : lv κ 31 0 := lv_s (by decide) (by decide) (by decide) (by decide)
theorem lv_u31 {κ : KP} (n : Nat) (h : lv κ 31 n) : n = 0 := lv_u (by decide) (by decide) (by decide) n h
theorem lv_32 {κ : KP} : lv κ 32 0 := lv_s (by decide) (by decide) (by decide) (by decide)
theorem lv_u32 {κ : KP} (n : Nat) (h : lv κ 32 n) : n = 0 := lv_u (by decide) (by decide) (by decide) n h
theorem lv_33 {κ : KP} : lv κ 33 0 := lv_s (by decide) (by decide) (by decide) (by decide)
theorem lv_u33 {κ : KP} (n : Nat) (h : lv κ 33 n) : n = 0 := lv_u (by decide) (by decide) (by decide) n h
theorem lv_34 {κ : KP} : lv κ 34 0 := lv_s (by decide) (by decide) (by decide) (by decide)
theorem lv_u34 {κ : KP} (n : Nat) (h : lv κ 34 n) : n = 0 := lv_u (by decide) (by decide) (by decide) n h
theorem lv_35 {κ : KP} : lv κ 35 0 := lv_s (by decide) (by decide) (by decide) (by decide)
theorem lv_u35 {κ : KP} (n : Nat) (h : lv κ 35 n) : n = 0 := lv_u (by decide) (by decide) (by decide) n h
theorem lv_36 {κ : KP} : lv κ 36 0 := lv_s (by decide) (by decide) (by decide) (by decide)
theorem lv_u36 {κ : KP} (n : Nat) (h : lv κ 36 n) : n = 0 := lv_u (by decide) (by decide) (by decide) n h
theorem lv_37 {κ : KP} : lv κ 37 0 := lv_s (by decide) (by decide) (by decide) (by decide)
theorem lv_u37 {κ : KP} (n : Nat) (h : lv κ 37 n) : n = 0 := lv_u (by decide) (by decide) (by decide) n h
theorem lv_38 {κ : KP} : lv κ 38 0 := lv_s (by decide) (by decide) (by decide) (by decide)
theorem lv_u38 {κ : KP} (n : Nat) (h : lv κ 38 n) : n = 0 := lv_u (by decide) (by decide) (by decide) n h
theorem lv_39 {κ : KP} : lv κ 39 0 := lv_s (by decide) (by decide) (by decide) (by decide)
theorem lv_u39 {κ : KP} (n : Nat) (h : lv κ 39 n) : n = 0 := lv_u (by decide) (by decide) (by decide) n h
theorem lv_40 {κ : KP} : lv κ 40 0 := lv_s (by decide) (by decide) (by decide) (by decide)
theorem lv_u40 {κ : KP} (n : Nat) (h : lv κ 40 n) : n = 0 := lv_u (by decide) (by decide) (by decide) n h
theorem lv_41 {κ : KP} : lv κ 41 0 := lv_s (by decide) (by decide) (by decide) (by decide)
theorem lv_u41 {κ : KP} (n : Nat) (h : lv κ 41 n) : n = 0 := lv_u (by decide) (by decide) (by decide) n h
theorem inX0 : ∀ w ∈ u_ws RX0 TX0 10, w ∈ TW := by
  intro w hw
  obtain ⟨k, hk, rfl⟩ := List.mem_map.mp hw
  have hk := List.mem_range.mp hk
  match k, hk with
  | 0, _ => exact tw_419
  | 1, _ => exact tw_421
  | 2, _ => exact tw_423
  | 3, _ => exact tw_425
  | 4, _ => exact tw_427
  | 5, _ => exact tw_429
  | 6, _ => exact tw_431
  | 7, _ => exact tw_433
  | 8, _ => exact tw_435
  | 9, _ => exact tw_437
  | k + 10, hk => exact absurd hk (by omega)
theorem inX1 : ∀ w ∈ u_ws RX1 TX1 3, w ∈ TW := by
  intro w hw
  obtain ⟨k, hk, rfl⟩ := List.mem_map.mp hw
  have hk := List.mem_range.mp hk
  match k, hk with
  | 0, _ => exact tw_149
  | 1, _ => exact tw_151
  | 2, _ => exact tw_153
  | k + 3, hk => exact absurd hk (by omega)
theorem inX2 : ∀ w ∈ u_ws RX2 TX2 4, w ∈ TW := by
  intro w hw
  obtain ⟨k, hk, rfl⟩ := List.mem_map.mp hw
  have hk := List.mem_range.mp hk
  match k, hk with
  | 0, _ => exact tw_394
  | 1, _ => exact tw_396
  | 2, _ => exact tw_398
  | 3, _ => exact tw_400
  | k + 4, hk => exact absurd hk (by omega)
theorem inX3 : ∀ w ∈ u_ws RX3 TX3 1, w ∈ TW := by
  intro w hw
  obtain ⟨k, hk, rfl⟩ := List.mem_map.mp hw
  have hk := List.mem_range.mp hk
  match k, hk with
  | 0, _ => exact tw_164
  | k + 1, hk => exact absurd hk (by omega)
theorem inX4 : ∀ w ∈ u_ws RX4 TX4 7, w ∈ TW := by
  intro w hw
  obtain ⟨k, hk, rfl⟩ := List.mem_map.mp hw
  have hk := List.mem_range.mp hk
  match k, hk with
  | 0, _ => exact tw_124
  | 1, _ => exact tw_126
  | 2, _ => exact tw_128
  | 3, _ => exact tw_130
  | 4, _ => exact tw_132
  | 5, _ => exact tw_134
  | 6, _ => exact tw_136
  | k + 7, hk => exact absurd hk (by omega)
theorem inX5 : ∀ w ∈ u_ws RX5 TX5 5, w ∈ TW := by
  intro w hw
  obtain ⟨k, hk, rfl⟩ := List.mem_map.mp hw
  have hk := List.mem_range.mp hk
  match k, hk with
  | 0, _ => exact tw_698
  | 1, _ => exact tw_700
  | 2, _ => exact tw_702
  | 3, _ => exact tw_704
  | 4, _ => exact tw_706
  | k + 5, hk => exact absurd hk (by omega)
theorem inX6 : ∀ w ∈ u_ws RX6 TX6 5, w ∈ TW := by
  intro w hw
  obtain ⟨k, hk, rfl⟩ := List.mem_map.mp hw
  have hk := List.mem_range.mp hk
  match k, hk with
  | 0, _ => exact tw_104
  | 1, _ => exact tw_106
  | 2, _ => exact tw_108
  | 3, _ => exact tw_110
  | 4, _ => exact tw_112
  | k + 5, hk => exact absurd hk (by omega)
theorem inX7 : ∀ w ∈ u_ws RX7 TX7 10, w ∈ TW := by
  intro w hw
  obtain ⟨k, hk, rfl⟩ := List.mem_map.mp hw
  have hk := List.mem_range.mp hk
  match k, hk with
  | 0, _ => exact tw_177
  | 1, _ => exact tw_179
  | 2, _ => exact tw_181
  | 3, _ => exact tw_183
  | 4, _ => exact tw_185
  | 5, _ => exact tw_187
  | 6, _ => exact tw_189
  | 7, _ => exact tw_191
  | 8, _ => exact tw_193
  | 9, _ => exact tw_195
  | k + 10, hk => exact absurd hk (by omega)
theorem inX8 : ∀ w ∈ u_ws RX8 TX8 32, w ∈ TW := by
  intro w hw
  obtain ⟨k, hk, rfl⟩ := List.mem_map.mp hw
  have hk := List.mem_range.mp hk
  match k, hk with
  | 0, _ => exact tw_954
  | 1, _ => exact tw_956
  | 2, _ => exact tw_958
  | 3, _ => exact tw_960
  | 4, _ => exact tw_962
  | 5, _ => exact tw_964
  | 6, _ => exact tw_966
  | 7, _ => exact tw_968
  | 8, _ => exact tw_970
  | 9, _ => exact tw_972
  | 10, _ => exact tw_974
  | 11, _ => exact tw_976
  | 12, _ => exact tw_978
  | 13, _ => exact tw_980
  | 14, _ => exact tw_982
  | 15, _ => exact tw_984
  | 16, _ => exact tw_986
  | 17, _ => exact tw_988
  | 18, _ => exact tw_990
  | 19, _ => exact tw_992
  | 20, _ => exact tw_994
  | 21, _ => exact tw_996
  | 22, _ => exact tw_998
  | 23, _ => exact tw_1000
  | 24, _ => exact tw_1002
  | 25, _ => exact tw_1004
  | 26, _ => exact tw_1006
  | 27, _ => exact tw_1008
  | 28, _ => exact tw_1010
  | 29, _ => exact tw_1012
  | 30, _ => exact tw_1014
  | 31, _ => exact tw_1016
  | k + 32, hk => exact absurd hk (by omega)
theorem pe_0_5 (κ : KP) (γ : St) (n : Nat) (v : Int32) : cel κ (sV γ 0 n 5 v) 0 n = .inr (0, ([.ref (kA κ 2 (2 * n)), .ref (kA κ 2 (2 * n + 1)), .int (gV γ 0 n 2), .int (gV γ 0 n 3), .int (gV γ 0 n 4), .int (gV γ 0 n 5), .int (gV γ 0 n 6), .int (gV γ 0 n 7), .int (gV γ 0 n 8), .int (gV γ 0 n 9)] : List Value).set 5 (.int v)) := by simp [cel, cel0, gV_sV, gL_sV, gR_sV]
theorem pe_0_6 (κ : KP) (γ : St) (n : Nat) (v : Int32) : cel κ (sV γ 0 n 6 v) 0 n = .inr (0, ([.ref (kA κ 2 (2 * n)), .ref (kA κ 2 (2 * n + 1)), .int (gV γ 0 n 2), .int (gV γ 0 n 3), .int (gV γ 0 n 4), .int (gV γ 0 n 5), .int (gV γ 0 n 6), .int (gV γ 0 n 7), .int (gV γ 0 n 8), .int (gV γ 0 n 9)] : List Value).set 6 (.int v)) := by simp [cel, cel0, gV_sV, gL_sV, gR_sV]
theorem pe_0_7 (κ : KP) (γ : St) (n : Nat) (v : Int32) : cel κ (sV γ 0 n 7 v) 0 n = .inr (0, ([.ref (kA κ 2 (2 * n)), .ref (kA κ 2 (2 * n + 1)), .int (gV γ 0 n 2), .int (gV γ 0 n 3), .int (gV γ 0 n 4), .int (gV γ 0 n 5), .int (gV γ 0 n 6), .int (gV γ 0 n 7), .int (gV γ 0 n 8), .int (gV γ 0 n 9)] : List Value).set 7 (.int v)) := by simp [cel, cel0, gV_sV, gL_sV, gR_sV]
theorem pe_0_8 (κ : KP) (γ : St) (n : Nat) (v : Int32) : cel κ (sV γ 0 n 8 v) 0 n = .inr (0, ([.ref (kA κ 2 (2 * n)), .ref (kA κ 2 (2 * n + 1)), .int (gV γ 0 n 2), .int (gV γ 0 n 3), .int (gV γ 0 n 4), .int (gV γ 0 n 5), .int (gV γ 0 n 6), .int (gV γ 0 n 7), .int (gV γ 0 n 8), .int (gV γ 0 n 9)] : List Value).set 8 (.int v)) := by simp [cel, cel0, gV_sV, gL_sV, gR_sV]
theorem pe_0_9 (κ : KP) (γ : St) (n : Nat) (v : Int32) : cel κ (sV γ 0 n 9 v) 0 n = .inr (0, ([.ref (kA κ 2 (2 * n)), .ref (kA κ 2 (2 * n + 1)), .int (gV γ 0 n 2), .int (gV γ 0 n 3), .int (gV γ 0 n 4), .int (gV γ 0 n 5), .int (gV γ 0 n 6), .int (gV γ 0 n 7), .int (gV γ 0 n 8), .int (gV γ 0 n 9)] : List Value).set 9 (.int v)) := by simp [cel, cel0, gV_sV, gL_sV, gR_sV]
theorem pe_1_2 (κ : KP) (γ : St) (n : Nat) (v : Int32) : cel κ (sV γ 1 n 2 v) 1 n = .inr (1, ([.ref (kA κ 16 n), .ref (kA κ 17 n), .int (gV γ 1 n 2)] : List Value).set 2 (.int v)) := by simp [cel, cel0, gV_sV, gL_sV, gR_sV]
theorem pe_2_1 (κ : KP) (γ : St) (n : Nat) (v : Int32) : cel κ (sV γ 2 n 1 v) 2 n = .inr (2, ([.int (gV γ 2 n 0), .int (gV γ 2 n 1), .int (gV γ 2 n 2), .int (gV γ 2 n 3)] : List Value).set 1 (.int v)) := by simp [cel, cel0, gV_sV, gL_sV, gR_sV]
theorem pe_2_2 (κ : KP) (γ : St) (n : Nat) (v : Int32) : cel κ (sV γ 2 n 2 v) 2 n = .inr (2, ([.int (gV γ 2 n 0), .int (gV γ 2 n 1), .int (gV γ 2 n 2), .int (gV γ 2 n 3)] : List Value).set 2 (.int v)) := by simp [cel, cel0, gV_sV, gL_sV, gR_sV]
theorem pe_2_3 (κ : KP) (γ : St) (n : Nat) (v : Int32) : cel κ (sV γ 2 n 3 v) 2 n = .inr (2, ([.int (gV γ 2 n 0), .int (gV γ 2 n 1), .int (gV γ 2 n 2), .int (gV γ 2 n 3)] : List Value).set 3 (.int v)) := by simp [cel, cel0, gV_sV, gL_sV, gR_sV]
theorem pe_4_6 (κ : KP) (γ : St) (n : Nat) (v : Int32) : cel κ (sV γ 4 n 6 v) 4 n = .inr (4, ([.ref (kA κ 11 n), .ref (kA κ 12 n), .ref (kA κ 13 n), .ref (kA κ 14 n), .ref (kA κ 15 n), .ref (kA κ 6 (n)), .int (gV γ 4 n 6)] : List Value).set 6 (.int v)) := by simp [cel, cel0, gV_sV, gL_sV, gR_sV]
theorem pe_5_4 (κ : KP) (γ : St) (n : Nat) (v : Int32) : cel κ (sV γ 5 n 4 v) 5 n = .inr (5, ([.int (gV γ 5 n 0), .int (gV γ 5 n 1), .ref (kA κ 18 n), .ref (kA κ 19 n), .int (gV γ 5 n 4)] : List Value).set 4 (.int v)) := by simp [cel, cel0, gV_sV, gL_sV, gR_sV]
theorem pe_6_0 (κ : KP) (γ : St) (n : Nat) (v : Int32) : cel κ (sV γ 6 n 0 v) 6 n = .inr (6, ([.int (gV γ 6 n 0), .int (gV γ 6 n 1), .int (gV γ 6 n 2), .int (gV γ 6 n 3), .int (gV γ 6 n 4)] : List Value).set 0 (.int v)) := by simp [cel, cel0, gV_sV, gL_sV, gR_sV]
theorem pe_6_1 (κ : KP) (γ : St) (n : Nat) (v : Int32) : cel κ (sV γ 6 n 1 v) 6 n = .inr (6, ([.int (gV γ 6 n 0), .int (gV γ 6 n 1), .int (gV γ 6 n 2), .int (gV γ 6 n 3), .int (gV γ 6 n 4)] : List Value).set 1 (.int v)) := by simp [cel, cel0, gV_sV, gL_sV, gR_sV]
theorem pe_6_2 (κ : KP) (γ : St) (n : Nat) (v : Int32) : cel κ (sV γ 6 n 2 v) 6 n = .inr (6, ([.int (gV γ 6 n 0), .int (gV γ 6 n 1), .int (gV γ 6 n 2), .int (gV γ 6 n 3), .int (gV γ 6 n 4)] : List Value).set 2 (.int v)) := by simp [cel, cel0, gV_sV, gL_sV, gR_sV]
theorem pe_6_3 (κ : KP) (γ : St) (n : Nat) (v : Int32) : cel κ (sV γ 6 n 3 v) 6 n = .inr (6, ([.int (gV γ 6 n 0), .int (gV γ 6 n 1), .int (gV γ 6 n 2), .int (gV γ 6 n 3), .int (gV γ 6 n 4)] : List Value).set 3 (.int v)) := by simp [cel, cel0, gV_sV, gL_sV, gR_sV]
theorem pe_6_4 (κ : KP) (γ : St) (n : Nat) (v : Int32) : cel κ (sV γ 6 n 4 v) 6 n = .inr (6, ([.int (gV γ 6 n 0), .int (gV γ 6 n 1), .int (gV γ 6 n 2), .int (gV γ 6 n 3), .int (gV γ 6 n 4)] : List Value).set 4 (.int v)) := by simp [cel, cel0, gV_sV, gL_sV, gR_sV]
theorem pe_7_5 (κ : KP) (γ : St) (n : Nat) (v : Int32) : cel κ (sV γ 7 n 5 v) 7 n = .inr (7, ([.ref (kA κ 9 0), .ref (kA κ 10 0), .ref (kA κ 4 (0)), .ref (kA κ 1 (0)), .ref (kA κ 3 (0)), .int (gV γ 7 n 5), .int (gV γ 7 n 6), .int (gV γ 7 n 7), va_rf ((gR γ 7 8).map (kA κ 0)), .int (gV γ 7 n 9)] : List Value).set 5 (.int v)) := by simp [cel, cel0, gV_sV, gL_sV, gR_sV]
theorem pe_7_6 (κ : KP) (γ : St) (n : Nat) (v : Int32) : cel κ (sV γ 7 n 6 v) 7 n = .inr (7, ([.ref (kA κ 9 0), .ref (kA κ 10 0), .ref (kA κ 4 (0)), .ref (kA κ 1 (0)), .ref (kA κ 3 (0)), .int (gV γ 7 n 5), .int (gV γ 7 n 6), .int (gV γ 7 n 7), va_rf ((gR γ 7 8).map (kA κ 0)), .int (gV γ 7 n 9)] : List Value).set 6 (.int v)) := by simp [cel, cel0, gV_sV, gL_sV, gR_sV]
theorem pe_7_7 (κ : KP) (γ : St) (n : Nat) (v : Int32) : cel κ (sV γ 7 n 7 v) 7 n = .inr (7, ([.ref (kA κ 9 0), .ref (kA κ 10 0), .ref (kA κ 4 (0)), .ref (kA κ 1 (0)), .ref (kA κ 3 (0)), .int (gV γ 7 n 5), .int (gV γ 7 n 6), .int (gV γ 7 n 7), va_rf ((gR γ 7 8).map (kA κ 0)), .int (gV γ 7 n 9)] : List Value).set 7 (.int v)) := by simp [cel, cel0, gV_sV, gL_sV, gR_sV]
theorem pe_7_9 (κ : KP) (γ : St) (n : Nat) (v : Int32) : cel κ (sV γ 7 n 9 v) 7 n = .inr (7, ([.ref (kA κ 9 0), .ref (kA κ 10 0), .ref (kA κ 4 (0)), .ref (kA κ 1 (0)), .ref (kA κ 3 (0)), .int (gV γ 7 n 5), .int (gV γ 7 n 6), .int (gV γ 7 n 7), va_rf ((gR γ 7 8).map (kA κ 0)), .int (gV γ 7 n 9)] : List Value).set 9 (.int v)) := by simp [cel, cel0, gV_sV, gL_sV, gR_sV]
theorem pe_8_0 (κ : KP) (γ : St) (n : Nat) (v : Int32) : cel κ (sV γ 8 n 0 v) 8 n = .inr (8, ([.int (gV γ 8 n 0), .long (gL γ 8 1), .int (gV γ 8 n 2), .int (gV γ 8 n 3), .int (gV γ 8 n 4), .ref (kA κ 20 0), .ref (kA κ 21 0), .ref (kA κ 22 0), .ref (kA κ 23 0), .ref (kA κ 24 0), .ref (kA κ 25 0), .ref (kA κ 26 0), .ref (kA κ 27 0), .ref (kA κ 28 0), .int (gV γ 8 n 14), .ref (kA κ 29 0), .ref (kA κ 30 0), .int (gV γ 8 n 17), .ref (kA κ 31 0), .ref (kA κ 32 0), .ref (kA κ 33 0), .ref (kA κ 34 0), .ref (kA κ 35 0), .int (gV γ 8 n 23), .ref (kA κ 36 0), .ref (kA κ 37 0), .ref (kA κ 38 0), .int (gV γ 8 n 27), .ref (kA κ 39 0), .ref (kA κ 40 0), .int (gV γ 8 n 30), .int (gV γ 8 n 31)] : List Value).set 0 (.int v)) := by simp [cel, cel0, gV_sV, gL_sV, gR_sV]
theorem pe_8_2 (κ : KP) (γ : St) (n : Nat) (v : Int32) : cel κ (sV γ 8 n 2 v) 8 n = .inr (8, ([.int (gV γ 8 n 0), .long (gL γ 8 1), .int (gV γ 8 n 2), .int (gV γ 8 n 3), .int (gV γ 8 n 4), .ref (kA κ 20 0), .ref (kA κ 21 0), .ref (kA κ 22 0), .ref (kA κ 23 0), .ref (kA κ 24 0), .ref (kA κ 25 0), .ref (kA κ 26 0), .ref (kA κ 27 0), .ref (kA κ 28 0), .int (gV γ 8 n 14), .ref (kA κ 29 0), .ref (kA κ 30 0), .int (gV γ 8 n 17), .ref (kA κ 31 0), .ref (kA κ 32 0), .ref (kA κ 33 0), .ref (kA κ 34 0), .ref (kA κ 35 0), .int (gV γ 8 n 23), .ref (kA κ 36 0), .ref (kA κ 37 0), .ref (kA κ 38 0), .int (gV γ 8 n 27), .ref (kA κ 39 0), .ref (kA κ 40 0), .int (gV γ 8 n 30), .int (gV γ 8 n 31)] : List Value).set 2 (.int v)) := by simp [cel, cel0, gV_sV, gL_sV, gR_sV]
theorem pe_8_3 (κ : KP) (γ : St) (n : Nat) (v : Int32) : cel κ (sV γ 8 n 3 v) 8 n = .inr (8, ([.int (gV γ 8 n 0), .long (gL γ 8 1), .int (gV γ 8 n 2), .int (gV γ 8 n 3), .int (gV γ 8 n 4), .ref (kA κ 20 0), .ref (kA κ 21 0), .ref (kA κ 22 0), .ref (kA κ 23 0), .ref (kA κ 24 0), .ref (kA κ 25 0), .ref (kA κ 26 0), .ref (kA κ 27 0), .ref (kA κ 28 0), .int (gV γ 8 n 14), .ref (kA κ 29 0), .ref (kA κ 30 0), .int (gV γ 8 n 17), .ref (kA κ 31 0), .ref (kA κ 32 0), .ref (kA κ 33 0), .ref (kA κ 34 0), .ref (kA κ 35 0), .int (gV γ 8 n 23), .ref (kA κ 36 0), .ref (kA κ 37 0), .ref (kA κ 38 0), .int (gV γ 8 n 27), .ref (kA κ 39 0), .ref (kA κ 40 0), .int (gV γ 8 n 30), .int (gV γ 8 n 31)] : List Value).set 3 (.int v)) := by simp [cel, cel0, gV_sV, gL_sV, gR_sV]
theorem pe_8_4 (κ : KP) (γ : St) (n : Nat) (v : Int32) : cel κ (sV γ 8 n 4 v) 8 n = .inr (8, ([.int (gV γ 8 n 0), .long (gL γ 8 1), .int (gV γ 8 n 2), .int (gV γ 8 n 3), .int (gV γ 8 n 4), .ref (kA κ 20 0), .ref (kA κ 21 0), .ref (kA κ 22 0), .ref (kA κ 23 0), .ref (kA κ 24 0), .ref (kA κ 25 0), .ref (kA κ 26 0), .ref (kA κ 27 0), .ref (kA κ 28 0), .int (gV γ 8 n 14), .ref (kA κ 29 0), .ref (kA κ 30 0), .int (gV γ 8 n 17), .ref (kA κ 31 0), .ref (kA κ 32 0), .ref (kA κ 33 0), .ref (kA κ 34 0), .ref (kA κ 35 0), .int (gV γ 8 n 23), .ref (kA κ 36 0), .ref (kA κ 37 0), .ref (kA κ 38 0), .int (gV γ 8 n 27), .ref (kA κ 39 0), .ref (kA κ 40 0), .int (gV γ 8 n 30), .int (gV γ 8 n 31)] : List Value).set 4 (.int v)) := by simp [cel, cel0, gV_sV, gL_sV, gR_sV]
theorem pe_8_14 (κ : KP) (γ : St) (n : Nat) (v : Int32) : cel κ (sV γ 8 n 14 v) 8 n = .inr (8, ([.int (gV γ 8 n 0), .long (gL γ 8 1), .int (gV γ 8 n 2), .int (gV γ 8 n 3), .int (gV γ 8 n 4), .ref (kA κ 20 0), .ref (kA κ 21 0), .ref (kA κ 22 0), .ref (kA κ 23 0), .ref (kA κ 24 0), .ref (kA κ 25 0), .ref (kA κ 26 0), .ref (kA κ 27 0), .ref (kA κ 28 0), .int (gV γ 8 n 14), .ref (kA κ 29 0), .ref (kA κ 30 0), .int (gV γ 8 n 17), .ref (kA κ 31 0), .ref (kA κ 32 0), .ref (kA κ 33 0), .ref (kA κ 34 0), .ref (kA κ 35 0), .int (gV γ 8 n 23), .ref (kA κ 36 0), .ref (kA κ 37 0), .ref (kA κ 38 0), .int (gV γ 8 n 27), .ref (kA κ 39 0), .ref (kA κ 40 0), .int (gV γ 8 n 30), .int (gV γ 8 n 31)] : List Value).set 14 (.int v)) := by simp [cel, cel0, gV_sV, gL_sV, gR_sV]
theorem pe_8_17 (κ : KP) (γ : St) (n : Nat) (v : Int32) : cel κ (sV γ 8 n 17 v) 8 n = .inr (8, ([.int (gV γ 8 n 0), .long (gL γ 8 1), .int (gV γ 8 n 2), .int (gV γ 8 n 3), .int (gV γ 8 n 4), .ref (kA κ 20 0), .ref (kA κ 21 0), .ref (kA κ 22 0), .ref (kA κ 23 0), .ref (kA κ 24 0), .ref (kA κ 25 0), .ref (kA κ 26 0), .ref (kA κ 27 0), .ref (kA κ 28 0), .int (gV γ 8 n 14), .ref (kA κ 29 0), .ref (kA κ 30 0), .int (gV γ 8 n 17), .ref (kA κ 31 0), .ref (kA κ 32 0), .ref (kA κ 33 0), .ref (kA κ 34 0), .ref (kA κ 35 0), .int (gV γ 8 n 23), .ref (kA κ 36 0), .ref (kA κ 37 0), .ref (kA κ 38 0), .int (gV γ 8 n 27), .ref (kA κ 39 0), .ref (kA κ 40 0), .int (gV γ 8 n 30), .int (gV γ 8 n 31)] : List Value).set 17 (.int v)) := by simp [cel, cel0, gV_sV, gL_sV, gR_sV]
theorem pe_8_23 (κ : KP) (γ : St) (n : Nat) (v : Int32) : cel κ (sV γ 8 n 23 v) 8 n = .inr (8, ([.int (gV γ 8 n 0), .long (gL γ 8 1), .int (gV γ 8 n 2), .int (gV γ 8 n 3), .int (gV γ 8 n 4), .ref (kA κ 20 0), .ref (kA κ 21 0), .ref (kA κ 22 0), .ref (kA κ 23 0), .ref (kA κ 24 0), .ref (kA κ 25 0), .ref (kA κ 26 0), .ref (kA κ 27 0), .ref (kA κ 28 0), .int (gV γ 8 n 14), .ref (kA κ 29 0), .ref (kA κ 30 0), .int (gV γ 8 n 17), .ref (kA κ 31 0), .ref (kA κ 32 0), .ref (kA κ 33 0), .ref (kA κ 34 0), .ref (kA κ 35 0), .int (gV γ 8 n 23), .ref (kA κ 36 0), .ref (kA κ 37 0), .ref (kA κ 38 0), .int (gV γ 8 n 27), .ref (kA κ 39 0), .ref (kA κ 40 0), .int (gV γ 8 n 30), .int (gV γ 8 n 31)] : List Value).set 23 (.int v)) := by simp [cel, cel0, gV_sV, gL_sV, gR_sV]
theorem pe_8_27 (κ : KP) (γ : St) (n : Nat) (v : Int32) : cel κ (sV γ 8 n 27 v) 8 n = .inr (8, ([.int (gV γ 8 n 0), .long (gL γ 8 1), .int (gV γ 8 n 2), .int (gV γ 8 n 3), .int (gV γ 8 n 4), .ref (kA κ 20 0), .ref (kA κ 21 0), .ref (kA κ 22 0), .ref (kA κ 23 0), .ref (kA κ 24 0), .ref (kA κ 25 0), .ref (kA κ 26 0), .ref (kA κ 27 0), .ref (kA κ 28 0), .int (gV γ 8 n 14), .ref (kA κ 29 0), .ref (kA κ 30 0), .int (gV γ 8 n 17), .ref (kA κ 31 0), .ref (kA κ 32 0), .ref (kA κ 33 0), .ref (kA κ 34 0), .ref (kA κ 35 0), .int (gV γ 8 n 23), .ref (kA κ 36 0), .ref (kA κ 37 0), .ref (kA κ 38 0), .int (gV γ 8 n 27), .ref (kA κ 39 0), .ref (kA κ 40 0), .int (gV γ 8 n 30), .int (gV γ 8 n 31)] : List Value).set 27 (.int v)) := by simp [cel, cel0, gV_sV, gL_sV, gR_sV]
theorem pe_8_30 (κ : KP) (γ : St) (n : Nat) (v : Int32) : cel κ (sV γ 8 n 30 v) 8 n = .inr (8, ([.int (gV γ 8 n 0), .long (gL γ 8 1), .int (gV γ 8 n 2), .int (gV γ 8 n 3), .int (gV γ 8 n 4), .ref (kA κ 20 0), .ref (kA κ 21 0), .ref (kA κ 22 0), .ref (kA κ 23 0), .ref (kA κ 24 0), .ref (kA κ 25 0), .ref (kA κ 26 0), .ref (kA κ 27 0), .ref (kA κ 28 0), .int (gV γ 8 n 14), .ref (kA κ 29 0), .ref (kA κ 30 0), .int (gV γ 8 n 17), .ref (kA κ 31 0), .ref (kA κ 32 0), .ref (kA κ 33 0), .ref (kA κ 34 0), .ref (kA κ 35 0), .int (gV γ 8 n 23), .ref (kA κ 36 0), .ref (kA κ 37 0), .ref (kA κ 38 0), .int (gV γ 8 n 27), .ref (kA κ 39 0), .ref (kA κ 40 0), .int (gV γ 8 n 30), .int (gV γ 8 n 31)] : List Value).set 30 (.int v)) := by simp [cel, cel0, gV_sV, gL_sV, gR_sV]
theorem pe_8_31 (κ : KP) (γ : St) (n : Nat) (v : Int32) : cel κ (sV γ 8 n 31 v) 8 n = .inr (8, ([.int (gV γ 8 n 0), .long (gL γ 8 1), .int (gV γ 8 n 2), .int (gV γ 8 n 3), .int (gV γ 8 n 4), .ref (kA κ 20 0), .ref (kA κ 21 0), .ref (kA κ 22 0), .ref (kA κ 23 0), .ref (kA κ 24 0), .ref (kA κ 25 0), .ref (kA κ 26 0), .ref (kA κ 27 0), .ref (kA κ 28 0), .int (gV γ 8 n 14), .ref (kA κ 29 0), .ref (kA κ 30 0), .int (gV γ 8 n 17), .ref (kA κ 31 0), .ref (kA κ 32 0), .ref (kA κ 33 0), .ref (kA κ 34 0), .ref (kA κ 35 0), .int (gV γ 8 n 23), .ref (kA κ 36 0), .ref (kA κ 37 0), .ref (kA κ 38 0), .int (gV γ 8 n 27), .ref (kA κ 39 0), .ref (kA κ 40 0), .int (gV γ 8 n 30), .int (gV γ 8 n 31)] : List Value).set 31 (.int v)) := by simp [cel, cel0, gV_sV, gL_sV, gR_sV]
theorem pl_3_0 (κ : KP) (γ : St) (v : Int64) : cel κ (sL γ 3 0 v) 3 0 = .inr (3, ([.long (gL γ 3 0)] : List Value).set 0 (.long v)) := by simp [cel, cel0, gV_sL, gL_sL, gR_sL]
theorem pl_8_1 (κ : KP) (γ : St) (v : Int64) : cel κ (sL γ 8 1 v) 8 0 = .inr (8, ([.int (gV γ 8 0 0), .long (gL γ 8 1), .int (gV γ 8 0 2), .int (gV γ 8 0 3), .int (gV γ 8 0 4), .ref (kA κ 20 0), .ref (kA κ 21 0), .ref (kA κ 22 0), .ref (kA κ 23 0), .ref (kA κ 24 0), .ref (kA κ 25 0), .ref (kA κ 26 0), .ref (kA κ 27 0), .ref (kA κ 28 0), .int (gV γ 8 0 14), .ref (kA κ 29 0), .ref (kA κ 30 0), .int (gV γ 8 0 17), .ref (kA κ 31 0), .ref (kA κ 32 0), .ref (kA κ 33 0), .ref (kA κ 34 0), .ref (kA κ 35 0), .int (gV γ 8 0 23), .ref (kA κ 36 0), .ref (kA κ 37 0), .ref (kA κ 38 0), .int (gV γ 8 0 27), .ref (kA κ 39 0), .ref (kA κ 40 0), .int (gV γ 8 0 30), .int (gV γ 8 0 31)] : List Value).set 1 (.long v)) := by simp [cel, cel0, gV_sL, gL_sL, gR_sL]
theorem pq_7_8 (κ : KP) (γ : St) (v : Option Nat) : cel κ (sR γ 7 8 v) 7 0 = .inr (7, ([.ref (kA κ 9 0), .ref (kA κ 10 0), .ref (kA κ 4 (0)), .ref (kA κ 1 (0)), .ref (kA κ 3 (0)), .int (gV γ 7 0 5), .int (gV γ 7 0 6), .int (gV γ 7 0 7), va_rf ((gR γ 7 8).map (kA κ 0)), .int (gV γ 7 0 9)] : List Value).set 8 (va_rf (v.map (kA κ 0)))) := by simp [cel, cel0, gV_sR, gL_sR, gR_sR]
theorem hd_J6_bitCount_0f7a4 : yJ6_bitCount_0f7a4.cls ≠ "java/lang/invoke/MethodHandle" ∧ yJ6_bitCount_0f7a4.cls ≠ "java/lang/invoke/VarHandle" ∧ (parseMethodDescriptor yJ6_bitCount_0f7a4.desc).map (fun d => d.parameters.length) = some 1 := ⟨by decide +kernel, by decide +kernel, by decide +kernel⟩
theorem hd_X0_addTouches : yX0_addTouches.cls = RX0 ∧ yX0_addTouches.cls ≠ "java/lang/invoke/MethodHandle" ∧ yX0_addTouches.cls ≠ "java/lang/invoke/VarHandle" ∧ (parseMethodDescriptor yX0_addTouches.desc).map (fun d => d.parameters.length) = some 1 := ⟨rfl, by decide +kernel, by decide +kernel, by decide +kernel⟩
theorem hd_X0_becomePassive : yX0_becomePassive.cls = RX0 ∧ yX0_becomePassive.cls ≠ "java/lang/invoke/MethodHandle" ∧ yX0_becomePassive.cls ≠ "java/lang/invoke/VarHandle" ∧ (parseMethodDescriptor yX0_becomePassive.desc).map (fun d => d.parameters.length) = some 0 := ⟨rfl, by decide +kernel, by decide +kernel, by decide +kernel⟩
theorem hd_X0_corner : yX0_corner.cls = RX0 ∧ yX0_corner.cls ≠ "java/lang/invoke/MethodHandle" ∧ yX0_corner.cls ≠ "java/lang/invoke/VarHandle" ∧ (parseMethodDescriptor yX0_corner.desc).map (fun d => d.parameters.length) = some 1 := ⟨rfl, by decide +kernel, by decide +kernel, by decide +kernel⟩
theorem hd_X0_finish : yX0_finish.cls = RX0 ∧ yX0_finish.cls ≠ "java/lang/invoke/MethodHandle" ∧ yX0_finish.cls ≠ "java/lang/invoke/VarHandle" ∧ (parseMethodDescriptor yX0_finish.desc).map (fun d => d.parameters.length) = some 1 := ⟨rfl, by decide +kernel, by decide +kernel, by decide +kernel⟩
theorem hd_X0_giveCard : yX0_giveCard.cls = RX0 ∧ yX0_giveCard.cls ≠ "java/lang/invoke/MethodHandle" ∧ yX0_giveCard.cls ≠ "java/lang/invoke/VarHandle" ∧ (parseMethodDescriptor yX0_giveCard.desc).map (fun d => d.parameters.length) = some 2 := ⟨rfl, by decide +kernel, by decide +kernel, by decide +kernel⟩
theorem hd_X0_giveTouches : yX0_giveTouches.cls = RX0 ∧ yX0_giveTouches.cls ≠ "java/lang/invoke/MethodHandle" ∧ yX0_giveTouches.cls ≠ "java/lang/invoke/VarHandle" ∧ (parseMethodDescriptor yX0_giveTouches.desc).map (fun d => d.parameters.length) = some 1 := ⟨rfl, by decide +kernel, by decide +kernel, by decide +kernel⟩
theorem hd_X0_has : yX0_has.cls = RX0 ∧ yX0_has.cls ≠ "java/lang/invoke/MethodHandle" ∧ yX0_has.cls ≠ "java/lang/invoke/VarHandle" ∧ (parseMethodDescriptor yX0_has.desc).map (fun d => d.parameters.length) = some 1 := ⟨rfl, by decide +kernel, by decide +kernel, by decide +kernel⟩
theorem hd_X0_isDoubleTooFar : yX0_isDoubleTooFar.cls = RX0 ∧ yX0_isDoubleTooFar.cls ≠ "java/lang/invoke/MethodHandle" ∧ yX0_isDoubleTooFar.cls ≠ "java/lang/invoke/VarHandle" ∧ (parseMethodDescriptor yX0_isDoubleTooFar.desc).map (fun d => d.parameters.length) = some 0 := ⟨rfl, by decide +kernel, by decide +kernel, by decide +kernel⟩
theorem hd_X0_isLike : yX0_isLike.cls = RX0 ∧ yX0_isLike.cls ≠ "java/lang/invoke/MethodHandle" ∧ yX0_isLike.cls ≠ "java/lang/invoke/VarHandle" ∧ (parseMethodDescriptor yX0_isLike.desc).map (fun d => d.parameters.length) = some 0 := ⟨rfl, by decide +kernel, by decide +kernel, by decide +kernel⟩
theorem hd_X0_isOver : yX0_isOver.cls = RX0 ∧ yX0_isOver.cls ≠ "java/lang/invoke/MethodHandle" ∧ yX0_isOver.cls ≠ "java/lang/invoke/VarHandle" ∧ (parseMethodDescriptor yX0_isOver.desc).map (fun d => d.parameters.length) = some 0 := ⟨rfl, by decide +kernel, by decide +kernel, by decide +kernel⟩
theorem hd_X0_leader : yX0_leader.cls = RX0 ∧ yX0_leader.cls ≠ "java/lang/invoke/MethodHandle" ∧ yX0_leader.cls ≠ "java/lang/invoke/VarHandle" ∧ (parseMethodDescriptor yX0_leader.desc).map (fun d => d.parameters.length) = some 0 := ⟨rfl, by decide +kernel, by decide +kernel, by decide +kernel⟩
theorem hd_X0_lookAtTime : yX0_lookAtTime.cls = RX0 ∧ yX0_lookAtTime.cls ≠ "java/lang/invoke/MethodHandle" ∧ yX0_lookAtTime.cls ≠ "java/lang/invoke/VarHandle" ∧ (parseMethodDescriptor yX0_lookAtTime.desc).map (fun d => d.parameters.length) = some 1 := ⟨rfl, by decide +kernel, by decide +kernel, by decide +kernel⟩
theorem hd_X0_passSecond : yX0_passSecond.cls = RX0 ∧ yX0_passSecond.cls ≠ "java/lang/invoke/MethodHandle" ∧ yX0_passSecond.cls ≠ "java/lang/invoke/VarHandle" ∧ (parseMethodDescriptor yX0_passSecond.desc).map (fun d => d.parameters.length) = some 1 := ⟨rfl, by decide +kernel, by decide +kernel, by decide +kernel⟩
theorem hd_X0_secondsLeft : yX0_secondsLeft.cls = RX0 ∧ yX0_secondsLeft.cls ≠ "java/lang/invoke/MethodHandle" ∧ yX0_secondsLeft.cls ≠ "java/lang/invoke/VarHandle" ∧ (parseMethodDescriptor yX0_secondsLeft.desc).map (fun d => d.parameters.length) = some 0 := ⟨rfl, by decide +kernel, by decide +kernel, by decide +kernel⟩
theorem hd_X0_share : yX0_share.cls = RX0 ∧ yX0_share.cls ≠ "java/lang/invoke/MethodHandle" ∧ yX0_share.cls ≠ "java/lang/invoke/VarHandle" ∧ (parseMethodDescriptor yX0_share.desc).map (fun d => d.parameters.length) = some 2 := ⟨rfl, by decide +kernel, by decide +kernel, by decide +kernel⟩
theorem hd_X0_sideOf : yX0_sideOf.cls = RX0 ∧ yX0_sideOf.cls ≠ "java/lang/invoke/MethodHandle" ∧ yX0_sideOf.cls ≠ "java/lang/invoke/VarHandle" ∧ (parseMethodDescriptor yX0_sideOf.desc).map (fun d => d.parameters.length) = some 1 := ⟨rfl, by decide +kernel, by decide +kernel, by decide +kernel⟩
theorem hd_X0_timeLimit : yX0_timeLimit.cls = RX0 ∧ yX0_timeLimit.cls ≠ "java/lang/invoke/MethodHandle" ∧ yX0_timeLimit.cls ≠ "java/lang/invoke/VarHandle" ∧ (parseMethodDescriptor yX0_timeLimit.desc).map (fun d => d.parameters.length) = some 0 := ⟨rfl, by decide +kernel, by decide +kernel, by decide +kernel⟩
theorem hd_X0_told : yX0_told.cls = RX0 ∧ yX0_told.cls ≠ "java/lang/invoke/MethodHandle" ∧ yX0_told.cls ≠ "java/lang/invoke/VarHandle" ∧ (parseMethodDescriptor yX0_told.desc).map (fun d => d.parameters.length) = some 1 := ⟨rfl, by decide +kernel, by decide +kernel, by decide +kernel⟩
theorem hd_X1_at : yX1_at.cls = RX1 ∧ yX1_at.cls ≠ "java/lang/invoke/MethodHandle" ∧ yX1_at.cls ≠ "java/lang/invoke/VarHandle" ∧ (parseMethodDescriptor yX1_at.desc).map (fun d => d.parameters.length) = some 1 := ⟨rfl, by decide +kernel, by decide +kernel, by decide +kernel⟩
theorem hd_X1_fencerIn : yX1_fencerIn.cls = RX1 ∧ yX1_fencerIn.cls ≠ "java/lang/invoke/MethodHandle" ∧ yX1_fencerIn.cls ≠ "java/lang/invoke/VarHandle" ∧ (parseMethodDescriptor yX1_fencerIn.desc).map (fun d => d.parameters.length) = some 3 := ⟨rfl, by decide +kernel, by decide +kernel, by decide +kernel⟩
theorem hd_X1_hasMatch : yX1_hasMatch.cls = RX1 ∧ yX1_hasMatch.cls ≠ "java/lang/invoke/MethodHandle" ∧ yX1_hasMatch.cls ≠ "java/lang/invoke/VarHandle" ∧ (parseMethodDescriptor yX1_hasMatch.desc).map (fun d => d.parameters.length) = some 2 := ⟨rfl, by decide +kernel, by decide +kernel, by decide +kernel⟩
theorem hd_X1_isOpen : yX1_isOpen.cls = RX1 ∧ yX1_isOpen.cls ≠ "java/lang/invoke/MethodHandle" ∧ yX1_isOpen.cls ≠ "java/lang/invoke/VarHandle" ∧ (parseMethodDescriptor yX1_isOpen.desc).map (fun d => d.parameters.length) = some 2 := ⟨rfl, by decide +kernel, by decide +kernel, by decide +kernel⟩
theorem hd_X1_leastPlaces : yX1_leastPlaces.cls ≠ "java/lang/invoke/MethodHandle" ∧ yX1_leastPlaces.cls ≠ "java/lang/invoke/VarHandle" ∧ (parseMethodDescriptor yX1_leastPlaces.desc).map (fun d => d.parameters.length) = some 1 := ⟨by decide +kernel, by decide +kernel, by decide +kernel⟩
theorem hd_X1_makeFrom : yX1_makeFrom.cls = RX1 ∧ yX1_makeFrom.cls ≠ "java/lang/invoke/MethodHandle" ∧ yX1_makeFrom.cls ≠ "java/lang/invoke/VarHandle" ∧ (parseMethodDescriptor yX1_makeFrom.desc).map (fun d => d.parameters.length) = some 1 := ⟨rfl, by decide +kernel, by decide +kernel, by decide +kernel⟩
theorem hd_X1_matchesIn : yX1_matchesIn.cls = RX1 ∧ yX1_matchesIn.cls ≠ "java/lang/invoke/MethodHandle" ∧ yX1_matchesIn.cls ≠ "java/lang/invoke/VarHandle" ∧ (parseMethodDescriptor yX1_matchesIn.desc).map (fun d => d.parameters.length) = some 1 := ⟨rfl, by decide +kernel, by decide +kernel, by decide +kernel⟩
theorem hd_X1_nodeOf : yX1_nodeOf.cls = RX1 ∧ yX1_nodeOf.cls ≠ "java/lang/invoke/MethodHandle" ∧ yX1_nodeOf.cls ≠ "java/lang/invoke/VarHandle" ∧ (parseMethodDescriptor yX1_nodeOf.desc).map (fun d => d.parameters.length) = some 2 := ⟨rfl, by decide +kernel, by decide +kernel, by decide +kernel⟩
theorem hd_X1_orderPlaces : yX1_orderPlaces.cls = RX1 ∧ yX1_orderPlaces.cls ≠ "java/lang/invoke/MethodHandle" ∧ yX1_orderPlaces.cls ≠ "java/lang/invoke/VarHandle" ∧ (parseMethodDescriptor yX1_orderPlaces.desc).map (fun d => d.parameters.length) = some 1 := ⟨rfl, by decide +kernel, by decide +kernel, by decide +kernel⟩
theorem hd_X1_passBye : yX1_passBye.cls = RX1 ∧ yX1_passBye.cls ≠ "java/lang/invoke/MethodHandle" ∧ yX1_passBye.cls ≠ "java/lang/invoke/VarHandle" ∧ (parseMethodDescriptor yX1_passBye.desc).map (fun d => d.parameters.length) = some 1 := ⟨rfl, by decide +kernel, by decide +kernel, by decide +kernel⟩
theorem hd_X1_put : yX1_put.cls = RX1 ∧ yX1_put.cls ≠ "java/lang/invoke/MethodHandle" ∧ yX1_put.cls ≠ "java/lang/invoke/VarHandle" ∧ (parseMethodDescriptor yX1_put.desc).map (fun d => d.parameters.length) = some 2 := ⟨rfl, by decide +kernel, by decide +kernel, by decide +kernel⟩
theorem hd_X1_settle : yX1_settle.cls = RX1 ∧ yX1_settle.cls ≠ "java/lang/invoke/MethodHandle" ∧ yX1_settle.cls ≠ "java/lang/invoke/VarHandle" ∧ (parseMethodDescriptor yX1_settle.desc).map (fun d => d.parameters.length) = some 3 := ⟨rfl, by decide +kernel, by decide +kernel, by decide +kernel⟩
theorem hd_X1_winnerOf : yX1_winnerOf.cls = RX1 ∧ yX1_winnerOf.cls ≠ "java/lang/invoke/MethodHandle" ∧ yX1_winnerOf.cls ≠ "java/lang/invoke/VarHandle" ∧ (parseMethodDescriptor yX1_winnerOf.desc).map (fun d => d.parameters.length) = some 2 := ⟨rfl, by decide +kernel, by decide +kernel, by decide +kernel⟩
theorem hd_X2_colourFor : yX2_colourFor.cls = RX2 ∧ yX2_colourFor.cls ≠ "java/lang/invoke/MethodHandle" ∧ yX2_colourFor.cls ≠ "java/lang/invoke/VarHandle" ∧ (parseMethodDescriptor yX2_colourFor.desc).map (fun d => d.parameters.length) = some 1 := ⟨rfl, by decide +kernel, by decide +kernel, by decide +kernel⟩
theorem hd_X2_note : yX2_note.cls = RX2 ∧ yX2_note.cls ≠ "java/lang/invoke/MethodHandle" ∧ yX2_note.cls ≠ "java/lang/invoke/VarHandle" ∧ (parseMethodDescriptor yX2_note.desc).map (fun d => d.parameters.length) = some 1 := ⟨rfl, by decide +kernel, by decide +kernel, by decide +kernel⟩
theorem hd_X3_draw : yX3_draw.cls = RX3 ∧ yX3_draw.cls ≠ "java/lang/invoke/MethodHandle" ∧ yX3_draw.cls ≠ "java/lang/invoke/VarHandle" ∧ (parseMethodDescriptor yX3_draw.desc).map (fun d => d.parameters.length) = some 0 := ⟨rfl, by decide +kernel, by decide +kernel, by decide +kernel⟩
theorem hd_X4_addAction : yX4_addAction.cls = RX4 ∧ yX4_addAction.cls ≠ "java/lang/invoke/MethodHandle" ∧ yX4_addAction.cls ≠ "java/lang/invoke/VarHandle" ∧ (parseMethodDescriptor yX4_addAction.desc).map (fun d => d.parameters.length) = some 3 := ⟨rfl, by decide +kernel, by decide +kernel, by decide +kernel⟩
theorem hd_X4_addContact : yX4_addContact.cls = RX4 ∧ yX4_addContact.cls ≠ "java/lang/invoke/MethodHandle" ∧ yX4_addContact.cls ≠ "java/lang/invoke/VarHandle" ∧ (parseMethodDescriptor yX4_addContact.desc).map (fun d => d.parameters.length) = some 4 := ⟨rfl, by decide +kernel, by decide +kernel, by decide +kernel⟩
theorem hd_X4_append : yX4_append.cls = RX4 ∧ yX4_append.cls ≠ "java/lang/invoke/MethodHandle" ∧ yX4_append.cls ≠ "java/lang/invoke/VarHandle" ∧ (parseMethodDescriptor yX4_append.desc).map (fun d => d.parameters.length) = some 5 := ⟨rfl, by decide +kernel, by decide +kernel, by decide +kernel⟩
theorem hd_X4_couldRegister : yX4_couldRegister.cls = RX4 ∧ yX4_couldRegister.cls ≠ "java/lang/invoke/MethodHandle" ∧ yX4_couldRegister.cls ≠ "java/lang/invoke/VarHandle" ∧ (parseMethodDescriptor yX4_couldRegister.desc).map (fun d => d.parameters.length) = some 2 := ⟨rfl, by decide +kernel, by decide +kernel, by decide +kernel⟩
theorem hd_X4_empty : yX4_empty.cls = RX4 ∧ yX4_empty.cls ≠ "java/lang/invoke/MethodHandle" ∧ yX4_empty.cls ≠ "java/lang/invoke/VarHandle" ∧ (parseMethodDescriptor yX4_empty.desc).map (fun d => d.parameters.length) = some 0 := ⟨rfl, by decide +kernel, by decide +kernel, by decide +kernel⟩
theorem hd_X4_holderAhead : yX4_holderAhead.cls = RX4 ∧ yX4_holderAhead.cls ≠ "java/lang/invoke/MethodHandle" ∧ yX4_holderAhead.cls ≠ "java/lang/invoke/VarHandle" ∧ (parseMethodDescriptor yX4_holderAhead.desc).map (fun d => d.parameters.length) = some 1 := ⟨rfl, by decide +kernel, by decide +kernel, by decide +kernel⟩
theorem hd_X4_isEntry : yX4_isEntry.cls = RX4 ∧ yX4_isEntry.cls ≠ "java/lang/invoke/MethodHandle" ∧ yX4_isEntry.cls ≠ "java/lang/invoke/VarHandle" ∧ (parseMethodDescriptor yX4_isEntry.desc).map (fun d => d.parameters.length) = some 1 := ⟨rfl, by decide +kernel, by decide +kernel, by decide +kernel⟩
theorem hd_X4_isFull : yX4_isFull.cls = RX4 ∧ yX4_isFull.cls ≠ "java/lang/invoke/MethodHandle" ∧ yX4_isFull.cls ≠ "java/lang/invoke/VarHandle" ∧ (parseMethodDescriptor yX4_isFull.desc).map (fun d => d.parameters.length) = some 0 := ⟨rfl, by decide +kernel, by decide +kernel, by decide +kernel⟩
theorem hd_X4_lastTime : yX4_lastTime.cls = RX4 ∧ yX4_lastTime.cls ≠ "java/lang/invoke/MethodHandle" ∧ yX4_lastTime.cls ≠ "java/lang/invoke/VarHandle" ∧ (parseMethodDescriptor yX4_lastTime.desc).map (fun d => d.parameters.length) = some 0 := ⟨rfl, by decide +kernel, by decide +kernel, by decide +kernel⟩
theorem hd_X4_leastSpan : yX4_leastSpan.cls ≠ "java/lang/invoke/MethodHandle" ∧ yX4_leastSpan.cls ≠ "java/lang/invoke/VarHandle" ∧ (parseMethodDescriptor yX4_leastSpan.desc).map (fun d => d.parameters.length) = some 1 := ⟨by decide +kernel, by decide +kernel, by decide +kernel⟩
theorem hd_X4_lockout : yX4_lockout.cls ≠ "java/lang/invoke/MethodHandle" ∧ yX4_lockout.cls ≠ "java/lang/invoke/VarHandle" ∧ (parseMethodDescriptor yX4_lockout.desc).map (fun d => d.parameters.length) = some 1 := ⟨by decide +kernel, by decide +kernel, by decide +kernel⟩
theorem hd_X4_registered : yX4_registered.cls = RX4 ∧ yX4_registered.cls ≠ "java/lang/invoke/MethodHandle" ∧ yX4_registered.cls ≠ "java/lang/invoke/VarHandle" ∧ (parseMethodDescriptor yX4_registered.desc).map (fun d => d.parameters.length) = some 2 := ⟨rfl, by decide +kernel, by decide +kernel, by decide +kernel⟩
theorem hd_X4_targetAt : yX4_targetAt.cls = RX4 ∧ yX4_targetAt.cls ≠ "java/lang/invoke/MethodHandle" ∧ yX4_targetAt.cls ≠ "java/lang/invoke/VarHandle" ∧ (parseMethodDescriptor yX4_targetAt.desc).map (fun d => d.parameters.length) = some 1 := ⟨rfl, by decide +kernel, by decide +kernel, by decide +kernel⟩
theorem hd_X4_timeAt : yX4_timeAt.cls = RX4 ∧ yX4_timeAt.cls ≠ "java/lang/invoke/MethodHandle" ∧ yX4_timeAt.cls ≠ "java/lang/invoke/VarHandle" ∧ (parseMethodDescriptor yX4_timeAt.desc).map (fun d => d.parameters.length) = some 1 := ⟨rfl, by decide +kernel, by decide +kernel, by decide +kernel⟩
theorem hd_X5_addTo : yX5_addTo.cls = RX5 ∧ yX5_addTo.cls ≠ "java/lang/invoke/MethodHandle" ∧ yX5_addTo.cls ≠ "java/lang/invoke/VarHandle" ∧ (parseMethodDescriptor yX5_addTo.desc).map (fun d => d.parameters.length) = some 3 := ⟨rfl, by decide +kernel, by decide +kernel, by decide +kernel⟩
theorem hd_X5_balance : yX5_balance.cls = RX5 ∧ yX5_balance.cls ≠ "java/lang/invoke/MethodHandle" ∧ yX5_balance.cls ≠ "java/lang/invoke/VarHandle" ∧ (parseMethodDescriptor yX5_balance.desc).map (fun d => d.parameters.length) = some 1 := ⟨rfl, by decide +kernel, by decide +kernel, by decide +kernel⟩
theorem hd_X5_counts : yX5_counts.cls = RX5 ∧ yX5_counts.cls ≠ "java/lang/invoke/MethodHandle" ∧ yX5_counts.cls ≠ "java/lang/invoke/VarHandle" ∧ (parseMethodDescriptor yX5_counts.desc).map (fun d => d.parameters.length) = some 1 := ⟨rfl, by decide +kernel, by decide +kernel, by decide +kernel⟩
theorem hd_X5_enter : yX5_enter.cls = RX5 ∧ yX5_enter.cls ≠ "java/lang/invoke/MethodHandle" ∧ yX5_enter.cls ≠ "java/lang/invoke/VarHandle" ∧ (parseMethodDescriptor yX5_enter.desc).map (fun d => d.parameters.length) = some 2 := ⟨rfl, by decide +kernel, by decide +kernel, by decide +kernel⟩
theorem hd_X5_has : yX5_has.cls = RX5 ∧ yX5_has.cls ≠ "java/lang/invoke/MethodHandle" ∧ yX5_has.cls ≠ "java/lang/invoke/VarHandle" ∧ (parseMethodDescriptor yX5_has.desc).map (fun d => d.parameters.length) = some 1 := ⟨rfl, by decide +kernel, by decide +kernel, by decide +kernel⟩
theorem hd_X5_insert : yX5_insert.cls = RX5 ∧ yX5_insert.cls ≠ "java/lang/invoke/MethodHandle" ∧ yX5_insert.cls ≠ "java/lang/invoke/VarHandle" ∧ (parseMethodDescriptor yX5_insert.desc).map (fun d => d.parameters.length) = some 2 := ⟨rfl, by decide +kernel, by decide +kernel, by decide +kernel⟩
theorem hd_X5_isAhead : yX5_isAhead.cls = RX5 ∧ yX5_isAhead.cls ≠ "java/lang/invoke/MethodHandle" ∧ yX5_isAhead.cls ≠ "java/lang/invoke/VarHandle" ∧ (parseMethodDescriptor yX5_isAhead.desc).map (fun d => d.parameters.length) = some 2 := ⟨rfl, by decide +kernel, by decide +kernel, by decide +kernel⟩
theorem hd_X5_isIn : yX5_isIn.cls ≠ "java/lang/invoke/MethodHandle" ∧ yX5_isIn.cls ≠ "java/lang/invoke/VarHandle" ∧ (parseMethodDescriptor yX5_isIn.desc).map (fun d => d.parameters.length) = some 2 := ⟨by decide +kernel, by decide +kernel, by decide +kernel⟩
theorem hd_X5_isRanked : yX5_isRanked.cls = RX5 ∧ yX5_isRanked.cls ≠ "java/lang/invoke/MethodHandle" ∧ yX5_isRanked.cls ≠ "java/lang/invoke/VarHandle" ∧ (parseMethodDescriptor yX5_isRanked.desc).map (fun d => d.parameters.length) = some 1 := ⟨rfl, by decide +kernel, by decide +kernel, by decide +kernel⟩
theorem hd_X5_isWithdrawn : yX5_isWithdrawn.cls = RX5 ∧ yX5_isWithdrawn.cls ≠ "java/lang/invoke/MethodHandle" ∧ yX5_isWithdrawn.cls ≠ "java/lang/invoke/VarHandle" ∧ (parseMethodDescriptor yX5_isWithdrawn.desc).map (fun d => d.parameters.length) = some 1 := ⟨rfl, by decide +kernel, by decide +kernel, by decide +kernel⟩
theorem hd_X5_kept : yX5_kept.cls = RX5 ∧ yX5_kept.cls ≠ "java/lang/invoke/MethodHandle" ∧ yX5_kept.cls ≠ "java/lang/invoke/VarHandle" ∧ (parseMethodDescriptor yX5_kept.desc).map (fun d => d.parameters.length) = some 2 := ⟨rfl, by decide +kernel, by decide +kernel, by decide +kernel⟩
theorem hd_X5_markWithdrawn : yX5_markWithdrawn.cls = RX5 ∧ yX5_markWithdrawn.cls ≠ "java/lang/invoke/MethodHandle" ∧ yX5_markWithdrawn.cls ≠ "java/lang/invoke/VarHandle" ∧ (parseMethodDescriptor yX5_markWithdrawn.desc).map (fun d => d.parameters.length) = some 1 := ⟨rfl, by decide +kernel, by decide +kernel, by decide +kernel⟩
theorem hd_X5_orderRanked : yX5_orderRanked.cls = RX5 ∧ yX5_orderRanked.cls ≠ "java/lang/invoke/MethodHandle" ∧ yX5_orderRanked.cls ≠ "java/lang/invoke/VarHandle" ∧ (parseMethodDescriptor yX5_orderRanked.desc).map (fun d => d.parameters.length) = some 0 := ⟨rfl, by decide +kernel, by decide +kernel, by decide +kernel⟩
theorem hd_X5_rankedAt : yX5_rankedAt.cls = RX5 ∧ yX5_rankedAt.cls ≠ "java/lang/invoke/MethodHandle" ∧ yX5_rankedAt.cls ≠ "java/lang/invoke/VarHandle" ∧ (parseMethodDescriptor yX5_rankedAt.desc).map (fun d => d.parameters.length) = some 1 := ⟨rfl, by decide +kernel, by decide +kernel, by decide +kernel⟩
theorem hd_X5_rankedCount : yX5_rankedCount.cls = RX5 ∧ yX5_rankedCount.cls ≠ "java/lang/invoke/MethodHandle" ∧ yX5_rankedCount.cls ≠ "java/lang/invoke/VarHandle" ∧ (parseMethodDescriptor yX5_rankedCount.desc).map (fun d => d.parameters.length) = some 0 := ⟨rfl, by decide +kernel, by decide +kernel, by decide +kernel⟩
theorem hd_X6_attack : yX6_attack.cls = RX6 ∧ yX6_attack.cls ≠ "java/lang/invoke/MethodHandle" ∧ yX6_attack.cls ≠ "java/lang/invoke/VarHandle" ∧ (parseMethodDescriptor yX6_attack.desc).map (fun d => d.parameters.length) = some 2 := ⟨rfl, by decide +kernel, by decide +kernel, by decide +kernel⟩
theorem hd_X6_forget : yX6_forget.cls = RX6 ∧ yX6_forget.cls ≠ "java/lang/invoke/MethodHandle" ∧ yX6_forget.cls ≠ "java/lang/invoke/VarHandle" ∧ (parseMethodDescriptor yX6_forget.desc).map (fun d => d.parameters.length) = some 0 := ⟨rfl, by decide +kernel, by decide +kernel, by decide +kernel⟩
theorem hd_X6_give : yX6_give.cls = RX6 ∧ yX6_give.cls ≠ "java/lang/invoke/MethodHandle" ∧ yX6_give.cls ≠ "java/lang/invoke/VarHandle" ∧ (parseMethodDescriptor yX6_give.desc).map (fun d => d.parameters.length) = some 3 := ⟨rfl, by decide +kernel, by decide +kernel, by decide +kernel⟩
theorem hd_X6_parry : yX6_parry.cls = RX6 ∧ yX6_parry.cls ≠ "java/lang/invoke/MethodHandle" ∧ yX6_parry.cls ≠ "java/lang/invoke/VarHandle" ∧ (parseMethodDescriptor yX6_parry.desc).map (fun d => d.parameters.length) = some 2 := ⟨rfl, by decide +kernel, by decide +kernel, by decide +kernel⟩
theorem hd_X6_take : yX6_take.cls = RX6 ∧ yX6_take.cls ≠ "java/lang/invoke/MethodHandle" ∧ yX6_take.cls ≠ "java/lang/invoke/VarHandle" ∧ (parseMethodDescriptor yX6_take.desc).map (fun d => d.parameters.length) = some 3 := ⟨rfl, by decide +kernel, by decide +kernel, by decide +kernel⟩
theorem hd_X7_act : yX7_act.cls = RX7 ∧ yX7_act.cls ≠ "java/lang/invoke/MethodHandle" ∧ yX7_act.cls ≠ "java/lang/invoke/VarHandle" ∧ (parseMethodDescriptor yX7_act.desc).map (fun d => d.parameters.length) = some 3 := ⟨rfl, by decide +kernel, by decide +kernel, by decide +kernel⟩
theorem hd_X7_because : yX7_because.cls = RX7 ∧ yX7_because.cls ≠ "java/lang/invoke/MethodHandle" ∧ yX7_because.cls ≠ "java/lang/invoke/VarHandle" ∧ (parseMethodDescriptor yX7_because.desc).map (fun d => d.parameters.length) = some 2 := ⟨rfl, by decide +kernel, by decide +kernel, by decide +kernel⟩
theorem hd_X7_begin : yX7_begin.cls = RX7 ∧ yX7_begin.cls ≠ "java/lang/invoke/MethodHandle" ∧ yX7_begin.cls ≠ "java/lang/invoke/VarHandle" ∧ (parseMethodDescriptor yX7_begin.desc).map (fun d => d.parameters.length) = some 5 := ⟨rfl, by decide +kernel, by decide +kernel, by decide +kernel⟩
theorem hd_X7_bitOf : yX7_bitOf.cls ≠ "java/lang/invoke/MethodHandle" ∧ yX7_bitOf.cls ≠ "java/lang/invoke/VarHandle" ∧ (parseMethodDescriptor yX7_bitOf.desc).map (fun d => d.parameters.length) = some 1 := ⟨by decide +kernel, by decide +kernel, by decide +kernel⟩
theorem hd_X7_boutAt : yX7_boutAt.cls = RX7 ∧ yX7_boutAt.cls ≠ "java/lang/invoke/MethodHandle" ∧ yX7_boutAt.cls ≠ "java/lang/invoke/VarHandle" ∧ (parseMethodDescriptor yX7_boutAt.desc).map (fun d => d.parameters.length) = some 1 := ⟨rfl, by decide +kernel, by decide +kernel, by decide +kernel⟩
theorem hd_X7_boutOnPiste : yX7_boutOnPiste.cls = RX7 ∧ yX7_boutOnPiste.cls ≠ "java/lang/invoke/MethodHandle" ∧ yX7_boutOnPiste.cls ≠ "java/lang/invoke/VarHandle" ∧ (parseMethodDescriptor yX7_boutOnPiste.desc).map (fun d => d.parameters.length) = some 0 := ⟨rfl, by decide +kernel, by decide +kernel, by decide +kernel⟩
theorem hd_X7_card : yX7_card.cls = RX7 ∧ yX7_card.cls ≠ "java/lang/invoke/MethodHandle" ∧ yX7_card.cls ≠ "java/lang/invoke/VarHandle" ∧ (parseMethodDescriptor yX7_card.desc).map (fun d => d.parameters.length) = some 2 := ⟨rfl, by decide +kernel, by decide +kernel, by decide +kernel⟩
theorem hd_X7_checkMatch : yX7_checkMatch.cls = RX7 ∧ yX7_checkMatch.cls ≠ "java/lang/invoke/MethodHandle" ∧ yX7_checkMatch.cls ≠ "java/lang/invoke/VarHandle" ∧ (parseMethodDescriptor yX7_checkMatch.desc).map (fun d => d.parameters.length) = some 2 := ⟨rfl, by decide +kernel, by decide +kernel, by decide +kernel⟩
theorem hd_X7_checkOfPool : yX7_checkOfPool.cls ≠ "java/lang/invoke/MethodHandle" ∧ yX7_checkOfPool.cls ≠ "java/lang/invoke/VarHandle" ∧ (parseMethodDescriptor yX7_checkOfPool.desc).map (fun d => d.parameters.length) = some 1 := ⟨by decide +kernel, by decide +kernel, by decide +kernel⟩
theorem hd_X7_checkRoomInPhrase : yX7_checkRoomInPhrase.cls = RX7 ∧ yX7_checkRoomInPhrase.cls ≠ "java/lang/invoke/MethodHandle" ∧ yX7_checkRoomInPhrase.cls ≠ "java/lang/invoke/VarHandle" ∧ (parseMethodDescriptor yX7_checkRoomInPhrase.desc).map (fun d => d.parameters.length) = some 1 := ⟨rfl, by decide +kernel, by decide +kernel, by decide +kernel⟩
theorem hd_X7_clearPisteIfOver : yX7_clearPisteIfOver.cls = RX7 ∧ yX7_clearPisteIfOver.cls ≠ "java/lang/invoke/MethodHandle" ∧ yX7_clearPisteIfOver.cls ≠ "java/lang/invoke/VarHandle" ∧ (parseMethodDescriptor yX7_clearPisteIfOver.desc).map (fun d => d.parameters.length) = some 1 := ⟨rfl, by decide +kernel, by decide +kernel, by decide +kernel⟩
theorem hd_X7_clock : yX7_clock.cls = RX7 ∧ yX7_clock.cls ≠ "java/lang/invoke/MethodHandle" ∧ yX7_clock.cls ≠ "java/lang/invoke/VarHandle" ∧ (parseMethodDescriptor yX7_clock.desc).map (fun d => d.parameters.length) = some 1 := ⟨rfl, by decide +kernel, by decide +kernel, by decide +kernel⟩
theorem hd_X7_end : yX7_end.cls = RX7 ∧ yX7_end.cls ≠ "java/lang/invoke/MethodHandle" ∧ yX7_end.cls ≠ "java/lang/invoke/VarHandle" ∧ (parseMethodDescriptor yX7_end.desc).map (fun d => d.parameters.length) = some 0 := ⟨rfl, by decide +kernel, by decide +kernel, by decide +kernel⟩
theorem hd_X7_fencer : yX7_fencer.cls = RX7 ∧ yX7_fencer.cls ≠ "java/lang/invoke/MethodHandle" ∧ yX7_fencer.cls ≠ "java/lang/invoke/VarHandle" ∧ (parseMethodDescriptor yX7_fencer.desc).map (fun d => d.parameters.length) = some 0 := ⟨rfl, by decide +kernel, by decide +kernel, by decide +kernel⟩
theorem hd_X7_hit : yX7_hit.cls = RX7 ∧ yX7_hit.cls ≠ "java/lang/invoke/MethodHandle" ∧ yX7_hit.cls ≠ "java/lang/invoke/VarHandle" ∧ (parseMethodDescriptor yX7_hit.desc).map (fun d => d.parameters.length) = some 4 := ⟨rfl, by decide +kernel, by decide +kernel, by decide +kernel⟩
theorem hd_X7_holder : yX7_holder.cls = RX7 ∧ yX7_holder.cls ≠ "java/lang/invoke/MethodHandle" ∧ yX7_holder.cls ≠ "java/lang/invoke/VarHandle" ∧ (parseMethodDescriptor yX7_holder.desc).map (fun d => d.parameters.length) = some 0 := ⟨rfl, by decide +kernel, by decide +kernel, by decide +kernel⟩
theorem hd_X7_isBusyFor : yX7_isBusyFor.cls = RX7 ∧ yX7_isBusyFor.cls ≠ "java/lang/invoke/MethodHandle" ∧ yX7_isBusyFor.cls ≠ "java/lang/invoke/VarHandle" ∧ (parseMethodDescriptor yX7_isBusyFor.desc).map (fun d => d.parameters.length) = some 2 := ⟨rfl, by decide +kernel, by decide +kernel, by decide +kernel⟩
theorem hd_X7_isFencer : yX7_isFencer.cls = RX7 ∧ yX7_isFencer.cls ≠ "java/lang/invoke/MethodHandle" ∧ yX7_isFencer.cls ≠ "java/lang/invoke/VarHandle" ∧ (parseMethodDescriptor yX7_isFencer.desc).map (fun d => d.parameters.length) = some 1 := ⟨rfl, by decide +kernel, by decide +kernel, by decide +kernel⟩
theorem hd_X7_isSide : yX7_isSide.cls ≠ "java/lang/invoke/MethodHandle" ∧ yX7_isSide.cls ≠ "java/lang/invoke/VarHandle" ∧ (parseMethodDescriptor yX7_isSide.desc).map (fun d => d.parameters.length) = some 1 := ⟨by decide +kernel, by decide +kernel, by decide +kernel⟩
theorem hd_X7_isWithin : yX7_isWithin.cls ≠ "java/lang/invoke/MethodHandle" ∧ yX7_isWithin.cls ≠ "java/lang/invoke/VarHandle" ∧ (parseMethodDescriptor yX7_isWithin.desc).map (fun d => d.parameters.length) = some 3 := ⟨by decide +kernel, by decide +kernel, by decide +kernel⟩
theorem hd_X7_judge : yX7_judge.cls = RX7 ∧ yX7_judge.cls ≠ "java/lang/invoke/MethodHandle" ∧ yX7_judge.cls ≠ "java/lang/invoke/VarHandle" ∧ (parseMethodDescriptor yX7_judge.desc).map (fun d => d.parameters.length) = some 0 := ⟨rfl, by decide +kernel, by decide +kernel, by decide +kernel⟩
theorem hd_X7_judgeByRight : yX7_judgeByRight.cls = RX7 ∧ yX7_judgeByRight.cls ≠ "java/lang/invoke/MethodHandle" ∧ yX7_judgeByRight.cls ≠ "java/lang/invoke/VarHandle" ∧ (parseMethodDescriptor yX7_judgeByRight.desc).map (fun d => d.parameters.length) = some 2 := ⟨rfl, by decide +kernel, by decide +kernel, by decide +kernel⟩
theorem hd_X7_judgeFor : yX7_judgeFor.cls = RX7 ∧ yX7_judgeFor.cls ≠ "java/lang/invoke/MethodHandle" ∧ yX7_judgeFor.cls ≠ "java/lang/invoke/VarHandle" ∧ (parseMethodDescriptor yX7_judgeFor.desc).map (fun d => d.parameters.length) = some 2 := ⟨rfl, by decide +kernel, by decide +kernel, by decide +kernel⟩
theorem hd_X7_lamp : yX7_lamp.cls = RX7 ∧ yX7_lamp.cls ≠ "java/lang/invoke/MethodHandle" ∧ yX7_lamp.cls ≠ "java/lang/invoke/VarHandle" ∧ (parseMethodDescriptor yX7_lamp.desc).map (fun d => d.parameters.length) = some 1 := ⟨rfl, by decide +kernel, by decide +kernel, by decide +kernel⟩
theorem hd_X7_meets : yX7_meets.cls = RX7 ∧ yX7_meets.cls ≠ "java/lang/invoke/MethodHandle" ∧ yX7_meets.cls ≠ "java/lang/invoke/VarHandle" ∧ (parseMethodDescriptor yX7_meets.desc).map (fun d => d.parameters.length) = some 3 := ⟨rfl, by decide +kernel, by decide +kernel, by decide +kernel⟩
theorem hd_X7_ofBout : yX7_ofBout.cls = RX7 ∧ yX7_ofBout.cls ≠ "java/lang/invoke/MethodHandle" ∧ yX7_ofBout.cls ≠ "java/lang/invoke/VarHandle" ∧ (parseMethodDescriptor yX7_ofBout.desc).map (fun d => d.parameters.length) = some 2 := ⟨rfl, by decide +kernel, by decide +kernel, by decide +kernel⟩
theorem hd_X7_ofPool : yX7_ofPool.cls = RX7 ∧ yX7_ofPool.cls ≠ "java/lang/invoke/MethodHandle" ∧ yX7_ofPool.cls ≠ "java/lang/invoke/VarHandle" ∧ (parseMethodDescriptor yX7_ofPool.desc).map (fun d => d.parameters.length) = some 3 := ⟨rfl, by decide +kernel, by decide +kernel, by decide +kernel⟩
theorem hd_X7_ofPoolAnew : yX7_ofPoolAnew.cls = RX7 ∧ yX7_ofPoolAnew.cls ≠ "java/lang/invoke/MethodHandle" ∧ yX7_ofPoolAnew.cls ≠ "java/lang/invoke/VarHandle" ∧ (parseMethodDescriptor yX7_ofPoolAnew.desc).map (fun d => d.parameters.length) = some 3 := ⟨rfl, by decide +kernel, by decide +kernel, by decide +kernel⟩
theorem hd_X7_pool : yX7_pool.cls = RX7 ∧ yX7_pool.cls ≠ "java/lang/invoke/MethodHandle" ∧ yX7_pool.cls ≠ "java/lang/invoke/VarHandle" ∧ (parseMethodDescriptor yX7_pool.desc).map (fun d => d.parameters.length) = some 1 := ⟨rfl, by decide +kernel, by decide +kernel, by decide +kernel⟩
theorem hd_X7_poolOf : yX7_poolOf.cls = RX7 ∧ yX7_poolOf.cls ≠ "java/lang/invoke/MethodHandle" ∧ yX7_poolOf.cls ≠ "java/lang/invoke/VarHandle" ∧ (parseMethodDescriptor yX7_poolOf.desc).map (fun d => d.parameters.length) = some 1 := ⟨rfl, by decide +kernel, by decide +kernel, by decide +kernel⟩
theorem hd_X7_poolWith : yX7_poolWith.cls = RX7 ∧ yX7_poolWith.cls ≠ "java/lang/invoke/MethodHandle" ∧ yX7_poolWith.cls ≠ "java/lang/invoke/VarHandle" ∧ (parseMethodDescriptor yX7_poolWith.desc).map (fun d => d.parameters.length) = some 2 := ⟨rfl, by decide +kernel, by decide +kernel, by decide +kernel⟩
theorem hd_X7_putOnPiste : yX7_putOnPiste.cls = RX7 ∧ yX7_putOnPiste.cls ≠ "java/lang/invoke/MethodHandle" ∧ yX7_putOnPiste.cls ≠ "java/lang/invoke/VarHandle" ∧ (parseMethodDescriptor yX7_putOnPiste.desc).map (fun d => d.parameters.length) = some 1 := ⟨rfl, by decide +kernel, by decide +kernel, by decide +kernel⟩
theorem hd_X7_rank : yX7_rank.cls = RX7 ∧ yX7_rank.cls ≠ "java/lang/invoke/MethodHandle" ∧ yX7_rank.cls ≠ "java/lang/invoke/VarHandle" ∧ (parseMethodDescriptor yX7_rank.desc).map (fun d => d.parameters.length) = some 2 := ⟨rfl, by decide +kernel, by decide +kernel, by decide +kernel⟩
theorem hd_X7_reason : yX7_reason.cls = RX7 ∧ yX7_reason.cls ≠ "java/lang/invoke/MethodHandle" ∧ yX7_reason.cls ≠ "java/lang/invoke/VarHandle" ∧ (parseMethodDescriptor yX7_reason.desc).map (fun d => d.parameters.length) = some 0 := ⟨rfl, by decide +kernel, by decide +kernel, by decide +kernel⟩
theorem hd_X7_seed : yX7_seed.cls = RX7 ∧ yX7_seed.cls ≠ "java/lang/invoke/MethodHandle" ∧ yX7_seed.cls ≠ "java/lang/invoke/VarHandle" ∧ (parseMethodDescriptor yX7_seed.desc).map (fun d => d.parameters.length) = some 1 := ⟨rfl, by decide +kernel, by decide +kernel, by decide +kernel⟩
theorem hd_X7_tableau : yX7_tableau.cls = RX7 ∧ yX7_tableau.cls ≠ "java/lang/invoke/MethodHandle" ∧ yX7_tableau.cls ≠ "java/lang/invoke/VarHandle" ∧ (parseMethodDescriptor yX7_tableau.desc).map (fun d => d.parameters.length) = some 1 := ⟨rfl, by decide +kernel, by decide +kernel, by decide +kernel⟩
theorem hd_X7_wins : yX7_wins.cls = RX7 ∧ yX7_wins.cls ≠ "java/lang/invoke/MethodHandle" ∧ yX7_wins.cls ≠ "java/lang/invoke/VarHandle" ∧ (parseMethodDescriptor yX7_wins.desc).map (fun d => d.parameters.length) = some 3 := ⟨rfl, by decide +kernel, by decide +kernel, by decide +kernel⟩
theorem hd_X7_withdraw : yX7_withdraw.cls = RX7 ∧ yX7_withdraw.cls ≠ "java/lang/invoke/MethodHandle" ∧ yX7_withdraw.cls ≠ "java/lang/invoke/VarHandle" ∧ (parseMethodDescriptor yX7_withdraw.desc).map (fun d => d.parameters.length) = some 2 := ⟨rfl, by decide +kernel, by decide +kernel, by decide +kernel⟩
theorem hd_X8_act : yX8_act.cls = RX8 ∧ yX8_act.cls ≠ "java/lang/invoke/MethodHandle" ∧ yX8_act.cls ≠ "java/lang/invoke/VarHandle" ∧ (parseMethodDescriptor yX8_act.desc).map (fun d => d.parameters.length) = some 3 := ⟨rfl, by decide +kernel, by decide +kernel, by decide +kernel⟩
theorem hd_X8_ahead : yX8_ahead.cls = RX8 ∧ yX8_ahead.cls ≠ "java/lang/invoke/MethodHandle" ∧ yX8_ahead.cls ≠ "java/lang/invoke/VarHandle" ∧ (parseMethodDescriptor yX8_ahead.desc).map (fun d => d.parameters.length) = some 0 := ⟨rfl, by decide +kernel, by decide +kernel, by decide +kernel⟩
theorem hd_X8_begin : yX8_begin.cls = RX8 ∧ yX8_begin.cls ≠ "java/lang/invoke/MethodHandle" ∧ yX8_begin.cls ≠ "java/lang/invoke/VarHandle" ∧ (parseMethodDescriptor yX8_begin.desc).map (fun d => d.parameters.length) = some 5 := ⟨rfl, by decide +kernel, by decide +kernel, by decide +kernel⟩
theorem hd_X8_card : yX8_card.cls = RX8 ∧ yX8_card.cls ≠ "java/lang/invoke/MethodHandle" ∧ yX8_card.cls ≠ "java/lang/invoke/VarHandle" ∧ (parseMethodDescriptor yX8_card.desc).map (fun d => d.parameters.length) = some 2 := ⟨rfl, by decide +kernel, by decide +kernel, by decide +kernel⟩
theorem hd_X8_clock : yX8_clock.cls = RX8 ∧ yX8_clock.cls ≠ "java/lang/invoke/MethodHandle" ∧ yX8_clock.cls ≠ "java/lang/invoke/VarHandle" ∧ (parseMethodDescriptor yX8_clock.desc).map (fun d => d.parameters.length) = some 1 := ⟨rfl, by decide +kernel, by decide +kernel, by decide +kernel⟩
theorem hd_X8_end : yX8_end.cls = RX8 ∧ yX8_end.cls ≠ "java/lang/invoke/MethodHandle" ∧ yX8_end.cls ≠ "java/lang/invoke/VarHandle" ∧ (parseMethodDescriptor yX8_end.desc).map (fun d => d.parameters.length) = some 0 := ⟨rfl, by decide +kernel, by decide +kernel, by decide +kernel⟩
theorem hd_X8_ends : yX8_ends.cls = RX8 ∧ yX8_ends.cls ≠ "java/lang/invoke/MethodHandle" ∧ yX8_ends.cls ≠ "java/lang/invoke/VarHandle" ∧ (parseMethodDescriptor yX8_ends.desc).map (fun d => d.parameters.length) = some 1 := ⟨rfl, by decide +kernel, by decide +kernel, by decide +kernel⟩
theorem hd_X8_fencer : yX8_fencer.cls = RX8 ∧ yX8_fencer.cls ≠ "java/lang/invoke/MethodHandle" ∧ yX8_fencer.cls ≠ "java/lang/invoke/VarHandle" ∧ (parseMethodDescriptor yX8_fencer.desc).map (fun d => d.parameters.length) = some 0 := ⟨rfl, by decide +kernel, by decide +kernel, by decide +kernel⟩
theorem hd_X8_given : yX8_given.cls = RX8 ∧ yX8_given.cls ≠ "java/lang/invoke/MethodHandle" ∧ yX8_given.cls ≠ "java/lang/invoke/VarHandle" ∧ (parseMethodDescriptor yX8_given.desc).map (fun d => d.parameters.length) = some 0 := ⟨rfl, by decide +kernel, by decide +kernel, by decide +kernel⟩
theorem hd_X8_gives : yX8_gives.cls = RX8 ∧ yX8_gives.cls ≠ "java/lang/invoke/MethodHandle" ∧ yX8_gives.cls ≠ "java/lang/invoke/VarHandle" ∧ (parseMethodDescriptor yX8_gives.desc).map (fun d => d.parameters.length) = some 1 := ⟨rfl, by decide +kernel, by decide +kernel, by decide +kernel⟩
theorem hd_X8_has : yX8_has.cls ≠ "java/lang/invoke/MethodHandle" ∧ yX8_has.cls ≠ "java/lang/invoke/VarHandle" ∧ (parseMethodDescriptor yX8_has.desc).map (fun d => d.parameters.length) = some 2 := ⟨by decide +kernel, by decide +kernel, by decide +kernel⟩
theorem hd_X8_hit : yX8_hit.cls = RX8 ∧ yX8_hit.cls ≠ "java/lang/invoke/MethodHandle" ∧ yX8_hit.cls ≠ "java/lang/invoke/VarHandle" ∧ (parseMethodDescriptor yX8_hit.desc).map (fun d => d.parameters.length) = some 4 := ⟨rfl, by decide +kernel, by decide +kernel, by decide +kernel⟩
theorem hd_X8_holder : yX8_holder.cls = RX8 ∧ yX8_holder.cls ≠ "java/lang/invoke/MethodHandle" ∧ yX8_holder.cls ≠ "java/lang/invoke/VarHandle" ∧ (parseMethodDescriptor yX8_holder.desc).map (fun d => d.parameters.length) = some 0 := ⟨rfl, by decide +kernel, by decide +kernel, by decide +kernel⟩
theorem hd_X8_isBetter : yX8_isBetter.cls = RX8 ∧ yX8_isBetter.cls ≠ "java/lang/invoke/MethodHandle" ∧ yX8_isBetter.cls ≠ "java/lang/invoke/VarHandle" ∧ (parseMethodDescriptor yX8_isBetter.desc).map (fun d => d.parameters.length) = some 3 := ⟨rfl, by decide +kernel, by decide +kernel, by decide +kernel⟩
theorem hd_X8_isFencer : yX8_isFencer.cls = RX8 ∧ yX8_isFencer.cls ≠ "java/lang/invoke/MethodHandle" ∧ yX8_isFencer.cls ≠ "java/lang/invoke/VarHandle" ∧ (parseMethodDescriptor yX8_isFencer.desc).map (fun d => d.parameters.length) = some 1 := ⟨rfl, by decide +kernel, by decide +kernel, by decide +kernel⟩
theorem hd_X8_isIn : yX8_isIn.cls ≠ "java/lang/invoke/MethodHandle" ∧ yX8_isIn.cls ≠ "java/lang/invoke/VarHandle" ∧ (parseMethodDescriptor yX8_isIn.desc).map (fun d => d.parameters.length) = some 3 := ⟨by decide +kernel, by decide +kernel, by decide +kernel⟩
theorem hd_X8_isMatch : yX8_isMatch.cls = RX8 ∧ yX8_isMatch.cls ≠ "java/lang/invoke/MethodHandle" ∧ yX8_isMatch.cls ≠ "java/lang/invoke/VarHandle" ∧ (parseMethodDescriptor yX8_isMatch.desc).map (fun d => d.parameters.length) = some 2 := ⟨rfl, by decide +kernel, by decide +kernel, by decide +kernel⟩
theorem hd_X8_isMember : yX8_isMember.cls = RX8 ∧ yX8_isMember.cls ≠ "java/lang/invoke/MethodHandle" ∧ yX8_isMember.cls ≠ "java/lang/invoke/VarHandle" ∧ (parseMethodDescriptor yX8_isMember.desc).map (fun d => d.parameters.length) = some 2 := ⟨rfl, by decide +kernel, by decide +kernel, by decide +kernel⟩
theorem hd_X8_isPool : yX8_isPool.cls = RX8 ∧ yX8_isPool.cls ≠ "java/lang/invoke/MethodHandle" ∧ yX8_isPool.cls ≠ "java/lang/invoke/VarHandle" ∧ (parseMethodDescriptor yX8_isPool.desc).map (fun d => d.parameters.length) = some 1 := ⟨rfl, by decide +kernel, by decide +kernel, by decide +kernel⟩
theorem hd_X8_isSide : yX8_isSide.cls ≠ "java/lang/invoke/MethodHandle" ∧ yX8_isSide.cls ≠ "java/lang/invoke/VarHandle" ∧ (parseMethodDescriptor yX8_isSide.desc).map (fun d => d.parameters.length) = some 1 := ⟨by decide +kernel, by decide +kernel, by decide +kernel⟩
theorem hd_X8_isWon : yX8_isWon.cls = RX8 ∧ yX8_isWon.cls ≠ "java/lang/invoke/MethodHandle" ∧ yX8_isWon.cls ≠ "java/lang/invoke/VarHandle" ∧ (parseMethodDescriptor yX8_isWon.desc).map (fun d => d.parameters.length) = some 3 := ⟨rfl, by decide +kernel, by decide +kernel, by decide +kernel⟩
theorem hd_X8_judge : yX8_judge.cls = RX8 ∧ yX8_judge.cls ≠ "java/lang/invoke/MethodHandle" ∧ yX8_judge.cls ≠ "java/lang/invoke/VarHandle" ∧ (parseMethodDescriptor yX8_judge.desc).map (fun d => d.parameters.length) = some 0 := ⟨rfl, by decide +kernel, by decide +kernel, by decide +kernel⟩
theorem hd_X8_lamp : yX8_lamp.cls = RX8 ∧ yX8_lamp.cls ≠ "java/lang/invoke/MethodHandle" ∧ yX8_lamp.cls ≠ "java/lang/invoke/VarHandle" ∧ (parseMethodDescriptor yX8_lamp.desc).map (fun d => d.parameters.length) = some 1 := ⟨rfl, by decide +kernel, by decide +kernel, by decide +kernel⟩
theorem hd_X8_least : yX8_least.cls ≠ "java/lang/invoke/MethodHandle" ∧ yX8_least.cls ≠ "java/lang/invoke/VarHandle" ∧ (parseMethodDescriptor yX8_least.desc).map (fun d => d.parameters.length) = some 1 := ⟨by decide +kernel, by decide +kernel, by decide +kernel⟩
theorem hd_X8_locks : yX8_locks.cls ≠ "java/lang/invoke/MethodHandle" ∧ yX8_locks.cls ≠ "java/lang/invoke/VarHandle" ∧ (parseMethodDescriptor yX8_locks.desc).map (fun d => d.parameters.length) = some 1 := ⟨by decide +kernel, by decide +kernel, by decide +kernel⟩
theorem hd_X8_many : yX8_many.cls ≠ "java/lang/invoke/MethodHandle" ∧ yX8_many.cls ≠ "java/lang/invoke/VarHandle" ∧ (parseMethodDescriptor yX8_many.desc).map (fun d => d.parameters.length) = some 1 := ⟨by decide +kernel, by decide +kernel, by decide +kernel⟩
theorem hd_X8_may : yX8_may.cls = RX8 ∧ yX8_may.cls ≠ "java/lang/invoke/MethodHandle" ∧ yX8_may.cls ≠ "java/lang/invoke/VarHandle" ∧ (parseMethodDescriptor yX8_may.desc).map (fun d => d.parameters.length) = some 1 := ⟨rfl, by decide +kernel, by decide +kernel, by decide +kernel⟩
theorem hd_X8_meets : yX8_meets.cls = RX8 ∧ yX8_meets.cls ≠ "java/lang/invoke/MethodHandle" ∧ yX8_meets.cls ≠ "java/lang/invoke/VarHandle" ∧ (parseMethodDescriptor yX8_meets.desc).map (fun d => d.parameters.length) = some 3 := ⟨rfl, by decide +kernel, by decide +kernel, by decide +kernel⟩
theorem hd_X8_next : yX8_next.cls ≠ "java/lang/invoke/MethodHandle" ∧ yX8_next.cls ≠ "java/lang/invoke/VarHandle" ∧ (parseMethodDescriptor yX8_next.desc).map (fun d => d.parameters.length) = some 1 := ⟨by decide +kernel, by decide +kernel, by decide +kernel⟩
theorem hd_X8_ofBout : yX8_ofBout.cls = RX8 ∧ yX8_ofBout.cls ≠ "java/lang/invoke/MethodHandle" ∧ yX8_ofBout.cls ≠ "java/lang/invoke/VarHandle" ∧ (parseMethodDescriptor yX8_ofBout.desc).map (fun d => d.parameters.length) = some 2 := ⟨rfl, by decide +kernel, by decide +kernel, by decide +kernel⟩
theorem hd_X8_ofPool : yX8_ofPool.cls = RX8 ∧ yX8_ofPool.cls ≠ "java/lang/invoke/MethodHandle" ∧ yX8_ofPool.cls ≠ "java/lang/invoke/VarHandle" ∧ (parseMethodDescriptor yX8_ofPool.desc).map (fun d => d.parameters.length) = some 3 := ⟨rfl, by decide +kernel, by decide +kernel, by decide +kernel⟩
theorem hd_X8_ofPoolAnew : yX8_ofPoolAnew.cls = RX8 ∧ yX8_ofPoolAnew.cls ≠ "java/lang/invoke/MethodHandle" ∧ yX8_ofPoolAnew.cls ≠ "java/lang/invoke/VarHandle" ∧ (parseMethodDescriptor yX8_ofPoolAnew.desc).map (fun d => d.parameters.length) = some 3 := ⟨rfl, by decide +kernel, by decide +kernel, by decide +kernel⟩
theorem hd_X8_ofPools : yX8_ofPools.cls = RX8 ∧ yX8_ofPools.cls ≠ "java/lang/invoke/MethodHandle" ∧ yX8_ofPools.cls ≠ "java/lang/invoke/VarHandle" ∧ (parseMethodDescriptor yX8_ofPools.desc).map (fun d => d.parameters.length) = some 3 := ⟨rfl, by decide +kernel, by decide +kernel, by decide +kernel⟩
theorem hd_X8_orderAt : yX8_orderAt.cls ≠ "java/lang/invoke/MethodHandle" ∧ yX8_orderAt.cls ≠ "java/lang/invoke/VarHandle" ∧ (parseMethodDescriptor yX8_orderAt.desc).map (fun d => d.parameters.length) = some 2 := ⟨by decide +kernel, by decide +kernel, by decide +kernel⟩
theorem hd_X8_pool : yX8_pool.cls = RX8 ∧ yX8_pool.cls ≠ "java/lang/invoke/MethodHandle" ∧ yX8_pool.cls ≠ "java/lang/invoke/VarHandle" ∧ (parseMethodDescriptor yX8_pool.desc).map (fun d => d.parameters.length) = some 1 := ⟨rfl, by decide +kernel, by decide +kernel, by decide +kernel⟩
theorem hd_X8_puts : yX8_puts.cls = RX8 ∧ yX8_puts.cls ≠ "java/lang/invoke/MethodHandle" ∧ yX8_puts.cls ≠ "java/lang/invoke/VarHandle" ∧ (parseMethodDescriptor yX8_puts.desc).map (fun d => d.parameters.length) = some 3 := ⟨rfl, by decide +kernel, by decide +kernel, by decide +kernel⟩
theorem hd_X8_rank : yX8_rank.cls = RX8 ∧ yX8_rank.cls ≠ "java/lang/invoke/MethodHandle" ∧ yX8_rank.cls ≠ "java/lang/invoke/VarHandle" ∧ (parseMethodDescriptor yX8_rank.desc).map (fun d => d.parameters.length) = some 2 := ⟨rfl, by decide +kernel, by decide +kernel, by decide +kernel⟩
theorem hd_X8_ranks : yX8_ranks.cls = RX8 ∧ yX8_ranks.cls ≠ "java/lang/invoke/MethodHandle" ∧ yX8_ranks.cls ≠ "java/lang/invoke/VarHandle" ∧ (parseMethodDescriptor yX8_ranks.desc).map (fun d => d.parameters.length) = some 1 := ⟨rfl, by decide +kernel, by decide +kernel, by decide +kernel⟩
theorem hd_X8_reason : yX8_reason.cls = RX8 ∧ yX8_reason.cls ≠ "java/lang/invoke/MethodHandle" ∧ yX8_reason.cls ≠ "java/lang/invoke/VarHandle" ∧ (parseMethodDescriptor yX8_reason.desc).map (fun d => d.parameters.length) = some 0 := ⟨rfl, by decide +kernel, by decide +kernel, by decide +kernel⟩
theorem hd_X8_registered : yX8_registered.cls = RX8 ∧ yX8_registered.cls ≠ "java/lang/invoke/MethodHandle" ∧ yX8_registered.cls ≠ "java/lang/invoke/VarHandle" ∧ (parseMethodDescriptor yX8_registered.desc).map (fun d => d.parameters.length) = some 1 := ⟨rfl, by decide +kernel, by decide +kernel, by decide +kernel⟩
theorem hd_X8_rights : yX8_rights.cls = RX8 ∧ yX8_rights.cls ≠ "java/lang/invoke/MethodHandle" ∧ yX8_rights.cls ≠ "java/lang/invoke/VarHandle" ∧ (parseMethodDescriptor yX8_rights.desc).map (fun d => d.parameters.length) = some 1 := ⟨rfl, by decide +kernel, by decide +kernel, by decide +kernel⟩
theorem hd_X8_rounds : yX8_rounds.cls ≠ "java/lang/invoke/MethodHandle" ∧ yX8_rounds.cls ≠ "java/lang/invoke/VarHandle" ∧ (parseMethodDescriptor yX8_rounds.desc).map (fun d => d.parameters.length) = some 1 := ⟨by decide +kernel, by decide +kernel, by decide +kernel⟩
theorem hd_X8_second : yX8_second.cls = RX8 ∧ yX8_second.cls ≠ "java/lang/invoke/MethodHandle" ∧ yX8_second.cls ≠ "java/lang/invoke/VarHandle" ∧ (parseMethodDescriptor yX8_second.desc).map (fun d => d.parameters.length) = some 0 := ⟨rfl, by decide +kernel, by decide +kernel, by decide +kernel⟩
theorem hd_X8_seed : yX8_seed.cls = RX8 ∧ yX8_seed.cls ≠ "java/lang/invoke/MethodHandle" ∧ yX8_seed.cls ≠ "java/lang/invoke/VarHandle" ∧ (parseMethodDescriptor yX8_seed.desc).map (fun d => d.parameters.length) = some 1 := ⟨rfl, by decide +kernel, by decide +kernel, by decide +kernel⟩
theorem hd_X8_sideIn : yX8_sideIn.cls = RX8 ∧ yX8_sideIn.cls ≠ "java/lang/invoke/MethodHandle" ∧ yX8_sideIn.cls ≠ "java/lang/invoke/VarHandle" ∧ (parseMethodDescriptor yX8_sideIn.desc).map (fun d => d.parameters.length) = some 3 := ⟨rfl, by decide +kernel, by decide +kernel, by decide +kernel⟩
theorem hd_X8_tableau : yX8_tableau.cls = RX8 ∧ yX8_tableau.cls ≠ "java/lang/invoke/MethodHandle" ∧ yX8_tableau.cls ≠ "java/lang/invoke/VarHandle" ∧ (parseMethodDescriptor yX8_tableau.desc).map (fun d => d.parameters.length) = some 1 := ⟨rfl, by decide +kernel, by decide +kernel, by decide +kernel⟩
theorem hd_X8_tells : yX8_tells.cls = RX8 ∧ yX8_tells.cls ≠ "java/lang/invoke/MethodHandle" ∧ yX8_tells.cls ≠ "java/lang/invoke/VarHandle" ∧ (parseMethodDescriptor yX8_tells.desc).map (fun d => d.parameters.length) = some 3 := ⟨rfl, by decide +kernel, by decide +kernel, by decide +kernel⟩
theorem hd_X8_thrown : yX8_thrown.cls = RX8 ∧ yX8_thrown.cls ≠ "java/lang/invoke/MethodHandle" ∧ yX8_thrown.cls ≠ "java/lang/invoke/VarHandle" ∧ (parseMethodDescriptor yX8_thrown.desc).map (fun d => d.parameters.length) = some 0 := ⟨rfl, by decide +kernel, by decide +kernel, by decide +kernel⟩
theorem hd_X8_wins : yX8_wins.cls = RX8 ∧ yX8_wins.cls ≠ "java/lang/invoke/MethodHandle" ∧ yX8_wins.cls ≠ "java/lang/invoke/VarHandle" ∧ (parseMethodDescriptor yX8_wins.desc).map (fun d => d.parameters.length) = some 3 := ⟨rfl, by decide +kernel, by decide +kernel, by decide +kernel⟩
theorem hd_X8_withdraw : yX8_withdraw.cls = RX8 ∧ yX8_withdraw.cls ≠ "java/lang/invoke/MethodHandle" ∧ yX8_withdraw.cls ≠ "java/lang/invoke/VarHandle" ∧ (parseMethodDescriptor yX8_withdraw.desc).map (fun d => d.parameters.length) = some 2 := ⟨rfl, by decide +kernel, by decide +kernel, by decide +kernel⟩
