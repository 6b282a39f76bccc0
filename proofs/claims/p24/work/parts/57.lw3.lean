set_option maxRecDepth 20000 in
set_option maxHeartbeats 4000000 in
theorem c_L_quick (l : Launch) (hfl : l.stackTraces = false) (κ : KP) (γ : St) (y1 : Int32) (y2 : Int32) (y3 : Int32) (y4 : Int32) (hk : (x_L_quick y1 y2 y3 y4 γ).1 = 0) : Met l yL_quick [Cond.code yL_quick cL_quick 5 (some .boolean)] ({ frames := 9, cells := 8, slots := 95, locals := 191 } : Room) (va_Pc [.ref (kA κ 7 0), .int y1, .int y2, .int y3, .int y4] (GW κ γ)) (QL κ (x_L_quick y1 y2 y3 y4 γ).2.2 (some (.int (x_L_quick y1 y2 y3 y4 γ).2.1))) 8 95 (AA κ) := by
  generalize hq : x_L_quick y1 y2 y3 y4 γ = res at hk ⊢
  refine Met.ofW (cc := cL_quick) (maxL := 5) (ret := (some .boolean)) (by decide) rfl ?_
  intro p e s m args below meth c s₁ B hml9 hv
  obtain ⟨rfl, hH, hK9, hB9, hX9, hZ9⟩ := hv
  have hC : CX κ cL_quick "PhrasehallLaw" 5 p l s m ([.ref (kA κ 7 0), .int y1, .int y2, .int y3, .int y4] : List Value).toArray meth c := ⟨B.exec, B.bytes, findClass_of_methodNamed B.named, fun w hw => tw_use (List.mem_filter.mp hw).2 (State.WarmedH.refl s) (hX9.1 w hw), hK9, hX9, hZ9, hB9, hml9, B.notSynchronized⟩
  obtain ⟨hx, hb, hown, hT, -, -, -, -, hml, -⟩ := id hC
  have hr := B.returns
  have hS : va_S (AA κ) s.heap s.heap [] := va_S.rf
  have hl := lv_entry ([.ref (kA κ 7 0), .int y1, .int y2, .int y3, .int y4]) (n := 5) (Nat.le_of_ble_eq_true rfl)
  rw [lg_entry_eq]
  generalize (lg_sl ([.ref (kA κ 7 0), .int y1, .int y2, .int y3, .int y4]) ++ List.replicate (5 - (lg_sl ([.ref (kA κ 7 0), .int y1, .int y2, .int y3, .int y4])).length) Slot.unset).toArray = ls at hl ⊢
  have hl : lv_has ls 5 [(0, .ref (kA κ 7 0)), (1, .int y1), (2, .int y2), (3, .int y3), (4, .int y4)] := hl
  have hc1 : 0 + 8 ≤ 8 := Nat.le_of_ble_eq_true rfl
  have hc2 : 0 + 95 ≤ 95 := Nat.le_of_ble_eq_true rfl
  have b_54 : ∀ (γ : St) (H : Heap) (locs : List Loc) (ls : Array Slot) (cells slots : Nat), lv_has ls 5 [] → HE κ γ H → va_S (AA κ) s.heap H locs → cells + (0) ≤ 8 → slots + (0) ≤ 95 → x_L_quick_54 γ = res → W p l e (headSpec [Cond.code yL_quick cL_quick 5 (some .boolean)] ({ frames := 9, cells := 8, slots := 95, locals := 191 } : Room)).room s m ([.ref (kA κ 7 0), .int y1, .int y2, .int y3, .int y4] : List Value).toArray below meth c H locs cells slots (MQ below (QL κ res.2.2 (some (.int res.2.1))) ([.ref (kA κ 7 0), .int y1, .int y2, .int y3, .int y4] : List Value).toArray s 8 95 (AA κ)) (F0 m 54 ls []) := by
    intro γ H locs ls cells slots hl hH hS hc1 hc2 hq
    refine lv_iconst (v := 0) hx hb dL_quick_54 (by decide) ?_
    subst hq
    exact er_z hC hr rfl hH hS rfl rfl (by omega) (by omega) dL_quick_55
  have b_45 : ∀ (s0 : Int32) (γ : St) (H : Heap) (locs : List Loc) (ls : Array Slot) (cells slots : Nat), lv_has ls 5 [] → HE κ γ H → va_S (AA κ) s.heap H locs → cells + (0) ≤ 8 → slots + (0) ≤ 95 → x_L_quick_45 s0 γ = res → W p l e (headSpec [Cond.code yL_quick cL_quick 5 (some .boolean)] ({ frames := 9, cells := 8, slots := 95, locals := 191 } : Room)).room s m ([.ref (kA κ 7 0), .int y1, .int y2, .int y3, .int y4] : List Value).toArray below meth c H locs cells slots (MQ below (QL κ res.2.2 (some (.int res.2.1))) ([.ref (kA κ 7 0), .int y1, .int y2, .int y3, .int y4] : List Value).toArray s 8 95 (AA κ)) (F0 m 45 ls [.int s0]) := by
    intro s0 γ H locs ls cells slots hl hH hS hc1 hc2 hq
    refine lv_bipush (v := (-73)) hx hb dL_quick_45 (by decide) ?_
    refine lv_icmp_ne (tgt := 54) hx hb dL_quick_47 (by decide) (fun c29 => ?_) (fun c29 => ?_)
    · have hq := ifne hq c29
      exact b_54 γ _ _ _ _ _ (lv_sub hl [] rfl) hH hS (by omega) (by omega) hq
    · have hq := ifpe hq c29
      refine lv_iconst (v := 1) hx hb dL_quick_50 (by decide) ?_
      refine lv_goto (tgt := 55) hx hb dL_quick_51 (by decide) ?_
      subst hq
      exact er_z hC hr rfl hH hS rfl rfl (by omega) (by omega) dL_quick_55
  have b_29 : ∀ (a3 : Int32) (s0 : Int32) (γ : St) (H : Heap) (locs : List Loc) (ls : Array Slot) (cells slots : Nat), lv_has ls 5 [(0, .ref (kA κ 7 0)), (3, .int a3)] → HE κ γ H → va_S (AA κ) s.heap H locs → cells + (3) ≤ 8 → slots + (65) ≤ 95 → x_L_quick_29 a3 s0 γ = res → W p l e (headSpec [Cond.code yL_quick cL_quick 5 (some .boolean)] ({ frames := 9, cells := 8, slots := 95, locals := 191 } : Room)).room s m ([.ref (kA κ 7 0), .int y1, .int y2, .int y3, .int y4] : List Value).toArray below meth c H locs cells slots (MQ below (QL κ res.2.2 (some (.int res.2.1))) ([.ref (kA κ 7 0), .int y1, .int y2, .int y3, .int y4] : List Value).toArray s 8 95 (AA κ)) (F0 m 29 ls [.int s0]) := by
    intro a3 s0 γ H locs ls cells slots hl hH hS hc1 hc2 hq
    refine lv_iconst (v := 1) hx hb dL_quick_29 (by decide) ?_
    refine lv_iload_n hx hb dL_quick_30 rfl (lv_at hl 1 rfl) ?_
    refine lv_ishl hx hb dL_quick_31 ?_
    refine lv_icmp_ne (tgt := 54) hx hb dL_quick_32 (by decide) (fun c30 => ?_) (fun c30 => ?_)
    · have hq := ifne hq c30
      exact b_54 γ _ _ _ _ _ (lv_sub hl [] rfl) hH hS (by omega) (by omega) hq
    · have hq := ifpe hq c30
      refine lv_aload_n hx hb dL_quick_35 rfl (lv_at hl 0 rfl) ?_
      refine lv_iconst (v := 4) hx hb dL_quick_36 (by decide) ?_
      refine lv_iconst (v := 0) hx hb dL_quick_37 (by decide) ?_
      refine lv_iconst (v := 0) hx hb dL_quick_38 (by decide) ?_
      refine lv_iconst (v := 0) hx hb dL_quick_39 (by decide) ?_
      refine lv_iconst (v := 0) hx hb dL_quick_40 (by decide) ?_
      refine lv_iconst (v := 0) hx hb dL_quick_41 (by decide) ?_
      refine e_callW (rest := []) hC hl hH hS (c_L_call l hfl κ γ 4 0 0 0 0 0) tw_430 tw_431 tw_37 tw_432 hd_L_call ⟨Nat.le_of_ble_eq_true rfl, Nat.le_of_ble_eq_true rfl⟩ rfl rfl rfl rfl (Nat.le_of_ble_eq_true rfl) dL_quick_42 ⟨by show _ ≤ 8; omega, by show _ ≤ 95; omega⟩ rfl (fun H locs hH hS => ?_)
      exact b_45 ((x_L_call 4 0 0 0 0 0 γ).1) (x_L_call 4 0 0 0 0 0 γ).2 _ _ _ _ _ (lv_sub hl [] rfl) hH hS (by omega) (by omega) hq
  have b_21 : ∀ (a3 : Int32) (s0 : Int32) (γ : St) (H : Heap) (locs : List Loc) (ls : Array Slot) (cells slots : Nat), lv_has ls 5 [(0, .ref (kA κ 7 0)), (3, .int a3)] → HE κ γ H → va_S (AA κ) s.heap H locs → cells + (4) ≤ 8 → slots + (71) ≤ 95 → x_L_quick_21 a3 s0 γ = res → W p l e (headSpec [Cond.code yL_quick cL_quick 5 (some .boolean)] ({ frames := 9, cells := 8, slots := 95, locals := 191 } : Room)).room s m ([.ref (kA κ 7 0), .int y1, .int y2, .int y3, .int y4] : List Value).toArray below meth c H locs cells slots (MQ below (QL κ res.2.2 (some (.int res.2.1))) ([.ref (kA κ 7 0), .int y1, .int y2, .int y3, .int y4] : List Value).toArray s 8 95 (AA κ)) (F0 m 21 ls [.int s0]) := by
    intro a3 s0 γ H locs ls cells slots hl hH hS hc1 hc2 hq
    refine lv_iconst (v := 1) hx hb dL_quick_21 (by decide) ?_
    refine lv_icmp_ne (tgt := 54) hx hb dL_quick_22 (by decide) (fun c31 => ?_) (fun c31 => ?_)
    · have hq := ifne hq c31
      exact b_54 γ _ _ _ _ _ (lv_sub hl [] rfl) hH hS (by omega) (by omega) hq
    · have hq := ifpe hq c31
      refine lv_aload_n hx hb dL_quick_25 rfl (lv_at hl 0 rfl) ?_
      refine e_xcallV (rest := []) hC hl hH hS (co_judge l hfl κ γ) tw_565 tw_566 tw_567 tw_38 tw_568 hd_X7_judge ⟨Nat.le_of_ble_eq_true rfl, Nat.le_of_ble_eq_true rfl⟩ rfl rfl rfl rfl (Nat.le_of_ble_eq_true rfl) dL_quick_26 ⟨by show _ ≤ 8; omega, by show _ ≤ 95; omega⟩ rfl (fun he32 ce q9 H locs hH hS hce hcv hcl => ?_) (fun he32 H locs hH hS => ?_)
      · exact flag_bad (ifne hq he32) hk
      have hq := ifpe hq he32
      exact b_29 a3 ((x_X7_judge γ).2.1) (x_X7_judge γ).2.2 _ _ _ _ _ (lv_sub hl [0, 1] rfl) hH hS (by omega) (by omega) hq
  have b_10 : ∀ (a3 : Int32) (s0 : Int32) (γ : St) (H : Heap) (locs : List Loc) (ls : Array Slot) (cells slots : Nat), lv_has ls 5 [(0, .ref (kA κ 7 0)), (3, .int a3)] → HE κ γ H → va_S (AA κ) s.heap H locs → cells + (5) ≤ 8 → slots + (77) ≤ 95 → x_L_quick_10 a3 s0 γ = res → W p l e (headSpec [Cond.code yL_quick cL_quick 5 (some .boolean)] ({ frames := 9, cells := 8, slots := 95, locals := 191 } : Room)).room s m ([.ref (kA κ 7 0), .int y1, .int y2, .int y3, .int y4] : List Value).toArray below meth c H locs cells slots (MQ below (QL κ res.2.2 (some (.int res.2.1))) ([.ref (kA κ 7 0), .int y1, .int y2, .int y3, .int y4] : List Value).toArray s 8 95 (AA κ)) (F0 m 10 ls [.int s0]) := by
    intro a3 s0 γ H locs ls cells slots hl hH hS hc1 hc2 hq
    refine lv_if_lt (tgt := 54) hx hb dL_quick_10 (by decide) (fun c33 => ?_) (fun c33 => ?_)
    · have hq := ifpe hq c33
      exact b_54 γ _ _ _ _ _ (lv_sub hl [] rfl) hH hS (by omega) (by omega) hq
    · have hq := ifne hq c33
      refine lv_aload_n hx hb dL_quick_13 rfl (lv_at hl 0 rfl) ?_
      refine lv_iload_n hx hb dL_quick_14 rfl (lv_at hl 1 rfl) ?_
      refine lv_iconst (v := 0) hx hb dL_quick_15 (by decide) ?_
      refine lv_iconst (v := 1) hx hb dL_quick_16 (by decide) ?_
      refine lv_iconst (v := 0) hx hb dL_quick_17 (by decide) ?_
      refine e_xcallV (rest := []) hC hl hH hS (co_hit l hfl κ γ a3 0 1 0) tw_555 tw_556 tw_557 tw_38 tw_558 hd_X7_hit ⟨Nat.le_of_ble_eq_true rfl, Nat.le_of_ble_eq_true rfl⟩ rfl rfl rfl rfl (Nat.le_of_ble_eq_true rfl) dL_quick_18 ⟨by show _ ≤ 8; omega, by show _ ≤ 95; omega⟩ rfl (fun he34 ce q9 H locs hH hS hce hcv hcl => ?_) (fun he34 H locs hH hS => ?_)
      · exact flag_bad (ifne hq he34) hk
      have hq := ifpe hq he34
      exact b_21 a3 ((x_X7_hit a3 0 1 0 γ).2.1) (x_X7_hit a3 0 1 0 γ).2.2 _ _ _ _ _ (lv_sub hl [0, 1] rfl) hH hS (by omega) (by omega) hq
  refine lv_aload_n hx hb dL_quick_0 rfl (lv_at hl 0 rfl) ?_
  refine lv_iload_n hx hb dL_quick_1 rfl (lv_at hl 1 rfl) ?_
  refine lv_iload_n hx hb dL_quick_2 rfl (lv_at hl 2 rfl) ?_
  refine lv_iconst (v := 2) hx hb dL_quick_3 (by decide) ?_
  refine lv_iconst (v := 1) hx hb dL_quick_4 (by decide) ?_
  refine lv_iload hx hb dL_quick_5 (lv_at hl 4 rfl) ?_
  refine e_xcallV (rest := []) hC hl hH hS (co_begin l hfl κ γ y1 y2 2 1 y4) tw_436 tw_437 tw_438 tw_38 tw_439 hd_X7_begin ⟨Nat.le_of_ble_eq_true rfl, Nat.le_of_ble_eq_true rfl⟩ rfl rfl rfl rfl (Nat.le_of_ble_eq_true rfl) dL_quick_7 ⟨by show _ ≤ 8; omega, by show _ ≤ 95; omega⟩ rfl (fun he35 ce q9 H locs hH hS hce hcv hcl => ?_) (fun he35 H locs hH hS => ?_)
  · exact flag_bad (ifne hq he35) hk
  have hq := ifpe hq he35
  exact b_10 y3 ((x_X7_begin y1 y2 2 1 y4 γ).2.1) (x_X7_begin y1 y2 2 1 y4 γ).2.2 _ _ _ _ _ (lv_sub hl [0, 3] rfl) hH hS (by omega) (by omega) hq
set_option maxRecDepth 20000 in
set_option maxHeartbeats 4000000 in
theorem c_L_table (l : Launch) (hfl : l.stackTraces = false) (κ : KP) (γ : St) (y1 : Int32) (y2 : Int32) (y3 : Int32) (y4 : Int32) (y5 : Int32) (y6 : Int32) (hk : (x_L_table y1 y2 y3 y4 y5 y6 γ).1 = 0) : Met l yL_table [Cond.code yL_table cL_table 9 (some .boolean)] ({ frames := 8, cells := 24, slots := 144, locals := 140 } : Room) (va_Pc [.ref (kA κ 7 0), .int y1, .int y2, .int y3, .int y4, .int y5, .int y6] (GW κ γ)) (QL κ (x_L_table y1 y2 y3 y4 y5 y6 γ).2.2 (some (.int (x_L_table y1 y2 y3 y4 y5 y6 γ).2.1))) 24 144 (AA κ) := by
  generalize hq : x_L_table y1 y2 y3 y4 y5 y6 γ = res at hk ⊢
  refine Met.ofW (cc := cL_table) (maxL := 9) (ret := (some .boolean)) (by decide) rfl ?_
  intro p e s m args below meth c s₁ B hml9 hv
  obtain ⟨rfl, hH, hK9, hB9, hX9, hZ9⟩ := hv
  have hC : CX κ cL_table "PhrasehallLaw" 9 p l s m ([.ref (kA κ 7 0), .int y1, .int y2, .int y3, .int y4, .int y5, .int y6] : List Value).toArray meth c := ⟨B.exec, B.bytes, findClass_of_methodNamed B.named, fun w hw => tw_use (List.mem_filter.mp hw).2 (State.WarmedH.refl s) (hX9.1 w hw), hK9, hX9, hZ9, hB9, hml9, B.notSynchronized⟩
  obtain ⟨hx, hb, hown, hT, -, -, -, -, hml, -⟩ := id hC
  have hr := B.returns
  have hS : va_S (AA κ) s.heap s.heap [] := va_S.rf
  have hl := lv_entry ([.ref (kA κ 7 0), .int y1, .int y2, .int y3, .int y4, .int y5, .int y6]) (n := 9) (Nat.le_of_ble_eq_true rfl)
  rw [lg_entry_eq]
  generalize (lg_sl ([.ref (kA κ 7 0), .int y1, .int y2, .int y3, .int y4, .int y5, .int y6]) ++ List.replicate (9 - (lg_sl ([.ref (kA κ 7 0), .int y1, .int y2, .int y3, .int y4, .int y5, .int y6])).length) Slot.unset).toArray = ls at hl ⊢
  have hl : lv_has ls 9 [(0, .ref (kA κ 7 0)), (1, .int y1), (2, .int y2), (3, .int y3), (4, .int y4), (5, .int y5), (6, .int y6)] := hl
  have hc1 : 0 + 24 ≤ 24 := Nat.le_of_ble_eq_true rfl
  have hc2 : 0 + 144 ≤ 144 := Nat.le_of_ble_eq_true rfl
  have b_70 : ∀ (γ : St) (H : Heap) (locs : List Loc) (ls : Array Slot) (cells slots : Nat), lv_has ls 9 [] → HE κ γ H → va_S (AA κ) s.heap H locs → cells + (0) ≤ 24 → slots + (0) ≤ 144 → x_L_table_70 γ = res → W p l e (headSpec [Cond.code yL_table cL_table 9 (some .boolean)] ({ frames := 8, cells := 24, slots := 144, locals := 140 } : Room)).room s m ([.ref (kA κ 7 0), .int y1, .int y2, .int y3, .int y4, .int y5, .int y6] : List Value).toArray below meth c H locs cells slots (MQ below (QL κ res.2.2 (some (.int res.2.1))) ([.ref (kA κ 7 0), .int y1, .int y2, .int y3, .int y4, .int y5, .int y6] : List Value).toArray s 24 144 (AA κ)) (F0 m 70 ls []) := by
    intro γ H locs ls cells slots hl hH hS hc1 hc2 hq
    refine lv_iconst (v := 0) hx hb dL_table_70 (by decide) ?_
    subst hq
    exact er_z hC hr rfl hH hS rfl rfl (by omega) (by omega) dL_table_71
  have b_3 : ∀ (k3 : Nat) (a1 : Int32) (a2 : Int32) (a3 : Int32) (a4 : Int32) (a5 : Int32) (a6 : Int32) (a7 : Int32) (γ : St) (H : Heap) (locs : List Loc) (ls : Array Slot) (cells slots : Nat), lv_has ls 9 [(0, .ref (kA κ 7 0)), (1, .int a1), (2, .int a2), (3, .int a3), (4, .int a4), (5, .int a5), (6, .int a6), (7, .int a7)] → HE κ γ H → va_S (AA κ) s.heap H locs → cells + (4 + 4 * k3) ≤ 24 → slots + (24 + 24 * k3) ≤ 144 → x_L_table_3 k3 a1 a2 a3 a4 a5 a6 a7 γ = res → W p l e (headSpec [Cond.code yL_table cL_table 9 (some .boolean)] ({ frames := 8, cells := 24, slots := 144, locals := 140 } : Room)).room s m ([.ref (kA κ 7 0), .int y1, .int y2, .int y3, .int y4, .int y5, .int y6] : List Value).toArray below meth c H locs cells slots (MQ below (QL κ res.2.2 (some (.int res.2.1))) ([.ref (kA κ 7 0), .int y1, .int y2, .int y3, .int y4, .int y5, .int y6] : List Value).toArray s 24 144 (AA κ)) (F0 m 3 ls []) := by
    intro k3
    induction k3 with
    | zero =>
      intro a1 a2 a3 a4 a5 a6 a7 γ H locs ls cells slots hl hH hS hc1 hc2 hq
      exact flag_bad hq hk
    | succ k3 ih_3 =>
      have b_42 : ∀ (a1 : Int32) (a2 : Int32) (a3 : Int32) (a4 : Int32) (a5 : Int32) (a6 : Int32) (a7 : Int32) (s0 : Int32) (γ : St) (H : Heap) (locs : List Loc) (ls : Array Slot) (cells slots : Nat), lv_has ls 9 [(0, .ref (kA κ 7 0)), (1, .int a1), (2, .int a2), (3, .int a3), (4, .int a4), (5, .int a5), (6, .int a6), (7, .int a7)] → HE κ γ H → va_S (AA κ) s.heap H locs → cells + (8 + 4 * k3) ≤ 24 → slots + (48 + 24 * k3) ≤ 144 → x_L_table_42 (x_L_table_3 k3) a1 a2 a3 a4 a5 a6 a7 s0 γ = res → W p l e (headSpec [Cond.code yL_table cL_table 9 (some .boolean)] ({ frames := 8, cells := 24, slots := 144, locals := 140 } : Room)).room s m ([.ref (kA κ 7 0), .int y1, .int y2, .int y3, .int y4, .int y5, .int y6] : List Value).toArray below meth c H locs cells slots (MQ below (QL κ res.2.2 (some (.int res.2.1))) ([.ref (kA κ 7 0), .int y1, .int y2, .int y3, .int y4, .int y5, .int y6] : List Value).toArray s 24 144 (AA κ)) (F0 m 42 ls [.int s0]) := by
        intro a1 a2 a3 a4 a5 a6 a7 s0 γ H locs ls cells slots hl hH hS hc1 hc2 hq
        refine lv_istore (lv' := [(8, .int s0), (0, .ref (kA κ 7 0)), (1, .int a1), (2, .int a2), (3, .int a3), (4, .int a4), (5, .int a5), (6, .int a6), (7, .int a7)]) hx hb dL_table_42 hl (by decide) rfl (fun ls hl => ?_)
        refine lv_aload_n hx hb dL_table_44 rfl (lv_at hl 1 rfl) ?_
        refine lv_iload_n hx hb dL_table_45 rfl (lv_at hl 2 rfl) ?_
        refine lv_iload_n hx hb dL_table_46 rfl (lv_at hl 3 rfl) ?_
        refine lv_iload hx hb dL_table_47 (lv_at hl 8 rfl) ?_
        refine e_xcallV (rest := []) hC hl hH hS (co_ofPool l hfl κ γ a1 a2 a7) tw_301 tw_302 tw_303 tw_38 tw_304 hd_X7_ofPool ⟨Nat.le_of_ble_eq_true rfl, Nat.le_of_ble_eq_true rfl⟩ rfl rfl rfl rfl (Nat.le_of_ble_eq_true rfl) dL_table_49 ⟨by show _ ≤ 24; omega, by show _ ≤ 144; omega⟩ rfl (fun he33 ce q9 H locs hH hS hce hcv hcl => ?_) (fun he33 H locs hH hS => ?_)
        · exact flag_bad (ifne hq he33) hk
        have hq := ifpe hq he33
        refine lv_iload hx hb dL_table_52 (lv_at hl 0 rfl) ?_
        refine lv_icmp_ne (tgt := 70) hx hb dL_table_54 (by decide) (fun c34 => ?_) (fun c34 => ?_)
        · have hq := ifne hq c34
          exact b_70 (x_X7_ofPool a1 a2 a7 γ).2.2 _ _ _ _ _ (lv_sub hl [] rfl) hH hS (by omega) (by omega) hq
        · have hq := ifpe hq c34
          refine lv_aload_n hx hb dL_table_57 rfl (lv_at hl 1 rfl) ?_
          refine lv_iload_n hx hb dL_table_58 rfl (lv_at hl 2 rfl) ?_
          refine lv_iload_n hx hb dL_table_59 rfl (lv_at hl 3 rfl) ?_
          refine lv_iload hx hb dL_table_60 (lv_at hl 8 rfl) ?_
          refine e_xcallV (rest := []) hC hl hH hS (co_ofPoolAnew l hfl κ (x_X7_ofPool a1 a2 a7 γ).2.2 a1 a2 a7) tw_328 tw_329 tw_330 tw_38 tw_331 hd_X7_ofPoolAnew ⟨Nat.le_of_ble_eq_true rfl, Nat.le_of_ble_eq_true rfl⟩ rfl rfl rfl rfl (Nat.le_of_ble_eq_true rfl) dL_table_62 ⟨by show _ ≤ 24; omega, by show _ ≤ 144; omega⟩ rfl (fun he35 ce q9 H locs hH hS hce hcv hcl => ?_) (fun he35 H locs hH hS => ?_)
          · exact flag_bad (ifne hq he35) hk
          have hq := ifpe hq he35
          refine lv_iload hx hb dL_table_65 (lv_at hl 0 rfl) ?_
          refine lv_icmp_eq (tgt := 72) hx hb dL_table_67 (by decide) (fun c36 => ?_) (fun c36 => ?_)
          · have hq := ifpe hq c36
            refine lv_iinc (v := a7 + 1) (lv' := [(7, .int (a7 + 1)), (8, .int s0), (0, .ref (kA κ 7 0)), (1, .int a1), (2, .int a2), (3, .int a3), (4, .int a4), (5, .int a5), (6, .int a6)]) hx hb dL_table_72 hl (k := 8) rfl rfl (by decide) rfl (fun ls hl => ?_)
            refine lv_goto (tgt := 3) hx hb dL_table_75 (by decide) ?_
            exact ih_3 a1 a2 a3 a4 a5 a6 (a7 + 1) (x_X7_ofPoolAnew a1 a2 a7 (x_X7_ofPool a1 a2 a7 γ).2.2).2.2 _ _ _ _ _ (lv_sub hl [2, 3, 4, 5, 6, 7, 8, 0] rfl) hH hS (by omega) (by omega) hq
          · have hq := ifne hq c36
            exact b_70 (x_X7_ofPoolAnew a1 a2 a7 (x_X7_ofPool a1 a2 a7 γ).2.2).2.2 _ _ _ _ _ (lv_sub hl [] rfl) hH hS (by omega) (by omega) hq
      intro a1 a2 a3 a4 a5 a6 a7 γ H locs ls cells slots hl hH hS hc1 hc2 hq
      refine lv_iload hx hb dL_table_3 (lv_at hl 7 rfl) ?_
      refine lv_iconst (v := 4) hx hb dL_table_5 (by decide) ?_
      refine lv_icmp_ge (tgt := 78) hx hb dL_table_6 (by decide) (fun c37 => ?_) (fun c37 => ?_)
      · have hq := ifpe hq c37
        refine lv_iconst (v := 1) hx hb dL_table_78 (by decide) ?_
        subst hq
        exact er_z hC hr rfl hH hS rfl rfl (by omega) (by omega) dL_table_79
      · have hq := ifne hq c37
        refine lv_iload hx hb dL_table_9 (lv_at hl 7 rfl) ?_
        refine lv_if_ne (tgt := 18) hx hb dL_table_11 (by decide) (fun c38 => ?_) (fun c38 => ?_)
        · have hq := ifne hq c38
          refine lv_iload hx hb dL_table_18 (lv_at hl 7 rfl) ?_
          refine lv_iconst (v := 1) hx hb dL_table_20 (by decide) ?_
          refine lv_icmp_ne (tgt := 29) hx hb dL_table_21 (by decide) (fun c39 => ?_) (fun c39 => ?_)
          · have hq := ifne hq c39
            refine lv_iload hx hb dL_table_29 (lv_at hl 7 rfl) ?_
            refine lv_iconst (v := 2) hx hb dL_table_31 (by decide) ?_
            refine lv_icmp_ne (tgt := 40) hx hb dL_table_32 (by decide) (fun c40 => ?_) (fun c40 => ?_)
            · have hq := ifne hq c40
              refine lv_iload hx hb dL_table_40 (lv_at hl 6 rfl) ?_
              exact b_42 a1 a2 a3 a4 a5 a6 a7 a6 γ _ _ _ _ _ (lv_sub hl [0, 1, 2, 3, 4, 5, 6, 7] rfl) hH hS (by omega) (by omega) hq
            · have hq := ifpe hq c40
              refine lv_iload hx hb dL_table_35 (lv_at hl 5 rfl) ?_
              refine lv_goto (tgt := 42) hx hb dL_table_37 (by decide) ?_
              exact b_42 a1 a2 a3 a4 a5 a6 a7 a5 γ _ _ _ _ _ (lv_sub hl [0, 1, 2, 3, 4, 5, 6, 7] rfl) hH hS (by omega) (by omega) hq
          · have hq := ifpe hq c39
            refine lv_iload hx hb dL_table_24 (lv_at hl 4 rfl) ?_
            refine lv_goto (tgt := 42) hx hb dL_table_26 (by decide) ?_
            exact b_42 a1 a2 a3 a4 a5 a6 a7 a4 γ _ _ _ _ _ (lv_sub hl [0, 1, 2, 3, 4, 5, 6, 7] rfl) hH hS (by omega) (by omega) hq
        · have hq := ifpe hq c38
          refine lv_iload_n hx hb dL_table_14 rfl (lv_at hl 3 rfl) ?_
          refine lv_goto (tgt := 42) hx hb dL_table_15 (by decide) ?_
          exact b_42 a1 a2 a3 a4 a5 a6 a7 a3 γ _ _ _ _ _ (lv_sub hl [0, 1, 2, 3, 4, 5, 6, 7] rfl) hH hS (by omega) (by omega) hq
  refine lv_iconst (v := 0) hx hb dL_table_0 (by decide) ?_
  refine lv_istore (lv' := [(7, .int 0), (0, .ref (kA κ 7 0)), (1, .int y1), (2, .int y2), (3, .int y3), (4, .int y4), (5, .int y5), (6, .int y6)]) hx hb dL_table_1 hl (by decide) rfl (fun ls hl => ?_)
  exact b_3 5 y1 y2 y3 y4 y5 y6 0 γ _ _ _ _ _ (lv_sub hl [1, 2, 3, 4, 5, 6, 7, 0] rfl) hH hS (by omega) (by omega) hq
set_option maxRecDepth 20000 in
set_option maxHeartbeats 4000000 in
theorem c_L_ranks (l : Launch) (hfl : l.stackTraces = false) (κ : KP) (γ : St) (y1 : Int32) (y2 : Int32) (y3 : Int32) (y4 : Int32) (y5 : Int32) (hk : (x_L_ranks y1 y2 y3 y4 y5 γ).1 = 0) : Met l yL_ranks [Cond.code yL_ranks cL_ranks 6 (some .boolean)] ({ frames := 7, cells := 5, slots := 30, locals := 136 } : Room) (va_Pc [.ref (kA κ 7 0), .int y1, .int y2, .int y3, .int y4, .int y5] (GW κ γ)) (QL κ (x_L_ranks y1 y2 y3 y4 y5 γ).2.2 (some (.int (x_L_ranks y1 y2 y3 y4 y5 γ).2.1))) 5 30 (AA κ) := by
  generalize hq : x_L_ranks y1 y2 y3 y4 y5 γ = res at hk ⊢
  refine Met.ofW (cc := cL_ranks) (maxL := 6) (ret := (some .boolean)) (by decide) rfl ?_
  intro p e s m args below meth c s₁ B hml9 hv
  obtain ⟨rfl, hH, hK9, hB9, hX9, hZ9⟩ := hv
  have hC : CX κ cL_ranks "PhrasehallLaw" 6 p l s m ([.ref (kA κ 7 0), .int y1, .int y2, .int y3, .int y4, .int y5] : List Value).toArray meth c := ⟨B.exec, B.bytes, findClass_of_methodNamed B.named, fun w hw => tw_use (List.mem_filter.mp hw).2 (State.WarmedH.refl s) (hX9.1 w hw), hK9, hX9, hZ9, hB9, hml9, B.notSynchronized⟩
  obtain ⟨hx, hb, hown, hT, -, -, -, -, hml, -⟩ := id hC
  have hr := B.returns
  have hS : va_S (AA κ) s.heap s.heap [] := va_S.rf
  have hl := lv_entry ([.ref (kA κ 7 0), .int y1, .int y2, .int y3, .int y4, .int y5]) (n := 6) (Nat.le_of_ble_eq_true rfl)
  rw [lg_entry_eq]
  generalize (lg_sl ([.ref (kA κ 7 0), .int y1, .int y2, .int y3, .int y4, .int y5]) ++ List.replicate (6 - (lg_sl ([.ref (kA κ 7 0), .int y1, .int y2, .int y3, .int y4, .int y5])).length) Slot.unset).toArray = ls at hl ⊢
  have hl : lv_has ls 6 [(0, .ref (kA κ 7 0)), (1, .int y1), (2, .int y2), (3, .int y3), (4, .int y4), (5, .int y5)] := hl
  have hc1 : 0 + 5 ≤ 5 := Nat.le_of_ble_eq_true rfl
  have hc2 : 0 + 30 ≤ 30 := Nat.le_of_ble_eq_true rfl
  have b_56 : ∀ (γ : St) (H : Heap) (locs : List Loc) (ls : Array Slot) (cells slots : Nat), lv_has ls 6 [] → HE κ γ H → va_S (AA κ) s.heap H locs → cells + (0) ≤ 5 → slots + (0) ≤ 30 → x_L_ranks_56 γ = res → W p l e (headSpec [Cond.code yL_ranks cL_ranks 6 (some .boolean)] ({ frames := 7, cells := 5, slots := 30, locals := 136 } : Room)).room s m ([.ref (kA κ 7 0), .int y1, .int y2, .int y3, .int y4, .int y5] : List Value).toArray below meth c H locs cells slots (MQ below (QL κ res.2.2 (some (.int res.2.1))) ([.ref (kA κ 7 0), .int y1, .int y2, .int y3, .int y4, .int y5] : List Value).toArray s 5 30 (AA κ)) (F0 m 56 ls []) := by
    intro γ H locs ls cells slots hl hH hS hc1 hc2 hq
    refine lv_iconst (v := 0) hx hb dL_ranks_56 (by decide) ?_
    subst hq
    exact er_z hC hr rfl hH hS rfl rfl (by omega) (by omega) dL_ranks_57
  have b_48 : ∀ (s0 : Int32) (γ : St) (H : Heap) (locs : List Loc) (ls : Array Slot) (cells slots : Nat), lv_has ls 6 [] → HE κ γ H → va_S (AA κ) s.heap H locs → cells + (0) ≤ 5 → slots + (0) ≤ 30 → x_L_ranks_48 s0 γ = res → W p l e (headSpec [Cond.code yL_ranks cL_ranks 6 (some .boolean)] ({ frames := 7, cells := 5, slots := 30, locals := 136 } : Room)).room s m ([.ref (kA κ 7 0), .int y1, .int y2, .int y3, .int y4, .int y5] : List Value).toArray below meth c H locs cells slots (MQ below (QL κ res.2.2 (some (.int res.2.1))) ([.ref (kA κ 7 0), .int y1, .int y2, .int y3, .int y4, .int y5] : List Value).toArray s 5 30 (AA κ)) (F0 m 48 ls [.int s0]) := by
    intro s0 γ H locs ls cells slots hl hH hS hc1 hc2 hq
    refine lv_iconst (v := (-1)) hx hb dL_ranks_48 (by decide) ?_
    refine lv_icmp_ne (tgt := 56) hx hb dL_ranks_49 (by decide) (fun c41 => ?_) (fun c41 => ?_)
    · have hq := ifne hq c41
      exact b_56 γ _ _ _ _ _ (lv_sub hl [] rfl) hH hS (by omega) (by omega) hq
    · have hq := ifpe hq c41
      refine lv_iconst (v := 1) hx hb dL_ranks_52 (by decide) ?_
      refine lv_goto (tgt := 57) hx hb dL_ranks_53 (by decide) ?_
      subst hq
      exact er_z hC hr rfl hH hS rfl rfl (by omega) (by omega) dL_ranks_57
  have b_37 : ∀ (a1 : Int32) (a5 : Int32) (s0 : Int32) (γ : St) (H : Heap) (locs : List Loc) (ls : Array Slot) (cells slots : Nat), lv_has ls 6 [(0, .ref (kA κ 7 0)), (1, .int a1), (5, .int a5)] → HE κ γ H → va_S (AA κ) s.heap H locs → cells + (1) ≤ 5 → slots + (6) ≤ 30 → x_L_ranks_37 a1 a5 s0 γ = res → W p l e (headSpec [Cond.code yL_ranks cL_ranks 6 (some .boolean)] ({ frames := 7, cells := 5, slots := 30, locals := 136 } : Room)).room s m ([.ref (kA κ 7 0), .int y1, .int y2, .int y3, .int y4, .int y5] : List Value).toArray below meth c H locs cells slots (MQ below (QL κ res.2.2 (some (.int res.2.1))) ([.ref (kA κ 7 0), .int y1, .int y2, .int y3, .int y4, .int y5] : List Value).toArray s 5 30 (AA κ)) (F0 m 37 ls [.int s0]) := by
    intro a1 a5 s0 γ H locs ls cells slots hl hH hS hc1 hc2 hq
    refine lv_iload hx hb dL_ranks_37 (lv_at hl 2 rfl) ?_
    refine lv_icmp_ne (tgt := 56) hx hb dL_ranks_39 (by decide) (fun c42 => ?_) (fun c42 => ?_)
    · have hq := ifne hq c42
      exact b_56 γ _ _ _ _ _ (lv_sub hl [] rfl) hH hS (by omega) (by omega) hq
    · have hq := ifpe hq c42
      refine lv_aload_n hx hb dL_ranks_42 rfl (lv_at hl 0 rfl) ?_
      refine lv_iload_n hx hb dL_ranks_43 rfl (lv_at hl 1 rfl) ?_
      refine lv_iconst (v := 4) hx hb dL_ranks_44 (by decide) ?_
      refine e_xcallV (rest := []) hC hl hH hS (co_rank l hfl κ γ a1 4) tw_361 tw_362 tw_363 tw_38 tw_364 hd_X7_rank ⟨Nat.le_of_ble_eq_true rfl, Nat.le_of_ble_eq_true rfl⟩ rfl rfl rfl rfl (Nat.le_of_ble_eq_true rfl) dL_ranks_45 ⟨by show _ ≤ 5; omega, by show _ ≤ 30; omega⟩ rfl (fun he43 ce q9 H locs hH hS hce hcv hcl => ?_) (fun he43 H locs hH hS => ?_)
      · exact flag_bad (ifne hq he43) hk
      have hq := ifpe hq he43
      exact b_48 ((x_X7_rank a1 4 γ).2.1) (x_X7_rank a1 4 γ).2.2 _ _ _ _ _ (lv_sub hl [] rfl) hH hS (by omega) (by omega) hq
  have b_26 : ∀ (a1 : Int32) (a4 : Int32) (a5 : Int32) (s0 : Int32) (γ : St) (H : Heap) (locs : List Loc) (ls : Array Slot) (cells slots : Nat), lv_has ls 6 [(0, .ref (kA κ 7 0)), (1, .int a1), (4, .int a4), (5, .int a5)] → HE κ γ H → va_S (AA κ) s.heap H locs → cells + (2) ≤ 5 → slots + (12) ≤ 30 → x_L_ranks_26 a1 a4 a5 s0 γ = res → W p l e (headSpec [Cond.code yL_ranks cL_ranks 6 (some .boolean)] ({ frames := 7, cells := 5, slots := 30, locals := 136 } : Room)).room s m ([.ref (kA κ 7 0), .int y1, .int y2, .int y3, .int y4, .int y5] : List Value).toArray below meth c H locs cells slots (MQ below (QL κ res.2.2 (some (.int res.2.1))) ([.ref (kA κ 7 0), .int y1, .int y2, .int y3, .int y4, .int y5] : List Value).toArray s 5 30 (AA κ)) (F0 m 26 ls [.int s0]) := by
    intro a1 a4 a5 s0 γ H locs ls cells slots hl hH hS hc1 hc2 hq
    refine lv_iload hx hb dL_ranks_26 (lv_at hl 2 rfl) ?_
    refine lv_icmp_ne (tgt := 56) hx hb dL_ranks_28 (by decide) (fun c44 => ?_) (fun c44 => ?_)
    · have hq := ifne hq c44
      exact b_56 γ _ _ _ _ _ (lv_sub hl [] rfl) hH hS (by omega) (by omega) hq
    · have hq := ifpe hq c44
      refine lv_aload_n hx hb dL_ranks_31 rfl (lv_at hl 0 rfl) ?_
      refine lv_iload_n hx hb dL_ranks_32 rfl (lv_at hl 1 rfl) ?_
      refine lv_iconst (v := 3) hx hb dL_ranks_33 (by decide) ?_
      refine e_xcallV (rest := []) hC hl hH hS (co_rank l hfl κ γ a1 3) tw_361 tw_362 tw_363 tw_38 tw_364 hd_X7_rank ⟨Nat.le_of_ble_eq_true rfl, Nat.le_of_ble_eq_true rfl⟩ rfl rfl rfl rfl (Nat.le_of_ble_eq_true rfl) dL_ranks_34 ⟨by show _ ≤ 5; omega, by show _ ≤ 30; omega⟩ rfl (fun he45 ce q9 H locs hH hS hce hcv hcl => ?_) (fun he45 H locs hH hS => ?_)
      · exact flag_bad (ifne hq he45) hk
      have hq := ifpe hq he45
      exact b_37 a1 a5 ((x_X7_rank a1 3 γ).2.1) (x_X7_rank a1 3 γ).2.2 _ _ _ _ _ (lv_sub hl [0, 1, 3] rfl) hH hS (by omega) (by omega) hq
  have b_16 : ∀ (a1 : Int32) (a3 : Int32) (a4 : Int32) (a5 : Int32) (s0 : Int32) (γ : St) (H : Heap) (locs : List Loc) (ls : Array Slot) (cells slots : Nat), lv_has ls 6 [(0, .ref (kA κ 7 0)), (1, .int a1), (3, .int a3), (4, .int a4), (5, .int a5)] → HE κ γ H → va_S (AA κ) s.heap H locs → cells + (3) ≤ 5 → slots + (18) ≤ 30 → x_L_ranks_16 a1 a3 a4 a5 s0 γ = res → W p l e (headSpec [Cond.code yL_ranks cL_ranks 6 (some .boolean)] ({ frames := 7, cells := 5, slots := 30, locals := 136 } : Room)).room s m ([.ref (kA κ 7 0), .int y1, .int y2, .int y3, .int y4, .int y5] : List Value).toArray below meth c H locs cells slots (MQ below (QL κ res.2.2 (some (.int res.2.1))) ([.ref (kA κ 7 0), .int y1, .int y2, .int y3, .int y4, .int y5] : List Value).toArray s 5 30 (AA κ)) (F0 m 16 ls [.int s0]) := by
    intro a1 a3 a4 a5 s0 γ H locs ls cells slots hl hH hS hc1 hc2 hq
    refine lv_iload_n hx hb dL_ranks_16 rfl (lv_at hl 2 rfl) ?_
    refine lv_icmp_ne (tgt := 56) hx hb dL_ranks_17 (by decide) (fun c46 => ?_) (fun c46 => ?_)
    · have hq := ifne hq c46
      exact b_56 γ _ _ _ _ _ (lv_sub hl [] rfl) hH hS (by omega) (by omega) hq
    · have hq := ifpe hq c46
      refine lv_aload_n hx hb dL_ranks_20 rfl (lv_at hl 0 rfl) ?_
      refine lv_iload_n hx hb dL_ranks_21 rfl (lv_at hl 1 rfl) ?_
      refine lv_iconst (v := 2) hx hb dL_ranks_22 (by decide) ?_
      refine e_xcallV (rest := []) hC hl hH hS (co_rank l hfl κ γ a1 2) tw_361 tw_362 tw_363 tw_38 tw_364 hd_X7_rank ⟨Nat.le_of_ble_eq_true rfl, Nat.le_of_ble_eq_true rfl⟩ rfl rfl rfl rfl (Nat.le_of_ble_eq_true rfl) dL_ranks_23 ⟨by show _ ≤ 5; omega, by show _ ≤ 30; omega⟩ rfl (fun he47 ce q9 H locs hH hS hce hcv hcl => ?_) (fun he47 H locs hH hS => ?_)
      · exact flag_bad (ifne hq he47) hk
      have hq := ifpe hq he47
      exact b_26 a1 a4 a5 ((x_X7_rank a1 2 γ).2.1) (x_X7_rank a1 2 γ).2.2 _ _ _ _ _ (lv_sub hl [0, 1, 3, 4] rfl) hH hS (by omega) (by omega) hq
  have b_6 : ∀ (a1 : Int32) (a2 : Int32) (a3 : Int32) (a4 : Int32) (a5 : Int32) (s0 : Int32) (γ : St) (H : Heap) (locs : List Loc) (ls : Array Slot) (cells slots : Nat), lv_has ls 6 [(0, .ref (kA κ 7 0)), (1, .int a1), (2, .int a2), (3, .int a3), (4, .int a4), (5, .int a5)] → HE κ γ H → va_S (AA κ) s.heap H locs → cells + (4) ≤ 5 → slots + (24) ≤ 30 → x_L_ranks_6 a1 a2 a3 a4 a5 s0 γ = res → W p l e (headSpec [Cond.code yL_ranks cL_ranks 6 (some .boolean)] ({ frames := 7, cells := 5, slots := 30, locals := 136 } : Room)).room s m ([.ref (kA κ 7 0), .int y1, .int y2, .int y3, .int y4, .int y5] : List Value).toArray below meth c H locs cells slots (MQ below (QL κ res.2.2 (some (.int res.2.1))) ([.ref (kA κ 7 0), .int y1, .int y2, .int y3, .int y4, .int y5] : List Value).toArray s 5 30 (AA κ)) (F0 m 6 ls [.int s0]) := by
    intro a1 a2 a3 a4 a5 s0 γ H locs ls cells slots hl hH hS hc1 hc2 hq
    refine lv_iload_n hx hb dL_ranks_6 rfl (lv_at hl 2 rfl) ?_
    refine lv_icmp_ne (tgt := 56) hx hb dL_ranks_7 (by decide) (fun c48 => ?_) (fun c48 => ?_)
    · have hq := ifne hq c48
      exact b_56 γ _ _ _ _ _ (lv_sub hl [] rfl) hH hS (by omega) (by omega) hq
    · have hq := ifpe hq c48
      refine lv_aload_n hx hb dL_ranks_10 rfl (lv_at hl 0 rfl) ?_
      refine lv_iload_n hx hb dL_ranks_11 rfl (lv_at hl 1 rfl) ?_
      refine lv_iconst (v := 1) hx hb dL_ranks_12 (by decide) ?_
      refine e_xcallV (rest := []) hC hl hH hS (co_rank l hfl κ γ a1 1) tw_361 tw_362 tw_363 tw_38 tw_364 hd_X7_rank ⟨Nat.le_of_ble_eq_true rfl, Nat.le_of_ble_eq_true rfl⟩ rfl rfl rfl rfl (Nat.le_of_ble_eq_true rfl) dL_ranks_13 ⟨by show _ ≤ 5; omega, by show _ ≤ 30; omega⟩ rfl (fun he49 ce q9 H locs hH hS hce hcv hcl => ?_) (fun he49 H locs hH hS => ?_)
      · exact flag_bad (ifne hq he49) hk
      have hq := ifpe hq he49
      exact b_16 a1 a3 a4 a5 ((x_X7_rank a1 1 γ).2.1) (x_X7_rank a1 1 γ).2.2 _ _ _ _ _ (lv_sub hl [0, 1, 3, 4, 5] rfl) hH hS (by omega) (by omega) hq
  refine lv_aload_n hx hb dL_ranks_0 rfl (lv_at hl 0 rfl) ?_
  refine lv_iload_n hx hb dL_ranks_1 rfl (lv_at hl 1 rfl) ?_
  refine lv_iconst (v := 0) hx hb dL_ranks_2 (by decide) ?_
  refine e_xcallV (rest := []) hC hl hH hS (co_rank l hfl κ γ y1 0) tw_361 tw_362 tw_363 tw_38 tw_364 hd_X7_rank ⟨Nat.le_of_ble_eq_true rfl, Nat.le_of_ble_eq_true rfl⟩ rfl rfl rfl rfl (Nat.le_of_ble_eq_true rfl) dL_ranks_3 ⟨by show _ ≤ 5; omega, by show _ ≤ 30; omega⟩ rfl (fun he50 ce q9 H locs hH hS hce hcv hcl => ?_) (fun he50 H locs hH hS => ?_)
  · exact flag_bad (ifne hq he50) hk
  have hq := ifpe hq he50
  exact b_6 y1 y2 y3 y4 y5 ((x_X7_rank y1 0 γ).2.1) (x_X7_rank y1 0 γ).2.2 _ _ _ _ _ (lv_sub hl [0, 1, 2, 3, 4, 5] rfl) hH hS (by omega) (by omega) hq
set_option maxRecDepth 20000 in
set_option maxHeartbeats 4000000 in
theorem c_L_match (l : Launch) (hfl : l.stackTraces = false) (κ : KP) (γ : St) (y1 : Int32) (y2 : Int32) (y3 : Int32) (y4 : Int32) (y5 : Int32) (hk : (x_L_match y1 y2 y3 y4 y5 γ).1 = 0) : Met l yL_match [Cond.code yL_match cL_match 6 (some .boolean)] ({ frames := 8, cells := 6, slots := 36, locals := 135 } : Room) (va_Pc [.ref (kA κ 7 0), .int y1, .int y2, .int y3, .int y4, .int y5] (GW κ γ)) (QL κ (x_L_match y1 y2 y3 y4 y5 γ).2.2 (some (.int (x_L_match y1 y2 y3 y4 y5 γ).2.1))) 6 36 (AA κ) := by
  generalize hq : x_L_match y1 y2 y3 y4 y5 γ = res at hk ⊢
  refine Met.ofW (cc := cL_match) (maxL := 6) (ret := (some .boolean)) (by decide) rfl ?_
  intro p e s m args below meth c s₁ B hml9 hv
  obtain ⟨rfl, hH, hK9, hB9, hX9, hZ9⟩ := hv
  have hC : CX κ cL_match "PhrasehallLaw" 6 p l s m ([.ref (kA κ 7 0), .int y1, .int y2, .int y3, .int y4, .int y5] : List Value).toArray meth c := ⟨B.exec, B.bytes, findClass_of_methodNamed B.named, fun w hw => tw_use (List.mem_filter.mp hw).2 (State.WarmedH.refl s) (hX9.1 w hw), hK9, hX9, hZ9, hB9, hml9, B.notSynchronized⟩
  obtain ⟨hx, hb, hown, hT, -, -, -, -, hml, -⟩ := id hC
  have hr := B.returns
  have hS : va_S (AA κ) s.heap s.heap [] := va_S.rf
  have hl := lv_entry ([.ref (kA κ 7 0), .int y1, .int y2, .int y3, .int y4, .int y5]) (n := 6) (Nat.le_of_ble_eq_true rfl)
  rw [lg_entry_eq]
  generalize (lg_sl ([.ref (kA κ 7 0), .int y1, .int y2, .int y3, .int y4, .int y5]) ++ List.replicate (6 - (lg_sl ([.ref (kA κ 7 0), .int y1, .int y2, .int y3, .int y4, .int y5])).length) Slot.unset).toArray = ls at hl ⊢
  have hl : lv_has ls 6 [(0, .ref (kA κ 7 0)), (1, .int y1), (2, .int y2), (3, .int y3), (4, .int y4), (5, .int y5)] := hl
  have hc1 : 0 + 6 ≤ 6 := Nat.le_of_ble_eq_true rfl
  have hc2 : 0 + 36 ≤ 36 := Nat.le_of_ble_eq_true rfl
  have b_39 : ∀ (γ : St) (H : Heap) (locs : List Loc) (ls : Array Slot) (cells slots : Nat), lv_has ls 6 [] → HE κ γ H → va_S (AA κ) s.heap H locs → cells + (0) ≤ 6 → slots + (0) ≤ 36 → x_L_match_39 γ = res → W p l e (headSpec [Cond.code yL_match cL_match 6 (some .boolean)] ({ frames := 8, cells := 6, slots := 36, locals := 135 } : Room)).room s m ([.ref (kA κ 7 0), .int y1, .int y2, .int y3, .int y4, .int y5] : List Value).toArray below meth c H locs cells slots (MQ below (QL κ res.2.2 (some (.int res.2.1))) ([.ref (kA κ 7 0), .int y1, .int y2, .int y3, .int y4, .int y5] : List Value).toArray s 6 36 (AA κ)) (F0 m 39 ls []) := by
    intro γ H locs ls cells slots hl hH hS hc1 hc2 hq
    refine lv_iconst (v := 0) hx hb dL_match_39 (by decide) ?_
    subst hq
    exact er_z hC hr rfl hH hS rfl rfl (by omega) (by omega) dL_match_40
  refine lv_aload_n hx hb dL_match_0 rfl (lv_at hl 0 rfl) ?_
  refine lv_iload_n hx hb dL_match_1 rfl (lv_at hl 1 rfl) ?_
  refine lv_iload_n hx hb dL_match_2 rfl (lv_at hl 2 rfl) ?_
  refine lv_iconst (v := 0) hx hb dL_match_3 (by decide) ?_
  refine e_xcallV (rest := []) hC hl hH hS (co_meets l hfl κ γ y1 y2 0) tw_396 tw_397 tw_398 tw_38 tw_399 hd_X7_meets ⟨Nat.le_of_ble_eq_true rfl, Nat.le_of_ble_eq_true rfl⟩ rfl rfl rfl rfl (Nat.le_of_ble_eq_true rfl) dL_match_4 ⟨by show _ ≤ 6; omega, by show _ ≤ 36; omega⟩ rfl (fun he25 ce q9 H locs hH hS hce hcv hcl => ?_) (fun he25 H locs hH hS => ?_)
  · exact flag_bad (ifne hq he25) hk
  have hq := ifpe hq he25
  refine lv_iload_n hx hb dL_match_7 rfl (lv_at hl 3 rfl) ?_
  refine lv_icmp_ne (tgt := 39) hx hb dL_match_8 (by decide) (fun c26 => ?_) (fun c26 => ?_)
  · have hq := ifne hq c26
    exact b_39 (x_X7_meets y1 y2 0 γ).2.2 _ _ _ _ _ (lv_sub hl [] rfl) hH hS (by omega) (by omega) hq
  · have hq := ifpe hq c26
    refine lv_aload_n hx hb dL_match_11 rfl (lv_at hl 0 rfl) ?_
    refine lv_iload_n hx hb dL_match_12 rfl (lv_at hl 1 rfl) ?_
    refine lv_iload_n hx hb dL_match_13 rfl (lv_at hl 2 rfl) ?_
    refine lv_iconst (v := 1) hx hb dL_match_14 (by decide) ?_
    refine e_xcallV (rest := []) hC hl hH hS (co_meets l hfl κ (x_X7_meets y1 y2 0 γ).2.2 y1 y2 1) tw_396 tw_397 tw_398 tw_38 tw_399 hd_X7_meets ⟨Nat.le_of_ble_eq_true rfl, Nat.le_of_ble_eq_true rfl⟩ rfl rfl rfl rfl (Nat.le_of_ble_eq_true rfl) dL_match_15 ⟨by show _ ≤ 6; omega, by show _ ≤ 36; omega⟩ rfl (fun he27 ce q9 H locs hH hS hce hcv hcl => ?_) (fun he27 H locs hH hS => ?_)
    · exact flag_bad (ifne hq he27) hk
    have hq := ifpe hq he27
    refine lv_iload hx hb dL_match_18 (lv_at hl 4 rfl) ?_
    refine lv_icmp_ne (tgt := 39) hx hb dL_match_20 (by decide) (fun c28 => ?_) (fun c28 => ?_)
    · have hq := ifne hq c28
      exact b_39 (x_X7_meets y1 y2 1 (x_X7_meets y1 y2 0 γ).2.2).2.2 _ _ _ _ _ (lv_sub hl [] rfl) hH hS (by omega) (by omega) hq
    · have hq := ifpe hq c28
      refine lv_aload_n hx hb dL_match_23 rfl (lv_at hl 0 rfl) ?_
      refine lv_iload_n hx hb dL_match_24 rfl (lv_at hl 1 rfl) ?_
      refine lv_iload_n hx hb dL_match_25 rfl (lv_at hl 2 rfl) ?_
      refine lv_iconst (v := 2) hx hb dL_match_26 (by decide) ?_
      refine e_xcallV (rest := []) hC hl hH hS (co_meets l hfl κ (x_X7_meets y1 y2 1 (x_X7_meets y1 y2 0 γ).2.2).2.2 y1 y2 2) tw_396 tw_397 tw_398 tw_38 tw_399 hd_X7_meets ⟨Nat.le_of_ble_eq_true rfl, Nat.le_of_ble_eq_true rfl⟩ rfl rfl rfl rfl (Nat.le_of_ble_eq_true rfl) dL_match_27 ⟨by show _ ≤ 6; omega, by show _ ≤ 36; omega⟩ rfl (fun he29 ce q9 H locs hH hS hce hcv hcl => ?_) (fun he29 H locs hH hS => ?_)
      · exact flag_bad (ifne hq he29) hk
      have hq := ifpe hq he29
      refine lv_iload hx hb dL_match_30 (lv_at hl 5 rfl) ?_
      refine lv_icmp_ne (tgt := 39) hx hb dL_match_32 (by decide) (fun c30 => ?_) (fun c30 => ?_)
      · have hq := ifne hq c30
        exact b_39 (x_X7_meets y1 y2 2 (x_X7_meets y1 y2 1 (x_X7_meets y1 y2 0 γ).2.2).2.2).2.2 _ _ _ _ _ (lv_sub hl [] rfl) hH hS (by omega) (by omega) hq
      · have hq := ifpe hq c30
        refine lv_iconst (v := 1) hx hb dL_match_35 (by decide) ?_
        refine lv_goto (tgt := 40) hx hb dL_match_36 (by decide) ?_
        subst hq
        exact er_z hC hr rfl hH hS rfl rfl (by omega) (by omega) dL_match_40
