set_option maxRecDepth 20000 in
set_option maxHeartbeats 4000000 in
theorem c_L_doubles (l : Launch) (hfl : l.stackTraces = false) (κ : KP) (γ : St) (y1 : Int32) (hk : (x_L_doubles y1 γ).1 = 0) : Met l yL_doubles [Cond.code yL_doubles cL_doubles 3 (some .boolean)] ({ frames := 11, cells := 70, slots := 1360, locals := 241 } : Room) (va_Pc [.ref (kA κ 7 0), .int y1] (GW κ γ)) (QL κ (x_L_doubles y1 γ).2.2 (some (.int (x_L_doubles y1 γ).2.1))) 70 1360 (AA κ) := by
  generalize hq : x_L_doubles y1 γ = res at hk ⊢
  refine Met.ofW (cc := cL_doubles) (maxL := 3) (ret := (some .boolean)) (by decide) rfl ?_
  intro p e s m args below meth c s₁ B hml9 hv
  obtain ⟨rfl, hH, hK9, hB9, hX9, hZ9⟩ := hv
  have hC : CX κ cL_doubles "PhrasehallLaw" 3 p l s m ([.ref (kA κ 7 0), .int y1] : List Value).toArray meth c := ⟨B.exec, B.bytes, findClass_of_methodNamed B.named, fun w hw => tw_use (List.mem_filter.mp hw).2 (State.WarmedH.refl s) (hX9.1 w hw), hK9, hX9, hZ9, hB9, hml9, B.notSynchronized⟩
  obtain ⟨hx, hb, hown, hT, -, -, -, -, hml, -⟩ := id hC
  have hr := B.returns
  have hS : va_S (AA κ) s.heap s.heap [] := va_S.rf
  have hl := lv_entry ([.ref (kA κ 7 0), .int y1]) (n := 3) (Nat.le_of_ble_eq_true rfl)
  rw [lg_entry_eq]
  generalize (lg_sl ([.ref (kA κ 7 0), .int y1]) ++ List.replicate (3 - (lg_sl ([.ref (kA κ 7 0), .int y1])).length) Slot.unset).toArray = ls at hl ⊢
  have hl : lv_has ls 3 [(0, .ref (kA κ 7 0)), (1, .int y1)] := hl
  have hc1 : 0 + 70 ≤ 70 := Nat.le_of_ble_eq_true rfl
  have hc2 : 0 + 1360 ≤ 1360 := Nat.le_of_ble_eq_true rfl
  have b_45 : ∀ (γ : St) (H : Heap) (locs : List Loc) (ls : Array Slot) (cells slots : Nat), lv_has ls 3 [] → HE κ γ H → va_S (AA κ) s.heap H locs → cells + (0) ≤ 70 → slots + (0) ≤ 1360 → x_L_doubles_45 γ = res → W p l e (headSpec [Cond.code yL_doubles cL_doubles 3 (some .boolean)] ({ frames := 11, cells := 70, slots := 1360, locals := 241 } : Room)).room s m ([.ref (kA κ 7 0), .int y1] : List Value).toArray below meth c H locs cells slots (MQ below (QL κ res.2.2 (some (.int res.2.1))) ([.ref (kA κ 7 0), .int y1] : List Value).toArray s 70 1360 (AA κ)) (F0 m 45 ls []) := by
    intro γ H locs ls cells slots hl hH hS hc1 hc2 hq
    refine lv_iconst (v := 0) hx hb dL_doubles_45 (by decide) ?_
    subst hq
    exact er_z hC hr rfl hH hS rfl rfl (by omega) (by omega) dL_doubles_46
  have b_2 : ∀ (k2 : Nat) (a1 : Int32) (a2 : Int32) (γ : St) (H : Heap) (locs : List Loc) (ls : Array Slot) (cells slots : Nat), lv_has ls 3 [(0, .ref (kA κ 7 0)), (1, .int a1), (2, .int a2)] → HE κ γ H → va_S (AA κ) s.heap H locs → cells + (14 + 14 * k2) ≤ 70 → slots + (272 + 272 * k2) ≤ 1360 → x_L_doubles_2 k2 a1 a2 γ = res → W p l e (headSpec [Cond.code yL_doubles cL_doubles 3 (some .boolean)] ({ frames := 11, cells := 70, slots := 1360, locals := 241 } : Room)).room s m ([.ref (kA κ 7 0), .int y1] : List Value).toArray below meth c H locs cells slots (MQ below (QL κ res.2.2 (some (.int res.2.1))) ([.ref (kA κ 7 0), .int y1] : List Value).toArray s 70 1360 (AA κ)) (F0 m 2 ls []) := by
    intro k2
    induction k2 with
    | zero =>
      intro a1 a2 γ H locs ls cells slots hl hH hS hc1 hc2 hq
      exact flag_bad hq hk
    | succ k2 ih_2 =>
      have b_41 : ∀ (a1 : Int32) (a2 : Int32) (s0 : Int32) (γ : St) (H : Heap) (locs : List Loc) (ls : Array Slot) (cells slots : Nat), lv_has ls 3 [(0, .ref (kA κ 7 0)), (1, .int a1), (2, .int a2)] → HE κ γ H → va_S (AA κ) s.heap H locs → cells + (14 + 14 * k2) ≤ 70 → slots + (272 + 272 * k2) ≤ 1360 → x_L_doubles_41 (x_L_doubles_2 k2) a1 a2 s0 γ = res → W p l e (headSpec [Cond.code yL_doubles cL_doubles 3 (some .boolean)] ({ frames := 11, cells := 70, slots := 1360, locals := 241 } : Room)).room s m ([.ref (kA κ 7 0), .int y1] : List Value).toArray below meth c H locs cells slots (MQ below (QL κ res.2.2 (some (.int res.2.1))) ([.ref (kA κ 7 0), .int y1] : List Value).toArray s 70 1360 (AA κ)) (F0 m 41 ls [.int s0]) := by
        intro a1 a2 s0 γ H locs ls cells slots hl hH hS hc1 hc2 hq
        refine lv_iconst (v := 3) hx hb dL_doubles_41 (by decide) ?_
        refine lv_icmp_eq (tgt := 47) hx hb dL_doubles_42 (by decide) (fun c29 => ?_) (fun c29 => ?_)
        · have hq := ifpe hq c29
          refine lv_iinc (v := a2 + 1) (lv' := [(2, .int (a2 + 1)), (0, .ref (kA κ 7 0)), (1, .int a1)]) hx hb dL_doubles_47 hl (k := 2) rfl rfl (by decide) rfl (fun ls hl => ?_)
          refine lv_goto (tgt := 2) hx hb dL_doubles_50 (by decide) ?_
          exact ih_2 a1 (a2 + 1) γ _ _ _ _ _ (lv_sub hl [1, 2, 0] rfl) hH hS (by omega) (by omega) hq
        · have hq := ifne hq c29
          exact b_45 γ _ _ _ _ _ (lv_sub hl [] rfl) hH hS (by omega) (by omega) hq
      have b_34 : ∀ (a1 : Int32) (a2 : Int32) (s0 : Int32) (γ : St) (H : Heap) (locs : List Loc) (ls : Array Slot) (cells slots : Nat), lv_has ls 3 [(0, .ref (kA κ 7 0)), (1, .int a1), (2, .int a2)] → HE κ γ H → va_S (AA κ) s.heap H locs → cells + (15 + 14 * k2) ≤ 70 → slots + (278 + 272 * k2) ≤ 1360 → x_L_doubles_34 (x_L_doubles_2 k2) a1 a2 s0 γ = res → W p l e (headSpec [Cond.code yL_doubles cL_doubles 3 (some .boolean)] ({ frames := 11, cells := 70, slots := 1360, locals := 241 } : Room)).room s m ([.ref (kA κ 7 0), .int y1] : List Value).toArray below meth c H locs cells slots (MQ below (QL κ res.2.2 (some (.int res.2.1))) ([.ref (kA κ 7 0), .int y1] : List Value).toArray s 70 1360 (AA κ)) (F0 m 34 ls [.int s0]) := by
        intro a1 a2 s0 γ H locs ls cells slots hl hH hS hc1 hc2 hq
        refine lv_if_eq (tgt := 45) hx hb dL_doubles_34 (by decide) (fun c30 => ?_) (fun c30 => ?_)
        · have hq := ifpe hq c30
          exact b_45 γ _ _ _ _ _ (lv_sub hl [] rfl) hH hS (by omega) (by omega) hq
        · have hq := ifne hq c30
          refine lv_aload_n hx hb dL_doubles_37 rfl (lv_at hl 0 rfl) ?_
          refine e_xcallV (rest := []) hC hl hH hS (co_judge l hfl κ γ) tw_565 tw_566 tw_567 tw_38 tw_568 hd_X7_judge ⟨Nat.le_of_ble_eq_true rfl, Nat.le_of_ble_eq_true rfl⟩ rfl rfl rfl rfl (Nat.le_of_ble_eq_true rfl) dL_doubles_38 ⟨by show _ ≤ 70; omega, by show _ ≤ 1360; omega⟩ rfl (fun he31 ce q9 H locs hH hS hce hcv hcl => ?_) (fun he31 H locs hH hS => ?_)
          · exact flag_bad (ifne hq he31) hk
          have hq := ifpe hq he31
          exact b_41 a1 a2 ((x_X7_judge γ).2.1) (x_X7_judge γ).2.2 _ _ _ _ _ (lv_sub hl [0, 1, 2] rfl) hH hS (by omega) (by omega) hq
      have b_13 : ∀ (a1 : Int32) (a2 : Int32) (s0 : Int32) (γ : St) (H : Heap) (locs : List Loc) (ls : Array Slot) (cells slots : Nat), lv_has ls 3 [(0, .ref (kA κ 7 0)), (1, .int a1), (2, .int a2)] → HE κ γ H → va_S (AA κ) s.heap H locs → cells + (27 + 14 * k2) ≤ 70 → slots + (538 + 272 * k2) ≤ 1360 → x_L_doubles_13 (x_L_doubles_2 k2) a1 a2 s0 γ = res → W p l e (headSpec [Cond.code yL_doubles cL_doubles 3 (some .boolean)] ({ frames := 11, cells := 70, slots := 1360, locals := 241 } : Room)).room s m ([.ref (kA κ 7 0), .int y1] : List Value).toArray below meth c H locs cells slots (MQ below (QL κ res.2.2 (some (.int res.2.1))) ([.ref (kA κ 7 0), .int y1] : List Value).toArray s 70 1360 (AA κ)) (F0 m 13 ls [.int s0]) := by
        intro a1 a2 s0 γ H locs ls cells slots hl hH hS hc1 hc2 hq
        refine lv_sipush (v := 130) hx hb dL_doubles_13 (by decide) ?_
        refine lv_bipush (v := 50) hx hb dL_doubles_16 (by decide) ?_
        refine lv_iload_n hx hb dL_doubles_18 rfl (lv_at hl 2 rfl) ?_
        refine lv_imul hx hb dL_doubles_19 ?_
        refine lv_isub hx hb dL_doubles_20 ?_
        refine lv_icmp_ne (tgt := 45) hx hb dL_doubles_21 (by decide) (fun c32 => ?_) (fun c32 => ?_)
        · have hq := ifne hq c32
          exact b_45 γ _ _ _ _ _ (lv_sub hl [] rfl) hH hS (by omega) (by omega) hq
        · have hq := ifpe hq c32
          refine lv_aload_n hx hb dL_doubles_24 rfl (lv_at hl 0 rfl) ?_
          refine lv_ldc (v := 70000002) hx hb hown (hT _ tw_909) dL_doubles_25 ?_
          refine lv_ldc (v := 170000002) hx hb hown (hT _ tw_914) dL_doubles_27 ?_
          refine lv_iconst (v := (-1)) hx hb dL_doubles_29 (by decide) ?_
          refine lv_iconst (v := (-1)) hx hb dL_doubles_30 (by decide) ?_
          by_cases he33 : (x_L_phrase 70000002 170000002 ((-1)) ((-1)) γ).1 = 0
          rotate_left
          · exact flag_bad (ifne hq he33) hk
          have hq := ifpe hq he33
          refine e_callS (rest := []) hC hl hH hS (c_L_phrase l hfl κ γ 70000002 170000002 ((-1)) ((-1)) he33) tw_858 tw_859 tw_37 tw_860 hd_L_phrase ⟨Nat.le_of_ble_eq_true rfl, Nat.le_of_ble_eq_true rfl⟩ rfl rfl rfl rfl (Nat.le_of_ble_eq_true rfl) dL_doubles_31 ⟨by show _ ≤ 70; omega, by show _ ≤ 1360; omega⟩ rfl (fun H locs hH hS => ?_)
          exact b_34 a1 a2 ((x_L_phrase 70000002 170000002 ((-1)) ((-1)) γ).2.1) (x_L_phrase 70000002 170000002 ((-1)) ((-1)) γ).2.2 _ _ _ _ _ (lv_sub hl [0, 1, 2] rfl) hH hS (by omega) (by omega) hq
      intro a1 a2 γ H locs ls cells slots hl hH hS hc1 hc2 hq
      refine lv_iload_n hx hb dL_doubles_2 rfl (lv_at hl 2 rfl) ?_
      refine lv_iload_n hx hb dL_doubles_3 rfl (lv_at hl 1 rfl) ?_
      refine lv_icmp_ge (tgt := 53) hx hb dL_doubles_4 (by decide) (fun c34 => ?_) (fun c34 => ?_)
      · have hq := ifpe hq c34
        refine lv_iconst (v := 1) hx hb dL_doubles_53 (by decide) ?_
        subst hq
        exact er_z hC hr rfl hH hS rfl rfl (by omega) (by omega) dL_doubles_54
      · have hq := ifne hq c34
        refine lv_aload_n hx hb dL_doubles_7 rfl (lv_at hl 0 rfl) ?_
        refine lv_bipush (v := 50) hx hb dL_doubles_8 (by decide) ?_
        refine e_xcallV (rest := []) hC hl hH hS (co_clock l hfl κ γ 50) tw_694 tw_695 tw_696 tw_38 tw_697 hd_X7_clock ⟨Nat.le_of_ble_eq_true rfl, Nat.le_of_ble_eq_true rfl⟩ rfl rfl rfl rfl (Nat.le_of_ble_eq_true rfl) dL_doubles_10 ⟨by show _ ≤ 70; omega, by show _ ≤ 1360; omega⟩ rfl (fun he35 ce q9 H locs hH hS hce hcv hcl => ?_) (fun he35 H locs hH hS => ?_)
        · exact flag_bad (ifne hq he35) hk
        have hq := ifpe hq he35
        exact b_13 a1 a2 ((x_X7_clock 50 γ).2.1) (x_X7_clock 50 γ).2.2 _ _ _ _ _ (lv_sub hl [0, 1, 2] rfl) hH hS (by omega) (by omega) hq
  refine lv_iconst (v := 0) hx hb dL_doubles_0 (by decide) ?_
  refine lv_istore_n (lv' := [(2, .int 0), (0, .ref (kA κ 7 0)), (1, .int y1)]) hx hb dL_doubles_1 rfl hl (by decide) rfl (fun ls hl => ?_)
  exact b_2 4 y1 0 γ _ _ _ _ _ (lv_sub hl [1, 2, 0] rfl) hH hS (by omega) (by omega) hq
set_option maxRecDepth 20000 in
set_option maxHeartbeats 4000000 in
theorem c_L_bouts (l : Launch) (hfl : l.stackTraces = false) (κ : KP) (γ : St) (hk : (x_L_bouts γ).1 = 0) : Met l yL_bouts [Cond.code yL_bouts cL_bouts 1 (some .boolean)] ({ frames := 12, cells := 1010, slots := 19220, locals := 263 } : Room) (va_Pc [.ref (kA κ 7 0)] (GW κ γ)) (QL κ (x_L_bouts γ).2.2 (some (.int (x_L_bouts γ).2.1))) 1010 19220 (AA κ) := by
  generalize hq : x_L_bouts γ = res at hk ⊢
  refine Met.ofW (cc := cL_bouts) (maxL := 1) (ret := (some .boolean)) (by decide) rfl ?_
  intro p e s m args below meth c s₁ B hml9 hv
  obtain ⟨rfl, hH, hK9, hB9, hX9, hZ9⟩ := hv
  have hC : CX κ cL_bouts "PhrasehallLaw" 1 p l s m ([.ref (kA κ 7 0)] : List Value).toArray meth c := ⟨B.exec, B.bytes, findClass_of_methodNamed B.named, fun w hw => tw_use (List.mem_filter.mp hw).2 (State.WarmedH.refl s) (hX9.1 w hw), hK9, hX9, hZ9, hB9, hml9, B.notSynchronized⟩
  obtain ⟨hx, hb, hown, hT, -, -, -, -, hml, -⟩ := id hC
  have hr := B.returns
  have hS : va_S (AA κ) s.heap s.heap [] := va_S.rf
  have hl := lv_entry ([.ref (kA κ 7 0)]) (n := 1) (Nat.le_of_ble_eq_true rfl)
  rw [lg_entry_eq]
  generalize (lg_sl ([.ref (kA κ 7 0)]) ++ List.replicate (1 - (lg_sl ([.ref (kA κ 7 0)])).length) Slot.unset).toArray = ls at hl ⊢
  have hl : lv_has ls 1 [(0, .ref (kA κ 7 0))] := hl
  have hc1 : 0 + 1010 ≤ 1010 := Nat.le_of_ble_eq_true rfl
  have hc2 : 0 + 19220 ≤ 19220 := Nat.le_of_ble_eq_true rfl
  have b_250 : ∀ (γ : St) (H : Heap) (locs : List Loc) (ls : Array Slot) (cells slots : Nat), lv_has ls 1 [] → HE κ γ H → va_S (AA κ) s.heap H locs → cells + (0) ≤ 1010 → slots + (0) ≤ 19220 → x_L_bouts_250 γ = res → W p l e (headSpec [Cond.code yL_bouts cL_bouts 1 (some .boolean)] ({ frames := 12, cells := 1010, slots := 19220, locals := 263 } : Room)).room s m ([.ref (kA κ 7 0)] : List Value).toArray below meth c H locs cells slots (MQ below (QL κ res.2.2 (some (.int res.2.1))) ([.ref (kA κ 7 0)] : List Value).toArray s 1010 19220 (AA κ)) (F0 m 250 ls []) := by
    intro γ H locs ls cells slots hl hH hS hc1 hc2 hq
    refine lv_iconst (v := 0) hx hb dL_bouts_250 (by decide) ?_
    subst hq
    exact er_z hC hr rfl hH hS rfl rfl (by omega) (by omega) dL_bouts_251
  have b_417 : ∀ (γ : St) (H : Heap) (locs : List Loc) (ls : Array Slot) (cells slots : Nat), lv_has ls 1 [] → HE κ γ H → va_S (AA κ) s.heap H locs → cells + (0) ≤ 1010 → slots + (0) ≤ 19220 → x_L_bouts_417 γ = res → W p l e (headSpec [Cond.code yL_bouts cL_bouts 1 (some .boolean)] ({ frames := 12, cells := 1010, slots := 19220, locals := 263 } : Room)).room s m ([.ref (kA κ 7 0)] : List Value).toArray below meth c H locs cells slots (MQ below (QL κ res.2.2 (some (.int res.2.1))) ([.ref (kA κ 7 0)] : List Value).toArray s 1010 19220 (AA κ)) (F0 m 417 ls []) := by
    intro γ H locs ls cells slots hl hH hS hc1 hc2 hq
    refine lv_iconst (v := 0) hx hb dL_bouts_417 (by decide) ?_
    subst hq
    exact er_z hC hr rfl hH hS rfl rfl (by omega) (by omega) dL_bouts_418
  have b_576 : ∀ (γ : St) (H : Heap) (locs : List Loc) (ls : Array Slot) (cells slots : Nat), lv_has ls 1 [] → HE κ γ H → va_S (AA κ) s.heap H locs → cells + (0) ≤ 1010 → slots + (0) ≤ 19220 → x_L_bouts_576 γ = res → W p l e (headSpec [Cond.code yL_bouts cL_bouts 1 (some .boolean)] ({ frames := 12, cells := 1010, slots := 19220, locals := 263 } : Room)).room s m ([.ref (kA κ 7 0)] : List Value).toArray below meth c H locs cells slots (MQ below (QL κ res.2.2 (some (.int res.2.1))) ([.ref (kA κ 7 0)] : List Value).toArray s 1010 19220 (AA κ)) (F0 m 576 ls []) := by
    intro γ H locs ls cells slots hl hH hS hc1 hc2 hq
    refine lv_iconst (v := 0) hx hb dL_bouts_576 (by decide) ?_
    subst hq
    exact er_z hC hr rfl hH hS rfl rfl (by omega) (by omega) dL_bouts_577
  have b_777 : ∀ (γ : St) (H : Heap) (locs : List Loc) (ls : Array Slot) (cells slots : Nat), lv_has ls 1 [] → HE κ γ H → va_S (AA κ) s.heap H locs → cells + (0) ≤ 1010 → slots + (0) ≤ 19220 → x_L_bouts_777 γ = res → W p l e (headSpec [Cond.code yL_bouts cL_bouts 1 (some .boolean)] ({ frames := 12, cells := 1010, slots := 19220, locals := 263 } : Room)).room s m ([.ref (kA κ 7 0)] : List Value).toArray below meth c H locs cells slots (MQ below (QL κ res.2.2 (some (.int res.2.1))) ([.ref (kA κ 7 0)] : List Value).toArray s 1010 19220 (AA κ)) (F0 m 777 ls []) := by
    intro γ H locs ls cells slots hl hH hS hc1 hc2 hq
    refine lv_iconst (v := 0) hx hb dL_bouts_777 (by decide) ?_
    subst hq
    exact er_z hC hr rfl hH hS rfl rfl (by omega) (by omega) dL_bouts_778
  have b_774 : ∀ (s0 : Int32) (γ : St) (H : Heap) (locs : List Loc) (ls : Array Slot) (cells slots : Nat), lv_has ls 1 [(0, .ref (kA κ 7 0))] → HE κ γ H → va_S (AA κ) s.heap H locs → cells + (614) ≤ 1010 → slots + (13272) ≤ 19220 → x_L_bouts_774 s0 γ = res → W p l e (headSpec [Cond.code yL_bouts cL_bouts 1 (some .boolean)] ({ frames := 12, cells := 1010, slots := 19220, locals := 263 } : Room)).room s m ([.ref (kA κ 7 0)] : List Value).toArray below meth c H locs cells slots (MQ below (QL κ res.2.2 (some (.int res.2.1))) ([.ref (kA κ 7 0)] : List Value).toArray s 1010 19220 (AA κ)) (F0 m 774 ls [.int s0]) := by
    intro s0 γ H locs ls cells slots hl hH hS hc1 hc2 hq
    refine lv_if_ne (tgt := 779) hx hb dL_bouts_774 (by decide) (fun c525 => ?_) (fun c525 => ?_)
    · have hq := ifne hq c525
      refine lv_aload_n hx hb dL_bouts_779 rfl (lv_at hl 0 rfl) ?_
      refine lv_iconst (v := 4) hx hb dL_bouts_780 (by decide) ?_
      refine lv_iconst (v := 0) hx hb dL_bouts_781 (by decide) ?_
      refine lv_bipush (v := 7) hx hb dL_bouts_782 (by decide) ?_
      by_cases he526 : (x_L_refuses 4 0 7 γ).1 = 0
      rotate_left
      · exact flag_bad (ifne hq he526) hk
      have hq := ifpe hq he526
      refine e_callS (rest := []) hC hl hH hS (c_L_refuses l hfl κ γ 4 0 7 he526) tw_841 tw_842 tw_37 tw_843 hd_L_refuses ⟨Nat.le_of_ble_eq_true rfl, Nat.le_of_ble_eq_true rfl⟩ rfl rfl rfl rfl (Nat.le_of_ble_eq_true rfl) dL_bouts_784 ⟨by show _ ≤ 1010; omega, by show _ ≤ 19220; omega⟩ rfl (fun H locs hH hS => ?_)
      subst hq
      exact er_z hC hr (zN_eq _) hH hS rfl rfl (by omega) (by omega) dL_bouts_787
    · have hq := ifpe hq c525
      exact b_777 γ _ _ _ _ _ (lv_sub hl [] rfl) hH hS (by omega) (by omega) hq
  have b_756 : ∀ (s0 : Int32) (γ : St) (H : Heap) (locs : List Loc) (ls : Array Slot) (cells slots : Nat), lv_has ls 1 [(0, .ref (kA κ 7 0))] → HE κ γ H → va_S (AA κ) s.heap H locs → cells + (620) ≤ 1010 → slots + (13308) ≤ 19220 → x_L_bouts_756 s0 γ = res → W p l e (headSpec [Cond.code yL_bouts cL_bouts 1 (some .boolean)] ({ frames := 12, cells := 1010, slots := 19220, locals := 263 } : Room)).room s m ([.ref (kA κ 7 0)] : List Value).toArray below meth c H locs cells slots (MQ below (QL κ res.2.2 (some (.int res.2.1))) ([.ref (kA κ 7 0)] : List Value).toArray s 1010 19220 (AA κ)) (F0 m 756 ls [.int s0]) := by
    intro s0 γ H locs ls cells slots hl hH hS hc1 hc2 hq
    refine lv_iconst (v := 2) hx hb dL_bouts_756 (by decide) ?_
    refine lv_icmp_ne (tgt := 777) hx hb dL_bouts_757 (by decide) (fun c527 => ?_) (fun c527 => ?_)
    · have hq := ifne hq c527
      exact b_777 γ _ _ _ _ _ (lv_sub hl [] rfl) hH hS (by omega) (by omega) hq
    · have hq := ifpe hq c527
      refine lv_aload_n hx hb dL_bouts_760 rfl (lv_at hl 0 rfl) ?_
      refine lv_bipush (v := 6) hx hb dL_bouts_761 (by decide) ?_
      refine lv_iconst (v := 4) hx hb dL_bouts_763 (by decide) ?_
      refine lv_iconst (v := 3) hx hb dL_bouts_764 (by decide) ?_
      refine lv_iconst (v := 0) hx hb dL_bouts_765 (by decide) ?_
      refine lv_sipush (v := 181) hx hb dL_bouts_766 (by decide) ?_
      refine lv_iconst (v := 0) hx hb dL_bouts_769 (by decide) ?_
      refine lv_iconst (v := 1) hx hb dL_bouts_770 (by decide) ?_
      by_cases he528 : (x_L_bout 6 4 3 0 181 0 1 γ).1 = 0
      rotate_left
      · exact flag_bad (ifne hq he528) hk
      have hq := ifpe hq he528
      refine e_callS (rest := []) hC hl hH hS (c_L_bout l hfl κ γ 6 4 3 0 181 0 1 he528) tw_880 tw_881 tw_37 tw_882 hd_L_bout ⟨Nat.le_of_ble_eq_true rfl, Nat.le_of_ble_eq_true rfl⟩ rfl rfl rfl rfl (Nat.le_of_ble_eq_true rfl) dL_bouts_771 ⟨by show _ ≤ 1010; omega, by show _ ≤ 19220; omega⟩ rfl (fun H locs hH hS => ?_)
      exact b_774 ((x_L_bout 6 4 3 0 181 0 1 γ).2.1) (x_L_bout 6 4 3 0 181 0 1 γ).2.2 _ _ _ _ _ (lv_sub hl [0] rfl) hH hS (by omega) (by omega) hq
  have b_734 : ∀ (s0 : Int32) (γ : St) (H : Heap) (locs : List Loc) (ls : Array Slot) (cells slots : Nat), lv_has ls 1 [(0, .ref (kA κ 7 0))] → HE κ γ H → va_S (AA κ) s.heap H locs → cells + (622) ≤ 1010 → slots + (13320) ≤ 19220 → x_L_bouts_734 s0 γ = res → W p l e (headSpec [Cond.code yL_bouts cL_bouts 1 (some .boolean)] ({ frames := 12, cells := 1010, slots := 19220, locals := 263 } : Room)).room s m ([.ref (kA κ 7 0)] : List Value).toArray below meth c H locs cells slots (MQ below (QL κ res.2.2 (some (.int res.2.1))) ([.ref (kA κ 7 0)] : List Value).toArray s 1010 19220 (AA κ)) (F0 m 734 ls [.int s0]) := by
    intro s0 γ H locs ls cells slots hl hH hS hc1 hc2 hq
    refine lv_bipush (v := 59) hx hb dL_bouts_734 (by decide) ?_
    refine lv_icmp_ne (tgt := 777) hx hb dL_bouts_736 (by decide) (fun c529 => ?_) (fun c529 => ?_)
    · have hq := ifne hq c529
      exact b_777 γ _ _ _ _ _ (lv_sub hl [] rfl) hH hS (by omega) (by omega) hq
    · have hq := ifpe hq c529
      refine lv_aload_n hx hb dL_bouts_739 rfl (lv_at hl 0 rfl) ?_
      refine lv_bipush (v := 6) hx hb dL_bouts_740 (by decide) ?_
      refine lv_iconst (v := 5) hx hb dL_bouts_742 (by decide) ?_
      refine e_xcallV (rest := []) hC hl hH hS (co_ofBout l hfl κ γ 6 5) tw_254 tw_255 tw_256 tw_38 tw_257 hd_X7_ofBout ⟨Nat.le_of_ble_eq_true rfl, Nat.le_of_ble_eq_true rfl⟩ rfl rfl rfl rfl (Nat.le_of_ble_eq_true rfl) dL_bouts_743 ⟨by show _ ≤ 1010; omega, by show _ ≤ 19220; omega⟩ rfl (fun he530 ce q9 H locs hH hS hce hcv hcl => ?_) (fun he530 H locs hH hS => ?_)
      · exact flag_bad (ifne hq he530) hk
      have hq := ifpe hq he530
      refine lv_iconst (v := 1) hx hb dL_bouts_746 (by decide) ?_
      refine lv_icmp_ne (tgt := 777) hx hb dL_bouts_747 (by decide) (fun c531 => ?_) (fun c531 => ?_)
      · have hq := ifne hq c531
        exact b_777 (x_X7_ofBout 6 5 γ).2.2 _ _ _ _ _ (lv_sub hl [] rfl) hH hS (by omega) (by omega) hq
      · have hq := ifpe hq c531
        refine lv_aload_n hx hb dL_bouts_750 rfl (lv_at hl 0 rfl) ?_
        refine lv_iconst (v := 1) hx hb dL_bouts_751 (by decide) ?_
        refine lv_iconst (v := 3) hx hb dL_bouts_752 (by decide) ?_
        refine e_xcallV (rest := []) hC hl hH hS (co_card l hfl κ (x_X7_ofBout 6 5 γ).2.2 1 3) tw_675 tw_676 tw_677 tw_38 tw_678 hd_X7_card ⟨Nat.le_of_ble_eq_true rfl, Nat.le_of_ble_eq_true rfl⟩ rfl rfl rfl rfl (Nat.le_of_ble_eq_true rfl) dL_bouts_753 ⟨by show _ ≤ 1010; omega, by show _ ≤ 19220; omega⟩ rfl (fun he532 ce q9 H locs hH hS hce hcv hcl => ?_) (fun he532 H locs hH hS => ?_)
        · exact flag_bad (ifne hq he532) hk
        have hq := ifpe hq he532
        exact b_756 ((x_X7_card 1 3 (x_X7_ofBout 6 5 γ).2.2).2.1) (x_X7_card 1 3 (x_X7_ofBout 6 5 γ).2.2).2.2 _ _ _ _ _ (lv_sub hl [0] rfl) hH hS (by omega) (by omega) hq
  have b_725 : ∀ (s0 : Int32) (γ : St) (H : Heap) (locs : List Loc) (ls : Array Slot) (cells slots : Nat), lv_has ls 1 [(0, .ref (kA κ 7 0))] → HE κ γ H → va_S (AA κ) s.heap H locs → cells + (623) ≤ 1010 → slots + (13326) ≤ 19220 → x_L_bouts_725 s0 γ = res → W p l e (headSpec [Cond.code yL_bouts cL_bouts 1 (some .boolean)] ({ frames := 12, cells := 1010, slots := 19220, locals := 263 } : Room)).room s m ([.ref (kA κ 7 0)] : List Value).toArray below meth c H locs cells slots (MQ below (QL κ res.2.2 (some (.int res.2.1))) ([.ref (kA κ 7 0)] : List Value).toArray s 1010 19220 (AA κ)) (F0 m 725 ls [.int s0]) := by
    intro s0 γ H locs ls cells slots hl hH hS hc1 hc2 hq
    refine lv_if_eq (tgt := 777) hx hb dL_bouts_725 (by decide) (fun c533 => ?_) (fun c533 => ?_)
    · have hq := ifpe hq c533
      exact b_777 γ _ _ _ _ _ (lv_sub hl [] rfl) hH hS (by omega) (by omega) hq
    · have hq := ifne hq c533
      refine lv_aload_n hx hb dL_bouts_728 rfl (lv_at hl 0 rfl) ?_
      refine lv_bipush (v := 31) hx hb dL_bouts_729 (by decide) ?_
      refine e_xcallV (rest := []) hC hl hH hS (co_clock l hfl κ γ 31) tw_694 tw_695 tw_696 tw_38 tw_697 hd_X7_clock ⟨Nat.le_of_ble_eq_true rfl, Nat.le_of_ble_eq_true rfl⟩ rfl rfl rfl rfl (Nat.le_of_ble_eq_true rfl) dL_bouts_731 ⟨by show _ ≤ 1010; omega, by show _ ≤ 19220; omega⟩ rfl (fun he534 ce q9 H locs hH hS hce hcv hcl => ?_) (fun he534 H locs hH hS => ?_)
      · exact flag_bad (ifne hq he534) hk
      have hq := ifpe hq he534
      exact b_734 ((x_X7_clock 31 γ).2.1) (x_X7_clock 31 γ).2.2 _ _ _ _ _ (lv_sub hl [0] rfl) hH hS (by omega) (by omega) hq
  have b_715 : ∀ (s0 : Int32) (γ : St) (H : Heap) (locs : List Loc) (ls : Array Slot) (cells slots : Nat), lv_has ls 1 [(0, .ref (kA κ 7 0))] → HE κ γ H → va_S (AA κ) s.heap H locs → cells + (693) ≤ 1010 → slots + (14686) ≤ 19220 → x_L_bouts_715 s0 γ = res → W p l e (headSpec [Cond.code yL_bouts cL_bouts 1 (some .boolean)] ({ frames := 12, cells := 1010, slots := 19220, locals := 263 } : Room)).room s m ([.ref (kA κ 7 0)] : List Value).toArray below meth c H locs cells slots (MQ below (QL κ res.2.2 (some (.int res.2.1))) ([.ref (kA κ 7 0)] : List Value).toArray s 1010 19220 (AA κ)) (F0 m 715 ls [.int s0]) := by
    intro s0 γ H locs ls cells slots hl hH hS hc1 hc2 hq
    refine lv_bipush (v := 6) hx hb dL_bouts_715 (by decide) ?_
    refine lv_icmp_ne (tgt := 777) hx hb dL_bouts_717 (by decide) (fun c535 => ?_) (fun c535 => ?_)
    · have hq := ifne hq c535
      exact b_777 γ _ _ _ _ _ (lv_sub hl [] rfl) hH hS (by omega) (by omega) hq
    · have hq := ifpe hq c535
      refine lv_aload_n hx hb dL_bouts_720 rfl (lv_at hl 0 rfl) ?_
      refine lv_iconst (v := 3) hx hb dL_bouts_721 (by decide) ?_
      by_cases he536 : (x_L_doubles 3 γ).1 = 0
      rotate_left
      · exact flag_bad (ifne hq he536) hk
      have hq := ifpe hq he536
      refine e_callS (rest := []) hC hl hH hS (c_L_doubles l hfl κ γ 3 he536) tw_918 tw_919 tw_37 tw_920 hd_L_doubles ⟨Nat.le_of_ble_eq_true rfl, Nat.le_of_ble_eq_true rfl⟩ rfl rfl rfl rfl (Nat.le_of_ble_eq_true rfl) dL_bouts_722 ⟨by show _ ≤ 1010; omega, by show _ ≤ 19220; omega⟩ rfl (fun H locs hH hS => ?_)
      exact b_725 ((x_L_doubles 3 γ).2.1) (x_L_doubles 3 γ).2.2 _ _ _ _ _ (lv_sub hl [0] rfl) hH hS (by omega) (by omega) hq
  have b_701 : ∀ (s0 : Int32) (γ : St) (H : Heap) (locs : List Loc) (ls : Array Slot) (cells slots : Nat), lv_has ls 1 [(0, .ref (kA κ 7 0))] → HE κ γ H → va_S (AA κ) s.heap H locs → cells + (696) ≤ 1010 → slots + (14704) ≤ 19220 → x_L_bouts_701 s0 γ = res → W p l e (headSpec [Cond.code yL_bouts cL_bouts 1 (some .boolean)] ({ frames := 12, cells := 1010, slots := 19220, locals := 263 } : Room)).room s m ([.ref (kA κ 7 0)] : List Value).toArray below meth c H locs cells slots (MQ below (QL κ res.2.2 (some (.int res.2.1))) ([.ref (kA κ 7 0)] : List Value).toArray s 1010 19220 (AA κ)) (F0 m 701 ls [.int s0]) := by
    intro s0 γ H locs ls cells slots hl hH hS hc1 hc2 hq
    refine lv_iconst (v := 1) hx hb dL_bouts_701 (by decide) ?_
    refine lv_icmp_ne (tgt := 777) hx hb dL_bouts_702 (by decide) (fun c537 => ?_) (fun c537 => ?_)
    · have hq := ifne hq c537
      exact b_777 γ _ _ _ _ _ (lv_sub hl [] rfl) hH hS (by omega) (by omega) hq
    · have hq := ifpe hq c537
      refine lv_aload_n hx hb dL_bouts_705 rfl (lv_at hl 0 rfl) ?_
      refine lv_iconst (v := 1) hx hb dL_bouts_706 (by decide) ?_
      refine lv_iconst (v := 2) hx hb dL_bouts_707 (by decide) ?_
      refine lv_iconst (v := 1) hx hb dL_bouts_708 (by decide) ?_
      refine lv_bipush (v := 45) hx hb dL_bouts_709 (by decide) ?_
      refine lv_iconst (v := (-1)) hx hb dL_bouts_711 (by decide) ?_
      refine e_xcallV (rest := []) hC hl hH hS (co_begin l hfl κ γ 1 2 1 45 ((-1))) tw_436 tw_437 tw_438 tw_38 tw_439 hd_X7_begin ⟨Nat.le_of_ble_eq_true rfl, Nat.le_of_ble_eq_true rfl⟩ rfl rfl rfl rfl (Nat.le_of_ble_eq_true rfl) dL_bouts_712 ⟨by show _ ≤ 1010; omega, by show _ ≤ 19220; omega⟩ rfl (fun he538 ce q9 H locs hH hS hce hcv hcl => ?_) (fun he538 H locs hH hS => ?_)
      · exact flag_bad (ifne hq he538) hk
      have hq := ifpe hq he538
      exact b_715 ((x_X7_begin 1 2 1 45 ((-1)) γ).2.1) (x_X7_begin 1 2 1 45 ((-1)) γ).2.2 _ _ _ _ _ (lv_sub hl [0] rfl) hH hS (by omega) (by omega) hq
  have b_693 : ∀ (s0 : Int32) (γ : St) (H : Heap) (locs : List Loc) (ls : Array Slot) (cells slots : Nat), lv_has ls 1 [(0, .ref (kA κ 7 0))] → HE κ γ H → va_S (AA κ) s.heap H locs → cells + (697) ≤ 1010 → slots + (14710) ≤ 19220 → x_L_bouts_693 s0 γ = res → W p l e (headSpec [Cond.code yL_bouts cL_bouts 1 (some .boolean)] ({ frames := 12, cells := 1010, slots := 19220, locals := 263 } : Room)).room s m ([.ref (kA κ 7 0)] : List Value).toArray below meth c H locs cells slots (MQ below (QL κ res.2.2 (some (.int res.2.1))) ([.ref (kA κ 7 0)] : List Value).toArray s 1010 19220 (AA κ)) (F0 m 693 ls [.int s0]) := by
    intro s0 γ H locs ls cells slots hl hH hS hc1 hc2 hq
    refine lv_if_eq (tgt := 777) hx hb dL_bouts_693 (by decide) (fun c539 => ?_) (fun c539 => ?_)
    · have hq := ifpe hq c539
      exact b_777 γ _ _ _ _ _ (lv_sub hl [] rfl) hH hS (by omega) (by omega) hq
    · have hq := ifne hq c539
      refine lv_aload_n hx hb dL_bouts_696 rfl (lv_at hl 0 rfl) ?_
      refine lv_iconst (v := 3) hx hb dL_bouts_697 (by decide) ?_
      refine e_xcallS (rest := []) hC hl hH hS (c_L_seed l hfl κ γ 3) tw_735 tw_736 tw_37 tw_737 hd_L_seed ⟨Nat.le_of_ble_eq_true rfl, Nat.le_of_ble_eq_true rfl⟩ rfl rfl rfl rfl (Nat.le_of_ble_eq_true rfl) dL_bouts_698 ⟨by show _ ≤ 1010; omega, by show _ ≤ 19220; omega⟩ rfl (fun he540 ce q9 H locs hH hS hce hcv hcl => ?_) (fun he540 H locs hH hS => ?_)
      · exact flag_bad (ifne hq he540) hk
      have hq := ifpe hq he540
      exact b_701 1 (x_X7_seed 3 γ).2 _ _ _ _ _ (lv_sub hl [0] rfl) hH hS (by omega) (by omega) hq
  have b_677 : ∀ (s0 : Int32) (γ : St) (H : Heap) (locs : List Loc) (ls : Array Slot) (cells slots : Nat), lv_has ls 1 [(0, .ref (kA κ 7 0))] → HE κ γ H → va_S (AA κ) s.heap H locs → cells + (703) ≤ 1010 → slots + (14746) ≤ 19220 → x_L_bouts_677 s0 γ = res → W p l e (headSpec [Cond.code yL_bouts cL_bouts 1 (some .boolean)] ({ frames := 12, cells := 1010, slots := 19220, locals := 263 } : Room)).room s m ([.ref (kA κ 7 0)] : List Value).toArray below meth c H locs cells slots (MQ below (QL κ res.2.2 (some (.int res.2.1))) ([.ref (kA κ 7 0)] : List Value).toArray s 1010 19220 (AA κ)) (F0 m 677 ls [.int s0]) := by
    intro s0 γ H locs ls cells slots hl hH hS hc1 hc2 hq
    refine lv_if_ne (tgt := 777) hx hb dL_bouts_677 (by decide) (fun c541 => ?_) (fun c541 => ?_)
    · have hq := ifne hq c541
      exact b_777 γ _ _ _ _ _ (lv_sub hl [] rfl) hH hS (by omega) (by omega) hq
    · have hq := ifpe hq c541
      refine lv_aload_n hx hb dL_bouts_680 rfl (lv_at hl 0 rfl) ?_
      refine lv_iconst (v := 5) hx hb dL_bouts_681 (by decide) ?_
      refine lv_iconst (v := 4) hx hb dL_bouts_682 (by decide) ?_
      refine lv_iconst (v := 4) hx hb dL_bouts_683 (by decide) ?_
      refine lv_iconst (v := 0) hx hb dL_bouts_684 (by decide) ?_
      refine lv_sipush (v := 240) hx hb dL_bouts_685 (by decide) ?_
      refine lv_iconst (v := 1) hx hb dL_bouts_688 (by decide) ?_
      refine lv_iconst (v := 0) hx hb dL_bouts_689 (by decide) ?_
      by_cases he542 : (x_L_bout 5 4 4 0 240 1 0 γ).1 = 0
      rotate_left
      · exact flag_bad (ifne hq he542) hk
      have hq := ifpe hq he542
      refine e_callS (rest := []) hC hl hH hS (c_L_bout l hfl κ γ 5 4 4 0 240 1 0 he542) tw_880 tw_881 tw_37 tw_882 hd_L_bout ⟨Nat.le_of_ble_eq_true rfl, Nat.le_of_ble_eq_true rfl⟩ rfl rfl rfl rfl (Nat.le_of_ble_eq_true rfl) dL_bouts_690 ⟨by show _ ≤ 1010; omega, by show _ ≤ 19220; omega⟩ rfl (fun H locs hH hS => ?_)
      exact b_693 ((x_L_bout 5 4 4 0 240 1 0 γ).2.1) (x_L_bout 5 4 4 0 240 1 0 γ).2.2 _ _ _ _ _ (lv_sub hl [0] rfl) hH hS (by omega) (by omega) hq
  have b_658 : ∀ (s0 : Int32) (γ : St) (H : Heap) (locs : List Loc) (ls : Array Slot) (cells slots : Nat), lv_has ls 1 [(0, .ref (kA κ 7 0))] → HE κ γ H → va_S (AA κ) s.heap H locs → cells + (705) ≤ 1010 → slots + (14758) ≤ 19220 → x_L_bouts_658 s0 γ = res → W p l e (headSpec [Cond.code yL_bouts cL_bouts 1 (some .boolean)] ({ frames := 12, cells := 1010, slots := 19220, locals := 263 } : Room)).room s m ([.ref (kA κ 7 0)] : List Value).toArray below meth c H locs cells slots (MQ below (QL κ res.2.2 (some (.int res.2.1))) ([.ref (kA κ 7 0)] : List Value).toArray s 1010 19220 (AA κ)) (F0 m 658 ls [.int s0]) := by
    intro s0 γ H locs ls cells slots hl hH hS hc1 hc2 hq
    refine lv_iconst (v := 1) hx hb dL_bouts_658 (by decide) ?_
    refine lv_icmp_ne (tgt := 777) hx hb dL_bouts_659 (by decide) (fun c543 => ?_) (fun c543 => ?_)
    · have hq := ifne hq c543
      exact b_777 γ _ _ _ _ _ (lv_sub hl [] rfl) hH hS (by omega) (by omega) hq
    · have hq := ifpe hq c543
      refine lv_aload_n hx hb dL_bouts_662 rfl (lv_at hl 0 rfl) ?_
      refine lv_iconst (v := 5) hx hb dL_bouts_663 (by decide) ?_
      refine lv_iconst (v := 2) hx hb dL_bouts_664 (by decide) ?_
      refine e_xcallV (rest := []) hC hl hH hS (co_ofBout l hfl κ γ 5 2) tw_254 tw_255 tw_256 tw_38 tw_257 hd_X7_ofBout ⟨Nat.le_of_ble_eq_true rfl, Nat.le_of_ble_eq_true rfl⟩ rfl rfl rfl rfl (Nat.le_of_ble_eq_true rfl) dL_bouts_665 ⟨by show _ ≤ 1010; omega, by show _ ≤ 19220; omega⟩ rfl (fun he544 ce q9 H locs hH hS hce hcv hcl => ?_) (fun he544 H locs hH hS => ?_)
      · exact flag_bad (ifne hq he544) hk
      have hq := ifpe hq he544
      refine lv_iconst (v := (-1)) hx hb dL_bouts_668 (by decide) ?_
      refine lv_icmp_ne (tgt := 777) hx hb dL_bouts_669 (by decide) (fun c545 => ?_) (fun c545 => ?_)
      · have hq := ifne hq c545
        exact b_777 (x_X7_ofBout 5 2 γ).2.2 _ _ _ _ _ (lv_sub hl [] rfl) hH hS (by omega) (by omega) hq
      · have hq := ifpe hq c545
        refine lv_aload_n hx hb dL_bouts_672 rfl (lv_at hl 0 rfl) ?_
        refine lv_iconst (v := 1) hx hb dL_bouts_673 (by decide) ?_
        refine e_xcallV (rest := []) hC hl hH hS (co_clock l hfl κ (x_X7_ofBout 5 2 γ).2.2 1) tw_694 tw_695 tw_696 tw_38 tw_697 hd_X7_clock ⟨Nat.le_of_ble_eq_true rfl, Nat.le_of_ble_eq_true rfl⟩ rfl rfl rfl rfl (Nat.le_of_ble_eq_true rfl) dL_bouts_674 ⟨by show _ ≤ 1010; omega, by show _ ≤ 19220; omega⟩ rfl (fun he546 ce q9 H locs hH hS hce hcv hcl => ?_) (fun he546 H locs hH hS => ?_)
        · exact flag_bad (ifne hq he546) hk
        have hq := ifpe hq he546
        exact b_677 ((x_X7_clock 1 (x_X7_ofBout 5 2 γ).2.2).2.1) (x_X7_clock 1 (x_X7_ofBout 5 2 γ).2.2).2.2 _ _ _ _ _ (lv_sub hl [0] rfl) hH hS (by omega) (by omega) hq
  have b_649 : ∀ (s0 : Int32) (γ : St) (H : Heap) (locs : List Loc) (ls : Array Slot) (cells slots : Nat), lv_has ls 1 [(0, .ref (kA κ 7 0))] → HE κ γ H → va_S (AA κ) s.heap H locs → cells + (706) ≤ 1010 → slots + (14764) ≤ 19220 → x_L_bouts_649 s0 γ = res → W p l e (headSpec [Cond.code yL_bouts cL_bouts 1 (some .boolean)] ({ frames := 12, cells := 1010, slots := 19220, locals := 263 } : Room)).room s m ([.ref (kA κ 7 0)] : List Value).toArray below meth c H locs cells slots (MQ below (QL κ res.2.2 (some (.int res.2.1))) ([.ref (kA κ 7 0)] : List Value).toArray s 1010 19220 (AA κ)) (F0 m 649 ls [.int s0]) := by
    intro s0 γ H locs ls cells slots hl hH hS hc1 hc2 hq
    refine lv_if_eq (tgt := 777) hx hb dL_bouts_649 (by decide) (fun c547 => ?_) (fun c547 => ?_)
    · have hq := ifpe hq c547
      exact b_777 γ _ _ _ _ _ (lv_sub hl [] rfl) hH hS (by omega) (by omega) hq
    · have hq := ifne hq c547
      refine lv_aload_n hx hb dL_bouts_652 rfl (lv_at hl 0 rfl) ?_
      refine lv_bipush (v := 59) hx hb dL_bouts_653 (by decide) ?_
      refine e_xcallV (rest := []) hC hl hH hS (co_clock l hfl κ γ 59) tw_694 tw_695 tw_696 tw_38 tw_697 hd_X7_clock ⟨Nat.le_of_ble_eq_true rfl, Nat.le_of_ble_eq_true rfl⟩ rfl rfl rfl rfl (Nat.le_of_ble_eq_true rfl) dL_bouts_655 ⟨by show _ ≤ 1010; omega, by show _ ≤ 19220; omega⟩ rfl (fun he548 ce q9 H locs hH hS hce hcv hcl => ?_) (fun he548 H locs hH hS => ?_)
      · exact flag_bad (ifne hq he548) hk
      have hq := ifpe hq he548
      exact b_658 ((x_X7_clock 59 γ).2.1) (x_X7_clock 59 γ).2.2 _ _ _ _ _ (lv_sub hl [0] rfl) hH hS (by omega) (by omega) hq
  have b_637 : ∀ (s0 : Int32) (γ : St) (H : Heap) (locs : List Loc) (ls : Array Slot) (cells slots : Nat), lv_has ls 1 [(0, .ref (kA κ 7 0))] → HE κ γ H → va_S (AA κ) s.heap H locs → cells + (710) ≤ 1010 → slots + (14788) ≤ 19220 → x_L_bouts_637 s0 γ = res → W p l e (headSpec [Cond.code yL_bouts cL_bouts 1 (some .boolean)] ({ frames := 12, cells := 1010, slots := 19220, locals := 263 } : Room)).room s m ([.ref (kA κ 7 0)] : List Value).toArray below meth c H locs cells slots (MQ below (QL κ res.2.2 (some (.int res.2.1))) ([.ref (kA κ 7 0)] : List Value).toArray s 1010 19220 (AA κ)) (F0 m 637 ls [.int s0]) := by
    intro s0 γ H locs ls cells slots hl hH hS hc1 hc2 hq
    refine lv_if_eq (tgt := 777) hx hb dL_bouts_637 (by decide) (fun c549 => ?_) (fun c549 => ?_)
    · have hq := ifpe hq c549
      exact b_777 γ _ _ _ _ _ (lv_sub hl [] rfl) hH hS (by omega) (by omega) hq
    · have hq := ifne hq c549
      refine lv_aload_n hx hb dL_bouts_640 rfl (lv_at hl 0 rfl) ?_
      refine lv_iconst (v := (-1)) hx hb dL_bouts_641 (by decide) ?_
      refine lv_iconst (v := 0) hx hb dL_bouts_642 (by decide) ?_
      refine lv_iconst (v := 0) hx hb dL_bouts_643 (by decide) ?_
      refine lv_iconst (v := 3) hx hb dL_bouts_644 (by decide) ?_
      refine lv_iconst (v := 3) hx hb dL_bouts_645 (by decide) ?_
      by_cases he550 : (x_L_judged ((-1)) 0 0 3 3 γ).1 = 0
      rotate_left
      · exact flag_bad (ifne hq he550) hk
      have hq := ifpe hq he550
      refine e_callS (rest := []) hC hl hH hS (c_L_judged l hfl κ γ ((-1)) 0 0 3 3 he550) tw_853 tw_854 tw_37 tw_855 hd_L_judged ⟨Nat.le_of_ble_eq_true rfl, Nat.le_of_ble_eq_true rfl⟩ rfl rfl rfl rfl (Nat.le_of_ble_eq_true rfl) dL_bouts_646 ⟨by show _ ≤ 1010; omega, by show _ ≤ 19220; omega⟩ rfl (fun H locs hH hS => ?_)
      exact b_649 ((x_L_judged ((-1)) 0 0 3 3 γ).2.1) (x_L_judged ((-1)) 0 0 3 3 γ).2.2 _ _ _ _ _ (lv_sub hl [0] rfl) hH hS (by omega) (by omega) hq
  have b_624 : ∀ (s0 : Int32) (γ : St) (H : Heap) (locs : List Loc) (ls : Array Slot) (cells slots : Nat), lv_has ls 1 [(0, .ref (kA κ 7 0))] → HE κ γ H → va_S (AA κ) s.heap H locs → cells + (722) ≤ 1010 → slots + (15048) ≤ 19220 → x_L_bouts_624 s0 γ = res → W p l e (headSpec [Cond.code yL_bouts cL_bouts 1 (some .boolean)] ({ frames := 12, cells := 1010, slots := 19220, locals := 263 } : Room)).room s m ([.ref (kA κ 7 0)] : List Value).toArray below meth c H locs cells slots (MQ below (QL κ res.2.2 (some (.int res.2.1))) ([.ref (kA κ 7 0)] : List Value).toArray s 1010 19220 (AA κ)) (F0 m 624 ls [.int s0]) := by
    intro s0 γ H locs ls cells slots hl hH hS hc1 hc2 hq
    refine lv_if_eq (tgt := 777) hx hb dL_bouts_624 (by decide) (fun c551 => ?_) (fun c551 => ?_)
    · have hq := ifpe hq c551
      exact b_777 γ _ _ _ _ _ (lv_sub hl [] rfl) hH hS (by omega) (by omega) hq
    · have hq := ifne hq c551
      refine lv_aload_n hx hb dL_bouts_627 rfl (lv_at hl 0 rfl) ?_
      refine lv_ldc (v := 70000002) hx hb hown (hT _ tw_909) dL_bouts_628 ?_
      refine lv_ldc (v := 170000002) hx hb hown (hT _ tw_914) dL_bouts_630 ?_
      refine lv_iconst (v := (-1)) hx hb dL_bouts_632 (by decide) ?_
      refine lv_iconst (v := (-1)) hx hb dL_bouts_633 (by decide) ?_
      by_cases he552 : (x_L_phrase 70000002 170000002 ((-1)) ((-1)) γ).1 = 0
      rotate_left
      · exact flag_bad (ifne hq he552) hk
      have hq := ifpe hq he552
      refine e_callS (rest := []) hC hl hH hS (c_L_phrase l hfl κ γ 70000002 170000002 ((-1)) ((-1)) he552) tw_858 tw_859 tw_37 tw_860 hd_L_phrase ⟨Nat.le_of_ble_eq_true rfl, Nat.le_of_ble_eq_true rfl⟩ rfl rfl rfl rfl (Nat.le_of_ble_eq_true rfl) dL_bouts_634 ⟨by show _ ≤ 1010; omega, by show _ ≤ 19220; omega⟩ rfl (fun H locs hH hS => ?_)
      exact b_637 ((x_L_phrase 70000002 170000002 ((-1)) ((-1)) γ).2.1) (x_L_phrase 70000002 170000002 ((-1)) ((-1)) γ).2.2 _ _ _ _ _ (lv_sub hl [0] rfl) hH hS (by omega) (by omega) hq
  have b_606 : ∀ (s0 : Int32) (γ : St) (H : Heap) (locs : List Loc) (ls : Array Slot) (cells slots : Nat), lv_has ls 1 [(0, .ref (kA κ 7 0))] → HE κ γ H → va_S (AA κ) s.heap H locs → cells + (728) ≤ 1010 → slots + (15084) ≤ 19220 → x_L_bouts_606 s0 γ = res → W p l e (headSpec [Cond.code yL_bouts cL_bouts 1 (some .boolean)] ({ frames := 12, cells := 1010, slots := 19220, locals := 263 } : Room)).room s m ([.ref (kA κ 7 0)] : List Value).toArray below meth c H locs cells slots (MQ below (QL κ res.2.2 (some (.int res.2.1))) ([.ref (kA κ 7 0)] : List Value).toArray s 1010 19220 (AA κ)) (F0 m 606 ls [.int s0]) := by
    intro s0 γ H locs ls cells slots hl hH hS hc1 hc2 hq
    refine lv_bipush (v := 60) hx hb dL_bouts_606 (by decide) ?_
    refine lv_icmp_ne (tgt := 777) hx hb dL_bouts_608 (by decide) (fun c553 => ?_) (fun c553 => ?_)
    · have hq := ifne hq c553
      exact b_777 γ _ _ _ _ _ (lv_sub hl [] rfl) hH hS (by omega) (by omega) hq
    · have hq := ifpe hq c553
      refine lv_aload_n hx hb dL_bouts_611 rfl (lv_at hl 0 rfl) ?_
      refine lv_iconst (v := 5) hx hb dL_bouts_612 (by decide) ?_
      refine lv_iconst (v := 3) hx hb dL_bouts_613 (by decide) ?_
      refine lv_iconst (v := 3) hx hb dL_bouts_614 (by decide) ?_
      refine lv_iconst (v := (-1)) hx hb dL_bouts_615 (by decide) ?_
      refine lv_sipush (v := 180) hx hb dL_bouts_616 (by decide) ?_
      refine lv_iconst (v := 0) hx hb dL_bouts_619 (by decide) ?_
      refine lv_iconst (v := 0) hx hb dL_bouts_620 (by decide) ?_
      by_cases he554 : (x_L_bout 5 3 3 ((-1)) 180 0 0 γ).1 = 0
      rotate_left
      · exact flag_bad (ifne hq he554) hk
      have hq := ifpe hq he554
      refine e_callS (rest := []) hC hl hH hS (c_L_bout l hfl κ γ 5 3 3 ((-1)) 180 0 0 he554) tw_880 tw_881 tw_37 tw_882 hd_L_bout ⟨Nat.le_of_ble_eq_true rfl, Nat.le_of_ble_eq_true rfl⟩ rfl rfl rfl rfl (Nat.le_of_ble_eq_true rfl) dL_bouts_621 ⟨by show _ ≤ 1010; omega, by show _ ≤ 19220; omega⟩ rfl (fun H locs hH hS => ?_)
      exact b_624 ((x_L_bout 5 3 3 ((-1)) 180 0 0 γ).2.1) (x_L_bout 5 3 3 ((-1)) 180 0 0 γ).2.2 _ _ _ _ _ (lv_sub hl [0] rfl) hH hS (by omega) (by omega) hq
  have b_597 : ∀ (s0 : Int32) (γ : St) (H : Heap) (locs : List Loc) (ls : Array Slot) (cells slots : Nat), lv_has ls 1 [(0, .ref (kA κ 7 0))] → HE κ γ H → va_S (AA κ) s.heap H locs → cells + (729) ≤ 1010 → slots + (15090) ≤ 19220 → x_L_bouts_597 s0 γ = res → W p l e (headSpec [Cond.code yL_bouts cL_bouts 1 (some .boolean)] ({ frames := 12, cells := 1010, slots := 19220, locals := 263 } : Room)).room s m ([.ref (kA κ 7 0)] : List Value).toArray below meth c H locs cells slots (MQ below (QL κ res.2.2 (some (.int res.2.1))) ([.ref (kA κ 7 0)] : List Value).toArray s 1010 19220 (AA κ)) (F0 m 597 ls [.int s0]) := by
    intro s0 γ H locs ls cells slots hl hH hS hc1 hc2 hq
    refine lv_if_eq (tgt := 777) hx hb dL_bouts_597 (by decide) (fun c555 => ?_) (fun c555 => ?_)
    · have hq := ifpe hq c555
      exact b_777 γ _ _ _ _ _ (lv_sub hl [] rfl) hH hS (by omega) (by omega) hq
    · have hq := ifne hq c555
      refine lv_aload_n hx hb dL_bouts_600 rfl (lv_at hl 0 rfl) ?_
      refine lv_bipush (v := 30) hx hb dL_bouts_601 (by decide) ?_
      refine e_xcallV (rest := []) hC hl hH hS (co_clock l hfl κ γ 30) tw_694 tw_695 tw_696 tw_38 tw_697 hd_X7_clock ⟨Nat.le_of_ble_eq_true rfl, Nat.le_of_ble_eq_true rfl⟩ rfl rfl rfl rfl (Nat.le_of_ble_eq_true rfl) dL_bouts_603 ⟨by show _ ≤ 1010; omega, by show _ ≤ 19220; omega⟩ rfl (fun he556 ce q9 H locs hH hS hce hcv hcl => ?_) (fun he556 H locs hH hS => ?_)
      · exact flag_bad (ifne hq he556) hk
      have hq := ifpe hq he556
      exact b_606 ((x_X7_clock 30 γ).2.1) (x_X7_clock 30 γ).2.2 _ _ _ _ _ (lv_sub hl [0] rfl) hH hS (by omega) (by omega) hq
  have b_588 : ∀ (s0 : Int32) (γ : St) (H : Heap) (locs : List Loc) (ls : Array Slot) (cells slots : Nat), lv_has ls 1 [(0, .ref (kA κ 7 0))] → HE κ γ H → va_S (AA κ) s.heap H locs → cells + (799) ≤ 1010 → slots + (16450) ≤ 19220 → x_L_bouts_588 s0 γ = res → W p l e (headSpec [Cond.code yL_bouts cL_bouts 1 (some .boolean)] ({ frames := 12, cells := 1010, slots := 19220, locals := 263 } : Room)).room s m ([.ref (kA κ 7 0)] : List Value).toArray below meth c H locs cells slots (MQ below (QL κ res.2.2 (some (.int res.2.1))) ([.ref (kA κ 7 0)] : List Value).toArray s 1010 19220 (AA κ)) (F0 m 588 ls [.int s0]) := by
    intro s0 γ H locs ls cells slots hl hH hS hc1 hc2 hq
    refine lv_iconst (v := 5) hx hb dL_bouts_588 (by decide) ?_
    refine lv_icmp_ne (tgt := 777) hx hb dL_bouts_589 (by decide) (fun c557 => ?_) (fun c557 => ?_)
    · have hq := ifne hq c557
      exact b_777 γ _ _ _ _ _ (lv_sub hl [] rfl) hH hS (by omega) (by omega) hq
    · have hq := ifpe hq c557
      refine lv_aload_n hx hb dL_bouts_592 rfl (lv_at hl 0 rfl) ?_
      refine lv_iconst (v := 3) hx hb dL_bouts_593 (by decide) ?_
      by_cases he558 : (x_L_doubles 3 γ).1 = 0
      rotate_left
      · exact flag_bad (ifne hq he558) hk
      have hq := ifpe hq he558
      refine e_callS (rest := []) hC hl hH hS (c_L_doubles l hfl κ γ 3 he558) tw_918 tw_919 tw_37 tw_920 hd_L_doubles ⟨Nat.le_of_ble_eq_true rfl, Nat.le_of_ble_eq_true rfl⟩ rfl rfl rfl rfl (Nat.le_of_ble_eq_true rfl) dL_bouts_594 ⟨by show _ ≤ 1010; omega, by show _ ≤ 19220; omega⟩ rfl (fun H locs hH hS => ?_)
      exact b_597 ((x_L_doubles 3 γ).2.1) (x_L_doubles 3 γ).2.2 _ _ _ _ _ (lv_sub hl [0] rfl) hH hS (by omega) (by omega) hq
  have b_573 : ∀ (s0 : Int32) (γ : St) (H : Heap) (locs : List Loc) (ls : Array Slot) (cells slots : Nat), lv_has ls 1 [(0, .ref (kA κ 7 0))] → HE κ γ H → va_S (AA κ) s.heap H locs → cells + (802) ≤ 1010 → slots + (16468) ≤ 19220 → x_L_bouts_573 s0 γ = res → W p l e (headSpec [Cond.code yL_bouts cL_bouts 1 (some .boolean)] ({ frames := 12, cells := 1010, slots := 19220, locals := 263 } : Room)).room s m ([.ref (kA κ 7 0)] : List Value).toArray below meth c H locs cells slots (MQ below (QL κ res.2.2 (some (.int res.2.1))) ([.ref (kA κ 7 0)] : List Value).toArray s 1010 19220 (AA κ)) (F0 m 573 ls [.int s0]) := by
    intro s0 γ H locs ls cells slots hl hH hS hc1 hc2 hq
    refine lv_if_ne (tgt := 578) hx hb dL_bouts_573 (by decide) (fun c559 => ?_) (fun c559 => ?_)
    · have hq := ifne hq c559
      refine lv_aload_n hx hb dL_bouts_578 rfl (lv_at hl 0 rfl) ?_
      refine lv_iconst (v := 1) hx hb dL_bouts_579 (by decide) ?_
      refine lv_iconst (v := 2) hx hb dL_bouts_580 (by decide) ?_
      refine lv_iconst (v := 1) hx hb dL_bouts_581 (by decide) ?_
      refine lv_bipush (v := 45) hx hb dL_bouts_582 (by decide) ?_
      refine lv_iconst (v := (-1)) hx hb dL_bouts_584 (by decide) ?_
      refine e_xcallV (rest := []) hC hl hH hS (co_begin l hfl κ γ 1 2 1 45 ((-1))) tw_436 tw_437 tw_438 tw_38 tw_439 hd_X7_begin ⟨Nat.le_of_ble_eq_true rfl, Nat.le_of_ble_eq_true rfl⟩ rfl rfl rfl rfl (Nat.le_of_ble_eq_true rfl) dL_bouts_585 ⟨by show _ ≤ 1010; omega, by show _ ≤ 19220; omega⟩ rfl (fun he560 ce q9 H locs hH hS hce hcv hcl => ?_) (fun he560 H locs hH hS => ?_)
      · exact flag_bad (ifne hq he560) hk
      have hq := ifpe hq he560
      exact b_588 ((x_X7_begin 1 2 1 45 ((-1)) γ).2.1) (x_X7_begin 1 2 1 45 ((-1)) γ).2.2 _ _ _ _ _ (lv_sub hl [0] rfl) hH hS (by omega) (by omega) hq
    · have hq := ifpe hq c559
      exact b_576 γ _ _ _ _ _ (lv_sub hl [] rfl) hH hS (by omega) (by omega) hq
  have b_557 : ∀ (s0 : Int32) (γ : St) (H : Heap) (locs : List Loc) (ls : Array Slot) (cells slots : Nat), lv_has ls 1 [(0, .ref (kA κ 7 0))] → HE κ γ H → va_S (AA κ) s.heap H locs → cells + (808) ≤ 1010 → slots + (16504) ≤ 19220 → x_L_bouts_557 s0 γ = res → W p l e (headSpec [Cond.code yL_bouts cL_bouts 1 (some .boolean)] ({ frames := 12, cells := 1010, slots := 19220, locals := 263 } : Room)).room s m ([.ref (kA κ 7 0)] : List Value).toArray below meth c H locs cells slots (MQ below (QL κ res.2.2 (some (.int res.2.1))) ([.ref (kA κ 7 0)] : List Value).toArray s 1010 19220 (AA κ)) (F0 m 557 ls [.int s0]) := by
    intro s0 γ H locs ls cells slots hl hH hS hc1 hc2 hq
    refine lv_if_ne (tgt := 576) hx hb dL_bouts_557 (by decide) (fun c561 => ?_) (fun c561 => ?_)
    · have hq := ifne hq c561
      exact b_576 γ _ _ _ _ _ (lv_sub hl [] rfl) hH hS (by omega) (by omega) hq
    · have hq := ifpe hq c561
      refine lv_aload_n hx hb dL_bouts_560 rfl (lv_at hl 0 rfl) ?_
      refine lv_iconst (v := 4) hx hb dL_bouts_561 (by decide) ?_
      refine lv_iconst (v := 1) hx hb dL_bouts_562 (by decide) ?_
      refine lv_iconst (v := 2) hx hb dL_bouts_563 (by decide) ?_
      refine lv_iconst (v := 1) hx hb dL_bouts_564 (by decide) ?_
      refine lv_sipush (v := 180) hx hb dL_bouts_565 (by decide) ?_
      refine lv_iconst (v := 2) hx hb dL_bouts_568 (by decide) ?_
      refine lv_iconst (v := (-1)) hx hb dL_bouts_569 (by decide) ?_
      by_cases he562 : (x_L_bout 4 1 2 1 180 2 ((-1)) γ).1 = 0
      rotate_left
      · exact flag_bad (ifne hq he562) hk
      have hq := ifpe hq he562
      refine e_callS (rest := []) hC hl hH hS (c_L_bout l hfl κ γ 4 1 2 1 180 2 ((-1)) he562) tw_880 tw_881 tw_37 tw_882 hd_L_bout ⟨Nat.le_of_ble_eq_true rfl, Nat.le_of_ble_eq_true rfl⟩ rfl rfl rfl rfl (Nat.le_of_ble_eq_true rfl) dL_bouts_570 ⟨by show _ ≤ 1010; omega, by show _ ≤ 19220; omega⟩ rfl (fun H locs hH hS => ?_)
      exact b_573 ((x_L_bout 4 1 2 1 180 2 ((-1)) γ).2.1) (x_L_bout 4 1 2 1 180 2 ((-1)) γ).2.2 _ _ _ _ _ (lv_sub hl [0] rfl) hH hS (by omega) (by omega) hq
  have b_546 : ∀ (s0 : Int32) (γ : St) (H : Heap) (locs : List Loc) (ls : Array Slot) (cells slots : Nat), lv_has ls 1 [(0, .ref (kA κ 7 0))] → HE κ γ H → va_S (AA κ) s.heap H locs → cells + (809) ≤ 1010 → slots + (16510) ≤ 19220 → x_L_bouts_546 s0 γ = res → W p l e (headSpec [Cond.code yL_bouts cL_bouts 1 (some .boolean)] ({ frames := 12, cells := 1010, slots := 19220, locals := 263 } : Room)).room s m ([.ref (kA κ 7 0)] : List Value).toArray below meth c H locs cells slots (MQ below (QL κ res.2.2 (some (.int res.2.1))) ([.ref (kA κ 7 0)] : List Value).toArray s 1010 19220 (AA κ)) (F0 m 546 ls [.int s0]) := by
    intro s0 γ H locs ls cells slots hl hH hS hc1 hc2 hq
    refine lv_iconst (v := 2) hx hb dL_bouts_546 (by decide) ?_
    refine lv_icmp_ne (tgt := 576) hx hb dL_bouts_547 (by decide) (fun c563 => ?_) (fun c563 => ?_)
    · have hq := ifne hq c563
      exact b_576 γ _ _ _ _ _ (lv_sub hl [] rfl) hH hS (by omega) (by omega) hq
    · have hq := ifpe hq c563
      refine lv_aload_n hx hb dL_bouts_550 rfl (lv_at hl 0 rfl) ?_
      refine lv_sipush (v := 240) hx hb dL_bouts_551 (by decide) ?_
      refine e_xcallV (rest := []) hC hl hH hS (co_clock l hfl κ γ 240) tw_694 tw_695 tw_696 tw_38 tw_697 hd_X7_clock ⟨Nat.le_of_ble_eq_true rfl, Nat.le_of_ble_eq_true rfl⟩ rfl rfl rfl rfl (Nat.le_of_ble_eq_true rfl) dL_bouts_554 ⟨by show _ ≤ 1010; omega, by show _ ≤ 19220; omega⟩ rfl (fun he564 ce q9 H locs hH hS hce hcv hcl => ?_) (fun he564 H locs hH hS => ?_)
      · exact flag_bad (ifne hq he564) hk
      have hq := ifpe hq he564
      exact b_557 ((x_X7_clock 240 γ).2.1) (x_X7_clock 240 γ).2.2 _ _ _ _ _ (lv_sub hl [0] rfl) hH hS (by omega) (by omega) hq
  have b_536 : ∀ (s0 : Int32) (γ : St) (H : Heap) (locs : List Loc) (ls : Array Slot) (cells slots : Nat), lv_has ls 1 [(0, .ref (kA κ 7 0))] → HE κ γ H → va_S (AA κ) s.heap H locs → cells + (810) ≤ 1010 → slots + (16516) ≤ 19220 → x_L_bouts_536 s0 γ = res → W p l e (headSpec [Cond.code yL_bouts cL_bouts 1 (some .boolean)] ({ frames := 12, cells := 1010, slots := 19220, locals := 263 } : Room)).room s m ([.ref (kA κ 7 0)] : List Value).toArray below meth c H locs cells slots (MQ below (QL κ res.2.2 (some (.int res.2.1))) ([.ref (kA κ 7 0)] : List Value).toArray s 1010 19220 (AA κ)) (F0 m 536 ls [.int s0]) := by
    intro s0 γ H locs ls cells slots hl hH hS hc1 hc2 hq
    refine lv_iconst (v := 2) hx hb dL_bouts_536 (by decide) ?_
    refine lv_icmp_ne (tgt := 576) hx hb dL_bouts_537 (by decide) (fun c565 => ?_) (fun c565 => ?_)
    · have hq := ifne hq c565
      exact b_576 γ _ _ _ _ _ (lv_sub hl [] rfl) hH hS (by omega) (by omega) hq
    · have hq := ifpe hq c565
      refine lv_aload_n hx hb dL_bouts_540 rfl (lv_at hl 0 rfl) ?_
      refine lv_bipush (v := 59) hx hb dL_bouts_541 (by decide) ?_
      refine e_xcallV (rest := []) hC hl hH hS (co_clock l hfl κ γ 59) tw_694 tw_695 tw_696 tw_38 tw_697 hd_X7_clock ⟨Nat.le_of_ble_eq_true rfl, Nat.le_of_ble_eq_true rfl⟩ rfl rfl rfl rfl (Nat.le_of_ble_eq_true rfl) dL_bouts_543 ⟨by show _ ≤ 1010; omega, by show _ ≤ 19220; omega⟩ rfl (fun he566 ce q9 H locs hH hS hce hcv hcl => ?_) (fun he566 H locs hH hS => ?_)
      · exact flag_bad (ifne hq he566) hk
      have hq := ifpe hq he566
      exact b_546 ((x_X7_clock 59 γ).2.1) (x_X7_clock 59 γ).2.2 _ _ _ _ _ (lv_sub hl [0] rfl) hH hS (by omega) (by omega) hq
  have b_525 : ∀ (s0 : Int32) (γ : St) (H : Heap) (locs : List Loc) (ls : Array Slot) (cells slots : Nat), lv_has ls 1 [(0, .ref (kA κ 7 0))] → HE κ γ H → va_S (AA κ) s.heap H locs → cells + (811) ≤ 1010 → slots + (16522) ≤ 19220 → x_L_bouts_525 s0 γ = res → W p l e (headSpec [Cond.code yL_bouts cL_bouts 1 (some .boolean)] ({ frames := 12, cells := 1010, slots := 19220, locals := 263 } : Room)).room s m ([.ref (kA κ 7 0)] : List Value).toArray below meth c H locs cells slots (MQ below (QL κ res.2.2 (some (.int res.2.1))) ([.ref (kA κ 7 0)] : List Value).toArray s 1010 19220 (AA κ)) (F0 m 525 ls [.int s0]) := by
    intro s0 γ H locs ls cells slots hl hH hS hc1 hc2 hq
    refine lv_bipush (v := 61) hx hb dL_bouts_525 (by decide) ?_
    refine lv_icmp_ne (tgt := 576) hx hb dL_bouts_527 (by decide) (fun c567 => ?_) (fun c567 => ?_)
    · have hq := ifne hq c567
      exact b_576 γ _ _ _ _ _ (lv_sub hl [] rfl) hH hS (by omega) (by omega) hq
    · have hq := ifpe hq c567
      refine lv_aload_n hx hb dL_bouts_530 rfl (lv_at hl 0 rfl) ?_
      refine lv_iconst (v := 0) hx hb dL_bouts_531 (by decide) ?_
      refine lv_iconst (v := 2) hx hb dL_bouts_532 (by decide) ?_
      refine e_xcallV (rest := []) hC hl hH hS (co_card l hfl κ γ 0 2) tw_675 tw_676 tw_677 tw_38 tw_678 hd_X7_card ⟨Nat.le_of_ble_eq_true rfl, Nat.le_of_ble_eq_true rfl⟩ rfl rfl rfl rfl (Nat.le_of_ble_eq_true rfl) dL_bouts_533 ⟨by show _ ≤ 1010; omega, by show _ ≤ 19220; omega⟩ rfl (fun he568 ce q9 H locs hH hS hce hcv hcl => ?_) (fun he568 H locs hH hS => ?_)
      · exact flag_bad (ifne hq he568) hk
      have hq := ifpe hq he568
      exact b_536 ((x_X7_card 0 2 γ).2.1) (x_X7_card 0 2 γ).2.2 _ _ _ _ _ (lv_sub hl [0] rfl) hH hS (by omega) (by omega) hq
  have b_515 : ∀ (s0 : Int32) (γ : St) (H : Heap) (locs : List Loc) (ls : Array Slot) (cells slots : Nat), lv_has ls 1 [(0, .ref (kA κ 7 0))] → HE κ γ H → va_S (AA κ) s.heap H locs → cells + (812) ≤ 1010 → slots + (16528) ≤ 19220 → x_L_bouts_515 s0 γ = res → W p l e (headSpec [Cond.code yL_bouts cL_bouts 1 (some .boolean)] ({ frames := 12, cells := 1010, slots := 19220, locals := 263 } : Room)).room s m ([.ref (kA κ 7 0)] : List Value).toArray below meth c H locs cells slots (MQ below (QL κ res.2.2 (some (.int res.2.1))) ([.ref (kA κ 7 0)] : List Value).toArray s 1010 19220 (AA κ)) (F0 m 515 ls [.int s0]) := by
    intro s0 γ H locs ls cells slots hl hH hS hc1 hc2 hq
    refine lv_iconst (v := 1) hx hb dL_bouts_515 (by decide) ?_
    refine lv_icmp_ne (tgt := 576) hx hb dL_bouts_516 (by decide) (fun c569 => ?_) (fun c569 => ?_)
    · have hq := ifne hq c569
      exact b_576 γ _ _ _ _ _ (lv_sub hl [] rfl) hH hS (by omega) (by omega) hq
    · have hq := ifpe hq c569
      refine lv_aload_n hx hb dL_bouts_519 rfl (lv_at hl 0 rfl) ?_
      refine lv_bipush (v := 59) hx hb dL_bouts_520 (by decide) ?_
      refine e_xcallV (rest := []) hC hl hH hS (co_clock l hfl κ γ 59) tw_694 tw_695 tw_696 tw_38 tw_697 hd_X7_clock ⟨Nat.le_of_ble_eq_true rfl, Nat.le_of_ble_eq_true rfl⟩ rfl rfl rfl rfl (Nat.le_of_ble_eq_true rfl) dL_bouts_522 ⟨by show _ ≤ 1010; omega, by show _ ≤ 19220; omega⟩ rfl (fun he570 ce q9 H locs hH hS hce hcv hcl => ?_) (fun he570 H locs hH hS => ?_)
      · exact flag_bad (ifne hq he570) hk
      have hq := ifpe hq he570
      exact b_525 ((x_X7_clock 59 γ).2.1) (x_X7_clock 59 γ).2.2 _ _ _ _ _ (lv_sub hl [0] rfl) hH hS (by omega) (by omega) hq
  have b_504 : ∀ (s0 : Int32) (γ : St) (H : Heap) (locs : List Loc) (ls : Array Slot) (cells slots : Nat), lv_has ls 1 [(0, .ref (kA κ 7 0))] → HE κ γ H → va_S (AA κ) s.heap H locs → cells + (813) ≤ 1010 → slots + (16534) ≤ 19220 → x_L_bouts_504 s0 γ = res → W p l e (headSpec [Cond.code yL_bouts cL_bouts 1 (some .boolean)] ({ frames := 12, cells := 1010, slots := 19220, locals := 263 } : Room)).room s m ([.ref (kA κ 7 0)] : List Value).toArray below meth c H locs cells slots (MQ below (QL κ res.2.2 (some (.int res.2.1))) ([.ref (kA κ 7 0)] : List Value).toArray s 1010 19220 (AA κ)) (F0 m 504 ls [.int s0]) := by
    intro s0 γ H locs ls cells slots hl hH hS hc1 hc2 hq
    refine lv_bipush (v := 120) hx hb dL_bouts_504 (by decide) ?_
    refine lv_icmp_ne (tgt := 576) hx hb dL_bouts_506 (by decide) (fun c571 => ?_) (fun c571 => ?_)
    · have hq := ifne hq c571
      exact b_576 γ _ _ _ _ _ (lv_sub hl [] rfl) hH hS (by omega) (by omega) hq
    · have hq := ifpe hq c571
      refine lv_aload_n hx hb dL_bouts_509 rfl (lv_at hl 0 rfl) ?_
      refine lv_iconst (v := 0) hx hb dL_bouts_510 (by decide) ?_
      refine lv_iconst (v := 1) hx hb dL_bouts_511 (by decide) ?_
      refine e_xcallV (rest := []) hC hl hH hS (co_card l hfl κ γ 0 1) tw_675 tw_676 tw_677 tw_38 tw_678 hd_X7_card ⟨Nat.le_of_ble_eq_true rfl, Nat.le_of_ble_eq_true rfl⟩ rfl rfl rfl rfl (Nat.le_of_ble_eq_true rfl) dL_bouts_512 ⟨by show _ ≤ 1010; omega, by show _ ≤ 19220; omega⟩ rfl (fun he572 ce q9 H locs hH hS hce hcv hcl => ?_) (fun he572 H locs hH hS => ?_)
      · exact flag_bad (ifne hq he572) hk
      have hq := ifpe hq he572
      exact b_515 ((x_X7_card 0 1 γ).2.1) (x_X7_card 0 1 γ).2.2 _ _ _ _ _ (lv_sub hl [0] rfl) hH hS (by omega) (by omega) hq
  have b_494 : ∀ (s0 : Int32) (γ : St) (H : Heap) (locs : List Loc) (ls : Array Slot) (cells slots : Nat), lv_has ls 1 [(0, .ref (kA κ 7 0))] → HE κ γ H → va_S (AA κ) s.heap H locs → cells + (814) ≤ 1010 → slots + (16540) ≤ 19220 → x_L_bouts_494 s0 γ = res → W p l e (headSpec [Cond.code yL_bouts cL_bouts 1 (some .boolean)] ({ frames := 12, cells := 1010, slots := 19220, locals := 263 } : Room)).room s m ([.ref (kA κ 7 0)] : List Value).toArray below meth c H locs cells slots (MQ below (QL κ res.2.2 (some (.int res.2.1))) ([.ref (kA κ 7 0)] : List Value).toArray s 1010 19220 (AA κ)) (F0 m 494 ls [.int s0]) := by
    intro s0 γ H locs ls cells slots hl hH hS hc1 hc2 hq
    refine lv_iconst (v := 4) hx hb dL_bouts_494 (by decide) ?_
    refine lv_icmp_ne (tgt := 576) hx hb dL_bouts_495 (by decide) (fun c573 => ?_) (fun c573 => ?_)
    · have hq := ifne hq c573
      exact b_576 γ _ _ _ _ _ (lv_sub hl [] rfl) hH hS (by omega) (by omega) hq
    · have hq := ifpe hq c573
      refine lv_aload_n hx hb dL_bouts_498 rfl (lv_at hl 0 rfl) ?_
      refine lv_bipush (v := 60) hx hb dL_bouts_499 (by decide) ?_
      refine e_xcallV (rest := []) hC hl hH hS (co_clock l hfl κ γ 60) tw_694 tw_695 tw_696 tw_38 tw_697 hd_X7_clock ⟨Nat.le_of_ble_eq_true rfl, Nat.le_of_ble_eq_true rfl⟩ rfl rfl rfl rfl (Nat.le_of_ble_eq_true rfl) dL_bouts_501 ⟨by show _ ≤ 1010; omega, by show _ ≤ 19220; omega⟩ rfl (fun he574 ce q9 H locs hH hS hce hcv hcl => ?_) (fun he574 H locs hH hS => ?_)
      · exact flag_bad (ifne hq he574) hk
      have hq := ifpe hq he574
      exact b_504 ((x_X7_clock 60 γ).2.1) (x_X7_clock 60 γ).2.2 _ _ _ _ _ (lv_sub hl [0] rfl) hH hS (by omega) (by omega) hq
  have b_481 : ∀ (s0 : Int32) (γ : St) (H : Heap) (locs : List Loc) (ls : Array Slot) (cells slots : Nat), lv_has ls 1 [(0, .ref (kA κ 7 0))] → HE κ γ H → va_S (AA κ) s.heap H locs → cells + (817) ≤ 1010 → slots + (16558) ≤ 19220 → x_L_bouts_481 s0 γ = res → W p l e (headSpec [Cond.code yL_bouts cL_bouts 1 (some .boolean)] ({ frames := 12, cells := 1010, slots := 19220, locals := 263 } : Room)).room s m ([.ref (kA κ 7 0)] : List Value).toArray below meth c H locs cells slots (MQ below (QL κ res.2.2 (some (.int res.2.1))) ([.ref (kA κ 7 0)] : List Value).toArray s 1010 19220 (AA κ)) (F0 m 481 ls [.int s0]) := by
    intro s0 γ H locs ls cells slots hl hH hS hc1 hc2 hq
    refine lv_if_eq (tgt := 576) hx hb dL_bouts_481 (by decide) (fun c575 => ?_) (fun c575 => ?_)
    · have hq := ifpe hq c575
      exact b_576 γ _ _ _ _ _ (lv_sub hl [] rfl) hH hS (by omega) (by omega) hq
    · have hq := ifne hq c575
      refine lv_aload_n hx hb dL_bouts_484 rfl (lv_at hl 0 rfl) ?_
      refine lv_iconst (v := 3) hx hb dL_bouts_485 (by decide) ?_
      refine lv_iconst (v := 0) hx hb dL_bouts_486 (by decide) ?_
      refine lv_iconst (v := 1) hx hb dL_bouts_487 (by decide) ?_
      refine lv_bipush (v := 45) hx hb dL_bouts_488 (by decide) ?_
      refine lv_iconst (v := (-1)) hx hb dL_bouts_490 (by decide) ?_
      refine e_xcallV (rest := []) hC hl hH hS (co_begin l hfl κ γ 3 0 1 45 ((-1))) tw_436 tw_437 tw_438 tw_38 tw_439 hd_X7_begin ⟨Nat.le_of_ble_eq_true rfl, Nat.le_of_ble_eq_true rfl⟩ rfl rfl rfl rfl (Nat.le_of_ble_eq_true rfl) dL_bouts_491 ⟨by show _ ≤ 1010; omega, by show _ ≤ 19220; omega⟩ rfl (fun he576 ce q9 H locs hH hS hce hcv hcl => ?_) (fun he576 H locs hH hS => ?_)
      · exact flag_bad (ifne hq he576) hk
      have hq := ifpe hq he576
      exact b_494 ((x_X7_begin 3 0 1 45 ((-1)) γ).2.1) (x_X7_begin 3 0 1 45 ((-1)) γ).2.2 _ _ _ _ _ (lv_sub hl [0] rfl) hH hS (by omega) (by omega) hq
  have b_465 : ∀ (s0 : Int32) (γ : St) (H : Heap) (locs : List Loc) (ls : Array Slot) (cells slots : Nat), lv_has ls 1 [(0, .ref (kA κ 7 0))] → HE κ γ H → va_S (AA κ) s.heap H locs → cells + (823) ≤ 1010 → slots + (16594) ≤ 19220 → x_L_bouts_465 s0 γ = res → W p l e (headSpec [Cond.code yL_bouts cL_bouts 1 (some .boolean)] ({ frames := 12, cells := 1010, slots := 19220, locals := 263 } : Room)).room s m ([.ref (kA κ 7 0)] : List Value).toArray below meth c H locs cells slots (MQ below (QL κ res.2.2 (some (.int res.2.1))) ([.ref (kA κ 7 0)] : List Value).toArray s 1010 19220 (AA κ)) (F0 m 465 ls [.int s0]) := by
    intro s0 γ H locs ls cells slots hl hH hS hc1 hc2 hq
    refine lv_if_ne (tgt := 576) hx hb dL_bouts_465 (by decide) (fun c577 => ?_) (fun c577 => ?_)
    · have hq := ifne hq c577
      exact b_576 γ _ _ _ _ _ (lv_sub hl [] rfl) hH hS (by omega) (by omega) hq
    · have hq := ifpe hq c577
      refine lv_aload_n hx hb dL_bouts_468 rfl (lv_at hl 0 rfl) ?_
      refine lv_iconst (v := 3) hx hb dL_bouts_469 (by decide) ?_
      refine lv_iconst (v := 1) hx hb dL_bouts_470 (by decide) ?_
      refine lv_iconst (v := 1) hx hb dL_bouts_471 (by decide) ?_
      refine lv_iconst (v := 0) hx hb dL_bouts_472 (by decide) ?_
      refine lv_sipush (v := 180) hx hb dL_bouts_473 (by decide) ?_
      refine lv_iconst (v := 3) hx hb dL_bouts_476 (by decide) ?_
      refine lv_iconst (v := (-1)) hx hb dL_bouts_477 (by decide) ?_
      by_cases he578 : (x_L_bout 3 1 1 0 180 3 ((-1)) γ).1 = 0
      rotate_left
      · exact flag_bad (ifne hq he578) hk
      have hq := ifpe hq he578
      refine e_callS (rest := []) hC hl hH hS (c_L_bout l hfl κ γ 3 1 1 0 180 3 ((-1)) he578) tw_880 tw_881 tw_37 tw_882 hd_L_bout ⟨Nat.le_of_ble_eq_true rfl, Nat.le_of_ble_eq_true rfl⟩ rfl rfl rfl rfl (Nat.le_of_ble_eq_true rfl) dL_bouts_478 ⟨by show _ ≤ 1010; omega, by show _ ≤ 19220; omega⟩ rfl (fun H locs hH hS => ?_)
      exact b_481 ((x_L_bout 3 1 1 0 180 3 ((-1)) γ).2.1) (x_L_bout 3 1 1 0 180 3 ((-1)) γ).2.2 _ _ _ _ _ (lv_sub hl [0] rfl) hH hS (by omega) (by omega) hq
  have b_456 : ∀ (s0 : Int32) (γ : St) (H : Heap) (locs : List Loc) (ls : Array Slot) (cells slots : Nat), lv_has ls 1 [(0, .ref (kA κ 7 0))] → HE κ γ H → va_S (AA κ) s.heap H locs → cells + (824) ≤ 1010 → slots + (16600) ≤ 19220 → x_L_bouts_456 s0 γ = res → W p l e (headSpec [Cond.code yL_bouts cL_bouts 1 (some .boolean)] ({ frames := 12, cells := 1010, slots := 19220, locals := 263 } : Room)).room s m ([.ref (kA κ 7 0)] : List Value).toArray below meth c H locs cells slots (MQ below (QL κ res.2.2 (some (.int res.2.1))) ([.ref (kA κ 7 0)] : List Value).toArray s 1010 19220 (AA κ)) (F0 m 456 ls [.int s0]) := by
    intro s0 γ H locs ls cells slots hl hH hS hc1 hc2 hq
    refine lv_if_eq (tgt := 576) hx hb dL_bouts_456 (by decide) (fun c579 => ?_) (fun c579 => ?_)
    · have hq := ifpe hq c579
      exact b_576 γ _ _ _ _ _ (lv_sub hl [] rfl) hH hS (by omega) (by omega) hq
    · have hq := ifne hq c579
      refine lv_aload_n hx hb dL_bouts_459 rfl (lv_at hl 0 rfl) ?_
      refine lv_bipush (v := 60) hx hb dL_bouts_460 (by decide) ?_
      refine e_xcallV (rest := []) hC hl hH hS (co_clock l hfl κ γ 60) tw_694 tw_695 tw_696 tw_38 tw_697 hd_X7_clock ⟨Nat.le_of_ble_eq_true rfl, Nat.le_of_ble_eq_true rfl⟩ rfl rfl rfl rfl (Nat.le_of_ble_eq_true rfl) dL_bouts_462 ⟨by show _ ≤ 1010; omega, by show _ ≤ 19220; omega⟩ rfl (fun he580 ce q9 H locs hH hS hce hcv hcl => ?_) (fun he580 H locs hH hS => ?_)
      · exact flag_bad (ifne hq he580) hk
      have hq := ifpe hq he580
      exact b_465 ((x_X7_clock 60 γ).2.1) (x_X7_clock 60 γ).2.2 _ _ _ _ _ (lv_sub hl [0] rfl) hH hS (by omega) (by omega) hq
  have b_439 : ∀ (s0 : Int32) (γ : St) (H : Heap) (locs : List Loc) (ls : Array Slot) (cells slots : Nat), lv_has ls 1 [(0, .ref (kA κ 7 0))] → HE κ γ H → va_S (AA κ) s.heap H locs → cells + (830) ≤ 1010 → slots + (16636) ≤ 19220 → x_L_bouts_439 s0 γ = res → W p l e (headSpec [Cond.code yL_bouts cL_bouts 1 (some .boolean)] ({ frames := 12, cells := 1010, slots := 19220, locals := 263 } : Room)).room s m ([.ref (kA κ 7 0)] : List Value).toArray below meth c H locs cells slots (MQ below (QL κ res.2.2 (some (.int res.2.1))) ([.ref (kA κ 7 0)] : List Value).toArray s 1010 19220 (AA κ)) (F0 m 439 ls [.int s0]) := by
    intro s0 γ H locs ls cells slots hl hH hS hc1 hc2 hq
    refine lv_bipush (v := 60) hx hb dL_bouts_439 (by decide) ?_
    refine lv_icmp_ne (tgt := 576) hx hb dL_bouts_441 (by decide) (fun c581 => ?_) (fun c581 => ?_)
    · have hq := ifne hq c581
      exact b_576 γ _ _ _ _ _ (lv_sub hl [] rfl) hH hS (by omega) (by omega) hq
    · have hq := ifpe hq c581
      refine lv_aload_n hx hb dL_bouts_444 rfl (lv_at hl 0 rfl) ?_
      refine lv_iconst (v := 3) hx hb dL_bouts_445 (by decide) ?_
      refine lv_iconst (v := 1) hx hb dL_bouts_446 (by decide) ?_
      refine lv_iconst (v := 1) hx hb dL_bouts_447 (by decide) ?_
      refine lv_iconst (v := (-1)) hx hb dL_bouts_448 (by decide) ?_
      refine lv_bipush (v := 120) hx hb dL_bouts_449 (by decide) ?_
      refine lv_iconst (v := 2) hx hb dL_bouts_451 (by decide) ?_
      refine lv_iconst (v := (-1)) hx hb dL_bouts_452 (by decide) ?_
      by_cases he582 : (x_L_bout 3 1 1 ((-1)) 120 2 ((-1)) γ).1 = 0
      rotate_left
      · exact flag_bad (ifne hq he582) hk
      have hq := ifpe hq he582
      refine e_callS (rest := []) hC hl hH hS (c_L_bout l hfl κ γ 3 1 1 ((-1)) 120 2 ((-1)) he582) tw_880 tw_881 tw_37 tw_882 hd_L_bout ⟨Nat.le_of_ble_eq_true rfl, Nat.le_of_ble_eq_true rfl⟩ rfl rfl rfl rfl (Nat.le_of_ble_eq_true rfl) dL_bouts_453 ⟨by show _ ≤ 1010; omega, by show _ ≤ 19220; omega⟩ rfl (fun H locs hH hS => ?_)
      exact b_456 ((x_L_bout 3 1 1 ((-1)) 120 2 ((-1)) γ).2.1) (x_L_bout 3 1 1 ((-1)) 120 2 ((-1)) γ).2.2 _ _ _ _ _ (lv_sub hl [0] rfl) hH hS (by omega) (by omega) hq
  have b_429 : ∀ (s0 : Int32) (γ : St) (H : Heap) (locs : List Loc) (ls : Array Slot) (cells slots : Nat), lv_has ls 1 [(0, .ref (kA κ 7 0))] → HE κ γ H → va_S (AA κ) s.heap H locs → cells + (831) ≤ 1010 → slots + (16642) ≤ 19220 → x_L_bouts_429 s0 γ = res → W p l e (headSpec [Cond.code yL_bouts cL_bouts 1 (some .boolean)] ({ frames := 12, cells := 1010, slots := 19220, locals := 263 } : Room)).room s m ([.ref (kA κ 7 0)] : List Value).toArray below meth c H locs cells slots (MQ below (QL κ res.2.2 (some (.int res.2.1))) ([.ref (kA κ 7 0)] : List Value).toArray s 1010 19220 (AA κ)) (F0 m 429 ls [.int s0]) := by
    intro s0 γ H locs ls cells slots hl hH hS hc1 hc2 hq
    refine lv_iconst (v := 3) hx hb dL_bouts_429 (by decide) ?_
    refine lv_icmp_ne (tgt := 576) hx hb dL_bouts_430 (by decide) (fun c583 => ?_) (fun c583 => ?_)
    · have hq := ifne hq c583
      exact b_576 γ _ _ _ _ _ (lv_sub hl [] rfl) hH hS (by omega) (by omega) hq
    · have hq := ifpe hq c583
      refine lv_aload_n hx hb dL_bouts_433 rfl (lv_at hl 0 rfl) ?_
      refine lv_bipush (v := 120) hx hb dL_bouts_434 (by decide) ?_
      refine e_xcallV (rest := []) hC hl hH hS (co_clock l hfl κ γ 120) tw_694 tw_695 tw_696 tw_38 tw_697 hd_X7_clock ⟨Nat.le_of_ble_eq_true rfl, Nat.le_of_ble_eq_true rfl⟩ rfl rfl rfl rfl (Nat.le_of_ble_eq_true rfl) dL_bouts_436 ⟨by show _ ≤ 1010; omega, by show _ ≤ 19220; omega⟩ rfl (fun he584 ce q9 H locs hH hS hce hcv hcl => ?_) (fun he584 H locs hH hS => ?_)
      · exact flag_bad (ifne hq he584) hk
      have hq := ifpe hq he584
      exact b_439 ((x_X7_clock 120 γ).2.1) (x_X7_clock 120 γ).2.2 _ _ _ _ _ (lv_sub hl [0] rfl) hH hS (by omega) (by omega) hq
  have b_414 : ∀ (s0 : Int32) (γ : St) (H : Heap) (locs : List Loc) (ls : Array Slot) (cells slots : Nat), lv_has ls 1 [(0, .ref (kA κ 7 0))] → HE κ γ H → va_S (AA κ) s.heap H locs → cells + (834) ≤ 1010 → slots + (16660) ≤ 19220 → x_L_bouts_414 s0 γ = res → W p l e (headSpec [Cond.code yL_bouts cL_bouts 1 (some .boolean)] ({ frames := 12, cells := 1010, slots := 19220, locals := 263 } : Room)).room s m ([.ref (kA κ 7 0)] : List Value).toArray below meth c H locs cells slots (MQ below (QL κ res.2.2 (some (.int res.2.1))) ([.ref (kA κ 7 0)] : List Value).toArray s 1010 19220 (AA κ)) (F0 m 414 ls [.int s0]) := by
    intro s0 γ H locs ls cells slots hl hH hS hc1 hc2 hq
    refine lv_if_ne (tgt := 419) hx hb dL_bouts_414 (by decide) (fun c585 => ?_) (fun c585 => ?_)
    · have hq := ifne hq c585
      refine lv_aload_n hx hb dL_bouts_419 rfl (lv_at hl 0 rfl) ?_
      refine lv_iconst (v := 0) hx hb dL_bouts_420 (by decide) ?_
      refine lv_iconst (v := 3) hx hb dL_bouts_421 (by decide) ?_
      refine lv_iconst (v := 1) hx hb dL_bouts_422 (by decide) ?_
      refine lv_bipush (v := 45) hx hb dL_bouts_423 (by decide) ?_
      refine lv_iconst (v := (-1)) hx hb dL_bouts_425 (by decide) ?_
      refine e_xcallV (rest := []) hC hl hH hS (co_begin l hfl κ γ 0 3 1 45 ((-1))) tw_436 tw_437 tw_438 tw_38 tw_439 hd_X7_begin ⟨Nat.le_of_ble_eq_true rfl, Nat.le_of_ble_eq_true rfl⟩ rfl rfl rfl rfl (Nat.le_of_ble_eq_true rfl) dL_bouts_426 ⟨by show _ ≤ 1010; omega, by show _ ≤ 19220; omega⟩ rfl (fun he586 ce q9 H locs hH hS hce hcv hcl => ?_) (fun he586 H locs hH hS => ?_)
      · exact flag_bad (ifne hq he586) hk
      have hq := ifpe hq he586
      exact b_429 ((x_X7_begin 0 3 1 45 ((-1)) γ).2.1) (x_X7_begin 0 3 1 45 ((-1)) γ).2.2 _ _ _ _ _ (lv_sub hl [0] rfl) hH hS (by omega) (by omega) hq
    · have hq := ifpe hq c585
      exact b_417 γ _ _ _ _ _ (lv_sub hl [] rfl) hH hS (by omega) (by omega) hq
  have b_399 : ∀ (s0 : Int32) (γ : St) (H : Heap) (locs : List Loc) (ls : Array Slot) (cells slots : Nat), lv_has ls 1 [(0, .ref (kA κ 7 0))] → HE κ γ H → va_S (AA κ) s.heap H locs → cells + (840) ≤ 1010 → slots + (16696) ≤ 19220 → x_L_bouts_399 s0 γ = res → W p l e (headSpec [Cond.code yL_bouts cL_bouts 1 (some .boolean)] ({ frames := 12, cells := 1010, slots := 19220, locals := 263 } : Room)).room s m ([.ref (kA κ 7 0)] : List Value).toArray below meth c H locs cells slots (MQ below (QL κ res.2.2 (some (.int res.2.1))) ([.ref (kA κ 7 0)] : List Value).toArray s 1010 19220 (AA κ)) (F0 m 399 ls [.int s0]) := by
    intro s0 γ H locs ls cells slots hl hH hS hc1 hc2 hq
    refine lv_iconst (v := 3) hx hb dL_bouts_399 (by decide) ?_
    refine lv_icmp_ne (tgt := 417) hx hb dL_bouts_400 (by decide) (fun c587 => ?_) (fun c587 => ?_)
    · have hq := ifne hq c587
      exact b_417 γ _ _ _ _ _ (lv_sub hl [] rfl) hH hS (by omega) (by omega) hq
    · have hq := ifpe hq c587
      refine lv_aload_n hx hb dL_bouts_403 rfl (lv_at hl 0 rfl) ?_
      refine lv_iconst (v := 2) hx hb dL_bouts_404 (by decide) ?_
      refine lv_iconst (v := 3) hx hb dL_bouts_405 (by decide) ?_
      refine lv_iconst (v := 2) hx hb dL_bouts_406 (by decide) ?_
      refine lv_iconst (v := 1) hx hb dL_bouts_407 (by decide) ?_
      refine lv_iconst (v := 0) hx hb dL_bouts_408 (by decide) ?_
      refine lv_iconst (v := 0) hx hb dL_bouts_409 (by decide) ?_
      refine lv_iconst (v := (-1)) hx hb dL_bouts_410 (by decide) ?_
      by_cases he588 : (x_L_bout 2 3 2 1 0 0 ((-1)) γ).1 = 0
      rotate_left
      · exact flag_bad (ifne hq he588) hk
      have hq := ifpe hq he588
      refine e_callS (rest := []) hC hl hH hS (c_L_bout l hfl κ γ 2 3 2 1 0 0 ((-1)) he588) tw_880 tw_881 tw_37 tw_882 hd_L_bout ⟨Nat.le_of_ble_eq_true rfl, Nat.le_of_ble_eq_true rfl⟩ rfl rfl rfl rfl (Nat.le_of_ble_eq_true rfl) dL_bouts_411 ⟨by show _ ≤ 1010; omega, by show _ ≤ 19220; omega⟩ rfl (fun H locs hH hS => ?_)
      exact b_414 ((x_L_bout 2 3 2 1 0 0 ((-1)) γ).2.1) (x_L_bout 2 3 2 1 0 0 ((-1)) γ).2.2 _ _ _ _ _ (lv_sub hl [0] rfl) hH hS (by omega) (by omega) hq
  have b_390 : ∀ (s0 : Int32) (γ : St) (H : Heap) (locs : List Loc) (ls : Array Slot) (cells slots : Nat), lv_has ls 1 [(0, .ref (kA κ 7 0))] → HE κ γ H → va_S (AA κ) s.heap H locs → cells + (841) ≤ 1010 → slots + (16702) ≤ 19220 → x_L_bouts_390 s0 γ = res → W p l e (headSpec [Cond.code yL_bouts cL_bouts 1 (some .boolean)] ({ frames := 12, cells := 1010, slots := 19220, locals := 263 } : Room)).room s m ([.ref (kA κ 7 0)] : List Value).toArray below meth c H locs cells slots (MQ below (QL κ res.2.2 (some (.int res.2.1))) ([.ref (kA κ 7 0)] : List Value).toArray s 1010 19220 (AA κ)) (F0 m 390 ls [.int s0]) := by
    intro s0 γ H locs ls cells slots hl hH hS hc1 hc2 hq
    refine lv_if_eq (tgt := 417) hx hb dL_bouts_390 (by decide) (fun c589 => ?_) (fun c589 => ?_)
    · have hq := ifpe hq c589
      exact b_417 γ _ _ _ _ _ (lv_sub hl [] rfl) hH hS (by omega) (by omega) hq
    · have hq := ifne hq c589
      refine lv_aload_n hx hb dL_bouts_393 rfl (lv_at hl 0 rfl) ?_
      refine lv_iconst (v := 0) hx hb dL_bouts_394 (by decide) ?_
      refine lv_iconst (v := 3) hx hb dL_bouts_395 (by decide) ?_
      refine e_xcallV (rest := []) hC hl hH hS (co_card l hfl κ γ 0 3) tw_675 tw_676 tw_677 tw_38 tw_678 hd_X7_card ⟨Nat.le_of_ble_eq_true rfl, Nat.le_of_ble_eq_true rfl⟩ rfl rfl rfl rfl (Nat.le_of_ble_eq_true rfl) dL_bouts_396 ⟨by show _ ≤ 1010; omega, by show _ ≤ 19220; omega⟩ rfl (fun he590 ce q9 H locs hH hS hce hcv hcl => ?_) (fun he590 H locs hH hS => ?_)
      · exact flag_bad (ifne hq he590) hk
      have hq := ifpe hq he590
      exact b_399 ((x_X7_card 0 3 γ).2.1) (x_X7_card 0 3 γ).2.2 _ _ _ _ _ (lv_sub hl [0] rfl) hH hS (by omega) (by omega) hq
  have b_375 : ∀ (s0 : Int32) (γ : St) (H : Heap) (locs : List Loc) (ls : Array Slot) (cells slots : Nat), lv_has ls 1 [(0, .ref (kA κ 7 0))] → HE κ γ H → va_S (AA κ) s.heap H locs → cells + (847) ≤ 1010 → slots + (16738) ≤ 19220 → x_L_bouts_375 s0 γ = res → W p l e (headSpec [Cond.code yL_bouts cL_bouts 1 (some .boolean)] ({ frames := 12, cells := 1010, slots := 19220, locals := 263 } : Room)).room s m ([.ref (kA κ 7 0)] : List Value).toArray below meth c H locs cells slots (MQ below (QL κ res.2.2 (some (.int res.2.1))) ([.ref (kA κ 7 0)] : List Value).toArray s 1010 19220 (AA κ)) (F0 m 375 ls [.int s0]) := by
    intro s0 γ H locs ls cells slots hl hH hS hc1 hc2 hq
    refine lv_iconst (v := 2) hx hb dL_bouts_375 (by decide) ?_
    refine lv_icmp_ne (tgt := 417) hx hb dL_bouts_376 (by decide) (fun c591 => ?_) (fun c591 => ?_)
    · have hq := ifne hq c591
      exact b_417 γ _ _ _ _ _ (lv_sub hl [] rfl) hH hS (by omega) (by omega) hq
    · have hq := ifpe hq c591
      refine lv_aload_n hx hb dL_bouts_379 rfl (lv_at hl 0 rfl) ?_
      refine lv_iconst (v := 2) hx hb dL_bouts_380 (by decide) ?_
      refine lv_iconst (v := 3) hx hb dL_bouts_381 (by decide) ?_
      refine lv_iconst (v := 2) hx hb dL_bouts_382 (by decide) ?_
      refine lv_iconst (v := (-1)) hx hb dL_bouts_383 (by decide) ?_
      refine lv_iconst (v := 0) hx hb dL_bouts_384 (by decide) ?_
      refine lv_iconst (v := 0) hx hb dL_bouts_385 (by decide) ?_
      refine lv_iconst (v := (-1)) hx hb dL_bouts_386 (by decide) ?_
      by_cases he592 : (x_L_bout 2 3 2 ((-1)) 0 0 ((-1)) γ).1 = 0
      rotate_left
      · exact flag_bad (ifne hq he592) hk
      have hq := ifpe hq he592
      refine e_callS (rest := []) hC hl hH hS (c_L_bout l hfl κ γ 2 3 2 ((-1)) 0 0 ((-1)) he592) tw_880 tw_881 tw_37 tw_882 hd_L_bout ⟨Nat.le_of_ble_eq_true rfl, Nat.le_of_ble_eq_true rfl⟩ rfl rfl rfl rfl (Nat.le_of_ble_eq_true rfl) dL_bouts_387 ⟨by show _ ≤ 1010; omega, by show _ ≤ 19220; omega⟩ rfl (fun H locs hH hS => ?_)
      exact b_390 ((x_L_bout 2 3 2 ((-1)) 0 0 ((-1)) γ).2.1) (x_L_bout 2 3 2 ((-1)) 0 0 ((-1)) γ).2.2 _ _ _ _ _ (lv_sub hl [0] rfl) hH hS (by omega) (by omega) hq
  have b_366 : ∀ (s0 : Int32) (γ : St) (H : Heap) (locs : List Loc) (ls : Array Slot) (cells slots : Nat), lv_has ls 1 [(0, .ref (kA κ 7 0))] → HE κ γ H → va_S (AA κ) s.heap H locs → cells + (848) ≤ 1010 → slots + (16744) ≤ 19220 → x_L_bouts_366 s0 γ = res → W p l e (headSpec [Cond.code yL_bouts cL_bouts 1 (some .boolean)] ({ frames := 12, cells := 1010, slots := 19220, locals := 263 } : Room)).room s m ([.ref (kA κ 7 0)] : List Value).toArray below meth c H locs cells slots (MQ below (QL κ res.2.2 (some (.int res.2.1))) ([.ref (kA κ 7 0)] : List Value).toArray s 1010 19220 (AA κ)) (F0 m 366 ls [.int s0]) := by
    intro s0 γ H locs ls cells slots hl hH hS hc1 hc2 hq
    refine lv_if_eq (tgt := 417) hx hb dL_bouts_366 (by decide) (fun c593 => ?_) (fun c593 => ?_)
    · have hq := ifpe hq c593
      exact b_417 γ _ _ _ _ _ (lv_sub hl [] rfl) hH hS (by omega) (by omega) hq
    · have hq := ifne hq c593
      refine lv_aload_n hx hb dL_bouts_369 rfl (lv_at hl 0 rfl) ?_
      refine lv_iconst (v := 0) hx hb dL_bouts_370 (by decide) ?_
      refine lv_iconst (v := 3) hx hb dL_bouts_371 (by decide) ?_
      refine e_xcallV (rest := []) hC hl hH hS (co_card l hfl κ γ 0 3) tw_675 tw_676 tw_677 tw_38 tw_678 hd_X7_card ⟨Nat.le_of_ble_eq_true rfl, Nat.le_of_ble_eq_true rfl⟩ rfl rfl rfl rfl (Nat.le_of_ble_eq_true rfl) dL_bouts_372 ⟨by show _ ≤ 1010; omega, by show _ ≤ 19220; omega⟩ rfl (fun he594 ce q9 H locs hH hS hce hcv hcl => ?_) (fun he594 H locs hH hS => ?_)
      · exact flag_bad (ifne hq he594) hk
      have hq := ifpe hq he594
      exact b_375 ((x_X7_card 0 3 γ).2.1) (x_X7_card 0 3 γ).2.2 _ _ _ _ _ (lv_sub hl [0] rfl) hH hS (by omega) (by omega) hq
  have b_351 : ∀ (s0 : Int32) (γ : St) (H : Heap) (locs : List Loc) (ls : Array Slot) (cells slots : Nat), lv_has ls 1 [(0, .ref (kA κ 7 0))] → HE κ γ H → va_S (AA κ) s.heap H locs → cells + (854) ≤ 1010 → slots + (16780) ≤ 19220 → x_L_bouts_351 s0 γ = res → W p l e (headSpec [Cond.code yL_bouts cL_bouts 1 (some .boolean)] ({ frames := 12, cells := 1010, slots := 19220, locals := 263 } : Room)).room s m ([.ref (kA κ 7 0)] : List Value).toArray below meth c H locs cells slots (MQ below (QL κ res.2.2 (some (.int res.2.1))) ([.ref (kA κ 7 0)] : List Value).toArray s 1010 19220 (AA κ)) (F0 m 351 ls [.int s0]) := by
    intro s0 γ H locs ls cells slots hl hH hS hc1 hc2 hq
    refine lv_iconst (v := 2) hx hb dL_bouts_351 (by decide) ?_
    refine lv_icmp_ne (tgt := 417) hx hb dL_bouts_352 (by decide) (fun c595 => ?_) (fun c595 => ?_)
    · have hq := ifne hq c595
      exact b_417 γ _ _ _ _ _ (lv_sub hl [] rfl) hH hS (by omega) (by omega) hq
    · have hq := ifpe hq c595
      refine lv_aload_n hx hb dL_bouts_355 rfl (lv_at hl 0 rfl) ?_
      refine lv_iconst (v := 2) hx hb dL_bouts_356 (by decide) ?_
      refine lv_iconst (v := 3) hx hb dL_bouts_357 (by decide) ?_
      refine lv_iconst (v := 1) hx hb dL_bouts_358 (by decide) ?_
      refine lv_iconst (v := (-1)) hx hb dL_bouts_359 (by decide) ?_
      refine lv_iconst (v := 0) hx hb dL_bouts_360 (by decide) ?_
      refine lv_iconst (v := 0) hx hb dL_bouts_361 (by decide) ?_
      refine lv_iconst (v := (-1)) hx hb dL_bouts_362 (by decide) ?_
      by_cases he596 : (x_L_bout 2 3 1 ((-1)) 0 0 ((-1)) γ).1 = 0
      rotate_left
      · exact flag_bad (ifne hq he596) hk
      have hq := ifpe hq he596
      refine e_callS (rest := []) hC hl hH hS (c_L_bout l hfl κ γ 2 3 1 ((-1)) 0 0 ((-1)) he596) tw_880 tw_881 tw_37 tw_882 hd_L_bout ⟨Nat.le_of_ble_eq_true rfl, Nat.le_of_ble_eq_true rfl⟩ rfl rfl rfl rfl (Nat.le_of_ble_eq_true rfl) dL_bouts_363 ⟨by show _ ≤ 1010; omega, by show _ ≤ 19220; omega⟩ rfl (fun H locs hH hS => ?_)
      exact b_366 ((x_L_bout 2 3 1 ((-1)) 0 0 ((-1)) γ).2.1) (x_L_bout 2 3 1 ((-1)) 0 0 ((-1)) γ).2.2 _ _ _ _ _ (lv_sub hl [0] rfl) hH hS (by omega) (by omega) hq
  have b_341 : ∀ (s0 : Int32) (γ : St) (H : Heap) (locs : List Loc) (ls : Array Slot) (cells slots : Nat), lv_has ls 1 [(0, .ref (kA κ 7 0))] → HE κ γ H → va_S (AA κ) s.heap H locs → cells + (855) ≤ 1010 → slots + (16786) ≤ 19220 → x_L_bouts_341 s0 γ = res → W p l e (headSpec [Cond.code yL_bouts cL_bouts 1 (some .boolean)] ({ frames := 12, cells := 1010, slots := 19220, locals := 263 } : Room)).room s m ([.ref (kA κ 7 0)] : List Value).toArray below meth c H locs cells slots (MQ below (QL κ res.2.2 (some (.int res.2.1))) ([.ref (kA κ 7 0)] : List Value).toArray s 1010 19220 (AA κ)) (F0 m 341 ls [.int s0]) := by
    intro s0 γ H locs ls cells slots hl hH hS hc1 hc2 hq
    refine lv_iconst (v := 2) hx hb dL_bouts_341 (by decide) ?_
    refine lv_icmp_ne (tgt := 417) hx hb dL_bouts_342 (by decide) (fun c597 => ?_) (fun c597 => ?_)
    · have hq := ifne hq c597
      exact b_417 γ _ _ _ _ _ (lv_sub hl [] rfl) hH hS (by omega) (by omega) hq
    · have hq := ifpe hq c597
      refine lv_aload_n hx hb dL_bouts_345 rfl (lv_at hl 0 rfl) ?_
      refine lv_iconst (v := 1) hx hb dL_bouts_346 (by decide) ?_
      refine lv_iconst (v := 1) hx hb dL_bouts_347 (by decide) ?_
      refine e_xcallV (rest := []) hC hl hH hS (co_card l hfl κ γ 1 1) tw_675 tw_676 tw_677 tw_38 tw_678 hd_X7_card ⟨Nat.le_of_ble_eq_true rfl, Nat.le_of_ble_eq_true rfl⟩ rfl rfl rfl rfl (Nat.le_of_ble_eq_true rfl) dL_bouts_348 ⟨by show _ ≤ 1010; omega, by show _ ≤ 19220; omega⟩ rfl (fun he598 ce q9 H locs hH hS hce hcv hcl => ?_) (fun he598 H locs hH hS => ?_)
      · exact flag_bad (ifne hq he598) hk
      have hq := ifpe hq he598
      exact b_351 ((x_X7_card 1 1 γ).2.1) (x_X7_card 1 1 γ).2.2 _ _ _ _ _ (lv_sub hl [0] rfl) hH hS (by omega) (by omega) hq
  have b_331 : ∀ (s0 : Int32) (γ : St) (H : Heap) (locs : List Loc) (ls : Array Slot) (cells slots : Nat), lv_has ls 1 [(0, .ref (kA κ 7 0))] → HE κ γ H → va_S (AA κ) s.heap H locs → cells + (856) ≤ 1010 → slots + (16792) ≤ 19220 → x_L_bouts_331 s0 γ = res → W p l e (headSpec [Cond.code yL_bouts cL_bouts 1 (some .boolean)] ({ frames := 12, cells := 1010, slots := 19220, locals := 263 } : Room)).room s m ([.ref (kA κ 7 0)] : List Value).toArray below meth c H locs cells slots (MQ below (QL κ res.2.2 (some (.int res.2.1))) ([.ref (kA κ 7 0)] : List Value).toArray s 1010 19220 (AA κ)) (F0 m 331 ls [.int s0]) := by
    intro s0 γ H locs ls cells slots hl hH hS hc1 hc2 hq
    refine lv_iconst (v := 2) hx hb dL_bouts_331 (by decide) ?_
    refine lv_icmp_ne (tgt := 417) hx hb dL_bouts_332 (by decide) (fun c599 => ?_) (fun c599 => ?_)
    · have hq := ifne hq c599
      exact b_417 γ _ _ _ _ _ (lv_sub hl [] rfl) hH hS (by omega) (by omega) hq
    · have hq := ifpe hq c599
      refine lv_aload_n hx hb dL_bouts_335 rfl (lv_at hl 0 rfl) ?_
      refine lv_iconst (v := 1) hx hb dL_bouts_336 (by decide) ?_
      refine lv_iconst (v := 2) hx hb dL_bouts_337 (by decide) ?_
      refine e_xcallV (rest := []) hC hl hH hS (co_card l hfl κ γ 1 2) tw_675 tw_676 tw_677 tw_38 tw_678 hd_X7_card ⟨Nat.le_of_ble_eq_true rfl, Nat.le_of_ble_eq_true rfl⟩ rfl rfl rfl rfl (Nat.le_of_ble_eq_true rfl) dL_bouts_338 ⟨by show _ ≤ 1010; omega, by show _ ≤ 19220; omega⟩ rfl (fun he600 ce q9 H locs hH hS hce hcv hcl => ?_) (fun he600 H locs hH hS => ?_)
      · exact flag_bad (ifne hq he600) hk
      have hq := ifpe hq he600
      exact b_341 ((x_X7_card 1 2 γ).2.1) (x_X7_card 1 2 γ).2.2 _ _ _ _ _ (lv_sub hl [0] rfl) hH hS (by omega) (by omega) hq
  have b_321 : ∀ (s0 : Int32) (γ : St) (H : Heap) (locs : List Loc) (ls : Array Slot) (cells slots : Nat), lv_has ls 1 [(0, .ref (kA κ 7 0))] → HE κ γ H → va_S (AA κ) s.heap H locs → cells + (857) ≤ 1010 → slots + (16798) ≤ 19220 → x_L_bouts_321 s0 γ = res → W p l e (headSpec [Cond.code yL_bouts cL_bouts 1 (some .boolean)] ({ frames := 12, cells := 1010, slots := 19220, locals := 263 } : Room)).room s m ([.ref (kA κ 7 0)] : List Value).toArray below meth c H locs cells slots (MQ below (QL κ res.2.2 (some (.int res.2.1))) ([.ref (kA κ 7 0)] : List Value).toArray s 1010 19220 (AA κ)) (F0 m 321 ls [.int s0]) := by
    intro s0 γ H locs ls cells slots hl hH hS hc1 hc2 hq
    refine lv_iconst (v := 1) hx hb dL_bouts_321 (by decide) ?_
    refine lv_icmp_ne (tgt := 417) hx hb dL_bouts_322 (by decide) (fun c601 => ?_) (fun c601 => ?_)
    · have hq := ifne hq c601
      exact b_417 γ _ _ _ _ _ (lv_sub hl [] rfl) hH hS (by omega) (by omega) hq
    · have hq := ifpe hq c601
      refine lv_aload_n hx hb dL_bouts_325 rfl (lv_at hl 0 rfl) ?_
      refine lv_iconst (v := 0) hx hb dL_bouts_326 (by decide) ?_
      refine lv_iconst (v := 1) hx hb dL_bouts_327 (by decide) ?_
      refine e_xcallV (rest := []) hC hl hH hS (co_card l hfl κ γ 0 1) tw_675 tw_676 tw_677 tw_38 tw_678 hd_X7_card ⟨Nat.le_of_ble_eq_true rfl, Nat.le_of_ble_eq_true rfl⟩ rfl rfl rfl rfl (Nat.le_of_ble_eq_true rfl) dL_bouts_328 ⟨by show _ ≤ 1010; omega, by show _ ≤ 19220; omega⟩ rfl (fun he602 ce q9 H locs hH hS hce hcv hcl => ?_) (fun he602 H locs hH hS => ?_)
      · exact flag_bad (ifne hq he602) hk
      have hq := ifpe hq he602
      exact b_331 ((x_X7_card 0 1 γ).2.1) (x_X7_card 0 1 γ).2.2 _ _ _ _ _ (lv_sub hl [0] rfl) hH hS (by omega) (by omega) hq
  have b_312 : ∀ (s0 : Int32) (γ : St) (H : Heap) (locs : List Loc) (ls : Array Slot) (cells slots : Nat), lv_has ls 1 [(0, .ref (kA κ 7 0))] → HE κ γ H → va_S (AA κ) s.heap H locs → cells + (858) ≤ 1010 → slots + (16804) ≤ 19220 → x_L_bouts_312 s0 γ = res → W p l e (headSpec [Cond.code yL_bouts cL_bouts 1 (some .boolean)] ({ frames := 12, cells := 1010, slots := 19220, locals := 263 } : Room)).room s m ([.ref (kA κ 7 0)] : List Value).toArray below meth c H locs cells slots (MQ below (QL κ res.2.2 (some (.int res.2.1))) ([.ref (kA κ 7 0)] : List Value).toArray s 1010 19220 (AA κ)) (F0 m 312 ls [.int s0]) := by
    intro s0 γ H locs ls cells slots hl hH hS hc1 hc2 hq
    refine lv_if_eq (tgt := 417) hx hb dL_bouts_312 (by decide) (fun c603 => ?_) (fun c603 => ?_)
    · have hq := ifpe hq c603
      exact b_417 γ _ _ _ _ _ (lv_sub hl [] rfl) hH hS (by omega) (by omega) hq
    · have hq := ifne hq c603
      refine lv_aload_n hx hb dL_bouts_315 rfl (lv_at hl 0 rfl) ?_
      refine lv_iconst (v := 0) hx hb dL_bouts_316 (by decide) ?_
      refine lv_iconst (v := 1) hx hb dL_bouts_317 (by decide) ?_
      refine e_xcallV (rest := []) hC hl hH hS (co_card l hfl κ γ 0 1) tw_675 tw_676 tw_677 tw_38 tw_678 hd_X7_card ⟨Nat.le_of_ble_eq_true rfl, Nat.le_of_ble_eq_true rfl⟩ rfl rfl rfl rfl (Nat.le_of_ble_eq_true rfl) dL_bouts_318 ⟨by show _ ≤ 1010; omega, by show _ ≤ 19220; omega⟩ rfl (fun he604 ce q9 H locs hH hS hce hcv hcl => ?_) (fun he604 H locs hH hS => ?_)
      · exact flag_bad (ifne hq he604) hk
      have hq := ifpe hq he604
      exact b_321 ((x_X7_card 0 1 γ).2.1) (x_X7_card 0 1 γ).2.2 _ _ _ _ _ (lv_sub hl [0] rfl) hH hS (by omega) (by omega) hq
  have b_300 : ∀ (s0 : Int32) (γ : St) (H : Heap) (locs : List Loc) (ls : Array Slot) (cells slots : Nat), lv_has ls 1 [(0, .ref (kA κ 7 0))] → HE κ γ H → va_S (AA κ) s.heap H locs → cells + (862) ≤ 1010 → slots + (16828) ≤ 19220 → x_L_bouts_300 s0 γ = res → W p l e (headSpec [Cond.code yL_bouts cL_bouts 1 (some .boolean)] ({ frames := 12, cells := 1010, slots := 19220, locals := 263 } : Room)).room s m ([.ref (kA κ 7 0)] : List Value).toArray below meth c H locs cells slots (MQ below (QL κ res.2.2 (some (.int res.2.1))) ([.ref (kA κ 7 0)] : List Value).toArray s 1010 19220 (AA κ)) (F0 m 300 ls [.int s0]) := by
    intro s0 γ H locs ls cells slots hl hH hS hc1 hc2 hq
    refine lv_if_eq (tgt := 417) hx hb dL_bouts_300 (by decide) (fun c605 => ?_) (fun c605 => ?_)
    · have hq := ifpe hq c605
      exact b_417 γ _ _ _ _ _ (lv_sub hl [] rfl) hH hS (by omega) (by omega) hq
    · have hq := ifne hq c605
      refine lv_aload_n hx hb dL_bouts_303 rfl (lv_at hl 0 rfl) ?_
      refine lv_iconst (v := (-1)) hx hb dL_bouts_304 (by decide) ?_
      refine lv_iconst (v := 0) hx hb dL_bouts_305 (by decide) ?_
      refine lv_iconst (v := (-1)) hx hb dL_bouts_306 (by decide) ?_
      refine lv_iconst (v := 1) hx hb dL_bouts_307 (by decide) ?_
      refine lv_iconst (v := 1) hx hb dL_bouts_308 (by decide) ?_
      by_cases he606 : (x_L_judged ((-1)) 0 ((-1)) 1 1 γ).1 = 0
      rotate_left
      · exact flag_bad (ifne hq he606) hk
      have hq := ifpe hq he606
      refine e_callS (rest := []) hC hl hH hS (c_L_judged l hfl κ γ ((-1)) 0 ((-1)) 1 1 he606) tw_853 tw_854 tw_37 tw_855 hd_L_judged ⟨Nat.le_of_ble_eq_true rfl, Nat.le_of_ble_eq_true rfl⟩ rfl rfl rfl rfl (Nat.le_of_ble_eq_true rfl) dL_bouts_309 ⟨by show _ ≤ 1010; omega, by show _ ≤ 19220; omega⟩ rfl (fun H locs hH hS => ?_)
      exact b_312 ((x_L_judged ((-1)) 0 ((-1)) 1 1 γ).2.1) (x_L_judged ((-1)) 0 ((-1)) 1 1 γ).2.2 _ _ _ _ _ (lv_sub hl [0] rfl) hH hS (by omega) (by omega) hq
  have b_287 : ∀ (s0 : Int32) (γ : St) (H : Heap) (locs : List Loc) (ls : Array Slot) (cells slots : Nat), lv_has ls 1 [(0, .ref (kA κ 7 0))] → HE κ γ H → va_S (AA κ) s.heap H locs → cells + (874) ≤ 1010 → slots + (17088) ≤ 19220 → x_L_bouts_287 s0 γ = res → W p l e (headSpec [Cond.code yL_bouts cL_bouts 1 (some .boolean)] ({ frames := 12, cells := 1010, slots := 19220, locals := 263 } : Room)).room s m ([.ref (kA κ 7 0)] : List Value).toArray below meth c H locs cells slots (MQ below (QL κ res.2.2 (some (.int res.2.1))) ([.ref (kA κ 7 0)] : List Value).toArray s 1010 19220 (AA κ)) (F0 m 287 ls [.int s0]) := by
    intro s0 γ H locs ls cells slots hl hH hS hc1 hc2 hq
    refine lv_if_eq (tgt := 417) hx hb dL_bouts_287 (by decide) (fun c607 => ?_) (fun c607 => ?_)
    · have hq := ifpe hq c607
      exact b_417 γ _ _ _ _ _ (lv_sub hl [] rfl) hH hS (by omega) (by omega) hq
    · have hq := ifne hq c607
      refine lv_aload_n hx hb dL_bouts_290 rfl (lv_at hl 0 rfl) ?_
      refine lv_ldc (v := 70000001) hx hb hown (hT _ tw_915) dL_bouts_291 ?_
      refine lv_ldc (v := 171710001) hx hb hown (hT _ tw_917) dL_bouts_293 ?_
      refine lv_iconst (v := (-1)) hx hb dL_bouts_295 (by decide) ?_
      refine lv_iconst (v := (-1)) hx hb dL_bouts_296 (by decide) ?_
      by_cases he608 : (x_L_phrase 70000001 171710001 ((-1)) ((-1)) γ).1 = 0
      rotate_left
      · exact flag_bad (ifne hq he608) hk
      have hq := ifpe hq he608
      refine e_callS (rest := []) hC hl hH hS (c_L_phrase l hfl κ γ 70000001 171710001 ((-1)) ((-1)) he608) tw_858 tw_859 tw_37 tw_860 hd_L_phrase ⟨Nat.le_of_ble_eq_true rfl, Nat.le_of_ble_eq_true rfl⟩ rfl rfl rfl rfl (Nat.le_of_ble_eq_true rfl) dL_bouts_297 ⟨by show _ ≤ 1010; omega, by show _ ≤ 19220; omega⟩ rfl (fun H locs hH hS => ?_)
      exact b_300 ((x_L_phrase 70000001 171710001 ((-1)) ((-1)) γ).2.1) (x_L_phrase 70000001 171710001 ((-1)) ((-1)) γ).2.2 _ _ _ _ _ (lv_sub hl [0] rfl) hH hS (by omega) (by omega) hq
  have b_275 : ∀ (s0 : Int32) (γ : St) (H : Heap) (locs : List Loc) (ls : Array Slot) (cells slots : Nat), lv_has ls 1 [(0, .ref (kA κ 7 0))] → HE κ γ H → va_S (AA κ) s.heap H locs → cells + (878) ≤ 1010 → slots + (17112) ≤ 19220 → x_L_bouts_275 s0 γ = res → W p l e (headSpec [Cond.code yL_bouts cL_bouts 1 (some .boolean)] ({ frames := 12, cells := 1010, slots := 19220, locals := 263 } : Room)).room s m ([.ref (kA κ 7 0)] : List Value).toArray below meth c H locs cells slots (MQ below (QL κ res.2.2 (some (.int res.2.1))) ([.ref (kA κ 7 0)] : List Value).toArray s 1010 19220 (AA κ)) (F0 m 275 ls [.int s0]) := by
    intro s0 γ H locs ls cells slots hl hH hS hc1 hc2 hq
    refine lv_if_eq (tgt := 417) hx hb dL_bouts_275 (by decide) (fun c609 => ?_) (fun c609 => ?_)
    · have hq := ifpe hq c609
      exact b_417 γ _ _ _ _ _ (lv_sub hl [] rfl) hH hS (by omega) (by omega) hq
    · have hq := ifne hq c609
      refine lv_aload_n hx hb dL_bouts_278 rfl (lv_at hl 0 rfl) ?_
      refine lv_iconst (v := (-1)) hx hb dL_bouts_279 (by decide) ?_
      refine lv_iconst (v := 0) hx hb dL_bouts_280 (by decide) ?_
      refine lv_iconst (v := 0) hx hb dL_bouts_281 (by decide) ?_
      refine lv_iconst (v := 0) hx hb dL_bouts_282 (by decide) ?_
      refine lv_iconst (v := 4) hx hb dL_bouts_283 (by decide) ?_
      by_cases he610 : (x_L_judged ((-1)) 0 0 0 4 γ).1 = 0
      rotate_left
      · exact flag_bad (ifne hq he610) hk
      have hq := ifpe hq he610
      refine e_callS (rest := []) hC hl hH hS (c_L_judged l hfl κ γ ((-1)) 0 0 0 4 he610) tw_853 tw_854 tw_37 tw_855 hd_L_judged ⟨Nat.le_of_ble_eq_true rfl, Nat.le_of_ble_eq_true rfl⟩ rfl rfl rfl rfl (Nat.le_of_ble_eq_true rfl) dL_bouts_284 ⟨by show _ ≤ 1010; omega, by show _ ≤ 19220; omega⟩ rfl (fun H locs hH hS => ?_)
      exact b_287 ((x_L_judged ((-1)) 0 0 0 4 γ).2.1) (x_L_judged ((-1)) 0 0 0 4 γ).2.2 _ _ _ _ _ (lv_sub hl [0] rfl) hH hS (by omega) (by omega) hq
  have b_261 : ∀ (s0 : Int32) (γ : St) (H : Heap) (locs : List Loc) (ls : Array Slot) (cells slots : Nat), lv_has ls 1 [(0, .ref (kA κ 7 0))] → HE κ γ H → va_S (AA κ) s.heap H locs → cells + (890) ≤ 1010 → slots + (17372) ≤ 19220 → x_L_bouts_261 s0 γ = res → W p l e (headSpec [Cond.code yL_bouts cL_bouts 1 (some .boolean)] ({ frames := 12, cells := 1010, slots := 19220, locals := 263 } : Room)).room s m ([.ref (kA κ 7 0)] : List Value).toArray below meth c H locs cells slots (MQ below (QL κ res.2.2 (some (.int res.2.1))) ([.ref (kA κ 7 0)] : List Value).toArray s 1010 19220 (AA κ)) (F0 m 261 ls [.int s0]) := by
    intro s0 γ H locs ls cells slots hl hH hS hc1 hc2 hq
    refine lv_iconst (v := 2) hx hb dL_bouts_261 (by decide) ?_
    refine lv_icmp_ne (tgt := 417) hx hb dL_bouts_262 (by decide) (fun c611 => ?_) (fun c611 => ?_)
    · have hq := ifne hq c611
      exact b_417 γ _ _ _ _ _ (lv_sub hl [] rfl) hH hS (by omega) (by omega) hq
    · have hq := ifpe hq c611
      refine lv_aload_n hx hb dL_bouts_265 rfl (lv_at hl 0 rfl) ?_
      refine lv_ldc (v := 70000001) hx hb hown (hT _ tw_915) dL_bouts_266 ?_
      refine lv_ldc (v := 171700001) hx hb hown (hT _ tw_916) dL_bouts_268 ?_
      refine lv_iconst (v := (-1)) hx hb dL_bouts_270 (by decide) ?_
      refine lv_iconst (v := (-1)) hx hb dL_bouts_271 (by decide) ?_
      by_cases he612 : (x_L_phrase 70000001 171700001 ((-1)) ((-1)) γ).1 = 0
      rotate_left
      · exact flag_bad (ifne hq he612) hk
      have hq := ifpe hq he612
      refine e_callS (rest := []) hC hl hH hS (c_L_phrase l hfl κ γ 70000001 171700001 ((-1)) ((-1)) he612) tw_858 tw_859 tw_37 tw_860 hd_L_phrase ⟨Nat.le_of_ble_eq_true rfl, Nat.le_of_ble_eq_true rfl⟩ rfl rfl rfl rfl (Nat.le_of_ble_eq_true rfl) dL_bouts_272 ⟨by show _ ≤ 1010; omega, by show _ ≤ 19220; omega⟩ rfl (fun H locs hH hS => ?_)
      exact b_275 ((x_L_phrase 70000001 171700001 ((-1)) ((-1)) γ).2.1) (x_L_phrase 70000001 171700001 ((-1)) ((-1)) γ).2.2 _ _ _ _ _ (lv_sub hl [0] rfl) hH hS (by omega) (by omega) hq
  have b_247 : ∀ (s0 : Int32) (γ : St) (H : Heap) (locs : List Loc) (ls : Array Slot) (cells slots : Nat), lv_has ls 1 [(0, .ref (kA κ 7 0))] → HE κ γ H → va_S (AA κ) s.heap H locs → cells + (893) ≤ 1010 → slots + (17390) ≤ 19220 → x_L_bouts_247 s0 γ = res → W p l e (headSpec [Cond.code yL_bouts cL_bouts 1 (some .boolean)] ({ frames := 12, cells := 1010, slots := 19220, locals := 263 } : Room)).room s m ([.ref (kA κ 7 0)] : List Value).toArray below meth c H locs cells slots (MQ below (QL κ res.2.2 (some (.int res.2.1))) ([.ref (kA κ 7 0)] : List Value).toArray s 1010 19220 (AA κ)) (F0 m 247 ls [.int s0]) := by
    intro s0 γ H locs ls cells slots hl hH hS hc1 hc2 hq
    refine lv_if_ne (tgt := 252) hx hb dL_bouts_247 (by decide) (fun c613 => ?_) (fun c613 => ?_)
    · have hq := ifne hq c613
      refine lv_aload_n hx hb dL_bouts_252 rfl (lv_at hl 0 rfl) ?_
      refine lv_iconst (v := 3) hx hb dL_bouts_253 (by decide) ?_
      refine lv_iconst (v := 0) hx hb dL_bouts_254 (by decide) ?_
      refine lv_iconst (v := 2) hx hb dL_bouts_255 (by decide) ?_
      refine lv_iconst (v := 5) hx hb dL_bouts_256 (by decide) ?_
      refine lv_iconst (v := (-1)) hx hb dL_bouts_257 (by decide) ?_
      refine e_xcallV (rest := []) hC hl hH hS (co_begin l hfl κ γ 3 0 2 5 ((-1))) tw_436 tw_437 tw_438 tw_38 tw_439 hd_X7_begin ⟨Nat.le_of_ble_eq_true rfl, Nat.le_of_ble_eq_true rfl⟩ rfl rfl rfl rfl (Nat.le_of_ble_eq_true rfl) dL_bouts_258 ⟨by show _ ≤ 1010; omega, by show _ ≤ 19220; omega⟩ rfl (fun he614 ce q9 H locs hH hS hce hcv hcl => ?_) (fun he614 H locs hH hS => ?_)
      · exact flag_bad (ifne hq he614) hk
      have hq := ifpe hq he614
      exact b_261 ((x_X7_begin 3 0 2 5 ((-1)) γ).2.1) (x_X7_begin 3 0 2 5 ((-1)) γ).2.2 _ _ _ _ _ (lv_sub hl [0] rfl) hH hS (by omega) (by omega) hq
    · have hq := ifpe hq c613
      exact b_250 γ _ _ _ _ _ (lv_sub hl [] rfl) hH hS (by omega) (by omega) hq
  have b_232 : ∀ (s0 : Int32) (γ : St) (H : Heap) (locs : List Loc) (ls : Array Slot) (cells slots : Nat), lv_has ls 1 [(0, .ref (kA κ 7 0))] → HE κ γ H → va_S (AA κ) s.heap H locs → cells + (899) ≤ 1010 → slots + (17426) ≤ 19220 → x_L_bouts_232 s0 γ = res → W p l e (headSpec [Cond.code yL_bouts cL_bouts 1 (some .boolean)] ({ frames := 12, cells := 1010, slots := 19220, locals := 263 } : Room)).room s m ([.ref (kA κ 7 0)] : List Value).toArray below meth c H locs cells slots (MQ below (QL κ res.2.2 (some (.int res.2.1))) ([.ref (kA κ 7 0)] : List Value).toArray s 1010 19220 (AA κ)) (F0 m 232 ls [.int s0]) := by
    intro s0 γ H locs ls cells slots hl hH hS hc1 hc2 hq
    refine lv_if_ne (tgt := 250) hx hb dL_bouts_232 (by decide) (fun c615 => ?_) (fun c615 => ?_)
    · have hq := ifne hq c615
      exact b_250 γ _ _ _ _ _ (lv_sub hl [] rfl) hH hS (by omega) (by omega) hq
    · have hq := ifpe hq c615
      refine lv_aload_n hx hb dL_bouts_235 rfl (lv_at hl 0 rfl) ?_
      refine lv_iconst (v := 1) hx hb dL_bouts_236 (by decide) ?_
      refine lv_iconst (v := 3) hx hb dL_bouts_237 (by decide) ?_
      refine lv_iconst (v := 3) hx hb dL_bouts_238 (by decide) ?_
      refine lv_iconst (v := 1) hx hb dL_bouts_239 (by decide) ?_
      refine lv_bipush (v := 120) hx hb dL_bouts_240 (by decide) ?_
      refine lv_iconst (v := 2) hx hb dL_bouts_242 (by decide) ?_
      refine lv_iconst (v := (-1)) hx hb dL_bouts_243 (by decide) ?_
      by_cases he616 : (x_L_bout 1 3 3 1 120 2 ((-1)) γ).1 = 0
      rotate_left
      · exact flag_bad (ifne hq he616) hk
      have hq := ifpe hq he616
      refine e_callS (rest := []) hC hl hH hS (c_L_bout l hfl κ γ 1 3 3 1 120 2 ((-1)) he616) tw_880 tw_881 tw_37 tw_882 hd_L_bout ⟨Nat.le_of_ble_eq_true rfl, Nat.le_of_ble_eq_true rfl⟩ rfl rfl rfl rfl (Nat.le_of_ble_eq_true rfl) dL_bouts_244 ⟨by show _ ≤ 1010; omega, by show _ ≤ 19220; omega⟩ rfl (fun H locs hH hS => ?_)
      exact b_247 ((x_L_bout 1 3 3 1 120 2 ((-1)) γ).2.1) (x_L_bout 1 3 3 1 120 2 ((-1)) γ).2.2 _ _ _ _ _ (lv_sub hl [0] rfl) hH hS (by omega) (by omega) hq
  have b_222 : ∀ (s0 : Int32) (γ : St) (H : Heap) (locs : List Loc) (ls : Array Slot) (cells slots : Nat), lv_has ls 1 [(0, .ref (kA κ 7 0))] → HE κ γ H → va_S (AA κ) s.heap H locs → cells + (900) ≤ 1010 → slots + (17432) ≤ 19220 → x_L_bouts_222 s0 γ = res → W p l e (headSpec [Cond.code yL_bouts cL_bouts 1 (some .boolean)] ({ frames := 12, cells := 1010, slots := 19220, locals := 263 } : Room)).room s m ([.ref (kA κ 7 0)] : List Value).toArray below meth c H locs cells slots (MQ below (QL κ res.2.2 (some (.int res.2.1))) ([.ref (kA κ 7 0)] : List Value).toArray s 1010 19220 (AA κ)) (F0 m 222 ls [.int s0]) := by
    intro s0 γ H locs ls cells slots hl hH hS hc1 hc2 hq
    refine lv_bipush (v := 61) hx hb dL_bouts_222 (by decide) ?_
    refine lv_icmp_ne (tgt := 250) hx hb dL_bouts_224 (by decide) (fun c617 => ?_) (fun c617 => ?_)
    · have hq := ifne hq c617
      exact b_250 γ _ _ _ _ _ (lv_sub hl [] rfl) hH hS (by omega) (by omega) hq
    · have hq := ifpe hq c617
      refine lv_aload_n hx hb dL_bouts_227 rfl (lv_at hl 0 rfl) ?_
      refine lv_iconst (v := 1) hx hb dL_bouts_228 (by decide) ?_
      refine e_xcallV (rest := []) hC hl hH hS (co_clock l hfl κ γ 1) tw_694 tw_695 tw_696 tw_38 tw_697 hd_X7_clock ⟨Nat.le_of_ble_eq_true rfl, Nat.le_of_ble_eq_true rfl⟩ rfl rfl rfl rfl (Nat.le_of_ble_eq_true rfl) dL_bouts_229 ⟨by show _ ≤ 1010; omega, by show _ ≤ 19220; omega⟩ rfl (fun he618 ce q9 H locs hH hS hce hcv hcl => ?_) (fun he618 H locs hH hS => ?_)
      · exact flag_bad (ifne hq he618) hk
      have hq := ifpe hq he618
      exact b_232 ((x_X7_clock 1 γ).2.1) (x_X7_clock 1 γ).2.2 _ _ _ _ _ (lv_sub hl [0] rfl) hH hS (by omega) (by omega) hq
  have b_201 : ∀ (s0 : Int32) (γ : St) (H : Heap) (locs : List Loc) (ls : Array Slot) (cells slots : Nat), lv_has ls 1 [(0, .ref (kA κ 7 0))] → HE κ γ H → va_S (AA κ) s.heap H locs → cells + (902) ≤ 1010 → slots + (17444) ≤ 19220 → x_L_bouts_201 s0 γ = res → W p l e (headSpec [Cond.code yL_bouts cL_bouts 1 (some .boolean)] ({ frames := 12, cells := 1010, slots := 19220, locals := 263 } : Room)).room s m ([.ref (kA κ 7 0)] : List Value).toArray below meth c H locs cells slots (MQ below (QL κ res.2.2 (some (.int res.2.1))) ([.ref (kA κ 7 0)] : List Value).toArray s 1010 19220 (AA κ)) (F0 m 201 ls [.int s0]) := by
    intro s0 γ H locs ls cells slots hl hH hS hc1 hc2 hq
    refine lv_bipush (v := 120) hx hb dL_bouts_201 (by decide) ?_
    refine lv_icmp_ne (tgt := 250) hx hb dL_bouts_203 (by decide) (fun c619 => ?_) (fun c619 => ?_)
    · have hq := ifne hq c619
      exact b_250 γ _ _ _ _ _ (lv_sub hl [] rfl) hH hS (by omega) (by omega) hq
    · have hq := ifpe hq c619
      refine lv_aload_n hx hb dL_bouts_206 rfl (lv_at hl 0 rfl) ?_
      refine lv_iconst (v := 1) hx hb dL_bouts_207 (by decide) ?_
      refine lv_iconst (v := 4) hx hb dL_bouts_208 (by decide) ?_
      refine e_xcallV (rest := []) hC hl hH hS (co_ofBout l hfl κ γ 1 4) tw_254 tw_255 tw_256 tw_38 tw_257 hd_X7_ofBout ⟨Nat.le_of_ble_eq_true rfl, Nat.le_of_ble_eq_true rfl⟩ rfl rfl rfl rfl (Nat.le_of_ble_eq_true rfl) dL_bouts_209 ⟨by show _ ≤ 1010; omega, by show _ ≤ 19220; omega⟩ rfl (fun he620 ce q9 H locs hH hS hce hcv hcl => ?_) (fun he620 H locs hH hS => ?_)
      · exact flag_bad (ifne hq he620) hk
      have hq := ifpe hq he620
      refine lv_iconst (v := 1) hx hb dL_bouts_212 (by decide) ?_
      refine lv_icmp_ne (tgt := 250) hx hb dL_bouts_213 (by decide) (fun c621 => ?_) (fun c621 => ?_)
      · have hq := ifne hq c621
        exact b_250 (x_X7_ofBout 1 4 γ).2.2 _ _ _ _ _ (lv_sub hl [] rfl) hH hS (by omega) (by omega) hq
      · have hq := ifpe hq c621
        refine lv_aload_n hx hb dL_bouts_216 rfl (lv_at hl 0 rfl) ?_
        refine lv_bipush (v := 59) hx hb dL_bouts_217 (by decide) ?_
        refine e_xcallV (rest := []) hC hl hH hS (co_clock l hfl κ (x_X7_ofBout 1 4 γ).2.2 59) tw_694 tw_695 tw_696 tw_38 tw_697 hd_X7_clock ⟨Nat.le_of_ble_eq_true rfl, Nat.le_of_ble_eq_true rfl⟩ rfl rfl rfl rfl (Nat.le_of_ble_eq_true rfl) dL_bouts_219 ⟨by show _ ≤ 1010; omega, by show _ ≤ 19220; omega⟩ rfl (fun he622 ce q9 H locs hH hS hce hcv hcl => ?_) (fun he622 H locs hH hS => ?_)
        · exact flag_bad (ifne hq he622) hk
        have hq := ifpe hq he622
        exact b_222 ((x_X7_clock 59 (x_X7_ofBout 1 4 γ).2.2).2.1) (x_X7_clock 59 (x_X7_ofBout 1 4 γ).2.2).2.2 _ _ _ _ _ (lv_sub hl [0] rfl) hH hS (by omega) (by omega) hq
  have b_193 : ∀ (s0 : Int32) (γ : St) (H : Heap) (locs : List Loc) (ls : Array Slot) (cells slots : Nat), lv_has ls 1 [(0, .ref (kA κ 7 0))] → HE κ γ H → va_S (AA κ) s.heap H locs → cells + (903) ≤ 1010 → slots + (17450) ≤ 19220 → x_L_bouts_193 s0 γ = res → W p l e (headSpec [Cond.code yL_bouts cL_bouts 1 (some .boolean)] ({ frames := 12, cells := 1010, slots := 19220, locals := 263 } : Room)).room s m ([.ref (kA κ 7 0)] : List Value).toArray below meth c H locs cells slots (MQ below (QL κ res.2.2 (some (.int res.2.1))) ([.ref (kA κ 7 0)] : List Value).toArray s 1010 19220 (AA κ)) (F0 m 193 ls [.int s0]) := by
    intro s0 γ H locs ls cells slots hl hH hS hc1 hc2 hq
    refine lv_if_eq (tgt := 250) hx hb dL_bouts_193 (by decide) (fun c623 => ?_) (fun c623 => ?_)
    · have hq := ifpe hq c623
      exact b_250 γ _ _ _ _ _ (lv_sub hl [] rfl) hH hS (by omega) (by omega) hq
    · have hq := ifne hq c623
      refine lv_aload_n hx hb dL_bouts_196 rfl (lv_at hl 0 rfl) ?_
      refine lv_iconst (v := 1) hx hb dL_bouts_197 (by decide) ?_
      refine e_xcallV (rest := []) hC hl hH hS (co_clock l hfl κ γ 1) tw_694 tw_695 tw_696 tw_38 tw_697 hd_X7_clock ⟨Nat.le_of_ble_eq_true rfl, Nat.le_of_ble_eq_true rfl⟩ rfl rfl rfl rfl (Nat.le_of_ble_eq_true rfl) dL_bouts_198 ⟨by show _ ≤ 1010; omega, by show _ ≤ 19220; omega⟩ rfl (fun he624 ce q9 H locs hH hS hce hcv hcl => ?_) (fun he624 H locs hH hS => ?_)
      · exact flag_bad (ifne hq he624) hk
      have hq := ifpe hq he624
      exact b_201 ((x_X7_clock 1 γ).2.1) (x_X7_clock 1 γ).2.2 _ _ _ _ _ (lv_sub hl [0] rfl) hH hS (by omega) (by omega) hq
  have b_181 : ∀ (s0 : Int32) (γ : St) (H : Heap) (locs : List Loc) (ls : Array Slot) (cells slots : Nat), lv_has ls 1 [(0, .ref (kA κ 7 0))] → HE κ γ H → va_S (AA κ) s.heap H locs → cells + (907) ≤ 1010 → slots + (17474) ≤ 19220 → x_L_bouts_181 s0 γ = res → W p l e (headSpec [Cond.code yL_bouts cL_bouts 1 (some .boolean)] ({ frames := 12, cells := 1010, slots := 19220, locals := 263 } : Room)).room s m ([.ref (kA κ 7 0)] : List Value).toArray below meth c H locs cells slots (MQ below (QL κ res.2.2 (some (.int res.2.1))) ([.ref (kA κ 7 0)] : List Value).toArray s 1010 19220 (AA κ)) (F0 m 181 ls [.int s0]) := by
    intro s0 γ H locs ls cells slots hl hH hS hc1 hc2 hq
    refine lv_if_eq (tgt := 250) hx hb dL_bouts_181 (by decide) (fun c625 => ?_) (fun c625 => ?_)
    · have hq := ifpe hq c625
      exact b_250 γ _ _ _ _ _ (lv_sub hl [] rfl) hH hS (by omega) (by omega) hq
    · have hq := ifne hq c625
      refine lv_aload_n hx hb dL_bouts_184 rfl (lv_at hl 0 rfl) ?_
      refine lv_iconst (v := (-1)) hx hb dL_bouts_185 (by decide) ?_
      refine lv_iconst (v := 0) hx hb dL_bouts_186 (by decide) ?_
      refine lv_iconst (v := 0) hx hb dL_bouts_187 (by decide) ?_
      refine lv_iconst (v := 0) hx hb dL_bouts_188 (by decide) ?_
      refine lv_iconst (v := 3) hx hb dL_bouts_189 (by decide) ?_
      by_cases he626 : (x_L_judged ((-1)) 0 0 0 3 γ).1 = 0
      rotate_left
      · exact flag_bad (ifne hq he626) hk
      have hq := ifpe hq he626
      refine e_callS (rest := []) hC hl hH hS (c_L_judged l hfl κ γ ((-1)) 0 0 0 3 he626) tw_853 tw_854 tw_37 tw_855 hd_L_judged ⟨Nat.le_of_ble_eq_true rfl, Nat.le_of_ble_eq_true rfl⟩ rfl rfl rfl rfl (Nat.le_of_ble_eq_true rfl) dL_bouts_190 ⟨by show _ ≤ 1010; omega, by show _ ≤ 19220; omega⟩ rfl (fun H locs hH hS => ?_)
      exact b_193 ((x_L_judged ((-1)) 0 0 0 3 γ).2.1) (x_L_judged ((-1)) 0 0 0 3 γ).2.2 _ _ _ _ _ (lv_sub hl [0] rfl) hH hS (by omega) (by omega) hq
  have b_157 : ∀ (s0 : Int32) (γ : St) (H : Heap) (locs : List Loc) (ls : Array Slot) (cells slots : Nat), lv_has ls 1 [(0, .ref (kA κ 7 0))] → HE κ γ H → va_S (AA κ) s.heap H locs → cells + (920) ≤ 1010 → slots + (17740) ≤ 19220 → x_L_bouts_157 s0 γ = res → W p l e (headSpec [Cond.code yL_bouts cL_bouts 1 (some .boolean)] ({ frames := 12, cells := 1010, slots := 19220, locals := 263 } : Room)).room s m ([.ref (kA κ 7 0)] : List Value).toArray below meth c H locs cells slots (MQ below (QL κ res.2.2 (some (.int res.2.1))) ([.ref (kA κ 7 0)] : List Value).toArray s 1010 19220 (AA κ)) (F0 m 157 ls [.int s0]) := by
    intro s0 γ H locs ls cells slots hl hH hS hc1 hc2 hq
    refine lv_bipush (v := 121) hx hb dL_bouts_157 (by decide) ?_
    refine lv_icmp_ne (tgt := 250) hx hb dL_bouts_159 (by decide) (fun c627 => ?_) (fun c627 => ?_)
    · have hq := ifne hq c627
      exact b_250 γ _ _ _ _ _ (lv_sub hl [] rfl) hH hS (by omega) (by omega) hq
    · have hq := ifpe hq c627
      refine lv_aload_n hx hb dL_bouts_162 rfl (lv_at hl 0 rfl) ?_
      refine lv_iconst (v := 1) hx hb dL_bouts_163 (by decide) ?_
      refine lv_iconst (v := 4) hx hb dL_bouts_164 (by decide) ?_
      refine e_xcallV (rest := []) hC hl hH hS (co_ofBout l hfl κ γ 1 4) tw_254 tw_255 tw_256 tw_38 tw_257 hd_X7_ofBout ⟨Nat.le_of_ble_eq_true rfl, Nat.le_of_ble_eq_true rfl⟩ rfl rfl rfl rfl (Nat.le_of_ble_eq_true rfl) dL_bouts_165 ⟨by show _ ≤ 1010; omega, by show _ ≤ 19220; omega⟩ rfl (fun he628 ce q9 H locs hH hS hce hcv hcl => ?_) (fun he628 H locs hH hS => ?_)
      · exact flag_bad (ifne hq he628) hk
      have hq := ifpe hq he628
      refine lv_if_ne (tgt := 250) hx hb dL_bouts_168 (by decide) (fun c629 => ?_) (fun c629 => ?_)
      · have hq := ifne hq c629
        exact b_250 (x_X7_ofBout 1 4 γ).2.2 _ _ _ _ _ (lv_sub hl [] rfl) hH hS (by omega) (by omega) hq
      · have hq := ifpe hq c629
        refine lv_aload_n hx hb dL_bouts_171 rfl (lv_at hl 0 rfl) ?_
        refine lv_ldc (v := 70000002) hx hb hown (hT _ tw_909) dL_bouts_172 ?_
        refine lv_ldc (v := 170000002) hx hb hown (hT _ tw_914) dL_bouts_174 ?_
        refine lv_iconst (v := (-1)) hx hb dL_bouts_176 (by decide) ?_
        refine lv_iconst (v := (-1)) hx hb dL_bouts_177 (by decide) ?_
        by_cases he630 : (x_L_phrase 70000002 170000002 ((-1)) ((-1)) (x_X7_ofBout 1 4 γ).2.2).1 = 0
        rotate_left
        · exact flag_bad (ifne hq he630) hk
        have hq := ifpe hq he630
        refine e_callS (rest := []) hC hl hH hS (c_L_phrase l hfl κ (x_X7_ofBout 1 4 γ).2.2 70000002 170000002 ((-1)) ((-1)) he630) tw_858 tw_859 tw_37 tw_860 hd_L_phrase ⟨Nat.le_of_ble_eq_true rfl, Nat.le_of_ble_eq_true rfl⟩ rfl rfl rfl rfl (Nat.le_of_ble_eq_true rfl) dL_bouts_178 ⟨by show _ ≤ 1010; omega, by show _ ≤ 19220; omega⟩ rfl (fun H locs hH hS => ?_)
        exact b_181 ((x_L_phrase 70000002 170000002 ((-1)) ((-1)) (x_X7_ofBout 1 4 γ).2.2).2.1) (x_L_phrase 70000002 170000002 ((-1)) ((-1)) (x_X7_ofBout 1 4 γ).2.2).2.2 _ _ _ _ _ (lv_sub hl [0] rfl) hH hS (by omega) (by omega) hq
  have b_148 : ∀ (s0 : Int32) (γ : St) (H : Heap) (locs : List Loc) (ls : Array Slot) (cells slots : Nat), lv_has ls 1 [(0, .ref (kA κ 7 0))] → HE κ γ H → va_S (AA κ) s.heap H locs → cells + (921) ≤ 1010 → slots + (17746) ≤ 19220 → x_L_bouts_148 s0 γ = res → W p l e (headSpec [Cond.code yL_bouts cL_bouts 1 (some .boolean)] ({ frames := 12, cells := 1010, slots := 19220, locals := 263 } : Room)).room s m ([.ref (kA κ 7 0)] : List Value).toArray below meth c H locs cells slots (MQ below (QL κ res.2.2 (some (.int res.2.1))) ([.ref (kA κ 7 0)] : List Value).toArray s 1010 19220 (AA κ)) (F0 m 148 ls [.int s0]) := by
    intro s0 γ H locs ls cells slots hl hH hS hc1 hc2 hq
    refine lv_if_eq (tgt := 250) hx hb dL_bouts_148 (by decide) (fun c631 => ?_) (fun c631 => ?_)
    · have hq := ifpe hq c631
      exact b_250 γ _ _ _ _ _ (lv_sub hl [] rfl) hH hS (by omega) (by omega) hq
    · have hq := ifne hq c631
      refine lv_aload_n hx hb dL_bouts_151 rfl (lv_at hl 0 rfl) ?_
      refine lv_bipush (v := 59) hx hb dL_bouts_152 (by decide) ?_
      refine e_xcallV (rest := []) hC hl hH hS (co_clock l hfl κ γ 59) tw_694 tw_695 tw_696 tw_38 tw_697 hd_X7_clock ⟨Nat.le_of_ble_eq_true rfl, Nat.le_of_ble_eq_true rfl⟩ rfl rfl rfl rfl (Nat.le_of_ble_eq_true rfl) dL_bouts_154 ⟨by show _ ≤ 1010; omega, by show _ ≤ 19220; omega⟩ rfl (fun he632 ce q9 H locs hH hS hce hcv hcl => ?_) (fun he632 H locs hH hS => ?_)
      · exact flag_bad (ifne hq he632) hk
      have hq := ifpe hq he632
      exact b_157 ((x_X7_clock 59 γ).2.1) (x_X7_clock 59 γ).2.2 _ _ _ _ _ (lv_sub hl [0] rfl) hH hS (by omega) (by omega) hq
  have b_136 : ∀ (s0 : Int32) (γ : St) (H : Heap) (locs : List Loc) (ls : Array Slot) (cells slots : Nat), lv_has ls 1 [(0, .ref (kA κ 7 0))] → HE κ γ H → va_S (AA κ) s.heap H locs → cells + (925) ≤ 1010 → slots + (17770) ≤ 19220 → x_L_bouts_136 s0 γ = res → W p l e (headSpec [Cond.code yL_bouts cL_bouts 1 (some .boolean)] ({ frames := 12, cells := 1010, slots := 19220, locals := 263 } : Room)).room s m ([.ref (kA κ 7 0)] : List Value).toArray below meth c H locs cells slots (MQ below (QL κ res.2.2 (some (.int res.2.1))) ([.ref (kA κ 7 0)] : List Value).toArray s 1010 19220 (AA κ)) (F0 m 136 ls [.int s0]) := by
    intro s0 γ H locs ls cells slots hl hH hS hc1 hc2 hq
    refine lv_if_eq (tgt := 250) hx hb dL_bouts_136 (by decide) (fun c633 => ?_) (fun c633 => ?_)
    · have hq := ifpe hq c633
      exact b_250 γ _ _ _ _ _ (lv_sub hl [] rfl) hH hS (by omega) (by omega) hq
    · have hq := ifne hq c633
      refine lv_aload_n hx hb dL_bouts_139 rfl (lv_at hl 0 rfl) ?_
      refine lv_iconst (v := (-1)) hx hb dL_bouts_140 (by decide) ?_
      refine lv_iconst (v := 0) hx hb dL_bouts_141 (by decide) ?_
      refine lv_iconst (v := 0) hx hb dL_bouts_142 (by decide) ?_
      refine lv_iconst (v := 0) hx hb dL_bouts_143 (by decide) ?_
      refine lv_iconst (v := 3) hx hb dL_bouts_144 (by decide) ?_
      by_cases he634 : (x_L_judged ((-1)) 0 0 0 3 γ).1 = 0
      rotate_left
      · exact flag_bad (ifne hq he634) hk
      have hq := ifpe hq he634
      refine e_callS (rest := []) hC hl hH hS (c_L_judged l hfl κ γ ((-1)) 0 0 0 3 he634) tw_853 tw_854 tw_37 tw_855 hd_L_judged ⟨Nat.le_of_ble_eq_true rfl, Nat.le_of_ble_eq_true rfl⟩ rfl rfl rfl rfl (Nat.le_of_ble_eq_true rfl) dL_bouts_145 ⟨by show _ ≤ 1010; omega, by show _ ≤ 19220; omega⟩ rfl (fun H locs hH hS => ?_)
      exact b_148 ((x_L_judged ((-1)) 0 0 0 3 γ).2.1) (x_L_judged ((-1)) 0 0 0 3 γ).2.2 _ _ _ _ _ (lv_sub hl [0] rfl) hH hS (by omega) (by omega) hq
  have b_123 : ∀ (s0 : Int32) (γ : St) (H : Heap) (locs : List Loc) (ls : Array Slot) (cells slots : Nat), lv_has ls 1 [(0, .ref (kA κ 7 0))] → HE κ γ H → va_S (AA κ) s.heap H locs → cells + (937) ≤ 1010 → slots + (18030) ≤ 19220 → x_L_bouts_123 s0 γ = res → W p l e (headSpec [Cond.code yL_bouts cL_bouts 1 (some .boolean)] ({ frames := 12, cells := 1010, slots := 19220, locals := 263 } : Room)).room s m ([.ref (kA κ 7 0)] : List Value).toArray below meth c H locs cells slots (MQ below (QL κ res.2.2 (some (.int res.2.1))) ([.ref (kA κ 7 0)] : List Value).toArray s 1010 19220 (AA κ)) (F0 m 123 ls [.int s0]) := by
    intro s0 γ H locs ls cells slots hl hH hS hc1 hc2 hq
    refine lv_if_eq (tgt := 250) hx hb dL_bouts_123 (by decide) (fun c635 => ?_) (fun c635 => ?_)
    · have hq := ifpe hq c635
      exact b_250 γ _ _ _ _ _ (lv_sub hl [] rfl) hH hS (by omega) (by omega) hq
    · have hq := ifne hq c635
      refine lv_aload_n hx hb dL_bouts_126 rfl (lv_at hl 0 rfl) ?_
      refine lv_ldc (v := 70000002) hx hb hown (hT _ tw_909) dL_bouts_127 ?_
      refine lv_ldc (v := 170000002) hx hb hown (hT _ tw_914) dL_bouts_129 ?_
      refine lv_iconst (v := (-1)) hx hb dL_bouts_131 (by decide) ?_
      refine lv_iconst (v := (-1)) hx hb dL_bouts_132 (by decide) ?_
      by_cases he636 : (x_L_phrase 70000002 170000002 ((-1)) ((-1)) γ).1 = 0
      rotate_left
      · exact flag_bad (ifne hq he636) hk
      have hq := ifpe hq he636
      refine e_callS (rest := []) hC hl hH hS (c_L_phrase l hfl κ γ 70000002 170000002 ((-1)) ((-1)) he636) tw_858 tw_859 tw_37 tw_860 hd_L_phrase ⟨Nat.le_of_ble_eq_true rfl, Nat.le_of_ble_eq_true rfl⟩ rfl rfl rfl rfl (Nat.le_of_ble_eq_true rfl) dL_bouts_133 ⟨by show _ ≤ 1010; omega, by show _ ≤ 19220; omega⟩ rfl (fun H locs hH hS => ?_)
      exact b_136 ((x_L_phrase 70000002 170000002 ((-1)) ((-1)) γ).2.1) (x_L_phrase 70000002 170000002 ((-1)) ((-1)) γ).2.2 _ _ _ _ _ (lv_sub hl [0] rfl) hH hS (by omega) (by omega) hq
  have b_109 : ∀ (s0 : Int32) (γ : St) (H : Heap) (locs : List Loc) (ls : Array Slot) (cells slots : Nat), lv_has ls 1 [(0, .ref (kA κ 7 0))] → HE κ γ H → va_S (AA κ) s.heap H locs → cells + (943) ≤ 1010 → slots + (18066) ≤ 19220 → x_L_bouts_109 s0 γ = res → W p l e (headSpec [Cond.code yL_bouts cL_bouts 1 (some .boolean)] ({ frames := 12, cells := 1010, slots := 19220, locals := 263 } : Room)).room s m ([.ref (kA κ 7 0)] : List Value).toArray below meth c H locs cells slots (MQ below (QL κ res.2.2 (some (.int res.2.1))) ([.ref (kA κ 7 0)] : List Value).toArray s 1010 19220 (AA κ)) (F0 m 109 ls [.int s0]) := by
    intro s0 γ H locs ls cells slots hl hH hS hc1 hc2 hq
    refine lv_if_eq (tgt := 250) hx hb dL_bouts_109 (by decide) (fun c637 => ?_) (fun c637 => ?_)
    · have hq := ifpe hq c637
      exact b_250 γ _ _ _ _ _ (lv_sub hl [] rfl) hH hS (by omega) (by omega) hq
    · have hq := ifne hq c637
      refine lv_aload_n hx hb dL_bouts_112 rfl (lv_at hl 0 rfl) ?_
      refine lv_iconst (v := 1) hx hb dL_bouts_113 (by decide) ?_
      refine lv_iconst (v := 2) hx hb dL_bouts_114 (by decide) ?_
      refine lv_iconst (v := 2) hx hb dL_bouts_115 (by decide) ?_
      refine lv_iconst (v := (-1)) hx hb dL_bouts_116 (by decide) ?_
      refine lv_iconst (v := 0) hx hb dL_bouts_117 (by decide) ?_
      refine lv_iconst (v := 0) hx hb dL_bouts_118 (by decide) ?_
      refine lv_iconst (v := (-1)) hx hb dL_bouts_119 (by decide) ?_
      by_cases he638 : (x_L_bout 1 2 2 ((-1)) 0 0 ((-1)) γ).1 = 0
      rotate_left
      · exact flag_bad (ifne hq he638) hk
      have hq := ifpe hq he638
      refine e_callS (rest := []) hC hl hH hS (c_L_bout l hfl κ γ 1 2 2 ((-1)) 0 0 ((-1)) he638) tw_880 tw_881 tw_37 tw_882 hd_L_bout ⟨Nat.le_of_ble_eq_true rfl, Nat.le_of_ble_eq_true rfl⟩ rfl rfl rfl rfl (Nat.le_of_ble_eq_true rfl) dL_bouts_120 ⟨by show _ ≤ 1010; omega, by show _ ≤ 19220; omega⟩ rfl (fun H locs hH hS => ?_)
      exact b_123 ((x_L_bout 1 2 2 ((-1)) 0 0 ((-1)) γ).2.1) (x_L_bout 1 2 2 ((-1)) 0 0 ((-1)) γ).2.2 _ _ _ _ _ (lv_sub hl [0] rfl) hH hS (by omega) (by omega) hq
  have b_97 : ∀ (s0 : Int32) (γ : St) (H : Heap) (locs : List Loc) (ls : Array Slot) (cells slots : Nat), lv_has ls 1 [(0, .ref (kA κ 7 0))] → HE κ γ H → va_S (AA κ) s.heap H locs → cells + (947) ≤ 1010 → slots + (18090) ≤ 19220 → x_L_bouts_97 s0 γ = res → W p l e (headSpec [Cond.code yL_bouts cL_bouts 1 (some .boolean)] ({ frames := 12, cells := 1010, slots := 19220, locals := 263 } : Room)).room s m ([.ref (kA κ 7 0)] : List Value).toArray below meth c H locs cells slots (MQ below (QL κ res.2.2 (some (.int res.2.1))) ([.ref (kA κ 7 0)] : List Value).toArray s 1010 19220 (AA κ)) (F0 m 97 ls [.int s0]) := by
    intro s0 γ H locs ls cells slots hl hH hS hc1 hc2 hq
    refine lv_if_eq (tgt := 250) hx hb dL_bouts_97 (by decide) (fun c639 => ?_) (fun c639 => ?_)
    · have hq := ifpe hq c639
      exact b_250 γ _ _ _ _ _ (lv_sub hl [] rfl) hH hS (by omega) (by omega) hq
    · have hq := ifne hq c639
      refine lv_aload_n hx hb dL_bouts_100 rfl (lv_at hl 0 rfl) ?_
      refine lv_iconst (v := (-1)) hx hb dL_bouts_101 (by decide) ?_
      refine lv_iconst (v := (-1)) hx hb dL_bouts_102 (by decide) ?_
      refine lv_iconst (v := 0) hx hb dL_bouts_103 (by decide) ?_
      refine lv_iconst (v := 2) hx hb dL_bouts_104 (by decide) ?_
      refine lv_iconst (v := 1) hx hb dL_bouts_105 (by decide) ?_
      by_cases he640 : (x_L_judged ((-1)) ((-1)) 0 2 1 γ).1 = 0
      rotate_left
      · exact flag_bad (ifne hq he640) hk
      have hq := ifpe hq he640
      refine e_callS (rest := []) hC hl hH hS (c_L_judged l hfl κ γ ((-1)) ((-1)) 0 2 1 he640) tw_853 tw_854 tw_37 tw_855 hd_L_judged ⟨Nat.le_of_ble_eq_true rfl, Nat.le_of_ble_eq_true rfl⟩ rfl rfl rfl rfl (Nat.le_of_ble_eq_true rfl) dL_bouts_106 ⟨by show _ ≤ 1010; omega, by show _ ≤ 19220; omega⟩ rfl (fun H locs hH hS => ?_)
      exact b_109 ((x_L_judged ((-1)) ((-1)) 0 2 1 γ).2.1) (x_L_judged ((-1)) ((-1)) 0 2 1 γ).2.2 _ _ _ _ _ (lv_sub hl [0] rfl) hH hS (by omega) (by omega) hq
  have b_85 : ∀ (s0 : Int32) (γ : St) (H : Heap) (locs : List Loc) (ls : Array Slot) (cells slots : Nat), lv_has ls 1 [(0, .ref (kA κ 7 0))] → HE κ γ H → va_S (AA κ) s.heap H locs → cells + (959) ≤ 1010 → slots + (18350) ≤ 19220 → x_L_bouts_85 s0 γ = res → W p l e (headSpec [Cond.code yL_bouts cL_bouts 1 (some .boolean)] ({ frames := 12, cells := 1010, slots := 19220, locals := 263 } : Room)).room s m ([.ref (kA κ 7 0)] : List Value).toArray below meth c H locs cells slots (MQ below (QL κ res.2.2 (some (.int res.2.1))) ([.ref (kA κ 7 0)] : List Value).toArray s 1010 19220 (AA κ)) (F0 m 85 ls [.int s0]) := by
    intro s0 γ H locs ls cells slots hl hH hS hc1 hc2 hq
    refine lv_if_eq (tgt := 250) hx hb dL_bouts_85 (by decide) (fun c641 => ?_) (fun c641 => ?_)
    · have hq := ifpe hq c641
      exact b_250 γ _ _ _ _ _ (lv_sub hl [] rfl) hH hS (by omega) (by omega) hq
    · have hq := ifne hq c641
      refine lv_aload_n hx hb dL_bouts_88 rfl (lv_at hl 0 rfl) ?_
      refine lv_ldc (v := 170000002) hx hb hown (hT _ tw_914) dL_bouts_89 ?_
      refine lv_iconst (v := (-1)) hx hb dL_bouts_91 (by decide) ?_
      refine lv_iconst (v := (-1)) hx hb dL_bouts_92 (by decide) ?_
      refine lv_iconst (v := (-1)) hx hb dL_bouts_93 (by decide) ?_
      by_cases he642 : (x_L_phrase 170000002 ((-1)) ((-1)) ((-1)) γ).1 = 0
      rotate_left
      · exact flag_bad (ifne hq he642) hk
      have hq := ifpe hq he642
      refine e_callS (rest := []) hC hl hH hS (c_L_phrase l hfl κ γ 170000002 ((-1)) ((-1)) ((-1)) he642) tw_858 tw_859 tw_37 tw_860 hd_L_phrase ⟨Nat.le_of_ble_eq_true rfl, Nat.le_of_ble_eq_true rfl⟩ rfl rfl rfl rfl (Nat.le_of_ble_eq_true rfl) dL_bouts_94 ⟨by show _ ≤ 1010; omega, by show _ ≤ 19220; omega⟩ rfl (fun H locs hH hS => ?_)
      exact b_97 ((x_L_phrase 170000002 ((-1)) ((-1)) ((-1)) γ).2.1) (x_L_phrase 170000002 ((-1)) ((-1)) ((-1)) γ).2.2 _ _ _ _ _ (lv_sub hl [0] rfl) hH hS (by omega) (by omega) hq
  have b_73 : ∀ (s0 : Int32) (γ : St) (H : Heap) (locs : List Loc) (ls : Array Slot) (cells slots : Nat), lv_has ls 1 [(0, .ref (kA κ 7 0))] → HE κ γ H → va_S (AA κ) s.heap H locs → cells + (963) ≤ 1010 → slots + (18374) ≤ 19220 → x_L_bouts_73 s0 γ = res → W p l e (headSpec [Cond.code yL_bouts cL_bouts 1 (some .boolean)] ({ frames := 12, cells := 1010, slots := 19220, locals := 263 } : Room)).room s m ([.ref (kA κ 7 0)] : List Value).toArray below meth c H locs cells slots (MQ below (QL κ res.2.2 (some (.int res.2.1))) ([.ref (kA κ 7 0)] : List Value).toArray s 1010 19220 (AA κ)) (F0 m 73 ls [.int s0]) := by
    intro s0 γ H locs ls cells slots hl hH hS hc1 hc2 hq
    refine lv_if_eq (tgt := 250) hx hb dL_bouts_73 (by decide) (fun c643 => ?_) (fun c643 => ?_)
    · have hq := ifpe hq c643
      exact b_250 γ _ _ _ _ _ (lv_sub hl [] rfl) hH hS (by omega) (by omega) hq
    · have hq := ifne hq c643
      refine lv_aload_n hx hb dL_bouts_76 rfl (lv_at hl 0 rfl) ?_
      refine lv_iconst (v := (-1)) hx hb dL_bouts_77 (by decide) ?_
      refine lv_iconst (v := (-1)) hx hb dL_bouts_78 (by decide) ?_
      refine lv_iconst (v := (-1)) hx hb dL_bouts_79 (by decide) ?_
      refine lv_iconst (v := 0) hx hb dL_bouts_80 (by decide) ?_
      refine lv_iconst (v := 0) hx hb dL_bouts_81 (by decide) ?_
      by_cases he644 : (x_L_judged ((-1)) ((-1)) ((-1)) 0 0 γ).1 = 0
      rotate_left
      · exact flag_bad (ifne hq he644) hk
      have hq := ifpe hq he644
      refine e_callS (rest := []) hC hl hH hS (c_L_judged l hfl κ γ ((-1)) ((-1)) ((-1)) 0 0 he644) tw_853 tw_854 tw_37 tw_855 hd_L_judged ⟨Nat.le_of_ble_eq_true rfl, Nat.le_of_ble_eq_true rfl⟩ rfl rfl rfl rfl (Nat.le_of_ble_eq_true rfl) dL_bouts_82 ⟨by show _ ≤ 1010; omega, by show _ ≤ 19220; omega⟩ rfl (fun H locs hH hS => ?_)
      exact b_85 ((x_L_judged ((-1)) ((-1)) ((-1)) 0 0 γ).2.1) (x_L_judged ((-1)) ((-1)) ((-1)) 0 0 γ).2.2 _ _ _ _ _ (lv_sub hl [0] rfl) hH hS (by omega) (by omega) hq
  have b_60 : ∀ (s0 : Int32) (γ : St) (H : Heap) (locs : List Loc) (ls : Array Slot) (cells slots : Nat), lv_has ls 1 [(0, .ref (kA κ 7 0))] → HE κ γ H → va_S (AA κ) s.heap H locs → cells + (975) ≤ 1010 → slots + (18634) ≤ 19220 → x_L_bouts_60 s0 γ = res → W p l e (headSpec [Cond.code yL_bouts cL_bouts 1 (some .boolean)] ({ frames := 12, cells := 1010, slots := 19220, locals := 263 } : Room)).room s m ([.ref (kA κ 7 0)] : List Value).toArray below meth c H locs cells slots (MQ below (QL κ res.2.2 (some (.int res.2.1))) ([.ref (kA κ 7 0)] : List Value).toArray s 1010 19220 (AA κ)) (F0 m 60 ls [.int s0]) := by
    intro s0 γ H locs ls cells slots hl hH hS hc1 hc2 hq
    refine lv_if_eq (tgt := 250) hx hb dL_bouts_60 (by decide) (fun c645 => ?_) (fun c645 => ?_)
    · have hq := ifpe hq c645
      exact b_250 γ _ _ _ _ _ (lv_sub hl [] rfl) hH hS (by omega) (by omega) hq
    · have hq := ifne hq c645
      refine lv_aload_n hx hb dL_bouts_63 rfl (lv_at hl 0 rfl) ?_
      refine lv_ldc (v := 80000100) hx hb hown (hT _ tw_912) dL_bouts_64 ?_
      refine lv_ldc (v := 170000001) hx hb hown (hT _ tw_913) dL_bouts_66 ?_
      refine lv_iconst (v := (-1)) hx hb dL_bouts_68 (by decide) ?_
      refine lv_iconst (v := (-1)) hx hb dL_bouts_69 (by decide) ?_
      by_cases he646 : (x_L_phrase 80000100 170000001 ((-1)) ((-1)) γ).1 = 0
      rotate_left
      · exact flag_bad (ifne hq he646) hk
      have hq := ifpe hq he646
      refine e_callS (rest := []) hC hl hH hS (c_L_phrase l hfl κ γ 80000100 170000001 ((-1)) ((-1)) he646) tw_858 tw_859 tw_37 tw_860 hd_L_phrase ⟨Nat.le_of_ble_eq_true rfl, Nat.le_of_ble_eq_true rfl⟩ rfl rfl rfl rfl (Nat.le_of_ble_eq_true rfl) dL_bouts_70 ⟨by show _ ≤ 1010; omega, by show _ ≤ 19220; omega⟩ rfl (fun H locs hH hS => ?_)
      exact b_73 ((x_L_phrase 80000100 170000001 ((-1)) ((-1)) γ).2.1) (x_L_phrase 80000100 170000001 ((-1)) ((-1)) γ).2.2 _ _ _ _ _ (lv_sub hl [0] rfl) hH hS (by omega) (by omega) hq
  have b_48 : ∀ (s0 : Int32) (γ : St) (H : Heap) (locs : List Loc) (ls : Array Slot) (cells slots : Nat), lv_has ls 1 [(0, .ref (kA κ 7 0))] → HE κ γ H → va_S (AA κ) s.heap H locs → cells + (979) ≤ 1010 → slots + (18658) ≤ 19220 → x_L_bouts_48 s0 γ = res → W p l e (headSpec [Cond.code yL_bouts cL_bouts 1 (some .boolean)] ({ frames := 12, cells := 1010, slots := 19220, locals := 263 } : Room)).room s m ([.ref (kA κ 7 0)] : List Value).toArray below meth c H locs cells slots (MQ below (QL κ res.2.2 (some (.int res.2.1))) ([.ref (kA κ 7 0)] : List Value).toArray s 1010 19220 (AA κ)) (F0 m 48 ls [.int s0]) := by
    intro s0 γ H locs ls cells slots hl hH hS hc1 hc2 hq
    refine lv_if_eq (tgt := 250) hx hb dL_bouts_48 (by decide) (fun c647 => ?_) (fun c647 => ?_)
    · have hq := ifpe hq c647
      exact b_250 γ _ _ _ _ _ (lv_sub hl [] rfl) hH hS (by omega) (by omega) hq
    · have hq := ifne hq c647
      refine lv_aload_n hx hb dL_bouts_51 rfl (lv_at hl 0 rfl) ?_
      refine lv_iconst (v := (-1)) hx hb dL_bouts_52 (by decide) ?_
      refine lv_iconst (v := 0) hx hb dL_bouts_53 (by decide) ?_
      refine lv_iconst (v := (-1)) hx hb dL_bouts_54 (by decide) ?_
      refine lv_iconst (v := 1) hx hb dL_bouts_55 (by decide) ?_
      refine lv_iconst (v := 1) hx hb dL_bouts_56 (by decide) ?_
      by_cases he648 : (x_L_judged ((-1)) 0 ((-1)) 1 1 γ).1 = 0
      rotate_left
      · exact flag_bad (ifne hq he648) hk
      have hq := ifpe hq he648
      refine e_callS (rest := []) hC hl hH hS (c_L_judged l hfl κ γ ((-1)) 0 ((-1)) 1 1 he648) tw_853 tw_854 tw_37 tw_855 hd_L_judged ⟨Nat.le_of_ble_eq_true rfl, Nat.le_of_ble_eq_true rfl⟩ rfl rfl rfl rfl (Nat.le_of_ble_eq_true rfl) dL_bouts_57 ⟨by show _ ≤ 1010; omega, by show _ ≤ 19220; omega⟩ rfl (fun H locs hH hS => ?_)
      exact b_60 ((x_L_judged ((-1)) 0 ((-1)) 1 1 γ).2.1) (x_L_judged ((-1)) 0 ((-1)) 1 1 γ).2.2 _ _ _ _ _ (lv_sub hl [0] rfl) hH hS (by omega) (by omega) hq
  have b_35 : ∀ (s0 : Int32) (γ : St) (H : Heap) (locs : List Loc) (ls : Array Slot) (cells slots : Nat), lv_has ls 1 [(0, .ref (kA κ 7 0))] → HE κ γ H → va_S (AA κ) s.heap H locs → cells + (991) ≤ 1010 → slots + (18918) ≤ 19220 → x_L_bouts_35 s0 γ = res → W p l e (headSpec [Cond.code yL_bouts cL_bouts 1 (some .boolean)] ({ frames := 12, cells := 1010, slots := 19220, locals := 263 } : Room)).room s m ([.ref (kA κ 7 0)] : List Value).toArray below meth c H locs cells slots (MQ below (QL κ res.2.2 (some (.int res.2.1))) ([.ref (kA κ 7 0)] : List Value).toArray s 1010 19220 (AA κ)) (F0 m 35 ls [.int s0]) := by
    intro s0 γ H locs ls cells slots hl hH hS hc1 hc2 hq
    refine lv_if_eq (tgt := 250) hx hb dL_bouts_35 (by decide) (fun c649 => ?_) (fun c649 => ?_)
    · have hq := ifpe hq c649
      exact b_250 γ _ _ _ _ _ (lv_sub hl [] rfl) hH hS (by omega) (by omega) hq
    · have hq := ifne hq c649
      refine lv_aload_n hx hb dL_bouts_38 rfl (lv_at hl 0 rfl) ?_
      refine lv_ldc (v := 70000002) hx hb hown (hT _ tw_909) dL_bouts_39 ?_
      refine lv_ldc (v := 170460002) hx hb hown (hT _ tw_911) dL_bouts_41 ?_
      refine lv_iconst (v := (-1)) hx hb dL_bouts_43 (by decide) ?_
      refine lv_iconst (v := (-1)) hx hb dL_bouts_44 (by decide) ?_
      by_cases he650 : (x_L_phrase 70000002 170460002 ((-1)) ((-1)) γ).1 = 0
      rotate_left
      · exact flag_bad (ifne hq he650) hk
      have hq := ifpe hq he650
      refine e_callS (rest := []) hC hl hH hS (c_L_phrase l hfl κ γ 70000002 170460002 ((-1)) ((-1)) he650) tw_858 tw_859 tw_37 tw_860 hd_L_phrase ⟨Nat.le_of_ble_eq_true rfl, Nat.le_of_ble_eq_true rfl⟩ rfl rfl rfl rfl (Nat.le_of_ble_eq_true rfl) dL_bouts_45 ⟨by show _ ≤ 1010; omega, by show _ ≤ 19220; omega⟩ rfl (fun H locs hH hS => ?_)
      exact b_48 ((x_L_phrase 70000002 170460002 ((-1)) ((-1)) γ).2.1) (x_L_phrase 70000002 170460002 ((-1)) ((-1)) γ).2.2 _ _ _ _ _ (lv_sub hl [0] rfl) hH hS (by omega) (by omega) hq
  have b_23 : ∀ (s0 : Int32) (γ : St) (H : Heap) (locs : List Loc) (ls : Array Slot) (cells slots : Nat), lv_has ls 1 [(0, .ref (kA κ 7 0))] → HE κ γ H → va_S (AA κ) s.heap H locs → cells + (995) ≤ 1010 → slots + (18942) ≤ 19220 → x_L_bouts_23 s0 γ = res → W p l e (headSpec [Cond.code yL_bouts cL_bouts 1 (some .boolean)] ({ frames := 12, cells := 1010, slots := 19220, locals := 263 } : Room)).room s m ([.ref (kA κ 7 0)] : List Value).toArray below meth c H locs cells slots (MQ below (QL κ res.2.2 (some (.int res.2.1))) ([.ref (kA κ 7 0)] : List Value).toArray s 1010 19220 (AA κ)) (F0 m 23 ls [.int s0]) := by
    intro s0 γ H locs ls cells slots hl hH hS hc1 hc2 hq
    refine lv_if_eq (tgt := 250) hx hb dL_bouts_23 (by decide) (fun c651 => ?_) (fun c651 => ?_)
    · have hq := ifpe hq c651
      exact b_250 γ _ _ _ _ _ (lv_sub hl [] rfl) hH hS (by omega) (by omega) hq
    · have hq := ifne hq c651
      refine lv_aload_n hx hb dL_bouts_26 rfl (lv_at hl 0 rfl) ?_
      refine lv_iconst (v := (-1)) hx hb dL_bouts_27 (by decide) ?_
      refine lv_iconst (v := 0) hx hb dL_bouts_28 (by decide) ?_
      refine lv_iconst (v := 0) hx hb dL_bouts_29 (by decide) ?_
      refine lv_iconst (v := 3) hx hb dL_bouts_30 (by decide) ?_
      refine lv_iconst (v := 3) hx hb dL_bouts_31 (by decide) ?_
      by_cases he652 : (x_L_judged ((-1)) 0 0 3 3 γ).1 = 0
      rotate_left
      · exact flag_bad (ifne hq he652) hk
      have hq := ifpe hq he652
      refine e_callS (rest := []) hC hl hH hS (c_L_judged l hfl κ γ ((-1)) 0 0 3 3 he652) tw_853 tw_854 tw_37 tw_855 hd_L_judged ⟨Nat.le_of_ble_eq_true rfl, Nat.le_of_ble_eq_true rfl⟩ rfl rfl rfl rfl (Nat.le_of_ble_eq_true rfl) dL_bouts_32 ⟨by show _ ≤ 1010; omega, by show _ ≤ 19220; omega⟩ rfl (fun H locs hH hS => ?_)
      exact b_35 ((x_L_judged ((-1)) 0 0 3 3 γ).2.1) (x_L_judged ((-1)) 0 0 3 3 γ).2.2 _ _ _ _ _ (lv_sub hl [0] rfl) hH hS (by omega) (by omega) hq
  have b_9 : ∀ (s0 : Int32) (γ : St) (H : Heap) (locs : List Loc) (ls : Array Slot) (cells slots : Nat), lv_has ls 1 [(0, .ref (kA κ 7 0))] → HE κ γ H → va_S (AA κ) s.heap H locs → cells + (1007) ≤ 1010 → slots + (19202) ≤ 19220 → x_L_bouts_9 s0 γ = res → W p l e (headSpec [Cond.code yL_bouts cL_bouts 1 (some .boolean)] ({ frames := 12, cells := 1010, slots := 19220, locals := 263 } : Room)).room s m ([.ref (kA κ 7 0)] : List Value).toArray below meth c H locs cells slots (MQ below (QL κ res.2.2 (some (.int res.2.1))) ([.ref (kA κ 7 0)] : List Value).toArray s 1010 19220 (AA κ)) (F0 m 9 ls [.int s0]) := by
    intro s0 γ H locs ls cells slots hl hH hS hc1 hc2 hq
    refine lv_iconst (v := 1) hx hb dL_bouts_9 (by decide) ?_
    refine lv_icmp_ne (tgt := 250) hx hb dL_bouts_10 (by decide) (fun c653 => ?_) (fun c653 => ?_)
    · have hq := ifne hq c653
      exact b_250 γ _ _ _ _ _ (lv_sub hl [] rfl) hH hS (by omega) (by omega) hq
    · have hq := ifpe hq c653
      refine lv_aload_n hx hb dL_bouts_13 rfl (lv_at hl 0 rfl) ?_
      refine lv_ldc (v := 70000002) hx hb hown (hT _ tw_909) dL_bouts_14 ?_
      refine lv_ldc (v := 170450002) hx hb hown (hT _ tw_910) dL_bouts_16 ?_
      refine lv_iconst (v := (-1)) hx hb dL_bouts_18 (by decide) ?_
      refine lv_iconst (v := (-1)) hx hb dL_bouts_19 (by decide) ?_
      by_cases he654 : (x_L_phrase 70000002 170450002 ((-1)) ((-1)) γ).1 = 0
      rotate_left
      · exact flag_bad (ifne hq he654) hk
      have hq := ifpe hq he654
      refine e_callS (rest := []) hC hl hH hS (c_L_phrase l hfl κ γ 70000002 170450002 ((-1)) ((-1)) he654) tw_858 tw_859 tw_37 tw_860 hd_L_phrase ⟨Nat.le_of_ble_eq_true rfl, Nat.le_of_ble_eq_true rfl⟩ rfl rfl rfl rfl (Nat.le_of_ble_eq_true rfl) dL_bouts_20 ⟨by show _ ≤ 1010; omega, by show _ ≤ 19220; omega⟩ rfl (fun H locs hH hS => ?_)
      exact b_23 ((x_L_phrase 70000002 170450002 ((-1)) ((-1)) γ).2.1) (x_L_phrase 70000002 170450002 ((-1)) ((-1)) γ).2.2 _ _ _ _ _ (lv_sub hl [0] rfl) hH hS (by omega) (by omega) hq
  refine lv_aload_n hx hb dL_bouts_0 rfl (lv_at hl 0 rfl) ?_
  refine lv_iconst (v := 2) hx hb dL_bouts_1 (by decide) ?_
  refine lv_iconst (v := 1) hx hb dL_bouts_2 (by decide) ?_
  refine lv_iconst (v := 1) hx hb dL_bouts_3 (by decide) ?_
  refine lv_iconst (v := 3) hx hb dL_bouts_4 (by decide) ?_
  refine lv_iconst (v := (-1)) hx hb dL_bouts_5 (by decide) ?_
  refine e_xcallV (rest := []) hC hl hH hS (co_begin l hfl κ γ 2 1 1 3 ((-1))) tw_436 tw_437 tw_438 tw_38 tw_439 hd_X7_begin ⟨Nat.le_of_ble_eq_true rfl, Nat.le_of_ble_eq_true rfl⟩ rfl rfl rfl rfl (Nat.le_of_ble_eq_true rfl) dL_bouts_6 ⟨by show _ ≤ 1010; omega, by show _ ≤ 19220; omega⟩ rfl (fun he655 ce q9 H locs hH hS hce hcv hcl => ?_) (fun he655 H locs hH hS => ?_)
  · exact flag_bad (ifne hq he655) hk
  have hq := ifpe hq he655
  exact b_9 ((x_X7_begin 2 1 1 3 ((-1)) γ).2.1) (x_X7_begin 2 1 1 3 ((-1)) γ).2.2 _ _ _ _ _ (lv_sub hl [0] rfl) hH hS (by omega) (by omega) hq
