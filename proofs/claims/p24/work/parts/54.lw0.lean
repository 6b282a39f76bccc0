set_option maxRecDepth 20000 in
set_option maxHeartbeats 4000000 in
theorem c_L_refuses (l : Launch) (hfl : l.stackTraces = false) (κ : KP) (γ : St) (y1 : Int32) (y2 : Int32) (y3 : Int32) (hk : (x_L_refuses y1 y2 y3 γ).1 = 0) : Met l yL_refuses [Cond.code yL_refuses cL_refuses 17 (some .boolean)] ({ frames := 9, cells := 614, slots := 13272, locals := 191 } : Room) (va_Pc [.ref (kA κ 7 0), .int y1, .int y2, .int y3] (GW κ γ)) (QL κ (x_L_refuses y1 y2 y3 γ).2.2 (some (.int (x_L_refuses y1 y2 y3 γ).2.1))) 614 13272 (AA κ) := by
  generalize hq : x_L_refuses y1 y2 y3 γ = res at hk ⊢
  refine Met.ofW (cc := cL_refuses) (maxL := 17) (ret := (some .boolean)) (by decide) rfl ?_
  intro p e s m args below meth c s₁ B hml9 hv
  obtain ⟨rfl, hH, hK9, hB9, hX9, hZ9⟩ := hv
  have hC : CX κ cL_refuses "PhrasehallLaw" 17 p l s m ([.ref (kA κ 7 0), .int y1, .int y2, .int y3] : List Value).toArray meth c := ⟨B.exec, B.bytes, findClass_of_methodNamed B.named, fun w hw => tw_use (List.mem_filter.mp hw).2 (State.WarmedH.refl s) (hX9.1 w hw), hK9, hX9, hZ9, hB9, hml9, B.notSynchronized⟩
  obtain ⟨hx, hb, hown, hT, -, -, -, -, hml, -⟩ := id hC
  have hr := B.returns
  have hS : va_S (AA κ) s.heap s.heap [] := va_S.rf
  have hl := lv_entry ([.ref (kA κ 7 0), .int y1, .int y2, .int y3]) (n := 17) (Nat.le_of_ble_eq_true rfl)
  rw [lg_entry_eq]
  generalize (lg_sl ([.ref (kA κ 7 0), .int y1, .int y2, .int y3]) ++ List.replicate (17 - (lg_sl ([.ref (kA κ 7 0), .int y1, .int y2, .int y3])).length) Slot.unset).toArray = ls at hl ⊢
  have hl : lv_has ls 17 [(0, .ref (kA κ 7 0)), (1, .int y1), (2, .int y2), (3, .int y3)] := hl
  have hc1 : 0 + 614 ≤ 614 := Nat.le_of_ble_eq_true rfl
  have hc2 : 0 + 13272 ≤ 13272 := Nat.le_of_ble_eq_true rfl
  have b_1028 : ∀ (γ : St) (H : Heap) (locs : List Loc) (ls : Array Slot) (cells slots : Nat), lv_has ls 17 [] → HE κ γ H → va_S (AA κ) s.heap H locs → cells + (0) ≤ 614 → slots + (0) ≤ 13272 → x_L_refuses_1028 γ = res → W p l e (headSpec [Cond.code yL_refuses cL_refuses 17 (some .boolean)] ({ frames := 9, cells := 614, slots := 13272, locals := 191 } : Room)).room s m ([.ref (kA κ 7 0), .int y1, .int y2, .int y3] : List Value).toArray below meth c H locs cells slots (MQ below (QL κ res.2.2 (some (.int res.2.1))) ([.ref (kA κ 7 0), .int y1, .int y2, .int y3] : List Value).toArray s 614 13272 (AA κ)) (F0 m 1028 ls []) := by
    intro γ H locs ls cells slots hl hH hS hc1 hc2 hq
    refine lv_iconst (v := 0) hx hb dL_refuses_1028 (by decide) ?_
    subst hq
    exact er_z hC hr rfl hH hS rfl rfl (by omega) (by omega) dL_refuses_1029
  have b_990 : ∀ (a5 : Int32) (a6 : Int32) (a7 : Int32) (a8 : Int32) (s0 : Int32) (γ : St) (H : Heap) (locs : List Loc) (ls : Array Slot) (cells slots : Nat), lv_has ls 17 [(0, .ref (kA κ 7 0)), (5, .int a5), (6, .int a6), (7, .int a7), (8, .int a8)] → HE κ γ H → va_S (AA κ) s.heap H locs → cells + (2) ≤ 614 → slots + (12) ≤ 13272 → x_L_refuses_990 a5 a6 a7 a8 s0 γ = res → W p l e (headSpec [Cond.code yL_refuses cL_refuses 17 (some .boolean)] ({ frames := 9, cells := 614, slots := 13272, locals := 191 } : Room)).room s m ([.ref (kA κ 7 0), .int y1, .int y2, .int y3] : List Value).toArray below meth c H locs cells slots (MQ below (QL κ res.2.2 (some (.int res.2.1))) ([.ref (kA κ 7 0), .int y1, .int y2, .int y3] : List Value).toArray s 614 13272 (AA κ)) (F0 m 990 ls [.int s0]) := by
    intro a5 a6 a7 a8 s0 γ H locs ls cells slots hl hH hS hc1 hc2 hq
    refine lv_iload hx hb dL_refuses_990 (lv_at hl 1 rfl) ?_
    refine lv_icmp_ne (tgt := 1028) hx hb dL_refuses_992 (by decide) (fun c309 => ?_) (fun c309 => ?_)
    · have hq := ifne hq c309
      exact b_1028 γ _ _ _ _ _ (lv_sub hl [] rfl) hH hS (by omega) (by omega) hq
    · have hq := ifpe hq c309
      refine lv_aload_n hx hb dL_refuses_995 rfl (lv_at hl 0 rfl) ?_
      refine e_callV (rest := []) hC hl hH hS (co_reason l κ γ) tw_250 tw_251 tw_252 tw_38 tw_253 hd_X7_reason ⟨Nat.le_of_ble_eq_true rfl, Nat.le_of_ble_eq_true rfl⟩ rfl rfl rfl rfl (Nat.le_of_ble_eq_true rfl) dL_refuses_996 ⟨by show _ ≤ 614; omega, by show _ ≤ 13272; omega⟩ rfl (fun H locs hH hS => ?_)
      refine lv_iload hx hb dL_refuses_999 (lv_at hl 2 rfl) ?_
      refine lv_icmp_ne (tgt := 1028) hx hb dL_refuses_1001 (by decide) (fun c310 => ?_) (fun c310 => ?_)
      · have hq := ifne hq c310
        exact b_1028 γ _ _ _ _ _ (lv_sub hl [] rfl) hH hS (by omega) (by omega) hq
      · have hq := ifpe hq c310
        refine lv_aload_n hx hb dL_refuses_1004 rfl (lv_at hl 0 rfl) ?_
        refine lv_iconst (v := 0) hx hb dL_refuses_1005 (by decide) ?_
        refine e_xcallV (rest := []) hC hl hH hS (co_lamp l hfl κ γ 0) tw_837 tw_838 tw_839 tw_38 tw_840 hd_X7_lamp ⟨Nat.le_of_ble_eq_true rfl, Nat.le_of_ble_eq_true rfl⟩ rfl rfl rfl rfl (Nat.le_of_ble_eq_true rfl) dL_refuses_1006 ⟨by show _ ≤ 614; omega, by show _ ≤ 13272; omega⟩ rfl (fun he311 ce q9 H locs hH hS hce hcv hcl => ?_) (fun he311 H locs hH hS => ?_)
        · exact flag_bad (ifne hq he311) hk
        have hq := ifpe hq he311
        refine lv_iload hx hb dL_refuses_1009 (lv_at hl 3 rfl) ?_
        refine lv_icmp_ne (tgt := 1028) hx hb dL_refuses_1011 (by decide) (fun c312 => ?_) (fun c312 => ?_)
        · have hq := ifne hq c312
          exact b_1028 (x_X7_lamp 0 γ).2.2 _ _ _ _ _ (lv_sub hl [] rfl) hH hS (by omega) (by omega) hq
        · have hq := ifpe hq c312
          refine lv_aload_n hx hb dL_refuses_1014 rfl (lv_at hl 0 rfl) ?_
          refine lv_iconst (v := 1) hx hb dL_refuses_1015 (by decide) ?_
          refine e_xcallV (rest := []) hC hl hH hS (co_lamp l hfl κ (x_X7_lamp 0 γ).2.2 1) tw_837 tw_838 tw_839 tw_38 tw_840 hd_X7_lamp ⟨Nat.le_of_ble_eq_true rfl, Nat.le_of_ble_eq_true rfl⟩ rfl rfl rfl rfl (Nat.le_of_ble_eq_true rfl) dL_refuses_1016 ⟨by show _ ≤ 614; omega, by show _ ≤ 13272; omega⟩ rfl (fun he313 ce q9 H locs hH hS hce hcv hcl => ?_) (fun he313 H locs hH hS => ?_)
          · exact flag_bad (ifne hq he313) hk
          have hq := ifpe hq he313
          refine lv_iload hx hb dL_refuses_1019 (lv_at hl 4 rfl) ?_
          refine lv_icmp_ne (tgt := 1028) hx hb dL_refuses_1021 (by decide) (fun c314 => ?_) (fun c314 => ?_)
          · have hq := ifne hq c314
            exact b_1028 (x_X7_lamp 1 (x_X7_lamp 0 γ).2.2).2.2 _ _ _ _ _ (lv_sub hl [] rfl) hH hS (by omega) (by omega) hq
          · have hq := ifpe hq c314
            refine lv_iconst (v := 1) hx hb dL_refuses_1024 (by decide) ?_
            refine lv_goto (tgt := 1029) hx hb dL_refuses_1025 (by decide) ?_
            subst hq
            exact er_z hC hr rfl hH hS rfl rfl (by omega) (by omega) dL_refuses_1029
  have b_33 : ∀ (k33 : Nat) (a1 : Int32) (a2 : Int32) (a3 : Int32) (a4 : Int32) (a5 : Int32) (a6 : Int32) (a7 : Int32) (a8 : Int32) (a9 : Int32) (γ : St) (H : Heap) (locs : List Loc) (ls : Array Slot) (cells slots : Nat), lv_has ls 17 [(0, .ref (kA κ 7 0)), (1, .int a1), (2, .int a2), (3, .int a3), (4, .int a4), (5, .int a5), (6, .int a6), (7, .int a7), (8, .int a8), (9, .int a9)] → HE κ γ H → va_S (AA κ) s.heap H locs → cells + (102 + 102 * k33) ≤ 614 → slots + (2210 + 2210 * k33) ≤ 13272 → x_L_refuses_33 k33 a1 a2 a3 a4 a5 a6 a7 a8 a9 γ = res → W p l e (headSpec [Cond.code yL_refuses cL_refuses 17 (some .boolean)] ({ frames := 9, cells := 614, slots := 13272, locals := 191 } : Room)).room s m ([.ref (kA κ 7 0), .int y1, .int y2, .int y3] : List Value).toArray below meth c H locs cells slots (MQ below (QL κ res.2.2 (some (.int res.2.1))) ([.ref (kA κ 7 0), .int y1, .int y2, .int y3] : List Value).toArray s 614 13272 (AA κ)) (F0 m 33 ls []) := by
    intro k33
    induction k33 with
    | zero =>
      intro a1 a2 a3 a4 a5 a6 a7 a8 a9 γ H locs ls cells slots hl hH hS hc1 hc2 hq
      exact flag_bad hq hk
    | succ k33 ih_33 =>
      have b_971 : ∀ (a1 : Int32) (a2 : Int32) (a3 : Int32) (a4 : Int32) (a5 : Int32) (a6 : Int32) (a7 : Int32) (a8 : Int32) (a9 : Int32) (s0 : Int32) (γ : St) (H : Heap) (locs : List Loc) (ls : Array Slot) (cells slots : Nat), lv_has ls 17 [(0, .ref (kA κ 7 0)), (1, .int a1), (2, .int a2), (3, .int a3), (4, .int a4), (5, .int a5), (6, .int a6), (7, .int a7), (8, .int a8), (9, .int a9)] → HE κ γ H → va_S (AA κ) s.heap H locs → cells + (102 + 102 * k33) ≤ 614 → slots + (2210 + 2210 * k33) ≤ 13272 → x_L_refuses_971 (x_L_refuses_33 k33) a1 a2 a3 a4 a5 a6 a7 a8 a9 s0 γ = res → W p l e (headSpec [Cond.code yL_refuses cL_refuses 17 (some .boolean)] ({ frames := 9, cells := 614, slots := 13272, locals := 191 } : Room)).room s m ([.ref (kA κ 7 0), .int y1, .int y2, .int y3] : List Value).toArray below meth c H locs cells slots (MQ below (QL κ res.2.2 (some (.int res.2.1))) ([.ref (kA κ 7 0), .int y1, .int y2, .int y3] : List Value).toArray s 614 13272 (AA κ)) (F0 m 971 ls [.int s0]) := by
        intro a1 a2 a3 a4 a5 a6 a7 a8 a9 s0 γ H locs ls cells slots hl hH hS hc1 hc2 hq
        refine lv_istore (lv' := [(16, .int s0), (0, .ref (kA κ 7 0)), (1, .int a1), (2, .int a2), (3, .int a3), (4, .int a4), (5, .int a5), (6, .int a6), (7, .int a7), (8, .int a8), (9, .int a9)]) hx hb dL_refuses_971 hl (by decide) rfl (fun ls hl => ?_)
        refine lv_iload hx hb dL_refuses_973 (lv_at hl 0 rfl) ?_
        refine lv_if_ne (tgt := 980) hx hb dL_refuses_975 (by decide) (fun c315 => ?_) (fun c315 => ?_)
        · have hq := ifne hq c315
          refine lv_iinc (v := a9 + 1) (lv' := [(9, .int (a9 + 1)), (16, .int s0), (0, .ref (kA κ 7 0)), (1, .int a1), (2, .int a2), (3, .int a3), (4, .int a4), (5, .int a5), (6, .int a6), (7, .int a7), (8, .int a8)]) hx hb dL_refuses_980 hl (k := 10) rfl rfl (by decide) rfl (fun ls hl => ?_)
          refine lv_goto (tgt := 33) hx hb dL_refuses_983 (by decide) ?_
          exact ih_33 a1 a2 a3 a4 a5 a6 a7 a8 (a9 + 1) γ _ _ _ _ _ (lv_sub hl [2, 3, 4, 5, 6, 7, 8, 9, 10, 0] rfl) hH hS (by omega) (by omega) hq
        · have hq := ifpe hq c315
          refine lv_iconst (v := 0) hx hb dL_refuses_978 (by decide) ?_
          subst hq
          exact er_z hC hr rfl hH hS rfl rfl (by omega) (by omega) dL_refuses_979
      have b_970 : ∀ (a1 : Int32) (a2 : Int32) (a3 : Int32) (a4 : Int32) (a5 : Int32) (a6 : Int32) (a7 : Int32) (a8 : Int32) (a9 : Int32) (γ : St) (H : Heap) (locs : List Loc) (ls : Array Slot) (cells slots : Nat), lv_has ls 17 [(0, .ref (kA κ 7 0)), (1, .int a1), (2, .int a2), (3, .int a3), (4, .int a4), (5, .int a5), (6, .int a6), (7, .int a7), (8, .int a8), (9, .int a9)] → HE κ γ H → va_S (AA κ) s.heap H locs → cells + (102 + 102 * k33) ≤ 614 → slots + (2210 + 2210 * k33) ≤ 13272 → x_L_refuses_970 (x_L_refuses_33 k33) a1 a2 a3 a4 a5 a6 a7 a8 a9 γ = res → W p l e (headSpec [Cond.code yL_refuses cL_refuses 17 (some .boolean)] ({ frames := 9, cells := 614, slots := 13272, locals := 191 } : Room)).room s m ([.ref (kA κ 7 0), .int y1, .int y2, .int y3] : List Value).toArray below meth c H locs cells slots (MQ below (QL κ res.2.2 (some (.int res.2.1))) ([.ref (kA κ 7 0), .int y1, .int y2, .int y3] : List Value).toArray s 614 13272 (AA κ)) (F0 m 970 ls []) := by
        intro a1 a2 a3 a4 a5 a6 a7 a8 a9 γ H locs ls cells slots hl hH hS hc1 hc2 hq
        refine lv_iconst (v := 0) hx hb dL_refuses_970 (by decide) ?_
        exact b_971 a1 a2 a3 a4 a5 a6 a7 a8 a9 0 γ _ _ _ _ _ (lv_sub hl [0, 1, 2, 3, 4, 5, 6, 7, 8, 9] rfl) hH hS (by omega) (by omega) hq
      have b_966 : ∀ (a1 : Int32) (a2 : Int32) (a3 : Int32) (a4 : Int32) (a5 : Int32) (a6 : Int32) (a7 : Int32) (a8 : Int32) (a9 : Int32) (γ : St) (H : Heap) (locs : List Loc) (ls : Array Slot) (cells slots : Nat), lv_has ls 17 [(0, .ref (kA κ 7 0)), (1, .int a1), (2, .int a2), (3, .int a3), (4, .int a4), (5, .int a5), (6, .int a6), (7, .int a7), (8, .int a8), (9, .int a9)] → HE κ γ H → va_S (AA κ) s.heap H locs → cells + (102 + 102 * k33) ≤ 614 → slots + (2210 + 2210 * k33) ≤ 13272 → x_L_refuses_966 (x_L_refuses_33 k33) a1 a2 a3 a4 a5 a6 a7 a8 a9 γ = res → W p l e (headSpec [Cond.code yL_refuses cL_refuses 17 (some .boolean)] ({ frames := 9, cells := 614, slots := 13272, locals := 191 } : Room)).room s m ([.ref (kA κ 7 0), .int y1, .int y2, .int y3] : List Value).toArray below meth c H locs cells slots (MQ below (QL κ res.2.2 (some (.int res.2.1))) ([.ref (kA κ 7 0), .int y1, .int y2, .int y3] : List Value).toArray s 614 13272 (AA κ)) (F0 m 966 ls []) := by
        intro a1 a2 a3 a4 a5 a6 a7 a8 a9 γ H locs ls cells slots hl hH hS hc1 hc2 hq
        refine lv_iconst (v := 1) hx hb dL_refuses_966 (by decide) ?_
        refine lv_goto (tgt := 971) hx hb dL_refuses_967 (by decide) ?_
        exact b_971 a1 a2 a3 a4 a5 a6 a7 a8 a9 1 γ _ _ _ _ _ (lv_sub hl [0, 1, 2, 3, 4, 5, 6, 7, 8, 9] rfl) hH hS (by omega) (by omega) hq
      have b_961 : ∀ (a1 : Int32) (a2 : Int32) (a3 : Int32) (a4 : Int32) (a5 : Int32) (a6 : Int32) (a7 : Int32) (a8 : Int32) (a9 : Int32) (s0 : Int32) (γ : St) (H : Heap) (locs : List Loc) (ls : Array Slot) (cells slots : Nat), lv_has ls 17 [(0, .ref (kA κ 7 0)), (1, .int a1), (2, .int a2), (3, .int a3), (4, .int a4), (5, .int a5), (6, .int a6), (7, .int a7), (8, .int a8), (9, .int a9)] → HE κ γ H → va_S (AA κ) s.heap H locs → cells + (102 + 102 * k33) ≤ 614 → slots + (2210 + 2210 * k33) ≤ 13272 → x_L_refuses_961 (x_L_refuses_33 k33) a1 a2 a3 a4 a5 a6 a7 a8 a9 s0 γ = res → W p l e (headSpec [Cond.code yL_refuses cL_refuses 17 (some .boolean)] ({ frames := 9, cells := 614, slots := 13272, locals := 191 } : Room)).room s m ([.ref (kA κ 7 0), .int y1, .int y2, .int y3] : List Value).toArray below meth c H locs cells slots (MQ below (QL κ res.2.2 (some (.int res.2.1))) ([.ref (kA κ 7 0), .int y1, .int y2, .int y3] : List Value).toArray s 614 13272 (AA κ)) (F0 m 961 ls [.int s0]) := by
        intro a1 a2 a3 a4 a5 a6 a7 a8 a9 s0 γ H locs ls cells slots hl hH hS hc1 hc2 hq
        refine lv_bipush (v := (-72)) hx hb dL_refuses_961 (by decide) ?_
        refine lv_icmp_ne (tgt := 970) hx hb dL_refuses_963 (by decide) (fun c316 => ?_) (fun c316 => ?_)
        · have hq := ifne hq c316
          exact b_970 a1 a2 a3 a4 a5 a6 a7 a8 a9 γ _ _ _ _ _ (lv_sub hl [0, 1, 2, 3, 4, 5, 6, 7, 8, 9] rfl) hH hS (by omega) (by omega) hq
        · have hq := ifpe hq c316
          exact b_966 a1 a2 a3 a4 a5 a6 a7 a8 a9 γ _ _ _ _ _ (lv_sub hl [0, 1, 2, 3, 4, 5, 6, 7, 8, 9] rfl) hH hS (by omega) (by omega) hq
      have b_955 : ∀ (a1 : Int32) (a2 : Int32) (a3 : Int32) (a4 : Int32) (a5 : Int32) (a6 : Int32) (a7 : Int32) (a8 : Int32) (a9 : Int32) (s0 : Int32) (s1 : Int32) (s2 : Int32) (γ : St) (H : Heap) (locs : List Loc) (ls : Array Slot) (cells slots : Nat), lv_has ls 17 [(0, .ref (kA κ 7 0)), (1, .int a1), (2, .int a2), (3, .int a3), (4, .int a4), (5, .int a5), (6, .int a6), (7, .int a7), (8, .int a8), (9, .int a9)] → HE κ γ H → va_S (AA κ) s.heap H locs → cells + (105 + 102 * k33) ≤ 614 → slots + (2275 + 2210 * k33) ≤ 13272 → x_L_refuses_955 (x_L_refuses_33 k33) a1 a2 a3 a4 a5 a6 a7 a8 a9 s0 s1 s2 γ = res → W p l e (headSpec [Cond.code yL_refuses cL_refuses 17 (some .boolean)] ({ frames := 9, cells := 614, slots := 13272, locals := 191 } : Room)).room s m ([.ref (kA κ 7 0), .int y1, .int y2, .int y3] : List Value).toArray below meth c H locs cells slots (MQ below (QL κ res.2.2 (some (.int res.2.1))) ([.ref (kA κ 7 0), .int y1, .int y2, .int y3] : List Value).toArray s 614 13272 (AA κ)) (F0 m 955 ls [.int s0, .int s1, .int s2, .ref (kA κ 7 0)]) := by
        intro a1 a2 a3 a4 a5 a6 a7 a8 a9 s0 s1 s2 γ H locs ls cells slots hl hH hS hc1 hc2 hq
        refine lv_iconst (v := 0) hx hb dL_refuses_955 (by decide) ?_
        refine lv_iconst (v := 0) hx hb dL_refuses_956 (by decide) ?_
        refine lv_iconst (v := 0) hx hb dL_refuses_957 (by decide) ?_
        refine e_callW (rest := []) hC hl hH hS (c_L_call l hfl κ γ s2 s1 s0 0 0 0) tw_430 tw_431 tw_37 tw_432 hd_L_call ⟨Nat.le_of_ble_eq_true rfl, Nat.le_of_ble_eq_true rfl⟩ rfl rfl rfl rfl (Nat.le_of_ble_eq_true rfl) dL_refuses_958 ⟨by show _ ≤ 614; omega, by show _ ≤ 13272; omega⟩ rfl (fun H locs hH hS => ?_)
        exact b_961 a1 a2 a3 a4 a5 a6 a7 a8 a9 ((x_L_call s2 s1 s0 0 0 0 γ).1) (x_L_call s2 s1 s0 0 0 0 γ).2 _ _ _ _ _ (lv_sub hl [0, 1, 2, 3, 4, 5, 6, 7, 8, 9] rfl) hH hS (by omega) (by omega) hq
      have b_934 : ∀ (a1 : Int32) (a2 : Int32) (a3 : Int32) (a4 : Int32) (a5 : Int32) (a6 : Int32) (a7 : Int32) (a8 : Int32) (a9 : Int32) (a10 : Int32) (γ : St) (H : Heap) (locs : List Loc) (ls : Array Slot) (cells slots : Nat), lv_has ls 17 [(0, .ref (kA κ 7 0)), (1, .int a1), (2, .int a2), (3, .int a3), (4, .int a4), (5, .int a5), (6, .int a6), (7, .int a7), (8, .int a8), (9, .int a9), (10, .int a10)] → HE κ γ H → va_S (AA κ) s.heap H locs → cells + (105 + 102 * k33) ≤ 614 → slots + (2275 + 2210 * k33) ≤ 13272 → x_L_refuses_934 (x_L_refuses_33 k33) a1 a2 a3 a4 a5 a6 a7 a8 a9 a10 γ = res → W p l e (headSpec [Cond.code yL_refuses cL_refuses 17 (some .boolean)] ({ frames := 9, cells := 614, slots := 13272, locals := 191 } : Room)).room s m ([.ref (kA κ 7 0), .int y1, .int y2, .int y3] : List Value).toArray below meth c H locs cells slots (MQ below (QL κ res.2.2 (some (.int res.2.1))) ([.ref (kA κ 7 0), .int y1, .int y2, .int y3] : List Value).toArray s 614 13272 (AA κ)) (F0 m 934 ls []) := by
        intro a1 a2 a3 a4 a5 a6 a7 a8 a9 a10 γ H locs ls cells slots hl hH hS hc1 hc2 hq
        refine lv_iload_n hx hb dL_refuses_934 rfl (lv_at hl 3 rfl) ?_
        refine lv_if_eq (tgt := 966) hx hb dL_refuses_935 (by decide) (fun c317 => ?_) (fun c317 => ?_)
        · have hq := ifpe hq c317
          exact b_966 a1 a2 a3 a4 a5 a6 a7 a8 a9 γ _ _ _ _ _ (lv_sub hl [0, 1, 2, 3, 4, 5, 6, 7, 8, 9] rfl) hH hS (by omega) (by omega) hq
        · have hq := ifne hq c317
          refine lv_aload_n hx hb dL_refuses_938 rfl (lv_at hl 0 rfl) ?_
          refine lv_bipush (v := 14) hx hb dL_refuses_939 (by decide) ?_
          refine lv_iconst (v := 0) hx hb dL_refuses_941 (by decide) ?_
          refine lv_iload hx hb dL_refuses_942 (lv_at hl 9 rfl) ?_
          refine lv_iconst (v := 1) hx hb dL_refuses_944 (by decide) ?_
          refine lv_icmp_ne (tgt := 953) hx hb dL_refuses_945 (by decide) (fun c318 => ?_) (fun c318 => ?_)
          · have hq := ifne hq c318
            refine lv_iload hx hb dL_refuses_953 (lv_at hl 10 rfl) ?_
            exact b_955 a1 a2 a3 a4 a5 a6 a7 a8 a9 a10 0 14 γ _ _ _ _ _ (lv_sub hl [0, 1, 2, 3, 4, 5, 6, 7, 8, 9] rfl) hH hS (by omega) (by omega) hq
          · have hq := ifpe hq c318
            refine lv_bipush (v := 6) hx hb dL_refuses_948 (by decide) ?_
            refine lv_goto (tgt := 955) hx hb dL_refuses_950 (by decide) ?_
            exact b_955 a1 a2 a3 a4 a5 a6 a7 a8 a9 6 0 14 γ _ _ _ _ _ (lv_sub hl [0, 1, 2, 3, 4, 5, 6, 7, 8, 9] rfl) hH hS (by omega) (by omega) hq
      have b_929 : ∀ (a1 : Int32) (a2 : Int32) (a3 : Int32) (a4 : Int32) (a5 : Int32) (a6 : Int32) (a7 : Int32) (a8 : Int32) (a9 : Int32) (a10 : Int32) (s0 : Int32) (γ : St) (H : Heap) (locs : List Loc) (ls : Array Slot) (cells slots : Nat), lv_has ls 17 [(0, .ref (kA κ 7 0)), (1, .int a1), (2, .int a2), (3, .int a3), (4, .int a4), (5, .int a5), (6, .int a6), (7, .int a7), (8, .int a8), (9, .int a9), (10, .int a10)] → HE κ γ H → va_S (AA κ) s.heap H locs → cells + (105 + 102 * k33) ≤ 614 → slots + (2275 + 2210 * k33) ≤ 13272 → x_L_refuses_929 (x_L_refuses_33 k33) a1 a2 a3 a4 a5 a6 a7 a8 a9 a10 s0 γ = res → W p l e (headSpec [Cond.code yL_refuses cL_refuses 17 (some .boolean)] ({ frames := 9, cells := 614, slots := 13272, locals := 191 } : Room)).room s m ([.ref (kA κ 7 0), .int y1, .int y2, .int y3] : List Value).toArray below meth c H locs cells slots (MQ below (QL κ res.2.2 (some (.int res.2.1))) ([.ref (kA κ 7 0), .int y1, .int y2, .int y3] : List Value).toArray s 614 13272 (AA κ)) (F0 m 929 ls [.int s0]) := by
        intro a1 a2 a3 a4 a5 a6 a7 a8 a9 a10 s0 γ H locs ls cells slots hl hH hS hc1 hc2 hq
        refine lv_bipush (v := (-71)) hx hb dL_refuses_929 (by decide) ?_
        refine lv_icmp_ne (tgt := 970) hx hb dL_refuses_931 (by decide) (fun c319 => ?_) (fun c319 => ?_)
        · have hq := ifne hq c319
          exact b_970 a1 a2 a3 a4 a5 a6 a7 a8 a9 γ _ _ _ _ _ (lv_sub hl [0, 1, 2, 3, 4, 5, 6, 7, 8, 9] rfl) hH hS (by omega) (by omega) hq
        · have hq := ifpe hq c319
          exact b_934 a1 a2 a3 a4 a5 a6 a7 a8 a9 a10 γ _ _ _ _ _ (lv_sub hl [0, 1, 2, 3, 4, 5, 6, 7, 8, 9, 10] rfl) hH hS (by omega) (by omega) hq
      have b_911 : ∀ (a1 : Int32) (a2 : Int32) (a3 : Int32) (a4 : Int32) (a5 : Int32) (a6 : Int32) (a7 : Int32) (a8 : Int32) (a9 : Int32) (a10 : Int32) (a11 : Int32) (s0 : Int32) (γ : St) (H : Heap) (locs : List Loc) (ls : Array Slot) (cells slots : Nat), lv_has ls 17 [(0, .ref (kA κ 7 0)), (1, .int a1), (2, .int a2), (3, .int a3), (4, .int a4), (5, .int a5), (6, .int a6), (7, .int a7), (8, .int a8), (9, .int a9), (10, .int a10), (11, .int a11)] → HE κ γ H → va_S (AA κ) s.heap H locs → cells + (108 + 102 * k33) ≤ 614 → slots + (2340 + 2210 * k33) ≤ 13272 → x_L_refuses_911 (x_L_refuses_33 k33) a1 a2 a3 a4 a5 a6 a7 a8 a9 a10 a11 s0 γ = res → W p l e (headSpec [Cond.code yL_refuses cL_refuses 17 (some .boolean)] ({ frames := 9, cells := 614, slots := 13272, locals := 191 } : Room)).room s m ([.ref (kA κ 7 0), .int y1, .int y2, .int y3] : List Value).toArray below meth c H locs cells slots (MQ below (QL κ res.2.2 (some (.int res.2.1))) ([.ref (kA κ 7 0), .int y1, .int y2, .int y3] : List Value).toArray s 614 13272 (AA κ)) (F0 m 911 ls [.int s0]) := by
        intro a1 a2 a3 a4 a5 a6 a7 a8 a9 a10 a11 s0 γ H locs ls cells slots hl hH hS hc1 hc2 hq
        refine lv_bipush (v := (-71)) hx hb dL_refuses_911 (by decide) ?_
        refine lv_icmp_ne (tgt := 970) hx hb dL_refuses_913 (by decide) (fun c320 => ?_) (fun c320 => ?_)
        · have hq := ifne hq c320
          exact b_970 a1 a2 a3 a4 a5 a6 a7 a8 a9 γ _ _ _ _ _ (lv_sub hl [0, 1, 2, 3, 4, 5, 6, 7, 8, 9] rfl) hH hS (by omega) (by omega) hq
        · have hq := ifpe hq c320
          refine lv_aload_n hx hb dL_refuses_916 rfl (lv_at hl 0 rfl) ?_
          refine lv_bipush (v := 16) hx hb dL_refuses_917 (by decide) ?_
          refine lv_iconst (v := 0) hx hb dL_refuses_919 (by decide) ?_
          refine lv_iload hx hb dL_refuses_920 (lv_at hl 11 rfl) ?_
          refine lv_bipush (v := 9) hx hb dL_refuses_922 (by decide) ?_
          refine lv_iconst (v := 0) hx hb dL_refuses_924 (by decide) ?_
          refine lv_iconst (v := 0) hx hb dL_refuses_925 (by decide) ?_
          refine e_callW (rest := []) hC hl hH hS (c_L_call l hfl κ γ 16 0 a11 9 0 0) tw_430 tw_431 tw_37 tw_432 hd_L_call ⟨Nat.le_of_ble_eq_true rfl, Nat.le_of_ble_eq_true rfl⟩ rfl rfl rfl rfl (Nat.le_of_ble_eq_true rfl) dL_refuses_926 ⟨by show _ ≤ 614; omega, by show _ ≤ 13272; omega⟩ rfl (fun H locs hH hS => ?_)
          exact b_929 a1 a2 a3 a4 a5 a6 a7 a8 a9 a10 ((x_L_call 16 0 a11 9 0 0 γ).1) (x_L_call 16 0 a11 9 0 0 γ).2 _ _ _ _ _ (lv_sub hl [0, 1, 2, 3, 4, 5, 6, 7, 8, 9, 10] rfl) hH hS (by omega) (by omega) hq
      have b_893 : ∀ (a1 : Int32) (a2 : Int32) (a3 : Int32) (a4 : Int32) (a5 : Int32) (a6 : Int32) (a7 : Int32) (a8 : Int32) (a9 : Int32) (a10 : Int32) (a11 : Int32) (s0 : Int32) (γ : St) (H : Heap) (locs : List Loc) (ls : Array Slot) (cells slots : Nat), lv_has ls 17 [(0, .ref (kA κ 7 0)), (1, .int a1), (2, .int a2), (3, .int a3), (4, .int a4), (5, .int a5), (6, .int a6), (7, .int a7), (8, .int a8), (9, .int a9), (10, .int a10), (11, .int a11)] → HE κ γ H → va_S (AA κ) s.heap H locs → cells + (111 + 102 * k33) ≤ 614 → slots + (2405 + 2210 * k33) ≤ 13272 → x_L_refuses_893 (x_L_refuses_33 k33) a1 a2 a3 a4 a5 a6 a7 a8 a9 a10 a11 s0 γ = res → W p l e (headSpec [Cond.code yL_refuses cL_refuses 17 (some .boolean)] ({ frames := 9, cells := 614, slots := 13272, locals := 191 } : Room)).room s m ([.ref (kA κ 7 0), .int y1, .int y2, .int y3] : List Value).toArray below meth c H locs cells slots (MQ below (QL κ res.2.2 (some (.int res.2.1))) ([.ref (kA κ 7 0), .int y1, .int y2, .int y3] : List Value).toArray s 614 13272 (AA κ)) (F0 m 893 ls [.int s0]) := by
        intro a1 a2 a3 a4 a5 a6 a7 a8 a9 a10 a11 s0 γ H locs ls cells slots hl hH hS hc1 hc2 hq
        refine lv_bipush (v := (-71)) hx hb dL_refuses_893 (by decide) ?_
        refine lv_icmp_ne (tgt := 970) hx hb dL_refuses_895 (by decide) (fun c321 => ?_) (fun c321 => ?_)
        · have hq := ifne hq c321
          exact b_970 a1 a2 a3 a4 a5 a6 a7 a8 a9 γ _ _ _ _ _ (lv_sub hl [0, 1, 2, 3, 4, 5, 6, 7, 8, 9] rfl) hH hS (by omega) (by omega) hq
        · have hq := ifpe hq c321
          refine lv_aload_n hx hb dL_refuses_898 rfl (lv_at hl 0 rfl) ?_
          refine lv_bipush (v := 15) hx hb dL_refuses_899 (by decide) ?_
          refine lv_iconst (v := 0) hx hb dL_refuses_901 (by decide) ?_
          refine lv_iload hx hb dL_refuses_902 (lv_at hl 11 rfl) ?_
          refine lv_bipush (v := 9) hx hb dL_refuses_904 (by decide) ?_
          refine lv_iconst (v := 0) hx hb dL_refuses_906 (by decide) ?_
          refine lv_iconst (v := 0) hx hb dL_refuses_907 (by decide) ?_
          refine e_callW (rest := []) hC hl hH hS (c_L_call l hfl κ γ 15 0 a11 9 0 0) tw_430 tw_431 tw_37 tw_432 hd_L_call ⟨Nat.le_of_ble_eq_true rfl, Nat.le_of_ble_eq_true rfl⟩ rfl rfl rfl rfl (Nat.le_of_ble_eq_true rfl) dL_refuses_908 ⟨by show _ ≤ 614; omega, by show _ ≤ 13272; omega⟩ rfl (fun H locs hH hS => ?_)
          exact b_911 a1 a2 a3 a4 a5 a6 a7 a8 a9 a10 a11 ((x_L_call 15 0 a11 9 0 0 γ).1) (x_L_call 15 0 a11 9 0 0 γ).2 _ _ _ _ _ (lv_sub hl [0, 1, 2, 3, 4, 5, 6, 7, 8, 9, 10, 11] rfl) hH hS (by omega) (by omega) hq
      have b_877 : ∀ (a1 : Int32) (a2 : Int32) (a3 : Int32) (a4 : Int32) (a5 : Int32) (a6 : Int32) (a7 : Int32) (a8 : Int32) (a9 : Int32) (a10 : Int32) (a11 : Int32) (γ : St) (H : Heap) (locs : List Loc) (ls : Array Slot) (cells slots : Nat), lv_has ls 17 [(0, .ref (kA κ 7 0)), (1, .int a1), (2, .int a2), (3, .int a3), (4, .int a4), (5, .int a5), (6, .int a6), (7, .int a7), (8, .int a8), (9, .int a9), (10, .int a10), (11, .int a11)] → HE κ γ H → va_S (AA κ) s.heap H locs → cells + (114 + 102 * k33) ≤ 614 → slots + (2470 + 2210 * k33) ≤ 13272 → x_L_refuses_877 (x_L_refuses_33 k33) a1 a2 a3 a4 a5 a6 a7 a8 a9 a10 a11 γ = res → W p l e (headSpec [Cond.code yL_refuses cL_refuses 17 (some .boolean)] ({ frames := 9, cells := 614, slots := 13272, locals := 191 } : Room)).room s m ([.ref (kA κ 7 0), .int y1, .int y2, .int y3] : List Value).toArray below meth c H locs cells slots (MQ below (QL κ res.2.2 (some (.int res.2.1))) ([.ref (kA κ 7 0), .int y1, .int y2, .int y3] : List Value).toArray s 614 13272 (AA κ)) (F0 m 877 ls []) := by
        intro a1 a2 a3 a4 a5 a6 a7 a8 a9 a10 a11 γ H locs ls cells slots hl hH hS hc1 hc2 hq
        refine lv_iload_n hx hb dL_refuses_877 rfl (lv_at hl 2 rfl) ?_
        refine lv_if_eq (tgt := 934) hx hb dL_refuses_878 (by decide) (fun c322 => ?_) (fun c322 => ?_)
        · have hq := ifpe hq c322
          exact b_934 a1 a2 a3 a4 a5 a6 a7 a8 a9 a10 γ _ _ _ _ _ (lv_sub hl [0, 1, 2, 3, 4, 5, 6, 7, 8, 9, 10] rfl) hH hS (by omega) (by omega) hq
        · have hq := ifne hq c322
          refine lv_aload_n hx hb dL_refuses_881 rfl (lv_at hl 0 rfl) ?_
          refine lv_bipush (v := 10) hx hb dL_refuses_882 (by decide) ?_
          refine lv_iconst (v := 0) hx hb dL_refuses_884 (by decide) ?_
          refine lv_iload hx hb dL_refuses_885 (lv_at hl 11 rfl) ?_
          refine lv_iconst (v := 0) hx hb dL_refuses_887 (by decide) ?_
          refine lv_iconst (v := 0) hx hb dL_refuses_888 (by decide) ?_
          refine lv_iconst (v := 0) hx hb dL_refuses_889 (by decide) ?_
          refine e_callW (rest := []) hC hl hH hS (c_L_call l hfl κ γ 10 0 a11 0 0 0) tw_430 tw_431 tw_37 tw_432 hd_L_call ⟨Nat.le_of_ble_eq_true rfl, Nat.le_of_ble_eq_true rfl⟩ rfl rfl rfl rfl (Nat.le_of_ble_eq_true rfl) dL_refuses_890 ⟨by show _ ≤ 614; omega, by show _ ≤ 13272; omega⟩ rfl (fun H locs hH hS => ?_)
          exact b_893 a1 a2 a3 a4 a5 a6 a7 a8 a9 a10 a11 ((x_L_call 10 0 a11 0 0 0 γ).1) (x_L_call 10 0 a11 0 0 0 γ).2 _ _ _ _ _ (lv_sub hl [0, 1, 2, 3, 4, 5, 6, 7, 8, 9, 10, 11] rfl) hH hS (by omega) (by omega) hq
      have b_872 : ∀ (a1 : Int32) (a2 : Int32) (a3 : Int32) (a4 : Int32) (a5 : Int32) (a6 : Int32) (a7 : Int32) (a8 : Int32) (a9 : Int32) (a10 : Int32) (a11 : Int32) (s0 : Int32) (γ : St) (H : Heap) (locs : List Loc) (ls : Array Slot) (cells slots : Nat), lv_has ls 17 [(0, .ref (kA κ 7 0)), (1, .int a1), (2, .int a2), (3, .int a3), (4, .int a4), (5, .int a5), (6, .int a6), (7, .int a7), (8, .int a8), (9, .int a9), (10, .int a10), (11, .int a11)] → HE κ γ H → va_S (AA κ) s.heap H locs → cells + (114 + 102 * k33) ≤ 614 → slots + (2470 + 2210 * k33) ≤ 13272 → x_L_refuses_872 (x_L_refuses_33 k33) a1 a2 a3 a4 a5 a6 a7 a8 a9 a10 a11 s0 γ = res → W p l e (headSpec [Cond.code yL_refuses cL_refuses 17 (some .boolean)] ({ frames := 9, cells := 614, slots := 13272, locals := 191 } : Room)).room s m ([.ref (kA κ 7 0), .int y1, .int y2, .int y3] : List Value).toArray below meth c H locs cells slots (MQ below (QL κ res.2.2 (some (.int res.2.1))) ([.ref (kA κ 7 0), .int y1, .int y2, .int y3] : List Value).toArray s 614 13272 (AA κ)) (F0 m 872 ls [.int s0]) := by
        intro a1 a2 a3 a4 a5 a6 a7 a8 a9 a10 a11 s0 γ H locs ls cells slots hl hH hS hc1 hc2 hq
        refine lv_bipush (v := (-72)) hx hb dL_refuses_872 (by decide) ?_
        refine lv_icmp_ne (tgt := 970) hx hb dL_refuses_874 (by decide) (fun c323 => ?_) (fun c323 => ?_)
        · have hq := ifne hq c323
          exact b_970 a1 a2 a3 a4 a5 a6 a7 a8 a9 γ _ _ _ _ _ (lv_sub hl [0, 1, 2, 3, 4, 5, 6, 7, 8, 9] rfl) hH hS (by omega) (by omega) hq
        · have hq := ifpe hq c323
          exact b_877 a1 a2 a3 a4 a5 a6 a7 a8 a9 a10 a11 γ _ _ _ _ _ (lv_sub hl [0, 1, 2, 3, 4, 5, 6, 7, 8, 9, 10, 11] rfl) hH hS (by omega) (by omega) hq
      have b_868 : ∀ (a1 : Int32) (a2 : Int32) (a3 : Int32) (a4 : Int32) (a5 : Int32) (a6 : Int32) (a7 : Int32) (a8 : Int32) (a9 : Int32) (a10 : Int32) (a11 : Int32) (s0 : Int32) (s1 : Int32) (s2 : Int32) (s3 : Int32) (s4 : Int32) (γ : St) (H : Heap) (locs : List Loc) (ls : Array Slot) (cells slots : Nat), lv_has ls 17 [(0, .ref (kA κ 7 0)), (1, .int a1), (2, .int a2), (3, .int a3), (4, .int a4), (5, .int a5), (6, .int a6), (7, .int a7), (8, .int a8), (9, .int a9), (10, .int a10), (11, .int a11)] → HE κ γ H → va_S (AA κ) s.heap H locs → cells + (117 + 102 * k33) ≤ 614 → slots + (2535 + 2210 * k33) ≤ 13272 → x_L_refuses_868 (x_L_refuses_33 k33) a1 a2 a3 a4 a5 a6 a7 a8 a9 a10 a11 s0 s1 s2 s3 s4 γ = res → W p l e (headSpec [Cond.code yL_refuses cL_refuses 17 (some .boolean)] ({ frames := 9, cells := 614, slots := 13272, locals := 191 } : Room)).room s m ([.ref (kA κ 7 0), .int y1, .int y2, .int y3] : List Value).toArray below meth c H locs cells slots (MQ below (QL κ res.2.2 (some (.int res.2.1))) ([.ref (kA κ 7 0), .int y1, .int y2, .int y3] : List Value).toArray s 614 13272 (AA κ)) (F0 m 868 ls [.int s0, .int s1, .int s2, .int s3, .int s4, .ref (kA κ 7 0)]) := by
        intro a1 a2 a3 a4 a5 a6 a7 a8 a9 a10 a11 s0 s1 s2 s3 s4 γ H locs ls cells slots hl hH hS hc1 hc2 hq
        refine lv_iconst (v := (-1)) hx hb dL_refuses_868 (by decide) ?_
        refine e_callW (rest := []) hC hl hH hS (c_L_call l hfl κ γ s4 s3 s2 s1 s0 ((-1))) tw_430 tw_431 tw_37 tw_432 hd_L_call ⟨Nat.le_of_ble_eq_true rfl, Nat.le_of_ble_eq_true rfl⟩ rfl rfl rfl rfl (Nat.le_of_ble_eq_true rfl) dL_refuses_869 ⟨by show _ ≤ 614; omega, by show _ ≤ 13272; omega⟩ rfl (fun H locs hH hS => ?_)
        exact b_872 a1 a2 a3 a4 a5 a6 a7 a8 a9 a10 a11 ((x_L_call s4 s3 s2 s1 s0 ((-1)) γ).1) (x_L_call s4 s3 s2 s1 s0 ((-1)) γ).2 _ _ _ _ _ (lv_sub hl [0, 1, 2, 3, 4, 5, 6, 7, 8, 9, 10, 11] rfl) hH hS (by omega) (by omega) hq
      have b_836 : ∀ (a1 : Int32) (a2 : Int32) (a3 : Int32) (a4 : Int32) (a5 : Int32) (a6 : Int32) (a7 : Int32) (a8 : Int32) (a9 : Int32) (a10 : Int32) (a11 : Int32) (s0 : Int32) (γ : St) (H : Heap) (locs : List Loc) (ls : Array Slot) (cells slots : Nat), lv_has ls 17 [(0, .ref (kA κ 7 0)), (1, .int a1), (2, .int a2), (3, .int a3), (4, .int a4), (5, .int a5), (6, .int a6), (7, .int a7), (8, .int a8), (9, .int a9), (10, .int a10), (11, .int a11)] → HE κ γ H → va_S (AA κ) s.heap H locs → cells + (117 + 102 * k33) ≤ 614 → slots + (2535 + 2210 * k33) ≤ 13272 → x_L_refuses_836 (x_L_refuses_33 k33) a1 a2 a3 a4 a5 a6 a7 a8 a9 a10 a11 s0 γ = res → W p l e (headSpec [Cond.code yL_refuses cL_refuses 17 (some .boolean)] ({ frames := 9, cells := 614, slots := 13272, locals := 191 } : Room)).room s m ([.ref (kA κ 7 0), .int y1, .int y2, .int y3] : List Value).toArray below meth c H locs cells slots (MQ below (QL κ res.2.2 (some (.int res.2.1))) ([.ref (kA κ 7 0), .int y1, .int y2, .int y3] : List Value).toArray s 614 13272 (AA κ)) (F0 m 836 ls [.int s0]) := by
        intro a1 a2 a3 a4 a5 a6 a7 a8 a9 a10 a11 s0 γ H locs ls cells slots hl hH hS hc1 hc2 hq
        refine lv_bipush (v := (-72)) hx hb dL_refuses_836 (by decide) ?_
        refine lv_icmp_ne (tgt := 970) hx hb dL_refuses_838 (by decide) (fun c324 => ?_) (fun c324 => ?_)
        · have hq := ifne hq c324
          exact b_970 a1 a2 a3 a4 a5 a6 a7 a8 a9 γ _ _ _ _ _ (lv_sub hl [0, 1, 2, 3, 4, 5, 6, 7, 8, 9] rfl) hH hS (by omega) (by omega) hq
        · have hq := ifpe hq c324
          refine lv_aload_n hx hb dL_refuses_841 rfl (lv_at hl 0 rfl) ?_
          refine lv_iconst (v := 1) hx hb dL_refuses_842 (by decide) ?_
          refine lv_iconst (v := 0) hx hb dL_refuses_843 (by decide) ?_
          refine lv_iconst (v := 1) hx hb dL_refuses_844 (by decide) ?_
          refine lv_iconst (v := 0) hx hb dL_refuses_845 (by decide) ?_
          refine lv_iload hx hb dL_refuses_846 (lv_at hl 9 rfl) ?_
          refine lv_if_ne (tgt := 855) hx hb dL_refuses_848 (by decide) (fun c325 => ?_) (fun c325 => ?_)
          · have hq := ifne hq c325
            refine lv_iload hx hb dL_refuses_855 (lv_at hl 9 rfl) ?_
            refine lv_iconst (v := 1) hx hb dL_refuses_857 (by decide) ?_
            refine lv_icmp_ne (tgt := 866) hx hb dL_refuses_858 (by decide) (fun c326 => ?_) (fun c326 => ?_)
            · have hq := ifne hq c326
              refine lv_iload hx hb dL_refuses_866 (lv_at hl 10 rfl) ?_
              exact b_868 a1 a2 a3 a4 a5 a6 a7 a8 a9 a10 a11 a10 0 1 0 1 γ _ _ _ _ _ (lv_sub hl [0, 1, 2, 3, 4, 5, 6, 7, 8, 9, 10, 11] rfl) hH hS (by omega) (by omega) hq
            · have hq := ifpe hq c326
              refine lv_bipush (v := 46) hx hb dL_refuses_861 (by decide) ?_
              refine lv_goto (tgt := 868) hx hb dL_refuses_863 (by decide) ?_
              exact b_868 a1 a2 a3 a4 a5 a6 a7 a8 a9 a10 a11 46 0 1 0 1 γ _ _ _ _ _ (lv_sub hl [0, 1, 2, 3, 4, 5, 6, 7, 8, 9, 10, 11] rfl) hH hS (by omega) (by omega) hq
          · have hq := ifpe hq c325
            refine lv_iconst (v := 0) hx hb dL_refuses_851 (by decide) ?_
            refine lv_goto (tgt := 868) hx hb dL_refuses_852 (by decide) ?_
            exact b_868 a1 a2 a3 a4 a5 a6 a7 a8 a9 a10 a11 0 0 1 0 1 γ _ _ _ _ _ (lv_sub hl [0, 1, 2, 3, 4, 5, 6, 7, 8, 9, 10, 11] rfl) hH hS (by omega) (by omega) hq
      have b_831 : ∀ (a1 : Int32) (a2 : Int32) (a3 : Int32) (a4 : Int32) (a5 : Int32) (a6 : Int32) (a7 : Int32) (a8 : Int32) (a9 : Int32) (a10 : Int32) (a11 : Int32) (s0 : Int32) (s1 : Int32) (s2 : Int32) (s3 : Int32) (γ : St) (H : Heap) (locs : List Loc) (ls : Array Slot) (cells slots : Nat), lv_has ls 17 [(0, .ref (kA κ 7 0)), (1, .int a1), (2, .int a2), (3, .int a3), (4, .int a4), (5, .int a5), (6, .int a6), (7, .int a7), (8, .int a8), (9, .int a9), (10, .int a10), (11, .int a11)] → HE κ γ H → va_S (AA κ) s.heap H locs → cells + (120 + 102 * k33) ≤ 614 → slots + (2600 + 2210 * k33) ≤ 13272 → x_L_refuses_831 (x_L_refuses_33 k33) a1 a2 a3 a4 a5 a6 a7 a8 a9 a10 a11 s0 s1 s2 s3 γ = res → W p l e (headSpec [Cond.code yL_refuses cL_refuses 17 (some .boolean)] ({ frames := 9, cells := 614, slots := 13272, locals := 191 } : Room)).room s m ([.ref (kA κ 7 0), .int y1, .int y2, .int y3] : List Value).toArray below meth c H locs cells slots (MQ below (QL κ res.2.2 (some (.int res.2.1))) ([.ref (kA κ 7 0), .int y1, .int y2, .int y3] : List Value).toArray s 614 13272 (AA κ)) (F0 m 831 ls [.int s0, .int s1, .int s2, .int s3, .ref (kA κ 7 0)]) := by
        intro a1 a2 a3 a4 a5 a6 a7 a8 a9 a10 a11 s0 s1 s2 s3 γ H locs ls cells slots hl hH hS hc1 hc2 hq
        refine lv_iconst (v := 5) hx hb dL_refuses_831 (by decide) ?_
        refine lv_iconst (v := (-1)) hx hb dL_refuses_832 (by decide) ?_
        refine e_callW (rest := []) hC hl hH hS (c_L_call l hfl κ γ s3 s2 s1 s0 5 ((-1))) tw_430 tw_431 tw_37 tw_432 hd_L_call ⟨Nat.le_of_ble_eq_true rfl, Nat.le_of_ble_eq_true rfl⟩ rfl rfl rfl rfl (Nat.le_of_ble_eq_true rfl) dL_refuses_833 ⟨by show _ ≤ 614; omega, by show _ ≤ 13272; omega⟩ rfl (fun H locs hH hS => ?_)
        exact b_836 a1 a2 a3 a4 a5 a6 a7 a8 a9 a10 a11 ((x_L_call s3 s2 s1 s0 5 ((-1)) γ).1) (x_L_call s3 s2 s1 s0 5 ((-1)) γ).2 _ _ _ _ _ (lv_sub hl [0, 1, 2, 3, 4, 5, 6, 7, 8, 9, 10, 11] rfl) hH hS (by omega) (by omega) hq
      have b_810 : ∀ (a1 : Int32) (a2 : Int32) (a3 : Int32) (a4 : Int32) (a5 : Int32) (a6 : Int32) (a7 : Int32) (a8 : Int32) (a9 : Int32) (a10 : Int32) (a11 : Int32) (s0 : Int32) (γ : St) (H : Heap) (locs : List Loc) (ls : Array Slot) (cells slots : Nat), lv_has ls 17 [(0, .ref (kA κ 7 0)), (1, .int a1), (2, .int a2), (3, .int a3), (4, .int a4), (5, .int a5), (6, .int a6), (7, .int a7), (8, .int a8), (9, .int a9), (10, .int a10), (11, .int a11)] → HE κ γ H → va_S (AA κ) s.heap H locs → cells + (120 + 102 * k33) ≤ 614 → slots + (2600 + 2210 * k33) ≤ 13272 → x_L_refuses_810 (x_L_refuses_33 k33) a1 a2 a3 a4 a5 a6 a7 a8 a9 a10 a11 s0 γ = res → W p l e (headSpec [Cond.code yL_refuses cL_refuses 17 (some .boolean)] ({ frames := 9, cells := 614, slots := 13272, locals := 191 } : Room)).room s m ([.ref (kA κ 7 0), .int y1, .int y2, .int y3] : List Value).toArray below meth c H locs cells slots (MQ below (QL κ res.2.2 (some (.int res.2.1))) ([.ref (kA κ 7 0), .int y1, .int y2, .int y3] : List Value).toArray s 614 13272 (AA κ)) (F0 m 810 ls [.int s0]) := by
        intro a1 a2 a3 a4 a5 a6 a7 a8 a9 a10 a11 s0 γ H locs ls cells slots hl hH hS hc1 hc2 hq
        refine lv_bipush (v := (-72)) hx hb dL_refuses_810 (by decide) ?_
        refine lv_icmp_ne (tgt := 970) hx hb dL_refuses_812 (by decide) (fun c327 => ?_) (fun c327 => ?_)
        · have hq := ifne hq c327
          exact b_970 a1 a2 a3 a4 a5 a6 a7 a8 a9 γ _ _ _ _ _ (lv_sub hl [0, 1, 2, 3, 4, 5, 6, 7, 8, 9] rfl) hH hS (by omega) (by omega) hq
        · have hq := ifpe hq c327
          refine lv_aload_n hx hb dL_refuses_815 rfl (lv_at hl 0 rfl) ?_
          refine lv_iconst (v := 1) hx hb dL_refuses_816 (by decide) ?_
          refine lv_iconst (v := 0) hx hb dL_refuses_817 (by decide) ?_
          refine lv_iconst (v := 1) hx hb dL_refuses_818 (by decide) ?_
          refine lv_iload hx hb dL_refuses_819 (lv_at hl 9 rfl) ?_
          refine lv_iconst (v := 1) hx hb dL_refuses_821 (by decide) ?_
          refine lv_icmp_ne (tgt := 829) hx hb dL_refuses_822 (by decide) (fun c328 => ?_) (fun c328 => ?_)
          · have hq := ifne hq c328
            refine lv_iload hx hb dL_refuses_829 (lv_at hl 10 rfl) ?_
            exact b_831 a1 a2 a3 a4 a5 a6 a7 a8 a9 a10 a11 a10 1 0 1 γ _ _ _ _ _ (lv_sub hl [0, 1, 2, 3, 4, 5, 6, 7, 8, 9, 10, 11] rfl) hH hS (by omega) (by omega) hq
          · have hq := ifpe hq c328
            refine lv_iconst (v := 3) hx hb dL_refuses_825 (by decide) ?_
            refine lv_goto (tgt := 831) hx hb dL_refuses_826 (by decide) ?_
            exact b_831 a1 a2 a3 a4 a5 a6 a7 a8 a9 a10 a11 3 1 0 1 γ _ _ _ _ _ (lv_sub hl [0, 1, 2, 3, 4, 5, 6, 7, 8, 9, 10, 11] rfl) hH hS (by omega) (by omega) hq
      have b_788 : ∀ (a1 : Int32) (a2 : Int32) (a3 : Int32) (a4 : Int32) (a5 : Int32) (a6 : Int32) (a7 : Int32) (a8 : Int32) (a9 : Int32) (a10 : Int32) (a11 : Int32) (s0 : Int32) (γ : St) (H : Heap) (locs : List Loc) (ls : Array Slot) (cells slots : Nat), lv_has ls 17 [(0, .ref (kA κ 7 0)), (1, .int a1), (2, .int a2), (3, .int a3), (4, .int a4), (5, .int a5), (6, .int a6), (7, .int a7), (8, .int a8), (9, .int a9), (10, .int a10), (11, .int a11)] → HE κ γ H → va_S (AA κ) s.heap H locs → cells + (123 + 102 * k33) ≤ 614 → slots + (2665 + 2210 * k33) ≤ 13272 → x_L_refuses_788 (x_L_refuses_33 k33) a1 a2 a3 a4 a5 a6 a7 a8 a9 a10 a11 s0 γ = res → W p l e (headSpec [Cond.code yL_refuses cL_refuses 17 (some .boolean)] ({ frames := 9, cells := 614, slots := 13272, locals := 191 } : Room)).room s m ([.ref (kA κ 7 0), .int y1, .int y2, .int y3] : List Value).toArray below meth c H locs cells slots (MQ below (QL κ res.2.2 (some (.int res.2.1))) ([.ref (kA κ 7 0), .int y1, .int y2, .int y3] : List Value).toArray s 614 13272 (AA κ)) (F0 m 788 ls [.int s0]) := by
        intro a1 a2 a3 a4 a5 a6 a7 a8 a9 a10 a11 s0 γ H locs ls cells slots hl hH hS hc1 hc2 hq
        refine lv_istore (lv' := [(16, .int s0), (0, .ref (kA κ 7 0)), (1, .int a1), (2, .int a2), (3, .int a3), (4, .int a4), (5, .int a5), (6, .int a6), (7, .int a7), (8, .int a8), (9, .int a9), (10, .int a10), (11, .int a11)]) hx hb dL_refuses_788 hl (by decide) rfl (fun ls hl => ?_)
        refine lv_iload hx hb dL_refuses_790 (lv_at hl 0 rfl) ?_
        refine lv_if_eq (tgt := 970) hx hb dL_refuses_792 (by decide) (fun c329 => ?_) (fun c329 => ?_)
        · have hq := ifpe hq c329
          exact b_970 a1 a2 a3 a4 a5 a6 a7 a8 a9 γ _ _ _ _ _ (lv_sub hl [1, 2, 3, 4, 5, 6, 7, 8, 9, 10] rfl) hH hS (by omega) (by omega) hq
        · have hq := ifne hq c329
          refine lv_iload_n hx hb dL_refuses_795 rfl (lv_at hl 2 rfl) ?_
          refine lv_iconst (v := 2) hx hb dL_refuses_796 (by decide) ?_
          refine lv_icmp_lt (tgt := 877) hx hb dL_refuses_797 (by decide) (fun c330 => ?_) (fun c330 => ?_)
          · have hq := ifpe hq c330
            exact b_877 a1 a2 a3 a4 a5 a6 a7 a8 a9 a10 a11 γ _ _ _ _ _ (lv_sub hl [1, 2, 3, 4, 5, 6, 7, 8, 9, 10, 11, 12] rfl) hH hS (by omega) (by omega) hq
          · have hq := ifne hq c330
            refine lv_aload_n hx hb dL_refuses_800 rfl (lv_at hl 1 rfl) ?_
            refine lv_iconst (v := 1) hx hb dL_refuses_801 (by decide) ?_
            refine lv_iconst (v := 0) hx hb dL_refuses_802 (by decide) ?_
            refine lv_iconst (v := 0) hx hb dL_refuses_803 (by decide) ?_
            refine lv_iconst (v := 0) hx hb dL_refuses_804 (by decide) ?_
            refine lv_iconst (v := 5) hx hb dL_refuses_805 (by decide) ?_
            refine lv_iconst (v := (-1)) hx hb dL_refuses_806 (by decide) ?_
            refine e_callW (rest := []) hC hl hH hS (c_L_call l hfl κ γ 1 0 0 0 5 ((-1))) tw_430 tw_431 tw_37 tw_432 hd_L_call ⟨Nat.le_of_ble_eq_true rfl, Nat.le_of_ble_eq_true rfl⟩ rfl rfl rfl rfl (Nat.le_of_ble_eq_true rfl) dL_refuses_807 ⟨by show _ ≤ 614; omega, by show _ ≤ 13272; omega⟩ rfl (fun H locs hH hS => ?_)
            exact b_810 a1 a2 a3 a4 a5 a6 a7 a8 a9 a10 a11 ((x_L_call 1 0 0 0 5 ((-1)) γ).1) (x_L_call 1 0 0 0 5 ((-1)) γ).2 _ _ _ _ _ (lv_sub hl [1, 2, 3, 4, 5, 6, 7, 8, 9, 10, 11, 12] rfl) hH hS (by omega) (by omega) hq
      have b_787 : ∀ (a1 : Int32) (a2 : Int32) (a3 : Int32) (a4 : Int32) (a5 : Int32) (a6 : Int32) (a7 : Int32) (a8 : Int32) (a9 : Int32) (a10 : Int32) (a11 : Int32) (γ : St) (H : Heap) (locs : List Loc) (ls : Array Slot) (cells slots : Nat), lv_has ls 17 [(0, .ref (kA κ 7 0)), (1, .int a1), (2, .int a2), (3, .int a3), (4, .int a4), (5, .int a5), (6, .int a6), (7, .int a7), (8, .int a8), (9, .int a9), (10, .int a10), (11, .int a11)] → HE κ γ H → va_S (AA κ) s.heap H locs → cells + (123 + 102 * k33) ≤ 614 → slots + (2665 + 2210 * k33) ≤ 13272 → x_L_refuses_787 (x_L_refuses_33 k33) a1 a2 a3 a4 a5 a6 a7 a8 a9 a10 a11 γ = res → W p l e (headSpec [Cond.code yL_refuses cL_refuses 17 (some .boolean)] ({ frames := 9, cells := 614, slots := 13272, locals := 191 } : Room)).room s m ([.ref (kA κ 7 0), .int y1, .int y2, .int y3] : List Value).toArray below meth c H locs cells slots (MQ below (QL κ res.2.2 (some (.int res.2.1))) ([.ref (kA κ 7 0), .int y1, .int y2, .int y3] : List Value).toArray s 614 13272 (AA κ)) (F0 m 787 ls []) := by
        intro a1 a2 a3 a4 a5 a6 a7 a8 a9 a10 a11 γ H locs ls cells slots hl hH hS hc1 hc2 hq
        refine lv_iconst (v := 0) hx hb dL_refuses_787 (by decide) ?_
        exact b_788 a1 a2 a3 a4 a5 a6 a7 a8 a9 a10 a11 0 γ _ _ _ _ _ (lv_sub hl [0, 1, 2, 3, 4, 5, 6, 7, 8, 9, 10, 11] rfl) hH hS (by omega) (by omega) hq
      have b_778 : ∀ (a1 : Int32) (a2 : Int32) (a3 : Int32) (a4 : Int32) (a5 : Int32) (a6 : Int32) (a7 : Int32) (a8 : Int32) (a9 : Int32) (a10 : Int32) (a11 : Int32) (s0 : Int32) (γ : St) (H : Heap) (locs : List Loc) (ls : Array Slot) (cells slots : Nat), lv_has ls 17 [(0, .ref (kA κ 7 0)), (1, .int a1), (2, .int a2), (3, .int a3), (4, .int a4), (5, .int a5), (6, .int a6), (7, .int a7), (8, .int a8), (9, .int a9), (10, .int a10), (11, .int a11)] → HE κ γ H → va_S (AA κ) s.heap H locs → cells + (123 + 102 * k33) ≤ 614 → slots + (2665 + 2210 * k33) ≤ 13272 → x_L_refuses_778 (x_L_refuses_33 k33) a1 a2 a3 a4 a5 a6 a7 a8 a9 a10 a11 s0 γ = res → W p l e (headSpec [Cond.code yL_refuses cL_refuses 17 (some .boolean)] ({ frames := 9, cells := 614, slots := 13272, locals := 191 } : Room)).room s m ([.ref (kA κ 7 0), .int y1, .int y2, .int y3] : List Value).toArray below meth c H locs cells slots (MQ below (QL κ res.2.2 (some (.int res.2.1))) ([.ref (kA κ 7 0), .int y1, .int y2, .int y3] : List Value).toArray s 614 13272 (AA κ)) (F0 m 778 ls [.int s0]) := by
        intro a1 a2 a3 a4 a5 a6 a7 a8 a9 a10 a11 s0 γ H locs ls cells slots hl hH hS hc1 hc2 hq
        refine lv_bipush (v := (-71)) hx hb dL_refuses_778 (by decide) ?_
        refine lv_icmp_ne (tgt := 787) hx hb dL_refuses_780 (by decide) (fun c331 => ?_) (fun c331 => ?_)
        · have hq := ifne hq c331
          exact b_787 a1 a2 a3 a4 a5 a6 a7 a8 a9 a10 a11 γ _ _ _ _ _ (lv_sub hl [0, 1, 2, 3, 4, 5, 6, 7, 8, 9, 10, 11] rfl) hH hS (by omega) (by omega) hq
        · have hq := ifpe hq c331
          refine lv_iconst (v := 1) hx hb dL_refuses_783 (by decide) ?_
          refine lv_goto (tgt := 788) hx hb dL_refuses_784 (by decide) ?_
          exact b_788 a1 a2 a3 a4 a5 a6 a7 a8 a9 a10 a11 1 γ _ _ _ _ _ (lv_sub hl [0, 1, 2, 3, 4, 5, 6, 7, 8, 9, 10, 11] rfl) hH hS (by omega) (by omega) hq
      have b_771 : ∀ (a1 : Int32) (a2 : Int32) (a3 : Int32) (a4 : Int32) (a5 : Int32) (a6 : Int32) (a7 : Int32) (a8 : Int32) (a9 : Int32) (a10 : Int32) (a11 : Int32) (s0 : Int32) (s1 : Int32) (s2 : Int32) (γ : St) (H : Heap) (locs : List Loc) (ls : Array Slot) (cells slots : Nat), lv_has ls 17 [(0, .ref (kA κ 7 0)), (1, .int a1), (2, .int a2), (3, .int a3), (4, .int a4), (5, .int a5), (6, .int a6), (7, .int a7), (8, .int a8), (9, .int a9), (10, .int a10), (11, .int a11)] → HE κ γ H → va_S (AA κ) s.heap H locs → cells + (126 + 102 * k33) ≤ 614 → slots + (2730 + 2210 * k33) ≤ 13272 → x_L_refuses_771 (x_L_refuses_33 k33) a1 a2 a3 a4 a5 a6 a7 a8 a9 a10 a11 s0 s1 s2 γ = res → W p l e (headSpec [Cond.code yL_refuses cL_refuses 17 (some .boolean)] ({ frames := 9, cells := 614, slots := 13272, locals := 191 } : Room)).room s m ([.ref (kA κ 7 0), .int y1, .int y2, .int y3] : List Value).toArray below meth c H locs cells slots (MQ below (QL κ res.2.2 (some (.int res.2.1))) ([.ref (kA κ 7 0), .int y1, .int y2, .int y3] : List Value).toArray s 614 13272 (AA κ)) (F0 m 771 ls [.int s0, .int s1, .int s2, .ref (kA κ 7 0)]) := by
        intro a1 a2 a3 a4 a5 a6 a7 a8 a9 a10 a11 s0 s1 s2 γ H locs ls cells slots hl hH hS hc1 hc2 hq
        refine lv_bipush (v := 9) hx hb dL_refuses_771 (by decide) ?_
        refine lv_iconst (v := 0) hx hb dL_refuses_773 (by decide) ?_
        refine lv_iconst (v := 0) hx hb dL_refuses_774 (by decide) ?_
        refine e_callW (rest := []) hC hl hH hS (c_L_call l hfl κ γ s2 s1 s0 9 0 0) tw_430 tw_431 tw_37 tw_432 hd_L_call ⟨Nat.le_of_ble_eq_true rfl, Nat.le_of_ble_eq_true rfl⟩ rfl rfl rfl rfl (Nat.le_of_ble_eq_true rfl) dL_refuses_775 ⟨by show _ ≤ 614; omega, by show _ ≤ 13272; omega⟩ rfl (fun H locs hH hS => ?_)
        exact b_778 a1 a2 a3 a4 a5 a6 a7 a8 a9 a10 a11 ((x_L_call s2 s1 s0 9 0 0 γ).1) (x_L_call s2 s1 s0 9 0 0 γ).2 _ _ _ _ _ (lv_sub hl [0, 1, 2, 3, 4, 5, 6, 7, 8, 9, 10, 11] rfl) hH hS (by omega) (by omega) hq
      have b_749 : ∀ (a1 : Int32) (a2 : Int32) (a3 : Int32) (a4 : Int32) (a5 : Int32) (a6 : Int32) (a7 : Int32) (a8 : Int32) (a9 : Int32) (a10 : Int32) (a11 : Int32) (s0 : Int32) (γ : St) (H : Heap) (locs : List Loc) (ls : Array Slot) (cells slots : Nat), lv_has ls 17 [(0, .ref (kA κ 7 0)), (1, .int a1), (2, .int a2), (3, .int a3), (4, .int a4), (5, .int a5), (6, .int a6), (7, .int a7), (8, .int a8), (9, .int a9), (10, .int a10), (11, .int a11)] → HE κ γ H → va_S (AA κ) s.heap H locs → cells + (126 + 102 * k33) ≤ 614 → slots + (2730 + 2210 * k33) ≤ 13272 → x_L_refuses_749 (x_L_refuses_33 k33) a1 a2 a3 a4 a5 a6 a7 a8 a9 a10 a11 s0 γ = res → W p l e (headSpec [Cond.code yL_refuses cL_refuses 17 (some .boolean)] ({ frames := 9, cells := 614, slots := 13272, locals := 191 } : Room)).room s m ([.ref (kA κ 7 0), .int y1, .int y2, .int y3] : List Value).toArray below meth c H locs cells slots (MQ below (QL κ res.2.2 (some (.int res.2.1))) ([.ref (kA κ 7 0), .int y1, .int y2, .int y3] : List Value).toArray s 614 13272 (AA κ)) (F0 m 749 ls [.int s0]) := by
        intro a1 a2 a3 a4 a5 a6 a7 a8 a9 a10 a11 s0 γ H locs ls cells slots hl hH hS hc1 hc2 hq
        refine lv_bipush (v := (-71)) hx hb dL_refuses_749 (by decide) ?_
        refine lv_icmp_ne (tgt := 787) hx hb dL_refuses_751 (by decide) (fun c332 => ?_) (fun c332 => ?_)
        · have hq := ifne hq c332
          exact b_787 a1 a2 a3 a4 a5 a6 a7 a8 a9 a10 a11 γ _ _ _ _ _ (lv_sub hl [0, 1, 2, 3, 4, 5, 6, 7, 8, 9, 10, 11] rfl) hH hS (by omega) (by omega) hq
        · have hq := ifpe hq c332
          refine lv_aload_n hx hb dL_refuses_754 rfl (lv_at hl 0 rfl) ?_
          refine lv_bipush (v := 18) hx hb dL_refuses_755 (by decide) ?_
          refine lv_iconst (v := 0) hx hb dL_refuses_757 (by decide) ?_
          refine lv_iload hx hb dL_refuses_758 (lv_at hl 9 rfl) ?_
          refine lv_iconst (v := 1) hx hb dL_refuses_760 (by decide) ?_
          refine lv_icmp_ne (tgt := 769) hx hb dL_refuses_761 (by decide) (fun c333 => ?_) (fun c333 => ?_)
          · have hq := ifne hq c333
            refine lv_iload hx hb dL_refuses_769 (lv_at hl 10 rfl) ?_
            exact b_771 a1 a2 a3 a4 a5 a6 a7 a8 a9 a10 a11 a10 0 18 γ _ _ _ _ _ (lv_sub hl [0, 1, 2, 3, 4, 5, 6, 7, 8, 9, 10, 11] rfl) hH hS (by omega) (by omega) hq
          · have hq := ifpe hq c333
            refine lv_bipush (v := 8) hx hb dL_refuses_764 (by decide) ?_
            refine lv_goto (tgt := 771) hx hb dL_refuses_766 (by decide) ?_
            exact b_771 a1 a2 a3 a4 a5 a6 a7 a8 a9 a10 a11 8 0 18 γ _ _ _ _ _ (lv_sub hl [0, 1, 2, 3, 4, 5, 6, 7, 8, 9, 10, 11] rfl) hH hS (by omega) (by omega) hq
      have b_741 : ∀ (a1 : Int32) (a2 : Int32) (a3 : Int32) (a4 : Int32) (a5 : Int32) (a6 : Int32) (a7 : Int32) (a8 : Int32) (a9 : Int32) (a10 : Int32) (a11 : Int32) (s0 : Int32) (s1 : Int32) (γ : St) (H : Heap) (locs : List Loc) (ls : Array Slot) (cells slots : Nat), lv_has ls 17 [(0, .ref (kA κ 7 0)), (1, .int a1), (2, .int a2), (3, .int a3), (4, .int a4), (5, .int a5), (6, .int a6), (7, .int a7), (8, .int a8), (9, .int a9), (10, .int a10), (11, .int a11)] → HE κ γ H → va_S (AA κ) s.heap H locs → cells + (129 + 102 * k33) ≤ 614 → slots + (2795 + 2210 * k33) ≤ 13272 → x_L_refuses_741 (x_L_refuses_33 k33) a1 a2 a3 a4 a5 a6 a7 a8 a9 a10 a11 s0 s1 γ = res → W p l e (headSpec [Cond.code yL_refuses cL_refuses 17 (some .boolean)] ({ frames := 9, cells := 614, slots := 13272, locals := 191 } : Room)).room s m ([.ref (kA κ 7 0), .int y1, .int y2, .int y3] : List Value).toArray below meth c H locs cells slots (MQ below (QL κ res.2.2 (some (.int res.2.1))) ([.ref (kA κ 7 0), .int y1, .int y2, .int y3] : List Value).toArray s 614 13272 (AA κ)) (F0 m 741 ls [.int s0, .int s1, .ref (kA κ 7 0)]) := by
        intro a1 a2 a3 a4 a5 a6 a7 a8 a9 a10 a11 s0 s1 γ H locs ls cells slots hl hH hS hc1 hc2 hq
        refine lv_iconst (v := 0) hx hb dL_refuses_741 (by decide) ?_
        refine lv_bipush (v := 9) hx hb dL_refuses_742 (by decide) ?_
        refine lv_iconst (v := 0) hx hb dL_refuses_744 (by decide) ?_
        refine lv_iconst (v := 0) hx hb dL_refuses_745 (by decide) ?_
        refine e_callW (rest := []) hC hl hH hS (c_L_call l hfl κ γ s1 s0 0 9 0 0) tw_430 tw_431 tw_37 tw_432 hd_L_call ⟨Nat.le_of_ble_eq_true rfl, Nat.le_of_ble_eq_true rfl⟩ rfl rfl rfl rfl (Nat.le_of_ble_eq_true rfl) dL_refuses_746 ⟨by show _ ≤ 614; omega, by show _ ≤ 13272; omega⟩ rfl (fun H locs hH hS => ?_)
        exact b_749 a1 a2 a3 a4 a5 a6 a7 a8 a9 a10 a11 ((x_L_call s1 s0 0 9 0 0 γ).1) (x_L_call s1 s0 0 9 0 0 γ).2 _ _ _ _ _ (lv_sub hl [0, 1, 2, 3, 4, 5, 6, 7, 8, 9, 10, 11] rfl) hH hS (by omega) (by omega) hq
      have b_721 : ∀ (a1 : Int32) (a2 : Int32) (a3 : Int32) (a4 : Int32) (a5 : Int32) (a6 : Int32) (a7 : Int32) (a8 : Int32) (a9 : Int32) (a10 : Int32) (a11 : Int32) (s0 : Int32) (γ : St) (H : Heap) (locs : List Loc) (ls : Array Slot) (cells slots : Nat), lv_has ls 17 [(0, .ref (kA κ 7 0)), (1, .int a1), (2, .int a2), (3, .int a3), (4, .int a4), (5, .int a5), (6, .int a6), (7, .int a7), (8, .int a8), (9, .int a9), (10, .int a10), (11, .int a11)] → HE κ γ H → va_S (AA κ) s.heap H locs → cells + (129 + 102 * k33) ≤ 614 → slots + (2795 + 2210 * k33) ≤ 13272 → x_L_refuses_721 (x_L_refuses_33 k33) a1 a2 a3 a4 a5 a6 a7 a8 a9 a10 a11 s0 γ = res → W p l e (headSpec [Cond.code yL_refuses cL_refuses 17 (some .boolean)] ({ frames := 9, cells := 614, slots := 13272, locals := 191 } : Room)).room s m ([.ref (kA κ 7 0), .int y1, .int y2, .int y3] : List Value).toArray below meth c H locs cells slots (MQ below (QL κ res.2.2 (some (.int res.2.1))) ([.ref (kA κ 7 0), .int y1, .int y2, .int y3] : List Value).toArray s 614 13272 (AA κ)) (F0 m 721 ls [.int s0]) := by
        intro a1 a2 a3 a4 a5 a6 a7 a8 a9 a10 a11 s0 γ H locs ls cells slots hl hH hS hc1 hc2 hq
        refine lv_bipush (v := (-71)) hx hb dL_refuses_721 (by decide) ?_
        refine lv_icmp_ne (tgt := 787) hx hb dL_refuses_723 (by decide) (fun c334 => ?_) (fun c334 => ?_)
        · have hq := ifne hq c334
          exact b_787 a1 a2 a3 a4 a5 a6 a7 a8 a9 a10 a11 γ _ _ _ _ _ (lv_sub hl [0, 1, 2, 3, 4, 5, 6, 7, 8, 9, 10, 11] rfl) hH hS (by omega) (by omega) hq
        · have hq := ifpe hq c334
          refine lv_aload_n hx hb dL_refuses_726 rfl (lv_at hl 0 rfl) ?_
          refine lv_bipush (v := 18) hx hb dL_refuses_727 (by decide) ?_
          refine lv_iload hx hb dL_refuses_729 (lv_at hl 9 rfl) ?_
          refine lv_iconst (v := 1) hx hb dL_refuses_731 (by decide) ?_
          refine lv_icmp_ne (tgt := 739) hx hb dL_refuses_732 (by decide) (fun c335 => ?_) (fun c335 => ?_)
          · have hq := ifne hq c335
            refine lv_iload hx hb dL_refuses_739 (lv_at hl 10 rfl) ?_
            exact b_741 a1 a2 a3 a4 a5 a6 a7 a8 a9 a10 a11 a10 18 γ _ _ _ _ _ (lv_sub hl [0, 1, 2, 3, 4, 5, 6, 7, 8, 9, 10, 11] rfl) hH hS (by omega) (by omega) hq
          · have hq := ifpe hq c335
            refine lv_iconst (v := 4) hx hb dL_refuses_735 (by decide) ?_
            refine lv_goto (tgt := 741) hx hb dL_refuses_736 (by decide) ?_
            exact b_741 a1 a2 a3 a4 a5 a6 a7 a8 a9 a10 a11 4 18 γ _ _ _ _ _ (lv_sub hl [0, 1, 2, 3, 4, 5, 6, 7, 8, 9, 10, 11] rfl) hH hS (by omega) (by omega) hq
      have b_704 : ∀ (a1 : Int32) (a2 : Int32) (a3 : Int32) (a4 : Int32) (a5 : Int32) (a6 : Int32) (a7 : Int32) (a8 : Int32) (a9 : Int32) (a10 : Int32) (a11 : Int32) (a15 : Int32) (s0 : Int32) (γ : St) (H : Heap) (locs : List Loc) (ls : Array Slot) (cells slots : Nat), lv_has ls 17 [(0, .ref (kA κ 7 0)), (1, .int a1), (2, .int a2), (3, .int a3), (4, .int a4), (5, .int a5), (6, .int a6), (7, .int a7), (8, .int a8), (9, .int a9), (10, .int a10), (11, .int a11), (15, .int a15)] → HE κ γ H → va_S (AA κ) s.heap H locs → cells + (132 + 102 * k33) ≤ 614 → slots + (2860 + 2210 * k33) ≤ 13272 → x_L_refuses_704 (x_L_refuses_33 k33) a1 a2 a3 a4 a5 a6 a7 a8 a9 a10 a11 a15 s0 γ = res → W p l e (headSpec [Cond.code yL_refuses cL_refuses 17 (some .boolean)] ({ frames := 9, cells := 614, slots := 13272, locals := 191 } : Room)).room s m ([.ref (kA κ 7 0), .int y1, .int y2, .int y3] : List Value).toArray below meth c H locs cells slots (MQ below (QL κ res.2.2 (some (.int res.2.1))) ([.ref (kA κ 7 0), .int y1, .int y2, .int y3] : List Value).toArray s 614 13272 (AA κ)) (F0 m 704 ls [.int s0]) := by
        intro a1 a2 a3 a4 a5 a6 a7 a8 a9 a10 a11 a15 s0 γ H locs ls cells slots hl hH hS hc1 hc2 hq
        refine lv_bipush (v := (-71)) hx hb dL_refuses_704 (by decide) ?_
        refine lv_icmp_ne (tgt := 787) hx hb dL_refuses_706 (by decide) (fun c336 => ?_) (fun c336 => ?_)
        · have hq := ifne hq c336
          exact b_787 a1 a2 a3 a4 a5 a6 a7 a8 a9 a10 a11 γ _ _ _ _ _ (lv_sub hl [0, 1, 2, 3, 4, 5, 6, 7, 8, 9, 10, 11] rfl) hH hS (by omega) (by omega) hq
        · have hq := ifpe hq c336
          refine lv_aload_n hx hb dL_refuses_709 rfl (lv_at hl 0 rfl) ?_
          refine lv_bipush (v := 17) hx hb dL_refuses_710 (by decide) ?_
          refine lv_iconst (v := 0) hx hb dL_refuses_712 (by decide) ?_
          refine lv_iload hx hb dL_refuses_713 (lv_at hl 12 rfl) ?_
          refine lv_iconst (v := 0) hx hb dL_refuses_715 (by decide) ?_
          refine lv_iconst (v := 0) hx hb dL_refuses_716 (by decide) ?_
          refine lv_iconst (v := 0) hx hb dL_refuses_717 (by decide) ?_
          refine e_callW (rest := []) hC hl hH hS (c_L_call l hfl κ γ 17 0 a15 0 0 0) tw_430 tw_431 tw_37 tw_432 hd_L_call ⟨Nat.le_of_ble_eq_true rfl, Nat.le_of_ble_eq_true rfl⟩ rfl rfl rfl rfl (Nat.le_of_ble_eq_true rfl) dL_refuses_718 ⟨by show _ ≤ 614; omega, by show _ ≤ 13272; omega⟩ rfl (fun H locs hH hS => ?_)
          exact b_721 a1 a2 a3 a4 a5 a6 a7 a8 a9 a10 a11 ((x_L_call 17 0 a15 0 0 0 γ).1) (x_L_call 17 0 a15 0 0 0 γ).2 _ _ _ _ _ (lv_sub hl [0, 1, 2, 3, 4, 5, 6, 7, 8, 9, 10, 11] rfl) hH hS (by omega) (by omega) hq
      have b_687 : ∀ (a1 : Int32) (a2 : Int32) (a3 : Int32) (a4 : Int32) (a5 : Int32) (a6 : Int32) (a7 : Int32) (a8 : Int32) (a9 : Int32) (a10 : Int32) (a11 : Int32) (a12 : Int32) (a15 : Int32) (s0 : Int32) (γ : St) (H : Heap) (locs : List Loc) (ls : Array Slot) (cells slots : Nat), lv_has ls 17 [(0, .ref (kA κ 7 0)), (1, .int a1), (2, .int a2), (3, .int a3), (4, .int a4), (5, .int a5), (6, .int a6), (7, .int a7), (8, .int a8), (9, .int a9), (10, .int a10), (11, .int a11), (12, .int a12), (15, .int a15)] → HE κ γ H → va_S (AA κ) s.heap H locs → cells + (135 + 102 * k33) ≤ 614 → slots + (2925 + 2210 * k33) ≤ 13272 → x_L_refuses_687 (x_L_refuses_33 k33) a1 a2 a3 a4 a5 a6 a7 a8 a9 a10 a11 a12 a15 s0 γ = res → W p l e (headSpec [Cond.code yL_refuses cL_refuses 17 (some .boolean)] ({ frames := 9, cells := 614, slots := 13272, locals := 191 } : Room)).room s m ([.ref (kA κ 7 0), .int y1, .int y2, .int y3] : List Value).toArray below meth c H locs cells slots (MQ below (QL κ res.2.2 (some (.int res.2.1))) ([.ref (kA κ 7 0), .int y1, .int y2, .int y3] : List Value).toArray s 614 13272 (AA κ)) (F0 m 687 ls [.int s0]) := by
        intro a1 a2 a3 a4 a5 a6 a7 a8 a9 a10 a11 a12 a15 s0 γ H locs ls cells slots hl hH hS hc1 hc2 hq
        refine lv_bipush (v := (-71)) hx hb dL_refuses_687 (by decide) ?_
        refine lv_icmp_ne (tgt := 787) hx hb dL_refuses_689 (by decide) (fun c337 => ?_) (fun c337 => ?_)
        · have hq := ifne hq c337
          exact b_787 a1 a2 a3 a4 a5 a6 a7 a8 a9 a10 a11 γ _ _ _ _ _ (lv_sub hl [0, 1, 2, 3, 4, 5, 6, 7, 8, 9, 10, 11] rfl) hH hS (by omega) (by omega) hq
        · have hq := ifpe hq c337
          refine lv_aload_n hx hb dL_refuses_692 rfl (lv_at hl 0 rfl) ?_
          refine lv_bipush (v := 17) hx hb dL_refuses_693 (by decide) ?_
          refine lv_iload hx hb dL_refuses_695 (lv_at hl 12 rfl) ?_
          refine lv_iconst (v := 0) hx hb dL_refuses_697 (by decide) ?_
          refine lv_iconst (v := 0) hx hb dL_refuses_698 (by decide) ?_
          refine lv_iconst (v := 0) hx hb dL_refuses_699 (by decide) ?_
          refine lv_iconst (v := 0) hx hb dL_refuses_700 (by decide) ?_
          refine e_callW (rest := []) hC hl hH hS (c_L_call l hfl κ γ 17 a12 0 0 0 0) tw_430 tw_431 tw_37 tw_432 hd_L_call ⟨Nat.le_of_ble_eq_true rfl, Nat.le_of_ble_eq_true rfl⟩ rfl rfl rfl rfl (Nat.le_of_ble_eq_true rfl) dL_refuses_701 ⟨by show _ ≤ 614; omega, by show _ ≤ 13272; omega⟩ rfl (fun H locs hH hS => ?_)
          exact b_704 a1 a2 a3 a4 a5 a6 a7 a8 a9 a10 a11 a15 ((x_L_call 17 a12 0 0 0 0 γ).1) (x_L_call 17 a12 0 0 0 0 γ).2 _ _ _ _ _ (lv_sub hl [0, 1, 2, 3, 4, 5, 6, 7, 8, 9, 10, 11, 13] rfl) hH hS (by omega) (by omega) hq
      have b_669 : ∀ (a1 : Int32) (a2 : Int32) (a3 : Int32) (a4 : Int32) (a5 : Int32) (a6 : Int32) (a7 : Int32) (a8 : Int32) (a9 : Int32) (a10 : Int32) (a11 : Int32) (a12 : Int32) (a15 : Int32) (s0 : Int32) (γ : St) (H : Heap) (locs : List Loc) (ls : Array Slot) (cells slots : Nat), lv_has ls 17 [(0, .ref (kA κ 7 0)), (1, .int a1), (2, .int a2), (3, .int a3), (4, .int a4), (5, .int a5), (6, .int a6), (7, .int a7), (8, .int a8), (9, .int a9), (10, .int a10), (11, .int a11), (12, .int a12), (15, .int a15)] → HE κ γ H → va_S (AA κ) s.heap H locs → cells + (138 + 102 * k33) ≤ 614 → slots + (2990 + 2210 * k33) ≤ 13272 → x_L_refuses_669 (x_L_refuses_33 k33) a1 a2 a3 a4 a5 a6 a7 a8 a9 a10 a11 a12 a15 s0 γ = res → W p l e (headSpec [Cond.code yL_refuses cL_refuses 17 (some .boolean)] ({ frames := 9, cells := 614, slots := 13272, locals := 191 } : Room)).room s m ([.ref (kA κ 7 0), .int y1, .int y2, .int y3] : List Value).toArray below meth c H locs cells slots (MQ below (QL κ res.2.2 (some (.int res.2.1))) ([.ref (kA κ 7 0), .int y1, .int y2, .int y3] : List Value).toArray s 614 13272 (AA κ)) (F0 m 669 ls [.int s0]) := by
        intro a1 a2 a3 a4 a5 a6 a7 a8 a9 a10 a11 a12 a15 s0 γ H locs ls cells slots hl hH hS hc1 hc2 hq
        refine lv_bipush (v := (-71)) hx hb dL_refuses_669 (by decide) ?_
        refine lv_icmp_ne (tgt := 787) hx hb dL_refuses_671 (by decide) (fun c338 => ?_) (fun c338 => ?_)
        · have hq := ifne hq c338
          exact b_787 a1 a2 a3 a4 a5 a6 a7 a8 a9 a10 a11 γ _ _ _ _ _ (lv_sub hl [0, 1, 2, 3, 4, 5, 6, 7, 8, 9, 10, 11] rfl) hH hS (by omega) (by omega) hq
        · have hq := ifpe hq c338
          refine lv_aload_n hx hb dL_refuses_674 rfl (lv_at hl 0 rfl) ?_
          refine lv_bipush (v := 16) hx hb dL_refuses_675 (by decide) ?_
          refine lv_iload hx hb dL_refuses_677 (lv_at hl 12 rfl) ?_
          refine lv_iconst (v := 0) hx hb dL_refuses_679 (by decide) ?_
          refine lv_bipush (v := 9) hx hb dL_refuses_680 (by decide) ?_
          refine lv_iconst (v := 0) hx hb dL_refuses_682 (by decide) ?_
          refine lv_iconst (v := 0) hx hb dL_refuses_683 (by decide) ?_
          refine e_callW (rest := []) hC hl hH hS (c_L_call l hfl κ γ 16 a12 0 9 0 0) tw_430 tw_431 tw_37 tw_432 hd_L_call ⟨Nat.le_of_ble_eq_true rfl, Nat.le_of_ble_eq_true rfl⟩ rfl rfl rfl rfl (Nat.le_of_ble_eq_true rfl) dL_refuses_684 ⟨by show _ ≤ 614; omega, by show _ ≤ 13272; omega⟩ rfl (fun H locs hH hS => ?_)
          exact b_687 a1 a2 a3 a4 a5 a6 a7 a8 a9 a10 a11 a12 a15 ((x_L_call 16 a12 0 9 0 0 γ).1) (x_L_call 16 a12 0 9 0 0 γ).2 _ _ _ _ _ (lv_sub hl [0, 1, 2, 3, 4, 5, 6, 7, 8, 9, 10, 11, 12, 13] rfl) hH hS (by omega) (by omega) hq
      have b_651 : ∀ (a1 : Int32) (a2 : Int32) (a3 : Int32) (a4 : Int32) (a5 : Int32) (a6 : Int32) (a7 : Int32) (a8 : Int32) (a9 : Int32) (a10 : Int32) (a11 : Int32) (a12 : Int32) (a15 : Int32) (s0 : Int32) (γ : St) (H : Heap) (locs : List Loc) (ls : Array Slot) (cells slots : Nat), lv_has ls 17 [(0, .ref (kA κ 7 0)), (1, .int a1), (2, .int a2), (3, .int a3), (4, .int a4), (5, .int a5), (6, .int a6), (7, .int a7), (8, .int a8), (9, .int a9), (10, .int a10), (11, .int a11), (12, .int a12), (15, .int a15)] → HE κ γ H → va_S (AA κ) s.heap H locs → cells + (141 + 102 * k33) ≤ 614 → slots + (3055 + 2210 * k33) ≤ 13272 → x_L_refuses_651 (x_L_refuses_33 k33) a1 a2 a3 a4 a5 a6 a7 a8 a9 a10 a11 a12 a15 s0 γ = res → W p l e (headSpec [Cond.code yL_refuses cL_refuses 17 (some .boolean)] ({ frames := 9, cells := 614, slots := 13272, locals := 191 } : Room)).room s m ([.ref (kA κ 7 0), .int y1, .int y2, .int y3] : List Value).toArray below meth c H locs cells slots (MQ below (QL κ res.2.2 (some (.int res.2.1))) ([.ref (kA κ 7 0), .int y1, .int y2, .int y3] : List Value).toArray s 614 13272 (AA κ)) (F0 m 651 ls [.int s0]) := by
        intro a1 a2 a3 a4 a5 a6 a7 a8 a9 a10 a11 a12 a15 s0 γ H locs ls cells slots hl hH hS hc1 hc2 hq
        refine lv_bipush (v := (-71)) hx hb dL_refuses_651 (by decide) ?_
        refine lv_icmp_ne (tgt := 787) hx hb dL_refuses_653 (by decide) (fun c339 => ?_) (fun c339 => ?_)
        · have hq := ifne hq c339
          exact b_787 a1 a2 a3 a4 a5 a6 a7 a8 a9 a10 a11 γ _ _ _ _ _ (lv_sub hl [0, 1, 2, 3, 4, 5, 6, 7, 8, 9, 10, 11] rfl) hH hS (by omega) (by omega) hq
        · have hq := ifpe hq c339
          refine lv_aload_n hx hb dL_refuses_656 rfl (lv_at hl 0 rfl) ?_
          refine lv_bipush (v := 15) hx hb dL_refuses_657 (by decide) ?_
          refine lv_iload hx hb dL_refuses_659 (lv_at hl 12 rfl) ?_
          refine lv_iconst (v := 0) hx hb dL_refuses_661 (by decide) ?_
          refine lv_bipush (v := 9) hx hb dL_refuses_662 (by decide) ?_
          refine lv_iconst (v := 0) hx hb dL_refuses_664 (by decide) ?_
          refine lv_iconst (v := 0) hx hb dL_refuses_665 (by decide) ?_
          refine e_callW (rest := []) hC hl hH hS (c_L_call l hfl κ γ 15 a12 0 9 0 0) tw_430 tw_431 tw_37 tw_432 hd_L_call ⟨Nat.le_of_ble_eq_true rfl, Nat.le_of_ble_eq_true rfl⟩ rfl rfl rfl rfl (Nat.le_of_ble_eq_true rfl) dL_refuses_666 ⟨by show _ ≤ 614; omega, by show _ ≤ 13272; omega⟩ rfl (fun H locs hH hS => ?_)
          exact b_669 a1 a2 a3 a4 a5 a6 a7 a8 a9 a10 a11 a12 a15 ((x_L_call 15 a12 0 9 0 0 γ).1) (x_L_call 15 a12 0 9 0 0 γ).2 _ _ _ _ _ (lv_sub hl [0, 1, 2, 3, 4, 5, 6, 7, 8, 9, 10, 11, 12, 13] rfl) hH hS (by omega) (by omega) hq
      have b_643 : ∀ (a1 : Int32) (a2 : Int32) (a3 : Int32) (a4 : Int32) (a5 : Int32) (a6 : Int32) (a7 : Int32) (a8 : Int32) (a9 : Int32) (a10 : Int32) (a11 : Int32) (a12 : Int32) (a15 : Int32) (s0 : Int32) (s1 : Int32) (γ : St) (H : Heap) (locs : List Loc) (ls : Array Slot) (cells slots : Nat), lv_has ls 17 [(0, .ref (kA κ 7 0)), (1, .int a1), (2, .int a2), (3, .int a3), (4, .int a4), (5, .int a5), (6, .int a6), (7, .int a7), (8, .int a8), (9, .int a9), (10, .int a10), (11, .int a11), (12, .int a12), (15, .int a15)] → HE κ γ H → va_S (AA κ) s.heap H locs → cells + (144 + 102 * k33) ≤ 614 → slots + (3120 + 2210 * k33) ≤ 13272 → x_L_refuses_643 (x_L_refuses_33 k33) a1 a2 a3 a4 a5 a6 a7 a8 a9 a10 a11 a12 a15 s0 s1 γ = res → W p l e (headSpec [Cond.code yL_refuses cL_refuses 17 (some .boolean)] ({ frames := 9, cells := 614, slots := 13272, locals := 191 } : Room)).room s m ([.ref (kA κ 7 0), .int y1, .int y2, .int y3] : List Value).toArray below meth c H locs cells slots (MQ below (QL κ res.2.2 (some (.int res.2.1))) ([.ref (kA κ 7 0), .int y1, .int y2, .int y3] : List Value).toArray s 614 13272 (AA κ)) (F0 m 643 ls [.int s0, .int s1, .ref (kA κ 7 0)]) := by
        intro a1 a2 a3 a4 a5 a6 a7 a8 a9 a10 a11 a12 a15 s0 s1 γ H locs ls cells slots hl hH hS hc1 hc2 hq
        refine lv_bipush (v := 9) hx hb dL_refuses_643 (by decide) ?_
        refine lv_iconst (v := 0) hx hb dL_refuses_645 (by decide) ?_
        refine lv_iconst (v := 0) hx hb dL_refuses_646 (by decide) ?_
        refine lv_iconst (v := 0) hx hb dL_refuses_647 (by decide) ?_
        refine e_callW (rest := []) hC hl hH hS (c_L_call l hfl κ γ s1 s0 9 0 0 0) tw_430 tw_431 tw_37 tw_432 hd_L_call ⟨Nat.le_of_ble_eq_true rfl, Nat.le_of_ble_eq_true rfl⟩ rfl rfl rfl rfl (Nat.le_of_ble_eq_true rfl) dL_refuses_648 ⟨by show _ ≤ 614; omega, by show _ ≤ 13272; omega⟩ rfl (fun H locs hH hS => ?_)
        exact b_651 a1 a2 a3 a4 a5 a6 a7 a8 a9 a10 a11 a12 a15 ((x_L_call s1 s0 9 0 0 0 γ).1) (x_L_call s1 s0 9 0 0 0 γ).2 _ _ _ _ _ (lv_sub hl [0, 1, 2, 3, 4, 5, 6, 7, 8, 9, 10, 11, 12, 13] rfl) hH hS (by omega) (by omega) hq
      have b_623 : ∀ (a1 : Int32) (a2 : Int32) (a3 : Int32) (a4 : Int32) (a5 : Int32) (a6 : Int32) (a7 : Int32) (a8 : Int32) (a9 : Int32) (a10 : Int32) (a11 : Int32) (a12 : Int32) (a15 : Int32) (s0 : Int32) (γ : St) (H : Heap) (locs : List Loc) (ls : Array Slot) (cells slots : Nat), lv_has ls 17 [(0, .ref (kA κ 7 0)), (1, .int a1), (2, .int a2), (3, .int a3), (4, .int a4), (5, .int a5), (6, .int a6), (7, .int a7), (8, .int a8), (9, .int a9), (10, .int a10), (11, .int a11), (12, .int a12), (15, .int a15)] → HE κ γ H → va_S (AA κ) s.heap H locs → cells + (144 + 102 * k33) ≤ 614 → slots + (3120 + 2210 * k33) ≤ 13272 → x_L_refuses_623 (x_L_refuses_33 k33) a1 a2 a3 a4 a5 a6 a7 a8 a9 a10 a11 a12 a15 s0 γ = res → W p l e (headSpec [Cond.code yL_refuses cL_refuses 17 (some .boolean)] ({ frames := 9, cells := 614, slots := 13272, locals := 191 } : Room)).room s m ([.ref (kA κ 7 0), .int y1, .int y2, .int y3] : List Value).toArray below meth c H locs cells slots (MQ below (QL κ res.2.2 (some (.int res.2.1))) ([.ref (kA κ 7 0), .int y1, .int y2, .int y3] : List Value).toArray s 614 13272 (AA κ)) (F0 m 623 ls [.int s0]) := by
        intro a1 a2 a3 a4 a5 a6 a7 a8 a9 a10 a11 a12 a15 s0 γ H locs ls cells slots hl hH hS hc1 hc2 hq
        refine lv_bipush (v := (-72)) hx hb dL_refuses_623 (by decide) ?_
        refine lv_icmp_ne (tgt := 787) hx hb dL_refuses_625 (by decide) (fun c340 => ?_) (fun c340 => ?_)
        · have hq := ifne hq c340
          exact b_787 a1 a2 a3 a4 a5 a6 a7 a8 a9 a10 a11 γ _ _ _ _ _ (lv_sub hl [0, 1, 2, 3, 4, 5, 6, 7, 8, 9, 10, 11] rfl) hH hS (by omega) (by omega) hq
        · have hq := ifpe hq c340
          refine lv_aload_n hx hb dL_refuses_628 rfl (lv_at hl 0 rfl) ?_
          refine lv_bipush (v := 14) hx hb dL_refuses_629 (by decide) ?_
          refine lv_iload hx hb dL_refuses_631 (lv_at hl 9 rfl) ?_
          refine lv_iconst (v := 1) hx hb dL_refuses_633 (by decide) ?_
          refine lv_icmp_ne (tgt := 641) hx hb dL_refuses_634 (by decide) (fun c341 => ?_) (fun c341 => ?_)
          · have hq := ifne hq c341
            refine lv_iload hx hb dL_refuses_641 (lv_at hl 10 rfl) ?_
            exact b_643 a1 a2 a3 a4 a5 a6 a7 a8 a9 a10 a11 a12 a15 a10 14 γ _ _ _ _ _ (lv_sub hl [0, 1, 2, 3, 4, 5, 6, 7, 8, 9, 10, 11, 12, 13] rfl) hH hS (by omega) (by omega) hq
          · have hq := ifpe hq c341
            refine lv_iload_n hx hb dL_refuses_637 rfl (lv_at hl 3 rfl) ?_
            refine lv_goto (tgt := 643) hx hb dL_refuses_638 (by decide) ?_
            exact b_643 a1 a2 a3 a4 a5 a6 a7 a8 a9 a10 a11 a12 a15 a3 14 γ _ _ _ _ _ (lv_sub hl [0, 1, 2, 3, 4, 5, 6, 7, 8, 9, 10, 11, 12, 13] rfl) hH hS (by omega) (by omega) hq
      have b_606 : ∀ (a1 : Int32) (a2 : Int32) (a3 : Int32) (a4 : Int32) (a5 : Int32) (a6 : Int32) (a7 : Int32) (a8 : Int32) (a9 : Int32) (a10 : Int32) (a11 : Int32) (a12 : Int32) (a13 : Int32) (a15 : Int32) (s0 : Int32) (γ : St) (H : Heap) (locs : List Loc) (ls : Array Slot) (cells slots : Nat), lv_has ls 17 [(0, .ref (kA κ 7 0)), (1, .int a1), (2, .int a2), (3, .int a3), (4, .int a4), (5, .int a5), (6, .int a6), (7, .int a7), (8, .int a8), (9, .int a9), (10, .int a10), (11, .int a11), (12, .int a12), (13, .int a13), (15, .int a15)] → HE κ γ H → va_S (AA κ) s.heap H locs → cells + (147 + 102 * k33) ≤ 614 → slots + (3185 + 2210 * k33) ≤ 13272 → x_L_refuses_606 (x_L_refuses_33 k33) a1 a2 a3 a4 a5 a6 a7 a8 a9 a10 a11 a12 a13 a15 s0 γ = res → W p l e (headSpec [Cond.code yL_refuses cL_refuses 17 (some .boolean)] ({ frames := 9, cells := 614, slots := 13272, locals := 191 } : Room)).room s m ([.ref (kA κ 7 0), .int y1, .int y2, .int y3] : List Value).toArray below meth c H locs cells slots (MQ below (QL κ res.2.2 (some (.int res.2.1))) ([.ref (kA κ 7 0), .int y1, .int y2, .int y3] : List Value).toArray s 614 13272 (AA κ)) (F0 m 606 ls [.int s0]) := by
        intro a1 a2 a3 a4 a5 a6 a7 a8 a9 a10 a11 a12 a13 a15 s0 γ H locs ls cells slots hl hH hS hc1 hc2 hq
        refine lv_bipush (v := (-71)) hx hb dL_refuses_606 (by decide) ?_
        refine lv_icmp_ne (tgt := 787) hx hb dL_refuses_608 (by decide) (fun c342 => ?_) (fun c342 => ?_)
        · have hq := ifne hq c342
          exact b_787 a1 a2 a3 a4 a5 a6 a7 a8 a9 a10 a11 γ _ _ _ _ _ (lv_sub hl [0, 1, 2, 3, 4, 5, 6, 7, 8, 9, 10, 11] rfl) hH hS (by omega) (by omega) hq
        · have hq := ifpe hq c342
          refine lv_aload_n hx hb dL_refuses_611 rfl (lv_at hl 0 rfl) ?_
          refine lv_bipush (v := 13) hx hb dL_refuses_612 (by decide) ?_
          refine lv_iload hx hb dL_refuses_614 (lv_at hl 13 rfl) ?_
          refine lv_iconst (v := 0) hx hb dL_refuses_616 (by decide) ?_
          refine lv_iconst (v := 0) hx hb dL_refuses_617 (by decide) ?_
          refine lv_iconst (v := 0) hx hb dL_refuses_618 (by decide) ?_
          refine lv_iconst (v := 0) hx hb dL_refuses_619 (by decide) ?_
          refine e_callW (rest := []) hC hl hH hS (c_L_call l hfl κ γ 13 a13 0 0 0 0) tw_430 tw_431 tw_37 tw_432 hd_L_call ⟨Nat.le_of_ble_eq_true rfl, Nat.le_of_ble_eq_true rfl⟩ rfl rfl rfl rfl (Nat.le_of_ble_eq_true rfl) dL_refuses_620 ⟨by show _ ≤ 614; omega, by show _ ≤ 13272; omega⟩ rfl (fun H locs hH hS => ?_)
          exact b_623 a1 a2 a3 a4 a5 a6 a7 a8 a9 a10 a11 a12 a15 ((x_L_call 13 a13 0 0 0 0 γ).1) (x_L_call 13 a13 0 0 0 0 γ).2 _ _ _ _ _ (lv_sub hl [0, 1, 2, 3, 4, 5, 6, 7, 8, 9, 10, 11, 12, 14] rfl) hH hS (by omega) (by omega) hq
      have b_599 : ∀ (a1 : Int32) (a2 : Int32) (a3 : Int32) (a4 : Int32) (a5 : Int32) (a6 : Int32) (a7 : Int32) (a8 : Int32) (a9 : Int32) (a10 : Int32) (a11 : Int32) (a12 : Int32) (a13 : Int32) (a15 : Int32) (s0 : Int32) (s1 : Int32) (s2 : Int32) (γ : St) (H : Heap) (locs : List Loc) (ls : Array Slot) (cells slots : Nat), lv_has ls 17 [(0, .ref (kA κ 7 0)), (1, .int a1), (2, .int a2), (3, .int a3), (4, .int a4), (5, .int a5), (6, .int a6), (7, .int a7), (8, .int a8), (9, .int a9), (10, .int a10), (11, .int a11), (12, .int a12), (13, .int a13), (15, .int a15)] → HE κ γ H → va_S (AA κ) s.heap H locs → cells + (150 + 102 * k33) ≤ 614 → slots + (3250 + 2210 * k33) ≤ 13272 → x_L_refuses_599 (x_L_refuses_33 k33) a1 a2 a3 a4 a5 a6 a7 a8 a9 a10 a11 a12 a13 a15 s0 s1 s2 γ = res → W p l e (headSpec [Cond.code yL_refuses cL_refuses 17 (some .boolean)] ({ frames := 9, cells := 614, slots := 13272, locals := 191 } : Room)).room s m ([.ref (kA κ 7 0), .int y1, .int y2, .int y3] : List Value).toArray below meth c H locs cells slots (MQ below (QL κ res.2.2 (some (.int res.2.1))) ([.ref (kA κ 7 0), .int y1, .int y2, .int y3] : List Value).toArray s 614 13272 (AA κ)) (F0 m 599 ls [.int s0, .int s1, .int s2, .ref (kA κ 7 0)]) := by
        intro a1 a2 a3 a4 a5 a6 a7 a8 a9 a10 a11 a12 a13 a15 s0 s1 s2 γ H locs ls cells slots hl hH hS hc1 hc2 hq
        refine lv_bipush (v := 9) hx hb dL_refuses_599 (by decide) ?_
        refine lv_iconst (v := 0) hx hb dL_refuses_601 (by decide) ?_
        refine lv_iconst (v := 0) hx hb dL_refuses_602 (by decide) ?_
        refine e_callW (rest := []) hC hl hH hS (c_L_call l hfl κ γ s2 s1 s0 9 0 0) tw_430 tw_431 tw_37 tw_432 hd_L_call ⟨Nat.le_of_ble_eq_true rfl, Nat.le_of_ble_eq_true rfl⟩ rfl rfl rfl rfl (Nat.le_of_ble_eq_true rfl) dL_refuses_603 ⟨by show _ ≤ 614; omega, by show _ ≤ 13272; omega⟩ rfl (fun H locs hH hS => ?_)
        exact b_606 a1 a2 a3 a4 a5 a6 a7 a8 a9 a10 a11 a12 a13 a15 ((x_L_call s2 s1 s0 9 0 0 γ).1) (x_L_call s2 s1 s0 9 0 0 γ).2 _ _ _ _ _ (lv_sub hl [0, 1, 2, 3, 4, 5, 6, 7, 8, 9, 10, 11, 12, 13, 14] rfl) hH hS (by omega) (by omega) hq
      have b_577 : ∀ (a1 : Int32) (a2 : Int32) (a3 : Int32) (a4 : Int32) (a5 : Int32) (a6 : Int32) (a7 : Int32) (a8 : Int32) (a9 : Int32) (a10 : Int32) (a11 : Int32) (a12 : Int32) (a13 : Int32) (a15 : Int32) (s0 : Int32) (γ : St) (H : Heap) (locs : List Loc) (ls : Array Slot) (cells slots : Nat), lv_has ls 17 [(0, .ref (kA κ 7 0)), (1, .int a1), (2, .int a2), (3, .int a3), (4, .int a4), (5, .int a5), (6, .int a6), (7, .int a7), (8, .int a8), (9, .int a9), (10, .int a10), (11, .int a11), (12, .int a12), (13, .int a13), (15, .int a15)] → HE κ γ H → va_S (AA κ) s.heap H locs → cells + (150 + 102 * k33) ≤ 614 → slots + (3250 + 2210 * k33) ≤ 13272 → x_L_refuses_577 (x_L_refuses_33 k33) a1 a2 a3 a4 a5 a6 a7 a8 a9 a10 a11 a12 a13 a15 s0 γ = res → W p l e (headSpec [Cond.code yL_refuses cL_refuses 17 (some .boolean)] ({ frames := 9, cells := 614, slots := 13272, locals := 191 } : Room)).room s m ([.ref (kA κ 7 0), .int y1, .int y2, .int y3] : List Value).toArray below meth c H locs cells slots (MQ below (QL κ res.2.2 (some (.int res.2.1))) ([.ref (kA κ 7 0), .int y1, .int y2, .int y3] : List Value).toArray s 614 13272 (AA κ)) (F0 m 577 ls [.int s0]) := by
        intro a1 a2 a3 a4 a5 a6 a7 a8 a9 a10 a11 a12 a13 a15 s0 γ H locs ls cells slots hl hH hS hc1 hc2 hq
        refine lv_bipush (v := (-71)) hx hb dL_refuses_577 (by decide) ?_
        refine lv_icmp_ne (tgt := 787) hx hb dL_refuses_579 (by decide) (fun c343 => ?_) (fun c343 => ?_)
        · have hq := ifne hq c343
          exact b_787 a1 a2 a3 a4 a5 a6 a7 a8 a9 a10 a11 γ _ _ _ _ _ (lv_sub hl [0, 1, 2, 3, 4, 5, 6, 7, 8, 9, 10, 11] rfl) hH hS (by omega) (by omega) hq
        · have hq := ifpe hq c343
          refine lv_aload_n hx hb dL_refuses_582 rfl (lv_at hl 0 rfl) ?_
          refine lv_bipush (v := 12) hx hb dL_refuses_583 (by decide) ?_
          refine lv_iconst (v := 0) hx hb dL_refuses_585 (by decide) ?_
          refine lv_iload hx hb dL_refuses_586 (lv_at hl 9 rfl) ?_
          refine lv_iconst (v := 1) hx hb dL_refuses_588 (by decide) ?_
          refine lv_icmp_ne (tgt := 597) hx hb dL_refuses_589 (by decide) (fun c344 => ?_) (fun c344 => ?_)
          · have hq := ifne hq c344
            refine lv_iload hx hb dL_refuses_597 (lv_at hl 10 rfl) ?_
            exact b_599 a1 a2 a3 a4 a5 a6 a7 a8 a9 a10 a11 a12 a13 a15 a10 0 12 γ _ _ _ _ _ (lv_sub hl [0, 1, 2, 3, 4, 5, 6, 7, 8, 9, 10, 11, 12, 13, 14] rfl) hH hS (by omega) (by omega) hq
          · have hq := ifpe hq c344
            refine lv_bipush (v := 8) hx hb dL_refuses_592 (by decide) ?_
            refine lv_goto (tgt := 599) hx hb dL_refuses_594 (by decide) ?_
            exact b_599 a1 a2 a3 a4 a5 a6 a7 a8 a9 a10 a11 a12 a13 a15 8 0 12 γ _ _ _ _ _ (lv_sub hl [0, 1, 2, 3, 4, 5, 6, 7, 8, 9, 10, 11, 12, 13, 14] rfl) hH hS (by omega) (by omega) hq
      have b_569 : ∀ (a1 : Int32) (a2 : Int32) (a3 : Int32) (a4 : Int32) (a5 : Int32) (a6 : Int32) (a7 : Int32) (a8 : Int32) (a9 : Int32) (a10 : Int32) (a11 : Int32) (a12 : Int32) (a13 : Int32) (a15 : Int32) (s0 : Int32) (s1 : Int32) (γ : St) (H : Heap) (locs : List Loc) (ls : Array Slot) (cells slots : Nat), lv_has ls 17 [(0, .ref (kA κ 7 0)), (1, .int a1), (2, .int a2), (3, .int a3), (4, .int a4), (5, .int a5), (6, .int a6), (7, .int a7), (8, .int a8), (9, .int a9), (10, .int a10), (11, .int a11), (12, .int a12), (13, .int a13), (15, .int a15)] → HE κ γ H → va_S (AA κ) s.heap H locs → cells + (153 + 102 * k33) ≤ 614 → slots + (3315 + 2210 * k33) ≤ 13272 → x_L_refuses_569 (x_L_refuses_33 k33) a1 a2 a3 a4 a5 a6 a7 a8 a9 a10 a11 a12 a13 a15 s0 s1 γ = res → W p l e (headSpec [Cond.code yL_refuses cL_refuses 17 (some .boolean)] ({ frames := 9, cells := 614, slots := 13272, locals := 191 } : Room)).room s m ([.ref (kA κ 7 0), .int y1, .int y2, .int y3] : List Value).toArray below meth c H locs cells slots (MQ below (QL κ res.2.2 (some (.int res.2.1))) ([.ref (kA κ 7 0), .int y1, .int y2, .int y3] : List Value).toArray s 614 13272 (AA κ)) (F0 m 569 ls [.int s0, .int s1, .ref (kA κ 7 0)]) := by
        intro a1 a2 a3 a4 a5 a6 a7 a8 a9 a10 a11 a12 a13 a15 s0 s1 γ H locs ls cells slots hl hH hS hc1 hc2 hq
        refine lv_iconst (v := 0) hx hb dL_refuses_569 (by decide) ?_
        refine lv_bipush (v := 9) hx hb dL_refuses_570 (by decide) ?_
        refine lv_iconst (v := 0) hx hb dL_refuses_572 (by decide) ?_
        refine lv_iconst (v := 0) hx hb dL_refuses_573 (by decide) ?_
        refine e_callW (rest := []) hC hl hH hS (c_L_call l hfl κ γ s1 s0 0 9 0 0) tw_430 tw_431 tw_37 tw_432 hd_L_call ⟨Nat.le_of_ble_eq_true rfl, Nat.le_of_ble_eq_true rfl⟩ rfl rfl rfl rfl (Nat.le_of_ble_eq_true rfl) dL_refuses_574 ⟨by show _ ≤ 614; omega, by show _ ≤ 13272; omega⟩ rfl (fun H locs hH hS => ?_)
        exact b_577 a1 a2 a3 a4 a5 a6 a7 a8 a9 a10 a11 a12 a13 a15 ((x_L_call s1 s0 0 9 0 0 γ).1) (x_L_call s1 s0 0 9 0 0 γ).2 _ _ _ _ _ (lv_sub hl [0, 1, 2, 3, 4, 5, 6, 7, 8, 9, 10, 11, 12, 13, 14] rfl) hH hS (by omega) (by omega) hq
      have b_549 : ∀ (a1 : Int32) (a2 : Int32) (a3 : Int32) (a4 : Int32) (a5 : Int32) (a6 : Int32) (a7 : Int32) (a8 : Int32) (a9 : Int32) (a10 : Int32) (a11 : Int32) (a12 : Int32) (a13 : Int32) (a15 : Int32) (s0 : Int32) (γ : St) (H : Heap) (locs : List Loc) (ls : Array Slot) (cells slots : Nat), lv_has ls 17 [(0, .ref (kA κ 7 0)), (1, .int a1), (2, .int a2), (3, .int a3), (4, .int a4), (5, .int a5), (6, .int a6), (7, .int a7), (8, .int a8), (9, .int a9), (10, .int a10), (11, .int a11), (12, .int a12), (13, .int a13), (15, .int a15)] → HE κ γ H → va_S (AA κ) s.heap H locs → cells + (153 + 102 * k33) ≤ 614 → slots + (3315 + 2210 * k33) ≤ 13272 → x_L_refuses_549 (x_L_refuses_33 k33) a1 a2 a3 a4 a5 a6 a7 a8 a9 a10 a11 a12 a13 a15 s0 γ = res → W p l e (headSpec [Cond.code yL_refuses cL_refuses 17 (some .boolean)] ({ frames := 9, cells := 614, slots := 13272, locals := 191 } : Room)).room s m ([.ref (kA κ 7 0), .int y1, .int y2, .int y3] : List Value).toArray below meth c H locs cells slots (MQ below (QL κ res.2.2 (some (.int res.2.1))) ([.ref (kA κ 7 0), .int y1, .int y2, .int y3] : List Value).toArray s 614 13272 (AA κ)) (F0 m 549 ls [.int s0]) := by
        intro a1 a2 a3 a4 a5 a6 a7 a8 a9 a10 a11 a12 a13 a15 s0 γ H locs ls cells slots hl hH hS hc1 hc2 hq
        refine lv_bipush (v := (-71)) hx hb dL_refuses_549 (by decide) ?_
        refine lv_icmp_ne (tgt := 787) hx hb dL_refuses_551 (by decide) (fun c345 => ?_) (fun c345 => ?_)
        · have hq := ifne hq c345
          exact b_787 a1 a2 a3 a4 a5 a6 a7 a8 a9 a10 a11 γ _ _ _ _ _ (lv_sub hl [0, 1, 2, 3, 4, 5, 6, 7, 8, 9, 10, 11] rfl) hH hS (by omega) (by omega) hq
        · have hq := ifpe hq c345
          refine lv_aload_n hx hb dL_refuses_554 rfl (lv_at hl 0 rfl) ?_
          refine lv_bipush (v := 12) hx hb dL_refuses_555 (by decide) ?_
          refine lv_iload hx hb dL_refuses_557 (lv_at hl 9 rfl) ?_
          refine lv_iconst (v := 1) hx hb dL_refuses_559 (by decide) ?_
          refine lv_icmp_ne (tgt := 567) hx hb dL_refuses_560 (by decide) (fun c346 => ?_) (fun c346 => ?_)
          · have hq := ifne hq c346
            refine lv_iload hx hb dL_refuses_567 (lv_at hl 10 rfl) ?_
            exact b_569 a1 a2 a3 a4 a5 a6 a7 a8 a9 a10 a11 a12 a13 a15 a10 12 γ _ _ _ _ _ (lv_sub hl [0, 1, 2, 3, 4, 5, 6, 7, 8, 9, 10, 11, 12, 13, 14] rfl) hH hS (by omega) (by omega) hq
          · have hq := ifpe hq c346
            refine lv_iconst (v := 4) hx hb dL_refuses_563 (by decide) ?_
            refine lv_goto (tgt := 569) hx hb dL_refuses_564 (by decide) ?_
            exact b_569 a1 a2 a3 a4 a5 a6 a7 a8 a9 a10 a11 a12 a13 a15 4 12 γ _ _ _ _ _ (lv_sub hl [0, 1, 2, 3, 4, 5, 6, 7, 8, 9, 10, 11, 12, 13, 14] rfl) hH hS (by omega) (by omega) hq
      have b_530 : ∀ (a1 : Int32) (a2 : Int32) (a3 : Int32) (a4 : Int32) (a5 : Int32) (a6 : Int32) (a7 : Int32) (a8 : Int32) (a9 : Int32) (a10 : Int32) (a11 : Int32) (a12 : Int32) (a13 : Int32) (a15 : Int32) (s0 : Int32) (γ : St) (H : Heap) (locs : List Loc) (ls : Array Slot) (cells slots : Nat), lv_has ls 17 [(0, .ref (kA κ 7 0)), (1, .int a1), (2, .int a2), (3, .int a3), (4, .int a4), (5, .int a5), (6, .int a6), (7, .int a7), (8, .int a8), (9, .int a9), (10, .int a10), (11, .int a11), (12, .int a12), (13, .int a13), (15, .int a15)] → HE κ γ H → va_S (AA κ) s.heap H locs → cells + (156 + 102 * k33) ≤ 614 → slots + (3380 + 2210 * k33) ≤ 13272 → x_L_refuses_530 (x_L_refuses_33 k33) a1 a2 a3 a4 a5 a6 a7 a8 a9 a10 a11 a12 a13 a15 s0 γ = res → W p l e (headSpec [Cond.code yL_refuses cL_refuses 17 (some .boolean)] ({ frames := 9, cells := 614, slots := 13272, locals := 191 } : Room)).room s m ([.ref (kA κ 7 0), .int y1, .int y2, .int y3] : List Value).toArray below meth c H locs cells slots (MQ below (QL κ res.2.2 (some (.int res.2.1))) ([.ref (kA κ 7 0), .int y1, .int y2, .int y3] : List Value).toArray s 614 13272 (AA κ)) (F0 m 530 ls [.int s0]) := by
        intro a1 a2 a3 a4 a5 a6 a7 a8 a9 a10 a11 a12 a13 a15 s0 γ H locs ls cells slots hl hH hS hc1 hc2 hq
        refine lv_istore (lv' := [(16, .int s0), (0, .ref (kA κ 7 0)), (1, .int a1), (2, .int a2), (3, .int a3), (4, .int a4), (5, .int a5), (6, .int a6), (7, .int a7), (8, .int a8), (9, .int a9), (10, .int a10), (11, .int a11), (12, .int a12), (13, .int a13), (15, .int a15)]) hx hb dL_refuses_530 hl (by decide) rfl (fun ls hl => ?_)
        refine lv_iload hx hb dL_refuses_532 (lv_at hl 0 rfl) ?_
        refine lv_if_eq (tgt := 787) hx hb dL_refuses_534 (by decide) (fun c347 => ?_) (fun c347 => ?_)
        · have hq := ifpe hq c347
          exact b_787 a1 a2 a3 a4 a5 a6 a7 a8 a9 a10 a11 γ _ _ _ _ _ (lv_sub hl [1, 2, 3, 4, 5, 6, 7, 8, 9, 10, 11, 12] rfl) hH hS (by omega) (by omega) hq
        · have hq := ifne hq c347
          refine lv_aload_n hx hb dL_refuses_537 rfl (lv_at hl 1 rfl) ?_
          refine lv_bipush (v := 11) hx hb dL_refuses_538 (by decide) ?_
          refine lv_iload hx hb dL_refuses_540 (lv_at hl 13 rfl) ?_
          refine lv_iconst (v := 0) hx hb dL_refuses_542 (by decide) ?_
          refine lv_iconst (v := 0) hx hb dL_refuses_543 (by decide) ?_
          refine lv_iconst (v := 0) hx hb dL_refuses_544 (by decide) ?_
          refine lv_iconst (v := 0) hx hb dL_refuses_545 (by decide) ?_
          refine e_callW (rest := []) hC hl hH hS (c_L_call l hfl κ γ 11 a12 0 0 0 0) tw_430 tw_431 tw_37 tw_432 hd_L_call ⟨Nat.le_of_ble_eq_true rfl, Nat.le_of_ble_eq_true rfl⟩ rfl rfl rfl rfl (Nat.le_of_ble_eq_true rfl) dL_refuses_546 ⟨by show _ ≤ 614; omega, by show _ ≤ 13272; omega⟩ rfl (fun H locs hH hS => ?_)
          exact b_549 a1 a2 a3 a4 a5 a6 a7 a8 a9 a10 a11 a12 a13 a15 ((x_L_call 11 a12 0 0 0 0 γ).1) (x_L_call 11 a12 0 0 0 0 γ).2 _ _ _ _ _ (lv_sub hl [1, 2, 3, 4, 5, 6, 7, 8, 9, 10, 11, 12, 13, 14, 15] rfl) hH hS (by omega) (by omega) hq
      have b_529 : ∀ (a1 : Int32) (a2 : Int32) (a3 : Int32) (a4 : Int32) (a5 : Int32) (a6 : Int32) (a7 : Int32) (a8 : Int32) (a9 : Int32) (a10 : Int32) (a11 : Int32) (a12 : Int32) (a13 : Int32) (a15 : Int32) (γ : St) (H : Heap) (locs : List Loc) (ls : Array Slot) (cells slots : Nat), lv_has ls 17 [(0, .ref (kA κ 7 0)), (1, .int a1), (2, .int a2), (3, .int a3), (4, .int a4), (5, .int a5), (6, .int a6), (7, .int a7), (8, .int a8), (9, .int a9), (10, .int a10), (11, .int a11), (12, .int a12), (13, .int a13), (15, .int a15)] → HE κ γ H → va_S (AA κ) s.heap H locs → cells + (156 + 102 * k33) ≤ 614 → slots + (3380 + 2210 * k33) ≤ 13272 → x_L_refuses_529 (x_L_refuses_33 k33) a1 a2 a3 a4 a5 a6 a7 a8 a9 a10 a11 a12 a13 a15 γ = res → W p l e (headSpec [Cond.code yL_refuses cL_refuses 17 (some .boolean)] ({ frames := 9, cells := 614, slots := 13272, locals := 191 } : Room)).room s m ([.ref (kA κ 7 0), .int y1, .int y2, .int y3] : List Value).toArray below meth c H locs cells slots (MQ below (QL κ res.2.2 (some (.int res.2.1))) ([.ref (kA κ 7 0), .int y1, .int y2, .int y3] : List Value).toArray s 614 13272 (AA κ)) (F0 m 529 ls []) := by
        intro a1 a2 a3 a4 a5 a6 a7 a8 a9 a10 a11 a12 a13 a15 γ H locs ls cells slots hl hH hS hc1 hc2 hq
        refine lv_iconst (v := 0) hx hb dL_refuses_529 (by decide) ?_
        exact b_530 a1 a2 a3 a4 a5 a6 a7 a8 a9 a10 a11 a12 a13 a15 0 γ _ _ _ _ _ (lv_sub hl [0, 1, 2, 3, 4, 5, 6, 7, 8, 9, 10, 11, 12, 13, 14] rfl) hH hS (by omega) (by omega) hq
      have b_520 : ∀ (a1 : Int32) (a2 : Int32) (a3 : Int32) (a4 : Int32) (a5 : Int32) (a6 : Int32) (a7 : Int32) (a8 : Int32) (a9 : Int32) (a10 : Int32) (a11 : Int32) (a12 : Int32) (a13 : Int32) (a15 : Int32) (s0 : Int32) (γ : St) (H : Heap) (locs : List Loc) (ls : Array Slot) (cells slots : Nat), lv_has ls 17 [(0, .ref (kA κ 7 0)), (1, .int a1), (2, .int a2), (3, .int a3), (4, .int a4), (5, .int a5), (6, .int a6), (7, .int a7), (8, .int a8), (9, .int a9), (10, .int a10), (11, .int a11), (12, .int a12), (13, .int a13), (15, .int a15)] → HE κ γ H → va_S (AA κ) s.heap H locs → cells + (156 + 102 * k33) ≤ 614 → slots + (3380 + 2210 * k33) ≤ 13272 → x_L_refuses_520 (x_L_refuses_33 k33) a1 a2 a3 a4 a5 a6 a7 a8 a9 a10 a11 a12 a13 a15 s0 γ = res → W p l e (headSpec [Cond.code yL_refuses cL_refuses 17 (some .boolean)] ({ frames := 9, cells := 614, slots := 13272, locals := 191 } : Room)).room s m ([.ref (kA κ 7 0), .int y1, .int y2, .int y3] : List Value).toArray below meth c H locs cells slots (MQ below (QL κ res.2.2 (some (.int res.2.1))) ([.ref (kA κ 7 0), .int y1, .int y2, .int y3] : List Value).toArray s 614 13272 (AA κ)) (F0 m 520 ls [.int s0]) := by
        intro a1 a2 a3 a4 a5 a6 a7 a8 a9 a10 a11 a12 a13 a15 s0 γ H locs ls cells slots hl hH hS hc1 hc2 hq
        refine lv_bipush (v := (-71)) hx hb dL_refuses_520 (by decide) ?_
        refine lv_icmp_ne (tgt := 529) hx hb dL_refuses_522 (by decide) (fun c348 => ?_) (fun c348 => ?_)
        · have hq := ifne hq c348
          exact b_529 a1 a2 a3 a4 a5 a6 a7 a8 a9 a10 a11 a12 a13 a15 γ _ _ _ _ _ (lv_sub hl [0, 1, 2, 3, 4, 5, 6, 7, 8, 9, 10, 11, 12, 13, 14] rfl) hH hS (by omega) (by omega) hq
        · have hq := ifpe hq c348
          refine lv_iconst (v := 1) hx hb dL_refuses_525 (by decide) ?_
          refine lv_goto (tgt := 530) hx hb dL_refuses_526 (by decide) ?_
          exact b_530 a1 a2 a3 a4 a5 a6 a7 a8 a9 a10 a11 a12 a13 a15 1 γ _ _ _ _ _ (lv_sub hl [0, 1, 2, 3, 4, 5, 6, 7, 8, 9, 10, 11, 12, 13, 14] rfl) hH hS (by omega) (by omega) hq
      have b_503 : ∀ (a1 : Int32) (a2 : Int32) (a3 : Int32) (a4 : Int32) (a5 : Int32) (a6 : Int32) (a7 : Int32) (a8 : Int32) (a9 : Int32) (a10 : Int32) (a11 : Int32) (a12 : Int32) (a13 : Int32) (a15 : Int32) (s0 : Int32) (γ : St) (H : Heap) (locs : List Loc) (ls : Array Slot) (cells slots : Nat), lv_has ls 17 [(0, .ref (kA κ 7 0)), (1, .int a1), (2, .int a2), (3, .int a3), (4, .int a4), (5, .int a5), (6, .int a6), (7, .int a7), (8, .int a8), (9, .int a9), (10, .int a10), (11, .int a11), (12, .int a12), (13, .int a13), (15, .int a15)] → HE κ γ H → va_S (AA κ) s.heap H locs → cells + (159 + 102 * k33) ≤ 614 → slots + (3445 + 2210 * k33) ≤ 13272 → x_L_refuses_503 (x_L_refuses_33 k33) a1 a2 a3 a4 a5 a6 a7 a8 a9 a10 a11 a12 a13 a15 s0 γ = res → W p l e (headSpec [Cond.code yL_refuses cL_refuses 17 (some .boolean)] ({ frames := 9, cells := 614, slots := 13272, locals := 191 } : Room)).room s m ([.ref (kA κ 7 0), .int y1, .int y2, .int y3] : List Value).toArray below meth c H locs cells slots (MQ below (QL κ res.2.2 (some (.int res.2.1))) ([.ref (kA κ 7 0), .int y1, .int y2, .int y3] : List Value).toArray s 614 13272 (AA κ)) (F0 m 503 ls [.int s0]) := by
        intro a1 a2 a3 a4 a5 a6 a7 a8 a9 a10 a11 a12 a13 a15 s0 γ H locs ls cells slots hl hH hS hc1 hc2 hq
        refine lv_bipush (v := (-72)) hx hb dL_refuses_503 (by decide) ?_
        refine lv_icmp_ne (tgt := 529) hx hb dL_refuses_505 (by decide) (fun c349 => ?_) (fun c349 => ?_)
        · have hq := ifne hq c349
          exact b_529 a1 a2 a3 a4 a5 a6 a7 a8 a9 a10 a11 a12 a13 a15 γ _ _ _ _ _ (lv_sub hl [0, 1, 2, 3, 4, 5, 6, 7, 8, 9, 10, 11, 12, 13, 14] rfl) hH hS (by omega) (by omega) hq
        · have hq := ifpe hq c349
          refine lv_aload_n hx hb dL_refuses_508 rfl (lv_at hl 0 rfl) ?_
          refine lv_bipush (v := 10) hx hb dL_refuses_509 (by decide) ?_
          refine lv_iload hx hb dL_refuses_511 (lv_at hl 12 rfl) ?_
          refine lv_iconst (v := 0) hx hb dL_refuses_513 (by decide) ?_
          refine lv_iconst (v := 0) hx hb dL_refuses_514 (by decide) ?_
          refine lv_iconst (v := 0) hx hb dL_refuses_515 (by decide) ?_
          refine lv_iconst (v := 0) hx hb dL_refuses_516 (by decide) ?_
          refine e_callW (rest := []) hC hl hH hS (c_L_call l hfl κ γ 10 a12 0 0 0 0) tw_430 tw_431 tw_37 tw_432 hd_L_call ⟨Nat.le_of_ble_eq_true rfl, Nat.le_of_ble_eq_true rfl⟩ rfl rfl rfl rfl (Nat.le_of_ble_eq_true rfl) dL_refuses_517 ⟨by show _ ≤ 614; omega, by show _ ≤ 13272; omega⟩ rfl (fun H locs hH hS => ?_)
          exact b_520 a1 a2 a3 a4 a5 a6 a7 a8 a9 a10 a11 a12 a13 a15 ((x_L_call 10 a12 0 0 0 0 γ).1) (x_L_call 10 a12 0 0 0 0 γ).2 _ _ _ _ _ (lv_sub hl [0, 1, 2, 3, 4, 5, 6, 7, 8, 9, 10, 11, 12, 13, 14] rfl) hH hS (by omega) (by omega) hq
      have b_496 : ∀ (a1 : Int32) (a2 : Int32) (a3 : Int32) (a4 : Int32) (a5 : Int32) (a6 : Int32) (a7 : Int32) (a8 : Int32) (a9 : Int32) (a10 : Int32) (a11 : Int32) (a12 : Int32) (a13 : Int32) (a15 : Int32) (s0 : Int32) (s1 : Int32) (γ : St) (H : Heap) (locs : List Loc) (ls : Array Slot) (cells slots : Nat), lv_has ls 17 [(0, .ref (kA κ 7 0)), (1, .int a1), (2, .int a2), (3, .int a3), (4, .int a4), (5, .int a5), (6, .int a6), (7, .int a7), (8, .int a8), (9, .int a9), (10, .int a10), (11, .int a11), (12, .int a12), (13, .int a13), (15, .int a15)] → HE κ γ H → va_S (AA κ) s.heap H locs → cells + (162 + 102 * k33) ≤ 614 → slots + (3510 + 2210 * k33) ≤ 13272 → x_L_refuses_496 (x_L_refuses_33 k33) a1 a2 a3 a4 a5 a6 a7 a8 a9 a10 a11 a12 a13 a15 s0 s1 γ = res → W p l e (headSpec [Cond.code yL_refuses cL_refuses 17 (some .boolean)] ({ frames := 9, cells := 614, slots := 13272, locals := 191 } : Room)).room s m ([.ref (kA κ 7 0), .int y1, .int y2, .int y3] : List Value).toArray below meth c H locs cells slots (MQ below (QL κ res.2.2 (some (.int res.2.1))) ([.ref (kA κ 7 0), .int y1, .int y2, .int y3] : List Value).toArray s 614 13272 (AA κ)) (F0 m 496 ls [.int s0, .int s1, .ref (kA κ 7 0)]) := by
        intro a1 a2 a3 a4 a5 a6 a7 a8 a9 a10 a11 a12 a13 a15 s0 s1 γ H locs ls cells slots hl hH hS hc1 hc2 hq
        refine lv_iconst (v := 0) hx hb dL_refuses_496 (by decide) ?_
        refine lv_iconst (v := 0) hx hb dL_refuses_497 (by decide) ?_
        refine lv_iconst (v := 0) hx hb dL_refuses_498 (by decide) ?_
        refine lv_iconst (v := 0) hx hb dL_refuses_499 (by decide) ?_
        refine e_callW (rest := []) hC hl hH hS (c_L_call l hfl κ γ s1 s0 0 0 0 0) tw_430 tw_431 tw_37 tw_432 hd_L_call ⟨Nat.le_of_ble_eq_true rfl, Nat.le_of_ble_eq_true rfl⟩ rfl rfl rfl rfl (Nat.le_of_ble_eq_true rfl) dL_refuses_500 ⟨by show _ ≤ 614; omega, by show _ ≤ 13272; omega⟩ rfl (fun H locs hH hS => ?_)
        exact b_503 a1 a2 a3 a4 a5 a6 a7 a8 a9 a10 a11 a12 a13 a15 ((x_L_call s1 s0 0 0 0 0 γ).1) (x_L_call s1 s0 0 0 0 0 γ).2 _ _ _ _ _ (lv_sub hl [0, 1, 2, 3, 4, 5, 6, 7, 8, 9, 10, 11, 12, 13, 14] rfl) hH hS (by omega) (by omega) hq
      have b_455 : ∀ (a1 : Int32) (a2 : Int32) (a3 : Int32) (a4 : Int32) (a5 : Int32) (a6 : Int32) (a7 : Int32) (a8 : Int32) (a9 : Int32) (a10 : Int32) (a11 : Int32) (a12 : Int32) (a13 : Int32) (a15 : Int32) (s0 : Int32) (γ : St) (H : Heap) (locs : List Loc) (ls : Array Slot) (cells slots : Nat), lv_has ls 17 [(0, .ref (kA κ 7 0)), (1, .int a1), (2, .int a2), (3, .int a3), (4, .int a4), (5, .int a5), (6, .int a6), (7, .int a7), (8, .int a8), (9, .int a9), (10, .int a10), (11, .int a11), (12, .int a12), (13, .int a13), (15, .int a15)] → HE κ γ H → va_S (AA κ) s.heap H locs → cells + (162 + 102 * k33) ≤ 614 → slots + (3510 + 2210 * k33) ≤ 13272 → x_L_refuses_455 (x_L_refuses_33 k33) a1 a2 a3 a4 a5 a6 a7 a8 a9 a10 a11 a12 a13 a15 s0 γ = res → W p l e (headSpec [Cond.code yL_refuses cL_refuses 17 (some .boolean)] ({ frames := 9, cells := 614, slots := 13272, locals := 191 } : Room)).room s m ([.ref (kA κ 7 0), .int y1, .int y2, .int y3] : List Value).toArray below meth c H locs cells slots (MQ below (QL κ res.2.2 (some (.int res.2.1))) ([.ref (kA κ 7 0), .int y1, .int y2, .int y3] : List Value).toArray s 614 13272 (AA κ)) (F0 m 455 ls [.int s0]) := by
        intro a1 a2 a3 a4 a5 a6 a7 a8 a9 a10 a11 a12 a13 a15 s0 γ H locs ls cells slots hl hH hS hc1 hc2 hq
        refine lv_bipush (v := (-72)) hx hb dL_refuses_455 (by decide) ?_
        refine lv_icmp_ne (tgt := 529) hx hb dL_refuses_457 (by decide) (fun c350 => ?_) (fun c350 => ?_)
        · have hq := ifne hq c350
          exact b_529 a1 a2 a3 a4 a5 a6 a7 a8 a9 a10 a11 a12 a13 a15 γ _ _ _ _ _ (lv_sub hl [0, 1, 2, 3, 4, 5, 6, 7, 8, 9, 10, 11, 12, 13, 14] rfl) hH hS (by omega) (by omega) hq
        · have hq := ifpe hq c350
          refine lv_aload_n hx hb dL_refuses_460 rfl (lv_at hl 0 rfl) ?_
          refine lv_bipush (v := 9) hx hb dL_refuses_461 (by decide) ?_
          refine lv_iload hx hb dL_refuses_463 (lv_at hl 9 rfl) ?_
          refine lv_if_ne (tgt := 472) hx hb dL_refuses_465 (by decide) (fun c351 => ?_) (fun c351 => ?_)
          · have hq := ifne hq c351
            refine lv_iload hx hb dL_refuses_472 (lv_at hl 9 rfl) ?_
            refine lv_iconst (v := 1) hx hb dL_refuses_474 (by decide) ?_
            refine lv_icmp_ne (tgt := 484) hx hb dL_refuses_475 (by decide) (fun c352 => ?_) (fun c352 => ?_)
            · have hq := ifne hq c352
              refine lv_iload hx hb dL_refuses_484 (lv_at hl 9 rfl) ?_
              refine lv_iconst (v := 2) hx hb dL_refuses_486 (by decide) ?_
              refine lv_icmp_ne (tgt := 495) hx hb dL_refuses_487 (by decide) (fun c353 => ?_) (fun c353 => ?_)
              · have hq := ifne hq c353
                refine lv_iconst (v := (-1)) hx hb dL_refuses_495 (by decide) ?_
                exact b_496 a1 a2 a3 a4 a5 a6 a7 a8 a9 a10 a11 a12 a13 a15 ((-1)) 9 γ _ _ _ _ _ (lv_sub hl [0, 1, 2, 3, 4, 5, 6, 7, 8, 9, 10, 11, 12, 13, 14] rfl) hH hS (by omega) (by omega) hq
              · have hq := ifpe hq c353
                refine lv_iload hx hb dL_refuses_490 (lv_at hl 4 rfl) ?_
                refine lv_goto (tgt := 496) hx hb dL_refuses_492 (by decide) ?_
                exact b_496 a1 a2 a3 a4 a5 a6 a7 a8 a9 a10 a11 a12 a13 a15 a4 9 γ _ _ _ _ _ (lv_sub hl [0, 1, 2, 3, 4, 5, 6, 7, 8, 9, 10, 11, 12, 13, 14] rfl) hH hS (by omega) (by omega) hq
            · have hq := ifpe hq c352
              refine lv_iconst (v := 1) hx hb dL_refuses_478 (by decide) ?_
              refine lv_iload_n hx hb dL_refuses_479 rfl (lv_at hl 1 rfl) ?_
              refine lv_ishl hx hb dL_refuses_480 ?_
              refine lv_goto (tgt := 496) hx hb dL_refuses_481 (by decide) ?_
              exact b_496 a1 a2 a3 a4 a5 a6 a7 a8 a9 a10 a11 a12 a13 a15 (1 <<< (a1 &&& 31)) 9 γ _ _ _ _ _ (lv_sub hl [0, 1, 2, 3, 4, 5, 6, 7, 8, 9, 10, 11, 12, 13, 14] rfl) hH hS (by omega) (by omega) hq
          · have hq := ifpe hq c351
            refine lv_iconst (v := 0) hx hb dL_refuses_468 (by decide) ?_
            refine lv_goto (tgt := 496) hx hb dL_refuses_469 (by decide) ?_
            exact b_496 a1 a2 a3 a4 a5 a6 a7 a8 a9 a10 a11 a12 a13 a15 0 9 γ _ _ _ _ _ (lv_sub hl [0, 1, 2, 3, 4, 5, 6, 7, 8, 9, 10, 11, 12, 13, 14] rfl) hH hS (by omega) (by omega) hq
      have b_438 : ∀ (a1 : Int32) (a2 : Int32) (a3 : Int32) (a4 : Int32) (a5 : Int32) (a6 : Int32) (a7 : Int32) (a8 : Int32) (a9 : Int32) (a10 : Int32) (a11 : Int32) (a12 : Int32) (a13 : Int32) (a15 : Int32) (s0 : Int32) (γ : St) (H : Heap) (locs : List Loc) (ls : Array Slot) (cells slots : Nat), lv_has ls 17 [(0, .ref (kA κ 7 0)), (1, .int a1), (2, .int a2), (3, .int a3), (4, .int a4), (5, .int a5), (6, .int a6), (7, .int a7), (8, .int a8), (9, .int a9), (10, .int a10), (11, .int a11), (12, .int a12), (13, .int a13), (15, .int a15)] → HE κ γ H → va_S (AA κ) s.heap H locs → cells + (165 + 102 * k33) ≤ 614 → slots + (3575 + 2210 * k33) ≤ 13272 → x_L_refuses_438 (x_L_refuses_33 k33) a1 a2 a3 a4 a5 a6 a7 a8 a9 a10 a11 a12 a13 a15 s0 γ = res → W p l e (headSpec [Cond.code yL_refuses cL_refuses 17 (some .boolean)] ({ frames := 9, cells := 614, slots := 13272, locals := 191 } : Room)).room s m ([.ref (kA κ 7 0), .int y1, .int y2, .int y3] : List Value).toArray below meth c H locs cells slots (MQ below (QL κ res.2.2 (some (.int res.2.1))) ([.ref (kA κ 7 0), .int y1, .int y2, .int y3] : List Value).toArray s 614 13272 (AA κ)) (F0 m 438 ls [.int s0]) := by
        intro a1 a2 a3 a4 a5 a6 a7 a8 a9 a10 a11 a12 a13 a15 s0 γ H locs ls cells slots hl hH hS hc1 hc2 hq
        refine lv_bipush (v := (-72)) hx hb dL_refuses_438 (by decide) ?_
        refine lv_icmp_ne (tgt := 529) hx hb dL_refuses_440 (by decide) (fun c354 => ?_) (fun c354 => ?_)
        · have hq := ifne hq c354
          exact b_529 a1 a2 a3 a4 a5 a6 a7 a8 a9 a10 a11 a12 a13 a15 γ _ _ _ _ _ (lv_sub hl [0, 1, 2, 3, 4, 5, 6, 7, 8, 9, 10, 11, 12, 13, 14] rfl) hH hS (by omega) (by omega) hq
        · have hq := ifpe hq c354
          refine lv_aload_n hx hb dL_refuses_443 rfl (lv_at hl 0 rfl) ?_
          refine lv_bipush (v := 8) hx hb dL_refuses_444 (by decide) ?_
          refine lv_iload hx hb dL_refuses_446 (lv_at hl 14 rfl) ?_
          refine lv_iconst (v := 0) hx hb dL_refuses_448 (by decide) ?_
          refine lv_iconst (v := 0) hx hb dL_refuses_449 (by decide) ?_
          refine lv_iconst (v := 0) hx hb dL_refuses_450 (by decide) ?_
          refine lv_iconst (v := 0) hx hb dL_refuses_451 (by decide) ?_
          refine e_callW (rest := []) hC hl hH hS (c_L_call l hfl κ γ 8 a15 0 0 0 0) tw_430 tw_431 tw_37 tw_432 hd_L_call ⟨Nat.le_of_ble_eq_true rfl, Nat.le_of_ble_eq_true rfl⟩ rfl rfl rfl rfl (Nat.le_of_ble_eq_true rfl) dL_refuses_452 ⟨by show _ ≤ 614; omega, by show _ ≤ 13272; omega⟩ rfl (fun H locs hH hS => ?_)
          exact b_455 a1 a2 a3 a4 a5 a6 a7 a8 a9 a10 a11 a12 a13 a15 ((x_L_call 8 a15 0 0 0 0 γ).1) (x_L_call 8 a15 0 0 0 0 γ).2 _ _ _ _ _ (lv_sub hl [0, 1, 2, 3, 4, 5, 6, 7, 8, 9, 10, 11, 12, 13, 14] rfl) hH hS (by omega) (by omega) hq
      have b_431 : ∀ (a1 : Int32) (a2 : Int32) (a3 : Int32) (a4 : Int32) (a5 : Int32) (a6 : Int32) (a7 : Int32) (a8 : Int32) (a9 : Int32) (a10 : Int32) (a11 : Int32) (a12 : Int32) (a13 : Int32) (a15 : Int32) (s0 : Int32) (s1 : Int32) (γ : St) (H : Heap) (locs : List Loc) (ls : Array Slot) (cells slots : Nat), lv_has ls 17 [(0, .ref (kA κ 7 0)), (1, .int a1), (2, .int a2), (3, .int a3), (4, .int a4), (5, .int a5), (6, .int a6), (7, .int a7), (8, .int a8), (9, .int a9), (10, .int a10), (11, .int a11), (12, .int a12), (13, .int a13), (15, .int a15)] → HE κ γ H → va_S (AA κ) s.heap H locs → cells + (168 + 102 * k33) ≤ 614 → slots + (3640 + 2210 * k33) ≤ 13272 → x_L_refuses_431 (x_L_refuses_33 k33) a1 a2 a3 a4 a5 a6 a7 a8 a9 a10 a11 a12 a13 a15 s0 s1 γ = res → W p l e (headSpec [Cond.code yL_refuses cL_refuses 17 (some .boolean)] ({ frames := 9, cells := 614, slots := 13272, locals := 191 } : Room)).room s m ([.ref (kA κ 7 0), .int y1, .int y2, .int y3] : List Value).toArray below meth c H locs cells slots (MQ below (QL κ res.2.2 (some (.int res.2.1))) ([.ref (kA κ 7 0), .int y1, .int y2, .int y3] : List Value).toArray s 614 13272 (AA κ)) (F0 m 431 ls [.int s0, .int s1, .ref (kA κ 7 0)]) := by
        intro a1 a2 a3 a4 a5 a6 a7 a8 a9 a10 a11 a12 a13 a15 s0 s1 γ H locs ls cells slots hl hH hS hc1 hc2 hq
        refine lv_iconst (v := 0) hx hb dL_refuses_431 (by decide) ?_
        refine lv_iconst (v := 0) hx hb dL_refuses_432 (by decide) ?_
        refine lv_iconst (v := 0) hx hb dL_refuses_433 (by decide) ?_
        refine lv_iconst (v := 0) hx hb dL_refuses_434 (by decide) ?_
        refine e_callW (rest := []) hC hl hH hS (c_L_call l hfl κ γ s1 s0 0 0 0 0) tw_430 tw_431 tw_37 tw_432 hd_L_call ⟨Nat.le_of_ble_eq_true rfl, Nat.le_of_ble_eq_true rfl⟩ rfl rfl rfl rfl (Nat.le_of_ble_eq_true rfl) dL_refuses_435 ⟨by show _ ≤ 614; omega, by show _ ≤ 13272; omega⟩ rfl (fun H locs hH hS => ?_)
        exact b_438 a1 a2 a3 a4 a5 a6 a7 a8 a9 a10 a11 a12 a13 a15 ((x_L_call s1 s0 0 0 0 0 γ).1) (x_L_call s1 s0 0 0 0 0 γ).2 _ _ _ _ _ (lv_sub hl [0, 1, 2, 3, 4, 5, 6, 7, 8, 9, 10, 11, 12, 13, 14] rfl) hH hS (by omega) (by omega) hq
      have b_400 : ∀ (a1 : Int32) (a2 : Int32) (a3 : Int32) (a4 : Int32) (a5 : Int32) (a6 : Int32) (a7 : Int32) (a8 : Int32) (a9 : Int32) (a10 : Int32) (a11 : Int32) (a12 : Int32) (a13 : Int32) (a15 : Int32) (s0 : Int32) (γ : St) (H : Heap) (locs : List Loc) (ls : Array Slot) (cells slots : Nat), lv_has ls 17 [(0, .ref (kA κ 7 0)), (1, .int a1), (2, .int a2), (3, .int a3), (4, .int a4), (5, .int a5), (6, .int a6), (7, .int a7), (8, .int a8), (9, .int a9), (10, .int a10), (11, .int a11), (12, .int a12), (13, .int a13), (15, .int a15)] → HE κ γ H → va_S (AA κ) s.heap H locs → cells + (168 + 102 * k33) ≤ 614 → slots + (3640 + 2210 * k33) ≤ 13272 → x_L_refuses_400 (x_L_refuses_33 k33) a1 a2 a3 a4 a5 a6 a7 a8 a9 a10 a11 a12 a13 a15 s0 γ = res → W p l e (headSpec [Cond.code yL_refuses cL_refuses 17 (some .boolean)] ({ frames := 9, cells := 614, slots := 13272, locals := 191 } : Room)).room s m ([.ref (kA κ 7 0), .int y1, .int y2, .int y3] : List Value).toArray below meth c H locs cells slots (MQ below (QL κ res.2.2 (some (.int res.2.1))) ([.ref (kA κ 7 0), .int y1, .int y2, .int y3] : List Value).toArray s 614 13272 (AA κ)) (F0 m 400 ls [.int s0]) := by
        intro a1 a2 a3 a4 a5 a6 a7 a8 a9 a10 a11 a12 a13 a15 s0 γ H locs ls cells slots hl hH hS hc1 hc2 hq
        refine lv_bipush (v := (-72)) hx hb dL_refuses_400 (by decide) ?_
        refine lv_icmp_ne (tgt := 529) hx hb dL_refuses_402 (by decide) (fun c355 => ?_) (fun c355 => ?_)
        · have hq := ifne hq c355
          exact b_529 a1 a2 a3 a4 a5 a6 a7 a8 a9 a10 a11 a12 a13 a15 γ _ _ _ _ _ (lv_sub hl [0, 1, 2, 3, 4, 5, 6, 7, 8, 9, 10, 11, 12, 13, 14] rfl) hH hS (by omega) (by omega) hq
        · have hq := ifpe hq c355
          refine lv_aload_n hx hb dL_refuses_405 rfl (lv_at hl 0 rfl) ?_
          refine lv_bipush (v := 6) hx hb dL_refuses_406 (by decide) ?_
          refine lv_iload hx hb dL_refuses_408 (lv_at hl 9 rfl) ?_
          refine lv_if_ne (tgt := 417) hx hb dL_refuses_410 (by decide) (fun c356 => ?_) (fun c356 => ?_)
          · have hq := ifne hq c356
            refine lv_iload hx hb dL_refuses_417 (lv_at hl 9 rfl) ?_
            refine lv_iconst (v := 1) hx hb dL_refuses_419 (by decide) ?_
            refine lv_icmp_ne (tgt := 429) hx hb dL_refuses_420 (by decide) (fun c357 => ?_) (fun c357 => ?_)
            · have hq := ifne hq c357
              refine lv_iload hx hb dL_refuses_429 (lv_at hl 10 rfl) ?_
              exact b_431 a1 a2 a3 a4 a5 a6 a7 a8 a9 a10 a11 a12 a13 a15 a10 6 γ _ _ _ _ _ (lv_sub hl [0, 1, 2, 3, 4, 5, 6, 7, 8, 9, 10, 11, 12, 13, 14] rfl) hH hS (by omega) (by omega) hq
            · have hq := ifpe hq c357
              refine lv_sipush (v := 241) hx hb dL_refuses_423 (by decide) ?_
              refine lv_goto (tgt := 431) hx hb dL_refuses_426 (by decide) ?_
              exact b_431 a1 a2 a3 a4 a5 a6 a7 a8 a9 a10 a11 a12 a13 a15 241 6 γ _ _ _ _ _ (lv_sub hl [0, 1, 2, 3, 4, 5, 6, 7, 8, 9, 10, 11, 12, 13, 14] rfl) hH hS (by omega) (by omega) hq
          · have hq := ifpe hq c356
            refine lv_iconst (v := 0) hx hb dL_refuses_413 (by decide) ?_
            refine lv_goto (tgt := 431) hx hb dL_refuses_414 (by decide) ?_
            exact b_431 a1 a2 a3 a4 a5 a6 a7 a8 a9 a10 a11 a12 a13 a15 0 6 γ _ _ _ _ _ (lv_sub hl [0, 1, 2, 3, 4, 5, 6, 7, 8, 9, 10, 11, 12, 13, 14] rfl) hH hS (by omega) (by omega) hq
      have b_394 : ∀ (a1 : Int32) (a2 : Int32) (a3 : Int32) (a4 : Int32) (a5 : Int32) (a6 : Int32) (a7 : Int32) (a8 : Int32) (a9 : Int32) (a10 : Int32) (a11 : Int32) (a12 : Int32) (a13 : Int32) (a15 : Int32) (s0 : Int32) (s1 : Int32) (s2 : Int32) (γ : St) (H : Heap) (locs : List Loc) (ls : Array Slot) (cells slots : Nat), lv_has ls 17 [(0, .ref (kA κ 7 0)), (1, .int a1), (2, .int a2), (3, .int a3), (4, .int a4), (5, .int a5), (6, .int a6), (7, .int a7), (8, .int a8), (9, .int a9), (10, .int a10), (11, .int a11), (12, .int a12), (13, .int a13), (15, .int a15)] → HE κ γ H → va_S (AA κ) s.heap H locs → cells + (171 + 102 * k33) ≤ 614 → slots + (3705 + 2210 * k33) ≤ 13272 → x_L_refuses_394 (x_L_refuses_33 k33) a1 a2 a3 a4 a5 a6 a7 a8 a9 a10 a11 a12 a13 a15 s0 s1 s2 γ = res → W p l e (headSpec [Cond.code yL_refuses cL_refuses 17 (some .boolean)] ({ frames := 9, cells := 614, slots := 13272, locals := 191 } : Room)).room s m ([.ref (kA κ 7 0), .int y1, .int y2, .int y3] : List Value).toArray below meth c H locs cells slots (MQ below (QL κ res.2.2 (some (.int res.2.1))) ([.ref (kA κ 7 0), .int y1, .int y2, .int y3] : List Value).toArray s 614 13272 (AA κ)) (F0 m 394 ls [.int s0, .int s1, .int s2, .ref (kA κ 7 0)]) := by
        intro a1 a2 a3 a4 a5 a6 a7 a8 a9 a10 a11 a12 a13 a15 s0 s1 s2 γ H locs ls cells slots hl hH hS hc1 hc2 hq
        refine lv_iconst (v := 0) hx hb dL_refuses_394 (by decide) ?_
        refine lv_iconst (v := 0) hx hb dL_refuses_395 (by decide) ?_
        refine lv_iconst (v := 0) hx hb dL_refuses_396 (by decide) ?_
        refine e_callW (rest := []) hC hl hH hS (c_L_call l hfl κ γ s2 s1 s0 0 0 0) tw_430 tw_431 tw_37 tw_432 hd_L_call ⟨Nat.le_of_ble_eq_true rfl, Nat.le_of_ble_eq_true rfl⟩ rfl rfl rfl rfl (Nat.le_of_ble_eq_true rfl) dL_refuses_397 ⟨by show _ ≤ 614; omega, by show _ ≤ 13272; omega⟩ rfl (fun H locs hH hS => ?_)
        exact b_400 a1 a2 a3 a4 a5 a6 a7 a8 a9 a10 a11 a12 a13 a15 ((x_L_call s2 s1 s0 0 0 0 γ).1) (x_L_call s2 s1 s0 0 0 0 γ).2 _ _ _ _ _ (lv_sub hl [0, 1, 2, 3, 4, 5, 6, 7, 8, 9, 10, 11, 12, 13, 14] rfl) hH hS (by omega) (by omega) hq
      have b_365 : ∀ (a1 : Int32) (a2 : Int32) (a3 : Int32) (a4 : Int32) (a5 : Int32) (a6 : Int32) (a7 : Int32) (a8 : Int32) (a9 : Int32) (a10 : Int32) (a11 : Int32) (a12 : Int32) (a13 : Int32) (a15 : Int32) (s0 : Int32) (γ : St) (H : Heap) (locs : List Loc) (ls : Array Slot) (cells slots : Nat), lv_has ls 17 [(0, .ref (kA κ 7 0)), (1, .int a1), (2, .int a2), (3, .int a3), (4, .int a4), (5, .int a5), (6, .int a6), (7, .int a7), (8, .int a8), (9, .int a9), (10, .int a10), (11, .int a11), (12, .int a12), (13, .int a13), (15, .int a15)] → HE κ γ H → va_S (AA κ) s.heap H locs → cells + (171 + 102 * k33) ≤ 614 → slots + (3705 + 2210 * k33) ≤ 13272 → x_L_refuses_365 (x_L_refuses_33 k33) a1 a2 a3 a4 a5 a6 a7 a8 a9 a10 a11 a12 a13 a15 s0 γ = res → W p l e (headSpec [Cond.code yL_refuses cL_refuses 17 (some .boolean)] ({ frames := 9, cells := 614, slots := 13272, locals := 191 } : Room)).room s m ([.ref (kA κ 7 0), .int y1, .int y2, .int y3] : List Value).toArray below meth c H locs cells slots (MQ below (QL κ res.2.2 (some (.int res.2.1))) ([.ref (kA κ 7 0), .int y1, .int y2, .int y3] : List Value).toArray s 614 13272 (AA κ)) (F0 m 365 ls [.int s0]) := by
        intro a1 a2 a3 a4 a5 a6 a7 a8 a9 a10 a11 a12 a13 a15 s0 γ H locs ls cells slots hl hH hS hc1 hc2 hq
        refine lv_bipush (v := (-72)) hx hb dL_refuses_365 (by decide) ?_
        refine lv_icmp_ne (tgt := 529) hx hb dL_refuses_367 (by decide) (fun c358 => ?_) (fun c358 => ?_)
        · have hq := ifne hq c358
          exact b_529 a1 a2 a3 a4 a5 a6 a7 a8 a9 a10 a11 a12 a13 a15 γ _ _ _ _ _ (lv_sub hl [0, 1, 2, 3, 4, 5, 6, 7, 8, 9, 10, 11, 12, 13, 14] rfl) hH hS (by omega) (by omega) hq
        · have hq := ifpe hq c358
          refine lv_aload_n hx hb dL_refuses_370 rfl (lv_at hl 0 rfl) ?_
          refine lv_iconst (v := 5) hx hb dL_refuses_371 (by decide) ?_
          refine lv_iconst (v := 0) hx hb dL_refuses_372 (by decide) ?_
          refine lv_iload hx hb dL_refuses_373 (lv_at hl 9 rfl) ?_
          refine lv_if_ne (tgt := 382) hx hb dL_refuses_375 (by decide) (fun c359 => ?_) (fun c359 => ?_)
          · have hq := ifne hq c359
            refine lv_iload hx hb dL_refuses_382 (lv_at hl 9 rfl) ?_
            refine lv_iconst (v := 1) hx hb dL_refuses_384 (by decide) ?_
            refine lv_icmp_ne (tgt := 392) hx hb dL_refuses_385 (by decide) (fun c360 => ?_) (fun c360 => ?_)
            · have hq := ifne hq c360
              refine lv_iload hx hb dL_refuses_392 (lv_at hl 10 rfl) ?_
              exact b_394 a1 a2 a3 a4 a5 a6 a7 a8 a9 a10 a11 a12 a13 a15 a10 0 5 γ _ _ _ _ _ (lv_sub hl [0, 1, 2, 3, 4, 5, 6, 7, 8, 9, 10, 11, 12, 13, 14] rfl) hH hS (by omega) (by omega) hq
            · have hq := ifpe hq c360
              refine lv_iconst (v := 4) hx hb dL_refuses_388 (by decide) ?_
              refine lv_goto (tgt := 394) hx hb dL_refuses_389 (by decide) ?_
              exact b_394 a1 a2 a3 a4 a5 a6 a7 a8 a9 a10 a11 a12 a13 a15 4 0 5 γ _ _ _ _ _ (lv_sub hl [0, 1, 2, 3, 4, 5, 6, 7, 8, 9, 10, 11, 12, 13, 14] rfl) hH hS (by omega) (by omega) hq
          · have hq := ifpe hq c359
            refine lv_iconst (v := 0) hx hb dL_refuses_378 (by decide) ?_
            refine lv_goto (tgt := 394) hx hb dL_refuses_379 (by decide) ?_
            exact b_394 a1 a2 a3 a4 a5 a6 a7 a8 a9 a10 a11 a12 a13 a15 0 0 5 γ _ _ _ _ _ (lv_sub hl [0, 1, 2, 3, 4, 5, 6, 7, 8, 9, 10, 11, 12, 13, 14] rfl) hH hS (by omega) (by omega) hq
      have b_349 : ∀ (a1 : Int32) (a2 : Int32) (a3 : Int32) (a4 : Int32) (a5 : Int32) (a6 : Int32) (a7 : Int32) (a8 : Int32) (a9 : Int32) (a10 : Int32) (a11 : Int32) (a12 : Int32) (a13 : Int32) (a15 : Int32) (s0 : Int32) (γ : St) (H : Heap) (locs : List Loc) (ls : Array Slot) (cells slots : Nat), lv_has ls 17 [(0, .ref (kA κ 7 0)), (1, .int a1), (2, .int a2), (3, .int a3), (4, .int a4), (5, .int a5), (6, .int a6), (7, .int a7), (8, .int a8), (9, .int a9), (10, .int a10), (11, .int a11), (12, .int a12), (13, .int a13), (15, .int a15)] → HE κ γ H → va_S (AA κ) s.heap H locs → cells + (174 + 102 * k33) ≤ 614 → slots + (3770 + 2210 * k33) ≤ 13272 → x_L_refuses_349 (x_L_refuses_33 k33) a1 a2 a3 a4 a5 a6 a7 a8 a9 a10 a11 a12 a13 a15 s0 γ = res → W p l e (headSpec [Cond.code yL_refuses cL_refuses 17 (some .boolean)] ({ frames := 9, cells := 614, slots := 13272, locals := 191 } : Room)).room s m ([.ref (kA κ 7 0), .int y1, .int y2, .int y3] : List Value).toArray below meth c H locs cells slots (MQ below (QL κ res.2.2 (some (.int res.2.1))) ([.ref (kA κ 7 0), .int y1, .int y2, .int y3] : List Value).toArray s 614 13272 (AA κ)) (F0 m 349 ls [.int s0]) := by
        intro a1 a2 a3 a4 a5 a6 a7 a8 a9 a10 a11 a12 a13 a15 s0 γ H locs ls cells slots hl hH hS hc1 hc2 hq
        refine lv_bipush (v := (-72)) hx hb dL_refuses_349 (by decide) ?_
        refine lv_icmp_ne (tgt := 529) hx hb dL_refuses_351 (by decide) (fun c361 => ?_) (fun c361 => ?_)
        · have hq := ifne hq c361
          exact b_529 a1 a2 a3 a4 a5 a6 a7 a8 a9 a10 a11 a12 a13 a15 γ _ _ _ _ _ (lv_sub hl [0, 1, 2, 3, 4, 5, 6, 7, 8, 9, 10, 11, 12, 13, 14] rfl) hH hS (by omega) (by omega) hq
        · have hq := ifpe hq c361
          refine lv_aload_n hx hb dL_refuses_354 rfl (lv_at hl 0 rfl) ?_
          refine lv_iconst (v := 5) hx hb dL_refuses_355 (by decide) ?_
          refine lv_iload hx hb dL_refuses_356 (lv_at hl 13 rfl) ?_
          refine lv_iconst (v := 1) hx hb dL_refuses_358 (by decide) ?_
          refine lv_iconst (v := 0) hx hb dL_refuses_359 (by decide) ?_
          refine lv_iconst (v := 0) hx hb dL_refuses_360 (by decide) ?_
          refine lv_iconst (v := 0) hx hb dL_refuses_361 (by decide) ?_
          refine e_callW (rest := []) hC hl hH hS (c_L_call l hfl κ γ 5 a13 1 0 0 0) tw_430 tw_431 tw_37 tw_432 hd_L_call ⟨Nat.le_of_ble_eq_true rfl, Nat.le_of_ble_eq_true rfl⟩ rfl rfl rfl rfl (Nat.le_of_ble_eq_true rfl) dL_refuses_362 ⟨by show _ ≤ 614; omega, by show _ ≤ 13272; omega⟩ rfl (fun H locs hH hS => ?_)
          exact b_365 a1 a2 a3 a4 a5 a6 a7 a8 a9 a10 a11 a12 a13 a15 ((x_L_call 5 a13 1 0 0 0 γ).1) (x_L_call 5 a13 1 0 0 0 γ).2 _ _ _ _ _ (lv_sub hl [0, 1, 2, 3, 4, 5, 6, 7, 8, 9, 10, 11, 12, 13, 14] rfl) hH hS (by omega) (by omega) hq
      have b_345 : ∀ (a1 : Int32) (a2 : Int32) (a3 : Int32) (a4 : Int32) (a5 : Int32) (a6 : Int32) (a7 : Int32) (a8 : Int32) (a9 : Int32) (a10 : Int32) (a11 : Int32) (a12 : Int32) (a13 : Int32) (a15 : Int32) (s0 : Int32) (s1 : Int32) (s2 : Int32) (s3 : Int32) (s4 : Int32) (γ : St) (H : Heap) (locs : List Loc) (ls : Array Slot) (cells slots : Nat), lv_has ls 17 [(0, .ref (kA κ 7 0)), (1, .int a1), (2, .int a2), (3, .int a3), (4, .int a4), (5, .int a5), (6, .int a6), (7, .int a7), (8, .int a8), (9, .int a9), (10, .int a10), (11, .int a11), (12, .int a12), (13, .int a13), (15, .int a15)] → HE κ γ H → va_S (AA κ) s.heap H locs → cells + (177 + 102 * k33) ≤ 614 → slots + (3835 + 2210 * k33) ≤ 13272 → x_L_refuses_345 (x_L_refuses_33 k33) a1 a2 a3 a4 a5 a6 a7 a8 a9 a10 a11 a12 a13 a15 s0 s1 s2 s3 s4 γ = res → W p l e (headSpec [Cond.code yL_refuses cL_refuses 17 (some .boolean)] ({ frames := 9, cells := 614, slots := 13272, locals := 191 } : Room)).room s m ([.ref (kA κ 7 0), .int y1, .int y2, .int y3] : List Value).toArray below meth c H locs cells slots (MQ below (QL κ res.2.2 (some (.int res.2.1))) ([.ref (kA κ 7 0), .int y1, .int y2, .int y3] : List Value).toArray s 614 13272 (AA κ)) (F0 m 345 ls [.int s0, .int s1, .int s2, .int s3, .int s4, .ref (kA κ 7 0)]) := by
        intro a1 a2 a3 a4 a5 a6 a7 a8 a9 a10 a11 a12 a13 a15 s0 s1 s2 s3 s4 γ H locs ls cells slots hl hH hS hc1 hc2 hq
        refine lv_iconst (v := 0) hx hb dL_refuses_345 (by decide) ?_
        refine e_callW (rest := []) hC hl hH hS (c_L_call l hfl κ γ s4 s3 s2 s1 s0 0) tw_430 tw_431 tw_37 tw_432 hd_L_call ⟨Nat.le_of_ble_eq_true rfl, Nat.le_of_ble_eq_true rfl⟩ rfl rfl rfl rfl (Nat.le_of_ble_eq_true rfl) dL_refuses_346 ⟨by show _ ≤ 614; omega, by show _ ≤ 13272; omega⟩ rfl (fun H locs hH hS => ?_)
        exact b_349 a1 a2 a3 a4 a5 a6 a7 a8 a9 a10 a11 a12 a13 a15 ((x_L_call s4 s3 s2 s1 s0 0 γ).1) (x_L_call s4 s3 s2 s1 s0 0 γ).2 _ _ _ _ _ (lv_sub hl [0, 1, 2, 3, 4, 5, 6, 7, 8, 9, 10, 11, 12, 13, 14] rfl) hH hS (by omega) (by omega) hq
      have b_323 : ∀ (a1 : Int32) (a2 : Int32) (a3 : Int32) (a4 : Int32) (a5 : Int32) (a6 : Int32) (a7 : Int32) (a8 : Int32) (a9 : Int32) (a10 : Int32) (a11 : Int32) (a12 : Int32) (a13 : Int32) (a15 : Int32) (s0 : Int32) (γ : St) (H : Heap) (locs : List Loc) (ls : Array Slot) (cells slots : Nat), lv_has ls 17 [(0, .ref (kA κ 7 0)), (1, .int a1), (2, .int a2), (3, .int a3), (4, .int a4), (5, .int a5), (6, .int a6), (7, .int a7), (8, .int a8), (9, .int a9), (10, .int a10), (11, .int a11), (12, .int a12), (13, .int a13), (15, .int a15)] → HE κ γ H → va_S (AA κ) s.heap H locs → cells + (177 + 102 * k33) ≤ 614 → slots + (3835 + 2210 * k33) ≤ 13272 → x_L_refuses_323 (x_L_refuses_33 k33) a1 a2 a3 a4 a5 a6 a7 a8 a9 a10 a11 a12 a13 a15 s0 γ = res → W p l e (headSpec [Cond.code yL_refuses cL_refuses 17 (some .boolean)] ({ frames := 9, cells := 614, slots := 13272, locals := 191 } : Room)).room s m ([.ref (kA κ 7 0), .int y1, .int y2, .int y3] : List Value).toArray below meth c H locs cells slots (MQ below (QL κ res.2.2 (some (.int res.2.1))) ([.ref (kA κ 7 0), .int y1, .int y2, .int y3] : List Value).toArray s 614 13272 (AA κ)) (F0 m 323 ls [.int s0]) := by
        intro a1 a2 a3 a4 a5 a6 a7 a8 a9 a10 a11 a12 a13 a15 s0 γ H locs ls cells slots hl hH hS hc1 hc2 hq
        refine lv_bipush (v := (-72)) hx hb dL_refuses_323 (by decide) ?_
        refine lv_icmp_ne (tgt := 529) hx hb dL_refuses_325 (by decide) (fun c362 => ?_) (fun c362 => ?_)
        · have hq := ifne hq c362
          exact b_529 a1 a2 a3 a4 a5 a6 a7 a8 a9 a10 a11 a12 a13 a15 γ _ _ _ _ _ (lv_sub hl [0, 1, 2, 3, 4, 5, 6, 7, 8, 9, 10, 11, 12, 13, 14] rfl) hH hS (by omega) (by omega) hq
        · have hq := ifpe hq c362
          refine lv_aload_n hx hb dL_refuses_328 rfl (lv_at hl 0 rfl) ?_
          refine lv_iconst (v := 3) hx hb dL_refuses_329 (by decide) ?_
          refine lv_iconst (v := 0) hx hb dL_refuses_330 (by decide) ?_
          refine lv_iconst (v := 0) hx hb dL_refuses_331 (by decide) ?_
          refine lv_iconst (v := 0) hx hb dL_refuses_332 (by decide) ?_
          refine lv_iload hx hb dL_refuses_333 (lv_at hl 9 rfl) ?_
          refine lv_iconst (v := 1) hx hb dL_refuses_335 (by decide) ?_
          refine lv_icmp_ne (tgt := 343) hx hb dL_refuses_336 (by decide) (fun c363 => ?_) (fun c363 => ?_)
          · have hq := ifne hq c363
            refine lv_iload hx hb dL_refuses_343 (lv_at hl 10 rfl) ?_
            exact b_345 a1 a2 a3 a4 a5 a6 a7 a8 a9 a10 a11 a12 a13 a15 a10 0 0 0 3 γ _ _ _ _ _ (lv_sub hl [0, 1, 2, 3, 4, 5, 6, 7, 8, 9, 10, 11, 12, 13, 14] rfl) hH hS (by omega) (by omega) hq
          · have hq := ifpe hq c363
            refine lv_iconst (v := 3) hx hb dL_refuses_339 (by decide) ?_
            refine lv_goto (tgt := 345) hx hb dL_refuses_340 (by decide) ?_
            exact b_345 a1 a2 a3 a4 a5 a6 a7 a8 a9 a10 a11 a12 a13 a15 3 0 0 0 3 γ _ _ _ _ _ (lv_sub hl [0, 1, 2, 3, 4, 5, 6, 7, 8, 9, 10, 11, 12, 13, 14] rfl) hH hS (by omega) (by omega) hq
      have b_318 : ∀ (a1 : Int32) (a2 : Int32) (a3 : Int32) (a4 : Int32) (a5 : Int32) (a6 : Int32) (a7 : Int32) (a8 : Int32) (a9 : Int32) (a10 : Int32) (a11 : Int32) (a12 : Int32) (a13 : Int32) (a15 : Int32) (s0 : Int32) (s1 : Int32) (s2 : Int32) (s3 : Int32) (γ : St) (H : Heap) (locs : List Loc) (ls : Array Slot) (cells slots : Nat), lv_has ls 17 [(0, .ref (kA κ 7 0)), (1, .int a1), (2, .int a2), (3, .int a3), (4, .int a4), (5, .int a5), (6, .int a6), (7, .int a7), (8, .int a8), (9, .int a9), (10, .int a10), (11, .int a11), (12, .int a12), (13, .int a13), (15, .int a15)] → HE κ γ H → va_S (AA κ) s.heap H locs → cells + (180 + 102 * k33) ≤ 614 → slots + (3900 + 2210 * k33) ≤ 13272 → x_L_refuses_318 (x_L_refuses_33 k33) a1 a2 a3 a4 a5 a6 a7 a8 a9 a10 a11 a12 a13 a15 s0 s1 s2 s3 γ = res → W p l e (headSpec [Cond.code yL_refuses cL_refuses 17 (some .boolean)] ({ frames := 9, cells := 614, slots := 13272, locals := 191 } : Room)).room s m ([.ref (kA κ 7 0), .int y1, .int y2, .int y3] : List Value).toArray below meth c H locs cells slots (MQ below (QL κ res.2.2 (some (.int res.2.1))) ([.ref (kA κ 7 0), .int y1, .int y2, .int y3] : List Value).toArray s 614 13272 (AA κ)) (F0 m 318 ls [.int s0, .int s1, .int s2, .int s3, .ref (kA κ 7 0)]) := by
        intro a1 a2 a3 a4 a5 a6 a7 a8 a9 a10 a11 a12 a13 a15 s0 s1 s2 s3 γ H locs ls cells slots hl hH hS hc1 hc2 hq
        refine lv_iconst (v := 0) hx hb dL_refuses_318 (by decide) ?_
        refine lv_iconst (v := 0) hx hb dL_refuses_319 (by decide) ?_
        refine e_callW (rest := []) hC hl hH hS (c_L_call l hfl κ γ s3 s2 s1 s0 0 0) tw_430 tw_431 tw_37 tw_432 hd_L_call ⟨Nat.le_of_ble_eq_true rfl, Nat.le_of_ble_eq_true rfl⟩ rfl rfl rfl rfl (Nat.le_of_ble_eq_true rfl) dL_refuses_320 ⟨by show _ ≤ 614; omega, by show _ ≤ 13272; omega⟩ rfl (fun H locs hH hS => ?_)
        exact b_323 a1 a2 a3 a4 a5 a6 a7 a8 a9 a10 a11 a12 a13 a15 ((x_L_call s3 s2 s1 s0 0 0 γ).1) (x_L_call s3 s2 s1 s0 0 0 γ).2 _ _ _ _ _ (lv_sub hl [0, 1, 2, 3, 4, 5, 6, 7, 8, 9, 10, 11, 12, 13, 14] rfl) hH hS (by omega) (by omega) hq
      have b_295 : ∀ (a1 : Int32) (a2 : Int32) (a3 : Int32) (a4 : Int32) (a5 : Int32) (a6 : Int32) (a7 : Int32) (a8 : Int32) (a9 : Int32) (a10 : Int32) (a11 : Int32) (a12 : Int32) (a13 : Int32) (a15 : Int32) (s0 : Int32) (γ : St) (H : Heap) (locs : List Loc) (ls : Array Slot) (cells slots : Nat), lv_has ls 17 [(0, .ref (kA κ 7 0)), (1, .int a1), (2, .int a2), (3, .int a3), (4, .int a4), (5, .int a5), (6, .int a6), (7, .int a7), (8, .int a8), (9, .int a9), (10, .int a10), (11, .int a11), (12, .int a12), (13, .int a13), (15, .int a15)] → HE κ γ H → va_S (AA κ) s.heap H locs → cells + (180 + 102 * k33) ≤ 614 → slots + (3900 + 2210 * k33) ≤ 13272 → x_L_refuses_295 (x_L_refuses_33 k33) a1 a2 a3 a4 a5 a6 a7 a8 a9 a10 a11 a12 a13 a15 s0 γ = res → W p l e (headSpec [Cond.code yL_refuses cL_refuses 17 (some .boolean)] ({ frames := 9, cells := 614, slots := 13272, locals := 191 } : Room)).room s m ([.ref (kA κ 7 0), .int y1, .int y2, .int y3] : List Value).toArray below meth c H locs cells slots (MQ below (QL κ res.2.2 (some (.int res.2.1))) ([.ref (kA κ 7 0), .int y1, .int y2, .int y3] : List Value).toArray s 614 13272 (AA κ)) (F0 m 295 ls [.int s0]) := by
        intro a1 a2 a3 a4 a5 a6 a7 a8 a9 a10 a11 a12 a13 a15 s0 γ H locs ls cells slots hl hH hS hc1 hc2 hq
        refine lv_bipush (v := (-72)) hx hb dL_refuses_295 (by decide) ?_
        refine lv_icmp_ne (tgt := 529) hx hb dL_refuses_297 (by decide) (fun c364 => ?_) (fun c364 => ?_)
        · have hq := ifne hq c364
          exact b_529 a1 a2 a3 a4 a5 a6 a7 a8 a9 a10 a11 a12 a13 a15 γ _ _ _ _ _ (lv_sub hl [0, 1, 2, 3, 4, 5, 6, 7, 8, 9, 10, 11, 12, 13, 14] rfl) hH hS (by omega) (by omega) hq
        · have hq := ifpe hq c364
          refine lv_aload_n hx hb dL_refuses_300 rfl (lv_at hl 0 rfl) ?_
          refine lv_iconst (v := 3) hx hb dL_refuses_301 (by decide) ?_
          refine lv_iconst (v := 0) hx hb dL_refuses_302 (by decide) ?_
          refine lv_iconst (v := 0) hx hb dL_refuses_303 (by decide) ?_
          refine lv_iload hx hb dL_refuses_304 (lv_at hl 9 rfl) ?_
          refine lv_iconst (v := 1) hx hb dL_refuses_306 (by decide) ?_
          refine lv_icmp_ne (tgt := 316) hx hb dL_refuses_307 (by decide) (fun c365 => ?_) (fun c365 => ?_)
          · have hq := ifne hq c365
            refine lv_iload hx hb dL_refuses_316 (lv_at hl 10 rfl) ?_
            exact b_318 a1 a2 a3 a4 a5 a6 a7 a8 a9 a10 a11 a12 a13 a15 a10 0 0 3 γ _ _ _ _ _ (lv_sub hl [0, 1, 2, 3, 4, 5, 6, 7, 8, 9, 10, 11, 12, 13, 14] rfl) hH hS (by omega) (by omega) hq
          · have hq := ifpe hq c365
            refine lv_sipush (v := 1001) hx hb dL_refuses_310 (by decide) ?_
            refine lv_goto (tgt := 318) hx hb dL_refuses_313 (by decide) ?_
            exact b_318 a1 a2 a3 a4 a5 a6 a7 a8 a9 a10 a11 a12 a13 a15 1001 0 0 3 γ _ _ _ _ _ (lv_sub hl [0, 1, 2, 3, 4, 5, 6, 7, 8, 9, 10, 11, 12, 13, 14] rfl) hH hS (by omega) (by omega) hq
      have b_279 : ∀ (a1 : Int32) (a2 : Int32) (a3 : Int32) (a4 : Int32) (a5 : Int32) (a6 : Int32) (a7 : Int32) (a8 : Int32) (a9 : Int32) (a10 : Int32) (a11 : Int32) (a12 : Int32) (a13 : Int32) (a14 : Int32) (a15 : Int32) (s0 : Int32) (γ : St) (H : Heap) (locs : List Loc) (ls : Array Slot) (cells slots : Nat), lv_has ls 17 [(0, .ref (kA κ 7 0)), (1, .int a1), (2, .int a2), (3, .int a3), (4, .int a4), (5, .int a5), (6, .int a6), (7, .int a7), (8, .int a8), (9, .int a9), (10, .int a10), (11, .int a11), (12, .int a12), (13, .int a13), (14, .int a14), (15, .int a15)] → HE κ γ H → va_S (AA κ) s.heap H locs → cells + (183 + 102 * k33) ≤ 614 → slots + (3965 + 2210 * k33) ≤ 13272 → x_L_refuses_279 (x_L_refuses_33 k33) a1 a2 a3 a4 a5 a6 a7 a8 a9 a10 a11 a12 a13 a14 a15 s0 γ = res → W p l e (headSpec [Cond.code yL_refuses cL_refuses 17 (some .boolean)] ({ frames := 9, cells := 614, slots := 13272, locals := 191 } : Room)).room s m ([.ref (kA κ 7 0), .int y1, .int y2, .int y3] : List Value).toArray below meth c H locs cells slots (MQ below (QL κ res.2.2 (some (.int res.2.1))) ([.ref (kA κ 7 0), .int y1, .int y2, .int y3] : List Value).toArray s 614 13272 (AA κ)) (F0 m 279 ls [.int s0]) := by
        intro a1 a2 a3 a4 a5 a6 a7 a8 a9 a10 a11 a12 a13 a14 a15 s0 γ H locs ls cells slots hl hH hS hc1 hc2 hq
        refine lv_bipush (v := (-72)) hx hb dL_refuses_279 (by decide) ?_
        refine lv_icmp_ne (tgt := 529) hx hb dL_refuses_281 (by decide) (fun c366 => ?_) (fun c366 => ?_)
        · have hq := ifne hq c366
          exact b_529 a1 a2 a3 a4 a5 a6 a7 a8 a9 a10 a11 a12 a13 a15 γ _ _ _ _ _ (lv_sub hl [0, 1, 2, 3, 4, 5, 6, 7, 8, 9, 10, 11, 12, 13, 15] rfl) hH hS (by omega) (by omega) hq
        · have hq := ifpe hq c366
          refine lv_aload_n hx hb dL_refuses_284 rfl (lv_at hl 0 rfl) ?_
          refine lv_iconst (v := 3) hx hb dL_refuses_285 (by decide) ?_
          refine lv_iconst (v := 0) hx hb dL_refuses_286 (by decide) ?_
          refine lv_iload hx hb dL_refuses_287 (lv_at hl 14 rfl) ?_
          refine lv_iconst (v := 0) hx hb dL_refuses_289 (by decide) ?_
          refine lv_iconst (v := 0) hx hb dL_refuses_290 (by decide) ?_
          refine lv_iconst (v := 0) hx hb dL_refuses_291 (by decide) ?_
          refine e_callW (rest := []) hC hl hH hS (c_L_call l hfl κ γ 3 0 a14 0 0 0) tw_430 tw_431 tw_37 tw_432 hd_L_call ⟨Nat.le_of_ble_eq_true rfl, Nat.le_of_ble_eq_true rfl⟩ rfl rfl rfl rfl (Nat.le_of_ble_eq_true rfl) dL_refuses_292 ⟨by show _ ≤ 614; omega, by show _ ≤ 13272; omega⟩ rfl (fun H locs hH hS => ?_)
          exact b_295 a1 a2 a3 a4 a5 a6 a7 a8 a9 a10 a11 a12 a13 a15 ((x_L_call 3 0 a14 0 0 0 γ).1) (x_L_call 3 0 a14 0 0 0 γ).2 _ _ _ _ _ (lv_sub hl [0, 1, 2, 3, 4, 5, 6, 7, 8, 9, 10, 11, 12, 13, 15] rfl) hH hS (by omega) (by omega) hq
      have b_263 : ∀ (a1 : Int32) (a2 : Int32) (a3 : Int32) (a4 : Int32) (a5 : Int32) (a6 : Int32) (a7 : Int32) (a8 : Int32) (a9 : Int32) (a10 : Int32) (a11 : Int32) (a12 : Int32) (a13 : Int32) (a14 : Int32) (a15 : Int32) (s0 : Int32) (γ : St) (H : Heap) (locs : List Loc) (ls : Array Slot) (cells slots : Nat), lv_has ls 17 [(0, .ref (kA κ 7 0)), (1, .int a1), (2, .int a2), (3, .int a3), (4, .int a4), (5, .int a5), (6, .int a6), (7, .int a7), (8, .int a8), (9, .int a9), (10, .int a10), (11, .int a11), (12, .int a12), (13, .int a13), (14, .int a14), (15, .int a15)] → HE κ γ H → va_S (AA κ) s.heap H locs → cells + (186 + 102 * k33) ≤ 614 → slots + (4030 + 2210 * k33) ≤ 13272 → x_L_refuses_263 (x_L_refuses_33 k33) a1 a2 a3 a4 a5 a6 a7 a8 a9 a10 a11 a12 a13 a14 a15 s0 γ = res → W p l e (headSpec [Cond.code yL_refuses cL_refuses 17 (some .boolean)] ({ frames := 9, cells := 614, slots := 13272, locals := 191 } : Room)).room s m ([.ref (kA κ 7 0), .int y1, .int y2, .int y3] : List Value).toArray below meth c H locs cells slots (MQ below (QL κ res.2.2 (some (.int res.2.1))) ([.ref (kA κ 7 0), .int y1, .int y2, .int y3] : List Value).toArray s 614 13272 (AA κ)) (F0 m 263 ls [.int s0]) := by
        intro a1 a2 a3 a4 a5 a6 a7 a8 a9 a10 a11 a12 a13 a14 a15 s0 γ H locs ls cells slots hl hH hS hc1 hc2 hq
        refine lv_bipush (v := (-72)) hx hb dL_refuses_263 (by decide) ?_
        refine lv_icmp_ne (tgt := 529) hx hb dL_refuses_265 (by decide) (fun c367 => ?_) (fun c367 => ?_)
        · have hq := ifne hq c367
          exact b_529 a1 a2 a3 a4 a5 a6 a7 a8 a9 a10 a11 a12 a13 a15 γ _ _ _ _ _ (lv_sub hl [0, 1, 2, 3, 4, 5, 6, 7, 8, 9, 10, 11, 12, 13, 15] rfl) hH hS (by omega) (by omega) hq
        · have hq := ifpe hq c367
          refine lv_aload_n hx hb dL_refuses_268 rfl (lv_at hl 0 rfl) ?_
          refine lv_iconst (v := 3) hx hb dL_refuses_269 (by decide) ?_
          refine lv_iload hx hb dL_refuses_270 (lv_at hl 13 rfl) ?_
          refine lv_iconst (v := 0) hx hb dL_refuses_272 (by decide) ?_
          refine lv_iconst (v := 0) hx hb dL_refuses_273 (by decide) ?_
          refine lv_iconst (v := 0) hx hb dL_refuses_274 (by decide) ?_
          refine lv_iconst (v := 0) hx hb dL_refuses_275 (by decide) ?_
          refine e_callW (rest := []) hC hl hH hS (c_L_call l hfl κ γ 3 a13 0 0 0 0) tw_430 tw_431 tw_37 tw_432 hd_L_call ⟨Nat.le_of_ble_eq_true rfl, Nat.le_of_ble_eq_true rfl⟩ rfl rfl rfl rfl (Nat.le_of_ble_eq_true rfl) dL_refuses_276 ⟨by show _ ≤ 614; omega, by show _ ≤ 13272; omega⟩ rfl (fun H locs hH hS => ?_)
          exact b_279 a1 a2 a3 a4 a5 a6 a7 a8 a9 a10 a11 a12 a13 a14 a15 ((x_L_call 3 a13 0 0 0 0 γ).1) (x_L_call 3 a13 0 0 0 0 γ).2 _ _ _ _ _ (lv_sub hl [0, 1, 2, 3, 4, 5, 6, 7, 8, 9, 10, 11, 12, 13, 14, 15] rfl) hH hS (by omega) (by omega) hq
      have b_247 : ∀ (a1 : Int32) (a2 : Int32) (a3 : Int32) (a4 : Int32) (a5 : Int32) (a6 : Int32) (a7 : Int32) (a8 : Int32) (a9 : Int32) (a10 : Int32) (a11 : Int32) (a12 : Int32) (a13 : Int32) (a14 : Int32) (a15 : Int32) (s0 : Int32) (γ : St) (H : Heap) (locs : List Loc) (ls : Array Slot) (cells slots : Nat), lv_has ls 17 [(0, .ref (kA κ 7 0)), (1, .int a1), (2, .int a2), (3, .int a3), (4, .int a4), (5, .int a5), (6, .int a6), (7, .int a7), (8, .int a8), (9, .int a9), (10, .int a10), (11, .int a11), (12, .int a12), (13, .int a13), (14, .int a14), (15, .int a15)] → HE κ γ H → va_S (AA κ) s.heap H locs → cells + (189 + 102 * k33) ≤ 614 → slots + (4095 + 2210 * k33) ≤ 13272 → x_L_refuses_247 (x_L_refuses_33 k33) a1 a2 a3 a4 a5 a6 a7 a8 a9 a10 a11 a12 a13 a14 a15 s0 γ = res → W p l e (headSpec [Cond.code yL_refuses cL_refuses 17 (some .boolean)] ({ frames := 9, cells := 614, slots := 13272, locals := 191 } : Room)).room s m ([.ref (kA κ 7 0), .int y1, .int y2, .int y3] : List Value).toArray below meth c H locs cells slots (MQ below (QL κ res.2.2 (some (.int res.2.1))) ([.ref (kA κ 7 0), .int y1, .int y2, .int y3] : List Value).toArray s 614 13272 (AA κ)) (F0 m 247 ls [.int s0]) := by
        intro a1 a2 a3 a4 a5 a6 a7 a8 a9 a10 a11 a12 a13 a14 a15 s0 γ H locs ls cells slots hl hH hS hc1 hc2 hq
        refine lv_bipush (v := (-72)) hx hb dL_refuses_247 (by decide) ?_
        refine lv_icmp_ne (tgt := 529) hx hb dL_refuses_249 (by decide) (fun c368 => ?_) (fun c368 => ?_)
        · have hq := ifne hq c368
          exact b_529 a1 a2 a3 a4 a5 a6 a7 a8 a9 a10 a11 a12 a13 a15 γ _ _ _ _ _ (lv_sub hl [0, 1, 2, 3, 4, 5, 6, 7, 8, 9, 10, 11, 12, 13, 15] rfl) hH hS (by omega) (by omega) hq
        · have hq := ifpe hq c368
          refine lv_aload_n hx hb dL_refuses_252 rfl (lv_at hl 0 rfl) ?_
          refine lv_iconst (v := 2) hx hb dL_refuses_253 (by decide) ?_
          refine lv_iconst (v := 0) hx hb dL_refuses_254 (by decide) ?_
          refine lv_iconst (v := 0) hx hb dL_refuses_255 (by decide) ?_
          refine lv_iload hx hb dL_refuses_256 (lv_at hl 14 rfl) ?_
          refine lv_iconst (v := 0) hx hb dL_refuses_258 (by decide) ?_
          refine lv_iconst (v := 0) hx hb dL_refuses_259 (by decide) ?_
          refine e_callW (rest := []) hC hl hH hS (c_L_call l hfl κ γ 2 0 0 a14 0 0) tw_430 tw_431 tw_37 tw_432 hd_L_call ⟨Nat.le_of_ble_eq_true rfl, Nat.le_of_ble_eq_true rfl⟩ rfl rfl rfl rfl (Nat.le_of_ble_eq_true rfl) dL_refuses_260 ⟨by show _ ≤ 614; omega, by show _ ≤ 13272; omega⟩ rfl (fun H locs hH hS => ?_)
          exact b_263 a1 a2 a3 a4 a5 a6 a7 a8 a9 a10 a11 a12 a13 a14 a15 ((x_L_call 2 0 0 a14 0 0 γ).1) (x_L_call 2 0 0 a14 0 0 γ).2 _ _ _ _ _ (lv_sub hl [0, 1, 2, 3, 4, 5, 6, 7, 8, 9, 10, 11, 12, 13, 14, 15] rfl) hH hS (by omega) (by omega) hq
      have b_241 : ∀ (a1 : Int32) (a2 : Int32) (a3 : Int32) (a4 : Int32) (a5 : Int32) (a6 : Int32) (a7 : Int32) (a8 : Int32) (a9 : Int32) (a10 : Int32) (a11 : Int32) (a12 : Int32) (a13 : Int32) (a14 : Int32) (a15 : Int32) (s0 : Int32) (s1 : Int32) (s2 : Int32) (γ : St) (H : Heap) (locs : List Loc) (ls : Array Slot) (cells slots : Nat), lv_has ls 17 [(0, .ref (kA κ 7 0)), (1, .int a1), (2, .int a2), (3, .int a3), (4, .int a4), (5, .int a5), (6, .int a6), (7, .int a7), (8, .int a8), (9, .int a9), (10, .int a10), (11, .int a11), (12, .int a12), (13, .int a13), (14, .int a14), (15, .int a15)] → HE κ γ H → va_S (AA κ) s.heap H locs → cells + (192 + 102 * k33) ≤ 614 → slots + (4160 + 2210 * k33) ≤ 13272 → x_L_refuses_241 (x_L_refuses_33 k33) a1 a2 a3 a4 a5 a6 a7 a8 a9 a10 a11 a12 a13 a14 a15 s0 s1 s2 γ = res → W p l e (headSpec [Cond.code yL_refuses cL_refuses 17 (some .boolean)] ({ frames := 9, cells := 614, slots := 13272, locals := 191 } : Room)).room s m ([.ref (kA κ 7 0), .int y1, .int y2, .int y3] : List Value).toArray below meth c H locs cells slots (MQ below (QL κ res.2.2 (some (.int res.2.1))) ([.ref (kA κ 7 0), .int y1, .int y2, .int y3] : List Value).toArray s 614 13272 (AA κ)) (F0 m 241 ls [.int s0, .int s1, .int s2, .ref (kA κ 7 0)]) := by
        intro a1 a2 a3 a4 a5 a6 a7 a8 a9 a10 a11 a12 a13 a14 a15 s0 s1 s2 γ H locs ls cells slots hl hH hS hc1 hc2 hq
        refine lv_iconst (v := 0) hx hb dL_refuses_241 (by decide) ?_
        refine lv_iconst (v := 0) hx hb dL_refuses_242 (by decide) ?_
        refine lv_iconst (v := 0) hx hb dL_refuses_243 (by decide) ?_
        refine e_callW (rest := []) hC hl hH hS (c_L_call l hfl κ γ s2 s1 s0 0 0 0) tw_430 tw_431 tw_37 tw_432 hd_L_call ⟨Nat.le_of_ble_eq_true rfl, Nat.le_of_ble_eq_true rfl⟩ rfl rfl rfl rfl (Nat.le_of_ble_eq_true rfl) dL_refuses_244 ⟨by show _ ≤ 614; omega, by show _ ≤ 13272; omega⟩ rfl (fun H locs hH hS => ?_)
        exact b_247 a1 a2 a3 a4 a5 a6 a7 a8 a9 a10 a11 a12 a13 a14 a15 ((x_L_call s2 s1 s0 0 0 0 γ).1) (x_L_call s2 s1 s0 0 0 0 γ).2 _ _ _ _ _ (lv_sub hl [0, 1, 2, 3, 4, 5, 6, 7, 8, 9, 10, 11, 12, 13, 14, 15] rfl) hH hS (by omega) (by omega) hq
      have b_220 : ∀ (a1 : Int32) (a2 : Int32) (a3 : Int32) (a4 : Int32) (a5 : Int32) (a6 : Int32) (a7 : Int32) (a8 : Int32) (a9 : Int32) (a10 : Int32) (a11 : Int32) (a12 : Int32) (a13 : Int32) (a14 : Int32) (a15 : Int32) (s0 : Int32) (γ : St) (H : Heap) (locs : List Loc) (ls : Array Slot) (cells slots : Nat), lv_has ls 17 [(0, .ref (kA κ 7 0)), (1, .int a1), (2, .int a2), (3, .int a3), (4, .int a4), (5, .int a5), (6, .int a6), (7, .int a7), (8, .int a8), (9, .int a9), (10, .int a10), (11, .int a11), (12, .int a12), (13, .int a13), (14, .int a14), (15, .int a15)] → HE κ γ H → va_S (AA κ) s.heap H locs → cells + (192 + 102 * k33) ≤ 614 → slots + (4160 + 2210 * k33) ≤ 13272 → x_L_refuses_220 (x_L_refuses_33 k33) a1 a2 a3 a4 a5 a6 a7 a8 a9 a10 a11 a12 a13 a14 a15 s0 γ = res → W p l e (headSpec [Cond.code yL_refuses cL_refuses 17 (some .boolean)] ({ frames := 9, cells := 614, slots := 13272, locals := 191 } : Room)).room s m ([.ref (kA κ 7 0), .int y1, .int y2, .int y3] : List Value).toArray below meth c H locs cells slots (MQ below (QL κ res.2.2 (some (.int res.2.1))) ([.ref (kA κ 7 0), .int y1, .int y2, .int y3] : List Value).toArray s 614 13272 (AA κ)) (F0 m 220 ls [.int s0]) := by
        intro a1 a2 a3 a4 a5 a6 a7 a8 a9 a10 a11 a12 a13 a14 a15 s0 γ H locs ls cells slots hl hH hS hc1 hc2 hq
        refine lv_bipush (v := (-72)) hx hb dL_refuses_220 (by decide) ?_
        refine lv_icmp_ne (tgt := 529) hx hb dL_refuses_222 (by decide) (fun c369 => ?_) (fun c369 => ?_)
        · have hq := ifne hq c369
          exact b_529 a1 a2 a3 a4 a5 a6 a7 a8 a9 a10 a11 a12 a13 a15 γ _ _ _ _ _ (lv_sub hl [0, 1, 2, 3, 4, 5, 6, 7, 8, 9, 10, 11, 12, 13, 15] rfl) hH hS (by omega) (by omega) hq
        · have hq := ifpe hq c369
          refine lv_aload_n hx hb dL_refuses_225 rfl (lv_at hl 0 rfl) ?_
          refine lv_iconst (v := 2) hx hb dL_refuses_226 (by decide) ?_
          refine lv_iconst (v := 0) hx hb dL_refuses_227 (by decide) ?_
          refine lv_iload hx hb dL_refuses_228 (lv_at hl 9 rfl) ?_
          refine lv_iconst (v := 1) hx hb dL_refuses_230 (by decide) ?_
          refine lv_icmp_ne (tgt := 239) hx hb dL_refuses_231 (by decide) (fun c370 => ?_) (fun c370 => ?_)
          · have hq := ifne hq c370
            refine lv_iload hx hb dL_refuses_239 (lv_at hl 10 rfl) ?_
            exact b_241 a1 a2 a3 a4 a5 a6 a7 a8 a9 a10 a11 a12 a13 a14 a15 a10 0 2 γ _ _ _ _ _ (lv_sub hl [0, 1, 2, 3, 4, 5, 6, 7, 8, 9, 10, 11, 12, 13, 14, 15] rfl) hH hS (by omega) (by omega) hq
          · have hq := ifpe hq c370
            refine lv_bipush (v := 7) hx hb dL_refuses_234 (by decide) ?_
            refine lv_goto (tgt := 241) hx hb dL_refuses_236 (by decide) ?_
            exact b_241 a1 a2 a3 a4 a5 a6 a7 a8 a9 a10 a11 a12 a13 a14 a15 7 0 2 γ _ _ _ _ _ (lv_sub hl [0, 1, 2, 3, 4, 5, 6, 7, 8, 9, 10, 11, 12, 13, 14, 15] rfl) hH hS (by omega) (by omega) hq
      have b_204 : ∀ (a1 : Int32) (a2 : Int32) (a3 : Int32) (a4 : Int32) (a5 : Int32) (a6 : Int32) (a7 : Int32) (a8 : Int32) (a9 : Int32) (a10 : Int32) (a11 : Int32) (a12 : Int32) (a13 : Int32) (a14 : Int32) (a15 : Int32) (s0 : Int32) (γ : St) (H : Heap) (locs : List Loc) (ls : Array Slot) (cells slots : Nat), lv_has ls 17 [(0, .ref (kA κ 7 0)), (1, .int a1), (2, .int a2), (3, .int a3), (4, .int a4), (5, .int a5), (6, .int a6), (7, .int a7), (8, .int a8), (9, .int a9), (10, .int a10), (11, .int a11), (12, .int a12), (13, .int a13), (14, .int a14), (15, .int a15)] → HE κ γ H → va_S (AA κ) s.heap H locs → cells + (195 + 102 * k33) ≤ 614 → slots + (4225 + 2210 * k33) ≤ 13272 → x_L_refuses_204 (x_L_refuses_33 k33) a1 a2 a3 a4 a5 a6 a7 a8 a9 a10 a11 a12 a13 a14 a15 s0 γ = res → W p l e (headSpec [Cond.code yL_refuses cL_refuses 17 (some .boolean)] ({ frames := 9, cells := 614, slots := 13272, locals := 191 } : Room)).room s m ([.ref (kA κ 7 0), .int y1, .int y2, .int y3] : List Value).toArray below meth c H locs cells slots (MQ below (QL κ res.2.2 (some (.int res.2.1))) ([.ref (kA κ 7 0), .int y1, .int y2, .int y3] : List Value).toArray s 614 13272 (AA κ)) (F0 m 204 ls [.int s0]) := by
        intro a1 a2 a3 a4 a5 a6 a7 a8 a9 a10 a11 a12 a13 a14 a15 s0 γ H locs ls cells slots hl hH hS hc1 hc2 hq
        refine lv_bipush (v := (-71)) hx hb dL_refuses_204 (by decide) ?_
        refine lv_icmp_ne (tgt := 529) hx hb dL_refuses_206 (by decide) (fun c371 => ?_) (fun c371 => ?_)
        · have hq := ifne hq c371
          exact b_529 a1 a2 a3 a4 a5 a6 a7 a8 a9 a10 a11 a12 a13 a15 γ _ _ _ _ _ (lv_sub hl [0, 1, 2, 3, 4, 5, 6, 7, 8, 9, 10, 11, 12, 13, 15] rfl) hH hS (by omega) (by omega) hq
        · have hq := ifpe hq c371
          refine lv_aload_n hx hb dL_refuses_209 rfl (lv_at hl 0 rfl) ?_
          refine lv_iconst (v := 2) hx hb dL_refuses_210 (by decide) ?_
          refine lv_iload hx hb dL_refuses_211 (lv_at hl 13 rfl) ?_
          refine lv_iconst (v := 0) hx hb dL_refuses_213 (by decide) ?_
          refine lv_iconst (v := 0) hx hb dL_refuses_214 (by decide) ?_
          refine lv_iconst (v := 0) hx hb dL_refuses_215 (by decide) ?_
          refine lv_iconst (v := 0) hx hb dL_refuses_216 (by decide) ?_
          refine e_callW (rest := []) hC hl hH hS (c_L_call l hfl κ γ 2 a13 0 0 0 0) tw_430 tw_431 tw_37 tw_432 hd_L_call ⟨Nat.le_of_ble_eq_true rfl, Nat.le_of_ble_eq_true rfl⟩ rfl rfl rfl rfl (Nat.le_of_ble_eq_true rfl) dL_refuses_217 ⟨by show _ ≤ 614; omega, by show _ ≤ 13272; omega⟩ rfl (fun H locs hH hS => ?_)
          exact b_220 a1 a2 a3 a4 a5 a6 a7 a8 a9 a10 a11 a12 a13 a14 a15 ((x_L_call 2 a13 0 0 0 0 γ).1) (x_L_call 2 a13 0 0 0 0 γ).2 _ _ _ _ _ (lv_sub hl [0, 1, 2, 3, 4, 5, 6, 7, 8, 9, 10, 11, 12, 13, 14, 15] rfl) hH hS (by omega) (by omega) hq
      have b_201 : ∀ (a1 : Int32) (a2 : Int32) (a3 : Int32) (a4 : Int32) (a5 : Int32) (a6 : Int32) (a7 : Int32) (a8 : Int32) (a9 : Int32) (a10 : Int32) (a11 : Int32) (a12 : Int32) (a13 : Int32) (a14 : Int32) (a15 : Int32) (s0 : Int32) (s1 : Int32) (s2 : Int32) (s3 : Int32) (s4 : Int32) (s5 : Int32) (γ : St) (H : Heap) (locs : List Loc) (ls : Array Slot) (cells slots : Nat), lv_has ls 17 [(0, .ref (kA κ 7 0)), (1, .int a1), (2, .int a2), (3, .int a3), (4, .int a4), (5, .int a5), (6, .int a6), (7, .int a7), (8, .int a8), (9, .int a9), (10, .int a10), (11, .int a11), (12, .int a12), (13, .int a13), (14, .int a14), (15, .int a15)] → HE κ γ H → va_S (AA κ) s.heap H locs → cells + (198 + 102 * k33) ≤ 614 → slots + (4290 + 2210 * k33) ≤ 13272 → x_L_refuses_201 (x_L_refuses_33 k33) a1 a2 a3 a4 a5 a6 a7 a8 a9 a10 a11 a12 a13 a14 a15 s0 s1 s2 s3 s4 s5 γ = res → W p l e (headSpec [Cond.code yL_refuses cL_refuses 17 (some .boolean)] ({ frames := 9, cells := 614, slots := 13272, locals := 191 } : Room)).room s m ([.ref (kA κ 7 0), .int y1, .int y2, .int y3] : List Value).toArray below meth c H locs cells slots (MQ below (QL κ res.2.2 (some (.int res.2.1))) ([.ref (kA κ 7 0), .int y1, .int y2, .int y3] : List Value).toArray s 614 13272 (AA κ)) (F0 m 201 ls [.int s0, .int s1, .int s2, .int s3, .int s4, .int s5, .ref (kA κ 7 0)]) := by
        intro a1 a2 a3 a4 a5 a6 a7 a8 a9 a10 a11 a12 a13 a14 a15 s0 s1 s2 s3 s4 s5 γ H locs ls cells slots hl hH hS hc1 hc2 hq
        refine e_callW (rest := []) hC hl hH hS (c_L_call l hfl κ γ s5 s4 s3 s2 s1 s0) tw_430 tw_431 tw_37 tw_432 hd_L_call ⟨Nat.le_of_ble_eq_true rfl, Nat.le_of_ble_eq_true rfl⟩ rfl rfl rfl rfl (Nat.le_of_ble_eq_true rfl) dL_refuses_201 ⟨by show _ ≤ 614; omega, by show _ ≤ 13272; omega⟩ rfl (fun H locs hH hS => ?_)
        exact b_204 a1 a2 a3 a4 a5 a6 a7 a8 a9 a10 a11 a12 a13 a14 a15 ((x_L_call s5 s4 s3 s2 s1 s0 γ).1) (x_L_call s5 s4 s3 s2 s1 s0 γ).2 _ _ _ _ _ (lv_sub hl [0, 1, 2, 3, 4, 5, 6, 7, 8, 9, 10, 11, 12, 13, 14, 15] rfl) hH hS (by omega) (by omega) hq
      have b_178 : ∀ (a1 : Int32) (a2 : Int32) (a3 : Int32) (a4 : Int32) (a5 : Int32) (a6 : Int32) (a7 : Int32) (a8 : Int32) (a9 : Int32) (a10 : Int32) (a11 : Int32) (a12 : Int32) (a13 : Int32) (a14 : Int32) (a15 : Int32) (s0 : Int32) (γ : St) (H : Heap) (locs : List Loc) (ls : Array Slot) (cells slots : Nat), lv_has ls 17 [(0, .ref (kA κ 7 0)), (1, .int a1), (2, .int a2), (3, .int a3), (4, .int a4), (5, .int a5), (6, .int a6), (7, .int a7), (8, .int a8), (9, .int a9), (10, .int a10), (11, .int a11), (12, .int a12), (13, .int a13), (14, .int a14), (15, .int a15)] → HE κ γ H → va_S (AA κ) s.heap H locs → cells + (198 + 102 * k33) ≤ 614 → slots + (4290 + 2210 * k33) ≤ 13272 → x_L_refuses_178 (x_L_refuses_33 k33) a1 a2 a3 a4 a5 a6 a7 a8 a9 a10 a11 a12 a13 a14 a15 s0 γ = res → W p l e (headSpec [Cond.code yL_refuses cL_refuses 17 (some .boolean)] ({ frames := 9, cells := 614, slots := 13272, locals := 191 } : Room)).room s m ([.ref (kA κ 7 0), .int y1, .int y2, .int y3] : List Value).toArray below meth c H locs cells slots (MQ below (QL κ res.2.2 (some (.int res.2.1))) ([.ref (kA κ 7 0), .int y1, .int y2, .int y3] : List Value).toArray s 614 13272 (AA κ)) (F0 m 178 ls [.int s0]) := by
        intro a1 a2 a3 a4 a5 a6 a7 a8 a9 a10 a11 a12 a13 a14 a15 s0 γ H locs ls cells slots hl hH hS hc1 hc2 hq
        refine lv_bipush (v := (-71)) hx hb dL_refuses_178 (by decide) ?_
        refine lv_icmp_ne (tgt := 529) hx hb dL_refuses_180 (by decide) (fun c372 => ?_) (fun c372 => ?_)
        · have hq := ifne hq c372
          exact b_529 a1 a2 a3 a4 a5 a6 a7 a8 a9 a10 a11 a12 a13 a15 γ _ _ _ _ _ (lv_sub hl [0, 1, 2, 3, 4, 5, 6, 7, 8, 9, 10, 11, 12, 13, 15] rfl) hH hS (by omega) (by omega) hq
        · have hq := ifpe hq c372
          refine lv_aload_n hx hb dL_refuses_183 rfl (lv_at hl 0 rfl) ?_
          refine lv_iconst (v := 1) hx hb dL_refuses_184 (by decide) ?_
          refine lv_iconst (v := 0) hx hb dL_refuses_185 (by decide) ?_
          refine lv_iconst (v := 0) hx hb dL_refuses_186 (by decide) ?_
          refine lv_iconst (v := 0) hx hb dL_refuses_187 (by decide) ?_
          refine lv_iconst (v := 0) hx hb dL_refuses_188 (by decide) ?_
          refine lv_iload hx hb dL_refuses_189 (lv_at hl 9 rfl) ?_
          refine lv_if_ne (tgt := 199) hx hb dL_refuses_191 (by decide) (fun c373 => ?_) (fun c373 => ?_)
          · have hq := ifne hq c373
            refine lv_iload hx hb dL_refuses_199 (lv_at hl 12 rfl) ?_
            exact b_201 a1 a2 a3 a4 a5 a6 a7 a8 a9 a10 a11 a12 a13 a14 a15 a12 0 0 0 0 1 γ _ _ _ _ _ (lv_sub hl [0, 1, 2, 3, 4, 5, 6, 7, 8, 9, 10, 11, 12, 13, 14, 15] rfl) hH hS (by omega) (by omega) hq
          · have hq := ifpe hq c373
            refine lv_bipush (v := (-2)) hx hb dL_refuses_194 (by decide) ?_
            refine lv_goto (tgt := 201) hx hb dL_refuses_196 (by decide) ?_
            exact b_201 a1 a2 a3 a4 a5 a6 a7 a8 a9 a10 a11 a12 a13 a14 a15 ((-2)) 0 0 0 0 1 γ _ _ _ _ _ (lv_sub hl [0, 1, 2, 3, 4, 5, 6, 7, 8, 9, 10, 11, 12, 13, 14, 15] rfl) hH hS (by omega) (by omega) hq
      have b_162 : ∀ (a1 : Int32) (a2 : Int32) (a3 : Int32) (a4 : Int32) (a5 : Int32) (a6 : Int32) (a7 : Int32) (a8 : Int32) (a9 : Int32) (a10 : Int32) (a11 : Int32) (a12 : Int32) (a13 : Int32) (a14 : Int32) (a15 : Int32) (s0 : Int32) (γ : St) (H : Heap) (locs : List Loc) (ls : Array Slot) (cells slots : Nat), lv_has ls 17 [(0, .ref (kA κ 7 0)), (1, .int a1), (2, .int a2), (3, .int a3), (4, .int a4), (5, .int a5), (6, .int a6), (7, .int a7), (8, .int a8), (9, .int a9), (10, .int a10), (11, .int a11), (12, .int a12), (13, .int a13), (14, .int a14), (15, .int a15)] → HE κ γ H → va_S (AA κ) s.heap H locs → cells + (201 + 102 * k33) ≤ 614 → slots + (4355 + 2210 * k33) ≤ 13272 → x_L_refuses_162 (x_L_refuses_33 k33) a1 a2 a3 a4 a5 a6 a7 a8 a9 a10 a11 a12 a13 a14 a15 s0 γ = res → W p l e (headSpec [Cond.code yL_refuses cL_refuses 17 (some .boolean)] ({ frames := 9, cells := 614, slots := 13272, locals := 191 } : Room)).room s m ([.ref (kA κ 7 0), .int y1, .int y2, .int y3] : List Value).toArray below meth c H locs cells slots (MQ below (QL κ res.2.2 (some (.int res.2.1))) ([.ref (kA κ 7 0), .int y1, .int y2, .int y3] : List Value).toArray s 614 13272 (AA κ)) (F0 m 162 ls [.int s0]) := by
        intro a1 a2 a3 a4 a5 a6 a7 a8 a9 a10 a11 a12 a13 a14 a15 s0 γ H locs ls cells slots hl hH hS hc1 hc2 hq
        refine lv_bipush (v := (-71)) hx hb dL_refuses_162 (by decide) ?_
        refine lv_icmp_ne (tgt := 529) hx hb dL_refuses_164 (by decide) (fun c374 => ?_) (fun c374 => ?_)
        · have hq := ifne hq c374
          exact b_529 a1 a2 a3 a4 a5 a6 a7 a8 a9 a10 a11 a12 a13 a15 γ _ _ _ _ _ (lv_sub hl [0, 1, 2, 3, 4, 5, 6, 7, 8, 9, 10, 11, 12, 13, 15] rfl) hH hS (by omega) (by omega) hq
        · have hq := ifpe hq c374
          refine lv_aload_n hx hb dL_refuses_167 rfl (lv_at hl 0 rfl) ?_
          refine lv_iconst (v := 1) hx hb dL_refuses_168 (by decide) ?_
          refine lv_iconst (v := 0) hx hb dL_refuses_169 (by decide) ?_
          refine lv_iload hx hb dL_refuses_170 (lv_at hl 11 rfl) ?_
          refine lv_iconst (v := 0) hx hb dL_refuses_172 (by decide) ?_
          refine lv_iconst (v := 0) hx hb dL_refuses_173 (by decide) ?_
          refine lv_iconst (v := (-1)) hx hb dL_refuses_174 (by decide) ?_
          refine e_callW (rest := []) hC hl hH hS (c_L_call l hfl κ γ 1 0 a11 0 0 ((-1))) tw_430 tw_431 tw_37 tw_432 hd_L_call ⟨Nat.le_of_ble_eq_true rfl, Nat.le_of_ble_eq_true rfl⟩ rfl rfl rfl rfl (Nat.le_of_ble_eq_true rfl) dL_refuses_175 ⟨by show _ ≤ 614; omega, by show _ ≤ 13272; omega⟩ rfl (fun H locs hH hS => ?_)
          exact b_178 a1 a2 a3 a4 a5 a6 a7 a8 a9 a10 a11 a12 a13 a14 a15 ((x_L_call 1 0 a11 0 0 ((-1)) γ).1) (x_L_call 1 0 a11 0 0 ((-1)) γ).2 _ _ _ _ _ (lv_sub hl [0, 1, 2, 3, 4, 5, 6, 7, 8, 9, 10, 11, 12, 13, 14, 15] rfl) hH hS (by omega) (by omega) hq
      have b_149 : ∀ (a1 : Int32) (a2 : Int32) (a3 : Int32) (a4 : Int32) (a5 : Int32) (a6 : Int32) (a7 : Int32) (a8 : Int32) (a9 : Int32) (a10 : Int32) (a11 : Int32) (a12 : Int32) (a13 : Int32) (a14 : Int32) (s0 : Int32) (γ : St) (H : Heap) (locs : List Loc) (ls : Array Slot) (cells slots : Nat), lv_has ls 17 [(0, .ref (kA κ 7 0)), (1, .int a1), (2, .int a2), (3, .int a3), (4, .int a4), (5, .int a5), (6, .int a6), (7, .int a7), (8, .int a8), (9, .int a9), (10, .int a10), (11, .int a11), (12, .int a12), (13, .int a13), (14, .int a14)] → HE κ γ H → va_S (AA κ) s.heap H locs → cells + (204 + 102 * k33) ≤ 614 → slots + (4420 + 2210 * k33) ≤ 13272 → x_L_refuses_149 (x_L_refuses_33 k33) a1 a2 a3 a4 a5 a6 a7 a8 a9 a10 a11 a12 a13 a14 s0 γ = res → W p l e (headSpec [Cond.code yL_refuses cL_refuses 17 (some .boolean)] ({ frames := 9, cells := 614, slots := 13272, locals := 191 } : Room)).room s m ([.ref (kA κ 7 0), .int y1, .int y2, .int y3] : List Value).toArray below meth c H locs cells slots (MQ below (QL κ res.2.2 (some (.int res.2.1))) ([.ref (kA κ 7 0), .int y1, .int y2, .int y3] : List Value).toArray s 614 13272 (AA κ)) (F0 m 149 ls [.int s0]) := by
        intro a1 a2 a3 a4 a5 a6 a7 a8 a9 a10 a11 a12 a13 a14 s0 γ H locs ls cells slots hl hH hS hc1 hc2 hq
        refine lv_istore (lv' := [(15, .int s0), (0, .ref (kA κ 7 0)), (1, .int a1), (2, .int a2), (3, .int a3), (4, .int a4), (5, .int a5), (6, .int a6), (7, .int a7), (8, .int a8), (9, .int a9), (10, .int a10), (11, .int a11), (12, .int a12), (13, .int a13), (14, .int a14)]) hx hb dL_refuses_149 hl (by decide) rfl (fun ls hl => ?_)
        refine lv_aload_n hx hb dL_refuses_151 rfl (lv_at hl 1 rfl) ?_
        refine lv_iconst (v := 1) hx hb dL_refuses_152 (by decide) ?_
        refine lv_iload hx hb dL_refuses_153 (lv_at hl 12 rfl) ?_
        refine lv_iconst (v := 0) hx hb dL_refuses_155 (by decide) ?_
        refine lv_iconst (v := 0) hx hb dL_refuses_156 (by decide) ?_
        refine lv_iconst (v := 0) hx hb dL_refuses_157 (by decide) ?_
        refine lv_iconst (v := (-1)) hx hb dL_refuses_158 (by decide) ?_
        refine e_callW (rest := []) hC hl hH hS (c_L_call l hfl κ γ 1 a11 0 0 0 ((-1))) tw_430 tw_431 tw_37 tw_432 hd_L_call ⟨Nat.le_of_ble_eq_true rfl, Nat.le_of_ble_eq_true rfl⟩ rfl rfl rfl rfl (Nat.le_of_ble_eq_true rfl) dL_refuses_159 ⟨by show _ ≤ 614; omega, by show _ ≤ 13272; omega⟩ rfl (fun H locs hH hS => ?_)
        exact b_162 a1 a2 a3 a4 a5 a6 a7 a8 a9 a10 a11 a12 a13 a14 s0 ((x_L_call 1 a11 0 0 0 ((-1)) γ).1) (x_L_call 1 a11 0 0 0 ((-1)) γ).2 _ _ _ _ _ (lv_sub hl [1, 2, 3, 4, 5, 6, 7, 8, 9, 10, 11, 12, 13, 14, 15, 0] rfl) hH hS (by omega) (by omega) hq
      have b_121 : ∀ (a1 : Int32) (a2 : Int32) (a3 : Int32) (a4 : Int32) (a5 : Int32) (a6 : Int32) (a7 : Int32) (a8 : Int32) (a9 : Int32) (a10 : Int32) (a11 : Int32) (a12 : Int32) (a13 : Int32) (s0 : Int32) (γ : St) (H : Heap) (locs : List Loc) (ls : Array Slot) (cells slots : Nat), lv_has ls 17 [(0, .ref (kA κ 7 0)), (1, .int a1), (2, .int a2), (3, .int a3), (4, .int a4), (5, .int a5), (6, .int a6), (7, .int a7), (8, .int a8), (9, .int a9), (10, .int a10), (11, .int a11), (12, .int a12), (13, .int a13)] → HE κ γ H → va_S (AA κ) s.heap H locs → cells + (204 + 102 * k33) ≤ 614 → slots + (4420 + 2210 * k33) ≤ 13272 → x_L_refuses_121 (x_L_refuses_33 k33) a1 a2 a3 a4 a5 a6 a7 a8 a9 a10 a11 a12 a13 s0 γ = res → W p l e (headSpec [Cond.code yL_refuses cL_refuses 17 (some .boolean)] ({ frames := 9, cells := 614, slots := 13272, locals := 191 } : Room)).room s m ([.ref (kA κ 7 0), .int y1, .int y2, .int y3] : List Value).toArray below meth c H locs cells slots (MQ below (QL κ res.2.2 (some (.int res.2.1))) ([.ref (kA κ 7 0), .int y1, .int y2, .int y3] : List Value).toArray s 614 13272 (AA κ)) (F0 m 121 ls [.int s0]) := by
        intro a1 a2 a3 a4 a5 a6 a7 a8 a9 a10 a11 a12 a13 s0 γ H locs ls cells slots hl hH hS hc1 hc2 hq
        refine lv_istore (lv' := [(14, .int s0), (0, .ref (kA κ 7 0)), (1, .int a1), (2, .int a2), (3, .int a3), (4, .int a4), (5, .int a5), (6, .int a6), (7, .int a7), (8, .int a8), (9, .int a9), (10, .int a10), (11, .int a11), (12, .int a12), (13, .int a13)]) hx hb dL_refuses_121 hl (by decide) rfl (fun ls hl => ?_)
        refine lv_iload hx hb dL_refuses_123 (lv_at hl 10 rfl) ?_
        refine lv_iconst (v := 2) hx hb dL_refuses_125 (by decide) ?_
        refine lv_icmp_ne (tgt := 133) hx hb dL_refuses_126 (by decide) (fun c375 => ?_) (fun c375 => ?_)
        · have hq := ifne hq c375
          refine lv_iload hx hb dL_refuses_133 (lv_at hl 10 rfl) ?_
          refine lv_iconst (v := 1) hx hb dL_refuses_135 (by decide) ?_
          refine lv_icmp_ne (tgt := 144) hx hb dL_refuses_136 (by decide) (fun c376 => ?_) (fun c376 => ?_)
          · have hq := ifne hq c376
            refine lv_iload hx hb dL_refuses_144 (lv_at hl 5 rfl) ?_
            refine lv_ineg hx hb dL_refuses_146 ?_
            refine lv_iconst (v := 1) hx hb dL_refuses_147 (by decide) ?_
            refine lv_isub hx hb dL_refuses_148 ?_
            exact b_149 a1 a2 a3 a4 a5 a6 a7 a8 a9 a10 a11 a12 a13 s0 ((-a4) - 1) γ _ _ _ _ _ (lv_sub hl [1, 2, 3, 4, 5, 6, 7, 8, 9, 10, 11, 12, 13, 14, 0] rfl) hH hS (by omega) (by omega) hq
          · have hq := ifpe hq c376
            refine lv_bipush (v := (-2)) hx hb dL_refuses_139 (by decide) ?_
            refine lv_goto (tgt := 149) hx hb dL_refuses_141 (by decide) ?_
            exact b_149 a1 a2 a3 a4 a5 a6 a7 a8 a9 a10 a11 a12 a13 s0 ((-2)) γ _ _ _ _ _ (lv_sub hl [1, 2, 3, 4, 5, 6, 7, 8, 9, 10, 11, 12, 13, 14, 0] rfl) hH hS (by omega) (by omega) hq
        · have hq := ifpe hq c375
          refine lv_iconst (v := (-1)) hx hb dL_refuses_129 (by decide) ?_
          refine lv_goto (tgt := 149) hx hb dL_refuses_130 (by decide) ?_
          exact b_149 a1 a2 a3 a4 a5 a6 a7 a8 a9 a10 a11 a12 a13 s0 ((-1)) γ _ _ _ _ _ (lv_sub hl [1, 2, 3, 4, 5, 6, 7, 8, 9, 10, 11, 12, 13, 14, 0] rfl) hH hS (by omega) (by omega) hq
      have b_106 : ∀ (a1 : Int32) (a2 : Int32) (a3 : Int32) (a4 : Int32) (a5 : Int32) (a6 : Int32) (a7 : Int32) (a8 : Int32) (a9 : Int32) (a10 : Int32) (a11 : Int32) (a12 : Int32) (s0 : Int32) (γ : St) (H : Heap) (locs : List Loc) (ls : Array Slot) (cells slots : Nat), lv_has ls 17 [(0, .ref (kA κ 7 0)), (1, .int a1), (2, .int a2), (3, .int a3), (4, .int a4), (5, .int a5), (6, .int a6), (7, .int a7), (8, .int a8), (9, .int a9), (10, .int a10), (11, .int a11), (12, .int a12)] → HE κ γ H → va_S (AA κ) s.heap H locs → cells + (204 + 102 * k33) ≤ 614 → slots + (4420 + 2210 * k33) ≤ 13272 → x_L_refuses_106 (x_L_refuses_33 k33) a1 a2 a3 a4 a5 a6 a7 a8 a9 a10 a11 a12 s0 γ = res → W p l e (headSpec [Cond.code yL_refuses cL_refuses 17 (some .boolean)] ({ frames := 9, cells := 614, slots := 13272, locals := 191 } : Room)).room s m ([.ref (kA κ 7 0), .int y1, .int y2, .int y3] : List Value).toArray below meth c H locs cells slots (MQ below (QL κ res.2.2 (some (.int res.2.1))) ([.ref (kA κ 7 0), .int y1, .int y2, .int y3] : List Value).toArray s 614 13272 (AA κ)) (F0 m 106 ls [.int s0]) := by
        intro a1 a2 a3 a4 a5 a6 a7 a8 a9 a10 a11 a12 s0 γ H locs ls cells slots hl hH hS hc1 hc2 hq
        refine lv_istore (lv' := [(13, .int s0), (0, .ref (kA κ 7 0)), (1, .int a1), (2, .int a2), (3, .int a3), (4, .int a4), (5, .int a5), (6, .int a6), (7, .int a7), (8, .int a8), (9, .int a9), (10, .int a10), (11, .int a11), (12, .int a12)]) hx hb dL_refuses_106 hl (by decide) rfl (fun ls hl => ?_)
        refine lv_iload hx hb dL_refuses_108 (lv_at hl 10 rfl) ?_
        refine lv_iconst (v := 1) hx hb dL_refuses_110 (by decide) ?_
        refine lv_icmp_ne (tgt := 119) hx hb dL_refuses_111 (by decide) (fun c377 => ?_) (fun c377 => ?_)
        · have hq := ifne hq c377
          refine lv_iload hx hb dL_refuses_119 (lv_at hl 11 rfl) ?_
          exact b_121 a1 a2 a3 a4 a5 a6 a7 a8 a9 a10 a11 a12 s0 a10 γ _ _ _ _ _ (lv_sub hl [1, 2, 3, 4, 5, 6, 7, 8, 9, 10, 11, 12, 13, 0] rfl) hH hS (by omega) (by omega) hq
        · have hq := ifpe hq c377
          refine lv_ldc (v := 1000001) hx hb hown (hT _ tw_849) dL_refuses_114 ?_
          refine lv_goto (tgt := 121) hx hb dL_refuses_116 (by decide) ?_
          exact b_121 a1 a2 a3 a4 a5 a6 a7 a8 a9 a10 a11 a12 s0 1000001 γ _ _ _ _ _ (lv_sub hl [1, 2, 3, 4, 5, 6, 7, 8, 9, 10, 11, 12, 13, 0] rfl) hH hS (by omega) (by omega) hq
      have b_92 : ∀ (a1 : Int32) (a2 : Int32) (a3 : Int32) (a4 : Int32) (a5 : Int32) (a6 : Int32) (a7 : Int32) (a8 : Int32) (a9 : Int32) (a10 : Int32) (a11 : Int32) (s0 : Int32) (γ : St) (H : Heap) (locs : List Loc) (ls : Array Slot) (cells slots : Nat), lv_has ls 17 [(0, .ref (kA κ 7 0)), (1, .int a1), (2, .int a2), (3, .int a3), (4, .int a4), (5, .int a5), (6, .int a6), (7, .int a7), (8, .int a8), (9, .int a9), (10, .int a10), (11, .int a11)] → HE κ γ H → va_S (AA κ) s.heap H locs → cells + (204 + 102 * k33) ≤ 614 → slots + (4420 + 2210 * k33) ≤ 13272 → x_L_refuses_92 (x_L_refuses_33 k33) a1 a2 a3 a4 a5 a6 a7 a8 a9 a10 a11 s0 γ = res → W p l e (headSpec [Cond.code yL_refuses cL_refuses 17 (some .boolean)] ({ frames := 9, cells := 614, slots := 13272, locals := 191 } : Room)).room s m ([.ref (kA κ 7 0), .int y1, .int y2, .int y3] : List Value).toArray below meth c H locs cells slots (MQ below (QL κ res.2.2 (some (.int res.2.1))) ([.ref (kA κ 7 0), .int y1, .int y2, .int y3] : List Value).toArray s 614 13272 (AA κ)) (F0 m 92 ls [.int s0]) := by
        intro a1 a2 a3 a4 a5 a6 a7 a8 a9 a10 a11 s0 γ H locs ls cells slots hl hH hS hc1 hc2 hq
        refine lv_istore (lv' := [(12, .int s0), (0, .ref (kA κ 7 0)), (1, .int a1), (2, .int a2), (3, .int a3), (4, .int a4), (5, .int a5), (6, .int a6), (7, .int a7), (8, .int a8), (9, .int a9), (10, .int a10), (11, .int a11)]) hx hb dL_refuses_92 hl (by decide) rfl (fun ls hl => ?_)
        refine lv_iload hx hb dL_refuses_94 (lv_at hl 10 rfl) ?_
        refine lv_iconst (v := 1) hx hb dL_refuses_96 (by decide) ?_
        refine lv_icmp_ne (tgt := 104) hx hb dL_refuses_97 (by decide) (fun c378 => ?_) (fun c378 => ?_)
        · have hq := ifne hq c378
          refine lv_iload hx hb dL_refuses_104 (lv_at hl 11 rfl) ?_
          exact b_106 a1 a2 a3 a4 a5 a6 a7 a8 a9 a10 a11 s0 a10 γ _ _ _ _ _ (lv_sub hl [1, 2, 3, 4, 5, 6, 7, 8, 9, 10, 11, 12, 0] rfl) hH hS (by omega) (by omega) hq
        · have hq := ifpe hq c378
          refine lv_iconst (v := 2) hx hb dL_refuses_100 (by decide) ?_
          refine lv_goto (tgt := 106) hx hb dL_refuses_101 (by decide) ?_
          exact b_106 a1 a2 a3 a4 a5 a6 a7 a8 a9 a10 a11 s0 2 γ _ _ _ _ _ (lv_sub hl [1, 2, 3, 4, 5, 6, 7, 8, 9, 10, 11, 12, 0] rfl) hH hS (by omega) (by omega) hq
      have b_78 : ∀ (a1 : Int32) (a2 : Int32) (a3 : Int32) (a4 : Int32) (a5 : Int32) (a6 : Int32) (a7 : Int32) (a8 : Int32) (a9 : Int32) (a10 : Int32) (s0 : Int32) (γ : St) (H : Heap) (locs : List Loc) (ls : Array Slot) (cells slots : Nat), lv_has ls 17 [(0, .ref (kA κ 7 0)), (1, .int a1), (2, .int a2), (3, .int a3), (4, .int a4), (5, .int a5), (6, .int a6), (7, .int a7), (8, .int a8), (9, .int a9), (10, .int a10)] → HE κ γ H → va_S (AA κ) s.heap H locs → cells + (204 + 102 * k33) ≤ 614 → slots + (4420 + 2210 * k33) ≤ 13272 → x_L_refuses_78 (x_L_refuses_33 k33) a1 a2 a3 a4 a5 a6 a7 a8 a9 a10 s0 γ = res → W p l e (headSpec [Cond.code yL_refuses cL_refuses 17 (some .boolean)] ({ frames := 9, cells := 614, slots := 13272, locals := 191 } : Room)).room s m ([.ref (kA κ 7 0), .int y1, .int y2, .int y3] : List Value).toArray below meth c H locs cells slots (MQ below (QL κ res.2.2 (some (.int res.2.1))) ([.ref (kA κ 7 0), .int y1, .int y2, .int y3] : List Value).toArray s 614 13272 (AA κ)) (F0 m 78 ls [.int s0]) := by
        intro a1 a2 a3 a4 a5 a6 a7 a8 a9 a10 s0 γ H locs ls cells slots hl hH hS hc1 hc2 hq
        refine lv_istore (lv' := [(11, .int s0), (0, .ref (kA κ 7 0)), (1, .int a1), (2, .int a2), (3, .int a3), (4, .int a4), (5, .int a5), (6, .int a6), (7, .int a7), (8, .int a8), (9, .int a9), (10, .int a10)]) hx hb dL_refuses_78 hl (by decide) rfl (fun ls hl => ?_)
        refine lv_iload hx hb dL_refuses_80 (lv_at hl 10 rfl) ?_
        refine lv_iconst (v := 1) hx hb dL_refuses_82 (by decide) ?_
        refine lv_icmp_ne (tgt := 90) hx hb dL_refuses_83 (by decide) (fun c379 => ?_) (fun c379 => ?_)
        · have hq := ifne hq c379
          refine lv_iload hx hb dL_refuses_90 (lv_at hl 11 rfl) ?_
          exact b_92 a1 a2 a3 a4 a5 a6 a7 a8 a9 a10 s0 a10 γ _ _ _ _ _ (lv_sub hl [1, 2, 3, 4, 5, 6, 7, 8, 9, 10, 11, 0] rfl) hH hS (by omega) (by omega) hq
        · have hq := ifpe hq c379
          refine lv_iload_n hx hb dL_refuses_86 rfl (lv_at hl 3 rfl) ?_
          refine lv_goto (tgt := 92) hx hb dL_refuses_87 (by decide) ?_
          exact b_92 a1 a2 a3 a4 a5 a6 a7 a8 a9 a10 s0 a2 γ _ _ _ _ _ (lv_sub hl [1, 2, 3, 4, 5, 6, 7, 8, 9, 10, 11, 0] rfl) hH hS (by omega) (by omega) hq
      have b_64 : ∀ (a1 : Int32) (a2 : Int32) (a3 : Int32) (a4 : Int32) (a5 : Int32) (a6 : Int32) (a7 : Int32) (a8 : Int32) (a9 : Int32) (s0 : Int32) (γ : St) (H : Heap) (locs : List Loc) (ls : Array Slot) (cells slots : Nat), lv_has ls 17 [(0, .ref (kA κ 7 0)), (1, .int a1), (2, .int a2), (3, .int a3), (4, .int a4), (5, .int a5), (6, .int a6), (7, .int a7), (8, .int a8), (9, .int a9)] → HE κ γ H → va_S (AA κ) s.heap H locs → cells + (204 + 102 * k33) ≤ 614 → slots + (4420 + 2210 * k33) ≤ 13272 → x_L_refuses_64 (x_L_refuses_33 k33) a1 a2 a3 a4 a5 a6 a7 a8 a9 s0 γ = res → W p l e (headSpec [Cond.code yL_refuses cL_refuses 17 (some .boolean)] ({ frames := 9, cells := 614, slots := 13272, locals := 191 } : Room)).room s m ([.ref (kA κ 7 0), .int y1, .int y2, .int y3] : List Value).toArray below meth c H locs cells slots (MQ below (QL κ res.2.2 (some (.int res.2.1))) ([.ref (kA κ 7 0), .int y1, .int y2, .int y3] : List Value).toArray s 614 13272 (AA κ)) (F0 m 64 ls [.int s0]) := by
        intro a1 a2 a3 a4 a5 a6 a7 a8 a9 s0 γ H locs ls cells slots hl hH hS hc1 hc2 hq
        refine lv_istore (lv' := [(10, .int s0), (0, .ref (kA κ 7 0)), (1, .int a1), (2, .int a2), (3, .int a3), (4, .int a4), (5, .int a5), (6, .int a6), (7, .int a7), (8, .int a8), (9, .int a9)]) hx hb dL_refuses_64 hl (by decide) rfl (fun ls hl => ?_)
        refine lv_iload hx hb dL_refuses_66 (lv_at hl 10 rfl) ?_
        refine lv_iconst (v := 1) hx hb dL_refuses_68 (by decide) ?_
        refine lv_icmp_ne (tgt := 76) hx hb dL_refuses_69 (by decide) (fun c380 => ?_) (fun c380 => ?_)
        · have hq := ifne hq c380
          refine lv_iload hx hb dL_refuses_76 (lv_at hl 0 rfl) ?_
          exact b_78 a1 a2 a3 a4 a5 a6 a7 a8 a9 s0 s0 γ _ _ _ _ _ (lv_sub hl [1, 2, 3, 4, 5, 6, 7, 8, 9, 10, 0] rfl) hH hS (by omega) (by omega) hq
        · have hq := ifpe hq c380
          refine lv_iload_n hx hb dL_refuses_72 rfl (lv_at hl 2 rfl) ?_
          refine lv_goto (tgt := 78) hx hb dL_refuses_73 (by decide) ?_
          exact b_78 a1 a2 a3 a4 a5 a6 a7 a8 a9 s0 a1 γ _ _ _ _ _ (lv_sub hl [1, 2, 3, 4, 5, 6, 7, 8, 9, 10, 0] rfl) hH hS (by omega) (by omega) hq
      intro a1 a2 a3 a4 a5 a6 a7 a8 a9 γ H locs ls cells slots hl hH hS hc1 hc2 hq
      refine lv_iload hx hb dL_refuses_33 (lv_at hl 9 rfl) ?_
      refine lv_iconst (v := 4) hx hb dL_refuses_35 (by decide) ?_
      refine lv_icmp_ge (tgt := 986) hx hb dL_refuses_36 (by decide) (fun c381 => ?_) (fun c381 => ?_)
      · have hq := ifpe hq c381
        refine lv_aload_n hx hb dL_refuses_986 rfl (lv_at hl 0 rfl) ?_
        refine e_callV (rest := []) hC hl hH hS (co_holder l κ γ) tw_845 tw_846 tw_847 tw_38 tw_848 hd_X7_holder ⟨Nat.le_of_ble_eq_true rfl, Nat.le_of_ble_eq_true rfl⟩ rfl rfl rfl rfl (Nat.le_of_ble_eq_true rfl) dL_refuses_987 ⟨by show _ ≤ 614; omega, by show _ ≤ 13272; omega⟩ rfl (fun H locs hH hS => ?_)
        exact b_990 a5 a6 a7 a8 ((x_X7_holder γ).1) (x_X7_holder γ).2 _ _ _ _ _ (lv_sub hl [0, 5, 6, 7, 8] rfl) hH hS (by omega) (by omega) hq
      · have hq := ifne hq c381
        refine lv_iload hx hb dL_refuses_39 (lv_at hl 9 rfl) ?_
        refine lv_if_ne (tgt := 48) hx hb dL_refuses_41 (by decide) (fun c382 => ?_) (fun c382 => ?_)
        · have hq := ifne hq c382
          refine lv_iload hx hb dL_refuses_48 (lv_at hl 9 rfl) ?_
          refine lv_iconst (v := 2) hx hb dL_refuses_50 (by decide) ?_
          refine lv_icmp_ne (tgt := 59) hx hb dL_refuses_51 (by decide) (fun c383 => ?_) (fun c383 => ?_)
          · have hq := ifne hq c383
            refine lv_iload hx hb dL_refuses_59 (lv_at hl 4 rfl) ?_
            refine lv_ineg hx hb dL_refuses_61 ?_
            refine lv_iconst (v := 1) hx hb dL_refuses_62 (by decide) ?_
            refine lv_isub hx hb dL_refuses_63 ?_
            exact b_64 a1 a2 a3 a4 a5 a6 a7 a8 a9 ((-a4) - 1) γ _ _ _ _ _ (lv_sub hl [0, 1, 2, 3, 4, 5, 6, 7, 8, 9] rfl) hH hS (by omega) (by omega) hq
          · have hq := ifpe hq c383
            refine lv_iload hx hb dL_refuses_54 (lv_at hl 4 rfl) ?_
            refine lv_goto (tgt := 64) hx hb dL_refuses_56 (by decide) ?_
            exact b_64 a1 a2 a3 a4 a5 a6 a7 a8 a9 a4 γ _ _ _ _ _ (lv_sub hl [0, 1, 2, 3, 4, 5, 6, 7, 8, 9] rfl) hH hS (by omega) (by omega) hq
        · have hq := ifpe hq c382
          refine lv_iconst (v := (-1)) hx hb dL_refuses_44 (by decide) ?_
          refine lv_goto (tgt := 64) hx hb dL_refuses_45 (by decide) ?_
          exact b_64 a1 a2 a3 a4 a5 a6 a7 a8 a9 ((-1)) γ _ _ _ _ _ (lv_sub hl [0, 1, 2, 3, 4, 5, 6, 7, 8, 9] rfl) hH hS (by omega) (by omega) hq
  have b_8 : ∀ (a1 : Int32) (a2 : Int32) (a3 : Int32) (a4 : Int32) (s0 : Int32) (γ : St) (H : Heap) (locs : List Loc) (ls : Array Slot) (cells slots : Nat), lv_has ls 17 [(0, .ref (kA κ 7 0)), (1, .int a1), (2, .int a2), (3, .int a3), (4, .int a4)] → HE κ γ H → va_S (AA κ) s.heap H locs → cells + (614) ≤ 614 → slots + (13272) ≤ 13272 → x_L_refuses_8 a1 a2 a3 a4 s0 γ = res → W p l e (headSpec [Cond.code yL_refuses cL_refuses 17 (some .boolean)] ({ frames := 9, cells := 614, slots := 13272, locals := 191 } : Room)).room s m ([.ref (kA κ 7 0), .int y1, .int y2, .int y3] : List Value).toArray below meth c H locs cells slots (MQ below (QL κ res.2.2 (some (.int res.2.1))) ([.ref (kA κ 7 0), .int y1, .int y2, .int y3] : List Value).toArray s 614 13272 (AA κ)) (F0 m 8 ls [.int s0]) := by
    intro a1 a2 a3 a4 s0 γ H locs ls cells slots hl hH hS hc1 hc2 hq
    refine lv_istore (lv' := [(5, .int s0), (0, .ref (kA κ 7 0)), (1, .int a1), (2, .int a2), (3, .int a3), (4, .int a4)]) hx hb dL_refuses_8 hl (by decide) rfl (fun ls hl => ?_)
    refine lv_aload_n hx hb dL_refuses_10 rfl (lv_at hl 1 rfl) ?_
    refine e_callV (rest := []) hC hl hH hS (co_reason l κ γ) tw_250 tw_251 tw_252 tw_38 tw_253 hd_X7_reason ⟨Nat.le_of_ble_eq_true rfl, Nat.le_of_ble_eq_true rfl⟩ rfl rfl rfl rfl (Nat.le_of_ble_eq_true rfl) dL_refuses_11 ⟨by show _ ≤ 614; omega, by show _ ≤ 13272; omega⟩ rfl (fun H locs hH hS => ?_)
    refine lv_istore (lv' := [(6, .int ((x_X7_reason γ))), (5, .int s0), (0, .ref (kA κ 7 0)), (1, .int a1), (2, .int a2), (3, .int a3), (4, .int a4)]) hx hb dL_refuses_14 hl (by decide) rfl (fun ls hl => ?_)
    refine lv_aload_n hx hb dL_refuses_16 rfl (lv_at hl 2 rfl) ?_
    refine lv_iconst (v := 0) hx hb dL_refuses_17 (by decide) ?_
    refine e_xcallV (rest := []) hC hl hH hS (co_lamp l hfl κ γ 0) tw_837 tw_838 tw_839 tw_38 tw_840 hd_X7_lamp ⟨Nat.le_of_ble_eq_true rfl, Nat.le_of_ble_eq_true rfl⟩ rfl rfl rfl rfl (Nat.le_of_ble_eq_true rfl) dL_refuses_18 ⟨by show _ ≤ 614; omega, by show _ ≤ 13272; omega⟩ rfl (fun he384 ce q9 H locs hH hS hce hcv hcl => ?_) (fun he384 H locs hH hS => ?_)
    · exact flag_bad (ifne hq he384) hk
    have hq := ifpe hq he384
    refine lv_istore (lv' := [(7, .int ((x_X7_lamp 0 γ).2.1)), (6, .int ((x_X7_reason γ))), (5, .int s0), (0, .ref (kA κ 7 0)), (1, .int a1), (2, .int a2), (3, .int a3), (4, .int a4)]) hx hb dL_refuses_21 hl (by decide) rfl (fun ls hl => ?_)
    refine lv_aload_n hx hb dL_refuses_23 rfl (lv_at hl 3 rfl) ?_
    refine lv_iconst (v := 1) hx hb dL_refuses_24 (by decide) ?_
    refine e_xcallV (rest := []) hC hl hH hS (co_lamp l hfl κ (x_X7_lamp 0 γ).2.2 1) tw_837 tw_838 tw_839 tw_38 tw_840 hd_X7_lamp ⟨Nat.le_of_ble_eq_true rfl, Nat.le_of_ble_eq_true rfl⟩ rfl rfl rfl rfl (Nat.le_of_ble_eq_true rfl) dL_refuses_25 ⟨by show _ ≤ 614; omega, by show _ ≤ 13272; omega⟩ rfl (fun he385 ce q9 H locs hH hS hce hcv hcl => ?_) (fun he385 H locs hH hS => ?_)
    · exact flag_bad (ifne hq he385) hk
    have hq := ifpe hq he385
    refine lv_istore (lv' := [(8, .int ((x_X7_lamp 1 (x_X7_lamp 0 γ).2.2).2.1)), (7, .int ((x_X7_lamp 0 γ).2.1)), (6, .int ((x_X7_reason γ))), (5, .int s0), (0, .ref (kA κ 7 0)), (1, .int a1), (2, .int a2), (3, .int a3), (4, .int a4)]) hx hb dL_refuses_28 hl (by decide) rfl (fun ls hl => ?_)
    refine lv_iconst (v := 0) hx hb dL_refuses_30 (by decide) ?_
    refine lv_istore (lv' := [(9, .int 0), (8, .int ((x_X7_lamp 1 (x_X7_lamp 0 γ).2.2).2.1)), (7, .int ((x_X7_lamp 0 γ).2.1)), (6, .int ((x_X7_reason γ))), (5, .int s0), (0, .ref (kA κ 7 0)), (1, .int a1), (2, .int a2), (3, .int a3), (4, .int a4)]) hx hb dL_refuses_31 hl (by decide) rfl (fun ls hl => ?_)
    exact b_33 5 a1 a2 a3 a4 s0 ((x_X7_reason γ)) ((x_X7_lamp 0 γ).2.1) ((x_X7_lamp 1 (x_X7_lamp 0 γ).2.2).2.1) 0 (x_X7_lamp 1 (x_X7_lamp 0 γ).2.2).2.2 _ _ _ _ _ (lv_sub hl [5, 6, 7, 8, 9, 4, 3, 2, 1, 0] rfl) hH hS (by omega) (by omega) hq
  refine lv_ldc (v := 2147483647) hx hb hown (hT _ tw_844) dL_refuses_0 ?_
  refine lv_istore (lv' := [(4, .int 2147483647), (0, .ref (kA κ 7 0)), (1, .int y1), (2, .int y2), (3, .int y3)]) hx hb dL_refuses_2 hl (by decide) rfl (fun ls hl => ?_)
  refine lv_aload_n hx hb dL_refuses_4 rfl (lv_at hl 1 rfl) ?_
  refine e_callV (rest := []) hC hl hH hS (co_holder l κ γ) tw_845 tw_846 tw_847 tw_38 tw_848 hd_X7_holder ⟨Nat.le_of_ble_eq_true rfl, Nat.le_of_ble_eq_true rfl⟩ rfl rfl rfl rfl (Nat.le_of_ble_eq_true rfl) dL_refuses_5 ⟨by show _ ≤ 614; omega, by show _ ≤ 13272; omega⟩ rfl (fun H locs hH hS => ?_)
  exact b_8 y1 y2 y3 2147483647 ((x_X7_holder γ).1) (x_X7_holder γ).2 _ _ _ _ _ (lv_sub hl [1, 2, 3, 4, 0] rfl) hH hS (by omega) (by omega) hq
set_option maxRecDepth 20000 in
set_option maxHeartbeats 4000000 in
theorem c_L_item (l : Launch) (hfl : l.stackTraces = false) (κ : KP) (γ : St) (y1 : Int32) (y2 : Int32) (hk : (x_L_item y1 y2 γ).1 = 0) : Met l yL_item [Cond.code yL_item cL_item 7 (some .boolean)] ({ frames := 9, cells := 3, slots := 65, locals := 191 } : Room) (va_Pc [.ref (kA κ 7 0), .int y1, .int y2] (GW κ γ)) (QL κ (x_L_item y1 y2 γ).2.2 (some (.int (x_L_item y1 y2 γ).2.1))) 3 65 (AA κ) := by
  generalize hq : x_L_item y1 y2 γ = res at hk ⊢
  refine Met.ofW (cc := cL_item) (maxL := 7) (ret := (some .boolean)) (by decide) rfl ?_
  intro p e s m args below meth c s₁ B hml9 hv
  obtain ⟨rfl, hH, hK9, hB9, hX9, hZ9⟩ := hv
  have hC : CX κ cL_item "PhrasehallLaw" 7 p l s m ([.ref (kA κ 7 0), .int y1, .int y2] : List Value).toArray meth c := ⟨B.exec, B.bytes, findClass_of_methodNamed B.named, fun w hw => tw_use (List.mem_filter.mp hw).2 (State.WarmedH.refl s) (hX9.1 w hw), hK9, hX9, hZ9, hB9, hml9, B.notSynchronized⟩
  obtain ⟨hx, hb, hown, hT, -, -, -, -, hml, -⟩ := id hC
  have hr := B.returns
  have hS : va_S (AA κ) s.heap s.heap [] := va_S.rf
  have hl := lv_entry ([.ref (kA κ 7 0), .int y1, .int y2]) (n := 7) (Nat.le_of_ble_eq_true rfl)
  rw [lg_entry_eq]
  generalize (lg_sl ([.ref (kA κ 7 0), .int y1, .int y2]) ++ List.replicate (7 - (lg_sl ([.ref (kA κ 7 0), .int y1, .int y2])).length) Slot.unset).toArray = ls at hl ⊢
  have hl : lv_has ls 7 [(0, .ref (kA κ 7 0)), (1, .int y1), (2, .int y2)] := hl
  have hc1 : 0 + 3 ≤ 3 := Nat.le_of_ble_eq_true rfl
  have hc2 : 0 + 65 ≤ 65 := Nat.le_of_ble_eq_true rfl
  have b_72 : ∀ (a2 : Int32) (s0 : Int32) (γ : St) (H : Heap) (locs : List Loc) (ls : Array Slot) (cells slots : Nat), lv_has ls 7 [(2, .int a2)] → HE κ γ H → va_S (AA κ) s.heap H locs → cells + (0) ≤ 3 → slots + (0) ≤ 65 → x_L_item_72 a2 s0 γ = res → W p l e (headSpec [Cond.code yL_item cL_item 7 (some .boolean)] ({ frames := 9, cells := 3, slots := 65, locals := 191 } : Room)).room s m ([.ref (kA κ 7 0), .int y1, .int y2] : List Value).toArray below meth c H locs cells slots (MQ below (QL κ res.2.2 (some (.int res.2.1))) ([.ref (kA κ 7 0), .int y1, .int y2] : List Value).toArray s 3 65 (AA κ)) (F0 m 72 ls [.int s0]) := by
    intro a2 s0 γ H locs ls cells slots hl hH hS hc1 hc2 hq
    refine lv_istore (lv' := [(6, .int s0), (2, .int a2)]) hx hb dL_item_72 hl (by decide) rfl (fun ls hl => ?_)
    refine lv_iload hx hb dL_item_74 (lv_at hl 0 rfl) ?_
    refine lv_iload_n hx hb dL_item_76 rfl (lv_at hl 1 rfl) ?_
    refine lv_icmp_ne (tgt := 84) hx hb dL_item_77 (by decide) (fun c13 => ?_) (fun c13 => ?_)
    · have hq := ifne hq c13
      refine lv_iconst (v := 0) hx hb dL_item_84 (by decide) ?_
      subst hq
      exact er_z hC hr rfl hH hS rfl rfl (by omega) (by omega) dL_item_85
    · have hq := ifpe hq c13
      refine lv_iconst (v := 1) hx hb dL_item_80 (by decide) ?_
      refine lv_goto (tgt := 85) hx hb dL_item_81 (by decide) ?_
      subst hq
      exact er_z hC hr rfl hH hS rfl rfl (by omega) (by omega) dL_item_85
  have b_50 : ∀ (a2 : Int32) (s0 : Int32) (γ : St) (H : Heap) (locs : List Loc) (ls : Array Slot) (cells slots : Nat), lv_has ls 7 [(2, .int a2)] → HE κ γ H → va_S (AA κ) s.heap H locs → cells + (0) ≤ 3 → slots + (0) ≤ 65 → x_L_item_50 a2 s0 γ = res → W p l e (headSpec [Cond.code yL_item cL_item 7 (some .boolean)] ({ frames := 9, cells := 3, slots := 65, locals := 191 } : Room)).room s m ([.ref (kA κ 7 0), .int y1, .int y2] : List Value).toArray below meth c H locs cells slots (MQ below (QL κ res.2.2 (some (.int res.2.1))) ([.ref (kA κ 7 0), .int y1, .int y2] : List Value).toArray s 3 65 (AA κ)) (F0 m 50 ls [.int s0]) := by
    intro a2 s0 γ H locs ls cells slots hl hH hS hc1 hc2 hq
    refine lv_goto (tgt := 72) hx hb dL_item_50 (by decide) ?_
    exact b_72 a2 s0 γ _ _ _ _ _ (lv_sub hl [0] rfl) hH hS (by omega) (by omega) hq
  refine lv_iload_n hx hb dL_item_0 rfl (lv_at hl 1 rfl) ?_
  refine lv_if_ge (tgt := 6) hx hb dL_item_1 (by decide) (fun c14 => ?_) (fun c14 => ?_)
  · have hq := ifpe hq c14
    refine lv_iload_n hx hb dL_item_6 rfl (lv_at hl 1 rfl) ?_
    refine lv_ldc (v := 100000000) hx hb hown (hT _ tw_864) dL_item_7 ?_
    refine lv_idiv hx hb dL_item_9 (by decide) ?_
    refine lv_istore_n (lv' := [(3, .int (y1 / 100000000)), (0, .ref (kA κ 7 0)), (1, .int y1), (2, .int y2)]) hx hb dL_item_10 rfl hl (by decide) rfl (fun ls hl => ?_)
    refine lv_iload_n hx hb dL_item_11 rfl (lv_at hl 2 rfl) ?_
    refine lv_ldc (v := 10000000) hx hb hown (hT _ tw_865) dL_item_12 ?_
    refine lv_idiv hx hb dL_item_14 (by decide) ?_
    refine lv_bipush (v := 10) hx hb dL_item_15 (by decide) ?_
    refine lv_irem hx hb dL_item_17 (by decide) ?_
    refine lv_istore (lv' := [(4, .int ((y1 / 10000000) - (y1 / 10000000) / 10 * 10)), (3, .int (y1 / 100000000)), (0, .ref (kA κ 7 0)), (1, .int y1), (2, .int y2)]) hx hb dL_item_18 hl (by decide) rfl (fun ls hl => ?_)
    refine lv_iload_n hx hb dL_item_20 rfl (lv_at hl 3 rfl) ?_
    refine lv_sipush (v := 10000) hx hb dL_item_21 (by decide) ?_
    refine lv_idiv hx hb dL_item_24 (by decide) ?_
    refine lv_sipush (v := 1000) hx hb dL_item_25 (by decide) ?_
    refine lv_irem hx hb dL_item_28 (by decide) ?_
    refine lv_istore (lv' := [(5, .int ((y1 / 10000) - (y1 / 10000) / 1000 * 1000)), (4, .int ((y1 / 10000000) - (y1 / 10000000) / 10 * 10)), (3, .int (y1 / 100000000)), (0, .ref (kA κ 7 0)), (1, .int y1), (2, .int y2)]) hx hb dL_item_29 hl (by decide) rfl (fun ls hl => ?_)
    refine lv_iload hx hb dL_item_31 (lv_at hl 1 rfl) ?_
    refine lv_bipush (v := 7) hx hb dL_item_33 (by decide) ?_
    refine lv_icmp_ge (tgt := 53) hx hb dL_item_35 (by decide) (fun c15 => ?_) (fun c15 => ?_)
    · have hq := ifpe hq c15
      refine lv_aload_n hx hb dL_item_53 rfl (lv_at hl 3 rfl) ?_
      refine lv_iconst (v := 3) hx hb dL_item_54 (by decide) ?_
      refine lv_iload_n hx hb dL_item_55 rfl (lv_at hl 2 rfl) ?_
      refine lv_iload hx hb dL_item_56 (lv_at hl 0 rfl) ?_
      refine lv_iload_n hx hb dL_item_58 rfl (lv_at hl 4 rfl) ?_
      refine lv_sipush (v := 10000) hx hb dL_item_59 (by decide) ?_
      refine lv_irem hx hb dL_item_62 (by decide) ?_
      refine lv_iload hx hb dL_item_63 (lv_at hl 1 rfl) ?_
      refine lv_bipush (v := 7) hx hb dL_item_65 (by decide) ?_
      refine lv_isub hx hb dL_item_67 ?_
      refine lv_iconst (v := 0) hx hb dL_item_68 (by decide) ?_
      refine e_callW (rest := []) hC hl hH hS (c_L_call l hfl κ γ 3 (y1 / 100000000) ((y1 / 10000) - (y1 / 10000) / 1000 * 1000) (y1 - y1 / 10000 * 10000) (((y1 / 10000000) - (y1 / 10000000) / 10 * 10) - 7) 0) tw_430 tw_431 tw_37 tw_432 hd_L_call ⟨Nat.le_of_ble_eq_true rfl, Nat.le_of_ble_eq_true rfl⟩ rfl rfl rfl rfl (Nat.le_of_ble_eq_true rfl) dL_item_69 ⟨by show _ ≤ 3; omega, by show _ ≤ 65; omega⟩ rfl (fun H locs hH hS => ?_)
      exact b_72 y2 ((x_L_call 3 (y1 / 100000000) ((y1 / 10000) - (y1 / 10000) / 1000 * 1000) (y1 - y1 / 10000 * 10000) (((y1 / 10000000) - (y1 / 10000000) / 10 * 10) - 7) 0 γ).1) (x_L_call 3 (y1 / 100000000) ((y1 / 10000) - (y1 / 10000) / 1000 * 1000) (y1 - y1 / 10000 * 10000) (((y1 / 10000000) - (y1 / 10000000) / 10 * 10) - 7) 0 γ).2 _ _ _ _ _ (lv_sub hl [5] rfl) hH hS (by omega) (by omega) hq
    · have hq := ifne hq c15
      refine lv_aload_n hx hb dL_item_38 rfl (lv_at hl 3 rfl) ?_
      refine lv_iconst (v := 2) hx hb dL_item_39 (by decide) ?_
      refine lv_iload_n hx hb dL_item_40 rfl (lv_at hl 2 rfl) ?_
      refine lv_iload hx hb dL_item_41 (lv_at hl 1 rfl) ?_
      refine lv_iload hx hb dL_item_43 (lv_at hl 0 rfl) ?_
      refine lv_iconst (v := 0) hx hb dL_item_45 (by decide) ?_
      refine lv_iconst (v := 0) hx hb dL_item_46 (by decide) ?_
      refine e_callW (rest := []) hC hl hH hS (c_L_call l hfl κ γ 2 (y1 / 100000000) ((y1 / 10000000) - (y1 / 10000000) / 10 * 10) ((y1 / 10000) - (y1 / 10000) / 1000 * 1000) 0 0) tw_430 tw_431 tw_37 tw_432 hd_L_call ⟨Nat.le_of_ble_eq_true rfl, Nat.le_of_ble_eq_true rfl⟩ rfl rfl rfl rfl (Nat.le_of_ble_eq_true rfl) dL_item_47 ⟨by show _ ≤ 3; omega, by show _ ≤ 65; omega⟩ rfl (fun H locs hH hS => ?_)
      exact b_50 y2 ((x_L_call 2 (y1 / 100000000) ((y1 / 10000000) - (y1 / 10000000) / 10 * 10) ((y1 / 10000) - (y1 / 10000) / 1000 * 1000) 0 0 γ).1) (x_L_call 2 (y1 / 100000000) ((y1 / 10000000) - (y1 / 10000000) / 10 * 10) ((y1 / 10000) - (y1 / 10000) / 1000 * 1000) 0 0 γ).2 _ _ _ _ _ (lv_sub hl [5] rfl) hH hS (by omega) (by omega) hq
  · have hq := ifne hq c14
    refine lv_iconst (v := 1) hx hb dL_item_4 (by decide) ?_
    subst hq
    exact er_z hC hr rfl hH hS rfl rfl (by omega) (by omega) dL_item_5
set_option maxRecDepth 20000 in
set_option maxHeartbeats 4000000 in
theorem c_L_phrase (l : Launch) (hfl : l.stackTraces = false) (κ : KP) (γ : St) (y1 : Int32) (y2 : Int32) (y3 : Int32) (y4 : Int32) (hk : (x_L_phrase y1 y2 y3 y4 γ).1 = 0) : Met l yL_phrase [Cond.code yL_phrase cL_phrase 5 (some .boolean)] ({ frames := 10, cells := 12, slots := 260, locals := 217 } : Room) (va_Pc [.ref (kA κ 7 0), .int y1, .int y2, .int y3, .int y4] (GW κ γ)) (QL κ (x_L_phrase y1 y2 y3 y4 γ).2.2 (some (.int (x_L_phrase y1 y2 y3 y4 γ).2.1))) 12 260 (AA κ) := by
  generalize hq : x_L_phrase y1 y2 y3 y4 γ = res at hk ⊢
  refine Met.ofW (cc := cL_phrase) (maxL := 5) (ret := (some .boolean)) (by decide) rfl ?_
  intro p e s m args below meth c s₁ B hml9 hv
  obtain ⟨rfl, hH, hK9, hB9, hX9, hZ9⟩ := hv
  have hC : CX κ cL_phrase "PhrasehallLaw" 5 p l s m ([.ref (kA κ 7 0), .int y1, .int y2, .int y3, .int y4] : List Value).toArray meth c := ⟨B.exec, B.bytes, findClass_of_methodNamed B.named, fun w hw => tw_use (List.mem_filter.mp hw).2 (State.WarmedH.refl s) (hX9.1 w hw), hK9, hX9, hZ9, hB9, hml9, B.notSynchronized⟩
  obtain ⟨hx, hb, hown, hT, -, -, -, -, hml, -⟩ := id hC
  have hr := B.returns
  have hS : va_S (AA κ) s.heap s.heap [] := va_S.rf
  have hl := lv_entry ([.ref (kA κ 7 0), .int y1, .int y2, .int y3, .int y4]) (n := 5) (Nat.le_of_ble_eq_true rfl)
  rw [lg_entry_eq]
  generalize (lg_sl ([.ref (kA κ 7 0), .int y1, .int y2, .int y3, .int y4]) ++ List.replicate (5 - (lg_sl ([.ref (kA κ 7 0), .int y1, .int y2, .int y3, .int y4])).length) Slot.unset).toArray = ls at hl ⊢
  have hl : lv_has ls 5 [(0, .ref (kA κ 7 0)), (1, .int y1), (2, .int y2), (3, .int y3), (4, .int y4)] := hl
  have hc1 : 0 + 12 ≤ 12 := Nat.le_of_ble_eq_true rfl
  have hc2 : 0 + 260 ≤ 260 := Nat.le_of_ble_eq_true rfl
  have b_41 : ∀ (γ : St) (H : Heap) (locs : List Loc) (ls : Array Slot) (cells slots : Nat), lv_has ls 5 [] → HE κ γ H → va_S (AA κ) s.heap H locs → cells + (0) ≤ 12 → slots + (0) ≤ 260 → x_L_phrase_41 γ = res → W p l e (headSpec [Cond.code yL_phrase cL_phrase 5 (some .boolean)] ({ frames := 10, cells := 12, slots := 260, locals := 217 } : Room)).room s m ([.ref (kA κ 7 0), .int y1, .int y2, .int y3, .int y4] : List Value).toArray below meth c H locs cells slots (MQ below (QL κ res.2.2 (some (.int res.2.1))) ([.ref (kA κ 7 0), .int y1, .int y2, .int y3, .int y4] : List Value).toArray s 12 260 (AA κ)) (F0 m 41 ls []) := by
    intro γ H locs ls cells slots hl hH hS hc1 hc2 hq
    refine lv_iconst (v := 0) hx hb dL_phrase_41 (by decide) ?_
    subst hq
    exact er_z hC hr rfl hH hS rfl rfl (by omega) (by omega) dL_phrase_42
  have b_34 : ∀ (s0 : Int32) (γ : St) (H : Heap) (locs : List Loc) (ls : Array Slot) (cells slots : Nat), lv_has ls 5 [] → HE κ γ H → va_S (AA κ) s.heap H locs → cells + (0) ≤ 12 → slots + (0) ≤ 260 → x_L_phrase_34 s0 γ = res → W p l e (headSpec [Cond.code yL_phrase cL_phrase 5 (some .boolean)] ({ frames := 10, cells := 12, slots := 260, locals := 217 } : Room)).room s m ([.ref (kA κ 7 0), .int y1, .int y2, .int y3, .int y4] : List Value).toArray below meth c H locs cells slots (MQ below (QL κ res.2.2 (some (.int res.2.1))) ([.ref (kA κ 7 0), .int y1, .int y2, .int y3, .int y4] : List Value).toArray s 12 260 (AA κ)) (F0 m 34 ls [.int s0]) := by
    intro s0 γ H locs ls cells slots hl hH hS hc1 hc2 hq
    refine lv_if_eq (tgt := 41) hx hb dL_phrase_34 (by decide) (fun c33 => ?_) (fun c33 => ?_)
    · have hq := ifpe hq c33
      exact b_41 γ _ _ _ _ _ (lv_sub hl [] rfl) hH hS (by omega) (by omega) hq
    · have hq := ifne hq c33
      refine lv_iconst (v := 1) hx hb dL_phrase_37 (by decide) ?_
      refine lv_goto (tgt := 42) hx hb dL_phrase_38 (by decide) ?_
      subst hq
      exact er_z hC hr rfl hH hS rfl rfl (by omega) (by omega) dL_phrase_42
  have b_24 : ∀ (a4 : Int32) (s0 : Int32) (γ : St) (H : Heap) (locs : List Loc) (ls : Array Slot) (cells slots : Nat), lv_has ls 5 [(0, .ref (kA κ 7 0)), (4, .int a4)] → HE κ γ H → va_S (AA κ) s.heap H locs → cells + (3) ≤ 12 → slots + (65) ≤ 260 → x_L_phrase_24 a4 s0 γ = res → W p l e (headSpec [Cond.code yL_phrase cL_phrase 5 (some .boolean)] ({ frames := 10, cells := 12, slots := 260, locals := 217 } : Room)).room s m ([.ref (kA κ 7 0), .int y1, .int y2, .int y3, .int y4] : List Value).toArray below meth c H locs cells slots (MQ below (QL κ res.2.2 (some (.int res.2.1))) ([.ref (kA κ 7 0), .int y1, .int y2, .int y3, .int y4] : List Value).toArray s 12 260 (AA κ)) (F0 m 24 ls [.int s0]) := by
    intro a4 s0 γ H locs ls cells slots hl hH hS hc1 hc2 hq
    refine lv_if_eq (tgt := 41) hx hb dL_phrase_24 (by decide) (fun c34 => ?_) (fun c34 => ?_)
    · have hq := ifpe hq c34
      exact b_41 γ _ _ _ _ _ (lv_sub hl [] rfl) hH hS (by omega) (by omega) hq
    · have hq := ifne hq c34
      refine lv_aload_n hx hb dL_phrase_27 rfl (lv_at hl 0 rfl) ?_
      refine lv_iload hx hb dL_phrase_28 (lv_at hl 1 rfl) ?_
      refine lv_iconst (v := 4) hx hb dL_phrase_30 (by decide) ?_
      by_cases he35 : (x_L_item a4 4 γ).1 = 0
      rotate_left
      · exact flag_bad (ifne hq he35) hk
      have hq := ifpe hq he35
      refine e_callS (rest := []) hC hl hH hS (c_L_item l hfl κ γ a4 4 he35) tw_861 tw_862 tw_37 tw_863 hd_L_item ⟨Nat.le_of_ble_eq_true rfl, Nat.le_of_ble_eq_true rfl⟩ rfl rfl rfl rfl (Nat.le_of_ble_eq_true rfl) dL_phrase_31 ⟨by show _ ≤ 12; omega, by show _ ≤ 260; omega⟩ rfl (fun H locs hH hS => ?_)
      exact b_34 ((x_L_item a4 4 γ).2.1) (x_L_item a4 4 γ).2.2 _ _ _ _ _ (lv_sub hl [] rfl) hH hS (by omega) (by omega) hq
  have b_15 : ∀ (a3 : Int32) (a4 : Int32) (s0 : Int32) (γ : St) (H : Heap) (locs : List Loc) (ls : Array Slot) (cells slots : Nat), lv_has ls 5 [(0, .ref (kA κ 7 0)), (3, .int a3), (4, .int a4)] → HE κ γ H → va_S (AA κ) s.heap H locs → cells + (6) ≤ 12 → slots + (130) ≤ 260 → x_L_phrase_15 a3 a4 s0 γ = res → W p l e (headSpec [Cond.code yL_phrase cL_phrase 5 (some .boolean)] ({ frames := 10, cells := 12, slots := 260, locals := 217 } : Room)).room s m ([.ref (kA κ 7 0), .int y1, .int y2, .int y3, .int y4] : List Value).toArray below meth c H locs cells slots (MQ below (QL κ res.2.2 (some (.int res.2.1))) ([.ref (kA κ 7 0), .int y1, .int y2, .int y3, .int y4] : List Value).toArray s 12 260 (AA κ)) (F0 m 15 ls [.int s0]) := by
    intro a3 a4 s0 γ H locs ls cells slots hl hH hS hc1 hc2 hq
    refine lv_if_eq (tgt := 41) hx hb dL_phrase_15 (by decide) (fun c36 => ?_) (fun c36 => ?_)
    · have hq := ifpe hq c36
      exact b_41 γ _ _ _ _ _ (lv_sub hl [] rfl) hH hS (by omega) (by omega) hq
    · have hq := ifne hq c36
      refine lv_aload_n hx hb dL_phrase_18 rfl (lv_at hl 0 rfl) ?_
      refine lv_iload_n hx hb dL_phrase_19 rfl (lv_at hl 1 rfl) ?_
      refine lv_iconst (v := 3) hx hb dL_phrase_20 (by decide) ?_
      by_cases he37 : (x_L_item a3 3 γ).1 = 0
      rotate_left
      · exact flag_bad (ifne hq he37) hk
      have hq := ifpe hq he37
      refine e_callS (rest := []) hC hl hH hS (c_L_item l hfl κ γ a3 3 he37) tw_861 tw_862 tw_37 tw_863 hd_L_item ⟨Nat.le_of_ble_eq_true rfl, Nat.le_of_ble_eq_true rfl⟩ rfl rfl rfl rfl (Nat.le_of_ble_eq_true rfl) dL_phrase_21 ⟨by show _ ≤ 12; omega, by show _ ≤ 260; omega⟩ rfl (fun H locs hH hS => ?_)
      exact b_24 a4 ((x_L_item a3 3 γ).2.1) (x_L_item a3 3 γ).2.2 _ _ _ _ _ (lv_sub hl [0, 2] rfl) hH hS (by omega) (by omega) hq
  have b_6 : ∀ (a2 : Int32) (a3 : Int32) (a4 : Int32) (s0 : Int32) (γ : St) (H : Heap) (locs : List Loc) (ls : Array Slot) (cells slots : Nat), lv_has ls 5 [(0, .ref (kA κ 7 0)), (2, .int a2), (3, .int a3), (4, .int a4)] → HE κ γ H → va_S (AA κ) s.heap H locs → cells + (9) ≤ 12 → slots + (195) ≤ 260 → x_L_phrase_6 a2 a3 a4 s0 γ = res → W p l e (headSpec [Cond.code yL_phrase cL_phrase 5 (some .boolean)] ({ frames := 10, cells := 12, slots := 260, locals := 217 } : Room)).room s m ([.ref (kA κ 7 0), .int y1, .int y2, .int y3, .int y4] : List Value).toArray below meth c H locs cells slots (MQ below (QL κ res.2.2 (some (.int res.2.1))) ([.ref (kA κ 7 0), .int y1, .int y2, .int y3, .int y4] : List Value).toArray s 12 260 (AA κ)) (F0 m 6 ls [.int s0]) := by
    intro a2 a3 a4 s0 γ H locs ls cells slots hl hH hS hc1 hc2 hq
    refine lv_if_eq (tgt := 41) hx hb dL_phrase_6 (by decide) (fun c38 => ?_) (fun c38 => ?_)
    · have hq := ifpe hq c38
      exact b_41 γ _ _ _ _ _ (lv_sub hl [] rfl) hH hS (by omega) (by omega) hq
    · have hq := ifne hq c38
      refine lv_aload_n hx hb dL_phrase_9 rfl (lv_at hl 0 rfl) ?_
      refine lv_iload_n hx hb dL_phrase_10 rfl (lv_at hl 1 rfl) ?_
      refine lv_iconst (v := 2) hx hb dL_phrase_11 (by decide) ?_
      by_cases he39 : (x_L_item a2 2 γ).1 = 0
      rotate_left
      · exact flag_bad (ifne hq he39) hk
      have hq := ifpe hq he39
      refine e_callS (rest := []) hC hl hH hS (c_L_item l hfl κ γ a2 2 he39) tw_861 tw_862 tw_37 tw_863 hd_L_item ⟨Nat.le_of_ble_eq_true rfl, Nat.le_of_ble_eq_true rfl⟩ rfl rfl rfl rfl (Nat.le_of_ble_eq_true rfl) dL_phrase_12 ⟨by show _ ≤ 12; omega, by show _ ≤ 260; omega⟩ rfl (fun H locs hH hS => ?_)
      exact b_15 a3 a4 ((x_L_item a2 2 γ).2.1) (x_L_item a2 2 γ).2.2 _ _ _ _ _ (lv_sub hl [0, 2, 3] rfl) hH hS (by omega) (by omega) hq
  refine lv_aload_n hx hb dL_phrase_0 rfl (lv_at hl 0 rfl) ?_
  refine lv_iload_n hx hb dL_phrase_1 rfl (lv_at hl 1 rfl) ?_
  refine lv_iconst (v := 1) hx hb dL_phrase_2 (by decide) ?_
  by_cases he40 : (x_L_item y1 1 γ).1 = 0
  rotate_left
  · exact flag_bad (ifne hq he40) hk
  have hq := ifpe hq he40
  refine e_callS (rest := []) hC hl hH hS (c_L_item l hfl κ γ y1 1 he40) tw_861 tw_862 tw_37 tw_863 hd_L_item ⟨Nat.le_of_ble_eq_true rfl, Nat.le_of_ble_eq_true rfl⟩ rfl rfl rfl rfl (Nat.le_of_ble_eq_true rfl) dL_phrase_3 ⟨by show _ ≤ 12; omega, by show _ ≤ 260; omega⟩ rfl (fun H locs hH hS => ?_)
  exact b_6 y2 y3 y4 ((x_L_item y1 1 γ).2.1) (x_L_item y1 1 γ).2.2 _ _ _ _ _ (lv_sub hl [0, 2, 3, 4] rfl) hH hS (by omega) (by omega) hq
set_option maxRecDepth 20000 in
set_option maxHeartbeats 4000000 in
theorem c_L_judged (l : Launch) (hfl : l.stackTraces = false) (κ : KP) (γ : St) (y1 : Int32) (y2 : Int32) (y3 : Int32) (y4 : Int32) (y5 : Int32) (hk : (x_L_judged y1 y2 y3 y4 y5 γ).1 = 0) : Met l yL_judged [Cond.code yL_judged cL_judged 6 (some .boolean)] ({ frames := 8, cells := 4, slots := 24, locals := 164 } : Room) (va_Pc [.ref (kA κ 7 0), .int y1, .int y2, .int y3, .int y4, .int y5] (GW κ γ)) (QL κ (x_L_judged y1 y2 y3 y4 y5 γ).2.2 (some (.int (x_L_judged y1 y2 y3 y4 y5 γ).2.1))) 4 24 (AA κ) := by
  generalize hq : x_L_judged y1 y2 y3 y4 y5 γ = res at hk ⊢
  refine Met.ofW (cc := cL_judged) (maxL := 6) (ret := (some .boolean)) (by decide) rfl ?_
  intro p e s m args below meth c s₁ B hml9 hv
  obtain ⟨rfl, hH, hK9, hB9, hX9, hZ9⟩ := hv
  have hC : CX κ cL_judged "PhrasehallLaw" 6 p l s m ([.ref (kA κ 7 0), .int y1, .int y2, .int y3, .int y4, .int y5] : List Value).toArray meth c := ⟨B.exec, B.bytes, findClass_of_methodNamed B.named, fun w hw => tw_use (List.mem_filter.mp hw).2 (State.WarmedH.refl s) (hX9.1 w hw), hK9, hX9, hZ9, hB9, hml9, B.notSynchronized⟩
  obtain ⟨hx, hb, hown, hT, -, -, -, -, hml, -⟩ := id hC
  have hr := B.returns
  have hS : va_S (AA κ) s.heap s.heap [] := va_S.rf
  have hl := lv_entry ([.ref (kA κ 7 0), .int y1, .int y2, .int y3, .int y4, .int y5]) (n := 6) (Nat.le_of_ble_eq_true rfl)
  rw [lg_entry_eq]
  generalize (lg_sl ([.ref (kA κ 7 0), .int y1, .int y2, .int y3, .int y4, .int y5]) ++ List.replicate (6 - (lg_sl ([.ref (kA κ 7 0), .int y1, .int y2, .int y3, .int y4, .int y5])).length) Slot.unset).toArray = ls at hl ⊢
  have hl : lv_has ls 6 [(0, .ref (kA κ 7 0)), (1, .int y1), (2, .int y2), (3, .int y3), (4, .int y4), (5, .int y5)] := hl
  have hc1 : 0 + 4 ≤ 4 := Nat.le_of_ble_eq_true rfl
  have hc2 : 0 + 24 ≤ 24 := Nat.le_of_ble_eq_true rfl
  have b_65 : ∀ (γ : St) (H : Heap) (locs : List Loc) (ls : Array Slot) (cells slots : Nat), lv_has ls 6 [] → HE κ γ H → va_S (AA κ) s.heap H locs → cells + (0) ≤ 4 → slots + (0) ≤ 24 → x_L_judged_65 γ = res → W p l e (headSpec [Cond.code yL_judged cL_judged 6 (some .boolean)] ({ frames := 8, cells := 4, slots := 24, locals := 164 } : Room)).room s m ([.ref (kA κ 7 0), .int y1, .int y2, .int y3, .int y4, .int y5] : List Value).toArray below meth c H locs cells slots (MQ below (QL κ res.2.2 (some (.int res.2.1))) ([.ref (kA κ 7 0), .int y1, .int y2, .int y3, .int y4, .int y5] : List Value).toArray s 4 24 (AA κ)) (F0 m 65 ls []) := by
    intro γ H locs ls cells slots hl hH hS hc1 hc2 hq
    refine lv_iconst (v := 0) hx hb dL_judged_65 (by decide) ?_
    subst hq
    exact er_z hC hr rfl hH hS rfl rfl (by omega) (by omega) dL_judged_66
  have b_48 : ∀ (s0 : Int32) (γ : St) (H : Heap) (locs : List Loc) (ls : Array Slot) (cells slots : Nat), lv_has ls 6 [(0, .ref (kA κ 7 0))] → HE κ γ H → va_S (AA κ) s.heap H locs → cells + (1) ≤ 4 → slots + (6) ≤ 24 → x_L_judged_48 s0 γ = res → W p l e (headSpec [Cond.code yL_judged cL_judged 6 (some .boolean)] ({ frames := 8, cells := 4, slots := 24, locals := 164 } : Room)).room s m ([.ref (kA κ 7 0), .int y1, .int y2, .int y3, .int y4, .int y5] : List Value).toArray below meth c H locs cells slots (MQ below (QL κ res.2.2 (some (.int res.2.1))) ([.ref (kA κ 7 0), .int y1, .int y2, .int y3, .int y4, .int y5] : List Value).toArray s 4 24 (AA κ)) (F0 m 48 ls [.int s0]) := by
    intro s0 γ H locs ls cells slots hl hH hS hc1 hc2 hq
    refine lv_iconst (v := (-1)) hx hb dL_judged_48 (by decide) ?_
    refine lv_icmp_ne (tgt := 65) hx hb dL_judged_49 (by decide) (fun c45 => ?_) (fun c45 => ?_)
    · have hq := ifne hq c45
      exact b_65 γ _ _ _ _ _ (lv_sub hl [] rfl) hH hS (by omega) (by omega) hq
    · have hq := ifpe hq c45
      refine lv_aload_n hx hb dL_judged_52 rfl (lv_at hl 0 rfl) ?_
      refine lv_iconst (v := 0) hx hb dL_judged_53 (by decide) ?_
      refine e_xcallV (rest := []) hC hl hH hS (co_lamp l hfl κ γ 0) tw_837 tw_838 tw_839 tw_38 tw_840 hd_X7_lamp ⟨Nat.le_of_ble_eq_true rfl, Nat.le_of_ble_eq_true rfl⟩ rfl rfl rfl rfl (Nat.le_of_ble_eq_true rfl) dL_judged_54 ⟨by show _ ≤ 4; omega, by show _ ≤ 24; omega⟩ rfl (fun he46 ce q9 H locs hH hS hce hcv hcl => ?_) (fun he46 H locs hH hS => ?_)
      · exact flag_bad (ifne hq he46) hk
      have hq := ifpe hq he46
      refine lv_iconst (v := (-1)) hx hb dL_judged_57 (by decide) ?_
      refine lv_icmp_ne (tgt := 65) hx hb dL_judged_58 (by decide) (fun c47 => ?_) (fun c47 => ?_)
      · have hq := ifne hq c47
        exact b_65 (x_X7_lamp 0 γ).2.2 _ _ _ _ _ (lv_sub hl [] rfl) hH hS (by omega) (by omega) hq
      · have hq := ifpe hq c47
        refine lv_iconst (v := 1) hx hb dL_judged_61 (by decide) ?_
        refine lv_goto (tgt := 66) hx hb dL_judged_62 (by decide) ?_
        subst hq
        exact er_z hC hr rfl hH hS rfl rfl (by omega) (by omega) dL_judged_66
  have b_30 : ∀ (a4 : Int32) (a5 : Int32) (s0 : Int32) (γ : St) (H : Heap) (locs : List Loc) (ls : Array Slot) (cells slots : Nat), lv_has ls 6 [(0, .ref (kA κ 7 0)), (4, .int a4), (5, .int a5)] → HE κ γ H → va_S (AA κ) s.heap H locs → cells + (1) ≤ 4 → slots + (6) ≤ 24 → x_L_judged_30 a4 a5 s0 γ = res → W p l e (headSpec [Cond.code yL_judged cL_judged 6 (some .boolean)] ({ frames := 8, cells := 4, slots := 24, locals := 164 } : Room)).room s m ([.ref (kA κ 7 0), .int y1, .int y2, .int y3, .int y4, .int y5] : List Value).toArray below meth c H locs cells slots (MQ below (QL κ res.2.2 (some (.int res.2.1))) ([.ref (kA κ 7 0), .int y1, .int y2, .int y3, .int y4, .int y5] : List Value).toArray s 4 24 (AA κ)) (F0 m 30 ls [.int s0]) := by
    intro a4 a5 s0 γ H locs ls cells slots hl hH hS hc1 hc2 hq
    refine lv_iload hx hb dL_judged_30 (lv_at hl 1 rfl) ?_
    refine lv_icmp_ne (tgt := 65) hx hb dL_judged_32 (by decide) (fun c48 => ?_) (fun c48 => ?_)
    · have hq := ifne hq c48
      exact b_65 γ _ _ _ _ _ (lv_sub hl [] rfl) hH hS (by omega) (by omega) hq
    · have hq := ifpe hq c48
      refine lv_aload_n hx hb dL_judged_35 rfl (lv_at hl 0 rfl) ?_
      refine e_callV (rest := []) hC hl hH hS (co_reason l κ γ) tw_250 tw_251 tw_252 tw_38 tw_253 hd_X7_reason ⟨Nat.le_of_ble_eq_true rfl, Nat.le_of_ble_eq_true rfl⟩ rfl rfl rfl rfl (Nat.le_of_ble_eq_true rfl) dL_judged_36 ⟨by show _ ≤ 4; omega, by show _ ≤ 24; omega⟩ rfl (fun H locs hH hS => ?_)
      refine lv_iload hx hb dL_judged_39 (lv_at hl 2 rfl) ?_
      refine lv_icmp_ne (tgt := 65) hx hb dL_judged_41 (by decide) (fun c49 => ?_) (fun c49 => ?_)
      · have hq := ifne hq c49
        exact b_65 γ _ _ _ _ _ (lv_sub hl [] rfl) hH hS (by omega) (by omega) hq
      · have hq := ifpe hq c49
        refine lv_aload_n hx hb dL_judged_44 rfl (lv_at hl 0 rfl) ?_
        refine e_callV (rest := []) hC hl hH hS (co_holder l κ γ) tw_845 tw_846 tw_847 tw_38 tw_848 hd_X7_holder ⟨Nat.le_of_ble_eq_true rfl, Nat.le_of_ble_eq_true rfl⟩ rfl rfl rfl rfl (Nat.le_of_ble_eq_true rfl) dL_judged_45 ⟨by show _ ≤ 4; omega, by show _ ≤ 24; omega⟩ rfl (fun H locs hH hS => ?_)
        exact b_48 ((x_X7_holder γ).1) (x_X7_holder γ).2 _ _ _ _ _ (lv_sub hl [0] rfl) hH hS (by omega) (by omega) hq
  have b_4 : ∀ (a1 : Int32) (a2 : Int32) (a3 : Int32) (a4 : Int32) (a5 : Int32) (s0 : Int32) (γ : St) (H : Heap) (locs : List Loc) (ls : Array Slot) (cells slots : Nat), lv_has ls 6 [(0, .ref (kA κ 7 0)), (1, .int a1), (2, .int a2), (3, .int a3), (4, .int a4), (5, .int a5)] → HE κ γ H → va_S (AA κ) s.heap H locs → cells + (4) ≤ 4 → slots + (24) ≤ 24 → x_L_judged_4 a1 a2 a3 a4 a5 s0 γ = res → W p l e (headSpec [Cond.code yL_judged cL_judged 6 (some .boolean)] ({ frames := 8, cells := 4, slots := 24, locals := 164 } : Room)).room s m ([.ref (kA κ 7 0), .int y1, .int y2, .int y3, .int y4, .int y5] : List Value).toArray below meth c H locs cells slots (MQ below (QL κ res.2.2 (some (.int res.2.1))) ([.ref (kA κ 7 0), .int y1, .int y2, .int y3, .int y4, .int y5] : List Value).toArray s 4 24 (AA κ)) (F0 m 4 ls [.int s0]) := by
    intro a1 a2 a3 a4 a5 s0 γ H locs ls cells slots hl hH hS hc1 hc2 hq
    refine lv_iload_n hx hb dL_judged_4 rfl (lv_at hl 1 rfl) ?_
    refine lv_icmp_ne (tgt := 65) hx hb dL_judged_5 (by decide) (fun c50 => ?_) (fun c50 => ?_)
    · have hq := ifne hq c50
      exact b_65 γ _ _ _ _ _ (lv_sub hl [] rfl) hH hS (by omega) (by omega) hq
    · have hq := ifpe hq c50
      refine lv_aload_n hx hb dL_judged_8 rfl (lv_at hl 0 rfl) ?_
      refine lv_iconst (v := 0) hx hb dL_judged_9 (by decide) ?_
      refine e_xcallV (rest := []) hC hl hH hS (co_lamp l hfl κ γ 0) tw_837 tw_838 tw_839 tw_38 tw_840 hd_X7_lamp ⟨Nat.le_of_ble_eq_true rfl, Nat.le_of_ble_eq_true rfl⟩ rfl rfl rfl rfl (Nat.le_of_ble_eq_true rfl) dL_judged_10 ⟨by show _ ≤ 4; omega, by show _ ≤ 24; omega⟩ rfl (fun he51 ce q9 H locs hH hS hce hcv hcl => ?_) (fun he51 H locs hH hS => ?_)
      · exact flag_bad (ifne hq he51) hk
      have hq := ifpe hq he51
      refine lv_iload_n hx hb dL_judged_13 rfl (lv_at hl 2 rfl) ?_
      refine lv_icmp_ne (tgt := 65) hx hb dL_judged_14 (by decide) (fun c52 => ?_) (fun c52 => ?_)
      · have hq := ifne hq c52
        exact b_65 (x_X7_lamp 0 γ).2.2 _ _ _ _ _ (lv_sub hl [] rfl) hH hS (by omega) (by omega) hq
      · have hq := ifpe hq c52
        refine lv_aload_n hx hb dL_judged_17 rfl (lv_at hl 0 rfl) ?_
        refine lv_iconst (v := 1) hx hb dL_judged_18 (by decide) ?_
        refine e_xcallV (rest := []) hC hl hH hS (co_lamp l hfl κ (x_X7_lamp 0 γ).2.2 1) tw_837 tw_838 tw_839 tw_38 tw_840 hd_X7_lamp ⟨Nat.le_of_ble_eq_true rfl, Nat.le_of_ble_eq_true rfl⟩ rfl rfl rfl rfl (Nat.le_of_ble_eq_true rfl) dL_judged_19 ⟨by show _ ≤ 4; omega, by show _ ≤ 24; omega⟩ rfl (fun he53 ce q9 H locs hH hS hce hcv hcl => ?_) (fun he53 H locs hH hS => ?_)
        · exact flag_bad (ifne hq he53) hk
        have hq := ifpe hq he53
        refine lv_iload_n hx hb dL_judged_22 rfl (lv_at hl 3 rfl) ?_
        refine lv_icmp_ne (tgt := 65) hx hb dL_judged_23 (by decide) (fun c54 => ?_) (fun c54 => ?_)
        · have hq := ifne hq c54
          exact b_65 (x_X7_lamp 1 (x_X7_lamp 0 γ).2.2).2.2 _ _ _ _ _ (lv_sub hl [] rfl) hH hS (by omega) (by omega) hq
        · have hq := ifpe hq c54
          refine lv_aload_n hx hb dL_judged_26 rfl (lv_at hl 0 rfl) ?_
          refine e_xcallV (rest := []) hC hl hH hS (co_judge l hfl κ (x_X7_lamp 1 (x_X7_lamp 0 γ).2.2).2.2) tw_565 tw_566 tw_567 tw_38 tw_568 hd_X7_judge ⟨Nat.le_of_ble_eq_true rfl, Nat.le_of_ble_eq_true rfl⟩ rfl rfl rfl rfl (Nat.le_of_ble_eq_true rfl) dL_judged_27 ⟨by show _ ≤ 4; omega, by show _ ≤ 24; omega⟩ rfl (fun he55 ce q9 H locs hH hS hce hcv hcl => ?_) (fun he55 H locs hH hS => ?_)
          · exact flag_bad (ifne hq he55) hk
          have hq := ifpe hq he55
          exact b_30 a4 a5 ((x_X7_judge (x_X7_lamp 1 (x_X7_lamp 0 γ).2.2).2.2).2.1) (x_X7_judge (x_X7_lamp 1 (x_X7_lamp 0 γ).2.2).2.2).2.2 _ _ _ _ _ (lv_sub hl [0, 4, 5] rfl) hH hS (by omega) (by omega) hq
  refine lv_aload_n hx hb dL_judged_0 rfl (lv_at hl 0 rfl) ?_
  refine e_callV (rest := []) hC hl hH hS (co_holder l κ γ) tw_845 tw_846 tw_847 tw_38 tw_848 hd_X7_holder ⟨Nat.le_of_ble_eq_true rfl, Nat.le_of_ble_eq_true rfl⟩ rfl rfl rfl rfl (Nat.le_of_ble_eq_true rfl) dL_judged_1 ⟨by show _ ≤ 4; omega, by show _ ≤ 24; omega⟩ rfl (fun H locs hH hS => ?_)
  exact b_4 y1 y2 y3 y4 y5 ((x_X7_holder γ).1) (x_X7_holder γ).2 _ _ _ _ _ (lv_sub hl [0, 1, 2, 3, 4, 5] rfl) hH hS (by omega) (by omega) hq
set_option maxRecDepth 20000 in
set_option maxHeartbeats 4000000 in
theorem c_L_bout (l : Launch) (hfl : l.stackTraces = false) (κ : KP) (γ : St) (y1 : Int32) (y2 : Int32) (y3 : Int32) (y4 : Int32) (y5 : Int32) (y6 : Int32) (y7 : Int32) (hk : (x_L_bout y1 y2 y3 y4 y5 y6 y7 γ).1 = 0) : Met l yL_bout [Cond.code yL_bout cL_bout 8 (some .boolean)] ({ frames := 7, cells := 6, slots := 36, locals := 113 } : Room) (va_Pc [.ref (kA κ 7 0), .int y1, .int y2, .int y3, .int y4, .int y5, .int y6, .int y7] (GW κ γ)) (QL κ (x_L_bout y1 y2 y3 y4 y5 y6 y7 γ).2.2 (some (.int (x_L_bout y1 y2 y3 y4 y5 y6 y7 γ).2.1))) 6 36 (AA κ) := by
  generalize hq : x_L_bout y1 y2 y3 y4 y5 y6 y7 γ = res at hk ⊢
  refine Met.ofW (cc := cL_bout) (maxL := 8) (ret := (some .boolean)) (by decide) rfl ?_
  intro p e s m args below meth c s₁ B hml9 hv
  obtain ⟨rfl, hH, hK9, hB9, hX9, hZ9⟩ := hv
  have hC : CX κ cL_bout "PhrasehallLaw" 8 p l s m ([.ref (kA κ 7 0), .int y1, .int y2, .int y3, .int y4, .int y5, .int y6, .int y7] : List Value).toArray meth c := ⟨B.exec, B.bytes, findClass_of_methodNamed B.named, fun w hw => tw_use (List.mem_filter.mp hw).2 (State.WarmedH.refl s) (hX9.1 w hw), hK9, hX9, hZ9, hB9, hml9, B.notSynchronized⟩
  obtain ⟨hx, hb, hown, hT, -, -, -, -, hml, -⟩ := id hC
  have hr := B.returns
  have hS : va_S (AA κ) s.heap s.heap [] := va_S.rf
  have hl := lv_entry ([.ref (kA κ 7 0), .int y1, .int y2, .int y3, .int y4, .int y5, .int y6, .int y7]) (n := 8) (Nat.le_of_ble_eq_true rfl)
  rw [lg_entry_eq]
  generalize (lg_sl ([.ref (kA κ 7 0), .int y1, .int y2, .int y3, .int y4, .int y5, .int y6, .int y7]) ++ List.replicate (8 - (lg_sl ([.ref (kA κ 7 0), .int y1, .int y2, .int y3, .int y4, .int y5, .int y6, .int y7])).length) Slot.unset).toArray = ls at hl ⊢
  have hl : lv_has ls 8 [(0, .ref (kA κ 7 0)), (1, .int y1), (2, .int y2), (3, .int y3), (4, .int y4), (5, .int y5), (6, .int y6), (7, .int y7)] := hl
  have hc1 : 0 + 6 ≤ 6 := Nat.le_of_ble_eq_true rfl
  have hc2 : 0 + 36 ≤ 36 := Nat.le_of_ble_eq_true rfl
  have b_68 : ∀ (γ : St) (H : Heap) (locs : List Loc) (ls : Array Slot) (cells slots : Nat), lv_has ls 8 [] → HE κ γ H → va_S (AA κ) s.heap H locs → cells + (0) ≤ 6 → slots + (0) ≤ 36 → x_L_bout_68 γ = res → W p l e (headSpec [Cond.code yL_bout cL_bout 8 (some .boolean)] ({ frames := 7, cells := 6, slots := 36, locals := 113 } : Room)).room s m ([.ref (kA κ 7 0), .int y1, .int y2, .int y3, .int y4, .int y5, .int y6, .int y7] : List Value).toArray below meth c H locs cells slots (MQ below (QL κ res.2.2 (some (.int res.2.1))) ([.ref (kA κ 7 0), .int y1, .int y2, .int y3, .int y4, .int y5, .int y6, .int y7] : List Value).toArray s 6 36 (AA κ)) (F0 m 68 ls []) := by
    intro γ H locs ls cells slots hl hH hS hc1 hc2 hq
    refine lv_iconst (v := 0) hx hb dL_bout_68 (by decide) ?_
    subst hq
    exact er_z hC hr rfl hH hS rfl rfl (by omega) (by omega) dL_bout_69
  refine lv_aload_n hx hb dL_bout_0 rfl (lv_at hl 0 rfl) ?_
  refine lv_iload_n hx hb dL_bout_1 rfl (lv_at hl 1 rfl) ?_
  refine lv_iconst (v := 0) hx hb dL_bout_2 (by decide) ?_
  refine e_xcallV (rest := []) hC hl hH hS (co_ofBout l hfl κ γ y1 0) tw_254 tw_255 tw_256 tw_38 tw_257 hd_X7_ofBout ⟨Nat.le_of_ble_eq_true rfl, Nat.le_of_ble_eq_true rfl⟩ rfl rfl rfl rfl (Nat.le_of_ble_eq_true rfl) dL_bout_3 ⟨by show _ ≤ 6; omega, by show _ ≤ 36; omega⟩ rfl (fun he49 ce q9 H locs hH hS hce hcv hcl => ?_) (fun he49 H locs hH hS => ?_)
  · exact flag_bad (ifne hq he49) hk
  have hq := ifpe hq he49
  refine lv_iload_n hx hb dL_bout_6 rfl (lv_at hl 2 rfl) ?_
  refine lv_icmp_ne (tgt := 68) hx hb dL_bout_7 (by decide) (fun c50 => ?_) (fun c50 => ?_)
  · have hq := ifne hq c50
    exact b_68 (x_X7_ofBout y1 0 γ).2.2 _ _ _ _ _ (lv_sub hl [] rfl) hH hS (by omega) (by omega) hq
  · have hq := ifpe hq c50
    refine lv_aload_n hx hb dL_bout_10 rfl (lv_at hl 0 rfl) ?_
    refine lv_iload_n hx hb dL_bout_11 rfl (lv_at hl 1 rfl) ?_
    refine lv_iconst (v := 1) hx hb dL_bout_12 (by decide) ?_
    refine e_xcallV (rest := []) hC hl hH hS (co_ofBout l hfl κ (x_X7_ofBout y1 0 γ).2.2 y1 1) tw_254 tw_255 tw_256 tw_38 tw_257 hd_X7_ofBout ⟨Nat.le_of_ble_eq_true rfl, Nat.le_of_ble_eq_true rfl⟩ rfl rfl rfl rfl (Nat.le_of_ble_eq_true rfl) dL_bout_13 ⟨by show _ ≤ 6; omega, by show _ ≤ 36; omega⟩ rfl (fun he51 ce q9 H locs hH hS hce hcv hcl => ?_) (fun he51 H locs hH hS => ?_)
    · exact flag_bad (ifne hq he51) hk
    have hq := ifpe hq he51
    refine lv_iload_n hx hb dL_bout_16 rfl (lv_at hl 3 rfl) ?_
    refine lv_icmp_ne (tgt := 68) hx hb dL_bout_17 (by decide) (fun c52 => ?_) (fun c52 => ?_)
    · have hq := ifne hq c52
      exact b_68 (x_X7_ofBout y1 1 (x_X7_ofBout y1 0 γ).2.2).2.2 _ _ _ _ _ (lv_sub hl [] rfl) hH hS (by omega) (by omega) hq
    · have hq := ifpe hq c52
      refine lv_aload_n hx hb dL_bout_20 rfl (lv_at hl 0 rfl) ?_
      refine lv_iload_n hx hb dL_bout_21 rfl (lv_at hl 1 rfl) ?_
      refine lv_iconst (v := 2) hx hb dL_bout_22 (by decide) ?_
      refine e_xcallV (rest := []) hC hl hH hS (co_ofBout l hfl κ (x_X7_ofBout y1 1 (x_X7_ofBout y1 0 γ).2.2).2.2 y1 2) tw_254 tw_255 tw_256 tw_38 tw_257 hd_X7_ofBout ⟨Nat.le_of_ble_eq_true rfl, Nat.le_of_ble_eq_true rfl⟩ rfl rfl rfl rfl (Nat.le_of_ble_eq_true rfl) dL_bout_23 ⟨by show _ ≤ 6; omega, by show _ ≤ 36; omega⟩ rfl (fun he53 ce q9 H locs hH hS hce hcv hcl => ?_) (fun he53 H locs hH hS => ?_)
      · exact flag_bad (ifne hq he53) hk
      have hq := ifpe hq he53
      refine lv_iload hx hb dL_bout_26 (lv_at hl 4 rfl) ?_
      refine lv_icmp_ne (tgt := 68) hx hb dL_bout_28 (by decide) (fun c54 => ?_) (fun c54 => ?_)
      · have hq := ifne hq c54
        exact b_68 (x_X7_ofBout y1 2 (x_X7_ofBout y1 1 (x_X7_ofBout y1 0 γ).2.2).2.2).2.2 _ _ _ _ _ (lv_sub hl [] rfl) hH hS (by omega) (by omega) hq
      · have hq := ifpe hq c54
        refine lv_aload_n hx hb dL_bout_31 rfl (lv_at hl 0 rfl) ?_
        refine lv_iload_n hx hb dL_bout_32 rfl (lv_at hl 1 rfl) ?_
        refine lv_iconst (v := 3) hx hb dL_bout_33 (by decide) ?_
        refine e_xcallV (rest := []) hC hl hH hS (co_ofBout l hfl κ (x_X7_ofBout y1 2 (x_X7_ofBout y1 1 (x_X7_ofBout y1 0 γ).2.2).2.2).2.2 y1 3) tw_254 tw_255 tw_256 tw_38 tw_257 hd_X7_ofBout ⟨Nat.le_of_ble_eq_true rfl, Nat.le_of_ble_eq_true rfl⟩ rfl rfl rfl rfl (Nat.le_of_ble_eq_true rfl) dL_bout_34 ⟨by show _ ≤ 6; omega, by show _ ≤ 36; omega⟩ rfl (fun he55 ce q9 H locs hH hS hce hcv hcl => ?_) (fun he55 H locs hH hS => ?_)
        · exact flag_bad (ifne hq he55) hk
        have hq := ifpe hq he55
        refine lv_iload hx hb dL_bout_37 (lv_at hl 5 rfl) ?_
        refine lv_icmp_ne (tgt := 68) hx hb dL_bout_39 (by decide) (fun c56 => ?_) (fun c56 => ?_)
        · have hq := ifne hq c56
          exact b_68 (x_X7_ofBout y1 3 (x_X7_ofBout y1 2 (x_X7_ofBout y1 1 (x_X7_ofBout y1 0 γ).2.2).2.2).2.2).2.2 _ _ _ _ _ (lv_sub hl [] rfl) hH hS (by omega) (by omega) hq
        · have hq := ifpe hq c56
          refine lv_aload_n hx hb dL_bout_42 rfl (lv_at hl 0 rfl) ?_
          refine lv_iload_n hx hb dL_bout_43 rfl (lv_at hl 1 rfl) ?_
          refine lv_iconst (v := 4) hx hb dL_bout_44 (by decide) ?_
          refine e_xcallV (rest := []) hC hl hH hS (co_ofBout l hfl κ (x_X7_ofBout y1 3 (x_X7_ofBout y1 2 (x_X7_ofBout y1 1 (x_X7_ofBout y1 0 γ).2.2).2.2).2.2).2.2 y1 4) tw_254 tw_255 tw_256 tw_38 tw_257 hd_X7_ofBout ⟨Nat.le_of_ble_eq_true rfl, Nat.le_of_ble_eq_true rfl⟩ rfl rfl rfl rfl (Nat.le_of_ble_eq_true rfl) dL_bout_45 ⟨by show _ ≤ 6; omega, by show _ ≤ 36; omega⟩ rfl (fun he57 ce q9 H locs hH hS hce hcv hcl => ?_) (fun he57 H locs hH hS => ?_)
          · exact flag_bad (ifne hq he57) hk
          have hq := ifpe hq he57
          refine lv_iload hx hb dL_bout_48 (lv_at hl 6 rfl) ?_
          refine lv_icmp_ne (tgt := 68) hx hb dL_bout_50 (by decide) (fun c58 => ?_) (fun c58 => ?_)
          · have hq := ifne hq c58
            exact b_68 (x_X7_ofBout y1 4 (x_X7_ofBout y1 3 (x_X7_ofBout y1 2 (x_X7_ofBout y1 1 (x_X7_ofBout y1 0 γ).2.2).2.2).2.2).2.2).2.2 _ _ _ _ _ (lv_sub hl [] rfl) hH hS (by omega) (by omega) hq
          · have hq := ifpe hq c58
            refine lv_aload_n hx hb dL_bout_53 rfl (lv_at hl 0 rfl) ?_
            refine lv_iload_n hx hb dL_bout_54 rfl (lv_at hl 1 rfl) ?_
            refine lv_iconst (v := 5) hx hb dL_bout_55 (by decide) ?_
            refine e_xcallV (rest := []) hC hl hH hS (co_ofBout l hfl κ (x_X7_ofBout y1 4 (x_X7_ofBout y1 3 (x_X7_ofBout y1 2 (x_X7_ofBout y1 1 (x_X7_ofBout y1 0 γ).2.2).2.2).2.2).2.2).2.2 y1 5) tw_254 tw_255 tw_256 tw_38 tw_257 hd_X7_ofBout ⟨Nat.le_of_ble_eq_true rfl, Nat.le_of_ble_eq_true rfl⟩ rfl rfl rfl rfl (Nat.le_of_ble_eq_true rfl) dL_bout_56 ⟨by show _ ≤ 6; omega, by show _ ≤ 36; omega⟩ rfl (fun he59 ce q9 H locs hH hS hce hcv hcl => ?_) (fun he59 H locs hH hS => ?_)
            · exact flag_bad (ifne hq he59) hk
            have hq := ifpe hq he59
            refine lv_iload hx hb dL_bout_59 (lv_at hl 7 rfl) ?_
            refine lv_icmp_ne (tgt := 68) hx hb dL_bout_61 (by decide) (fun c60 => ?_) (fun c60 => ?_)
            · have hq := ifne hq c60
              exact b_68 (x_X7_ofBout y1 5 (x_X7_ofBout y1 4 (x_X7_ofBout y1 3 (x_X7_ofBout y1 2 (x_X7_ofBout y1 1 (x_X7_ofBout y1 0 γ).2.2).2.2).2.2).2.2).2.2).2.2 _ _ _ _ _ (lv_sub hl [] rfl) hH hS (by omega) (by omega) hq
            · have hq := ifpe hq c60
              refine lv_iconst (v := 1) hx hb dL_bout_64 (by decide) ?_
              refine lv_goto (tgt := 69) hx hb dL_bout_65 (by decide) ?_
              subst hq
              exact er_z hC hr rfl hH hS rfl rfl (by omega) (by omega) dL_bout_69
