set_option maxRecDepth 20000 in
set_option maxHeartbeats 4000000 in
theorem c_X1_leastPlaces (l : Launch) (κ : KP) (γ : St) (y0 : Int32) (hk : ok_X1_leastPlaces y0 γ) : Met l yX1_leastPlaces [Cond.code yX1_leastPlaces cX1_leastPlaces 2 (some .int)] ({ frames := 0, cells := 0, slots := 0, locals := 0 } : Room) (va_Pc [.int y0] (GG κ γ)) (QQ κ γ (some (.int ((x_X1_leastPlaces y0 γ))))) 0 0 (AA κ) := by
  generalize hq : x_X1_leastPlaces y0 γ = res
  refine Met.ofW (cc := cX1_leastPlaces) (maxL := 2) (ret := (some .int)) (by decide) rfl ?_
  intro p e s m args below meth c s₁ B hml9 hv
  obtain ⟨rfl, hH, hK9, hB9, hX9, hZ9⟩ := hv
  have hC : CX κ cX1_leastPlaces "Phrasehall$Bracket" 2 p l s m ([.int y0] : List Value).toArray meth c := ⟨B.exec, B.bytes, findClass_of_methodNamed B.named, fun w hw => tw_use (List.mem_filter.mp hw).2 (State.WarmedH.refl s) (hX9.1 w hw), hK9, hX9, hZ9, hB9, hml9, B.notSynchronized⟩
  obtain ⟨hx, hb, hown, hT, -, -, -, -, hml, -⟩ := id hC
  have hr := B.returns
  have hS : va_S (AA κ) s.heap s.heap [] := va_S.rf
  have hl := lv_entry ([.int y0]) (n := 2) (Nat.le_of_ble_eq_true rfl)
  rw [lg_entry_eq]
  generalize (lg_sl ([.int y0]) ++ List.replicate (2 - (lg_sl ([.int y0])).length) Slot.unset).toArray = ls at hl ⊢
  have hl : lv_has ls 2 [(0, .int y0)] := hl
  have b_20 : ∀ (a1 : Int32) (H : Heap) (locs : List Loc) (ls : Array Slot), lv_has ls 2 [(1, .int a1)] → HR κ γ H → va_S (AA κ) s.heap H locs → ok_X1_leastPlaces_20 a1 γ → x_X1_leastPlaces_20 a1 γ = res → W p l e (headSpec [Cond.code yX1_leastPlaces cX1_leastPlaces 2 (some .int)] ({ frames := 0, cells := 0, slots := 0, locals := 0 } : Room)).room s m ([.int y0] : List Value).toArray below meth c H locs 0 0 (MQ below (QQ κ γ (some (.int res))) ([.int y0] : List Value).toArray s 0 0 (AA κ)) (F0 m 20 ls []) := by
    intro a1 H locs ls hl hH hS hk hq
    refine lv_iload_n hx hb dX1_leastPlaces_20 rfl (lv_at hl 0 rfl) ?_
    subst hq
    exact kr_i hC hr hH hS rfl rfl dX1_leastPlaces_21
  have b_2 : ∀ (k2 : Nat) (a0 : Int32) (a1 : Int32) (H : Heap) (locs : List Loc) (ls : Array Slot), lv_has ls 2 [(0, .int a0), (1, .int a1)] → HR κ γ H → va_S (AA κ) s.heap H locs → ok_X1_leastPlaces_2 k2 a0 a1 γ → x_X1_leastPlaces_2 k2 a0 a1 γ = res → W p l e (headSpec [Cond.code yX1_leastPlaces cX1_leastPlaces 2 (some .int)] ({ frames := 0, cells := 0, slots := 0, locals := 0 } : Room)).room s m ([.int y0] : List Value).toArray below meth c H locs 0 0 (MQ below (QQ κ γ (some (.int res))) ([.int y0] : List Value).toArray s 0 0 (AA κ)) (F0 m 2 ls []) := by
    intro k2
    induction k2 with
    | zero =>
      intro a0 a1 H locs ls hl hH hS hk hq
      exact (show False from hk).elim
    | succ k2 ih_2 =>
      intro a0 a1 H locs ls hl hH hS hk hq
      refine lv_iload_n hx hb dX1_leastPlaces_2 rfl (lv_at hl 1 rfl) ?_
      refine lv_iload_n hx hb dX1_leastPlaces_3 rfl (lv_at hl 0 rfl) ?_
      refine lv_icmp_ge (tgt := 20) hx hb dX1_leastPlaces_4 (by decide) (fun c7 => ?_) (fun c7 => ?_)
      · have hk := ifp hk c7
        have hq := ifpe hq c7
        exact b_20 a1 _ _ _ (lv_sub hl [1] rfl) hH hS hk hq
      · have hk := ifn hk c7
        have hq := ifne hq c7
        refine lv_iload_n hx hb dX1_leastPlaces_7 rfl (lv_at hl 1 rfl) ?_
        refine lv_bipush (v := 16) hx hb dX1_leastPlaces_8 (by decide) ?_
        refine lv_icmp_ge (tgt := 20) hx hb dX1_leastPlaces_10 (by decide) (fun c8 => ?_) (fun c8 => ?_)
        · have hk := ifp hk c8
          have hq := ifpe hq c8
          exact b_20 a1 _ _ _ (lv_sub hl [1] rfl) hH hS hk hq
        · have hk := ifn hk c8
          have hq := ifne hq c8
          refine lv_iload_n hx hb dX1_leastPlaces_13 rfl (lv_at hl 1 rfl) ?_
          refine lv_iconst (v := 2) hx hb dX1_leastPlaces_14 (by decide) ?_
          refine lv_imul hx hb dX1_leastPlaces_15 ?_
          refine lv_istore_n (lv' := [(1, .int (a1 * 2)), (0, .int a0)]) hx hb dX1_leastPlaces_16 rfl hl (by decide) rfl (fun ls hl => ?_)
          refine lv_goto (tgt := 2) hx hb dX1_leastPlaces_17 (by decide) ?_
          exact ih_2 a0 (a1 * 2) _ _ _ (lv_sub hl [1, 0] rfl) hH hS hk hq
  refine lv_iconst (v := 2) hx hb dX1_leastPlaces_0 (by decide) ?_
  refine lv_istore_n (lv' := [(1, .int 2), (0, .int y0)]) hx hb dX1_leastPlaces_1 rfl hl (by decide) rfl (fun ls hl => ?_)
  exact b_2 fu y0 2 _ _ _ (lv_sub hl [1, 0] rfl) hH hS hk hq
set_option maxRecDepth 20000 in
set_option maxHeartbeats 4000000 in
theorem c_X1_orderPlaces (l : Launch) (κ : KP) (γ : St) (y1 : Int32) (hk : ok_X1_orderPlaces y1 γ) : Met l yX1_orderPlaces [Cond.code yX1_orderPlaces cX1_orderPlaces 4 none] ({ frames := 0, cells := 0, slots := 0, locals := 0 } : Room) (va_Pc [.ref (kA κ 1 0), .int y1] (GG κ γ)) (QQ κ ((x_X1_orderPlaces y1 γ)) none) 0 0 (AA κ) := by
  generalize hq : x_X1_orderPlaces y1 γ = res
  refine Met.ofW (cc := cX1_orderPlaces) (maxL := 4) (ret := none) (by decide) rfl ?_
  intro p e s m args below meth c s₁ B hml9 hv
  obtain ⟨rfl, hH, hK9, hB9, hX9, hZ9⟩ := hv
  have hC : CX κ cX1_orderPlaces "Phrasehall$Bracket" 4 p l s m ([.ref (kA κ 1 0), .int y1] : List Value).toArray meth c := ⟨B.exec, B.bytes, findClass_of_methodNamed B.named, fun w hw => tw_use (List.mem_filter.mp hw).2 (State.WarmedH.refl s) (hX9.1 w hw), hK9, hX9, hZ9, hB9, hml9, B.notSynchronized⟩
  obtain ⟨hx, hb, hown, hT, -, -, -, -, hml, -⟩ := id hC
  have hr := B.returns
  have hS : va_S (AA κ) s.heap s.heap [] := va_S.rf
  have hl := lv_entry ([.ref (kA κ 1 0), .int y1]) (n := 4) (Nat.le_of_ble_eq_true rfl)
  rw [lg_entry_eq]
  generalize (lg_sl ([.ref (kA κ 1 0), .int y1]) ++ List.replicate (4 - (lg_sl ([.ref (kA κ 1 0), .int y1])).length) Slot.unset).toArray = ls at hl ⊢
  have hl : lv_has ls 4 [(0, .ref (kA κ 1 0)), (1, .int y1)] := hl
  have b_19 : ∀ (k19 : Nat) (a1 : Int32) (γ : St) (H : Heap) (locs : List Loc) (ls : Array Slot), lv_has ls 4 [(0, .ref (kA κ 1 0)), (1, .int a1)] → HR κ γ H → va_S (AA κ) s.heap H locs → ok_X1_orderPlaces_19 k19 a1 γ → x_X1_orderPlaces_19 k19 a1 γ = res → W p l e (headSpec [Cond.code yX1_orderPlaces cX1_orderPlaces 4 none] ({ frames := 0, cells := 0, slots := 0, locals := 0 } : Room)).room s m ([.ref (kA κ 1 0), .int y1] : List Value).toArray below meth c H locs 0 0 (MQ below (QQ κ res none) ([.ref (kA κ 1 0), .int y1] : List Value).toArray s 0 0 (AA κ)) (F0 m 19 ls []) := by
    intro k19
    induction k19 with
    | zero =>
      intro a1 γ H locs ls hl hH hS hk hq
      exact (show False from hk).elim
    | succ k19 ih_19 =>
      have b_45 : ∀ (k45 : Nat) (a1 : Int32) (a2 : Int32) (γ : St) (H : Heap) (locs : List Loc) (ls : Array Slot), lv_has ls 4 [(0, .ref (kA κ 1 0)), (1, .int a1), (2, .int a2)] → HR κ γ H → va_S (AA κ) s.heap H locs → ok_X1_orderPlaces_45 (ok_X1_orderPlaces_19 k19) k45 a1 a2 γ → x_X1_orderPlaces_45 (x_X1_orderPlaces_19 k19) k45 a1 a2 γ = res → W p l e (headSpec [Cond.code yX1_orderPlaces cX1_orderPlaces 4 none] ({ frames := 0, cells := 0, slots := 0, locals := 0 } : Room)).room s m ([.ref (kA κ 1 0), .int y1] : List Value).toArray below meth c H locs 0 0 (MQ below (QQ κ res none) ([.ref (kA κ 1 0), .int y1] : List Value).toArray s 0 0 (AA κ)) (F0 m 45 ls []) := by
        intro k45
        induction k45 with
        | zero =>
          intro a1 a2 γ H locs ls hl hH hS hk hq
          exact (show False from hk).elim
        | succ k45 ih_45 =>
          intro a1 a2 γ H locs ls hl hH hS hk hq
          refine lv_iload_n hx hb dX1_orderPlaces_45 rfl (lv_at hl 2 rfl) ?_
          refine lv_if_lt (tgt := 91) hx hb dX1_orderPlaces_46 (by decide) (fun c25 => ?_) (fun c25 => ?_)
          · have hk := ifp hk c25
            have hq := ifpe hq c25
            refine lv_aload_n hx hb dX1_orderPlaces_91 rfl (lv_at hl 0 rfl) ?_
            refine lv_dup hx hb dX1_orderPlaces_92 rfl ?_
            refine hp_get (v := .int (gV γ 1 0 2)) (C := RX1) (T := TX1) (N := 3) hC inX1 hH lv_1 rfl rfl 2 (by decide) tw_127 rfl rfl dX1_orderPlaces_93 ?_
            refine lv_iconst (v := 2) hx hb dX1_orderPlaces_96 (by decide) ?_
            refine lv_imul hx hb dX1_orderPlaces_97 ?_
            refine hp_put (v := .int ((gV γ 1 0 2) * 2)) (C := RX1) (T := TX1) (N := 3) hC inX1 tyX1_ok nmX1 hH lv_1 rfl hS rfl 2 (by decide) tw_127 rfl rfl rfl rfl (Nat.le_of_ble_eq_true rfl) (sV γ 1 0 2 ((gV γ 1 0 2) * 2)) (pe_1_2 _ _ 0 ((gV γ 1 0 2) * 2)) (fun _ _ _ h => cel_sV h) (WT_sV hH.wt) dX1_orderPlaces_98 (fun H locs hH hS => ?_)
            refine lv_goto (tgt := 19) hx hb dX1_orderPlaces_101 (by decide) ?_
            exact ih_19 a1 (sV γ 1 0 2 ((gV γ 1 0 2) * 2)) _ _ _ (lv_sub hl [0, 1] rfl) hH hS hk hq
          · have hk := ifn hk c25
            have hq := ifne hq c25
            refine lv_aload_n hx hb dX1_orderPlaces_49 rfl (lv_at hl 0 rfl) ?_
            refine hp_get (v := .ref (kA κ 17 0)) (C := RX1) (T := TX1) (N := 3) hC inX1 hH lv_1 rfl rfl 1 (by decide) tw_126 rfl rfl dX1_orderPlaces_50 ?_
            refine lv_iload_n hx hb dX1_orderPlaces_53 rfl (lv_at hl 2 rfl) ?_
            obtain ⟨hi26, hk⟩ := hk
            refine hp_ald (v := gV γ 17 0 ((a2 : Int32).toNatClampNeg)) hC hH lv_17 rfl hi26 rfl dX1_orderPlaces_54 ?_
            refine lv_istore_n (lv' := [(3, .int (gV γ 17 0 ((a2 : Int32).toNatClampNeg))), (0, .ref (kA κ 1 0)), (1, .int a1), (2, .int a2)]) hx hb dX1_orderPlaces_55 rfl hl (by decide) rfl (fun ls hl => ?_)
            refine lv_aload_n hx hb dX1_orderPlaces_56 rfl (lv_at hl 1 rfl) ?_
            refine hp_get (v := .ref (kA κ 17 0)) (C := RX1) (T := TX1) (N := 3) hC inX1 hH lv_1 rfl rfl 1 (by decide) tw_126 rfl rfl dX1_orderPlaces_57 ?_
            refine lv_iconst (v := 2) hx hb dX1_orderPlaces_60 (by decide) ?_
            refine lv_iload_n hx hb dX1_orderPlaces_61 rfl (lv_at hl 3 rfl) ?_
            refine lv_imul hx hb dX1_orderPlaces_62 ?_
            refine lv_iload_n hx hb dX1_orderPlaces_63 rfl (lv_at hl 0 rfl) ?_
            obtain ⟨hi27, hk⟩ := hk
            refine hp_ast hC hH lv_17 (fun _ => rfl) hS hi27 dX1_orderPlaces_64 (fun H locs hH hS => ?_)
            refine lv_aload_n hx hb dX1_orderPlaces_65 rfl (lv_at hl 1 rfl) ?_
            refine hp_get (v := .ref (kA κ 17 0)) (C := RX1) (T := TX1) (N := 3) hC inX1 hH lv_1 rfl rfl 1 (by decide) tw_126 rfl rfl dX1_orderPlaces_66 ?_
            refine lv_iconst (v := 2) hx hb dX1_orderPlaces_69 (by decide) ?_
            refine lv_iload_n hx hb dX1_orderPlaces_70 rfl (lv_at hl 3 rfl) ?_
            refine lv_imul hx hb dX1_orderPlaces_71 ?_
            refine lv_iconst (v := 1) hx hb dX1_orderPlaces_72 (by decide) ?_
            refine lv_iadd hx hb dX1_orderPlaces_73 ?_
            refine lv_iconst (v := 2) hx hb dX1_orderPlaces_74 (by decide) ?_
            refine lv_aload_n hx hb dX1_orderPlaces_75 rfl (lv_at hl 1 rfl) ?_
            refine hp_get (v := .int (gV γ 1 0 2)) (C := RX1) (T := TX1) (N := 3) hC inX1 hH lv_1 rfl rfl 2 (by decide) tw_127 rfl (by simp [gV_sV, gV_sL, gV_sR, gL_sV, gL_sL, gL_sR, gR_sV, gR_sL, gR_sR]) dX1_orderPlaces_76 ?_
            refine lv_imul hx hb dX1_orderPlaces_79 ?_
            refine lv_iconst (v := 1) hx hb dX1_orderPlaces_80 (by decide) ?_
            refine lv_isub hx hb dX1_orderPlaces_81 ?_
            refine lv_iload_n hx hb dX1_orderPlaces_82 rfl (lv_at hl 0 rfl) ?_
            refine lv_isub hx hb dX1_orderPlaces_83 ?_
            obtain ⟨hi28, hk⟩ := hk
            refine hp_ast hC hH lv_17 (fun _ => rfl) hS hi28 dX1_orderPlaces_84 (fun H locs hH hS => ?_)
            refine lv_iinc (v := a2 + (-1)) (lv' := [(2, .int (a2 + (-1))), (3, .int (gV γ 17 0 ((a2 : Int32).toNatClampNeg))), (0, .ref (kA κ 1 0)), (1, .int a1)]) hx hb dX1_orderPlaces_85 hl (k := 3) rfl rfl (by decide) rfl (fun ls hl => ?_)
            refine lv_goto (tgt := 45) hx hb dX1_orderPlaces_88 (by decide) ?_
            exact ih_45 a1 (a2 + (-1)) (sV (sV γ 17 0 ((2 * a2 : Int32).toNatClampNeg) (gV γ 17 0 ((a2 : Int32).toNatClampNeg))) 17 0 (((2 * a2) + 1 : Int32).toNatClampNeg) (((2 * (gV γ 1 0 2)) - 1) - (gV γ 17 0 ((a2 : Int32).toNatClampNeg)))) _ _ _ (lv_sub hl [2, 3, 0] rfl) hH hS hk hq
      intro a1 γ H locs ls hl hH hS hk hq
      refine lv_aload_n hx hb dX1_orderPlaces_19 rfl (lv_at hl 0 rfl) ?_
      refine hp_get (v := .int (gV γ 1 0 2)) (C := RX1) (T := TX1) (N := 3) hC inX1 hH lv_1 rfl rfl 2 (by decide) tw_127 rfl rfl dX1_orderPlaces_20 ?_
      refine lv_iload_n hx hb dX1_orderPlaces_23 rfl (lv_at hl 1 rfl) ?_
      refine lv_icmp_ge (tgt := 104) hx hb dX1_orderPlaces_24 (by decide) (fun c29 => ?_) (fun c29 => ?_)
      · have hk := ifp hk c29
        have hq := ifpe hq c29
        subst hq
        exact kr_v hC hr hH hS rfl dX1_orderPlaces_104
      · have hk := ifn hk c29
        have hq := ifne hq c29
        refine lv_iconst (v := 2) hx hb dX1_orderPlaces_27 (by decide) ?_
        refine lv_aload_n hx hb dX1_orderPlaces_28 rfl (lv_at hl 0 rfl) ?_
        refine hp_get (v := .int (gV γ 1 0 2)) (C := RX1) (T := TX1) (N := 3) hC inX1 hH lv_1 rfl rfl 2 (by decide) tw_127 rfl rfl dX1_orderPlaces_29 ?_
        refine lv_imul hx hb dX1_orderPlaces_32 ?_
        refine lv_bipush (v := 16) hx hb dX1_orderPlaces_33 (by decide) ?_
        refine lv_icmp_gt (tgt := 104) hx hb dX1_orderPlaces_35 (by decide) (fun c30 => ?_) (fun c30 => ?_)
        · have hk := ifp hk c30
          have hq := ifpe hq c30
          subst hq
          exact kr_v hC hr hH hS rfl dX1_orderPlaces_104
        · have hk := ifn hk c30
          have hq := ifne hq c30
          refine lv_aload_n hx hb dX1_orderPlaces_38 rfl (lv_at hl 0 rfl) ?_
          refine hp_get (v := .int (gV γ 1 0 2)) (C := RX1) (T := TX1) (N := 3) hC inX1 hH lv_1 rfl rfl 2 (by decide) tw_127 rfl rfl dX1_orderPlaces_39 ?_
          refine lv_iconst (v := 1) hx hb dX1_orderPlaces_42 (by decide) ?_
          refine lv_isub hx hb dX1_orderPlaces_43 ?_
          refine lv_istore_n (lv' := [(2, .int ((gV γ 1 0 2) - 1)), (0, .ref (kA κ 1 0)), (1, .int a1)]) hx hb dX1_orderPlaces_44 rfl hl (by decide) rfl (fun ls hl => ?_)
          exact b_45 fu a1 ((gV γ 1 0 2) - 1) γ _ _ _ (lv_sub hl [1, 2, 0] rfl) hH hS hk hq
  refine lv_aload_n hx hb dX1_orderPlaces_0 rfl (lv_at hl 0 rfl) ?_
  refine lv_iconst (v := 2) hx hb dX1_orderPlaces_1 (by decide) ?_
  refine hp_put (v := .int 2) (C := RX1) (T := TX1) (N := 3) hC inX1 tyX1_ok nmX1 hH lv_1 rfl hS rfl 2 (by decide) tw_127 rfl rfl rfl rfl (Nat.le_of_ble_eq_true rfl) (sV γ 1 0 2 2) (pe_1_2 _ _ 0 2) (fun _ _ _ h => cel_sV h) (WT_sV hH.wt) dX1_orderPlaces_2 (fun H locs hH hS => ?_)
  refine lv_aload_n hx hb dX1_orderPlaces_5 rfl (lv_at hl 0 rfl) ?_
  refine hp_get (v := .ref (kA κ 17 0)) (C := RX1) (T := TX1) (N := 3) hC inX1 hH lv_1 rfl rfl 1 (by decide) tw_126 rfl rfl dX1_orderPlaces_6 ?_
  refine lv_iconst (v := 0) hx hb dX1_orderPlaces_9 (by decide) ?_
  refine lv_iconst (v := 0) hx hb dX1_orderPlaces_10 (by decide) ?_
  obtain ⟨hi31, hk⟩ := hk
  refine hp_ast hC hH lv_17 (fun _ => rfl) hS hi31 dX1_orderPlaces_11 (fun H locs hH hS => ?_)
  refine lv_aload_n hx hb dX1_orderPlaces_12 rfl (lv_at hl 0 rfl) ?_
  refine hp_get (v := .ref (kA κ 17 0)) (C := RX1) (T := TX1) (N := 3) hC inX1 hH lv_1 rfl rfl 1 (by decide) tw_126 rfl rfl dX1_orderPlaces_13 ?_
  refine lv_iconst (v := 1) hx hb dX1_orderPlaces_16 (by decide) ?_
  refine lv_iconst (v := 1) hx hb dX1_orderPlaces_17 (by decide) ?_
  obtain ⟨hi32, hk⟩ := hk
  refine hp_ast hC hH lv_17 (fun _ => rfl) hS hi32 dX1_orderPlaces_18 (fun H locs hH hS => ?_)
  exact b_19 fu y1 (sV (sV (sV γ 1 0 2 2) 17 0 ((0 : Int32).toNatClampNeg) 0) 17 0 ((1 : Int32).toNatClampNeg) 1) _ _ _ (lv_sub hl [0, 1] rfl) hH hS hk hq
set_option maxRecDepth 20000 in
set_option maxHeartbeats 4000000 in
theorem c_X1_at (l : Launch) (κ : KP) (γ : St) (y1 : Int32) (hk : ok_X1_at y1 γ) : Met l yX1_at [Cond.code yX1_at cX1_at 2 (some .int)] ({ frames := 0, cells := 0, slots := 0, locals := 0 } : Room) (va_Pc [.ref (kA κ 1 0), .int y1] (GG κ γ)) (QQ κ γ (some (.int ((x_X1_at y1 γ))))) 0 0 (AA κ) := by
  generalize hq : x_X1_at y1 γ = res
  refine Met.ofW (cc := cX1_at) (maxL := 2) (ret := (some .int)) (by decide) rfl ?_
  intro p e s m args below meth c s₁ B hml9 hv
  obtain ⟨rfl, hH, hK9, hB9, hX9, hZ9⟩ := hv
  have hC : CX κ cX1_at "Phrasehall$Bracket" 2 p l s m ([.ref (kA κ 1 0), .int y1] : List Value).toArray meth c := ⟨B.exec, B.bytes, findClass_of_methodNamed B.named, fun w hw => tw_use (List.mem_filter.mp hw).2 (State.WarmedH.refl s) (hX9.1 w hw), hK9, hX9, hZ9, hB9, hml9, B.notSynchronized⟩
  obtain ⟨hx, hb, hown, hT, -, -, -, -, hml, -⟩ := id hC
  have hr := B.returns
  have hS : va_S (AA κ) s.heap s.heap [] := va_S.rf
  have hl := lv_entry ([.ref (kA κ 1 0), .int y1]) (n := 2) (Nat.le_of_ble_eq_true rfl)
  rw [lg_entry_eq]
  generalize (lg_sl ([.ref (kA κ 1 0), .int y1]) ++ List.replicate (2 - (lg_sl ([.ref (kA κ 1 0), .int y1])).length) Slot.unset).toArray = ls at hl ⊢
  have hl : lv_has ls 2 [(0, .ref (kA κ 1 0)), (1, .int y1)] := hl
  have b_22 : ∀ (H : Heap) (locs : List Loc) (ls : Array Slot), lv_has ls 2 [] → HR κ γ H → va_S (AA κ) s.heap H locs → ok_X1_at_22 γ → x_X1_at_22 γ = res → W p l e (headSpec [Cond.code yX1_at cX1_at 2 (some .int)] ({ frames := 0, cells := 0, slots := 0, locals := 0 } : Room)).room s m ([.ref (kA κ 1 0), .int y1] : List Value).toArray below meth c H locs 0 0 (MQ below (QQ κ γ (some (.int res))) ([.ref (kA κ 1 0), .int y1] : List Value).toArray s 0 0 (AA κ)) (F0 m 22 ls []) := by
    intro  H locs ls hl hH hS hk hq
    refine lv_iconst (v := (-1)) hx hb dX1_at_22 (by decide) ?_
    subst hq
    exact kr_i hC hr hH hS rfl rfl dX1_at_23
  refine lv_iload_n hx hb dX1_at_0 rfl (lv_at hl 1 rfl) ?_
  refine lv_if_lt (tgt := 22) hx hb dX1_at_1 (by decide) (fun c10 => ?_) (fun c10 => ?_)
  · have hk := ifp hk c10
    have hq := ifpe hq c10
    exact b_22 _ _ _ (lv_sub hl [] rfl) hH hS hk hq
  · have hk := ifn hk c10
    have hq := ifne hq c10
    refine lv_iload_n hx hb dX1_at_4 rfl (lv_at hl 1 rfl) ?_
    refine lv_aload_n hx hb dX1_at_5 rfl (lv_at hl 0 rfl) ?_
    refine hp_get (v := .ref (kA κ 16 0)) (C := RX1) (T := TX1) (N := 3) hC inX1 hH lv_1 rfl rfl 0 (by decide) tw_125 rfl rfl dX1_at_6 ?_
    refine hp_alen (v := 32) (t0 := 0) hC rfl hH lv_16 rfl rfl dX1_at_9 ?_
    refine lv_icmp_ge (tgt := 22) hx hb dX1_at_10 (by decide) (fun c11 => ?_) (fun c11 => ?_)
    · have hk := ifp hk c11
      have hq := ifpe hq c11
      exact b_22 _ _ _ (lv_sub hl [] rfl) hH hS hk hq
    · have hk := ifn hk c11
      have hq := ifne hq c11
      refine lv_aload_n hx hb dX1_at_13 rfl (lv_at hl 0 rfl) ?_
      refine hp_get (v := .ref (kA κ 16 0)) (C := RX1) (T := TX1) (N := 3) hC inX1 hH lv_1 rfl rfl 0 (by decide) tw_125 rfl rfl dX1_at_14 ?_
      refine lv_iload_n hx hb dX1_at_17 rfl (lv_at hl 1 rfl) ?_
      obtain ⟨hi12, hk⟩ := hk
      refine hp_ald (v := gV γ 16 0 ((y1 : Int32).toNatClampNeg)) hC hH lv_16 rfl hi12 rfl dX1_at_18 ?_
      refine lv_goto (tgt := 23) hx hb dX1_at_19 (by decide) ?_
      subst hq
      exact kr_i hC hr hH hS rfl rfl dX1_at_23
set_option maxRecDepth 20000 in
set_option maxHeartbeats 4000000 in
theorem c_X1_put (l : Launch) (κ : KP) (γ : St) (y1 : Int32) (y2 : Int32) (hk : ok_X1_put y1 y2 γ) : Met l yX1_put [Cond.code yX1_put cX1_put 3 none] ({ frames := 0, cells := 0, slots := 0, locals := 0 } : Room) (va_Pc [.ref (kA κ 1 0), .int y1, .int y2] (GG κ γ)) (QQ κ ((x_X1_put y1 y2 γ)) none) 0 0 (AA κ) := by
  generalize hq : x_X1_put y1 y2 γ = res
  refine Met.ofW (cc := cX1_put) (maxL := 3) (ret := none) (by decide) rfl ?_
  intro p e s m args below meth c s₁ B hml9 hv
  obtain ⟨rfl, hH, hK9, hB9, hX9, hZ9⟩ := hv
  have hC : CX κ cX1_put "Phrasehall$Bracket" 3 p l s m ([.ref (kA κ 1 0), .int y1, .int y2] : List Value).toArray meth c := ⟨B.exec, B.bytes, findClass_of_methodNamed B.named, fun w hw => tw_use (List.mem_filter.mp hw).2 (State.WarmedH.refl s) (hX9.1 w hw), hK9, hX9, hZ9, hB9, hml9, B.notSynchronized⟩
  obtain ⟨hx, hb, hown, hT, -, -, -, -, hml, -⟩ := id hC
  have hr := B.returns
  have hS : va_S (AA κ) s.heap s.heap [] := va_S.rf
  have hl := lv_entry ([.ref (kA κ 1 0), .int y1, .int y2]) (n := 3) (Nat.le_of_ble_eq_true rfl)
  rw [lg_entry_eq]
  generalize (lg_sl ([.ref (kA κ 1 0), .int y1, .int y2]) ++ List.replicate (3 - (lg_sl ([.ref (kA κ 1 0), .int y1, .int y2])).length) Slot.unset).toArray = ls at hl ⊢
  have hl : lv_has ls 3 [(0, .ref (kA κ 1 0)), (1, .int y1), (2, .int y2)] := hl
  refine lv_iload_n hx hb dX1_put_0 rfl (lv_at hl 1 rfl) ?_
  refine lv_if_lt (tgt := 20) hx hb dX1_put_1 (by decide) (fun c7 => ?_) (fun c7 => ?_)
  · have hk := ifp hk c7
    have hq := ifpe hq c7
    subst hq
    exact kr_v hC hr hH hS rfl dX1_put_20
  · have hk := ifn hk c7
    have hq := ifne hq c7
    refine lv_iload_n hx hb dX1_put_4 rfl (lv_at hl 1 rfl) ?_
    refine lv_aload_n hx hb dX1_put_5 rfl (lv_at hl 0 rfl) ?_
    refine hp_get (v := .ref (kA κ 16 0)) (C := RX1) (T := TX1) (N := 3) hC inX1 hH lv_1 rfl rfl 0 (by decide) tw_125 rfl rfl dX1_put_6 ?_
    refine hp_alen (v := 32) (t0 := 0) hC rfl hH lv_16 rfl rfl dX1_put_9 ?_
    refine lv_icmp_ge (tgt := 20) hx hb dX1_put_10 (by decide) (fun c8 => ?_) (fun c8 => ?_)
    · have hk := ifp hk c8
      have hq := ifpe hq c8
      subst hq
      exact kr_v hC hr hH hS rfl dX1_put_20
    · have hk := ifn hk c8
      have hq := ifne hq c8
      refine lv_aload_n hx hb dX1_put_13 rfl (lv_at hl 0 rfl) ?_
      refine hp_get (v := .ref (kA κ 16 0)) (C := RX1) (T := TX1) (N := 3) hC inX1 hH lv_1 rfl rfl 0 (by decide) tw_125 rfl rfl dX1_put_14 ?_
      refine lv_iload_n hx hb dX1_put_17 rfl (lv_at hl 1 rfl) ?_
      refine lv_iload_n hx hb dX1_put_18 rfl (lv_at hl 2 rfl) ?_
      obtain ⟨hi9, hk⟩ := hk
      refine hp_ast hC hH lv_16 (fun _ => rfl) hS hi9 dX1_put_19 (fun H locs hH hS => ?_)
      subst hq
      exact kr_v hC hr hH hS rfl dX1_put_20
set_option maxRecDepth 20000 in
set_option maxHeartbeats 4000000 in
theorem c_X1_passBye (l : Launch) (κ : KP) (γ : St) (y1 : Int32) (hk : ok_X1_passBye y1 γ) : Met l yX1_passBye [Cond.code yX1_passBye cX1_passBye 4 none] ({ frames := 1, cells := 0, slots := 0, locals := 22 } : Room) (va_Pc [.ref (kA κ 1 0), .int y1] (GG κ γ)) (QQ κ ((x_X1_passBye y1 γ)) none) 0 0 (AA κ) := by
  generalize hq : x_X1_passBye y1 γ = res
  refine Met.ofW (cc := cX1_passBye) (maxL := 4) (ret := none) (by decide) rfl ?_
  intro p e s m args below meth c s₁ B hml9 hv
  obtain ⟨rfl, hH, hK9, hB9, hX9, hZ9⟩ := hv
  have hC : CX κ cX1_passBye "Phrasehall$Bracket" 4 p l s m ([.ref (kA κ 1 0), .int y1] : List Value).toArray meth c := ⟨B.exec, B.bytes, findClass_of_methodNamed B.named, fun w hw => tw_use (List.mem_filter.mp hw).2 (State.WarmedH.refl s) (hX9.1 w hw), hK9, hX9, hZ9, hB9, hml9, B.notSynchronized⟩
  obtain ⟨hx, hb, hown, hT, -, -, -, -, hml, -⟩ := id hC
  have hr := B.returns
  have hS : va_S (AA κ) s.heap s.heap [] := va_S.rf
  have hl := lv_entry ([.ref (kA κ 1 0), .int y1]) (n := 4) (Nat.le_of_ble_eq_true rfl)
  rw [lg_entry_eq]
  generalize (lg_sl ([.ref (kA κ 1 0), .int y1]) ++ List.replicate (4 - (lg_sl ([.ref (kA κ 1 0), .int y1])).length) Slot.unset).toArray = ls at hl ⊢
  have hl : lv_has ls 4 [(0, .ref (kA κ 1 0)), (1, .int y1)] := hl
  have b_40 : ∀ (s0 : Int32) (s1 : Int32) (γ : St) (H : Heap) (locs : List Loc) (ls : Array Slot), lv_has ls 4 [] → HR κ γ H → va_S (AA κ) s.heap H locs → ok_X1_passBye_40 s0 s1 γ → x_X1_passBye_40 s0 s1 γ = res → W p l e (headSpec [Cond.code yX1_passBye cX1_passBye 4 none] ({ frames := 1, cells := 0, slots := 0, locals := 22 } : Room)).room s m ([.ref (kA κ 1 0), .int y1] : List Value).toArray below meth c H locs 0 0 (MQ below (QQ κ res none) ([.ref (kA κ 1 0), .int y1] : List Value).toArray s 0 0 (AA κ)) (F0 m 40 ls [.int s0, .int s1, .ref (kA κ 1 0)]) := by
    intro s0 s1 γ H locs ls hl hH hS hk hq
    obtain ⟨hc19, hk⟩ := hk
    refine k_callV (C := RX1) (T := TX1) (N := 3) (rest := []) hC hl hH hS (c_X1_put l κ γ s1 s0 hc19) lv_1 rfl rfl tw_813 tw_815 tw_35 tw_41 tw_816 hd_X1_put ⟨Nat.le_of_ble_eq_true rfl, Nat.le_of_ble_eq_true rfl⟩ rfl rfl rfl rfl (Nat.le_of_ble_eq_true rfl) dX1_passBye_40 ⟨Nat.le_of_ble_eq_true rfl, Nat.le_of_ble_eq_true rfl⟩ rfl (fun H locs hH hS => ?_)
    subst hq
    exact kr_v hC hr hH hS rfl dX1_passBye_43
  have b_28 : ∀ (a1 : Int32) (a2 : Int32) (a3 : Int32) (γ : St) (H : Heap) (locs : List Loc) (ls : Array Slot), lv_has ls 4 [(0, .ref (kA κ 1 0)), (1, .int a1), (2, .int a2), (3, .int a3)] → HR κ γ H → va_S (AA κ) s.heap H locs → ok_X1_passBye_28 a1 a2 a3 γ → x_X1_passBye_28 a1 a2 a3 γ = res → W p l e (headSpec [Cond.code yX1_passBye cX1_passBye 4 none] ({ frames := 1, cells := 0, slots := 0, locals := 22 } : Room)).room s m ([.ref (kA κ 1 0), .int y1] : List Value).toArray below meth c H locs 0 0 (MQ below (QQ κ res none) ([.ref (kA κ 1 0), .int y1] : List Value).toArray s 0 0 (AA κ)) (F0 m 28 ls []) := by
    intro a1 a2 a3 γ H locs ls hl hH hS hk hq
    refine lv_aload_n hx hb dX1_passBye_28 rfl (lv_at hl 0 rfl) ?_
    refine lv_iload_n hx hb dX1_passBye_29 rfl (lv_at hl 1 rfl) ?_
    refine lv_iload_n hx hb dX1_passBye_30 rfl (lv_at hl 2 rfl) ?_
    refine lv_iconst (v := (-1)) hx hb dX1_passBye_31 (by decide) ?_
    refine lv_icmp_ne (tgt := 39) hx hb dX1_passBye_32 (by decide) (fun c20 => ?_) (fun c20 => ?_)
    · have hk := ifn hk c20
      have hq := ifne hq c20
      refine lv_iload_n hx hb dX1_passBye_39 rfl (lv_at hl 2 rfl) ?_
      exact b_40 a2 a1 γ _ _ _ (lv_sub hl [] rfl) hH hS hk hq
    · have hk := ifp hk c20
      have hq := ifpe hq c20
      refine lv_iload_n hx hb dX1_passBye_35 rfl (lv_at hl 3 rfl) ?_
      refine lv_goto (tgt := 40) hx hb dX1_passBye_36 (by decide) ?_
      exact b_40 a3 a1 γ _ _ _ (lv_sub hl [] rfl) hH hS hk hq
  refine lv_aload_n hx hb dX1_passBye_0 rfl (lv_at hl 0 rfl) ?_
  refine lv_iconst (v := 2) hx hb dX1_passBye_1 (by decide) ?_
  refine lv_iload_n hx hb dX1_passBye_2 rfl (lv_at hl 1 rfl) ?_
  refine lv_imul hx hb dX1_passBye_3 ?_
  obtain ⟨hc21, hk⟩ := hk
  refine k_callV (C := RX1) (T := TX1) (N := 3) (rest := []) hC hl hH hS (c_X1_at l κ γ (2 * y1) hc21) lv_1 rfl rfl tw_422 tw_424 tw_12 tw_41 tw_425 hd_X1_at ⟨Nat.le_of_ble_eq_true rfl, Nat.le_of_ble_eq_true rfl⟩ rfl rfl rfl rfl (Nat.le_of_ble_eq_true rfl) dX1_passBye_4 ⟨Nat.le_of_ble_eq_true rfl, Nat.le_of_ble_eq_true rfl⟩ rfl (fun H locs hH hS => ?_)
  refine lv_istore_n (lv' := [(2, .int ((x_X1_at (2 * y1) γ))), (0, .ref (kA κ 1 0)), (1, .int y1)]) hx hb dX1_passBye_7 rfl hl (by decide) rfl (fun ls hl => ?_)
  refine lv_aload_n hx hb dX1_passBye_8 rfl (lv_at hl 1 rfl) ?_
  refine lv_iconst (v := 2) hx hb dX1_passBye_9 (by decide) ?_
  refine lv_iload_n hx hb dX1_passBye_10 rfl (lv_at hl 2 rfl) ?_
  refine lv_imul hx hb dX1_passBye_11 ?_
  refine lv_iconst (v := 1) hx hb dX1_passBye_12 (by decide) ?_
  refine lv_iadd hx hb dX1_passBye_13 ?_
  obtain ⟨hc22, hk⟩ := hk
  refine k_callV (C := RX1) (T := TX1) (N := 3) (rest := []) hC hl hH hS (c_X1_at l κ γ ((2 * y1) + 1) hc22) lv_1 rfl rfl tw_422 tw_424 tw_12 tw_41 tw_425 hd_X1_at ⟨Nat.le_of_ble_eq_true rfl, Nat.le_of_ble_eq_true rfl⟩ rfl rfl rfl rfl (Nat.le_of_ble_eq_true rfl) dX1_passBye_14 ⟨Nat.le_of_ble_eq_true rfl, Nat.le_of_ble_eq_true rfl⟩ rfl (fun H locs hH hS => ?_)
  refine lv_istore_n (lv' := [(3, .int ((x_X1_at ((2 * y1) + 1) γ))), (2, .int ((x_X1_at (2 * y1) γ))), (0, .ref (kA κ 1 0)), (1, .int y1)]) hx hb dX1_passBye_17 rfl hl (by decide) rfl (fun ls hl => ?_)
  refine lv_iload_n hx hb dX1_passBye_18 rfl (lv_at hl 1 rfl) ?_
  refine lv_iconst (v := (-1)) hx hb dX1_passBye_19 (by decide) ?_
  refine lv_icmp_eq (tgt := 28) hx hb dX1_passBye_20 (by decide) (fun c23 => ?_) (fun c23 => ?_)
  · have hk := ifp hk c23
    have hq := ifpe hq c23
    exact b_28 y1 ((x_X1_at (2 * y1) γ)) ((x_X1_at ((2 * y1) + 1) γ)) γ _ _ _ (lv_sub hl [2, 3, 1, 0] rfl) hH hS hk hq
  · have hk := ifn hk c23
    have hq := ifne hq c23
    refine lv_iload_n hx hb dX1_passBye_23 rfl (lv_at hl 0 rfl) ?_
    refine lv_iconst (v := (-1)) hx hb dX1_passBye_24 (by decide) ?_
    refine lv_icmp_ne (tgt := 43) hx hb dX1_passBye_25 (by decide) (fun c24 => ?_) (fun c24 => ?_)
    · have hk := ifn hk c24
      have hq := ifne hq c24
      subst hq
      exact kr_v hC hr hH hS rfl dX1_passBye_43
    · have hk := ifp hk c24
      have hq := ifpe hq c24
      exact b_28 y1 ((x_X1_at (2 * y1) γ)) ((x_X1_at ((2 * y1) + 1) γ)) γ _ _ _ (lv_sub hl [2, 3, 1, 0] rfl) hH hS hk hq
set_option maxRecDepth 20000 in
set_option maxHeartbeats 4000000 in
theorem c_X5_kept (l : Launch) (κ : KP) (γ : St) (o : Nat) (y1 : Int32) (y2 : Int32) (hvo : lv κ 5 o) (hk : ok_X5_kept o y1 y2 γ) : Met l yX5_kept [Cond.code yX5_kept cX5_kept 4 (some .int)] ({ frames := 0, cells := 0, slots := 0, locals := 0 } : Room) (va_Pc [.ref (kA κ 5 o), .int y1, .int y2] (GG κ γ)) (QQ κ γ (some (.int ((x_X5_kept o y1 y2 γ))))) 0 0 (AA κ) := by
  generalize hq : x_X5_kept o y1 y2 γ = res
  refine Met.ofW (cc := cX5_kept) (maxL := 4) (ret := (some .int)) (by decide) rfl ?_
  intro p e s m args below meth c s₁ B hml9 hv
  obtain ⟨rfl, hH, hK9, hB9, hX9, hZ9⟩ := hv
  have hC : CX κ cX5_kept "Phrasehall$Pool" 4 p l s m ([.ref (kA κ 5 o), .int y1, .int y2] : List Value).toArray meth c := ⟨B.exec, B.bytes, findClass_of_methodNamed B.named, fun w hw => tw_use (List.mem_filter.mp hw).2 (State.WarmedH.refl s) (hX9.1 w hw), hK9, hX9, hZ9, hB9, hml9, B.notSynchronized⟩
  obtain ⟨hx, hb, hown, hT, -, -, -, -, hml, -⟩ := id hC
  have hr := B.returns
  have hS : va_S (AA κ) s.heap s.heap [] := va_S.rf
  have hl := lv_entry ([.ref (kA κ 5 o), .int y1, .int y2]) (n := 4) (Nat.le_of_ble_eq_true rfl)
  rw [lg_entry_eq]
  generalize (lg_sl ([.ref (kA κ 5 o), .int y1, .int y2]) ++ List.replicate (4 - (lg_sl ([.ref (kA κ 5 o), .int y1, .int y2])).length) Slot.unset).toArray = ls at hl ⊢
  have hl : lv_has ls 4 [(0, .ref (kA κ 5 o)), (1, .int y1), (2, .int y2)] := hl
  have b_28 : ∀ (H : Heap) (locs : List Loc) (ls : Array Slot), lv_has ls 4 [] → HR κ γ H → va_S (AA κ) s.heap H locs → ok_X5_kept_28 o γ → x_X5_kept_28 o γ = res → W p l e (headSpec [Cond.code yX5_kept cX5_kept 4 (some .int)] ({ frames := 0, cells := 0, slots := 0, locals := 0 } : Room)).room s m ([.ref (kA κ 5 o), .int y1, .int y2] : List Value).toArray below meth c H locs 0 0 (MQ below (QQ κ γ (some (.int res))) ([.ref (kA κ 5 o), .int y1, .int y2] : List Value).toArray s 0 0 (AA κ)) (F0 m 28 ls []) := by
    intro  H locs ls hl hH hS hk hq
    refine lv_iconst (v := 0) hx hb dX5_kept_28 (by decide) ?_
    subst hq
    exact kr_i hC hr hH hS rfl rfl dX5_kept_29
  refine lv_iload_n hx hb dX5_kept_0 rfl (lv_at hl 1 rfl) ?_
  refine lv_iconst (v := 4) hx hb dX5_kept_1 (by decide) ?_
  refine lv_imul hx hb dX5_kept_2 ?_
  refine lv_iload_n hx hb dX5_kept_3 rfl (lv_at hl 2 rfl) ?_
  refine lv_iadd hx hb dX5_kept_4 ?_
  refine lv_istore_n (lv' := [(3, .int ((y1 * 4) + y2)), (0, .ref (kA κ 5 o)), (1, .int y1), (2, .int y2)]) hx hb dX5_kept_5 rfl hl (by decide) rfl (fun ls hl => ?_)
  refine lv_iload_n hx hb dX5_kept_6 rfl (lv_at hl 0 rfl) ?_
  refine lv_if_lt (tgt := 28) hx hb dX5_kept_7 (by decide) (fun c10 => ?_) (fun c10 => ?_)
  · have hk := ifp hk c10
    have hq := ifpe hq c10
    exact b_28 _ _ _ (lv_sub hl [] rfl) hH hS hk hq
  · have hk := ifn hk c10
    have hq := ifne hq c10
    refine lv_iload_n hx hb dX5_kept_10 rfl (lv_at hl 0 rfl) ?_
    refine lv_aload_n hx hb dX5_kept_11 rfl (lv_at hl 1 rfl) ?_
    refine hp_get (v := .ref (kA κ 18 o)) (C := RX5) (T := TX5) (N := 5) hC inX5 hH hvo rfl rfl 2 (by decide) tw_762 rfl rfl dX5_kept_12 ?_
    refine hp_alen (v := 48) (t0 := 0) hC rfl hH (show lv κ 18 o from hvo) rfl rfl dX5_kept_15 ?_
    refine lv_icmp_ge (tgt := 28) hx hb dX5_kept_16 (by decide) (fun c11 => ?_) (fun c11 => ?_)
    · have hk := ifp hk c11
      have hq := ifpe hq c11
      exact b_28 _ _ _ (lv_sub hl [] rfl) hH hS hk hq
    · have hk := ifn hk c11
      have hq := ifne hq c11
      refine lv_aload_n hx hb dX5_kept_19 rfl (lv_at hl 1 rfl) ?_
      refine hp_get (v := .ref (kA κ 18 o)) (C := RX5) (T := TX5) (N := 5) hC inX5 hH hvo rfl rfl 2 (by decide) tw_762 rfl rfl dX5_kept_20 ?_
      refine lv_iload_n hx hb dX5_kept_23 rfl (lv_at hl 0 rfl) ?_
      obtain ⟨hi12, hk⟩ := hk
      refine hp_ald (v := gV γ 18 o (((y1 * 4) + y2 : Int32).toNatClampNeg)) hC hH (show lv κ 18 o from hvo) rfl hi12 rfl dX5_kept_24 ?_
      refine lv_goto (tgt := 29) hx hb dX5_kept_25 (by decide) ?_
      subst hq
      exact kr_i hC hr hH hS rfl rfl dX5_kept_29
set_option maxRecDepth 20000 in
set_option maxHeartbeats 4000000 in
theorem c_X5_balance (l : Launch) (κ : KP) (γ : St) (o : Nat) (y1 : Int32) (hvo : lv κ 5 o) (hk : ok_X5_balance o y1 γ) : Met l yX5_balance [Cond.code yX5_balance cX5_balance 2 (some .int)] ({ frames := 1, cells := 0, slots := 0, locals := 23 } : Room) (va_Pc [.ref (kA κ 5 o), .int y1] (GG κ γ)) (QQ κ γ (some (.int ((x_X5_balance o y1 γ))))) 0 0 (AA κ) := by
  generalize hq : x_X5_balance o y1 γ = res
  refine Met.ofW (cc := cX5_balance) (maxL := 2) (ret := (some .int)) (by decide) rfl ?_
  intro p e s m args below meth c s₁ B hml9 hv
  obtain ⟨rfl, hH, hK9, hB9, hX9, hZ9⟩ := hv
  have hC : CX κ cX5_balance "Phrasehall$Pool" 2 p l s m ([.ref (kA κ 5 o), .int y1] : List Value).toArray meth c := ⟨B.exec, B.bytes, findClass_of_methodNamed B.named, fun w hw => tw_use (List.mem_filter.mp hw).2 (State.WarmedH.refl s) (hX9.1 w hw), hK9, hX9, hZ9, hB9, hml9, B.notSynchronized⟩
  obtain ⟨hx, hb, hown, hT, -, -, -, -, hml, -⟩ := id hC
  have hr := B.returns
  have hS : va_S (AA κ) s.heap s.heap [] := va_S.rf
  have hl := lv_entry ([.ref (kA κ 5 o), .int y1]) (n := 2) (Nat.le_of_ble_eq_true rfl)
  rw [lg_entry_eq]
  generalize (lg_sl ([.ref (kA κ 5 o), .int y1]) ++ List.replicate (2 - (lg_sl ([.ref (kA κ 5 o), .int y1])).length) Slot.unset).toArray = ls at hl ⊢
  have hl : lv_has ls 2 [(0, .ref (kA κ 5 o)), (1, .int y1)] := hl
  refine lv_aload_n hx hb dX5_balance_0 rfl (lv_at hl 0 rfl) ?_
  refine lv_iload_n hx hb dX5_balance_1 rfl (lv_at hl 1 rfl) ?_
  refine lv_iconst (v := 2) hx hb dX5_balance_2 (by decide) ?_
  obtain ⟨hc5, hk⟩ := hk
  refine k_callV (C := RX5) (T := TX5) (N := 5) (rest := []) hC hl hH hS (c_X5_kept l κ γ o y1 2 hvo hc5) hvo rfl rfl tw_384 tw_325 tw_326 tw_49 tw_327 hd_X5_kept ⟨Nat.le_of_ble_eq_true rfl, Nat.le_of_ble_eq_true rfl⟩ rfl rfl rfl rfl (Nat.le_of_ble_eq_true rfl) dX5_balance_3 ⟨Nat.le_of_ble_eq_true rfl, Nat.le_of_ble_eq_true rfl⟩ rfl (fun H locs hH hS => ?_)
  refine lv_aload_n hx hb dX5_balance_6 rfl (lv_at hl 0 rfl) ?_
  refine lv_iload_n hx hb dX5_balance_7 rfl (lv_at hl 1 rfl) ?_
  refine lv_iconst (v := 3) hx hb dX5_balance_8 (by decide) ?_
  obtain ⟨hc6, hk⟩ := hk
  refine k_callV (C := RX5) (T := TX5) (N := 5) (rest := [.int ((x_X5_kept o y1 2 γ))]) hC hl hH hS (c_X5_kept l κ γ o y1 3 hvo hc6) hvo rfl rfl tw_384 tw_325 tw_326 tw_49 tw_327 hd_X5_kept ⟨Nat.le_of_ble_eq_true rfl, Nat.le_of_ble_eq_true rfl⟩ rfl rfl rfl rfl (Nat.le_of_ble_eq_true rfl) dX5_balance_9 ⟨Nat.le_of_ble_eq_true rfl, Nat.le_of_ble_eq_true rfl⟩ rfl (fun H locs hH hS => ?_)
  refine lv_isub hx hb dX5_balance_12 ?_
  subst hq
  exact kr_i hC hr hH hS rfl rfl dX5_balance_13
set_option maxRecDepth 20000 in
set_option maxHeartbeats 4000000 in
theorem c_X5_isAhead (l : Launch) (κ : KP) (γ : St) (o : Nat) (y1 : Int32) (y2 : Int32) (hvo : lv κ 5 o) (hk : ok_X5_isAhead o y1 y2 γ) : Met l yX5_isAhead [Cond.code yX5_isAhead cX5_isAhead 5 (some .boolean)] ({ frames := 2, cells := 0, slots := 0, locals := 44 } : Room) (va_Pc [.ref (kA κ 5 o), .int y1, .int y2] (GG κ γ)) (QQ κ γ (some (.int ((x_X5_isAhead o y1 y2 γ))))) 0 0 (AA κ) := by
  generalize hq : x_X5_isAhead o y1 y2 γ = res
  refine Met.ofW (cc := cX5_isAhead) (maxL := 5) (ret := (some .boolean)) (by decide) rfl ?_
  intro p e s m args below meth c s₁ B hml9 hv
  obtain ⟨rfl, hH, hK9, hB9, hX9, hZ9⟩ := hv
  have hC : CX κ cX5_isAhead "Phrasehall$Pool" 5 p l s m ([.ref (kA κ 5 o), .int y1, .int y2] : List Value).toArray meth c := ⟨B.exec, B.bytes, findClass_of_methodNamed B.named, fun w hw => tw_use (List.mem_filter.mp hw).2 (State.WarmedH.refl s) (hX9.1 w hw), hK9, hX9, hZ9, hB9, hml9, B.notSynchronized⟩
  obtain ⟨hx, hb, hown, hT, -, -, -, -, hml, -⟩ := id hC
  have hr := B.returns
  have hS : va_S (AA κ) s.heap s.heap [] := va_S.rf
  have hl := lv_entry ([.ref (kA κ 5 o), .int y1, .int y2]) (n := 5) (Nat.le_of_ble_eq_true rfl)
  rw [lg_entry_eq]
  generalize (lg_sl ([.ref (kA κ 5 o), .int y1, .int y2]) ++ List.replicate (5 - (lg_sl ([.ref (kA κ 5 o), .int y1, .int y2])).length) Slot.unset).toArray = ls at hl ⊢
  have hl : lv_has ls 5 [(0, .ref (kA κ 5 o)), (1, .int y1), (2, .int y2)] := hl
  refine lv_aload_n hx hb dX5_isAhead_0 rfl (lv_at hl 0 rfl) ?_
  refine lv_iload_n hx hb dX5_isAhead_1 rfl (lv_at hl 1 rfl) ?_
  refine lv_iconst (v := 1) hx hb dX5_isAhead_2 (by decide) ?_
  obtain ⟨hc39, hk⟩ := hk
  refine k_callV (C := RX5) (T := TX5) (N := 5) (rest := []) hC hl hH hS (c_X5_kept l κ γ o y1 1 hvo hc39) hvo rfl rfl tw_384 tw_325 tw_326 tw_49 tw_327 hd_X5_kept ⟨Nat.le_of_ble_eq_true rfl, Nat.le_of_ble_eq_true rfl⟩ rfl rfl rfl rfl (Nat.le_of_ble_eq_true rfl) dX5_isAhead_3 ⟨Nat.le_of_ble_eq_true rfl, Nat.le_of_ble_eq_true rfl⟩ rfl (fun H locs hH hS => ?_)
  refine lv_iconst (v := 1) hx hb dX5_isAhead_6 (by decide) ?_
  refine lv_aload_n hx hb dX5_isAhead_7 rfl (lv_at hl 0 rfl) ?_
  refine lv_iload_n hx hb dX5_isAhead_8 rfl (lv_at hl 2 rfl) ?_
  refine lv_iconst (v := 0) hx hb dX5_isAhead_9 (by decide) ?_
  obtain ⟨hc40, hk⟩ := hk
  refine k_callV (C := RX5) (T := TX5) (N := 5) (rest := [.int 1, .int ((x_X5_kept o y1 1 γ))]) hC hl hH hS (c_X5_kept l κ γ o y2 0 hvo hc40) hvo rfl rfl tw_384 tw_325 tw_326 tw_49 tw_327 hd_X5_kept ⟨Nat.le_of_ble_eq_true rfl, Nat.le_of_ble_eq_true rfl⟩ rfl rfl rfl rfl (Nat.le_of_ble_eq_true rfl) dX5_isAhead_10 ⟨Nat.le_of_ble_eq_true rfl, Nat.le_of_ble_eq_true rfl⟩ rfl (fun H locs hH hS => ?_)
  refine va_mmax hx hb (by rw [hml]; exact hl.1.symm) hown (hT _ tw_385) (hT _ tw_386) (hT _ tw_52) (hT _ tw_387) (Nat.le_of_ble_eq_true rfl) (Nat.le_of_ble_eq_true rfl) (Nat.le_of_ble_eq_true rfl) (Nat.le_of_ble_eq_true rfl) dX5_isAhead_13 ?_
  refine lv_imul hx hb dX5_isAhead_16 ?_
  refine lv_istore_n (lv' := [(3, .int (((x_X5_kept o y1 1 γ)) * (if 1 < ((x_X5_kept o y2 0 γ)) then ((x_X5_kept o y2 0 γ)) else 1))), (0, .ref (kA κ 5 o)), (1, .int y1), (2, .int y2)]) hx hb dX5_isAhead_17 rfl hl (by decide) rfl (fun ls hl => ?_)
  refine lv_aload_n hx hb dX5_isAhead_18 rfl (lv_at hl 1 rfl) ?_
  refine lv_iload_n hx hb dX5_isAhead_19 rfl (lv_at hl 3 rfl) ?_
  refine lv_iconst (v := 1) hx hb dX5_isAhead_20 (by decide) ?_
  obtain ⟨hc41, hk⟩ := hk
  refine k_callV (C := RX5) (T := TX5) (N := 5) (rest := []) hC hl hH hS (c_X5_kept l κ γ o y2 1 hvo hc41) hvo rfl rfl tw_384 tw_325 tw_326 tw_49 tw_327 hd_X5_kept ⟨Nat.le_of_ble_eq_true rfl, Nat.le_of_ble_eq_true rfl⟩ rfl rfl rfl rfl (Nat.le_of_ble_eq_true rfl) dX5_isAhead_21 ⟨Nat.le_of_ble_eq_true rfl, Nat.le_of_ble_eq_true rfl⟩ rfl (fun H locs hH hS => ?_)
  refine lv_iconst (v := 1) hx hb dX5_isAhead_24 (by decide) ?_
  refine lv_aload_n hx hb dX5_isAhead_25 rfl (lv_at hl 1 rfl) ?_
  refine lv_iload_n hx hb dX5_isAhead_26 rfl (lv_at hl 2 rfl) ?_
  refine lv_iconst (v := 0) hx hb dX5_isAhead_27 (by decide) ?_
  obtain ⟨hc42, hk⟩ := hk
  refine k_callV (C := RX5) (T := TX5) (N := 5) (rest := [.int 1, .int ((x_X5_kept o y2 1 γ))]) hC hl hH hS (c_X5_kept l κ γ o y1 0 hvo hc42) hvo rfl rfl tw_384 tw_325 tw_326 tw_49 tw_327 hd_X5_kept ⟨Nat.le_of_ble_eq_true rfl, Nat.le_of_ble_eq_true rfl⟩ rfl rfl rfl rfl (Nat.le_of_ble_eq_true rfl) dX5_isAhead_28 ⟨Nat.le_of_ble_eq_true rfl, Nat.le_of_ble_eq_true rfl⟩ rfl (fun H locs hH hS => ?_)
  refine va_mmax hx hb (by rw [hml]; exact hl.1.symm) hown (hT _ tw_385) (hT _ tw_386) (hT _ tw_52) (hT _ tw_387) (Nat.le_of_ble_eq_true rfl) (Nat.le_of_ble_eq_true rfl) (Nat.le_of_ble_eq_true rfl) (Nat.le_of_ble_eq_true rfl) dX5_isAhead_31 ?_
  refine lv_imul hx hb dX5_isAhead_34 ?_
  refine lv_istore (lv' := [(4, .int (((x_X5_kept o y2 1 γ)) * (if 1 < ((x_X5_kept o y1 0 γ)) then ((x_X5_kept o y1 0 γ)) else 1))), (3, .int (((x_X5_kept o y1 1 γ)) * (if 1 < ((x_X5_kept o y2 0 γ)) then ((x_X5_kept o y2 0 γ)) else 1))), (0, .ref (kA κ 5 o)), (1, .int y1), (2, .int y2)]) hx hb dX5_isAhead_35 hl (by decide) rfl (fun ls hl => ?_)
  refine lv_iload_n hx hb dX5_isAhead_37 rfl (lv_at hl 1 rfl) ?_
  refine lv_iload hx hb dX5_isAhead_38 (lv_at hl 0 rfl) ?_
  refine lv_icmp_eq (tgt := 55) hx hb dX5_isAhead_40 (by decide) (fun c43 => ?_) (fun c43 => ?_)
  · have hk := ifp hk c43
    have hq := ifpe hq c43
    refine lv_aload_n hx hb dX5_isAhead_55 rfl (lv_at hl 2 rfl) ?_
    refine lv_iload_n hx hb dX5_isAhead_56 rfl (lv_at hl 3 rfl) ?_
    obtain ⟨hc44, hk⟩ := hk
    refine k_callV (C := RX5) (T := TX5) (N := 5) (rest := []) hC hl hH hS (c_X5_balance l κ γ o y1 hvo hc44) hvo rfl rfl tw_388 tw_390 tw_8 tw_49 tw_391 hd_X5_balance ⟨Nat.le_of_ble_eq_true rfl, Nat.le_of_ble_eq_true rfl⟩ rfl rfl rfl rfl (Nat.le_of_ble_eq_true rfl) dX5_isAhead_57 ⟨Nat.le_of_ble_eq_true rfl, Nat.le_of_ble_eq_true rfl⟩ rfl (fun H locs hH hS => ?_)
    refine lv_aload_n hx hb dX5_isAhead_60 rfl (lv_at hl 2 rfl) ?_
    refine lv_iload_n hx hb dX5_isAhead_61 rfl (lv_at hl 4 rfl) ?_
    obtain ⟨hc45, hk⟩ := hk
    refine k_callV (C := RX5) (T := TX5) (N := 5) (rest := [.int ((x_X5_balance o y1 γ))]) hC hl hH hS (c_X5_balance l κ γ o y2 hvo hc45) hvo rfl rfl tw_388 tw_390 tw_8 tw_49 tw_391 hd_X5_balance ⟨Nat.le_of_ble_eq_true rfl, Nat.le_of_ble_eq_true rfl⟩ rfl rfl rfl rfl (Nat.le_of_ble_eq_true rfl) dX5_isAhead_62 ⟨Nat.le_of_ble_eq_true rfl, Nat.le_of_ble_eq_true rfl⟩ rfl (fun H locs hH hS => ?_)
    refine lv_icmp_eq (tgt := 87) hx hb dX5_isAhead_65 (by decide) (fun c46 => ?_) (fun c46 => ?_)
    · have hk := ifp hk c46
      have hq := ifpe hq c46
      refine lv_aload_n hx hb dX5_isAhead_87 rfl (lv_at hl 2 rfl) ?_
      refine lv_iload_n hx hb dX5_isAhead_88 rfl (lv_at hl 3 rfl) ?_
      refine lv_iconst (v := 2) hx hb dX5_isAhead_89 (by decide) ?_
      obtain ⟨hc47, hk⟩ := hk
      refine k_callV (C := RX5) (T := TX5) (N := 5) (rest := []) hC hl hH hS (c_X5_kept l κ γ o y1 2 hvo hc47) hvo rfl rfl tw_384 tw_325 tw_326 tw_49 tw_327 hd_X5_kept ⟨Nat.le_of_ble_eq_true rfl, Nat.le_of_ble_eq_true rfl⟩ rfl rfl rfl rfl (Nat.le_of_ble_eq_true rfl) dX5_isAhead_90 ⟨Nat.le_of_ble_eq_true rfl, Nat.le_of_ble_eq_true rfl⟩ rfl (fun H locs hH hS => ?_)
      refine lv_aload_n hx hb dX5_isAhead_93 rfl (lv_at hl 2 rfl) ?_
      refine lv_iload_n hx hb dX5_isAhead_94 rfl (lv_at hl 4 rfl) ?_
      refine lv_iconst (v := 2) hx hb dX5_isAhead_95 (by decide) ?_
      obtain ⟨hc48, hk⟩ := hk
      refine k_callV (C := RX5) (T := TX5) (N := 5) (rest := [.int ((x_X5_kept o y1 2 γ))]) hC hl hH hS (c_X5_kept l κ γ o y2 2 hvo hc48) hvo rfl rfl tw_384 tw_325 tw_326 tw_49 tw_327 hd_X5_kept ⟨Nat.le_of_ble_eq_true rfl, Nat.le_of_ble_eq_true rfl⟩ rfl rfl rfl rfl (Nat.le_of_ble_eq_true rfl) dX5_isAhead_96 ⟨Nat.le_of_ble_eq_true rfl, Nat.le_of_ble_eq_true rfl⟩ rfl (fun H locs hH hS => ?_)
      refine lv_icmp_eq (tgt := 123) hx hb dX5_isAhead_99 (by decide) (fun c49 => ?_) (fun c49 => ?_)
      · have hk := ifp hk c49
        have hq := ifpe hq c49
        refine lv_iload_n hx hb dX5_isAhead_123 rfl (lv_at hl 3 rfl) ?_
        refine lv_iload_n hx hb dX5_isAhead_124 rfl (lv_at hl 4 rfl) ?_
        refine lv_icmp_ge (tgt := 132) hx hb dX5_isAhead_125 (by decide) (fun c50 => ?_) (fun c50 => ?_)
        · have hk := ifp hk c50
          have hq := ifpe hq c50
          refine lv_iconst (v := 0) hx hb dX5_isAhead_132 (by decide) ?_
          subst hq
          exact kr_z hC hr rfl hH hS rfl rfl dX5_isAhead_133
        · have hk := ifn hk c50
          have hq := ifne hq c50
          refine lv_iconst (v := 1) hx hb dX5_isAhead_128 (by decide) ?_
          refine lv_goto (tgt := 133) hx hb dX5_isAhead_129 (by decide) ?_
          subst hq
          exact kr_z hC hr rfl hH hS rfl rfl dX5_isAhead_133
      · have hk := ifn hk c49
        have hq := ifne hq c49
        refine lv_aload_n hx hb dX5_isAhead_102 rfl (lv_at hl 2 rfl) ?_
        refine lv_iload_n hx hb dX5_isAhead_103 rfl (lv_at hl 3 rfl) ?_
        refine lv_iconst (v := 2) hx hb dX5_isAhead_104 (by decide) ?_
        obtain ⟨hc51, hk⟩ := hk
        refine k_callV (C := RX5) (T := TX5) (N := 5) (rest := []) hC hl hH hS (c_X5_kept l κ γ o y1 2 hvo hc51) hvo rfl rfl tw_384 tw_325 tw_326 tw_49 tw_327 hd_X5_kept ⟨Nat.le_of_ble_eq_true rfl, Nat.le_of_ble_eq_true rfl⟩ rfl rfl rfl rfl (Nat.le_of_ble_eq_true rfl) dX5_isAhead_105 ⟨Nat.le_of_ble_eq_true rfl, Nat.le_of_ble_eq_true rfl⟩ rfl (fun H locs hH hS => ?_)
        refine lv_aload_n hx hb dX5_isAhead_108 rfl (lv_at hl 2 rfl) ?_
        refine lv_iload_n hx hb dX5_isAhead_109 rfl (lv_at hl 4 rfl) ?_
        refine lv_iconst (v := 2) hx hb dX5_isAhead_110 (by decide) ?_
        obtain ⟨hc52, hk⟩ := hk
        refine k_callV (C := RX5) (T := TX5) (N := 5) (rest := [.int ((x_X5_kept o y1 2 γ))]) hC hl hH hS (c_X5_kept l κ γ o y2 2 hvo hc52) hvo rfl rfl tw_384 tw_325 tw_326 tw_49 tw_327 hd_X5_kept ⟨Nat.le_of_ble_eq_true rfl, Nat.le_of_ble_eq_true rfl⟩ rfl rfl rfl rfl (Nat.le_of_ble_eq_true rfl) dX5_isAhead_111 ⟨Nat.le_of_ble_eq_true rfl, Nat.le_of_ble_eq_true rfl⟩ rfl (fun H locs hH hS => ?_)
        refine lv_icmp_le (tgt := 121) hx hb dX5_isAhead_114 (by decide) (fun c53 => ?_) (fun c53 => ?_)
        · have hk := ifp hk c53
          have hq := ifpe hq c53
          refine lv_iconst (v := 0) hx hb dX5_isAhead_121 (by decide) ?_
          subst hq
          exact kr_z hC hr rfl hH hS rfl rfl dX5_isAhead_122
        · have hk := ifn hk c53
          have hq := ifne hq c53
          refine lv_iconst (v := 1) hx hb dX5_isAhead_117 (by decide) ?_
          refine lv_goto (tgt := 122) hx hb dX5_isAhead_118 (by decide) ?_
          subst hq
          exact kr_z hC hr rfl hH hS rfl rfl dX5_isAhead_122
    · have hk := ifn hk c46
      have hq := ifne hq c46
      refine lv_aload_n hx hb dX5_isAhead_68 rfl (lv_at hl 2 rfl) ?_
      refine lv_iload_n hx hb dX5_isAhead_69 rfl (lv_at hl 3 rfl) ?_
      obtain ⟨hc54, hk⟩ := hk
      refine k_callV (C := RX5) (T := TX5) (N := 5) (rest := []) hC hl hH hS (c_X5_balance l κ γ o y1 hvo hc54) hvo rfl rfl tw_388 tw_390 tw_8 tw_49 tw_391 hd_X5_balance ⟨Nat.le_of_ble_eq_true rfl, Nat.le_of_ble_eq_true rfl⟩ rfl rfl rfl rfl (Nat.le_of_ble_eq_true rfl) dX5_isAhead_70 ⟨Nat.le_of_ble_eq_true rfl, Nat.le_of_ble_eq_true rfl⟩ rfl (fun H locs hH hS => ?_)
      refine lv_aload_n hx hb dX5_isAhead_73 rfl (lv_at hl 2 rfl) ?_
      refine lv_iload_n hx hb dX5_isAhead_74 rfl (lv_at hl 4 rfl) ?_
      obtain ⟨hc55, hk⟩ := hk
      refine k_callV (C := RX5) (T := TX5) (N := 5) (rest := [.int ((x_X5_balance o y1 γ))]) hC hl hH hS (c_X5_balance l κ γ o y2 hvo hc55) hvo rfl rfl tw_388 tw_390 tw_8 tw_49 tw_391 hd_X5_balance ⟨Nat.le_of_ble_eq_true rfl, Nat.le_of_ble_eq_true rfl⟩ rfl rfl rfl rfl (Nat.le_of_ble_eq_true rfl) dX5_isAhead_75 ⟨Nat.le_of_ble_eq_true rfl, Nat.le_of_ble_eq_true rfl⟩ rfl (fun H locs hH hS => ?_)
      refine lv_icmp_le (tgt := 85) hx hb dX5_isAhead_78 (by decide) (fun c56 => ?_) (fun c56 => ?_)
      · have hk := ifp hk c56
        have hq := ifpe hq c56
        refine lv_iconst (v := 0) hx hb dX5_isAhead_85 (by decide) ?_
        subst hq
        exact kr_z hC hr rfl hH hS rfl rfl dX5_isAhead_86
      · have hk := ifn hk c56
        have hq := ifne hq c56
        refine lv_iconst (v := 1) hx hb dX5_isAhead_81 (by decide) ?_
        refine lv_goto (tgt := 86) hx hb dX5_isAhead_82 (by decide) ?_
        subst hq
        exact kr_z hC hr rfl hH hS rfl rfl dX5_isAhead_86
  · have hk := ifn hk c43
    have hq := ifne hq c43
    refine lv_iload_n hx hb dX5_isAhead_43 rfl (lv_at hl 1 rfl) ?_
    refine lv_iload hx hb dX5_isAhead_44 (lv_at hl 0 rfl) ?_
    refine lv_icmp_le (tgt := 53) hx hb dX5_isAhead_46 (by decide) (fun c57 => ?_) (fun c57 => ?_)
    · have hk := ifp hk c57
      have hq := ifpe hq c57
      refine lv_iconst (v := 0) hx hb dX5_isAhead_53 (by decide) ?_
      subst hq
      exact kr_z hC hr rfl hH hS rfl rfl dX5_isAhead_54
    · have hk := ifn hk c57
      have hq := ifne hq c57
      refine lv_iconst (v := 1) hx hb dX5_isAhead_49 (by decide) ?_
      refine lv_goto (tgt := 54) hx hb dX5_isAhead_50 (by decide) ?_
      subst hq
      exact kr_z hC hr rfl hH hS rfl rfl dX5_isAhead_54
set_option maxRecDepth 20000 in
set_option maxHeartbeats 4000000 in
theorem c_X5_insert (l : Launch) (κ : KP) (γ : St) (o : Nat) (y1 : Int32) (y2 : Int32) (hvo : lv κ 5 o) (hk : ok_X5_insert o y1 y2 γ) : Met l yX5_insert [Cond.code yX5_insert cX5_insert 4 none] ({ frames := 3, cells := 0, slots := 0, locals := 68 } : Room) (va_Pc [.ref (kA κ 5 o), .int y1, .int y2] (GG κ γ)) (QQ κ ((x_X5_insert o y1 y2 γ)) none) 0 0 (AA κ) := by
  generalize hq : x_X5_insert o y1 y2 γ = res
  refine Met.ofW (cc := cX5_insert) (maxL := 4) (ret := none) (by decide) rfl ?_
  intro p e s m args below meth c s₁ B hml9 hv
  obtain ⟨rfl, hH, hK9, hB9, hX9, hZ9⟩ := hv
  have hC : CX κ cX5_insert "Phrasehall$Pool" 4 p l s m ([.ref (kA κ 5 o), .int y1, .int y2] : List Value).toArray meth c := ⟨B.exec, B.bytes, findClass_of_methodNamed B.named, fun w hw => tw_use (List.mem_filter.mp hw).2 (State.WarmedH.refl s) (hX9.1 w hw), hK9, hX9, hZ9, hB9, hml9, B.notSynchronized⟩
  obtain ⟨hx, hb, hown, hT, -, -, -, -, hml, -⟩ := id hC
  have hr := B.returns
  have hS : va_S (AA κ) s.heap s.heap [] := va_S.rf
  have hl := lv_entry ([.ref (kA κ 5 o), .int y1, .int y2]) (n := 4) (Nat.le_of_ble_eq_true rfl)
  rw [lg_entry_eq]
  generalize (lg_sl ([.ref (kA κ 5 o), .int y1, .int y2]) ++ List.replicate (4 - (lg_sl ([.ref (kA κ 5 o), .int y1, .int y2])).length) Slot.unset).toArray = ls at hl ⊢
  have hl : lv_has ls 4 [(0, .ref (kA κ 5 o)), (1, .int y1), (2, .int y2)] := hl
  have b_48 : ∀ (a1 : Int32) (a3 : Int32) (γ : St) (H : Heap) (locs : List Loc) (ls : Array Slot), lv_has ls 4 [(0, .ref (kA κ 5 o)), (1, .int a1), (3, .int a3)] → HR κ γ H → va_S (AA κ) s.heap H locs → ok_X5_insert_48 o a1 a3 γ → x_X5_insert_48 o a1 a3 γ = res → W p l e (headSpec [Cond.code yX5_insert cX5_insert 4 none] ({ frames := 3, cells := 0, slots := 0, locals := 68 } : Room)).room s m ([.ref (kA κ 5 o), .int y1, .int y2] : List Value).toArray below meth c H locs 0 0 (MQ below (QQ κ res none) ([.ref (kA κ 5 o), .int y1, .int y2] : List Value).toArray s 0 0 (AA κ)) (F0 m 48 ls []) := by
    intro a1 a3 γ H locs ls hl hH hS hk hq
    refine lv_iload_n hx hb dX5_insert_48 rfl (lv_at hl 2 rfl) ?_
    refine lv_if_lt (tgt := 65) hx hb dX5_insert_49 (by decide) (fun c31 => ?_) (fun c31 => ?_)
    · have hk := ifp hk c31
      have hq := ifpe hq c31
      subst hq
      exact kr_v hC hr hH hS rfl dX5_insert_65
    · have hk := ifn hk c31
      have hq := ifne hq c31
      refine lv_iload_n hx hb dX5_insert_52 rfl (lv_at hl 2 rfl) ?_
      refine lv_bipush (v := 12) hx hb dX5_insert_53 (by decide) ?_
      refine lv_icmp_ge (tgt := 65) hx hb dX5_insert_55 (by decide) (fun c32 => ?_) (fun c32 => ?_)
      · have hk := ifp hk c32
        have hq := ifpe hq c32
        subst hq
        exact kr_v hC hr hH hS rfl dX5_insert_65
      · have hk := ifn hk c32
        have hq := ifne hq c32
        refine lv_aload_n hx hb dX5_insert_58 rfl (lv_at hl 0 rfl) ?_
        refine hp_get (v := .ref (kA κ 19 o)) (C := RX5) (T := TX5) (N := 5) hC inX5 hH hvo rfl rfl 3 (by decide) tw_763 rfl rfl dX5_insert_59 ?_
        refine lv_iload_n hx hb dX5_insert_62 rfl (lv_at hl 2 rfl) ?_
        refine lv_iload_n hx hb dX5_insert_63 rfl (lv_at hl 1 rfl) ?_
        obtain ⟨hi33, hk⟩ := hk
        refine hp_ast hC hH (show lv κ 19 o from hvo) (fun _ => rfl) hS hi33 dX5_insert_64 (fun H locs hH hS => ?_)
        subst hq
        exact kr_v hC hr hH hS rfl dX5_insert_65
  have b_2 : ∀ (k2 : Nat) (a1 : Int32) (a3 : Int32) (γ : St) (H : Heap) (locs : List Loc) (ls : Array Slot), lv_has ls 4 [(0, .ref (kA κ 5 o)), (1, .int a1), (3, .int a3)] → HR κ γ H → va_S (AA κ) s.heap H locs → ok_X5_insert_2 o k2 a1 a3 γ → x_X5_insert_2 o k2 a1 a3 γ = res → W p l e (headSpec [Cond.code yX5_insert cX5_insert 4 none] ({ frames := 3, cells := 0, slots := 0, locals := 68 } : Room)).room s m ([.ref (kA κ 5 o), .int y1, .int y2] : List Value).toArray below meth c H locs 0 0 (MQ below (QQ κ res none) ([.ref (kA κ 5 o), .int y1, .int y2] : List Value).toArray s 0 0 (AA κ)) (F0 m 2 ls []) := by
    intro k2
    induction k2 with
    | zero =>
      intro a1 a3 γ H locs ls hl hH hS hk hq
      exact (show False from hk).elim
    | succ k2 ih_2 =>
      intro a1 a3 γ H locs ls hl hH hS hk hq
      refine lv_iload_n hx hb dX5_insert_2 rfl (lv_at hl 2 rfl) ?_
      refine lv_if_le (tgt := 48) hx hb dX5_insert_3 (by decide) (fun c34 => ?_) (fun c34 => ?_)
      · have hk := ifp hk c34
        have hq := ifpe hq c34
        exact b_48 a1 a3 γ _ _ _ (lv_sub hl [0, 1, 2] rfl) hH hS hk hq
      · have hk := ifn hk c34
        have hq := ifne hq c34
        refine lv_iload_n hx hb dX5_insert_6 rfl (lv_at hl 2 rfl) ?_
        refine lv_bipush (v := 12) hx hb dX5_insert_7 (by decide) ?_
        refine lv_icmp_ge (tgt := 48) hx hb dX5_insert_9 (by decide) (fun c35 => ?_) (fun c35 => ?_)
        · have hk := ifp hk c35
          have hq := ifpe hq c35
          exact b_48 a1 a3 γ _ _ _ (lv_sub hl [0, 1, 2] rfl) hH hS hk hq
        · have hk := ifn hk c35
          have hq := ifne hq c35
          refine lv_aload_n hx hb dX5_insert_12 rfl (lv_at hl 0 rfl) ?_
          refine lv_iload_n hx hb dX5_insert_13 rfl (lv_at hl 1 rfl) ?_
          refine lv_aload_n hx hb dX5_insert_14 rfl (lv_at hl 0 rfl) ?_
          refine hp_get (v := .ref (kA κ 19 o)) (C := RX5) (T := TX5) (N := 5) hC inX5 hH hvo rfl rfl 3 (by decide) tw_763 rfl rfl dX5_insert_15 ?_
          refine lv_iload_n hx hb dX5_insert_18 rfl (lv_at hl 2 rfl) ?_
          refine lv_iconst (v := 1) hx hb dX5_insert_19 (by decide) ?_
          refine lv_isub hx hb dX5_insert_20 ?_
          obtain ⟨hi36, hk⟩ := hk
          refine hp_ald (v := gV γ 19 o ((a3 - 1 : Int32).toNatClampNeg)) hC hH (show lv κ 19 o from hvo) rfl hi36 rfl dX5_insert_21 ?_
          obtain ⟨hc37, hk⟩ := hk
          refine k_callV (C := RX5) (T := TX5) (N := 5) (rest := []) hC hl hH hS (c_X5_isAhead l κ γ o a1 (gV γ 19 o ((a3 - 1 : Int32).toNatClampNeg)) hvo hc37) hvo rfl rfl tw_380 tw_382 tw_7 tw_49 tw_383 hd_X5_isAhead ⟨Nat.le_of_ble_eq_true rfl, Nat.le_of_ble_eq_true rfl⟩ rfl rfl rfl rfl (Nat.le_of_ble_eq_true rfl) dX5_insert_22 ⟨Nat.le_of_ble_eq_true rfl, Nat.le_of_ble_eq_true rfl⟩ rfl (fun H locs hH hS => ?_)
          refine lv_if_eq (tgt := 48) hx hb dX5_insert_25 (by decide) (fun c38 => ?_) (fun c38 => ?_)
          · have hk := ifp hk c38
            have hq := ifpe hq c38
            exact b_48 a1 a3 γ _ _ _ (lv_sub hl [0, 1, 2] rfl) hH hS hk hq
          · have hk := ifn hk c38
            have hq := ifne hq c38
            refine lv_aload_n hx hb dX5_insert_28 rfl (lv_at hl 0 rfl) ?_
            refine hp_get (v := .ref (kA κ 19 o)) (C := RX5) (T := TX5) (N := 5) hC inX5 hH hvo rfl rfl 3 (by decide) tw_763 rfl rfl dX5_insert_29 ?_
            refine lv_iload_n hx hb dX5_insert_32 rfl (lv_at hl 2 rfl) ?_
            refine lv_aload_n hx hb dX5_insert_33 rfl (lv_at hl 0 rfl) ?_
            refine hp_get (v := .ref (kA κ 19 o)) (C := RX5) (T := TX5) (N := 5) hC inX5 hH hvo rfl rfl 3 (by decide) tw_763 rfl rfl dX5_insert_34 ?_
            refine lv_iload_n hx hb dX5_insert_37 rfl (lv_at hl 2 rfl) ?_
            refine lv_iconst (v := 1) hx hb dX5_insert_38 (by decide) ?_
            refine lv_isub hx hb dX5_insert_39 ?_
            obtain ⟨hi39, hk⟩ := hk
            refine hp_ald (v := gV γ 19 o ((a3 - 1 : Int32).toNatClampNeg)) hC hH (show lv κ 19 o from hvo) rfl hi39 rfl dX5_insert_40 ?_
            obtain ⟨hi40, hk⟩ := hk
            refine hp_ast hC hH (show lv κ 19 o from hvo) (fun _ => rfl) hS hi40 dX5_insert_41 (fun H locs hH hS => ?_)
            refine lv_iinc (v := a3 + (-1)) (lv' := [(3, .int (a3 + (-1))), (0, .ref (kA κ 5 o)), (1, .int a1)]) hx hb dX5_insert_42 hl (k := 2) rfl rfl (by decide) rfl (fun ls hl => ?_)
            refine lv_goto (tgt := 2) hx hb dX5_insert_45 (by decide) ?_
            exact ih_2 a1 (a3 + (-1)) (sV γ 19 o ((a3 : Int32).toNatClampNeg) (gV γ 19 o ((a3 - 1 : Int32).toNatClampNeg))) _ _ _ (lv_sub hl [1, 2, 0] rfl) hH hS hk hq
  refine lv_iload_n hx hb dX5_insert_0 rfl (lv_at hl 2 rfl) ?_
  refine lv_istore_n (lv' := [(3, .int y2), (0, .ref (kA κ 5 o)), (1, .int y1), (2, .int y2)]) hx hb dX5_insert_1 rfl hl (by decide) rfl (fun ls hl => ?_)
  exact b_2 fu y1 y2 γ _ _ _ (lv_sub hl [1, 2, 0] rfl) hH hS hk hq
set_option maxRecDepth 20000 in
set_option maxHeartbeats 4000000 in
theorem c_X5_isIn (l : Launch) (κ : KP) (γ : St) (y0 : Int32) (y1 : Int32)  : Met l yX5_isIn [Cond.code yX5_isIn cX5_isIn 2 (some .boolean)] ({ frames := 0, cells := 0, slots := 0, locals := 0 } : Room) (va_Pc [.int y0, .int y1] (GG κ γ)) (QQ κ γ (some (.int ((x_X5_isIn y0 y1 γ))))) 0 0 (AA κ) := by
  generalize hq : x_X5_isIn y0 y1 γ = res
  refine Met.ofW (cc := cX5_isIn) (maxL := 2) (ret := (some .boolean)) (by decide) rfl ?_
  intro p e s m args below meth c s₁ B hml9 hv
  obtain ⟨rfl, hH, hK9, hB9, hX9, hZ9⟩ := hv
  have hC : CX κ cX5_isIn "Phrasehall$Pool" 2 p l s m ([.int y0, .int y1] : List Value).toArray meth c := ⟨B.exec, B.bytes, findClass_of_methodNamed B.named, fun w hw => tw_use (List.mem_filter.mp hw).2 (State.WarmedH.refl s) (hX9.1 w hw), hK9, hX9, hZ9, hB9, hml9, B.notSynchronized⟩
  obtain ⟨hx, hb, hown, hT, -, -, -, -, hml, -⟩ := id hC
  have hr := B.returns
  have hS : va_S (AA κ) s.heap s.heap [] := va_S.rf
  have hl := lv_entry ([.int y0, .int y1]) (n := 2) (Nat.le_of_ble_eq_true rfl)
  rw [lg_entry_eq]
  generalize (lg_sl ([.int y0, .int y1]) ++ List.replicate (2 - (lg_sl ([.int y0, .int y1])).length) Slot.unset).toArray = ls at hl ⊢
  have hl : lv_has ls 2 [(0, .int y0), (1, .int y1)] := hl
  have b_22 : ∀ (H : Heap) (locs : List Loc) (ls : Array Slot), lv_has ls 2 [] → HR κ γ H → va_S (AA κ) s.heap H locs → x_X5_isIn_22 γ = res → W p l e (headSpec [Cond.code yX5_isIn cX5_isIn 2 (some .boolean)] ({ frames := 0, cells := 0, slots := 0, locals := 0 } : Room)).room s m ([.int y0, .int y1] : List Value).toArray below meth c H locs 0 0 (MQ below (QQ κ γ (some (.int res))) ([.int y0, .int y1] : List Value).toArray s 0 0 (AA κ)) (F0 m 22 ls []) := by
    intro  H locs ls hl hH hS hq
    refine lv_iconst (v := 0) hx hb dX5_isIn_22 (by decide) ?_
    subst hq
    exact kr_z hC hr rfl hH hS rfl rfl dX5_isIn_23
  refine lv_iload_n hx hb dX5_isIn_0 rfl (lv_at hl 1 rfl) ?_
  refine lv_if_lt (tgt := 22) hx hb dX5_isIn_1 (by decide) (fun c10 => ?_) (fun c10 => ?_)
  · have hq := ifpe hq c10
    exact b_22 _ _ _ (lv_sub hl [] rfl) hH hS hq
  · have hq := ifne hq c10
    refine lv_iload_n hx hb dX5_isIn_4 rfl (lv_at hl 1 rfl) ?_
    refine lv_bipush (v := 12) hx hb dX5_isIn_5 (by decide) ?_
    refine lv_icmp_ge (tgt := 22) hx hb dX5_isIn_7 (by decide) (fun c11 => ?_) (fun c11 => ?_)
    · have hq := ifpe hq c11
      exact b_22 _ _ _ (lv_sub hl [] rfl) hH hS hq
    · have hq := ifne hq c11
      refine lv_iload_n hx hb dX5_isIn_10 rfl (lv_at hl 0 rfl) ?_
      refine lv_iconst (v := 1) hx hb dX5_isIn_11 (by decide) ?_
      refine lv_iload_n hx hb dX5_isIn_12 rfl (lv_at hl 1 rfl) ?_
      refine lv_ishl hx hb dX5_isIn_13 ?_
      refine lv_iand hx hb dX5_isIn_14 ?_
      refine lv_if_eq (tgt := 22) hx hb dX5_isIn_15 (by decide) (fun c12 => ?_) (fun c12 => ?_)
      · have hq := ifpe hq c12
        exact b_22 _ _ _ (lv_sub hl [] rfl) hH hS hq
      · have hq := ifne hq c12
        refine lv_iconst (v := 1) hx hb dX5_isIn_18 (by decide) ?_
        refine lv_goto (tgt := 23) hx hb dX5_isIn_19 (by decide) ?_
        subst hq
        exact kr_z hC hr rfl hH hS rfl rfl dX5_isIn_23
set_option maxRecDepth 20000 in
set_option maxHeartbeats 4000000 in
theorem c_X5_has (l : Launch) (κ : KP) (γ : St) (o : Nat) (y1 : Int32) (hvo : lv κ 5 o) : Met l yX5_has [Cond.code yX5_has cX5_has 2 (some .boolean)] ({ frames := 1, cells := 0, slots := 0, locals := 21 } : Room) (va_Pc [.ref (kA κ 5 o), .int y1] (GG κ γ)) (QQ κ γ (some (.int ((x_X5_has o y1 γ))))) 0 0 (AA κ) := by
  generalize hq : x_X5_has o y1 γ = res
  refine Met.ofW (cc := cX5_has) (maxL := 2) (ret := (some .boolean)) (by decide) rfl ?_
  intro p e s m args below meth c s₁ B hml9 hv
  obtain ⟨rfl, hH, hK9, hB9, hX9, hZ9⟩ := hv
  have hC : CX κ cX5_has "Phrasehall$Pool" 2 p l s m ([.ref (kA κ 5 o), .int y1] : List Value).toArray meth c := ⟨B.exec, B.bytes, findClass_of_methodNamed B.named, fun w hw => tw_use (List.mem_filter.mp hw).2 (State.WarmedH.refl s) (hX9.1 w hw), hK9, hX9, hZ9, hB9, hml9, B.notSynchronized⟩
  obtain ⟨hx, hb, hown, hT, -, -, -, -, hml, -⟩ := id hC
  have hr := B.returns
  have hS : va_S (AA κ) s.heap s.heap [] := va_S.rf
  have hl := lv_entry ([.ref (kA κ 5 o), .int y1]) (n := 2) (Nat.le_of_ble_eq_true rfl)
  rw [lg_entry_eq]
  generalize (lg_sl ([.ref (kA κ 5 o), .int y1]) ++ List.replicate (2 - (lg_sl ([.ref (kA κ 5 o), .int y1])).length) Slot.unset).toArray = ls at hl ⊢
  have hl : lv_has ls 2 [(0, .ref (kA κ 5 o)), (1, .int y1)] := hl
  refine lv_aload_n hx hb dX5_has_0 rfl (lv_at hl 0 rfl) ?_
  refine hp_get (v := .int (gV γ 5 o 1)) (C := RX5) (T := TX5) (N := 5) hC inX5 hH hvo rfl rfl 1 (by decide) tw_761 rfl rfl dX5_has_1 ?_
  refine lv_iload_n hx hb dX5_has_4 rfl (lv_at hl 1 rfl) ?_
  refine k_callS (rest := []) hC hl hH hS (c_X5_isIn l κ γ (gV γ 5 o 1) y1) tw_317 tw_318 tw_49 tw_319 hd_X5_isIn ⟨Nat.le_of_ble_eq_true rfl, Nat.le_of_ble_eq_true rfl⟩ rfl rfl rfl rfl (Nat.le_of_ble_eq_true rfl) dX5_has_5 ⟨Nat.le_of_ble_eq_true rfl, Nat.le_of_ble_eq_true rfl⟩ rfl (fun H locs hH hS => ?_)
  subst hq
  exact kr_z hC hr (zN_eq _) hH hS rfl rfl dX5_has_8
set_option maxRecDepth 20000 in
set_option maxHeartbeats 4000000 in
theorem c_X5_isWithdrawn (l : Launch) (κ : KP) (γ : St) (o : Nat) (y1 : Int32) (hvo : lv κ 5 o) : Met l yX5_isWithdrawn [Cond.code yX5_isWithdrawn cX5_isWithdrawn 2 (some .boolean)] ({ frames := 1, cells := 0, slots := 0, locals := 21 } : Room) (va_Pc [.ref (kA κ 5 o), .int y1] (GG κ γ)) (QQ κ γ (some (.int ((x_X5_isWithdrawn o y1 γ))))) 0 0 (AA κ) := by
  generalize hq : x_X5_isWithdrawn o y1 γ = res
  refine Met.ofW (cc := cX5_isWithdrawn) (maxL := 2) (ret := (some .boolean)) (by decide) rfl ?_
  intro p e s m args below meth c s₁ B hml9 hv
  obtain ⟨rfl, hH, hK9, hB9, hX9, hZ9⟩ := hv
  have hC : CX κ cX5_isWithdrawn "Phrasehall$Pool" 2 p l s m ([.ref (kA κ 5 o), .int y1] : List Value).toArray meth c := ⟨B.exec, B.bytes, findClass_of_methodNamed B.named, fun w hw => tw_use (List.mem_filter.mp hw).2 (State.WarmedH.refl s) (hX9.1 w hw), hK9, hX9, hZ9, hB9, hml9, B.notSynchronized⟩
  obtain ⟨hx, hb, hown, hT, -, -, -, -, hml, -⟩ := id hC
  have hr := B.returns
  have hS : va_S (AA κ) s.heap s.heap [] := va_S.rf
  have hl := lv_entry ([.ref (kA κ 5 o), .int y1]) (n := 2) (Nat.le_of_ble_eq_true rfl)
  rw [lg_entry_eq]
  generalize (lg_sl ([.ref (kA κ 5 o), .int y1]) ++ List.replicate (2 - (lg_sl ([.ref (kA κ 5 o), .int y1])).length) Slot.unset).toArray = ls at hl ⊢
  have hl : lv_has ls 2 [(0, .ref (kA κ 5 o)), (1, .int y1)] := hl
  refine lv_aload_n hx hb dX5_isWithdrawn_0 rfl (lv_at hl 0 rfl) ?_
  refine hp_get (v := .int (gV γ 5 o 4)) (C := RX5) (T := TX5) (N := 5) hC inX5 hH hvo rfl rfl 4 (by decide) tw_764 rfl rfl dX5_isWithdrawn_1 ?_
  refine lv_iload_n hx hb dX5_isWithdrawn_4 rfl (lv_at hl 1 rfl) ?_
  refine k_callS (rest := []) hC hl hH hS (c_X5_isIn l κ γ (gV γ 5 o 4) y1) tw_317 tw_318 tw_49 tw_319 hd_X5_isIn ⟨Nat.le_of_ble_eq_true rfl, Nat.le_of_ble_eq_true rfl⟩ rfl rfl rfl rfl (Nat.le_of_ble_eq_true rfl) dX5_isWithdrawn_5 ⟨Nat.le_of_ble_eq_true rfl, Nat.le_of_ble_eq_true rfl⟩ rfl (fun H locs hH hS => ?_)
  subst hq
  exact kr_z hC hr (zN_eq _) hH hS rfl rfl dX5_isWithdrawn_8
set_option maxRecDepth 20000 in
set_option maxHeartbeats 4000000 in
theorem c_X5_isRanked (l : Launch) (κ : KP) (γ : St) (o : Nat) (y1 : Int32) (hvo : lv κ 5 o) : Met l yX5_isRanked [Cond.code yX5_isRanked cX5_isRanked 2 (some .boolean)] ({ frames := 2, cells := 0, slots := 0, locals := 42 } : Room) (va_Pc [.ref (kA κ 5 o), .int y1] (GG κ γ)) (QQ κ γ (some (.int ((x_X5_isRanked o y1 γ))))) 0 0 (AA κ) := by
  generalize hq : x_X5_isRanked o y1 γ = res
  refine Met.ofW (cc := cX5_isRanked) (maxL := 2) (ret := (some .boolean)) (by decide) rfl ?_
  intro p e s m args below meth c s₁ B hml9 hv
  obtain ⟨rfl, hH, hK9, hB9, hX9, hZ9⟩ := hv
  have hC : CX κ cX5_isRanked "Phrasehall$Pool" 2 p l s m ([.ref (kA κ 5 o), .int y1] : List Value).toArray meth c := ⟨B.exec, B.bytes, findClass_of_methodNamed B.named, fun w hw => tw_use (List.mem_filter.mp hw).2 (State.WarmedH.refl s) (hX9.1 w hw), hK9, hX9, hZ9, hB9, hml9, B.notSynchronized⟩
  obtain ⟨hx, hb, hown, hT, -, -, -, -, hml, -⟩ := id hC
  have hr := B.returns
  have hS : va_S (AA κ) s.heap s.heap [] := va_S.rf
  have hl := lv_entry ([.ref (kA κ 5 o), .int y1]) (n := 2) (Nat.le_of_ble_eq_true rfl)
  rw [lg_entry_eq]
  generalize (lg_sl ([.ref (kA κ 5 o), .int y1]) ++ List.replicate (2 - (lg_sl ([.ref (kA κ 5 o), .int y1])).length) Slot.unset).toArray = ls at hl ⊢
  have hl : lv_has ls 2 [(0, .ref (kA κ 5 o)), (1, .int y1)] := hl
  have b_20 : ∀ (H : Heap) (locs : List Loc) (ls : Array Slot), lv_has ls 2 [] → HR κ γ H → va_S (AA κ) s.heap H locs → x_X5_isRanked_20 o γ = res → W p l e (headSpec [Cond.code yX5_isRanked cX5_isRanked 2 (some .boolean)] ({ frames := 2, cells := 0, slots := 0, locals := 42 } : Room)).room s m ([.ref (kA κ 5 o), .int y1] : List Value).toArray below meth c H locs 0 0 (MQ below (QQ κ γ (some (.int res))) ([.ref (kA κ 5 o), .int y1] : List Value).toArray s 0 0 (AA κ)) (F0 m 20 ls []) := by
    intro  H locs ls hl hH hS hq
    refine lv_iconst (v := 0) hx hb dX5_isRanked_20 (by decide) ?_
    subst hq
    exact kr_z hC hr rfl hH hS rfl rfl dX5_isRanked_21
  refine lv_aload_n hx hb dX5_isRanked_0 rfl (lv_at hl 0 rfl) ?_
  refine lv_iload_n hx hb dX5_isRanked_1 rfl (lv_at hl 1 rfl) ?_
  refine k_callV (C := RX5) (T := TX5) (N := 5) (rest := []) hC hl hH hS (c_X5_has l κ γ o y1 hvo) hvo rfl rfl tw_375 tw_314 tw_315 tw_49 tw_316 hd_X5_has ⟨Nat.le_of_ble_eq_true rfl, Nat.le_of_ble_eq_true rfl⟩ rfl rfl rfl rfl (Nat.le_of_ble_eq_true rfl) dX5_isRanked_2 ⟨Nat.le_of_ble_eq_true rfl, Nat.le_of_ble_eq_true rfl⟩ rfl (fun H locs hH hS => ?_)
  refine lv_if_eq (tgt := 20) hx hb dX5_isRanked_5 (by decide) (fun c7 => ?_) (fun c7 => ?_)
  · have hq := ifpe hq c7
    exact b_20 _ _ _ (lv_sub hl [] rfl) hH hS hq
  · have hq := ifne hq c7
    refine lv_aload_n hx hb dX5_isRanked_8 rfl (lv_at hl 0 rfl) ?_
    refine lv_iload_n hx hb dX5_isRanked_9 rfl (lv_at hl 1 rfl) ?_
    refine k_callV (C := RX5) (T := TX5) (N := 5) (rest := []) hC hl hH hS (c_X5_isWithdrawn l κ γ o y1 hvo) hvo rfl rfl tw_344 tw_345 tw_346 tw_49 tw_347 hd_X5_isWithdrawn ⟨Nat.le_of_ble_eq_true rfl, Nat.le_of_ble_eq_true rfl⟩ rfl rfl rfl rfl (Nat.le_of_ble_eq_true rfl) dX5_isRanked_10 ⟨Nat.le_of_ble_eq_true rfl, Nat.le_of_ble_eq_true rfl⟩ rfl (fun H locs hH hS => ?_)
    refine lv_if_ne (tgt := 20) hx hb dX5_isRanked_13 (by decide) (fun c8 => ?_) (fun c8 => ?_)
    · have hq := ifne hq c8
      exact b_20 _ _ _ (lv_sub hl [] rfl) hH hS hq
    · have hq := ifpe hq c8
      refine lv_iconst (v := 1) hx hb dX5_isRanked_16 (by decide) ?_
      refine lv_goto (tgt := 21) hx hb dX5_isRanked_17 (by decide) ?_
      subst hq
      exact kr_z hC hr rfl hH hS rfl rfl dX5_isRanked_21
set_option maxRecDepth 20000 in
set_option maxHeartbeats 4000000 in
theorem c_X5_orderRanked (l : Launch) (κ : KP) (γ : St) (o : Nat) (hvo : lv κ 5 o) (hk : ok_X5_orderRanked o γ) : Met l yX5_orderRanked [Cond.code yX5_orderRanked cX5_orderRanked 3 none] ({ frames := 4, cells := 0, slots := 0, locals := 91 } : Room) (va_Pc [.ref (kA κ 5 o)] (GG κ γ)) (QQ κ ((x_X5_orderRanked o γ)) none) 0 0 (AA κ) := by
  generalize hq : x_X5_orderRanked o γ = res
  refine Met.ofW (cc := cX5_orderRanked) (maxL := 3) (ret := none) (by decide) rfl ?_
  intro p e s m args below meth c s₁ B hml9 hv
  obtain ⟨rfl, hH, hK9, hB9, hX9, hZ9⟩ := hv
  have hC : CX κ cX5_orderRanked "Phrasehall$Pool" 3 p l s m ([.ref (kA κ 5 o)] : List Value).toArray meth c := ⟨B.exec, B.bytes, findClass_of_methodNamed B.named, fun w hw => tw_use (List.mem_filter.mp hw).2 (State.WarmedH.refl s) (hX9.1 w hw), hK9, hX9, hZ9, hB9, hml9, B.notSynchronized⟩
  obtain ⟨hx, hb, hown, hT, -, -, -, -, hml, -⟩ := id hC
  have hr := B.returns
  have hS : va_S (AA κ) s.heap s.heap [] := va_S.rf
  have hl := lv_entry ([.ref (kA κ 5 o)]) (n := 3) (Nat.le_of_ble_eq_true rfl)
  rw [lg_entry_eq]
  generalize (lg_sl ([.ref (kA κ 5 o)]) ++ List.replicate (3 - (lg_sl ([.ref (kA κ 5 o)])).length) Slot.unset).toArray = ls at hl ⊢
  have hl : lv_has ls 3 [(0, .ref (kA κ 5 o))] := hl
  have b_4 : ∀ (k4 : Nat) (a1 : Int32) (a2 : Int32) (γ : St) (H : Heap) (locs : List Loc) (ls : Array Slot), lv_has ls 3 [(0, .ref (kA κ 5 o)), (1, .int a1), (2, .int a2)] → HR κ γ H → va_S (AA κ) s.heap H locs → ok_X5_orderRanked_4 o k4 a1 a2 γ → x_X5_orderRanked_4 o k4 a1 a2 γ = res → W p l e (headSpec [Cond.code yX5_orderRanked cX5_orderRanked 3 none] ({ frames := 4, cells := 0, slots := 0, locals := 91 } : Room)).room s m ([.ref (kA κ 5 o)] : List Value).toArray below meth c H locs 0 0 (MQ below (QQ κ res none) ([.ref (kA κ 5 o)] : List Value).toArray s 0 0 (AA κ)) (F0 m 4 ls []) := by
    intro k4
    induction k4 with
    | zero =>
      intro a1 a2 γ H locs ls hl hH hS hk hq
      exact (show False from hk).elim
    | succ k4 ih_4 =>
      have b_34 : ∀ (a1 : Int32) (a2 : Int32) (γ : St) (H : Heap) (locs : List Loc) (ls : Array Slot), lv_has ls 3 [(0, .ref (kA κ 5 o)), (1, .int a1), (2, .int a2)] → HR κ γ H → va_S (AA κ) s.heap H locs → ok_X5_orderRanked_34 (ok_X5_orderRanked_4 o k4) o a1 a2 γ → x_X5_orderRanked_34 (x_X5_orderRanked_4 o k4) o a1 a2 γ = res → W p l e (headSpec [Cond.code yX5_orderRanked cX5_orderRanked 3 none] ({ frames := 4, cells := 0, slots := 0, locals := 91 } : Room)).room s m ([.ref (kA κ 5 o)] : List Value).toArray below meth c H locs 0 0 (MQ below (QQ κ res none) ([.ref (kA κ 5 o)] : List Value).toArray s 0 0 (AA κ)) (F0 m 34 ls []) := by
        intro a1 a2 γ H locs ls hl hH hS hk hq
        refine lv_iinc (v := a2 + 1) (lv' := [(2, .int (a2 + 1)), (0, .ref (kA κ 5 o)), (1, .int a1)]) hx hb dX5_orderRanked_34 hl (k := 2) rfl rfl (by decide) rfl (fun ls hl => ?_)
        refine lv_goto (tgt := 4) hx hb dX5_orderRanked_37 (by decide) ?_
        exact ih_4 a1 (a2 + 1) γ _ _ _ (lv_sub hl [1, 2, 0] rfl) hH hS hk hq
      have b_31 : ∀ (a1 : Int32) (a2 : Int32) (γ : St) (H : Heap) (locs : List Loc) (ls : Array Slot), lv_has ls 3 [(0, .ref (kA κ 5 o)), (1, .int a1), (2, .int a2)] → HR κ γ H → va_S (AA κ) s.heap H locs → ok_X5_orderRanked_31 (ok_X5_orderRanked_4 o k4) o a1 a2 γ → x_X5_orderRanked_31 (x_X5_orderRanked_4 o k4) o a1 a2 γ = res → W p l e (headSpec [Cond.code yX5_orderRanked cX5_orderRanked 3 none] ({ frames := 4, cells := 0, slots := 0, locals := 91 } : Room)).room s m ([.ref (kA κ 5 o)] : List Value).toArray below meth c H locs 0 0 (MQ below (QQ κ res none) ([.ref (kA κ 5 o)] : List Value).toArray s 0 0 (AA κ)) (F0 m 31 ls []) := by
        intro a1 a2 γ H locs ls hl hH hS hk hq
        refine lv_iinc (v := a1 + 1) (lv' := [(1, .int (a1 + 1)), (0, .ref (kA κ 5 o)), (2, .int a2)]) hx hb dX5_orderRanked_31 hl (k := 1) rfl rfl (by decide) rfl (fun ls hl => ?_)
        exact b_34 (a1 + 1) a2 γ _ _ _ (lv_sub hl [1, 0, 2] rfl) hH hS hk hq
      intro a1 a2 γ H locs ls hl hH hS hk hq
      refine lv_iload_n hx hb dX5_orderRanked_4 rfl (lv_at hl 2 rfl) ?_
      refine lv_bipush (v := 12) hx hb dX5_orderRanked_5 (by decide) ?_
      refine lv_icmp_ge (tgt := 40) hx hb dX5_orderRanked_7 (by decide) (fun c13 => ?_) (fun c13 => ?_)
      · have hk := ifp hk c13
        have hq := ifpe hq c13
        subst hq
        exact kr_v hC hr hH hS rfl dX5_orderRanked_40
      · have hk := ifn hk c13
        have hq := ifne hq c13
        refine lv_aload_n hx hb dX5_orderRanked_10 rfl (lv_at hl 0 rfl) ?_
        refine hp_get (v := .ref (kA κ 19 o)) (C := RX5) (T := TX5) (N := 5) hC inX5 hH hvo rfl rfl 3 (by decide) tw_763 rfl rfl dX5_orderRanked_11 ?_
        refine lv_iload_n hx hb dX5_orderRanked_14 rfl (lv_at hl 2 rfl) ?_
        refine lv_iconst (v := (-1)) hx hb dX5_orderRanked_15 (by decide) ?_
        obtain ⟨hi14, hk⟩ := hk
        refine hp_ast hC hH (show lv κ 19 o from hvo) (fun _ => rfl) hS hi14 dX5_orderRanked_16 (fun H locs hH hS => ?_)
        refine lv_aload_n hx hb dX5_orderRanked_17 rfl (lv_at hl 0 rfl) ?_
        refine lv_iload_n hx hb dX5_orderRanked_18 rfl (lv_at hl 2 rfl) ?_
        refine k_callV (C := RX5) (T := TX5) (N := 5) (rest := []) hC hl hH hS (c_X5_isRanked l κ (sV γ 19 o ((a2 : Int32).toNatClampNeg) ((-1))) o a2 hvo) hvo rfl rfl tw_370 tw_372 tw_5 tw_49 tw_374 hd_X5_isRanked ⟨Nat.le_of_ble_eq_true rfl, Nat.le_of_ble_eq_true rfl⟩ rfl rfl rfl rfl (Nat.le_of_ble_eq_true rfl) dX5_orderRanked_19 ⟨Nat.le_of_ble_eq_true rfl, Nat.le_of_ble_eq_true rfl⟩ rfl (fun H locs hH hS => ?_)
        refine lv_if_eq (tgt := 34) hx hb dX5_orderRanked_22 (by decide) (fun c15 => ?_) (fun c15 => ?_)
        · have hk := ifp hk c15
          have hq := ifpe hq c15
          exact b_34 a1 a2 (sV γ 19 o ((a2 : Int32).toNatClampNeg) ((-1))) _ _ _ (lv_sub hl [0, 1, 2] rfl) hH hS hk hq
        · have hk := ifn hk c15
          have hq := ifne hq c15
          refine lv_aload_n hx hb dX5_orderRanked_25 rfl (lv_at hl 0 rfl) ?_
          refine lv_iload_n hx hb dX5_orderRanked_26 rfl (lv_at hl 2 rfl) ?_
          refine lv_iload_n hx hb dX5_orderRanked_27 rfl (lv_at hl 1 rfl) ?_
          obtain ⟨hc16, hk⟩ := hk
          refine k_callV (C := RX5) (T := TX5) (N := 5) (rest := []) hC hl hH hS (c_X5_insert l κ (sV γ 19 o ((a2 : Int32).toNatClampNeg) ((-1))) o a2 a1 hvo hc16) hvo rfl rfl tw_376 tw_378 tw_6 tw_49 tw_379 hd_X5_insert ⟨Nat.le_of_ble_eq_true rfl, Nat.le_of_ble_eq_true rfl⟩ rfl rfl rfl rfl (Nat.le_of_ble_eq_true rfl) dX5_orderRanked_28 ⟨Nat.le_of_ble_eq_true rfl, Nat.le_of_ble_eq_true rfl⟩ rfl (fun H locs hH hS => ?_)
          exact b_31 a1 a2 (x_X5_insert o a2 a1 (sV γ 19 o ((a2 : Int32).toNatClampNeg) ((-1)))) _ _ _ (lv_sub hl [0, 1, 2] rfl) hH hS hk hq
  refine lv_iconst (v := 0) hx hb dX5_orderRanked_0 (by decide) ?_
  refine lv_istore_n (lv' := [(1, .int 0), (0, .ref (kA κ 5 o))]) hx hb dX5_orderRanked_1 rfl hl (by decide) rfl (fun ls hl => ?_)
  refine lv_iconst (v := 0) hx hb dX5_orderRanked_2 (by decide) ?_
  refine lv_istore_n (lv' := [(2, .int 0), (1, .int 0), (0, .ref (kA κ 5 o))]) hx hb dX5_orderRanked_3 rfl hl (by decide) rfl (fun ls hl => ?_)
  exact b_4 fu 0 0 γ _ _ _ (lv_sub hl [2, 1, 0] rfl) hH hS hk hq
set_option maxRecDepth 20000 in
set_option maxHeartbeats 4000000 in
theorem c_X5_rankedAt (l : Launch) (κ : KP) (γ : St) (o : Nat) (y1 : Int32) (hvo : lv κ 5 o) (hk : ok_X5_rankedAt o y1 γ) : Met l yX5_rankedAt [Cond.code yX5_rankedAt cX5_rankedAt 2 (some .int)] ({ frames := 0, cells := 0, slots := 0, locals := 0 } : Room) (va_Pc [.ref (kA κ 5 o), .int y1] (GG κ γ)) (QQ κ γ (some (.int ((x_X5_rankedAt o y1 γ))))) 0 0 (AA κ) := by
  generalize hq : x_X5_rankedAt o y1 γ = res
  refine Met.ofW (cc := cX5_rankedAt) (maxL := 2) (ret := (some .int)) (by decide) rfl ?_
  intro p e s m args below meth c s₁ B hml9 hv
  obtain ⟨rfl, hH, hK9, hB9, hX9, hZ9⟩ := hv
  have hC : CX κ cX5_rankedAt "Phrasehall$Pool" 2 p l s m ([.ref (kA κ 5 o), .int y1] : List Value).toArray meth c := ⟨B.exec, B.bytes, findClass_of_methodNamed B.named, fun w hw => tw_use (List.mem_filter.mp hw).2 (State.WarmedH.refl s) (hX9.1 w hw), hK9, hX9, hZ9, hB9, hml9, B.notSynchronized⟩
  obtain ⟨hx, hb, hown, hT, -, -, -, -, hml, -⟩ := id hC
  have hr := B.returns
  have hS : va_S (AA κ) s.heap s.heap [] := va_S.rf
  have hl := lv_entry ([.ref (kA κ 5 o), .int y1]) (n := 2) (Nat.le_of_ble_eq_true rfl)
  rw [lg_entry_eq]
  generalize (lg_sl ([.ref (kA κ 5 o), .int y1]) ++ List.replicate (2 - (lg_sl ([.ref (kA κ 5 o), .int y1])).length) Slot.unset).toArray = ls at hl ⊢
  have hl : lv_has ls 2 [(0, .ref (kA κ 5 o)), (1, .int y1)] := hl
  have b_19 : ∀ (H : Heap) (locs : List Loc) (ls : Array Slot), lv_has ls 2 [] → HR κ γ H → va_S (AA κ) s.heap H locs → ok_X5_rankedAt_19 o γ → x_X5_rankedAt_19 o γ = res → W p l e (headSpec [Cond.code yX5_rankedAt cX5_rankedAt 2 (some .int)] ({ frames := 0, cells := 0, slots := 0, locals := 0 } : Room)).room s m ([.ref (kA κ 5 o), .int y1] : List Value).toArray below meth c H locs 0 0 (MQ below (QQ κ γ (some (.int res))) ([.ref (kA κ 5 o), .int y1] : List Value).toArray s 0 0 (AA κ)) (F0 m 19 ls []) := by
    intro  H locs ls hl hH hS hk hq
    refine lv_iconst (v := (-1)) hx hb dX5_rankedAt_19 (by decide) ?_
    subst hq
    exact kr_i hC hr hH hS rfl rfl dX5_rankedAt_20
  refine lv_iload_n hx hb dX5_rankedAt_0 rfl (lv_at hl 1 rfl) ?_
  refine lv_if_lt (tgt := 19) hx hb dX5_rankedAt_1 (by decide) (fun c10 => ?_) (fun c10 => ?_)
  · have hk := ifp hk c10
    have hq := ifpe hq c10
    exact b_19 _ _ _ (lv_sub hl [] rfl) hH hS hk hq
  · have hk := ifn hk c10
    have hq := ifne hq c10
    refine lv_iload_n hx hb dX5_rankedAt_4 rfl (lv_at hl 1 rfl) ?_
    refine lv_bipush (v := 12) hx hb dX5_rankedAt_5 (by decide) ?_
    refine lv_icmp_ge (tgt := 19) hx hb dX5_rankedAt_7 (by decide) (fun c11 => ?_) (fun c11 => ?_)
    · have hk := ifp hk c11
      have hq := ifpe hq c11
      exact b_19 _ _ _ (lv_sub hl [] rfl) hH hS hk hq
    · have hk := ifn hk c11
      have hq := ifne hq c11
      refine lv_aload_n hx hb dX5_rankedAt_10 rfl (lv_at hl 0 rfl) ?_
      refine hp_get (v := .ref (kA κ 19 o)) (C := RX5) (T := TX5) (N := 5) hC inX5 hH hvo rfl rfl 3 (by decide) tw_763 rfl rfl dX5_rankedAt_11 ?_
      refine lv_iload_n hx hb dX5_rankedAt_14 rfl (lv_at hl 1 rfl) ?_
      obtain ⟨hi12, hk⟩ := hk
      refine hp_ald (v := gV γ 19 o ((y1 : Int32).toNatClampNeg)) hC hH (show lv κ 19 o from hvo) rfl hi12 rfl dX5_rankedAt_15 ?_
      refine lv_goto (tgt := 20) hx hb dX5_rankedAt_16 (by decide) ?_
      subst hq
      exact kr_i hC hr hH hS rfl rfl dX5_rankedAt_20
set_option maxRecDepth 20000 in
set_option maxHeartbeats 4000000 in
theorem c_J6_bitCount_0f7a4 (l : Launch) (κ : KP) (γ : St) (y0 : Int32)  : Met l yJ6_bitCount_0f7a4 [Cond.code yJ6_bitCount_0f7a4 cJ6_bitCount_0f7a4 1 (some .int)] ({ frames := 0, cells := 0, slots := 0, locals := 0 } : Room) (va_Pc [.int y0] (GG κ γ)) (QQ κ γ (some (.int ((x_J6_bitCount_0f7a4 y0 γ))))) 0 0 (AA κ) := by
  generalize hq : x_J6_bitCount_0f7a4 y0 γ = res
  refine Met.ofW (cc := cJ6_bitCount_0f7a4) (maxL := 1) (ret := (some .int)) (by decide) rfl ?_
  intro p e s m args below meth c s₁ B hml9 hv
  obtain ⟨rfl, hH, hK9, hB9, hX9, hZ9⟩ := hv
  have hC : CX κ cJ6_bitCount_0f7a4 "java/lang/Integer" 1 p l s m ([.int y0] : List Value).toArray meth c := ⟨B.exec, B.bytes, findClass_of_methodNamed B.named, fun w hw => tw_use (List.mem_filter.mp hw).2 (State.WarmedH.refl s) (hX9.1 w hw), hK9, hX9, hZ9, hB9, hml9, B.notSynchronized⟩
  obtain ⟨hx, hb, hown, hT, -, -, -, -, hml, -⟩ := id hC
  have hr := B.returns
  have hS : va_S (AA κ) s.heap s.heap [] := va_S.rf
  have hl := lv_entry ([.int y0]) (n := 1) (Nat.le_of_ble_eq_true rfl)
  rw [lg_entry_eq]
  generalize (lg_sl ([.int y0]) ++ List.replicate (1 - (lg_sl ([.int y0])).length) Slot.unset).toArray = ls at hl ⊢
  have hl : lv_has ls 1 [(0, .int y0)] := hl
  refine lv_iload_n hx hb dJ6_bitCount_0f7a4_0 rfl (lv_at hl 0 rfl) ?_
  refine lv_iload_n hx hb dJ6_bitCount_0f7a4_1 rfl (lv_at hl 0 rfl) ?_
  refine lv_iconst (v := 1) hx hb dJ6_bitCount_0f7a4_2 (by decide) ?_
  refine lv_iushr (v := (y0.toUInt32 >>> ((1 : Int32).toUInt32 &&& Int32.toUInt32 31)).toInt32) hx hb dJ6_bitCount_0f7a4_3 rfl ?_
  refine lv_ldcw (v := 1431655765) hx hb hown (hT _ tw_750) dJ6_bitCount_0f7a4_4 ?_
  refine lv_iand hx hb dJ6_bitCount_0f7a4_7 ?_
  refine lv_isub hx hb dJ6_bitCount_0f7a4_8 ?_
  refine lv_istore_n (lv' := [(0, .int (y0 - (((y0.toUInt32 >>> ((1 : Int32).toUInt32 &&& Int32.toUInt32 31)).toInt32) &&& 1431655765)))]) hx hb dJ6_bitCount_0f7a4_9 rfl hl (by decide) rfl (fun ls hl => ?_)
  refine lv_iload_n hx hb dJ6_bitCount_0f7a4_10 rfl (lv_at hl 0 rfl) ?_
  refine lv_ldcw (v := 858993459) hx hb hown (hT _ tw_751) dJ6_bitCount_0f7a4_11 ?_
  refine lv_iand hx hb dJ6_bitCount_0f7a4_14 ?_
  refine lv_iload_n hx hb dJ6_bitCount_0f7a4_15 rfl (lv_at hl 0 rfl) ?_
  refine lv_iconst (v := 2) hx hb dJ6_bitCount_0f7a4_16 (by decide) ?_
  refine lv_iushr (v := ((y0 - (((y0.toUInt32 >>> ((1 : Int32).toUInt32 &&& Int32.toUInt32 31)).toInt32) &&& 1431655765)).toUInt32 >>> ((2 : Int32).toUInt32 &&& Int32.toUInt32 31)).toInt32) hx hb dJ6_bitCount_0f7a4_17 rfl ?_
  refine lv_ldcw (v := 858993459) hx hb hown (hT _ tw_751) dJ6_bitCount_0f7a4_18 ?_
  refine lv_iand hx hb dJ6_bitCount_0f7a4_21 ?_
  refine lv_iadd hx hb dJ6_bitCount_0f7a4_22 ?_
  refine lv_istore_n (lv' := [(0, .int (((y0 - (((y0.toUInt32 >>> ((1 : Int32).toUInt32 &&& Int32.toUInt32 31)).toInt32) &&& 1431655765)) &&& 858993459) + ((((y0 - (((y0.toUInt32 >>> ((1 : Int32).toUInt32 &&& Int32.toUInt32 31)).toInt32) &&& 1431655765)).toUInt32 >>> ((2 : Int32).toUInt32 &&& Int32.toUInt32 31)).toInt32) &&& 858993459)))]) hx hb dJ6_bitCount_0f7a4_23 rfl hl (by decide) rfl (fun ls hl => ?_)
  refine lv_iload_n hx hb dJ6_bitCount_0f7a4_24 rfl (lv_at hl 0 rfl) ?_
  refine lv_iload_n hx hb dJ6_bitCount_0f7a4_25 rfl (lv_at hl 0 rfl) ?_
  refine lv_iconst (v := 4) hx hb dJ6_bitCount_0f7a4_26 (by decide) ?_
  refine lv_iushr (v := ((((y0 - (((y0.toUInt32 >>> ((1 : Int32).toUInt32 &&& Int32.toUInt32 31)).toInt32) &&& 1431655765)) &&& 858993459) + ((((y0 - (((y0.toUInt32 >>> ((1 : Int32).toUInt32 &&& Int32.toUInt32 31)).toInt32) &&& 1431655765)).toUInt32 >>> ((2 : Int32).toUInt32 &&& Int32.toUInt32 31)).toInt32) &&& 858993459)).toUInt32 >>> ((4 : Int32).toUInt32 &&& Int32.toUInt32 31)).toInt32) hx hb dJ6_bitCount_0f7a4_27 rfl ?_
  refine lv_iadd hx hb dJ6_bitCount_0f7a4_28 ?_
  refine lv_ldcw (v := 252645135) hx hb hown (hT _ tw_752) dJ6_bitCount_0f7a4_29 ?_
  refine lv_iand hx hb dJ6_bitCount_0f7a4_32 ?_
  refine lv_istore_n (lv' := [(0, .int (((((y0 - (((y0.toUInt32 >>> ((1 : Int32).toUInt32 &&& Int32.toUInt32 31)).toInt32) &&& 1431655765)) &&& 858993459) + ((((y0 - (((y0.toUInt32 >>> ((1 : Int32).toUInt32 &&& Int32.toUInt32 31)).toInt32) &&& 1431655765)).toUInt32 >>> ((2 : Int32).toUInt32 &&& Int32.toUInt32 31)).toInt32) &&& 858993459)) + (((((y0 - (((y0.toUInt32 >>> ((1 : Int32).toUInt32 &&& Int32.toUInt32 31)).toInt32) &&& 1431655765)) &&& 858993459) + ((((y0 - (((y0.toUInt32 >>> ((1 : Int32).toUInt32 &&& Int32.toUInt32 31)).toInt32) &&& 1431655765)).toUInt32 >>> ((2 : Int32).toUInt32 &&& Int32.toUInt32 31)).toInt32) &&& 858993459)).toUInt32 >>> ((4 : Int32).toUInt32 &&& Int32.toUInt32 31)).toInt32)) &&& 252645135))]) hx hb dJ6_bitCount_0f7a4_33 rfl hl (by decide) rfl (fun ls hl => ?_)
  refine lv_iload_n hx hb dJ6_bitCount_0f7a4_34 rfl (lv_at hl 0 rfl) ?_
  refine lv_iload_n hx hb dJ6_bitCount_0f7a4_35 rfl (lv_at hl 0 rfl) ?_
  refine lv_bipush (v := 8) hx hb dJ6_bitCount_0f7a4_36 (by decide) ?_
  refine lv_iushr (v := ((((((y0 - (((y0.toUInt32 >>> ((1 : Int32).toUInt32 &&& Int32.toUInt32 31)).toInt32) &&& 1431655765)) &&& 858993459) + ((((y0 - (((y0.toUInt32 >>> ((1 : Int32).toUInt32 &&& Int32.toUInt32 31)).toInt32) &&& 1431655765)).toUInt32 >>> ((2 : Int32).toUInt32 &&& Int32.toUInt32 31)).toInt32) &&& 858993459)) + (((((y0 - (((y0.toUInt32 >>> ((1 : Int32).toUInt32 &&& Int32.toUInt32 31)).toInt32) &&& 1431655765)) &&& 858993459) + ((((y0 - (((y0.toUInt32 >>> ((1 : Int32).toUInt32 &&& Int32.toUInt32 31)).toInt32) &&& 1431655765)).toUInt32 >>> ((2 : Int32).toUInt32 &&& Int32.toUInt32 31)).toInt32) &&& 858993459)).toUInt32 >>> ((4 : Int32).toUInt32 &&& Int32.toUInt32 31)).toInt32)) &&& 252645135).toUInt32 >>> ((8 : Int32).toUInt32 &&& Int32.toUInt32 31)).toInt32) hx hb dJ6_bitCount_0f7a4_38 rfl ?_
  refine lv_iadd hx hb dJ6_bitCount_0f7a4_39 ?_
  refine lv_istore_n (lv' := [(0, .int ((((((y0 - (((y0.toUInt32 >>> ((1 : Int32).toUInt32 &&& Int32.toUInt32 31)).toInt32) &&& 1431655765)) &&& 858993459) + ((((y0 - (((y0.toUInt32 >>> ((1 : Int32).toUInt32 &&& Int32.toUInt32 31)).toInt32) &&& 1431655765)).toUInt32 >>> ((2 : Int32).toUInt32 &&& Int32.toUInt32 31)).toInt32) &&& 858993459)) + (((((y0 - (((y0.toUInt32 >>> ((1 : Int32).toUInt32 &&& Int32.toUInt32 31)).toInt32) &&& 1431655765)) &&& 858993459) + ((((y0 - (((y0.toUInt32 >>> ((1 : Int32).toUInt32 &&& Int32.toUInt32 31)).toInt32) &&& 1431655765)).toUInt32 >>> ((2 : Int32).toUInt32 &&& Int32.toUInt32 31)).toInt32) &&& 858993459)).toUInt32 >>> ((4 : Int32).toUInt32 &&& Int32.toUInt32 31)).toInt32)) &&& 252645135) + (((((((y0 - (((y0.toUInt32 >>> ((1 : Int32).toUInt32 &&& Int32.toUInt32 31)).toInt32) &&& 1431655765)) &&& 858993459) + ((((y0 - (((y0.toUInt32 >>> ((1 : Int32).toUInt32 &&& Int32.toUInt32 31)).toInt32) &&& 1431655765)).toUInt32 >>> ((2 : Int32).toUInt32 &&& Int32.toUInt32 31)).toInt32) &&& 858993459)) + (((((y0 - (((y0.toUInt32 >>> ((1 : Int32).toUInt32 &&& Int32.toUInt32 31)).toInt32) &&& 1431655765)) &&& 858993459) + ((((y0 - (((y0.toUInt32 >>> ((1 : Int32).toUInt32 &&& Int32.toUInt32 31)).toInt32) &&& 1431655765)).toUInt32 >>> ((2 : Int32).toUInt32 &&& Int32.toUInt32 31)).toInt32) &&& 858993459)).toUInt32 >>> ((4 : Int32).toUInt32 &&& Int32.toUInt32 31)).toInt32)) &&& 252645135).toUInt32 >>> ((8 : Int32).toUInt32 &&& Int32.toUInt32 31)).toInt32)))]) hx hb dJ6_bitCount_0f7a4_40 rfl hl (by decide) rfl (fun ls hl => ?_)
  refine lv_iload_n hx hb dJ6_bitCount_0f7a4_41 rfl (lv_at hl 0 rfl) ?_
  refine lv_iload_n hx hb dJ6_bitCount_0f7a4_42 rfl (lv_at hl 0 rfl) ?_
  refine lv_bipush (v := 16) hx hb dJ6_bitCount_0f7a4_43 (by decide) ?_
  refine lv_iushr (v := (((((((y0 - (((y0.toUInt32 >>> ((1 : Int32).toUInt32 &&& Int32.toUInt32 31)).toInt32) &&& 1431655765)) &&& 858993459) + ((((y0 - (((y0.toUInt32 >>> ((1 : Int32).toUInt32 &&& Int32.toUInt32 31)).toInt32) &&& 1431655765)).toUInt32 >>> ((2 : Int32).toUInt32 &&& Int32.toUInt32 31)).toInt32) &&& 858993459)) + (((((y0 - (((y0.toUInt32 >>> ((1 : Int32).toUInt32 &&& Int32.toUInt32 31)).toInt32) &&& 1431655765)) &&& 858993459) + ((((y0 - (((y0.toUInt32 >>> ((1 : Int32).toUInt32 &&& Int32.toUInt32 31)).toInt32) &&& 1431655765)).toUInt32 >>> ((2 : Int32).toUInt32 &&& Int32.toUInt32 31)).toInt32) &&& 858993459)).toUInt32 >>> ((4 : Int32).toUInt32 &&& Int32.toUInt32 31)).toInt32)) &&& 252645135) + (((((((y0 - (((y0.toUInt32 >>> ((1 : Int32).toUInt32 &&& Int32.toUInt32 31)).toInt32) &&& 1431655765)) &&& 858993459) + ((((y0 - (((y0.toUInt32 >>> ((1 : Int32).toUInt32 &&& Int32.toUInt32 31)).toInt32) &&& 1431655765)).toUInt32 >>> ((2 : Int32).toUInt32 &&& Int32.toUInt32 31)).toInt32) &&& 858993459)) + (((((y0 - (((y0.toUInt32 >>> ((1 : Int32).toUInt32 &&& Int32.toUInt32 31)).toInt32) &&& 1431655765)) &&& 858993459) + ((((y0 - (((y0.toUInt32 >>> ((1 : Int32).toUInt32 &&& Int32.toUInt32 31)).toInt32) &&& 1431655765)).toUInt32 >>> ((2 : Int32).toUInt32 &&& Int32.toUInt32 31)).toInt32) &&& 858993459)).toUInt32 >>> ((4 : Int32).toUInt32 &&& Int32.toUInt32 31)).toInt32)) &&& 252645135).toUInt32 >>> ((8 : Int32).toUInt32 &&& Int32.toUInt32 31)).toInt32)).toUInt32 >>> ((16 : Int32).toUInt32 &&& Int32.toUInt32 31)).toInt32) hx hb dJ6_bitCount_0f7a4_45 rfl ?_
  refine lv_iadd hx hb dJ6_bitCount_0f7a4_46 ?_
  refine lv_istore_n (lv' := [(0, .int (((((((y0 - (((y0.toUInt32 >>> ((1 : Int32).toUInt32 &&& Int32.toUInt32 31)).toInt32) &&& 1431655765)) &&& 858993459) + ((((y0 - (((y0.toUInt32 >>> ((1 : Int32).toUInt32 &&& Int32.toUInt32 31)).toInt32) &&& 1431655765)).toUInt32 >>> ((2 : Int32).toUInt32 &&& Int32.toUInt32 31)).toInt32) &&& 858993459)) + (((((y0 - (((y0.toUInt32 >>> ((1 : Int32).toUInt32 &&& Int32.toUInt32 31)).toInt32) &&& 1431655765)) &&& 858993459) + ((((y0 - (((y0.toUInt32 >>> ((1 : Int32).toUInt32 &&& Int32.toUInt32 31)).toInt32) &&& 1431655765)).toUInt32 >>> ((2 : Int32).toUInt32 &&& Int32.toUInt32 31)).toInt32) &&& 858993459)).toUInt32 >>> ((4 : Int32).toUInt32 &&& Int32.toUInt32 31)).toInt32)) &&& 252645135) + (((((((y0 - (((y0.toUInt32 >>> ((1 : Int32).toUInt32 &&& Int32.toUInt32 31)).toInt32) &&& 1431655765)) &&& 858993459) + ((((y0 - (((y0.toUInt32 >>> ((1 : Int32).toUInt32 &&& Int32.toUInt32 31)).toInt32) &&& 1431655765)).toUInt32 >>> ((2 : Int32).toUInt32 &&& Int32.toUInt32 31)).toInt32) &&& 858993459)) + (((((y0 - (((y0.toUInt32 >>> ((1 : Int32).toUInt32 &&& Int32.toUInt32 31)).toInt32) &&& 1431655765)) &&& 858993459) + ((((y0 - (((y0.toUInt32 >>> ((1 : Int32).toUInt32 &&& Int32.toUInt32 31)).toInt32) &&& 1431655765)).toUInt32 >>> ((2 : Int32).toUInt32 &&& Int32.toUInt32 31)).toInt32) &&& 858993459)).toUInt32 >>> ((4 : Int32).toUInt32 &&& Int32.toUInt32 31)).toInt32)) &&& 252645135).toUInt32 >>> ((8 : Int32).toUInt32 &&& Int32.toUInt32 31)).toInt32)) + ((((((((y0 - (((y0.toUInt32 >>> ((1 : Int32).toUInt32 &&& Int32.toUInt32 31)).toInt32) &&& 1431655765)) &&& 858993459) + ((((y0 - (((y0.toUInt32 >>> ((1 : Int32).toUInt32 &&& Int32.toUInt32 31)).toInt32) &&& 1431655765)).toUInt32 >>> ((2 : Int32).toUInt32 &&& Int32.toUInt32 31)).toInt32) &&& 858993459)) + (((((y0 - (((y0.toUInt32 >>> ((1 : Int32).toUInt32 &&& Int32.toUInt32 31)).toInt32) &&& 1431655765)) &&& 858993459) + ((((y0 - (((y0.toUInt32 >>> ((1 : Int32).toUInt32 &&& Int32.toUInt32 31)).toInt32) &&& 1431655765)).toUInt32 >>> ((2 : Int32).toUInt32 &&& Int32.toUInt32 31)).toInt32) &&& 858993459)).toUInt32 >>> ((4 : Int32).toUInt32 &&& Int32.toUInt32 31)).toInt32)) &&& 252645135) + (((((((y0 - (((y0.toUInt32 >>> ((1 : Int32).toUInt32 &&& Int32.toUInt32 31)).toInt32) &&& 1431655765)) &&& 858993459) + ((((y0 - (((y0.toUInt32 >>> ((1 : Int32).toUInt32 &&& Int32.toUInt32 31)).toInt32) &&& 1431655765)).toUInt32 >>> ((2 : Int32).toUInt32 &&& Int32.toUInt32 31)).toInt32) &&& 858993459)) + (((((y0 - (((y0.toUInt32 >>> ((1 : Int32).toUInt32 &&& Int32.toUInt32 31)).toInt32) &&& 1431655765)) &&& 858993459) + ((((y0 - (((y0.toUInt32 >>> ((1 : Int32).toUInt32 &&& Int32.toUInt32 31)).toInt32) &&& 1431655765)).toUInt32 >>> ((2 : Int32).toUInt32 &&& Int32.toUInt32 31)).toInt32) &&& 858993459)).toUInt32 >>> ((4 : Int32).toUInt32 &&& Int32.toUInt32 31)).toInt32)) &&& 252645135).toUInt32 >>> ((8 : Int32).toUInt32 &&& Int32.toUInt32 31)).toInt32)).toUInt32 >>> ((16 : Int32).toUInt32 &&& Int32.toUInt32 31)).toInt32)))]) hx hb dJ6_bitCount_0f7a4_47 rfl hl (by decide) rfl (fun ls hl => ?_)
  refine lv_iload_n hx hb dJ6_bitCount_0f7a4_48 rfl (lv_at hl 0 rfl) ?_
  refine lv_bipush (v := 63) hx hb dJ6_bitCount_0f7a4_49 (by decide) ?_
  refine lv_iand hx hb dJ6_bitCount_0f7a4_51 ?_
  subst hq
  exact kr_i hC hr hH hS rfl rfl dJ6_bitCount_0f7a4_52
set_option maxRecDepth 20000 in
set_option maxHeartbeats 4000000 in
theorem c_X5_rankedCount (l : Launch) (κ : KP) (γ : St) (o : Nat) (hvo : lv κ 5 o) : Met l yX5_rankedCount [Cond.code yX5_rankedCount cX5_rankedCount 1 (some .int)] ({ frames := 1, cells := 0, slots := 0, locals := 20 } : Room) (va_Pc [.ref (kA κ 5 o)] (GG κ γ)) (QQ κ γ (some (.int ((x_X5_rankedCount o γ))))) 0 0 (AA κ) := by
  generalize hq : x_X5_rankedCount o γ = res
  refine Met.ofW (cc := cX5_rankedCount) (maxL := 1) (ret := (some .int)) (by decide) rfl ?_
  intro p e s m args below meth c s₁ B hml9 hv
  obtain ⟨rfl, hH, hK9, hB9, hX9, hZ9⟩ := hv
  have hC : CX κ cX5_rankedCount "Phrasehall$Pool" 1 p l s m ([.ref (kA κ 5 o)] : List Value).toArray meth c := ⟨B.exec, B.bytes, findClass_of_methodNamed B.named, fun w hw => tw_use (List.mem_filter.mp hw).2 (State.WarmedH.refl s) (hX9.1 w hw), hK9, hX9, hZ9, hB9, hml9, B.notSynchronized⟩
  obtain ⟨hx, hb, hown, hT, -, -, -, -, hml, -⟩ := id hC
  have hr := B.returns
  have hS : va_S (AA κ) s.heap s.heap [] := va_S.rf
  have hl := lv_entry ([.ref (kA κ 5 o)]) (n := 1) (Nat.le_of_ble_eq_true rfl)
  rw [lg_entry_eq]
  generalize (lg_sl ([.ref (kA κ 5 o)]) ++ List.replicate (1 - (lg_sl ([.ref (kA κ 5 o)])).length) Slot.unset).toArray = ls at hl ⊢
  have hl : lv_has ls 1 [(0, .ref (kA κ 5 o))] := hl
  refine lv_aload_n hx hb dX5_rankedCount_0 rfl (lv_at hl 0 rfl) ?_
  refine hp_get (v := .int (gV γ 5 o 1)) (C := RX5) (T := TX5) (N := 5) hC inX5 hH hvo rfl rfl 1 (by decide) tw_761 rfl rfl dX5_rankedCount_1 ?_
  refine lv_aload_n hx hb dX5_rankedCount_4 rfl (lv_at hl 0 rfl) ?_
  refine hp_get (v := .int (gV γ 5 o 4)) (C := RX5) (T := TX5) (N := 5) hC inX5 hH hvo rfl rfl 4 (by decide) tw_764 rfl rfl dX5_rankedCount_5 ?_
  refine lv_iconst (v := (-1)) hx hb dX5_rankedCount_8 (by decide) ?_
  refine lv_ixor hx hb dX5_rankedCount_9 ?_
  refine lv_iand hx hb dX5_rankedCount_10 ?_
  refine k_callS (rest := []) hC hl hH hS (c_J6_bitCount_0f7a4 l κ γ ((gV γ 5 o 1) &&& ((gV γ 5 o 4) ^^^ ((-1))))) tw_798 tw_748 tw_53 tw_749 hd_J6_bitCount_0f7a4 ⟨Nat.le_of_ble_eq_true rfl, Nat.le_of_ble_eq_true rfl⟩ rfl rfl rfl rfl (Nat.le_of_ble_eq_true rfl) dX5_rankedCount_11 ⟨Nat.le_of_ble_eq_true rfl, Nat.le_of_ble_eq_true rfl⟩ rfl (fun H locs hH hS => ?_)
  subst hq
  exact kr_i hC hr hH hS rfl rfl dX5_rankedCount_14
set_option maxRecDepth 20000 in
set_option maxHeartbeats 4000000 in
theorem c_X1_makeFrom (l : Launch) (κ : KP) (γ : St) (z1 : Nat) (hv_z1 : lv κ 5 z1) (hk : ok_X1_makeFrom z1 γ) : Met l yX1_makeFrom [Cond.code yX1_makeFrom cX1_makeFrom 3 none] ({ frames := 5, cells := 0, slots := 0, locals := 113 } : Room) (va_Pc [.ref (kA κ 1 0), .ref (kA κ 5 z1)] (GG κ γ)) (QQ κ ((x_X1_makeFrom z1 γ)) none) 0 0 (AA κ) := by
  generalize hq : x_X1_makeFrom z1 γ = res
  refine Met.ofW (cc := cX1_makeFrom) (maxL := 3) (ret := none) (by decide) rfl ?_
  intro p e s m args below meth c s₁ B hml9 hv
  obtain ⟨rfl, hH, hK9, hB9, hX9, hZ9⟩ := hv
  have hC : CX κ cX1_makeFrom "Phrasehall$Bracket" 3 p l s m ([.ref (kA κ 1 0), .ref (kA κ 5 z1)] : List Value).toArray meth c := ⟨B.exec, B.bytes, findClass_of_methodNamed B.named, fun w hw => tw_use (List.mem_filter.mp hw).2 (State.WarmedH.refl s) (hX9.1 w hw), hK9, hX9, hZ9, hB9, hml9, B.notSynchronized⟩
  obtain ⟨hx, hb, hown, hT, -, -, -, -, hml, -⟩ := id hC
  have hr := B.returns
  have hS : va_S (AA κ) s.heap s.heap [] := va_S.rf
  have hl := lv_entry ([.ref (kA κ 1 0), .ref (kA κ 5 z1)]) (n := 3) (Nat.le_of_ble_eq_true rfl)
  rw [lg_entry_eq]
  generalize (lg_sl ([.ref (kA κ 1 0), .ref (kA κ 5 z1)]) ++ List.replicate (3 - (lg_sl ([.ref (kA κ 1 0), .ref (kA κ 5 z1)])).length) Slot.unset).toArray = ls at hl ⊢
  have hl : lv_has ls 3 [(0, .ref (kA κ 1 0)), (1, .ref (kA κ 5 z1))] := hl
  have b_86 : ∀ (k86 : Nat) (a2 : Int32) (γ : St) (H : Heap) (locs : List Loc) (ls : Array Slot), lv_has ls 3 [(0, .ref (kA κ 1 0)), (2, .int a2)] → HR κ γ H → va_S (AA κ) s.heap H locs → ok_X1_makeFrom_86 k86 a2 γ → x_X1_makeFrom_86 k86 a2 γ = res → W p l e (headSpec [Cond.code yX1_makeFrom cX1_makeFrom 3 none] ({ frames := 5, cells := 0, slots := 0, locals := 113 } : Room)).room s m ([.ref (kA κ 1 0), .ref (kA κ 5 z1)] : List Value).toArray below meth c H locs 0 0 (MQ below (QQ κ res none) ([.ref (kA κ 1 0), .ref (kA κ 5 z1)] : List Value).toArray s 0 0 (AA κ)) (F0 m 86 ls []) := by
    intro k86
    induction k86 with
    | zero =>
      intro a2 γ H locs ls hl hH hS hk hq
      exact (show False from hk).elim
    | succ k86 ih_86 =>
      have b_99 : ∀ (a2 : Int32) (γ : St) (H : Heap) (locs : List Loc) (ls : Array Slot), lv_has ls 3 [(0, .ref (kA κ 1 0)), (2, .int a2)] → HR κ γ H → va_S (AA κ) s.heap H locs → ok_X1_makeFrom_99 (ok_X1_makeFrom_86 k86) a2 γ → x_X1_makeFrom_99 (x_X1_makeFrom_86 k86) a2 γ = res → W p l e (headSpec [Cond.code yX1_makeFrom cX1_makeFrom 3 none] ({ frames := 5, cells := 0, slots := 0, locals := 113 } : Room)).room s m ([.ref (kA κ 1 0), .ref (kA κ 5 z1)] : List Value).toArray below meth c H locs 0 0 (MQ below (QQ κ res none) ([.ref (kA κ 1 0), .ref (kA κ 5 z1)] : List Value).toArray s 0 0 (AA κ)) (F0 m 99 ls []) := by
        intro a2 γ H locs ls hl hH hS hk hq
        refine lv_iinc (v := a2 + 1) (lv' := [(2, .int (a2 + 1)), (0, .ref (kA κ 1 0))]) hx hb dX1_makeFrom_99 hl (k := 1) rfl rfl (by decide) rfl (fun ls hl => ?_)
        refine lv_goto (tgt := 86) hx hb dX1_makeFrom_102 (by decide) ?_
        exact ih_86 (a2 + 1) γ _ _ _ (lv_sub hl [1, 0] rfl) hH hS hk hq
      intro a2 γ H locs ls hl hH hS hk hq
      refine lv_iload_n hx hb dX1_makeFrom_86 rfl (lv_at hl 1 rfl) ?_
      refine lv_aload_n hx hb dX1_makeFrom_87 rfl (lv_at hl 0 rfl) ?_
      refine hp_get (v := .int (gV γ 1 0 2)) (C := RX1) (T := TX1) (N := 3) hC inX1 hH lv_1 rfl rfl 2 (by decide) tw_127 rfl rfl dX1_makeFrom_88 ?_
      refine lv_icmp_ge (tgt := 105) hx hb dX1_makeFrom_91 (by decide) (fun c37 => ?_) (fun c37 => ?_)
      · have hk := ifp hk c37
        have hq := ifpe hq c37
        subst hq
        exact kr_v hC hr hH hS rfl dX1_makeFrom_105
      · have hk := ifn hk c37
        have hq := ifne hq c37
        refine lv_aload_n hx hb dX1_makeFrom_94 rfl (lv_at hl 0 rfl) ?_
        refine lv_iload_n hx hb dX1_makeFrom_95 rfl (lv_at hl 1 rfl) ?_
        obtain ⟨hc38, hk⟩ := hk
        refine k_callV (C := RX1) (T := TX1) (N := 3) (rest := []) hC hl hH hS (c_X1_passBye l κ γ a2 hc38) lv_1 rfl rfl tw_818 tw_820 tw_36 tw_41 tw_821 hd_X1_passBye ⟨Nat.le_of_ble_eq_true rfl, Nat.le_of_ble_eq_true rfl⟩ rfl rfl rfl rfl (Nat.le_of_ble_eq_true rfl) dX1_makeFrom_96 ⟨Nat.le_of_ble_eq_true rfl, Nat.le_of_ble_eq_true rfl⟩ rfl (fun H locs hH hS => ?_)
        exact b_99 a2 (x_X1_passBye a2 γ) _ _ _ (lv_sub hl [0, 1] rfl) hH hS hk hq
  have b_79 : ∀ (γ : St) (H : Heap) (locs : List Loc) (ls : Array Slot), lv_has ls 3 [(0, .ref (kA κ 1 0))] → HR κ γ H → va_S (AA κ) s.heap H locs → ok_X1_makeFrom_79 γ → x_X1_makeFrom_79 γ = res → W p l e (headSpec [Cond.code yX1_makeFrom cX1_makeFrom 3 none] ({ frames := 5, cells := 0, slots := 0, locals := 113 } : Room)).room s m ([.ref (kA κ 1 0), .ref (kA κ 5 z1)] : List Value).toArray below meth c H locs 0 0 (MQ below (QQ κ res none) ([.ref (kA κ 1 0), .ref (kA κ 5 z1)] : List Value).toArray s 0 0 (AA κ)) (F0 m 79 ls []) := by
    intro  γ H locs ls hl hH hS hk hq
    refine lv_aload_n hx hb dX1_makeFrom_79 rfl (lv_at hl 0 rfl) ?_
    refine hp_get (v := .int (gV γ 1 0 2)) (C := RX1) (T := TX1) (N := 3) hC inX1 hH lv_1 rfl rfl 2 (by decide) tw_127 rfl rfl dX1_makeFrom_80 ?_
    refine lv_iconst (v := 2) hx hb dX1_makeFrom_83 (by decide) ?_
    refine lv_idiv hx hb dX1_makeFrom_84 (by decide) ?_
    refine lv_istore_n (lv' := [(2, .int ((gV γ 1 0 2) / 2)), (0, .ref (kA κ 1 0))]) hx hb dX1_makeFrom_85 rfl hl (by decide) rfl (fun ls hl => ?_)
    exact b_86 fu ((gV γ 1 0 2) / 2) γ _ _ _ (lv_sub hl [1, 0] rfl) hH hS hk hq
  have b_39 : ∀ (k39 : Nat) (n1 : Nat) (a2 : Int32) (γ : St) (H : Heap) (locs : List Loc) (ls : Array Slot), lv_has ls 3 [(0, .ref (kA κ 1 0)), (1, .ref (kA κ 5 n1)), (2, .int a2)] → HR κ γ H → va_S (AA κ) s.heap H locs → (lv κ 5 n1) → ok_X1_makeFrom_39 k39 n1 a2 γ → x_X1_makeFrom_39 k39 n1 a2 γ = res → W p l e (headSpec [Cond.code yX1_makeFrom cX1_makeFrom 3 none] ({ frames := 5, cells := 0, slots := 0, locals := 113 } : Room)).room s m ([.ref (kA κ 1 0), .ref (kA κ 5 z1)] : List Value).toArray below meth c H locs 0 0 (MQ below (QQ κ res none) ([.ref (kA κ 1 0), .ref (kA κ 5 z1)] : List Value).toArray s 0 0 (AA κ)) (F0 m 39 ls []) := by
    intro k39
    induction k39 with
    | zero =>
      intro n1 a2 γ H locs ls hl hH hS hv_n1 hk hq
      exact (show False from hk).elim
    | succ k39 ih_39 =>
      have b_73 : ∀ (n1 : Nat) (a2 : Int32) (γ : St) (H : Heap) (locs : List Loc) (ls : Array Slot), lv_has ls 3 [(0, .ref (kA κ 1 0)), (1, .ref (kA κ 5 n1)), (2, .int a2)] → HR κ γ H → va_S (AA κ) s.heap H locs → (lv κ 5 n1) → ok_X1_makeFrom_73 (ok_X1_makeFrom_39 k39) n1 a2 γ → x_X1_makeFrom_73 (x_X1_makeFrom_39 k39) n1 a2 γ = res → W p l e (headSpec [Cond.code yX1_makeFrom cX1_makeFrom 3 none] ({ frames := 5, cells := 0, slots := 0, locals := 113 } : Room)).room s m ([.ref (kA κ 1 0), .ref (kA κ 5 z1)] : List Value).toArray below meth c H locs 0 0 (MQ below (QQ κ res none) ([.ref (kA κ 1 0), .ref (kA κ 5 z1)] : List Value).toArray s 0 0 (AA κ)) (F0 m 73 ls []) := by
        intro n1 a2 γ H locs ls hl hH hS hv_n1 hk hq
        refine lv_iinc (v := a2 + 1) (lv' := [(2, .int (a2 + 1)), (0, .ref (kA κ 1 0)), (1, .ref (kA κ 5 n1))]) hx hb dX1_makeFrom_73 hl (k := 2) rfl rfl (by decide) rfl (fun ls hl => ?_)
        refine lv_goto (tgt := 39) hx hb dX1_makeFrom_76 (by decide) ?_
        exact ih_39 n1 (a2 + 1) γ _ _ _ (lv_sub hl [1, 2, 0] rfl) hH hS hv_n1 hk hq
      intro n1 a2 γ H locs ls hl hH hS hv_n1 hk hq
      refine lv_iload_n hx hb dX1_makeFrom_39 rfl (lv_at hl 2 rfl) ?_
      refine lv_aload_n hx hb dX1_makeFrom_40 rfl (lv_at hl 0 rfl) ?_
      refine hp_get (v := .int (gV γ 1 0 2)) (C := RX1) (T := TX1) (N := 3) hC inX1 hH lv_1 rfl rfl 2 (by decide) tw_127 rfl rfl dX1_makeFrom_41 ?_
      refine lv_icmp_ge (tgt := 79) hx hb dX1_makeFrom_44 (by decide) (fun c39 => ?_) (fun c39 => ?_)
      · have hk := ifp hk c39
        have hq := ifpe hq c39
        exact b_79 γ _ _ _ (lv_sub hl [0] rfl) hH hS hk hq
      · have hk := ifn hk c39
        have hq := ifne hq c39
        refine lv_iload_n hx hb dX1_makeFrom_47 rfl (lv_at hl 2 rfl) ?_
        refine lv_bipush (v := 16) hx hb dX1_makeFrom_48 (by decide) ?_
        refine lv_icmp_ge (tgt := 79) hx hb dX1_makeFrom_50 (by decide) (fun c40 => ?_) (fun c40 => ?_)
        · have hk := ifp hk c40
          have hq := ifpe hq c40
          exact b_79 γ _ _ _ (lv_sub hl [0] rfl) hH hS hk hq
        · have hk := ifn hk c40
          have hq := ifne hq c40
          refine lv_aload_n hx hb dX1_makeFrom_53 rfl (lv_at hl 0 rfl) ?_
          refine lv_aload_n hx hb dX1_makeFrom_54 rfl (lv_at hl 0 rfl) ?_
          refine hp_get (v := .int (gV γ 1 0 2)) (C := RX1) (T := TX1) (N := 3) hC inX1 hH lv_1 rfl rfl 2 (by decide) tw_127 rfl rfl dX1_makeFrom_55 ?_
          refine lv_iload_n hx hb dX1_makeFrom_58 rfl (lv_at hl 2 rfl) ?_
          refine lv_iadd hx hb dX1_makeFrom_59 ?_
          refine lv_aload_n hx hb dX1_makeFrom_60 rfl (lv_at hl 1 rfl) ?_
          refine lv_aload_n hx hb dX1_makeFrom_61 rfl (lv_at hl 0 rfl) ?_
          refine hp_get (v := .ref (kA κ 17 0)) (C := RX1) (T := TX1) (N := 3) hC inX1 hH lv_1 rfl rfl 1 (by decide) tw_126 rfl rfl dX1_makeFrom_62 ?_
          refine lv_iload_n hx hb dX1_makeFrom_65 rfl (lv_at hl 2 rfl) ?_
          obtain ⟨hi41, hk⟩ := hk
          refine hp_ald (v := gV γ 17 0 ((a2 : Int32).toNatClampNeg)) hC hH lv_17 rfl hi41 rfl dX1_makeFrom_66 ?_
          obtain ⟨hc42, hk⟩ := hk
          refine k_callV (C := RX5) (T := TX5) (N := 5) (rest := [.int ((gV γ 1 0 2) + a2), .ref (kA κ 1 0)]) hC hl hH hS (c_X5_rankedAt l κ γ n1 (gV γ 17 0 ((a2 : Int32).toNatClampNeg)) hv_n1 hc42) hv_n1 rfl rfl tw_817 tw_393 tw_394 tw_49 tw_395 hd_X5_rankedAt ⟨Nat.le_of_ble_eq_true rfl, Nat.le_of_ble_eq_true rfl⟩ rfl rfl rfl rfl (Nat.le_of_ble_eq_true rfl) dX1_makeFrom_67 ⟨Nat.le_of_ble_eq_true rfl, Nat.le_of_ble_eq_true rfl⟩ rfl (fun H locs hH hS => ?_)
          obtain ⟨hc43, hk⟩ := hk
          refine k_callV (C := RX1) (T := TX1) (N := 3) (rest := []) hC hl hH hS (c_X1_put l κ γ ((gV γ 1 0 2) + a2) ((x_X5_rankedAt n1 (gV γ 17 0 ((a2 : Int32).toNatClampNeg)) γ)) hc43) lv_1 rfl rfl tw_813 tw_815 tw_35 tw_41 tw_816 hd_X1_put ⟨Nat.le_of_ble_eq_true rfl, Nat.le_of_ble_eq_true rfl⟩ rfl rfl rfl rfl (Nat.le_of_ble_eq_true rfl) dX1_makeFrom_70 ⟨Nat.le_of_ble_eq_true rfl, Nat.le_of_ble_eq_true rfl⟩ rfl (fun H locs hH hS => ?_)
          exact b_73 n1 a2 (x_X1_put ((gV γ 1 0 2) + a2) ((x_X5_rankedAt n1 (gV γ 17 0 ((a2 : Int32).toNatClampNeg)) γ)) γ) _ _ _ (lv_sub hl [0, 1, 2] rfl) hH hS hv_n1 hk hq
  have b_17 : ∀ (k17 : Nat) (n1 : Nat) (a2 : Int32) (γ : St) (H : Heap) (locs : List Loc) (ls : Array Slot), lv_has ls 3 [(0, .ref (kA κ 1 0)), (1, .ref (kA κ 5 n1)), (2, .int a2)] → HR κ γ H → va_S (AA κ) s.heap H locs → (lv κ 5 n1) → ok_X1_makeFrom_17 k17 n1 a2 γ → x_X1_makeFrom_17 k17 n1 a2 γ = res → W p l e (headSpec [Cond.code yX1_makeFrom cX1_makeFrom 3 none] ({ frames := 5, cells := 0, slots := 0, locals := 113 } : Room)).room s m ([.ref (kA κ 1 0), .ref (kA κ 5 z1)] : List Value).toArray below meth c H locs 0 0 (MQ below (QQ κ res none) ([.ref (kA κ 1 0), .ref (kA κ 5 z1)] : List Value).toArray s 0 0 (AA κ)) (F0 m 17 ls []) := by
    intro k17
    induction k17 with
    | zero =>
      intro n1 a2 γ H locs ls hl hH hS hv_n1 hk hq
      exact (show False from hk).elim
    | succ k17 ih_17 =>
      have b_31 : ∀ (n1 : Nat) (a2 : Int32) (γ : St) (H : Heap) (locs : List Loc) (ls : Array Slot), lv_has ls 3 [(0, .ref (kA κ 1 0)), (1, .ref (kA κ 5 n1)), (2, .int a2)] → HR κ γ H → va_S (AA κ) s.heap H locs → (lv κ 5 n1) → ok_X1_makeFrom_31 (ok_X1_makeFrom_17 k17) n1 a2 γ → x_X1_makeFrom_31 (x_X1_makeFrom_17 k17) n1 a2 γ = res → W p l e (headSpec [Cond.code yX1_makeFrom cX1_makeFrom 3 none] ({ frames := 5, cells := 0, slots := 0, locals := 113 } : Room)).room s m ([.ref (kA κ 1 0), .ref (kA κ 5 z1)] : List Value).toArray below meth c H locs 0 0 (MQ below (QQ κ res none) ([.ref (kA κ 1 0), .ref (kA κ 5 z1)] : List Value).toArray s 0 0 (AA κ)) (F0 m 31 ls []) := by
        intro n1 a2 γ H locs ls hl hH hS hv_n1 hk hq
        refine lv_iinc (v := a2 + 1) (lv' := [(2, .int (a2 + 1)), (0, .ref (kA κ 1 0)), (1, .ref (kA κ 5 n1))]) hx hb dX1_makeFrom_31 hl (k := 2) rfl rfl (by decide) rfl (fun ls hl => ?_)
        refine lv_goto (tgt := 17) hx hb dX1_makeFrom_34 (by decide) ?_
        exact ih_17 n1 (a2 + 1) γ _ _ _ (lv_sub hl [1, 2, 0] rfl) hH hS hv_n1 hk hq
      intro n1 a2 γ H locs ls hl hH hS hv_n1 hk hq
      refine lv_iload_n hx hb dX1_makeFrom_17 rfl (lv_at hl 2 rfl) ?_
      refine lv_aload_n hx hb dX1_makeFrom_18 rfl (lv_at hl 0 rfl) ?_
      refine hp_get (v := .int (gV γ 1 0 2)) (C := RX1) (T := TX1) (N := 3) hC inX1 hH lv_1 rfl rfl 2 (by decide) tw_127 rfl rfl dX1_makeFrom_19 ?_
      refine lv_icmp_ge (tgt := 37) hx hb dX1_makeFrom_22 (by decide) (fun c44 => ?_) (fun c44 => ?_)
      · have hk := ifp hk c44
        have hq := ifpe hq c44
        refine lv_iconst (v := 0) hx hb dX1_makeFrom_37 (by decide) ?_
        refine lv_istore_n (lv' := [(2, .int 0), (0, .ref (kA κ 1 0)), (1, .ref (kA κ 5 n1))]) hx hb dX1_makeFrom_38 rfl hl (by decide) rfl (fun ls hl => ?_)
        exact b_39 fu n1 0 γ _ _ _ (lv_sub hl [1, 2, 0] rfl) hH hS hv_n1 hk hq
      · have hk := ifn hk c44
        have hq := ifne hq c44
        refine lv_aload_n hx hb dX1_makeFrom_25 rfl (lv_at hl 0 rfl) ?_
        refine lv_iload_n hx hb dX1_makeFrom_26 rfl (lv_at hl 2 rfl) ?_
        refine lv_iconst (v := (-1)) hx hb dX1_makeFrom_27 (by decide) ?_
        obtain ⟨hc45, hk⟩ := hk
        refine k_callV (C := RX1) (T := TX1) (N := 3) (rest := []) hC hl hH hS (c_X1_put l κ γ a2 ((-1)) hc45) lv_1 rfl rfl tw_813 tw_815 tw_35 tw_41 tw_816 hd_X1_put ⟨Nat.le_of_ble_eq_true rfl, Nat.le_of_ble_eq_true rfl⟩ rfl rfl rfl rfl (Nat.le_of_ble_eq_true rfl) dX1_makeFrom_28 ⟨Nat.le_of_ble_eq_true rfl, Nat.le_of_ble_eq_true rfl⟩ rfl (fun H locs hH hS => ?_)
        exact b_31 n1 a2 (x_X1_put a2 ((-1)) γ) _ _ _ (lv_sub hl [0, 1, 2] rfl) hH hS hv_n1 hk hq
  have b_15 : ∀ (n1 : Nat) (γ : St) (H : Heap) (locs : List Loc) (ls : Array Slot), lv_has ls 3 [(0, .ref (kA κ 1 0)), (1, .ref (kA κ 5 n1))] → HR κ γ H → va_S (AA κ) s.heap H locs → (lv κ 5 n1) → ok_X1_makeFrom_15 n1 γ → x_X1_makeFrom_15 n1 γ = res → W p l e (headSpec [Cond.code yX1_makeFrom cX1_makeFrom 3 none] ({ frames := 5, cells := 0, slots := 0, locals := 113 } : Room)).room s m ([.ref (kA κ 1 0), .ref (kA κ 5 z1)] : List Value).toArray below meth c H locs 0 0 (MQ below (QQ κ res none) ([.ref (kA κ 1 0), .ref (kA κ 5 z1)] : List Value).toArray s 0 0 (AA κ)) (F0 m 15 ls []) := by
    intro n1 γ H locs ls hl hH hS hv_n1 hk hq
    refine lv_iconst (v := 0) hx hb dX1_makeFrom_15 (by decide) ?_
    refine lv_istore_n (lv' := [(2, .int 0), (0, .ref (kA κ 1 0)), (1, .ref (kA κ 5 n1))]) hx hb dX1_makeFrom_16 rfl hl (by decide) rfl (fun ls hl => ?_)
    exact b_17 fu n1 0 γ _ _ _ (lv_sub hl [1, 2, 0] rfl) hH hS hv_n1 hk hq
  have b_4 : ∀ (n1 : Nat) (γ : St) (H : Heap) (locs : List Loc) (ls : Array Slot), lv_has ls 3 [(0, .ref (kA κ 1 0)), (1, .ref (kA κ 5 n1))] → HR κ γ H → va_S (AA κ) s.heap H locs → (lv κ 5 n1) → ok_X1_makeFrom_4 n1 γ → x_X1_makeFrom_4 n1 γ = res → W p l e (headSpec [Cond.code yX1_makeFrom cX1_makeFrom 3 none] ({ frames := 5, cells := 0, slots := 0, locals := 113 } : Room)).room s m ([.ref (kA κ 1 0), .ref (kA κ 5 z1)] : List Value).toArray below meth c H locs 0 0 (MQ below (QQ κ res none) ([.ref (kA κ 1 0), .ref (kA κ 5 z1)] : List Value).toArray s 0 0 (AA κ)) (F0 m 4 ls []) := by
    intro n1 γ H locs ls hl hH hS hv_n1 hk hq
    refine lv_aload_n hx hb dX1_makeFrom_4 rfl (lv_at hl 0 rfl) ?_
    refine lv_aload_n hx hb dX1_makeFrom_5 rfl (lv_at hl 1 rfl) ?_
    refine k_callV (C := RX5) (T := TX5) (N := 5) (rest := [.ref (kA κ 1 0)]) hC hl hH hS (c_X5_rankedCount l κ γ n1 hv_n1) hv_n1 rfl rfl tw_805 tw_795 tw_796 tw_49 tw_797 hd_X5_rankedCount ⟨Nat.le_of_ble_eq_true rfl, Nat.le_of_ble_eq_true rfl⟩ rfl rfl rfl rfl (Nat.le_of_ble_eq_true rfl) dX1_makeFrom_6 ⟨Nat.le_of_ble_eq_true rfl, Nat.le_of_ble_eq_true rfl⟩ rfl (fun H locs hH hS => ?_)
    obtain ⟨hc46, hk⟩ := hk
    refine k_callS (rest := [.ref (kA κ 1 0)]) hC hl hH hS (c_X1_leastPlaces l κ γ ((x_X5_rankedCount n1 γ)) hc46) tw_806 tw_807 tw_41 tw_808 hd_X1_leastPlaces ⟨Nat.le_of_ble_eq_true rfl, Nat.le_of_ble_eq_true rfl⟩ rfl rfl rfl rfl (Nat.le_of_ble_eq_true rfl) dX1_makeFrom_9 ⟨Nat.le_of_ble_eq_true rfl, Nat.le_of_ble_eq_true rfl⟩ rfl (fun H locs hH hS => ?_)
    obtain ⟨hc47, hk⟩ := hk
    refine k_callV (C := RX1) (T := TX1) (N := 3) (rest := []) hC hl hH hS (c_X1_orderPlaces l κ γ ((x_X1_leastPlaces ((x_X5_rankedCount n1 γ)) γ)) hc47) lv_1 rfl rfl tw_809 tw_811 tw_34 tw_41 tw_812 hd_X1_orderPlaces ⟨Nat.le_of_ble_eq_true rfl, Nat.le_of_ble_eq_true rfl⟩ rfl rfl rfl rfl (Nat.le_of_ble_eq_true rfl) dX1_makeFrom_12 ⟨Nat.le_of_ble_eq_true rfl, Nat.le_of_ble_eq_true rfl⟩ rfl (fun H locs hH hS => ?_)
    exact b_15 n1 (x_X1_orderPlaces ((x_X1_leastPlaces ((x_X5_rankedCount n1 γ)) γ)) γ) _ _ _ (lv_sub hl [0, 1] rfl) hH hS hv_n1 hk hq
  refine lv_aload_n hx hb dX1_makeFrom_0 rfl (lv_at hl 1 rfl) ?_
  obtain ⟨hc48, hk⟩ := hk
  refine k_callV (C := RX5) (T := TX5) (N := 5) (rest := []) hC hl hH hS (c_X5_orderRanked l κ γ z1 hv_z1 hc48) hv_z1 rfl rfl tw_804 tw_367 tw_368 tw_49 tw_369 hd_X5_orderRanked ⟨Nat.le_of_ble_eq_true rfl, Nat.le_of_ble_eq_true rfl⟩ rfl rfl rfl rfl (Nat.le_of_ble_eq_true rfl) dX1_makeFrom_1 ⟨Nat.le_of_ble_eq_true rfl, Nat.le_of_ble_eq_true rfl⟩ rfl (fun H locs hH hS => ?_)
  exact b_4 z1 (x_X5_orderRanked z1 γ) _ _ _ (lv_sub hl [0, 1] rfl) hH hS hv_z1 hk hq
set_option maxRecDepth 20000 in
set_option maxHeartbeats 4000000 in
theorem c_X1_matchesIn (l : Launch) (κ : KP) (γ : St) (y1 : Int32)  : Met l yX1_matchesIn [Cond.code yX1_matchesIn cX1_matchesIn 2 (some .int)] ({ frames := 0, cells := 0, slots := 0, locals := 0 } : Room) (va_Pc [.ref (kA κ 1 0), .int y1] (GG κ γ)) (QQ κ γ (some (.int ((x_X1_matchesIn y1 γ))))) 0 0 (AA κ) := by
  generalize hq : x_X1_matchesIn y1 γ = res
  refine Met.ofW (cc := cX1_matchesIn) (maxL := 2) (ret := (some .int)) (by decide) rfl ?_
  intro p e s m args below meth c s₁ B hml9 hv
  obtain ⟨rfl, hH, hK9, hB9, hX9, hZ9⟩ := hv
  have hC : CX κ cX1_matchesIn "Phrasehall$Bracket" 2 p l s m ([.ref (kA κ 1 0), .int y1] : List Value).toArray meth c := ⟨B.exec, B.bytes, findClass_of_methodNamed B.named, fun w hw => tw_use (List.mem_filter.mp hw).2 (State.WarmedH.refl s) (hX9.1 w hw), hK9, hX9, hZ9, hB9, hml9, B.notSynchronized⟩
  obtain ⟨hx, hb, hown, hT, -, -, -, -, hml, -⟩ := id hC
  have hr := B.returns
  have hS : va_S (AA κ) s.heap s.heap [] := va_S.rf
  have hl := lv_entry ([.ref (kA κ 1 0), .int y1]) (n := 2) (Nat.le_of_ble_eq_true rfl)
  rw [lg_entry_eq]
  generalize (lg_sl ([.ref (kA κ 1 0), .int y1]) ++ List.replicate (2 - (lg_sl ([.ref (kA κ 1 0), .int y1])).length) Slot.unset).toArray = ls at hl ⊢
  have hl : lv_has ls 2 [(0, .ref (kA κ 1 0)), (1, .int y1)] := hl
  have b_20 : ∀ (H : Heap) (locs : List Loc) (ls : Array Slot), lv_has ls 2 [] → HR κ γ H → va_S (AA κ) s.heap H locs → x_X1_matchesIn_20 γ = res → W p l e (headSpec [Cond.code yX1_matchesIn cX1_matchesIn 2 (some .int)] ({ frames := 0, cells := 0, slots := 0, locals := 0 } : Room)).room s m ([.ref (kA κ 1 0), .int y1] : List Value).toArray below meth c H locs 0 0 (MQ below (QQ κ γ (some (.int res))) ([.ref (kA κ 1 0), .int y1] : List Value).toArray s 0 0 (AA κ)) (F0 m 20 ls []) := by
    intro  H locs ls hl hH hS hq
    refine lv_iconst (v := 0) hx hb dX1_matchesIn_20 (by decide) ?_
    subst hq
    exact kr_i hC hr hH hS rfl rfl dX1_matchesIn_21
  refine lv_iload_n hx hb dX1_matchesIn_0 rfl (lv_at hl 1 rfl) ?_
  refine lv_if_lt (tgt := 20) hx hb dX1_matchesIn_1 (by decide) (fun c7 => ?_) (fun c7 => ?_)
  · have hq := ifpe hq c7
    exact b_20 _ _ _ (lv_sub hl [] rfl) hH hS hq
  · have hq := ifne hq c7
    refine lv_iload_n hx hb dX1_matchesIn_4 rfl (lv_at hl 1 rfl) ?_
    refine lv_iconst (v := 3) hx hb dX1_matchesIn_5 (by decide) ?_
    refine lv_icmp_gt (tgt := 20) hx hb dX1_matchesIn_6 (by decide) (fun c8 => ?_) (fun c8 => ?_)
    · have hq := ifpe hq c8
      exact b_20 _ _ _ (lv_sub hl [] rfl) hH hS hq
    · have hq := ifne hq c8
      refine lv_aload_n hx hb dX1_matchesIn_9 rfl (lv_at hl 0 rfl) ?_
      refine hp_get (v := .int (gV γ 1 0 2)) (C := RX1) (T := TX1) (N := 3) hC inX1 hH lv_1 rfl rfl 2 (by decide) tw_127 rfl rfl dX1_matchesIn_10 ?_
      refine lv_iload_n hx hb dX1_matchesIn_13 rfl (lv_at hl 1 rfl) ?_
      refine lv_iconst (v := 1) hx hb dX1_matchesIn_14 (by decide) ?_
      refine lv_iadd hx hb dX1_matchesIn_15 ?_
      refine lv_ishr hx hb dX1_matchesIn_16 ?_
      refine lv_goto (tgt := 21) hx hb dX1_matchesIn_17 (by decide) ?_
      subst hq
      exact kr_i hC hr hH hS rfl rfl dX1_matchesIn_21
set_option maxRecDepth 20000 in
set_option maxHeartbeats 4000000 in
theorem c_X1_hasMatch (l : Launch) (κ : KP) (γ : St) (y1 : Int32) (y2 : Int32)  : Met l yX1_hasMatch [Cond.code yX1_hasMatch cX1_hasMatch 3 (some .boolean)] ({ frames := 1, cells := 0, slots := 0, locals := 21 } : Room) (va_Pc [.ref (kA κ 1 0), .int y1, .int y2] (GG κ γ)) (QQ κ γ (some (.int ((x_X1_hasMatch y1 y2 γ))))) 0 0 (AA κ) := by
  generalize hq : x_X1_hasMatch y1 y2 γ = res
  refine Met.ofW (cc := cX1_hasMatch) (maxL := 3) (ret := (some .boolean)) (by decide) rfl ?_
  intro p e s m args below meth c s₁ B hml9 hv
  obtain ⟨rfl, hH, hK9, hB9, hX9, hZ9⟩ := hv
  have hC : CX κ cX1_hasMatch "Phrasehall$Bracket" 3 p l s m ([.ref (kA κ 1 0), .int y1, .int y2] : List Value).toArray meth c := ⟨B.exec, B.bytes, findClass_of_methodNamed B.named, fun w hw => tw_use (List.mem_filter.mp hw).2 (State.WarmedH.refl s) (hX9.1 w hw), hK9, hX9, hZ9, hB9, hml9, B.notSynchronized⟩
  obtain ⟨hx, hb, hown, hT, -, -, -, -, hml, -⟩ := id hC
  have hr := B.returns
  have hS : va_S (AA κ) s.heap s.heap [] := va_S.rf
  have hl := lv_entry ([.ref (kA κ 1 0), .int y1, .int y2]) (n := 3) (Nat.le_of_ble_eq_true rfl)
  rw [lg_entry_eq]
  generalize (lg_sl ([.ref (kA κ 1 0), .int y1, .int y2]) ++ List.replicate (3 - (lg_sl ([.ref (kA κ 1 0), .int y1, .int y2])).length) Slot.unset).toArray = ls at hl ⊢
  have hl : lv_has ls 3 [(0, .ref (kA κ 1 0)), (1, .int y1), (2, .int y2)] := hl
  have b_17 : ∀ (H : Heap) (locs : List Loc) (ls : Array Slot), lv_has ls 3 [] → HR κ γ H → va_S (AA κ) s.heap H locs → x_X1_hasMatch_17 γ = res → W p l e (headSpec [Cond.code yX1_hasMatch cX1_hasMatch 3 (some .boolean)] ({ frames := 1, cells := 0, slots := 0, locals := 21 } : Room)).room s m ([.ref (kA κ 1 0), .int y1, .int y2] : List Value).toArray below meth c H locs 0 0 (MQ below (QQ κ γ (some (.int res))) ([.ref (kA κ 1 0), .int y1, .int y2] : List Value).toArray s 0 0 (AA κ)) (F0 m 17 ls []) := by
    intro  H locs ls hl hH hS hq
    refine lv_iconst (v := 0) hx hb dX1_hasMatch_17 (by decide) ?_
    subst hq
    exact kr_z hC hr rfl hH hS rfl rfl dX1_hasMatch_18
  refine lv_iload_n hx hb dX1_hasMatch_0 rfl (lv_at hl 2 rfl) ?_
  refine lv_if_lt (tgt := 17) hx hb dX1_hasMatch_1 (by decide) (fun c7 => ?_) (fun c7 => ?_)
  · have hq := ifpe hq c7
    exact b_17 _ _ _ (lv_sub hl [] rfl) hH hS hq
  · have hq := ifne hq c7
    refine lv_iload_n hx hb dX1_hasMatch_4 rfl (lv_at hl 2 rfl) ?_
    refine lv_aload_n hx hb dX1_hasMatch_5 rfl (lv_at hl 0 rfl) ?_
    refine lv_iload_n hx hb dX1_hasMatch_6 rfl (lv_at hl 1 rfl) ?_
    refine k_callV (C := RX1) (T := TX1) (N := 3) (rest := [.int y2]) hC hl hH hS (c_X1_matchesIn l κ γ y1) lv_1 rfl rfl tw_408 tw_410 tw_10 tw_41 tw_411 hd_X1_matchesIn ⟨Nat.le_of_ble_eq_true rfl, Nat.le_of_ble_eq_true rfl⟩ rfl rfl rfl rfl (Nat.le_of_ble_eq_true rfl) dX1_hasMatch_7 ⟨Nat.le_of_ble_eq_true rfl, Nat.le_of_ble_eq_true rfl⟩ rfl (fun H locs hH hS => ?_)
    refine lv_icmp_ge (tgt := 17) hx hb dX1_hasMatch_10 (by decide) (fun c8 => ?_) (fun c8 => ?_)
    · have hq := ifpe hq c8
      exact b_17 _ _ _ (lv_sub hl [] rfl) hH hS hq
    · have hq := ifne hq c8
      refine lv_iconst (v := 1) hx hb dX1_hasMatch_13 (by decide) ?_
      refine lv_goto (tgt := 18) hx hb dX1_hasMatch_14 (by decide) ?_
      subst hq
      exact kr_z hC hr rfl hH hS rfl rfl dX1_hasMatch_18
set_option maxRecDepth 20000 in
set_option maxHeartbeats 4000000 in
theorem c_X1_nodeOf (l : Launch) (κ : KP) (γ : St) (y1 : Int32) (y2 : Int32)  : Met l yX1_nodeOf [Cond.code yX1_nodeOf cX1_nodeOf 3 (some .int)] ({ frames := 1, cells := 0, slots := 0, locals := 21 } : Room) (va_Pc [.ref (kA κ 1 0), .int y1, .int y2] (GG κ γ)) (QQ κ γ (some (.int ((x_X1_nodeOf y1 y2 γ))))) 0 0 (AA κ) := by
  generalize hq : x_X1_nodeOf y1 y2 γ = res
  refine Met.ofW (cc := cX1_nodeOf) (maxL := 3) (ret := (some .int)) (by decide) rfl ?_
  intro p e s m args below meth c s₁ B hml9 hv
  obtain ⟨rfl, hH, hK9, hB9, hX9, hZ9⟩ := hv
  have hC : CX κ cX1_nodeOf "Phrasehall$Bracket" 3 p l s m ([.ref (kA κ 1 0), .int y1, .int y2] : List Value).toArray meth c := ⟨B.exec, B.bytes, findClass_of_methodNamed B.named, fun w hw => tw_use (List.mem_filter.mp hw).2 (State.WarmedH.refl s) (hX9.1 w hw), hK9, hX9, hZ9, hB9, hml9, B.notSynchronized⟩
  obtain ⟨hx, hb, hown, hT, -, -, -, -, hml, -⟩ := id hC
  have hr := B.returns
  have hS : va_S (AA κ) s.heap s.heap [] := va_S.rf
  have hl := lv_entry ([.ref (kA κ 1 0), .int y1, .int y2]) (n := 3) (Nat.le_of_ble_eq_true rfl)
  rw [lg_entry_eq]
  generalize (lg_sl ([.ref (kA κ 1 0), .int y1, .int y2]) ++ List.replicate (3 - (lg_sl ([.ref (kA κ 1 0), .int y1, .int y2])).length) Slot.unset).toArray = ls at hl ⊢
  have hl : lv_has ls 3 [(0, .ref (kA κ 1 0)), (1, .int y1), (2, .int y2)] := hl
  refine lv_aload_n hx hb dX1_nodeOf_0 rfl (lv_at hl 0 rfl) ?_
  refine lv_iload_n hx hb dX1_nodeOf_1 rfl (lv_at hl 1 rfl) ?_
  refine k_callV (C := RX1) (T := TX1) (N := 3) (rest := []) hC hl hH hS (c_X1_matchesIn l κ γ y1) lv_1 rfl rfl tw_408 tw_410 tw_10 tw_41 tw_411 hd_X1_matchesIn ⟨Nat.le_of_ble_eq_true rfl, Nat.le_of_ble_eq_true rfl⟩ rfl rfl rfl rfl (Nat.le_of_ble_eq_true rfl) dX1_nodeOf_2 ⟨Nat.le_of_ble_eq_true rfl, Nat.le_of_ble_eq_true rfl⟩ rfl (fun H locs hH hS => ?_)
  refine lv_iload_n hx hb dX1_nodeOf_5 rfl (lv_at hl 2 rfl) ?_
  refine lv_iadd hx hb dX1_nodeOf_6 ?_
  subst hq
  exact kr_i hC hr hH hS rfl rfl dX1_nodeOf_7
set_option maxRecDepth 20000 in
set_option maxHeartbeats 4000000 in
theorem c_X1_winnerOf (l : Launch) (κ : KP) (γ : St) (y1 : Int32) (y2 : Int32) (hk : ok_X1_winnerOf y1 y2 γ) : Met l yX1_winnerOf [Cond.code yX1_winnerOf cX1_winnerOf 3 (some .int)] ({ frames := 2, cells := 0, slots := 0, locals := 43 } : Room) (va_Pc [.ref (kA κ 1 0), .int y1, .int y2] (GG κ γ)) (QQ κ γ (some (.int ((x_X1_winnerOf y1 y2 γ))))) 0 0 (AA κ) := by
  generalize hq : x_X1_winnerOf y1 y2 γ = res
  refine Met.ofW (cc := cX1_winnerOf) (maxL := 3) (ret := (some .int)) (by decide) rfl ?_
  intro p e s m args below meth c s₁ B hml9 hv
  obtain ⟨rfl, hH, hK9, hB9, hX9, hZ9⟩ := hv
  have hC : CX κ cX1_winnerOf "Phrasehall$Bracket" 3 p l s m ([.ref (kA κ 1 0), .int y1, .int y2] : List Value).toArray meth c := ⟨B.exec, B.bytes, findClass_of_methodNamed B.named, fun w hw => tw_use (List.mem_filter.mp hw).2 (State.WarmedH.refl s) (hX9.1 w hw), hK9, hX9, hZ9, hB9, hml9, B.notSynchronized⟩
  obtain ⟨hx, hb, hown, hT, -, -, -, -, hml, -⟩ := id hC
  have hr := B.returns
  have hS : va_S (AA κ) s.heap s.heap [] := va_S.rf
  have hl := lv_entry ([.ref (kA κ 1 0), .int y1, .int y2]) (n := 3) (Nat.le_of_ble_eq_true rfl)
  rw [lg_entry_eq]
  generalize (lg_sl ([.ref (kA κ 1 0), .int y1, .int y2]) ++ List.replicate (3 - (lg_sl ([.ref (kA κ 1 0), .int y1, .int y2])).length) Slot.unset).toArray = ls at hl ⊢
  have hl : lv_has ls 3 [(0, .ref (kA κ 1 0)), (1, .int y1), (2, .int y2)] := hl
  refine lv_aload_n hx hb dX1_winnerOf_0 rfl (lv_at hl 0 rfl) ?_
  refine lv_aload_n hx hb dX1_winnerOf_1 rfl (lv_at hl 0 rfl) ?_
  refine lv_iload_n hx hb dX1_winnerOf_2 rfl (lv_at hl 1 rfl) ?_
  refine lv_iload_n hx hb dX1_winnerOf_3 rfl (lv_at hl 2 rfl) ?_
  refine k_callV (C := RX1) (T := TX1) (N := 3) (rest := [.ref (kA κ 1 0)]) hC hl hH hS (c_X1_nodeOf l κ γ y1 y2) lv_1 rfl rfl tw_418 tw_420 tw_11 tw_41 tw_421 hd_X1_nodeOf ⟨Nat.le_of_ble_eq_true rfl, Nat.le_of_ble_eq_true rfl⟩ rfl rfl rfl rfl (Nat.le_of_ble_eq_true rfl) dX1_winnerOf_4 ⟨Nat.le_of_ble_eq_true rfl, Nat.le_of_ble_eq_true rfl⟩ rfl (fun H locs hH hS => ?_)
  obtain ⟨hc3, hk⟩ := hk
  refine k_callV (C := RX1) (T := TX1) (N := 3) (rest := []) hC hl hH hS (c_X1_at l κ γ ((x_X1_nodeOf y1 y2 γ)) hc3) lv_1 rfl rfl tw_422 tw_424 tw_12 tw_41 tw_425 hd_X1_at ⟨Nat.le_of_ble_eq_true rfl, Nat.le_of_ble_eq_true rfl⟩ rfl rfl rfl rfl (Nat.le_of_ble_eq_true rfl) dX1_winnerOf_7 ⟨Nat.le_of_ble_eq_true rfl, Nat.le_of_ble_eq_true rfl⟩ rfl (fun H locs hH hS => ?_)
  subst hq
  exact kr_i hC hr hH hS rfl rfl dX1_winnerOf_10
set_option maxRecDepth 20000 in
set_option maxHeartbeats 4000000 in
theorem c_X1_fencerIn (l : Launch) (κ : KP) (γ : St) (y1 : Int32) (y2 : Int32) (y3 : Int32) (hk : ok_X1_fencerIn y1 y2 y3 γ) : Met l yX1_fencerIn [Cond.code yX1_fencerIn cX1_fencerIn 4 (some .int)] ({ frames := 2, cells := 0, slots := 0, locals := 43 } : Room) (va_Pc [.ref (kA κ 1 0), .int y1, .int y2, .int y3] (GG κ γ)) (QQ κ γ (some (.int ((x_X1_fencerIn y1 y2 y3 γ))))) 0 0 (AA κ) := by
  generalize hq : x_X1_fencerIn y1 y2 y3 γ = res
  refine Met.ofW (cc := cX1_fencerIn) (maxL := 4) (ret := (some .int)) (by decide) rfl ?_
  intro p e s m args below meth c s₁ B hml9 hv
  obtain ⟨rfl, hH, hK9, hB9, hX9, hZ9⟩ := hv
  have hC : CX κ cX1_fencerIn "Phrasehall$Bracket" 4 p l s m ([.ref (kA κ 1 0), .int y1, .int y2, .int y3] : List Value).toArray meth c := ⟨B.exec, B.bytes, findClass_of_methodNamed B.named, fun w hw => tw_use (List.mem_filter.mp hw).2 (State.WarmedH.refl s) (hX9.1 w hw), hK9, hX9, hZ9, hB9, hml9, B.notSynchronized⟩
  obtain ⟨hx, hb, hown, hT, -, -, -, -, hml, -⟩ := id hC
  have hr := B.returns
  have hS : va_S (AA κ) s.heap s.heap [] := va_S.rf
  have hl := lv_entry ([.ref (kA κ 1 0), .int y1, .int y2, .int y3]) (n := 4) (Nat.le_of_ble_eq_true rfl)
  rw [lg_entry_eq]
  generalize (lg_sl ([.ref (kA κ 1 0), .int y1, .int y2, .int y3]) ++ List.replicate (4 - (lg_sl ([.ref (kA κ 1 0), .int y1, .int y2, .int y3])).length) Slot.unset).toArray = ls at hl ⊢
  have hl : lv_has ls 4 [(0, .ref (kA κ 1 0)), (1, .int y1), (2, .int y2), (3, .int y3)] := hl
  refine lv_aload_n hx hb dX1_fencerIn_0 rfl (lv_at hl 0 rfl) ?_
  refine lv_iconst (v := 2) hx hb dX1_fencerIn_1 (by decide) ?_
  refine lv_aload_n hx hb dX1_fencerIn_2 rfl (lv_at hl 0 rfl) ?_
  refine lv_iload_n hx hb dX1_fencerIn_3 rfl (lv_at hl 1 rfl) ?_
  refine lv_iload_n hx hb dX1_fencerIn_4 rfl (lv_at hl 2 rfl) ?_
  refine k_callV (C := RX1) (T := TX1) (N := 3) (rest := [.int 2, .ref (kA κ 1 0)]) hC hl hH hS (c_X1_nodeOf l κ γ y1 y2) lv_1 rfl rfl tw_418 tw_420 tw_11 tw_41 tw_421 hd_X1_nodeOf ⟨Nat.le_of_ble_eq_true rfl, Nat.le_of_ble_eq_true rfl⟩ rfl rfl rfl rfl (Nat.le_of_ble_eq_true rfl) dX1_fencerIn_5 ⟨Nat.le_of_ble_eq_true rfl, Nat.le_of_ble_eq_true rfl⟩ rfl (fun H locs hH hS => ?_)
  refine lv_imul hx hb dX1_fencerIn_8 ?_
  refine lv_iload_n hx hb dX1_fencerIn_9 rfl (lv_at hl 3 rfl) ?_
  refine lv_iadd hx hb dX1_fencerIn_10 ?_
  obtain ⟨hc3, hk⟩ := hk
  refine k_callV (C := RX1) (T := TX1) (N := 3) (rest := []) hC hl hH hS (c_X1_at l κ γ ((2 * ((x_X1_nodeOf y1 y2 γ))) + y3) hc3) lv_1 rfl rfl tw_422 tw_424 tw_12 tw_41 tw_425 hd_X1_at ⟨Nat.le_of_ble_eq_true rfl, Nat.le_of_ble_eq_true rfl⟩ rfl rfl rfl rfl (Nat.le_of_ble_eq_true rfl) dX1_fencerIn_11 ⟨Nat.le_of_ble_eq_true rfl, Nat.le_of_ble_eq_true rfl⟩ rfl (fun H locs hH hS => ?_)
  subst hq
  exact kr_i hC hr hH hS rfl rfl dX1_fencerIn_14
set_option maxRecDepth 20000 in
set_option maxHeartbeats 4000000 in
theorem c_X1_isOpen (l : Launch) (κ : KP) (γ : St) (y1 : Int32) (y2 : Int32) (hk : ok_X1_isOpen y1 y2 γ) : Met l yX1_isOpen [Cond.code yX1_isOpen cX1_isOpen 4 (some .boolean)] ({ frames := 3, cells := 0, slots := 0, locals := 66 } : Room) (va_Pc [.ref (kA κ 1 0), .int y1, .int y2] (GG κ γ)) (QQ κ γ (some (.int ((x_X1_isOpen y1 y2 γ))))) 0 0 (AA κ) := by
  generalize hq : x_X1_isOpen y1 y2 γ = res
  refine Met.ofW (cc := cX1_isOpen) (maxL := 4) (ret := (some .boolean)) (by decide) rfl ?_
  intro p e s m args below meth c s₁ B hml9 hv
  obtain ⟨rfl, hH, hK9, hB9, hX9, hZ9⟩ := hv
  have hC : CX κ cX1_isOpen "Phrasehall$Bracket" 4 p l s m ([.ref (kA κ 1 0), .int y1, .int y2] : List Value).toArray meth c := ⟨B.exec, B.bytes, findClass_of_methodNamed B.named, fun w hw => tw_use (List.mem_filter.mp hw).2 (State.WarmedH.refl s) (hX9.1 w hw), hK9, hX9, hZ9, hB9, hml9, B.notSynchronized⟩
  obtain ⟨hx, hb, hown, hT, -, -, -, -, hml, -⟩ := id hC
  have hr := B.returns
  have hS : va_S (AA κ) s.heap s.heap [] := va_S.rf
  have hl := lv_entry ([.ref (kA κ 1 0), .int y1, .int y2]) (n := 4) (Nat.le_of_ble_eq_true rfl)
  rw [lg_entry_eq]
  generalize (lg_sl ([.ref (kA κ 1 0), .int y1, .int y2]) ++ List.replicate (4 - (lg_sl ([.ref (kA κ 1 0), .int y1, .int y2])).length) Slot.unset).toArray = ls at hl ⊢
  have hl : lv_has ls 4 [(0, .ref (kA κ 1 0)), (1, .int y1), (2, .int y2)] := hl
  have b_46 : ∀ (H : Heap) (locs : List Loc) (ls : Array Slot), lv_has ls 4 [] → HR κ γ H → va_S (AA κ) s.heap H locs → ok_X1_isOpen_46 γ → x_X1_isOpen_46 γ = res → W p l e (headSpec [Cond.code yX1_isOpen cX1_isOpen 4 (some .boolean)] ({ frames := 3, cells := 0, slots := 0, locals := 66 } : Room)).room s m ([.ref (kA κ 1 0), .int y1, .int y2] : List Value).toArray below meth c H locs 0 0 (MQ below (QQ κ γ (some (.int res))) ([.ref (kA κ 1 0), .int y1, .int y2] : List Value).toArray s 0 0 (AA κ)) (F0 m 46 ls []) := by
    intro  H locs ls hl hH hS hk hq
    refine lv_iconst (v := 0) hx hb dX1_isOpen_46 (by decide) ?_
    subst hq
    exact kr_z hC hr rfl hH hS rfl rfl dX1_isOpen_47
  have b_27 : ∀ (a1 : Int32) (a2 : Int32) (s0 : Int32) (H : Heap) (locs : List Loc) (ls : Array Slot), lv_has ls 4 [(0, .ref (kA κ 1 0)), (1, .int a1), (2, .int a2)] → HR κ γ H → va_S (AA κ) s.heap H locs → ok_X1_isOpen_27 a1 a2 s0 γ → x_X1_isOpen_27 a1 a2 s0 γ = res → W p l e (headSpec [Cond.code yX1_isOpen cX1_isOpen 4 (some .boolean)] ({ frames := 3, cells := 0, slots := 0, locals := 66 } : Room)).room s m ([.ref (kA κ 1 0), .int y1, .int y2] : List Value).toArray below meth c H locs 0 0 (MQ below (QQ κ γ (some (.int res))) ([.ref (kA κ 1 0), .int y1, .int y2] : List Value).toArray s 0 0 (AA κ)) (F0 m 27 ls [.int s0]) := by
    intro a1 a2 s0 H locs ls hl hH hS hk hq
    refine lv_istore_n (lv' := [(3, .int s0), (0, .ref (kA κ 1 0)), (1, .int a1), (2, .int a2)]) hx hb dX1_isOpen_27 rfl hl (by decide) rfl (fun ls hl => ?_)
    refine lv_iload_n hx hb dX1_isOpen_28 rfl (lv_at hl 0 rfl) ?_
    refine lv_if_eq (tgt := 46) hx hb dX1_isOpen_29 (by decide) (fun c22 => ?_) (fun c22 => ?_)
    · have hk := ifp hk c22
      have hq := ifpe hq c22
      exact b_46 _ _ _ (lv_sub hl [] rfl) hH hS hk hq
    · have hk := ifn hk c22
      have hq := ifne hq c22
      refine lv_aload_n hx hb dX1_isOpen_32 rfl (lv_at hl 1 rfl) ?_
      refine lv_iload_n hx hb dX1_isOpen_33 rfl (lv_at hl 2 rfl) ?_
      refine lv_iload_n hx hb dX1_isOpen_34 rfl (lv_at hl 3 rfl) ?_
      obtain ⟨hc23, hk⟩ := hk
      refine k_callV (C := RX1) (T := TX1) (N := 3) (rest := []) hC hl hH hS (c_X1_winnerOf l κ γ a1 a2 hc23) lv_1 rfl rfl tw_831 tw_415 tw_416 tw_41 tw_417 hd_X1_winnerOf ⟨Nat.le_of_ble_eq_true rfl, Nat.le_of_ble_eq_true rfl⟩ rfl rfl rfl rfl (Nat.le_of_ble_eq_true rfl) dX1_isOpen_35 ⟨Nat.le_of_ble_eq_true rfl, Nat.le_of_ble_eq_true rfl⟩ rfl (fun H locs hH hS => ?_)
      refine lv_iconst (v := (-1)) hx hb dX1_isOpen_38 (by decide) ?_
      refine lv_icmp_ne (tgt := 46) hx hb dX1_isOpen_39 (by decide) (fun c24 => ?_) (fun c24 => ?_)
      · have hk := ifn hk c24
        have hq := ifne hq c24
        exact b_46 _ _ _ (lv_sub hl [] rfl) hH hS hk hq
      · have hk := ifp hk c24
        have hq := ifpe hq c24
        refine lv_iconst (v := 1) hx hb dX1_isOpen_42 (by decide) ?_
        refine lv_goto (tgt := 47) hx hb dX1_isOpen_43 (by decide) ?_
        subst hq
        exact kr_z hC hr rfl hH hS rfl rfl dX1_isOpen_47
  have b_26 : ∀ (a1 : Int32) (a2 : Int32) (H : Heap) (locs : List Loc) (ls : Array Slot), lv_has ls 4 [(0, .ref (kA κ 1 0)), (1, .int a1), (2, .int a2)] → HR κ γ H → va_S (AA κ) s.heap H locs → ok_X1_isOpen_26 a1 a2 γ → x_X1_isOpen_26 a1 a2 γ = res → W p l e (headSpec [Cond.code yX1_isOpen cX1_isOpen 4 (some .boolean)] ({ frames := 3, cells := 0, slots := 0, locals := 66 } : Room)).room s m ([.ref (kA κ 1 0), .int y1, .int y2] : List Value).toArray below meth c H locs 0 0 (MQ below (QQ κ γ (some (.int res))) ([.ref (kA κ 1 0), .int y1, .int y2] : List Value).toArray s 0 0 (AA κ)) (F0 m 26 ls []) := by
    intro a1 a2 H locs ls hl hH hS hk hq
    refine lv_iconst (v := 0) hx hb dX1_isOpen_26 (by decide) ?_
    exact b_27 a1 a2 0 _ _ _ (lv_sub hl [0, 1, 2] rfl) hH hS hk hq
  refine lv_aload_n hx hb dX1_isOpen_0 rfl (lv_at hl 0 rfl) ?_
  refine lv_iload_n hx hb dX1_isOpen_1 rfl (lv_at hl 1 rfl) ?_
  refine lv_iload_n hx hb dX1_isOpen_2 rfl (lv_at hl 2 rfl) ?_
  refine lv_iconst (v := 0) hx hb dX1_isOpen_3 (by decide) ?_
  obtain ⟨hc25, hk⟩ := hk
  refine k_callV (C := RX1) (T := TX1) (N := 3) (rest := []) hC hl hH hS (c_X1_fencerIn l κ γ y1 y2 0 hc25) lv_1 rfl rfl tw_830 tw_427 tw_428 tw_41 tw_429 hd_X1_fencerIn ⟨Nat.le_of_ble_eq_true rfl, Nat.le_of_ble_eq_true rfl⟩ rfl rfl rfl rfl (Nat.le_of_ble_eq_true rfl) dX1_isOpen_4 ⟨Nat.le_of_ble_eq_true rfl, Nat.le_of_ble_eq_true rfl⟩ rfl (fun H locs hH hS => ?_)
  refine lv_iconst (v := (-1)) hx hb dX1_isOpen_7 (by decide) ?_
  refine lv_icmp_eq (tgt := 26) hx hb dX1_isOpen_8 (by decide) (fun c26 => ?_) (fun c26 => ?_)
  · have hk := ifp hk c26
    have hq := ifpe hq c26
    exact b_26 y1 y2 _ _ _ (lv_sub hl [0, 1, 2] rfl) hH hS hk hq
  · have hk := ifn hk c26
    have hq := ifne hq c26
    refine lv_aload_n hx hb dX1_isOpen_11 rfl (lv_at hl 0 rfl) ?_
    refine lv_iload_n hx hb dX1_isOpen_12 rfl (lv_at hl 1 rfl) ?_
    refine lv_iload_n hx hb dX1_isOpen_13 rfl (lv_at hl 2 rfl) ?_
    refine lv_iconst (v := 1) hx hb dX1_isOpen_14 (by decide) ?_
    obtain ⟨hc27, hk⟩ := hk
    refine k_callV (C := RX1) (T := TX1) (N := 3) (rest := []) hC hl hH hS (c_X1_fencerIn l κ γ y1 y2 1 hc27) lv_1 rfl rfl tw_830 tw_427 tw_428 tw_41 tw_429 hd_X1_fencerIn ⟨Nat.le_of_ble_eq_true rfl, Nat.le_of_ble_eq_true rfl⟩ rfl rfl rfl rfl (Nat.le_of_ble_eq_true rfl) dX1_isOpen_15 ⟨Nat.le_of_ble_eq_true rfl, Nat.le_of_ble_eq_true rfl⟩ rfl (fun H locs hH hS => ?_)
    refine lv_iconst (v := (-1)) hx hb dX1_isOpen_18 (by decide) ?_
    refine lv_icmp_eq (tgt := 26) hx hb dX1_isOpen_19 (by decide) (fun c28 => ?_) (fun c28 => ?_)
    · have hk := ifp hk c28
      have hq := ifpe hq c28
      exact b_26 y1 y2 _ _ _ (lv_sub hl [0, 1, 2] rfl) hH hS hk hq
    · have hk := ifn hk c28
      have hq := ifne hq c28
      refine lv_iconst (v := 1) hx hb dX1_isOpen_22 (by decide) ?_
      refine lv_goto (tgt := 27) hx hb dX1_isOpen_23 (by decide) ?_
      exact b_27 y1 y2 1 _ _ _ (lv_sub hl [0, 1, 2] rfl) hH hS hk hq
set_option maxRecDepth 20000 in
set_option maxHeartbeats 4000000 in
theorem c_X1_settle (l : Launch) (κ : KP) (γ : St) (y1 : Int32) (y2 : Int32) (y3 : Int32) (hk : ok_X1_settle y1 y2 y3 γ) : Met l yX1_settle [Cond.code yX1_settle cX1_settle 5 (some .int)] ({ frames := 3, cells := 0, slots := 0, locals := 66 } : Room) (va_Pc [.ref (kA κ 1 0), .int y1, .int y2, .int y3] (GG κ γ)) (QQ κ (((x_X1_settle y1 y2 y3 γ)).2) (some (.int (((x_X1_settle y1 y2 y3 γ)).1)))) 0 0 (AA κ) := by
  generalize hq : x_X1_settle y1 y2 y3 γ = res
  refine Met.ofW (cc := cX1_settle) (maxL := 5) (ret := (some .int)) (by decide) rfl ?_
  intro p e s m args below meth c s₁ B hml9 hv
  obtain ⟨rfl, hH, hK9, hB9, hX9, hZ9⟩ := hv
  have hC : CX κ cX1_settle "Phrasehall$Bracket" 5 p l s m ([.ref (kA κ 1 0), .int y1, .int y2, .int y3] : List Value).toArray meth c := ⟨B.exec, B.bytes, findClass_of_methodNamed B.named, fun w hw => tw_use (List.mem_filter.mp hw).2 (State.WarmedH.refl s) (hX9.1 w hw), hK9, hX9, hZ9, hB9, hml9, B.notSynchronized⟩
  obtain ⟨hx, hb, hown, hT, -, -, -, -, hml, -⟩ := id hC
  have hr := B.returns
  have hS : va_S (AA κ) s.heap s.heap [] := va_S.rf
  have hl := lv_entry ([.ref (kA κ 1 0), .int y1, .int y2, .int y3]) (n := 5) (Nat.le_of_ble_eq_true rfl)
  rw [lg_entry_eq]
  generalize (lg_sl ([.ref (kA κ 1 0), .int y1, .int y2, .int y3]) ++ List.replicate (5 - (lg_sl ([.ref (kA κ 1 0), .int y1, .int y2, .int y3])).length) Slot.unset).toArray = ls at hl ⊢
  have hl : lv_has ls 5 [(0, .ref (kA κ 1 0)), (1, .int y1), (2, .int y2), (3, .int y3)] := hl
  have b_21 : ∀ (a4 : Int32) (γ : St) (H : Heap) (locs : List Loc) (ls : Array Slot), lv_has ls 5 [(4, .int a4)] → HR κ γ H → va_S (AA κ) s.heap H locs → ok_X1_settle_21 a4 γ → x_X1_settle_21 a4 γ = res → W p l e (headSpec [Cond.code yX1_settle cX1_settle 5 (some .int)] ({ frames := 3, cells := 0, slots := 0, locals := 66 } : Room)).room s m ([.ref (kA κ 1 0), .int y1, .int y2, .int y3] : List Value).toArray below meth c H locs 0 0 (MQ below (QQ κ (res.2) (some (.int res.1))) ([.ref (kA κ 1 0), .int y1, .int y2, .int y3] : List Value).toArray s 0 0 (AA κ)) (F0 m 21 ls []) := by
    intro a4 γ H locs ls hl hH hS hk hq
    refine lv_iload hx hb dX1_settle_21 (lv_at hl 0 rfl) ?_
    subst hq
    exact kr_i hC hr hH hS rfl rfl dX1_settle_23
  refine lv_aload_n hx hb dX1_settle_0 rfl (lv_at hl 0 rfl) ?_
  refine lv_iload_n hx hb dX1_settle_1 rfl (lv_at hl 1 rfl) ?_
  refine lv_iload_n hx hb dX1_settle_2 rfl (lv_at hl 2 rfl) ?_
  refine lv_iload_n hx hb dX1_settle_3 rfl (lv_at hl 3 rfl) ?_
  obtain ⟨hc7, hk⟩ := hk
  refine k_callV (C := RX1) (T := TX1) (N := 3) (rest := []) hC hl hH hS (c_X1_fencerIn l κ γ y1 y2 y3 hc7) lv_1 rfl rfl tw_830 tw_427 tw_428 tw_41 tw_429 hd_X1_fencerIn ⟨Nat.le_of_ble_eq_true rfl, Nat.le_of_ble_eq_true rfl⟩ rfl rfl rfl rfl (Nat.le_of_ble_eq_true rfl) dX1_settle_4 ⟨Nat.le_of_ble_eq_true rfl, Nat.le_of_ble_eq_true rfl⟩ rfl (fun H locs hH hS => ?_)
  refine lv_istore (lv' := [(4, .int ((x_X1_fencerIn y1 y2 y3 γ))), (0, .ref (kA κ 1 0)), (1, .int y1), (2, .int y2), (3, .int y3)]) hx hb dX1_settle_7 hl (by decide) rfl (fun ls hl => ?_)
  refine lv_aload_n hx hb dX1_settle_9 rfl (lv_at hl 1 rfl) ?_
  refine lv_aload_n hx hb dX1_settle_10 rfl (lv_at hl 1 rfl) ?_
  refine lv_iload_n hx hb dX1_settle_11 rfl (lv_at hl 2 rfl) ?_
  refine lv_iload_n hx hb dX1_settle_12 rfl (lv_at hl 3 rfl) ?_
  refine k_callV (C := RX1) (T := TX1) (N := 3) (rest := [.ref (kA κ 1 0)]) hC hl hH hS (c_X1_nodeOf l κ γ y1 y2) lv_1 rfl rfl tw_418 tw_420 tw_11 tw_41 tw_421 hd_X1_nodeOf ⟨Nat.le_of_ble_eq_true rfl, Nat.le_of_ble_eq_true rfl⟩ rfl rfl rfl rfl (Nat.le_of_ble_eq_true rfl) dX1_settle_13 ⟨Nat.le_of_ble_eq_true rfl, Nat.le_of_ble_eq_true rfl⟩ rfl (fun H locs hH hS => ?_)
  refine lv_iload hx hb dX1_settle_16 (lv_at hl 0 rfl) ?_
  obtain ⟨hc8, hk⟩ := hk
  refine k_callV (C := RX1) (T := TX1) (N := 3) (rest := []) hC hl hH hS (c_X1_put l κ γ ((x_X1_nodeOf y1 y2 γ)) ((x_X1_fencerIn y1 y2 y3 γ)) hc8) lv_1 rfl rfl tw_813 tw_815 tw_35 tw_41 tw_816 hd_X1_put ⟨Nat.le_of_ble_eq_true rfl, Nat.le_of_ble_eq_true rfl⟩ rfl rfl rfl rfl (Nat.le_of_ble_eq_true rfl) dX1_settle_18 ⟨Nat.le_of_ble_eq_true rfl, Nat.le_of_ble_eq_true rfl⟩ rfl (fun H locs hH hS => ?_)
  exact b_21 ((x_X1_fencerIn y1 y2 y3 γ)) (x_X1_put ((x_X1_nodeOf y1 y2 γ)) ((x_X1_fencerIn y1 y2 y3 γ)) γ) _ _ _ (lv_sub hl [0] rfl) hH hS hk hq
set_option maxRecDepth 20000 in
set_option maxHeartbeats 4000000 in
theorem c_X5_markWithdrawn (l : Launch) (κ : KP) (γ : St) (o : Nat) (y1 : Int32) (hvo : lv κ 5 o) : Met l yX5_markWithdrawn [Cond.code yX5_markWithdrawn cX5_markWithdrawn 2 none] ({ frames := 2, cells := 0, slots := 0, locals := 42 } : Room) (va_Pc [.ref (kA κ 5 o), .int y1] (GG κ γ)) (QQ κ ((x_X5_markWithdrawn o y1 γ)) none) 0 0 (AA κ) := by
  generalize hq : x_X5_markWithdrawn o y1 γ = res
  refine Met.ofW (cc := cX5_markWithdrawn) (maxL := 2) (ret := none) (by decide) rfl ?_
  intro p e s m args below meth c s₁ B hml9 hv
  obtain ⟨rfl, hH, hK9, hB9, hX9, hZ9⟩ := hv
  have hC : CX κ cX5_markWithdrawn "Phrasehall$Pool" 2 p l s m ([.ref (kA κ 5 o), .int y1] : List Value).toArray meth c := ⟨B.exec, B.bytes, findClass_of_methodNamed B.named, fun w hw => tw_use (List.mem_filter.mp hw).2 (State.WarmedH.refl s) (hX9.1 w hw), hK9, hX9, hZ9, hB9, hml9, B.notSynchronized⟩
  obtain ⟨hx, hb, hown, hT, -, -, -, -, hml, -⟩ := id hC
  have hr := B.returns
  have hS : va_S (AA κ) s.heap s.heap [] := va_S.rf
  have hl := lv_entry ([.ref (kA κ 5 o), .int y1]) (n := 2) (Nat.le_of_ble_eq_true rfl)
  rw [lg_entry_eq]
  generalize (lg_sl ([.ref (kA κ 5 o), .int y1]) ++ List.replicate (2 - (lg_sl ([.ref (kA κ 5 o), .int y1])).length) Slot.unset).toArray = ls at hl ⊢
  have hl : lv_has ls 2 [(0, .ref (kA κ 5 o)), (1, .int y1)] := hl
  refine lv_aload_n hx hb dX5_markWithdrawn_0 rfl (lv_at hl 0 rfl) ?_
  refine lv_iload_n hx hb dX5_markWithdrawn_1 rfl (lv_at hl 1 rfl) ?_
  refine k_callV (C := RX5) (T := TX5) (N := 5) (rest := []) hC hl hH hS (c_X5_has l κ γ o y1 hvo) hvo rfl rfl tw_375 tw_314 tw_315 tw_49 tw_316 hd_X5_has ⟨Nat.le_of_ble_eq_true rfl, Nat.le_of_ble_eq_true rfl⟩ rfl rfl rfl rfl (Nat.le_of_ble_eq_true rfl) dX5_markWithdrawn_2 ⟨Nat.le_of_ble_eq_true rfl, Nat.le_of_ble_eq_true rfl⟩ rfl (fun H locs hH hS => ?_)
  refine lv_if_eq (tgt := 20) hx hb dX5_markWithdrawn_5 (by decide) (fun c3 => ?_) (fun c3 => ?_)
  · have hq := ifpe hq c3
    subst hq
    exact kr_v hC hr hH hS rfl dX5_markWithdrawn_20
  · have hq := ifne hq c3
    refine lv_aload_n hx hb dX5_markWithdrawn_8 rfl (lv_at hl 0 rfl) ?_
    refine lv_dup hx hb dX5_markWithdrawn_9 rfl ?_
    refine hp_get (v := .int (gV γ 5 o 4)) (C := RX5) (T := TX5) (N := 5) hC inX5 hH hvo rfl rfl 4 (by decide) tw_764 rfl rfl dX5_markWithdrawn_10 ?_
    refine lv_iconst (v := 1) hx hb dX5_markWithdrawn_13 (by decide) ?_
    refine lv_iload_n hx hb dX5_markWithdrawn_14 rfl (lv_at hl 1 rfl) ?_
    refine lv_ishl hx hb dX5_markWithdrawn_15 ?_
    refine lv_ior hx hb dX5_markWithdrawn_16 ?_
    refine hp_put (v := .int ((gV γ 5 o 4) ||| (1 <<< (y1 &&& 31)))) (C := RX5) (T := TX5) (N := 5) hC inX5 tyX5_ok nmX5 hH hvo rfl hS rfl 4 (by decide) tw_764 rfl rfl rfl rfl (Nat.le_of_ble_eq_true rfl) (sV γ 5 o 4 ((gV γ 5 o 4) ||| (1 <<< (y1 &&& 31)))) (pe_5_4 _ _ o ((gV γ 5 o 4) ||| (1 <<< (y1 &&& 31)))) (fun _ _ _ h => cel_sV h) (WT_sV hH.wt) dX5_markWithdrawn_17 (fun H locs hH hS => ?_)
    subst hq
    exact kr_v hC hr hH hS rfl dX5_markWithdrawn_20
set_option maxRecDepth 20000 in
set_option maxHeartbeats 4000000 in
theorem c_X5_counts (l : Launch) (κ : KP) (γ : St) (o : Nat) (z1 : Nat) (hvo : lv κ 5 o) (hv_z1 : lv κ 0 z1) : Met l yX5_counts [Cond.code yX5_counts cX5_counts 2 (some .boolean)] ({ frames := 2, cells := 0, slots := 0, locals := 42 } : Room) (va_Pc [.ref (kA κ 5 o), .ref (kA κ 0 z1)] (GG κ γ)) (QQ κ γ (some (.int ((x_X5_counts o z1 γ))))) 0 0 (AA κ) := by
  generalize hq : x_X5_counts o z1 γ = res
  refine Met.ofW (cc := cX5_counts) (maxL := 2) (ret := (some .boolean)) (by decide) rfl ?_
  intro p e s m args below meth c s₁ B hml9 hv
  obtain ⟨rfl, hH, hK9, hB9, hX9, hZ9⟩ := hv
  have hC : CX κ cX5_counts "Phrasehall$Pool" 2 p l s m ([.ref (kA κ 5 o), .ref (kA κ 0 z1)] : List Value).toArray meth c := ⟨B.exec, B.bytes, findClass_of_methodNamed B.named, fun w hw => tw_use (List.mem_filter.mp hw).2 (State.WarmedH.refl s) (hX9.1 w hw), hK9, hX9, hZ9, hB9, hml9, B.notSynchronized⟩
  obtain ⟨hx, hb, hown, hT, -, -, -, -, hml, -⟩ := id hC
  have hr := B.returns
  have hS : va_S (AA κ) s.heap s.heap [] := va_S.rf
  have hl := lv_entry ([.ref (kA κ 5 o), .ref (kA κ 0 z1)]) (n := 2) (Nat.le_of_ble_eq_true rfl)
  rw [lg_entry_eq]
  generalize (lg_sl ([.ref (kA κ 5 o), .ref (kA κ 0 z1)]) ++ List.replicate (2 - (lg_sl ([.ref (kA κ 5 o), .ref (kA κ 0 z1)])).length) Slot.unset).toArray = ls at hl ⊢
  have hl : lv_has ls 2 [(0, .ref (kA κ 5 o)), (1, .ref (kA κ 0 z1))] := hl
  have b_50 : ∀ (H : Heap) (locs : List Loc) (ls : Array Slot), lv_has ls 2 [] → HR κ γ H → va_S (AA κ) s.heap H locs → x_X5_counts_50 o γ = res → W p l e (headSpec [Cond.code yX5_counts cX5_counts 2 (some .boolean)] ({ frames := 2, cells := 0, slots := 0, locals := 42 } : Room)).room s m ([.ref (kA κ 5 o), .ref (kA κ 0 z1)] : List Value).toArray below meth c H locs 0 0 (MQ below (QQ κ γ (some (.int res))) ([.ref (kA κ 5 o), .ref (kA κ 0 z1)] : List Value).toArray s 0 0 (AA κ)) (F0 m 50 ls []) := by
    intro  H locs ls hl hH hS hq
    refine lv_iconst (v := 0) hx hb dX5_counts_50 (by decide) ?_
    subst hq
    exact kr_z hC hr rfl hH hS rfl rfl dX5_counts_51
  refine lv_aload_n hx hb dX5_counts_0 rfl (lv_at hl 1 rfl) ?_
  refine hp_getN (v := .int (gV γ 0 z1 4)) (C := RX0) (T := TX0) (N := 10) hC inX0 hH hv_z1 rfl rfl 4 (by decide) nw_484 rfl rfl dX5_counts_1 ?_
  refine lv_aload_n hx hb dX5_counts_4 rfl (lv_at hl 0 rfl) ?_
  refine hp_get (v := .int (gV γ 5 o 0)) (C := RX5) (T := TX5) (N := 5) hC inX5 hH hvo rfl rfl 0 (by decide) tw_759 rfl rfl dX5_counts_5 ?_
  refine lv_icmp_ne (tgt := 50) hx hb dX5_counts_8 (by decide) (fun c13 => ?_) (fun c13 => ?_)
  · have hq := ifne hq c13
    exact b_50 _ _ _ (lv_sub hl [] rfl) hH hS hq
  · have hq := ifpe hq c13
    refine lv_aload_n hx hb dX5_counts_11 rfl (lv_at hl 1 rfl) ?_
    refine k_callV (C := RX0) (T := TX0) (N := 10) (rest := []) hC hl hH hS (c_X0_isOver l κ γ z1 hv_z1) hv_z1 rfl rfl tw_340 tw_341 tw_342 tw_50 tw_343 hd_X0_isOver ⟨Nat.le_of_ble_eq_true rfl, Nat.le_of_ble_eq_true rfl⟩ rfl rfl rfl rfl (Nat.le_of_ble_eq_true rfl) dX5_counts_12 ⟨Nat.le_of_ble_eq_true rfl, Nat.le_of_ble_eq_true rfl⟩ rfl (fun H locs hH hS => ?_)
    refine lv_if_eq (tgt := 50) hx hb dX5_counts_15 (by decide) (fun c14 => ?_) (fun c14 => ?_)
    · have hq := ifpe hq c14
      exact b_50 _ _ _ (lv_sub hl [] rfl) hH hS hq
    · have hq := ifne hq c14
      refine lv_aload_n hx hb dX5_counts_18 rfl (lv_at hl 0 rfl) ?_
      refine lv_aload_n hx hb dX5_counts_19 rfl (lv_at hl 1 rfl) ?_
      refine hp_getN (v := .ref (kA κ 2 (2 * z1))) (C := RX0) (T := TX0) (N := 10) hC inX0 hH hv_z1 rfl rfl 0 (by decide) nw_477 rfl rfl dX5_counts_20 ?_
      refine hp_getN (v := .int (gV γ 2 (2 * z1) 0)) (C := RX2) (T := TX2) (N := 4) hC inX2 hH (lv_c0 hv_z1) rfl rfl 0 (by decide) nw_462 rfl rfl dX5_counts_23 ?_
      refine k_callV (C := RX5) (T := TX5) (N := 5) (rest := []) hC hl hH hS (c_X5_isWithdrawn l κ γ o (gV γ 2 (2 * z1) 0) hvo) hvo rfl rfl tw_344 tw_345 tw_346 tw_49 tw_347 hd_X5_isWithdrawn ⟨Nat.le_of_ble_eq_true rfl, Nat.le_of_ble_eq_true rfl⟩ rfl rfl rfl rfl (Nat.le_of_ble_eq_true rfl) dX5_counts_26 ⟨Nat.le_of_ble_eq_true rfl, Nat.le_of_ble_eq_true rfl⟩ rfl (fun H locs hH hS => ?_)
      refine lv_if_ne (tgt := 50) hx hb dX5_counts_29 (by decide) (fun c15 => ?_) (fun c15 => ?_)
      · have hq := ifne hq c15
        exact b_50 _ _ _ (lv_sub hl [] rfl) hH hS hq
      · have hq := ifpe hq c15
        refine lv_aload_n hx hb dX5_counts_32 rfl (lv_at hl 0 rfl) ?_
        refine lv_aload_n hx hb dX5_counts_33 rfl (lv_at hl 1 rfl) ?_
        refine hp_getN (v := .ref (kA κ 2 (2 * z1 + 1))) (C := RX0) (T := TX0) (N := 10) hC inX0 hH hv_z1 rfl rfl 1 (by decide) nw_479 rfl rfl dX5_counts_34 ?_
        refine hp_getN (v := .int (gV γ 2 (2 * z1 + 1) 0)) (C := RX2) (T := TX2) (N := 4) hC inX2 hH (lv_c1 hv_z1) rfl rfl 0 (by decide) nw_462 rfl rfl dX5_counts_37 ?_
        refine k_callV (C := RX5) (T := TX5) (N := 5) (rest := []) hC hl hH hS (c_X5_isWithdrawn l κ γ o (gV γ 2 (2 * z1 + 1) 0) hvo) hvo rfl rfl tw_344 tw_345 tw_346 tw_49 tw_347 hd_X5_isWithdrawn ⟨Nat.le_of_ble_eq_true rfl, Nat.le_of_ble_eq_true rfl⟩ rfl rfl rfl rfl (Nat.le_of_ble_eq_true rfl) dX5_counts_40 ⟨Nat.le_of_ble_eq_true rfl, Nat.le_of_ble_eq_true rfl⟩ rfl (fun H locs hH hS => ?_)
        refine lv_if_ne (tgt := 50) hx hb dX5_counts_43 (by decide) (fun c16 => ?_) (fun c16 => ?_)
        · have hq := ifne hq c16
          exact b_50 _ _ _ (lv_sub hl [] rfl) hH hS hq
        · have hq := ifpe hq c16
          refine lv_iconst (v := 1) hx hb dX5_counts_46 (by decide) ?_
          refine lv_goto (tgt := 51) hx hb dX5_counts_47 (by decide) ?_
          subst hq
          exact kr_z hC hr rfl hH hS rfl rfl dX5_counts_51
set_option maxRecDepth 20000 in
set_option maxHeartbeats 4000000 in
theorem c_X5_addTo (l : Launch) (κ : KP) (γ : St) (o : Nat) (y1 : Int32) (y2 : Int32) (y3 : Int32) (hvo : lv κ 5 o) (hk : ok_X5_addTo o y1 y2 y3 γ) : Met l yX5_addTo [Cond.code yX5_addTo cX5_addTo 5 none] ({ frames := 0, cells := 0, slots := 0, locals := 0 } : Room) (va_Pc [.ref (kA κ 5 o), .int y1, .int y2, .int y3] (GG κ γ)) (QQ κ ((x_X5_addTo o y1 y2 y3 γ)) none) 0 0 (AA κ) := by
  generalize hq : x_X5_addTo o y1 y2 y3 γ = res
  refine Met.ofW (cc := cX5_addTo) (maxL := 5) (ret := none) (by decide) rfl ?_
  intro p e s m args below meth c s₁ B hml9 hv
  obtain ⟨rfl, hH, hK9, hB9, hX9, hZ9⟩ := hv
  have hC : CX κ cX5_addTo "Phrasehall$Pool" 5 p l s m ([.ref (kA κ 5 o), .int y1, .int y2, .int y3] : List Value).toArray meth c := ⟨B.exec, B.bytes, findClass_of_methodNamed B.named, fun w hw => tw_use (List.mem_filter.mp hw).2 (State.WarmedH.refl s) (hX9.1 w hw), hK9, hX9, hZ9, hB9, hml9, B.notSynchronized⟩
  obtain ⟨hx, hb, hown, hT, -, -, -, -, hml, -⟩ := id hC
  have hr := B.returns
  have hS : va_S (AA κ) s.heap s.heap [] := va_S.rf
  have hl := lv_entry ([.ref (kA κ 5 o), .int y1, .int y2, .int y3]) (n := 5) (Nat.le_of_ble_eq_true rfl)
  rw [lg_entry_eq]
  generalize (lg_sl ([.ref (kA κ 5 o), .int y1, .int y2, .int y3]) ++ List.replicate (5 - (lg_sl ([.ref (kA κ 5 o), .int y1, .int y2, .int y3])).length) Slot.unset).toArray = ls at hl ⊢
  have hl : lv_has ls 5 [(0, .ref (kA κ 5 o)), (1, .int y1), (2, .int y2), (3, .int y3)] := hl
  refine lv_iload_n hx hb dX5_addTo_0 rfl (lv_at hl 1 rfl) ?_
  refine lv_iconst (v := 4) hx hb dX5_addTo_1 (by decide) ?_
  refine lv_imul hx hb dX5_addTo_2 ?_
  refine lv_iload_n hx hb dX5_addTo_3 rfl (lv_at hl 2 rfl) ?_
  refine lv_iadd hx hb dX5_addTo_4 ?_
  refine lv_istore (lv' := [(4, .int ((y1 * 4) + y2)), (0, .ref (kA κ 5 o)), (1, .int y1), (2, .int y2), (3, .int y3)]) hx hb dX5_addTo_5 hl (by decide) rfl (fun ls hl => ?_)
  refine lv_iload hx hb dX5_addTo_7 (lv_at hl 0 rfl) ?_
  refine lv_if_lt (tgt := 33) hx hb dX5_addTo_9 (by decide) (fun c9 => ?_) (fun c9 => ?_)
  · have hk := ifp hk c9
    have hq := ifpe hq c9
    subst hq
    exact kr_v hC hr hH hS rfl dX5_addTo_33
  · have hk := ifn hk c9
    have hq := ifne hq c9
    refine lv_iload hx hb dX5_addTo_12 (lv_at hl 0 rfl) ?_
    refine lv_aload_n hx hb dX5_addTo_14 rfl (lv_at hl 1 rfl) ?_
    refine hp_get (v := .ref (kA κ 18 o)) (C := RX5) (T := TX5) (N := 5) hC inX5 hH hvo rfl rfl 2 (by decide) tw_762 rfl rfl dX5_addTo_15 ?_
    refine hp_alen (v := 48) (t0 := 0) hC rfl hH (show lv κ 18 o from hvo) rfl rfl dX5_addTo_18 ?_
    refine lv_icmp_ge (tgt := 33) hx hb dX5_addTo_19 (by decide) (fun c10 => ?_) (fun c10 => ?_)
    · have hk := ifp hk c10
      have hq := ifpe hq c10
      subst hq
      exact kr_v hC hr hH hS rfl dX5_addTo_33
    · have hk := ifn hk c10
      have hq := ifne hq c10
      refine lv_aload_n hx hb dX5_addTo_22 rfl (lv_at hl 1 rfl) ?_
      refine hp_get (v := .ref (kA κ 18 o)) (C := RX5) (T := TX5) (N := 5) hC inX5 hH hvo rfl rfl 2 (by decide) tw_762 rfl rfl dX5_addTo_23 ?_
      refine lv_iload hx hb dX5_addTo_26 (lv_at hl 0 rfl) ?_
      refine lv_dup2_11 hx hb dX5_addTo_28 rfl rfl ?_
      obtain ⟨hi11, hk⟩ := hk
      refine hp_ald (v := gV γ 18 o (((y1 * 4) + y2 : Int32).toNatClampNeg)) hC hH (show lv κ 18 o from hvo) rfl hi11 rfl dX5_addTo_29 ?_
      refine lv_iload_n hx hb dX5_addTo_30 rfl (lv_at hl 4 rfl) ?_
      refine lv_iadd hx hb dX5_addTo_31 ?_
      obtain ⟨hi12, hk⟩ := hk
      refine hp_ast hC hH (show lv κ 18 o from hvo) (fun _ => rfl) hS hi12 dX5_addTo_32 (fun H locs hH hS => ?_)
      subst hq
      exact kr_v hC hr hH hS rfl dX5_addTo_33
set_option maxRecDepth 20000 in
set_option maxHeartbeats 4000000 in
theorem c_X5_enter (l : Launch) (κ : KP) (γ : St) (o : Nat) (z1 : Nat) (y2 : Int32) (hvo : lv κ 5 o) (hv_z1 : lv κ 0 z1) (hk : ok_X5_enter o z1 y2 γ) : Met l yX5_enter [Cond.code yX5_enter cX5_enter 4 none] ({ frames := 2, cells := 0, slots := 0, locals := 43 } : Room) (va_Pc [.ref (kA κ 5 o), .ref (kA κ 0 z1), .int y2] (GG κ γ)) (QQ κ ((x_X5_enter o z1 y2 γ)) none) 0 0 (AA κ) := by
  generalize hq : x_X5_enter o z1 y2 γ = res
  refine Met.ofW (cc := cX5_enter) (maxL := 4) (ret := none) (by decide) rfl ?_
  intro p e s m args below meth c s₁ B hml9 hv
  obtain ⟨rfl, hH, hK9, hB9, hX9, hZ9⟩ := hv
  have hC : CX κ cX5_enter "Phrasehall$Pool" 4 p l s m ([.ref (kA κ 5 o), .ref (kA κ 0 z1), .int y2] : List Value).toArray meth c := ⟨B.exec, B.bytes, findClass_of_methodNamed B.named, fun w hw => tw_use (List.mem_filter.mp hw).2 (State.WarmedH.refl s) (hX9.1 w hw), hK9, hX9, hZ9, hB9, hml9, B.notSynchronized⟩
  obtain ⟨hx, hb, hown, hT, -, -, -, -, hml, -⟩ := id hC
  have hr := B.returns
  have hS : va_S (AA κ) s.heap s.heap [] := va_S.rf
  have hl := lv_entry ([.ref (kA κ 5 o), .ref (kA κ 0 z1), .int y2]) (n := 4) (Nat.le_of_ble_eq_true rfl)
  rw [lg_entry_eq]
  generalize (lg_sl ([.ref (kA κ 5 o), .ref (kA κ 0 z1), .int y2]) ++ List.replicate (4 - (lg_sl ([.ref (kA κ 5 o), .ref (kA κ 0 z1), .int y2])).length) Slot.unset).toArray = ls at hl ⊢
  have hl : lv_has ls 4 [(0, .ref (kA κ 5 o)), (1, .ref (kA κ 0 z1)), (2, .int y2)] := hl
  have b_2 : ∀ (k2 : Nat) (n1 : Nat) (a2 : Int32) (a3 : Int32) (γ : St) (H : Heap) (locs : List Loc) (ls : Array Slot), lv_has ls 4 [(0, .ref (kA κ 5 o)), (1, .ref (kA κ 0 n1)), (2, .int a2), (3, .int a3)] → HR κ γ H → va_S (AA κ) s.heap H locs → (lv κ 0 n1) → ok_X5_enter_2 o k2 n1 a2 a3 γ → x_X5_enter_2 o k2 n1 a2 a3 γ = res → W p l e (headSpec [Cond.code yX5_enter cX5_enter 4 none] ({ frames := 2, cells := 0, slots := 0, locals := 43 } : Room)).room s m ([.ref (kA κ 5 o), .ref (kA κ 0 z1), .int y2] : List Value).toArray below meth c H locs 0 0 (MQ below (QQ κ res none) ([.ref (kA κ 5 o), .ref (kA κ 0 z1), .int y2] : List Value).toArray s 0 0 (AA κ)) (F0 m 2 ls []) := by
    intro k2
    induction k2 with
    | zero =>
      intro n1 a2 a3 γ H locs ls hl hH hS hv_n1 hk hq
      exact (show False from hk).elim
    | succ k2 ih_2 =>
      have b_47 : ∀ (n1 : Nat) (a2 : Int32) (a3 : Int32) (γ : St) (H : Heap) (locs : List Loc) (ls : Array Slot), lv_has ls 4 [(0, .ref (kA κ 5 o)), (1, .ref (kA κ 0 n1)), (2, .int a2), (3, .int a3)] → HR κ γ H → va_S (AA κ) s.heap H locs → (lv κ 0 n1) → ok_X5_enter_47 (ok_X5_enter_2 o k2) o n1 a2 a3 γ → x_X5_enter_47 (x_X5_enter_2 o k2) o n1 a2 a3 γ = res → W p l e (headSpec [Cond.code yX5_enter cX5_enter 4 none] ({ frames := 2, cells := 0, slots := 0, locals := 43 } : Room)).room s m ([.ref (kA κ 5 o), .ref (kA κ 0 z1), .int y2] : List Value).toArray below meth c H locs 0 0 (MQ below (QQ κ res none) ([.ref (kA κ 5 o), .ref (kA κ 0 z1), .int y2] : List Value).toArray s 0 0 (AA κ)) (F0 m 47 ls []) := by
        intro n1 a2 a3 γ H locs ls hl hH hS hv_n1 hk hq
        refine lv_iinc (v := a3 + 1) (lv' := [(3, .int (a3 + 1)), (0, .ref (kA κ 5 o)), (1, .ref (kA κ 0 n1)), (2, .int a2)]) hx hb dX5_enter_47 hl (k := 3) rfl rfl (by decide) rfl (fun ls hl => ?_)
        refine lv_goto (tgt := 2) hx hb dX5_enter_50 (by decide) ?_
        exact ih_2 n1 a2 (a3 + 1) γ _ _ _ (lv_sub hl [1, 2, 3, 0] rfl) hH hS hv_n1 hk hq
      have b_27 : ∀ (n1 : Nat) (a2 : Int32) (a3 : Int32) (γ : St) (H : Heap) (locs : List Loc) (ls : Array Slot), lv_has ls 4 [(0, .ref (kA κ 5 o)), (1, .ref (kA κ 0 n1)), (2, .int a2), (3, .int a3)] → HR κ γ H → va_S (AA κ) s.heap H locs → (lv κ 0 n1) → ok_X5_enter_27 (ok_X5_enter_2 o k2) o n1 a2 a3 γ → x_X5_enter_27 (x_X5_enter_2 o k2) o n1 a2 a3 γ = res → W p l e (headSpec [Cond.code yX5_enter cX5_enter 4 none] ({ frames := 2, cells := 0, slots := 0, locals := 43 } : Room)).room s m ([.ref (kA κ 5 o), .ref (kA κ 0 z1), .int y2] : List Value).toArray below meth c H locs 0 0 (MQ below (QQ κ res none) ([.ref (kA κ 5 o), .ref (kA κ 0 z1), .int y2] : List Value).toArray s 0 0 (AA κ)) (F0 m 27 ls []) := by
        intro n1 a2 a3 γ H locs ls hl hH hS hv_n1 hk hq
        refine lv_aload_n hx hb dX5_enter_27 rfl (lv_at hl 0 rfl) ?_
        refine lv_aload_n hx hb dX5_enter_28 rfl (lv_at hl 1 rfl) ?_
        refine hp_getN (v := .ref (kA κ 2 (2 * n1 + 1))) (C := RX0) (T := TX0) (N := 10) hC inX0 hH hv_n1 rfl rfl 1 (by decide) nw_479 rfl rfl dX5_enter_29 ?_
        refine hp_getN (v := .int (gV γ 2 (2 * n1 + 1) 0)) (C := RX2) (T := TX2) (N := 4) hC inX2 hH (lv_c1 hv_n1) rfl rfl 0 (by decide) nw_462 rfl rfl dX5_enter_32 ?_
        refine lv_iload_n hx hb dX5_enter_35 rfl (lv_at hl 3 rfl) ?_
        refine lv_iload_n hx hb dX5_enter_36 rfl (lv_at hl 2 rfl) ?_
        refine lv_aload_n hx hb dX5_enter_37 rfl (lv_at hl 1 rfl) ?_
        refine lv_iconst (v := 1) hx hb dX5_enter_38 (by decide) ?_
        refine lv_iload_n hx hb dX5_enter_39 rfl (lv_at hl 3 rfl) ?_
        refine k_callV (C := RX0) (T := TX0) (N := 10) (rest := [.int a2, .int a3, .int (gV γ 2 (2 * n1 + 1) 0), .ref (kA κ 5 o)]) hC hl hH hS (c_X0_share l κ γ n1 1 a3 hv_n1) hv_n1 rfl rfl tw_670 tw_353 tw_354 tw_50 tw_355 hd_X0_share ⟨Nat.le_of_ble_eq_true rfl, Nat.le_of_ble_eq_true rfl⟩ rfl rfl rfl rfl (Nat.le_of_ble_eq_true rfl) dX5_enter_40 ⟨Nat.le_of_ble_eq_true rfl, Nat.le_of_ble_eq_true rfl⟩ rfl (fun H locs hH hS => ?_)
        refine lv_imul hx hb dX5_enter_43 ?_
        obtain ⟨hc10, hk⟩ := hk
        refine k_callV (C := RX5) (T := TX5) (N := 5) (rest := []) hC hl hH hS (c_X5_addTo l κ γ o (gV γ 2 (2 * n1 + 1) 0) a3 (a2 * ((x_X0_share n1 1 a3 γ))) hvo hc10) hvo rfl rfl tw_671 tw_673 tw_29 tw_49 tw_674 hd_X5_addTo ⟨Nat.le_of_ble_eq_true rfl, Nat.le_of_ble_eq_true rfl⟩ rfl rfl rfl rfl (Nat.le_of_ble_eq_true rfl) dX5_enter_44 ⟨Nat.le_of_ble_eq_true rfl, Nat.le_of_ble_eq_true rfl⟩ rfl (fun H locs hH hS => ?_)
        exact b_47 n1 a2 a3 (x_X5_addTo o (gV γ 2 (2 * n1 + 1) 0) a3 (a2 * ((x_X0_share n1 1 a3 γ))) γ) _ _ _ (lv_sub hl [0, 1, 2, 3] rfl) hH hS hv_n1 hk hq
      intro n1 a2 a3 γ H locs ls hl hH hS hv_n1 hk hq
      refine lv_iload_n hx hb dX5_enter_2 rfl (lv_at hl 3 rfl) ?_
      refine lv_iconst (v := 4) hx hb dX5_enter_3 (by decide) ?_
      refine lv_icmp_ge (tgt := 53) hx hb dX5_enter_4 (by decide) (fun c11 => ?_) (fun c11 => ?_)
      · have hk := ifp hk c11
        have hq := ifpe hq c11
        subst hq
        exact kr_v hC hr hH hS rfl dX5_enter_53
      · have hk := ifn hk c11
        have hq := ifne hq c11
        refine lv_aload_n hx hb dX5_enter_7 rfl (lv_at hl 0 rfl) ?_
        refine lv_aload_n hx hb dX5_enter_8 rfl (lv_at hl 1 rfl) ?_
        refine hp_getN (v := .ref (kA κ 2 (2 * n1))) (C := RX0) (T := TX0) (N := 10) hC inX0 hH hv_n1 rfl rfl 0 (by decide) nw_477 rfl rfl dX5_enter_9 ?_
        refine hp_getN (v := .int (gV γ 2 (2 * n1) 0)) (C := RX2) (T := TX2) (N := 4) hC inX2 hH (lv_c0 hv_n1) rfl rfl 0 (by decide) nw_462 rfl rfl dX5_enter_12 ?_
        refine lv_iload_n hx hb dX5_enter_15 rfl (lv_at hl 3 rfl) ?_
        refine lv_iload_n hx hb dX5_enter_16 rfl (lv_at hl 2 rfl) ?_
        refine lv_aload_n hx hb dX5_enter_17 rfl (lv_at hl 1 rfl) ?_
        refine lv_iconst (v := 0) hx hb dX5_enter_18 (by decide) ?_
        refine lv_iload_n hx hb dX5_enter_19 rfl (lv_at hl 3 rfl) ?_
        refine k_callV (C := RX0) (T := TX0) (N := 10) (rest := [.int a2, .int a3, .int (gV γ 2 (2 * n1) 0), .ref (kA κ 5 o)]) hC hl hH hS (c_X0_share l κ γ n1 0 a3 hv_n1) hv_n1 rfl rfl tw_670 tw_353 tw_354 tw_50 tw_355 hd_X0_share ⟨Nat.le_of_ble_eq_true rfl, Nat.le_of_ble_eq_true rfl⟩ rfl rfl rfl rfl (Nat.le_of_ble_eq_true rfl) dX5_enter_20 ⟨Nat.le_of_ble_eq_true rfl, Nat.le_of_ble_eq_true rfl⟩ rfl (fun H locs hH hS => ?_)
        refine lv_imul hx hb dX5_enter_23 ?_
        obtain ⟨hc12, hk⟩ := hk
        refine k_callV (C := RX5) (T := TX5) (N := 5) (rest := []) hC hl hH hS (c_X5_addTo l κ γ o (gV γ 2 (2 * n1) 0) a3 (a2 * ((x_X0_share n1 0 a3 γ))) hvo hc12) hvo rfl rfl tw_671 tw_673 tw_29 tw_49 tw_674 hd_X5_addTo ⟨Nat.le_of_ble_eq_true rfl, Nat.le_of_ble_eq_true rfl⟩ rfl rfl rfl rfl (Nat.le_of_ble_eq_true rfl) dX5_enter_24 ⟨Nat.le_of_ble_eq_true rfl, Nat.le_of_ble_eq_true rfl⟩ rfl (fun H locs hH hS => ?_)
        exact b_27 n1 a2 a3 (x_X5_addTo o (gV γ 2 (2 * n1) 0) a3 (a2 * ((x_X0_share n1 0 a3 γ))) γ) _ _ _ (lv_sub hl [0, 1, 2, 3] rfl) hH hS hv_n1 hk hq
  refine lv_iconst (v := 0) hx hb dX5_enter_0 (by decide) ?_
  refine lv_istore_n (lv' := [(3, .int 0), (0, .ref (kA κ 5 o)), (1, .ref (kA κ 0 z1)), (2, .int y2)]) hx hb dX5_enter_1 rfl hl (by decide) rfl (fun ls hl => ?_)
  exact b_2 fu z1 y2 0 γ _ _ _ (lv_sub hl [1, 2, 3, 0] rfl) hH hS hv_z1 hk hq
