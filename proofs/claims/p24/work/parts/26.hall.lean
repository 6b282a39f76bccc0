set_option maxRecDepth 20000 in
set_option maxHeartbeats 4000000 in
theorem c_X7_fencer (l : Launch) (hfl : l.stackTraces = false) (κ : KP) (γ : St)  : vx_Met l yX7_fencer [Cond.code yX7_fencer cX7_fencer 2 (some .int)] ({ frames := 6, cells := 1, slots := 6, locals := 90 } : Room) (va_Pc [.ref (kA κ 7 0)] (GG κ γ)) (QX κ (((x_X7_fencer γ)).2.2) (((x_X7_fencer γ)).1) (some (.int (((x_X7_fencer γ)).2.1)))) (XX κ (((x_X7_fencer γ)).2.2) (((x_X7_fencer γ)).1)) 1 6 (AA κ) := by
  generalize hq : x_X7_fencer γ = res
  refine vx_ofW (cc := cX7_fencer) (maxL := 2) (ret := (some .int)) (by decide) rfl ?_
  intro p e s m args below meth c s₁ B hml9 ht hv
  obtain ⟨rfl, hH, hK9, hB9, hX9, hZ9⟩ := hv
  have hC : CX κ cX7_fencer "Phrasehall" 2 p l s m ([.ref (kA κ 7 0)] : List Value).toArray meth c := ⟨B.exec, B.bytes, findClass_of_methodNamed B.named, fun w hw => tw_use (List.mem_filter.mp hw).2 (State.WarmedH.refl s) (hX9.1 w hw), hK9, hX9, hZ9, hB9, hml9, B.notSynchronized⟩
  obtain ⟨hx, hb, hown, hT, -, -, -, -, hml, -⟩ := id hC
  have hr := B.returns
  have hS : va_S (AA κ) s.heap s.heap [] := va_S.rf
  have hl := lv_entry ([.ref (kA κ 7 0)]) (n := 2) (Nat.le_of_ble_eq_true rfl)
  rw [lg_entry_eq]
  generalize (lg_sl ([.ref (kA κ 7 0)]) ++ List.replicate (2 - (lg_sl ([.ref (kA κ 7 0)])).length) Slot.unset).toArray = ls at hl ⊢
  have hl : lv_has ls 2 [(0, .ref (kA κ 7 0))] := hl
  refine lv_aload_n hx hb dX7_fencer_0 rfl (lv_at hl 0 rfl) ?_
  refine hp_get (v := .int (gV γ 7 0 5)) (C := RX7) (T := TX7) (N := 10) hC inX7 hH lv_7 rfl rfl 5 (by decide) tw_152 rfl rfl dX7_fencer_1 ?_
  refine lv_bipush (v := 12) hx hb dX7_fencer_4 (by decide) ?_
  refine lv_icmp_lt (tgt := 19) hx hb dX7_fencer_6 (by decide) (fun c3 => ?_) (fun c3 => ?_)
  · have hq := ifpe hq c3
    refine lv_aload_n hx hb dX7_fencer_19 rfl (lv_at hl 0 rfl) ?_
    refine hp_get (v := .int (gV γ 7 0 5)) (C := RX7) (T := TX7) (N := 10) hC inX7 hH lv_7 rfl rfl 5 (by decide) tw_152 rfl rfl dX7_fencer_20 ?_
    refine lv_istore_n (lv' := [(1, .int (gV γ 7 0 5)), (0, .ref (kA κ 7 0))]) hx hb dX7_fencer_23 rfl hl (by decide) rfl (fun ls hl => ?_)
    refine lv_aload_n hx hb dX7_fencer_24 rfl (lv_at hl 1 rfl) ?_
    refine lv_dup hx hb dX7_fencer_25 rfl ?_
    refine hp_get (v := .int (gV γ 7 0 5)) (C := RX7) (T := TX7) (N := 10) hC inX7 hH lv_7 rfl rfl 5 (by decide) tw_152 rfl rfl dX7_fencer_26 ?_
    refine lv_iconst (v := 1) hx hb dX7_fencer_29 (by decide) ?_
    refine lv_iadd hx hb dX7_fencer_30 ?_
    refine hp_put (v := .int ((gV γ 7 0 5) + 1)) (C := RX7) (T := TX7) (N := 10) hC inX7 tyX7_ok nmX7 hH lv_7 rfl hS rfl 5 (by decide) tw_152 rfl rfl rfl rfl (Nat.le_of_ble_eq_true rfl) (sV γ 7 0 5 ((gV γ 7 0 5) + 1)) (pe_7_5 _ _ 0 ((gV γ 7 0 5) + 1)) (fun _ _ _ h => cel_sV h) (WT_sV hH.wt) dX7_fencer_31 (fun H locs hH hS => ?_)
    refine lv_iload_n hx hb dX7_fencer_34 rfl (lv_at hl 0 rfl) ?_
    subst hq
    exact kx_of rfl (by decide) (by decide) (kr_i hC hr hH hS rfl rfl dX7_fencer_35)
  · have hq := ifne hq c3
    subst hq
    exact k_throw (en := 1) (text := "there are 12 fencers") hC hfl ht hl hH hS rfl (by decide) tw_182 tw_47 (List.mem_of_getElem? (i := 0) rfl) at_ISE ot_ISE fit_1 dX7_fencer_9 dX7_fencer_12 dX7_fencer_13 dX7_fencer_15 dX7_fencer_18 (Nat.le_of_ble_eq_true rfl) (Nat.le_of_ble_eq_true rfl) (Nat.le_of_ble_eq_true rfl) (Nat.le_of_ble_eq_true rfl) (Nat.le_of_ble_eq_true rfl) (Nat.le_of_ble_eq_true rfl)
set_option maxRecDepth 20000 in
set_option maxHeartbeats 4000000 in
theorem c_X7_isFencer (l : Launch) (κ : KP) (γ : St) (y1 : Int32)  : Met l yX7_isFencer [Cond.code yX7_isFencer cX7_isFencer 2 (some .boolean)] ({ frames := 0, cells := 0, slots := 0, locals := 0 } : Room) (va_Pc [.ref (kA κ 7 0), .int y1] (GG κ γ)) (QQ κ γ (some (.int ((x_X7_isFencer y1 γ))))) 0 0 (AA κ) := by
  generalize hq : x_X7_isFencer y1 γ = res
  refine Met.ofW (cc := cX7_isFencer) (maxL := 2) (ret := (some .boolean)) (by decide) rfl ?_
  intro p e s m args below meth c s₁ B hml9 hv
  obtain ⟨rfl, hH, hK9, hB9, hX9, hZ9⟩ := hv
  have hC : CX κ cX7_isFencer "Phrasehall" 2 p l s m ([.ref (kA κ 7 0), .int y1] : List Value).toArray meth c := ⟨B.exec, B.bytes, findClass_of_methodNamed B.named, fun w hw => tw_use (List.mem_filter.mp hw).2 (State.WarmedH.refl s) (hX9.1 w hw), hK9, hX9, hZ9, hB9, hml9, B.notSynchronized⟩
  obtain ⟨hx, hb, hown, hT, -, -, -, -, hml, -⟩ := id hC
  have hr := B.returns
  have hS : va_S (AA κ) s.heap s.heap [] := va_S.rf
  have hl := lv_entry ([.ref (kA κ 7 0), .int y1]) (n := 2) (Nat.le_of_ble_eq_true rfl)
  rw [lg_entry_eq]
  generalize (lg_sl ([.ref (kA κ 7 0), .int y1]) ++ List.replicate (2 - (lg_sl ([.ref (kA κ 7 0), .int y1])).length) Slot.unset).toArray = ls at hl ⊢
  have hl : lv_has ls 2 [(0, .ref (kA κ 7 0)), (1, .int y1)] := hl
  have b_16 : ∀ (H : Heap) (locs : List Loc) (ls : Array Slot), lv_has ls 2 [] → HR κ γ H → va_S (AA κ) s.heap H locs → x_X7_isFencer_16 γ = res → W p l e (headSpec [Cond.code yX7_isFencer cX7_isFencer 2 (some .boolean)] ({ frames := 0, cells := 0, slots := 0, locals := 0 } : Room)).room s m ([.ref (kA κ 7 0), .int y1] : List Value).toArray below meth c H locs 0 0 (MQ below (QQ κ γ (some (.int res))) ([.ref (kA κ 7 0), .int y1] : List Value).toArray s 0 0 (AA κ)) (F0 m 16 ls []) := by
    intro  H locs ls hl hH hS hq
    refine lv_iconst (v := 0) hx hb dX7_isFencer_16 (by decide) ?_
    subst hq
    exact kr_z hC hr rfl hH hS rfl rfl dX7_isFencer_17
  refine lv_iload_n hx hb dX7_isFencer_0 rfl (lv_at hl 1 rfl) ?_
  refine lv_if_lt (tgt := 16) hx hb dX7_isFencer_1 (by decide) (fun c7 => ?_) (fun c7 => ?_)
  · have hq := ifpe hq c7
    exact b_16 _ _ _ (lv_sub hl [] rfl) hH hS hq
  · have hq := ifne hq c7
    refine lv_iload_n hx hb dX7_isFencer_4 rfl (lv_at hl 1 rfl) ?_
    refine lv_aload_n hx hb dX7_isFencer_5 rfl (lv_at hl 0 rfl) ?_
    refine hp_get (v := .int (gV γ 7 0 5)) (C := RX7) (T := TX7) (N := 10) hC inX7 hH lv_7 rfl rfl 5 (by decide) tw_152 rfl rfl dX7_isFencer_6 ?_
    refine lv_icmp_ge (tgt := 16) hx hb dX7_isFencer_9 (by decide) (fun c8 => ?_) (fun c8 => ?_)
    · have hq := ifpe hq c8
      exact b_16 _ _ _ (lv_sub hl [] rfl) hH hS hq
    · have hq := ifne hq c8
      refine lv_iconst (v := 1) hx hb dX7_isFencer_12 (by decide) ?_
      refine lv_goto (tgt := 17) hx hb dX7_isFencer_13 (by decide) ?_
      subst hq
      exact kr_z hC hr rfl hH hS rfl rfl dX7_isFencer_17
set_option maxRecDepth 20000 in
set_option maxHeartbeats 4000000 in
theorem c_X7_isWithin (l : Launch) (κ : KP) (γ : St) (y0 : Int32) (y1 : Int32) (y2 : Int32)  : Met l yX7_isWithin [Cond.code yX7_isWithin cX7_isWithin 3 (some .boolean)] ({ frames := 0, cells := 0, slots := 0, locals := 0 } : Room) (va_Pc [.int y0, .int y1, .int y2] (GG κ γ)) (QQ κ γ (some (.int ((x_X7_isWithin y0 y1 y2 γ))))) 0 0 (AA κ) := by
  generalize hq : x_X7_isWithin y0 y1 y2 γ = res
  refine Met.ofW (cc := cX7_isWithin) (maxL := 3) (ret := (some .boolean)) (by decide) rfl ?_
  intro p e s m args below meth c s₁ B hml9 hv
  obtain ⟨rfl, hH, hK9, hB9, hX9, hZ9⟩ := hv
  have hC : CX κ cX7_isWithin "Phrasehall" 3 p l s m ([.int y0, .int y1, .int y2] : List Value).toArray meth c := ⟨B.exec, B.bytes, findClass_of_methodNamed B.named, fun w hw => tw_use (List.mem_filter.mp hw).2 (State.WarmedH.refl s) (hX9.1 w hw), hK9, hX9, hZ9, hB9, hml9, B.notSynchronized⟩
  obtain ⟨hx, hb, hown, hT, -, -, -, -, hml, -⟩ := id hC
  have hr := B.returns
  have hS : va_S (AA κ) s.heap s.heap [] := va_S.rf
  have hl := lv_entry ([.int y0, .int y1, .int y2]) (n := 3) (Nat.le_of_ble_eq_true rfl)
  rw [lg_entry_eq]
  generalize (lg_sl ([.int y0, .int y1, .int y2]) ++ List.replicate (3 - (lg_sl ([.int y0, .int y1, .int y2])).length) Slot.unset).toArray = ls at hl ⊢
  have hl : lv_has ls 3 [(0, .int y0), (1, .int y1), (2, .int y2)] := hl
  have b_14 : ∀ (H : Heap) (locs : List Loc) (ls : Array Slot), lv_has ls 3 [] → HR κ γ H → va_S (AA κ) s.heap H locs → x_X7_isWithin_14 γ = res → W p l e (headSpec [Cond.code yX7_isWithin cX7_isWithin 3 (some .boolean)] ({ frames := 0, cells := 0, slots := 0, locals := 0 } : Room)).room s m ([.int y0, .int y1, .int y2] : List Value).toArray below meth c H locs 0 0 (MQ below (QQ κ γ (some (.int res))) ([.int y0, .int y1, .int y2] : List Value).toArray s 0 0 (AA κ)) (F0 m 14 ls []) := by
    intro  H locs ls hl hH hS hq
    refine lv_iconst (v := 0) hx hb dX7_isWithin_14 (by decide) ?_
    subst hq
    exact kr_z hC hr rfl hH hS rfl rfl dX7_isWithin_15
  refine lv_iload_n hx hb dX7_isWithin_0 rfl (lv_at hl 0 rfl) ?_
  refine lv_iload_n hx hb dX7_isWithin_1 rfl (lv_at hl 1 rfl) ?_
  refine lv_icmp_lt (tgt := 14) hx hb dX7_isWithin_2 (by decide) (fun c7 => ?_) (fun c7 => ?_)
  · have hq := ifpe hq c7
    exact b_14 _ _ _ (lv_sub hl [] rfl) hH hS hq
  · have hq := ifne hq c7
    refine lv_iload_n hx hb dX7_isWithin_5 rfl (lv_at hl 0 rfl) ?_
    refine lv_iload_n hx hb dX7_isWithin_6 rfl (lv_at hl 2 rfl) ?_
    refine lv_icmp_gt (tgt := 14) hx hb dX7_isWithin_7 (by decide) (fun c8 => ?_) (fun c8 => ?_)
    · have hq := ifpe hq c8
      exact b_14 _ _ _ (lv_sub hl [] rfl) hH hS hq
    · have hq := ifne hq c8
      refine lv_iconst (v := 1) hx hb dX7_isWithin_10 (by decide) ?_
      refine lv_goto (tgt := 15) hx hb dX7_isWithin_11 (by decide) ?_
      subst hq
      exact kr_z hC hr rfl hH hS rfl rfl dX7_isWithin_15
set_option maxRecDepth 20000 in
set_option maxHeartbeats 4000000 in
theorem c_X7_poolOf (l : Launch) (κ : KP) (γ : St) (y1 : Int32) (hk : ok_X7_poolOf y1 γ) : Met l yX7_poolOf [Cond.code yX7_poolOf cX7_poolOf 2 (some (.object "Phrasehall$Pool"))] ({ frames := 0, cells := 0, slots := 0, locals := 0 } : Room) (va_Pc [.ref (kA κ 7 0), .int y1] (GG κ γ)) (QQ κ γ (some (va_rf (((x_X7_poolOf y1 γ)).map (kA κ 5))))) 0 0 (AA κ) := by
  generalize hq : x_X7_poolOf y1 γ = res
  refine Met.ofW (cc := cX7_poolOf) (maxL := 2) (ret := (some (.object "Phrasehall$Pool"))) (by decide) rfl ?_
  intro p e s m args below meth c s₁ B hml9 hv
  obtain ⟨rfl, hH, hK9, hB9, hX9, hZ9⟩ := hv
  have hC : CX κ cX7_poolOf "Phrasehall" 2 p l s m ([.ref (kA κ 7 0), .int y1] : List Value).toArray meth c := ⟨B.exec, B.bytes, findClass_of_methodNamed B.named, fun w hw => tw_use (List.mem_filter.mp hw).2 (State.WarmedH.refl s) (hX9.1 w hw), hK9, hX9, hZ9, hB9, hml9, B.notSynchronized⟩
  obtain ⟨hx, hb, hown, hT, -, -, -, -, hml, -⟩ := id hC
  have hr := B.returns
  have hS : va_S (AA κ) s.heap s.heap [] := va_S.rf
  have hl := lv_entry ([.ref (kA κ 7 0), .int y1]) (n := 2) (Nat.le_of_ble_eq_true rfl)
  rw [lg_entry_eq]
  generalize (lg_sl ([.ref (kA κ 7 0), .int y1]) ++ List.replicate (2 - (lg_sl ([.ref (kA κ 7 0), .int y1])).length) Slot.unset).toArray = ls at hl ⊢
  have hl : lv_has ls 2 [(0, .ref (kA κ 7 0)), (1, .int y1)] := hl
  have b_30 : ∀ (H : Heap) (locs : List Loc) (ls : Array Slot), lv_has ls 2 [] → HR κ γ H → va_S (AA κ) s.heap H locs → ok_X7_poolOf_30 γ → x_X7_poolOf_30 γ = res → W p l e (headSpec [Cond.code yX7_poolOf cX7_poolOf 2 (some (.object "Phrasehall$Pool"))] ({ frames := 0, cells := 0, slots := 0, locals := 0 } : Room)).room s m ([.ref (kA κ 7 0), .int y1] : List Value).toArray below meth c H locs 0 0 (MQ below (QQ κ γ (some (va_rf ((res).map (kA κ 5))))) ([.ref (kA κ 7 0), .int y1] : List Value).toArray s 0 0 (AA κ)) (F0 m 30 ls []) := by
    intro  H locs ls hl hH hS hk hq
    refine lv_null hx hb dX7_poolOf_30 ?_
    subst hq
    exact kr_a hC hr (Or.inl rfl) hH hS rfl rfl dX7_poolOf_31
  refine lv_iload_n hx hb dX7_poolOf_0 rfl (lv_at hl 1 rfl) ?_
  refine lv_if_lt (tgt := 30) hx hb dX7_poolOf_1 (by decide) (fun c16 => ?_) (fun c16 => ?_)
  · have hk := ifp hk c16
    have hq := ifpe hq c16
    exact b_30 _ _ _ (lv_sub hl [] rfl) hH hS hk hq
  · have hk := ifn hk c16
    have hq := ifne hq c16
    refine lv_iload_n hx hb dX7_poolOf_4 rfl (lv_at hl 1 rfl) ?_
    refine lv_aload_n hx hb dX7_poolOf_5 rfl (lv_at hl 0 rfl) ?_
    refine hp_get (v := .int (gV γ 7 0 7)) (C := RX7) (T := TX7) (N := 10) hC inX7 hH lv_7 rfl rfl 7 (by decide) tw_154 rfl rfl dX7_poolOf_6 ?_
    refine lv_icmp_ge (tgt := 30) hx hb dX7_poolOf_9 (by decide) (fun c17 => ?_) (fun c17 => ?_)
    · have hk := ifp hk c17
      have hq := ifpe hq c17
      exact b_30 _ _ _ (lv_sub hl [] rfl) hH hS hk hq
    · have hk := ifn hk c17
      have hq := ifne hq c17
      refine lv_iload_n hx hb dX7_poolOf_12 rfl (lv_at hl 1 rfl) ?_
      refine lv_aload_n hx hb dX7_poolOf_13 rfl (lv_at hl 0 rfl) ?_
      refine hp_get (v := .ref (kA κ 10 0)) (C := RX7) (T := TX7) (N := 10) hC inX7 hH lv_7 rfl rfl 1 (by decide) tw_148 rfl rfl dX7_poolOf_14 ?_
      refine hp_alen (v := 6) (t0 := 3) hC rfl hH lv_10 rfl rfl dX7_poolOf_17 ?_
      refine lv_icmp_ge (tgt := 30) hx hb dX7_poolOf_18 (by decide) (fun c18 => ?_) (fun c18 => ?_)
      · have hk := ifp hk c18
        have hq := ifpe hq c18
        exact b_30 _ _ _ (lv_sub hl [] rfl) hH hS hk hq
      · have hk := ifn hk c18
        have hq := ifne hq c18
        refine lv_aload_n hx hb dX7_poolOf_21 rfl (lv_at hl 0 rfl) ?_
        refine hp_get (v := .ref (kA κ 10 0)) (C := RX7) (T := TX7) (N := 10) hC inX7 hH lv_7 rfl rfl 1 (by decide) tw_148 rfl rfl dX7_poolOf_22 ?_
        refine lv_iload_n hx hb dX7_poolOf_25 rfl (lv_at hl 1 rfl) ?_
        obtain ⟨hi19, hk⟩ := hk
        refine hp_qld (v := va_rf ((gR γ 10 ((y1 : Int32).toNatClampNeg)).map (kA κ 5))) (t0 := 3) (cb := 5) hC rfl hH lv_10 rfl rfl hi19 dX7_poolOf_26 ?_
        have hw20 : ∀ b : Nat, gR γ 10 ((y1 : Int32).toNatClampNeg) = some b → lv κ 5 b := fun b hb => hH.wt 10 ((y1 : Int32).toNatClampNeg) b hb
        refine lv_goto (tgt := 31) hx hb dX7_poolOf_27 (by decide) ?_
        subst hq
        exact kr_a hC hr (va_rf_or _) hH hS rfl rfl dX7_poolOf_31
set_option maxRecDepth 20000 in
set_option maxHeartbeats 4000000 in
theorem c_X7_putOnPiste (l : Launch) (κ : KP) (γ : St) (z1 : Nat) (hv_z1 : lv κ 0 z1) (hk : ok_X7_putOnPiste z1 γ) : Met l yX7_putOnPiste [Cond.code yX7_putOnPiste cX7_putOnPiste 3 (some .int)] ({ frames := 0, cells := 0, slots := 0, locals := 0 } : Room) (va_Pc [.ref (kA κ 7 0), .ref (kA κ 0 z1)] (GG κ γ)) (QQ κ (((x_X7_putOnPiste z1 γ)).2) (some (.int (((x_X7_putOnPiste z1 γ)).1)))) 0 0 (AA κ) := by
  generalize hq : x_X7_putOnPiste z1 γ = res
  refine Met.ofW (cc := cX7_putOnPiste) (maxL := 3) (ret := (some .int)) (by decide) rfl ?_
  intro p e s m args below meth c s₁ B hml9 hv
  obtain ⟨rfl, hH, hK9, hB9, hX9, hZ9⟩ := hv
  have hC : CX κ cX7_putOnPiste "Phrasehall" 3 p l s m ([.ref (kA κ 7 0), .ref (kA κ 0 z1)] : List Value).toArray meth c := ⟨B.exec, B.bytes, findClass_of_methodNamed B.named, fun w hw => tw_use (List.mem_filter.mp hw).2 (State.WarmedH.refl s) (hX9.1 w hw), hK9, hX9, hZ9, hB9, hml9, B.notSynchronized⟩
  obtain ⟨hx, hb, hown, hT, -, -, -, -, hml, -⟩ := id hC
  have hr := B.returns
  have hS : va_S (AA κ) s.heap s.heap [] := va_S.rf
  have hl := lv_entry ([.ref (kA κ 7 0), .ref (kA κ 0 z1)]) (n := 3) (Nat.le_of_ble_eq_true rfl)
  rw [lg_entry_eq]
  generalize (lg_sl ([.ref (kA κ 7 0), .ref (kA κ 0 z1)]) ++ List.replicate (3 - (lg_sl ([.ref (kA κ 7 0), .ref (kA κ 0 z1)])).length) Slot.unset).toArray = ls at hl ⊢
  have hl : lv_has ls 3 [(0, .ref (kA κ 7 0)), (1, .ref (kA κ 0 z1))] := hl
  have b_36 : ∀ (a2 : Int32) (γ : St) (H : Heap) (locs : List Loc) (ls : Array Slot), lv_has ls 3 [(2, .int a2)] → HR κ γ H → va_S (AA κ) s.heap H locs → ok_X7_putOnPiste_36 a2 γ → x_X7_putOnPiste_36 a2 γ = res → W p l e (headSpec [Cond.code yX7_putOnPiste cX7_putOnPiste 3 (some .int)] ({ frames := 0, cells := 0, slots := 0, locals := 0 } : Room)).room s m ([.ref (kA κ 7 0), .ref (kA κ 0 z1)] : List Value).toArray below meth c H locs 0 0 (MQ below (QQ κ (res.2) (some (.int res.1))) ([.ref (kA κ 7 0), .ref (kA κ 0 z1)] : List Value).toArray s 0 0 (AA κ)) (F0 m 36 ls []) := by
    intro a2 γ H locs ls hl hH hS hk hq
    refine lv_iload_n hx hb dX7_putOnPiste_36 rfl (lv_at hl 0 rfl) ?_
    subst hq
    exact kr_i hC hr hH hS rfl rfl dX7_putOnPiste_37
  refine lv_aload_n hx hb dX7_putOnPiste_0 rfl (lv_at hl 0 rfl) ?_
  refine hp_get (v := .int (gV γ 7 0 6)) (C := RX7) (T := TX7) (N := 10) hC inX7 hH lv_7 rfl rfl 6 (by decide) tw_153 rfl rfl dX7_putOnPiste_1 ?_
  refine lv_istore_n (lv' := [(2, .int (gV γ 7 0 6)), (0, .ref (kA κ 7 0)), (1, .ref (kA κ 0 z1))]) hx hb dX7_putOnPiste_4 rfl hl (by decide) rfl (fun ls hl => ?_)
  refine lv_iload_n hx hb dX7_putOnPiste_5 rfl (lv_at hl 0 rfl) ?_
  refine lv_aload_n hx hb dX7_putOnPiste_6 rfl (lv_at hl 1 rfl) ?_
  refine hp_get (v := .ref (kA κ 9 0)) (C := RX7) (T := TX7) (N := 10) hC inX7 hH lv_7 rfl rfl 0 (by decide) tw_147 rfl rfl dX7_putOnPiste_7 ?_
  refine hp_alen (v := 80) (t0 := 2) hC rfl hH lv_9 rfl rfl dX7_putOnPiste_10 ?_
  refine lv_icmp_ge (tgt := 36) hx hb dX7_putOnPiste_11 (by decide) (fun c7 => ?_) (fun c7 => ?_)
  · have hk := ifp hk c7
    have hq := ifpe hq c7
    exact b_36 (gV γ 7 0 6) γ _ _ _ (lv_sub hl [0] rfl) hH hS hk hq
  · have hk := ifn hk c7
    have hq := ifne hq c7
    refine lv_aload_n hx hb dX7_putOnPiste_14 rfl (lv_at hl 1 rfl) ?_
    refine hp_get (v := .ref (kA κ 9 0)) (C := RX7) (T := TX7) (N := 10) hC inX7 hH lv_7 rfl rfl 0 (by decide) tw_147 rfl rfl dX7_putOnPiste_15 ?_
    refine lv_iload_n hx hb dX7_putOnPiste_18 rfl (lv_at hl 0 rfl) ?_
    refine lv_aload_n hx hb dX7_putOnPiste_19 rfl (lv_at hl 2 rfl) ?_
    obtain ⟨hi8, hk⟩ := hk
    refine hp_qst (t0 := 2) (cb := 0) hC rfl rfl hH lv_9 (lv_u9) hv_z1 rfl hv_z1 (fun _ => rfl) hS hi8 dX7_putOnPiste_20 (fun H locs hH hS => ?_)
    refine lv_aload_n hx hb dX7_putOnPiste_21 rfl (lv_at hl 1 rfl) ?_
    refine lv_dup hx hb dX7_putOnPiste_22 rfl ?_
    refine hp_get (v := .int (gV γ 7 0 6)) (C := RX7) (T := TX7) (N := 10) hC inX7 hH lv_7 rfl rfl 6 (by decide) tw_153 rfl (by simp [gV_sV, gV_sL, gV_sR, gL_sV, gL_sL, gL_sR, gR_sV, gR_sL, gR_sR]) dX7_putOnPiste_23 ?_
    refine lv_iconst (v := 1) hx hb dX7_putOnPiste_26 (by decide) ?_
    refine lv_iadd hx hb dX7_putOnPiste_27 ?_
    refine hp_put (v := .int ((gV γ 7 0 6) + 1)) (C := RX7) (T := TX7) (N := 10) hC inX7 tyX7_ok nmX7 hH lv_7 rfl hS rfl 6 (by decide) tw_153 rfl rfl rfl rfl (Nat.le_of_ble_eq_true rfl) (sV (sR γ 9 ((gV γ 7 0 6 : Int32).toNatClampNeg) ((some z1))) 7 0 6 ((gV γ 7 0 6) + 1)) (pe_7_6 _ _ 0 ((gV γ 7 0 6) + 1)) (fun _ _ _ h => cel_sV h) (WT_sV hH.wt) dX7_putOnPiste_28 (fun H locs hH hS => ?_)
    refine lv_aload_n hx hb dX7_putOnPiste_31 rfl (lv_at hl 1 rfl) ?_
    refine lv_aload_n hx hb dX7_putOnPiste_32 rfl (lv_at hl 2 rfl) ?_
    refine hp_put (v := .ref (kA κ 0 z1)) (C := RX7) (T := TX7) (N := 10) hC inX7 tyX7_ok nmX7 hH lv_7 rfl hS rfl 8 (by decide) tw_155 rfl rfl rfl rfl (Nat.le_of_ble_eq_true rfl) (sR (sV (sR γ 9 ((gV γ 7 0 6 : Int32).toNatClampNeg) ((some z1))) 7 0 6 ((gV γ 7 0 6) + 1)) 7 8 ((some z1))) (pq_7_8 _ _ (some z1)) (fun c9 n9 hl9 h => cel_sR (fun q => h ⟨q, lv_u7 n9 (by rw [← q]; exact hl9)⟩)) (WT_sR hH.wt (fun b hb => by cases hb; exact hv_z1)) dX7_putOnPiste_33 (fun H locs hH hS => ?_)
    exact b_36 (gV γ 7 0 6) (sR (sV (sR γ 9 ((gV γ 7 0 6 : Int32).toNatClampNeg) ((some z1))) 7 0 6 ((gV γ 7 0 6) + 1)) 7 8 ((some z1))) _ _ _ (lv_sub hl [0] rfl) hH hS hk hq
set_option maxRecDepth 20000 in
set_option maxHeartbeats 4000000 in
theorem c_X7_checkRoomInPhrase (l : Launch) (hfl : l.stackTraces = false) (κ : KP) (γ : St) (y1 : Int32) (hk : ok_X7_checkRoomInPhrase y1 γ) : vx_Met l yX7_checkRoomInPhrase [Cond.code yX7_checkRoomInPhrase cX7_checkRoomInPhrase 2 none] ({ frames := 6, cells := 1, slots := 6, locals := 90 } : Room) (va_Pc [.ref (kA κ 7 0), .int y1] (GG κ γ)) (QX κ (((x_X7_checkRoomInPhrase y1 γ)).2) (((x_X7_checkRoomInPhrase y1 γ)).1) (none)) (XX κ (((x_X7_checkRoomInPhrase y1 γ)).2) (((x_X7_checkRoomInPhrase y1 γ)).1)) 1 6 (AA κ) := by
  generalize hq : x_X7_checkRoomInPhrase y1 γ = res
  refine vx_ofW (cc := cX7_checkRoomInPhrase) (maxL := 2) (ret := none) (by decide) rfl ?_
  intro p e s m args below meth c s₁ B hml9 ht hv
  obtain ⟨rfl, hH, hK9, hB9, hX9, hZ9⟩ := hv
  have hC : CX κ cX7_checkRoomInPhrase "Phrasehall" 2 p l s m ([.ref (kA κ 7 0), .int y1] : List Value).toArray meth c := ⟨B.exec, B.bytes, findClass_of_methodNamed B.named, fun w hw => tw_use (List.mem_filter.mp hw).2 (State.WarmedH.refl s) (hX9.1 w hw), hK9, hX9, hZ9, hB9, hml9, B.notSynchronized⟩
  obtain ⟨hx, hb, hown, hT, -, -, -, -, hml, -⟩ := id hC
  have hr := B.returns
  have hS : va_S (AA κ) s.heap s.heap [] := va_S.rf
  have hl := lv_entry ([.ref (kA κ 7 0), .int y1]) (n := 2) (Nat.le_of_ble_eq_true rfl)
  rw [lg_entry_eq]
  generalize (lg_sl ([.ref (kA κ 7 0), .int y1]) ++ List.replicate (2 - (lg_sl ([.ref (kA κ 7 0), .int y1])).length) Slot.unset).toArray = ls at hl ⊢
  have hl : lv_has ls 2 [(0, .ref (kA κ 7 0)), (1, .int y1)] := hl
  have b_28 : ∀ (γ : St) (H : Heap) (locs : List Loc) (ls : Array Slot), lv_has ls 2 [] → HR κ γ H → va_S (AA κ) s.heap H locs → ok_X7_checkRoomInPhrase_28 γ → x_X7_checkRoomInPhrase_28 γ = res → W p l e (headSpec [Cond.code yX7_checkRoomInPhrase cX7_checkRoomInPhrase 2 none] ({ frames := 6, cells := 1, slots := 6, locals := 90 } : Room)).room s m ([.ref (kA κ 7 0), .int y1] : List Value).toArray below meth c H locs 0 0 (vx_MQ below (QX κ (res.2) (res.1) (none)) (XX κ (res.2) (res.1)) ([.ref (kA κ 7 0), .int y1] : List Value).toArray s 1 6 (AA κ)) (F0 m 28 ls []) := by
    intro  γ H locs ls hl hH hS hk hq
    subst hq
    exact k_throwW (en := 1) (text := "no bout, time runs back, or the phrase is full") hC hfl ht hl hH hS rfl (by decide) tw_182 tw_47 (List.mem_of_getElem? (i := 13) rfl) at_ISE ot_ISE fit_1 dX7_checkRoomInPhrase_28 dX7_checkRoomInPhrase_31 dX7_checkRoomInPhrase_32 dX7_checkRoomInPhrase_35 dX7_checkRoomInPhrase_38 (Nat.le_of_ble_eq_true rfl) (Nat.le_of_ble_eq_true rfl) (Nat.le_of_ble_eq_true rfl) (Nat.le_of_ble_eq_true rfl) (Nat.le_of_ble_eq_true rfl) (Nat.le_of_ble_eq_true rfl)
  refine lv_aload_n hx hb dX7_checkRoomInPhrase_0 rfl (lv_at hl 0 rfl) ?_
  refine hp_get (v := va_rf ((gR γ 7 8).map (kA κ 0))) (C := RX7) (T := TX7) (N := 10) hC inX7 hH lv_7 rfl rfl 8 (by decide) tw_155 rfl rfl dX7_checkRoomInPhrase_1 ?_
  have hw22 : ∀ b : Nat, gR γ 7 8 = some b → lv κ 0 b := fun b hb => hH.wt 7 8 b hb
  rcases ho24 : gR γ 7 8 with _ | b23
  · have hk := oc_n hk ho24
    have hq := oc_ne hq ho24
    have hl : lv_has ls 2 [(0, .ref (kA κ 7 0)), (1, .int y1)] := by first | exact hl | (rw [ho24] at hl; exact hl)
    refine lv_ifnullN (tgt := 28) hx hb dX7_checkRoomInPhrase_4 (by decide) ?_
    exact b_28 γ _ _ _ (lv_sub hl [] rfl) hH hS hk hq
  · have hk := oc_s hk ho24
    have hq := oc_se hq ho24
    have hvb25 : lv κ 0 b23 := hw22 b23 ho24
    have hl : lv_has ls 2 [(0, .ref (kA κ 7 0)), (1, .int y1)] := by first | exact hl | (rw [ho24] at hl; exact hl)
    refine lv_ifnull hx hb dX7_checkRoomInPhrase_4 ?_
    refine lv_iload_n hx hb dX7_checkRoomInPhrase_7 rfl (lv_at hl 1 rfl) ?_
    refine lv_aload_n hx hb dX7_checkRoomInPhrase_8 rfl (lv_at hl 0 rfl) ?_
    refine hp_get (v := .ref (kA κ 4 0)) (C := RX7) (T := TX7) (N := 10) hC inX7 hH lv_7 rfl rfl 2 (by decide) tw_149 rfl rfl dX7_checkRoomInPhrase_9 ?_
    obtain ⟨hc26, hk⟩ := hk
    refine k_callV (C := RX4) (T := TX4) (N := 7) (rest := [.int y1]) hC hl hH hS (c_X4_lastTime l κ γ hc26) lv_4 rfl rfl tw_530 tw_531 tw_532 tw_39 tw_533 hd_X4_lastTime ⟨Nat.le_of_ble_eq_true rfl, Nat.le_of_ble_eq_true rfl⟩ rfl rfl rfl rfl (Nat.le_of_ble_eq_true rfl) dX7_checkRoomInPhrase_12 ⟨Nat.le_of_ble_eq_true rfl, Nat.le_of_ble_eq_true rfl⟩ rfl (fun H locs hH hS => ?_)
    refine lv_icmp_lt (tgt := 28) hx hb dX7_checkRoomInPhrase_15 (by decide) (fun c27 => ?_) (fun c27 => ?_)
    · have hk := ifp hk c27
      have hq := ifpe hq c27
      exact b_28 γ _ _ _ (lv_sub hl [] rfl) hH hS hk hq
    · have hk := ifn hk c27
      have hq := ifne hq c27
      refine lv_aload_n hx hb dX7_checkRoomInPhrase_18 rfl (lv_at hl 0 rfl) ?_
      refine hp_get (v := .ref (kA κ 4 0)) (C := RX7) (T := TX7) (N := 10) hC inX7 hH lv_7 rfl rfl 2 (by decide) tw_149 rfl rfl dX7_checkRoomInPhrase_19 ?_
      refine k_callV (C := RX4) (T := TX4) (N := 7) (rest := []) hC hl hH hS (c_X4_isFull l κ γ) lv_4 rfl rfl tw_542 tw_543 tw_544 tw_39 tw_545 hd_X4_isFull ⟨Nat.le_of_ble_eq_true rfl, Nat.le_of_ble_eq_true rfl⟩ rfl rfl rfl rfl (Nat.le_of_ble_eq_true rfl) dX7_checkRoomInPhrase_22 ⟨Nat.le_of_ble_eq_true rfl, Nat.le_of_ble_eq_true rfl⟩ rfl (fun H locs hH hS => ?_)
      refine lv_if_eq (tgt := 39) hx hb dX7_checkRoomInPhrase_25 (by decide) (fun c28 => ?_) (fun c28 => ?_)
      · have hk := ifp hk c28
        have hq := ifpe hq c28
        subst hq
        exact kx_of rfl (by decide) (by decide) (kr_v hC hr hH hS rfl dX7_checkRoomInPhrase_39)
      · have hk := ifn hk c28
        have hq := ifne hq c28
        exact b_28 γ _ _ _ (lv_sub hl [] rfl) hH hS hk hq
set_option maxRecDepth 20000 in
set_option maxHeartbeats 4000000 in
theorem c_X7_isSide (l : Launch) (κ : KP) (γ : St) (y0 : Int32)  : Met l yX7_isSide [Cond.code yX7_isSide cX7_isSide 1 (some .boolean)] ({ frames := 0, cells := 0, slots := 0, locals := 0 } : Room) (va_Pc [.int y0] (GG κ γ)) (QQ κ γ (some (.int ((x_X7_isSide y0 γ))))) 0 0 (AA κ) := by
  generalize hq : x_X7_isSide y0 γ = res
  refine Met.ofW (cc := cX7_isSide) (maxL := 1) (ret := (some .boolean)) (by decide) rfl ?_
  intro p e s m args below meth c s₁ B hml9 hv
  obtain ⟨rfl, hH, hK9, hB9, hX9, hZ9⟩ := hv
  have hC : CX κ cX7_isSide "Phrasehall" 1 p l s m ([.int y0] : List Value).toArray meth c := ⟨B.exec, B.bytes, findClass_of_methodNamed B.named, fun w hw => tw_use (List.mem_filter.mp hw).2 (State.WarmedH.refl s) (hX9.1 w hw), hK9, hX9, hZ9, hB9, hml9, B.notSynchronized⟩
  obtain ⟨hx, hb, hown, hT, -, -, -, -, hml, -⟩ := id hC
  have hr := B.returns
  have hS : va_S (AA κ) s.heap s.heap [] := va_S.rf
  have hl := lv_entry ([.int y0]) (n := 1) (Nat.le_of_ble_eq_true rfl)
  rw [lg_entry_eq]
  generalize (lg_sl ([.int y0]) ++ List.replicate (1 - (lg_sl ([.int y0])).length) Slot.unset).toArray = ls at hl ⊢
  have hl : lv_has ls 1 [(0, .int y0)] := hl
  have b_9 : ∀ (H : Heap) (locs : List Loc) (ls : Array Slot), lv_has ls 1 [] → HR κ γ H → va_S (AA κ) s.heap H locs → x_X7_isSide_9 γ = res → W p l e (headSpec [Cond.code yX7_isSide cX7_isSide 1 (some .boolean)] ({ frames := 0, cells := 0, slots := 0, locals := 0 } : Room)).room s m ([.int y0] : List Value).toArray below meth c H locs 0 0 (MQ below (QQ κ γ (some (.int res))) ([.int y0] : List Value).toArray s 0 0 (AA κ)) (F0 m 9 ls []) := by
    intro  H locs ls hl hH hS hq
    refine lv_iconst (v := 1) hx hb dX7_isSide_9 (by decide) ?_
    refine lv_goto (tgt := 14) hx hb dX7_isSide_10 (by decide) ?_
    subst hq
    exact kr_z hC hr rfl hH hS rfl rfl dX7_isSide_14
  refine lv_iload_n hx hb dX7_isSide_0 rfl (lv_at hl 0 rfl) ?_
  refine lv_if_eq (tgt := 9) hx hb dX7_isSide_1 (by decide) (fun c7 => ?_) (fun c7 => ?_)
  · have hq := ifpe hq c7
    exact b_9 _ _ _ (lv_sub hl [] rfl) hH hS hq
  · have hq := ifne hq c7
    refine lv_iload_n hx hb dX7_isSide_4 rfl (lv_at hl 0 rfl) ?_
    refine lv_iconst (v := 1) hx hb dX7_isSide_5 (by decide) ?_
    refine lv_icmp_ne (tgt := 13) hx hb dX7_isSide_6 (by decide) (fun c8 => ?_) (fun c8 => ?_)
    · have hq := ifne hq c8
      refine lv_iconst (v := 0) hx hb dX7_isSide_13 (by decide) ?_
      subst hq
      exact kr_z hC hr rfl hH hS rfl rfl dX7_isSide_14
    · have hq := ifpe hq c8
      exact b_9 _ _ _ (lv_sub hl [] rfl) hH hS hq
set_option maxRecDepth 20000 in
set_option maxHeartbeats 4000000 in
theorem c_X7_act (l : Launch) (hfl : l.stackTraces = false) (κ : KP) (γ : St) (y1 : Int32) (y2 : Int32) (y3 : Int32) (hk : ok_X7_act y1 y2 y3 γ) : vx_Met l yX7_act [Cond.code yX7_act cX7_act 4 (some .int)] ({ frames := 7, cells := 1, slots := 6, locals := 111 } : Room) (va_Pc [.ref (kA κ 7 0), .int y1, .int y2, .int y3] (GG κ γ)) (QX κ (((x_X7_act y1 y2 y3 γ)).2.2) (((x_X7_act y1 y2 y3 γ)).1) (some (.int (((x_X7_act y1 y2 y3 γ)).2.1)))) (XX κ (((x_X7_act y1 y2 y3 γ)).2.2) (((x_X7_act y1 y2 y3 γ)).1)) 1 6 (AA κ) := by
  generalize hq : x_X7_act y1 y2 y3 γ = res
  refine vx_ofW (cc := cX7_act) (maxL := 4) (ret := (some .int)) (by decide) rfl ?_
  intro p e s m args below meth c s₁ B hml9 ht hv
  obtain ⟨rfl, hH, hK9, hB9, hX9, hZ9⟩ := hv
  have hC : CX κ cX7_act "Phrasehall" 4 p l s m ([.ref (kA κ 7 0), .int y1, .int y2, .int y3] : List Value).toArray meth c := ⟨B.exec, B.bytes, findClass_of_methodNamed B.named, fun w hw => tw_use (List.mem_filter.mp hw).2 (State.WarmedH.refl s) (hX9.1 w hw), hK9, hX9, hZ9, hB9, hml9, B.notSynchronized⟩
  obtain ⟨hx, hb, hown, hT, -, -, -, -, hml, -⟩ := id hC
  have hr := B.returns
  have hS : va_S (AA κ) s.heap s.heap [] := va_S.rf
  have hl := lv_entry ([.ref (kA κ 7 0), .int y1, .int y2, .int y3]) (n := 4) (Nat.le_of_ble_eq_true rfl)
  rw [lg_entry_eq]
  generalize (lg_sl ([.ref (kA κ 7 0), .int y1, .int y2, .int y3]) ++ List.replicate (4 - (lg_sl ([.ref (kA κ 7 0), .int y1, .int y2, .int y3])).length) Slot.unset).toArray = ls at hl ⊢
  have hl : lv_has ls 4 [(0, .ref (kA κ 7 0)), (1, .int y1), (2, .int y2), (3, .int y3)] := hl
  have b_27 : ∀ (γ : St) (H : Heap) (locs : List Loc) (ls : Array Slot), lv_has ls 4 [] → HR κ γ H → va_S (AA κ) s.heap H locs → ok_X7_act_27 γ → x_X7_act_27 γ = res → W p l e (headSpec [Cond.code yX7_act cX7_act 4 (some .int)] ({ frames := 7, cells := 1, slots := 6, locals := 111 } : Room)).room s m ([.ref (kA κ 7 0), .int y1, .int y2, .int y3] : List Value).toArray below meth c H locs 0 0 (vx_MQ below (QX κ (res.2.2) (res.1) (some (.int res.2.1))) (XX κ (res.2.2) (res.1)) ([.ref (kA κ 7 0), .int y1, .int y2, .int y3] : List Value).toArray s 1 6 (AA κ)) (F0 m 27 ls []) := by
    intro  γ H locs ls hl hH hS hk hq
    subst hq
    exact k_throw (en := 2) (text := "side, kind or time is out of range") hC hfl ht hl hH hS rfl (by decide) tw_281 tw_46 (List.mem_of_getElem? (i := 12) rfl) at_IAE ot_IAE fit_2 dX7_act_27 dX7_act_30 dX7_act_31 dX7_act_33 dX7_act_36 (Nat.le_of_ble_eq_true rfl) (Nat.le_of_ble_eq_true rfl) (Nat.le_of_ble_eq_true rfl) (Nat.le_of_ble_eq_true rfl) (Nat.le_of_ble_eq_true rfl) (Nat.le_of_ble_eq_true rfl)
  refine lv_iload_n hx hb dX7_act_0 rfl (lv_at hl 1 rfl) ?_
  refine k_callS (rest := []) hC hl hH hS (c_X7_isSide l κ γ y1) tw_521 tw_522 tw_38 tw_523 hd_X7_isSide ⟨Nat.le_of_ble_eq_true rfl, Nat.le_of_ble_eq_true rfl⟩ rfl rfl rfl rfl (Nat.le_of_ble_eq_true rfl) dX7_act_1 ⟨Nat.le_of_ble_eq_true rfl, Nat.le_of_ble_eq_true rfl⟩ rfl (fun H locs hH hS => ?_)
  refine lv_if_eq (tgt := 27) hx hb dX7_act_4 (by decide) (fun c19 => ?_) (fun c19 => ?_)
  · have hk := ifp hk c19
    have hq := ifpe hq c19
    exact b_27 γ _ _ _ (lv_sub hl [] rfl) hH hS hk hq
  · have hk := ifn hk c19
    have hq := ifne hq c19
    refine lv_iload_n hx hb dX7_act_7 rfl (lv_at hl 2 rfl) ?_
    refine lv_iconst (v := 0) hx hb dX7_act_8 (by decide) ?_
    refine lv_bipush (v := 6) hx hb dX7_act_9 (by decide) ?_
    refine k_callS (rest := []) hC hl hH hS (c_X7_isWithin l κ γ y2 0 6) tw_278 tw_279 tw_38 tw_280 hd_X7_isWithin ⟨Nat.le_of_ble_eq_true rfl, Nat.le_of_ble_eq_true rfl⟩ rfl rfl rfl rfl (Nat.le_of_ble_eq_true rfl) dX7_act_11 ⟨Nat.le_of_ble_eq_true rfl, Nat.le_of_ble_eq_true rfl⟩ rfl (fun H locs hH hS => ?_)
    refine lv_if_eq (tgt := 27) hx hb dX7_act_14 (by decide) (fun c20 => ?_) (fun c20 => ?_)
    · have hk := ifp hk c20
      have hq := ifpe hq c20
      exact b_27 γ _ _ _ (lv_sub hl [] rfl) hH hS hk hq
    · have hk := ifn hk c20
      have hq := ifne hq c20
      refine lv_iload_n hx hb dX7_act_17 rfl (lv_at hl 3 rfl) ?_
      refine lv_iconst (v := 0) hx hb dX7_act_18 (by decide) ?_
      refine lv_ldc (v := 1000000) hx hb hown (hT _ tw_524) dX7_act_19 ?_
      refine k_callS (rest := []) hC hl hH hS (c_X7_isWithin l κ γ y3 0 1000000) tw_278 tw_279 tw_38 tw_280 hd_X7_isWithin ⟨Nat.le_of_ble_eq_true rfl, Nat.le_of_ble_eq_true rfl⟩ rfl rfl rfl rfl (Nat.le_of_ble_eq_true rfl) dX7_act_21 ⟨Nat.le_of_ble_eq_true rfl, Nat.le_of_ble_eq_true rfl⟩ rfl (fun H locs hH hS => ?_)
      refine lv_if_ne (tgt := 37) hx hb dX7_act_24 (by decide) (fun c21 => ?_) (fun c21 => ?_)
      · have hk := ifn hk c21
        have hq := ifne hq c21
        refine lv_aload_n hx hb dX7_act_37 rfl (lv_at hl 0 rfl) ?_
        refine lv_iload_n hx hb dX7_act_38 rfl (lv_at hl 3 rfl) ?_
        obtain ⟨hc22, hk⟩ := hk
        have hwt9 := hH.wt
        refine k_xcallV (C := RX7) (T := TX7) (N := 10) (rest := []) hC hl hH hS (c_X7_checkRoomInPhrase l hfl κ γ y3 hc22) lv_7 rfl rfl tw_526 tw_528 tw_15 tw_38 tw_529 hd_X7_checkRoomInPhrase ⟨Nat.le_of_ble_eq_true rfl, Nat.le_of_ble_eq_true rfl⟩ rfl rfl rfl rfl (Nat.le_of_ble_eq_true rfl) dX7_act_39 ⟨Nat.le_of_ble_eq_true rfl, Nat.le_of_ble_eq_true rfl⟩ rfl (fun he23 ce q9 H locs hH hS hce hcv hcl => ?_) (fun he23 H locs hH hS => ?_)
        · have hq := ifne hq he23
          subst hq
          exact k_out hC ht he23 hH hS hce hcv hcl (Nat.le_of_ble_eq_true rfl) (Nat.le_of_ble_eq_true rfl)
        · have hk := ifp hk he23
          have hq := ifpe hq he23
          refine lv_aload_n hx hb dX7_act_42 rfl (lv_at hl 0 rfl) ?_
          refine hp_get (v := .ref (kA κ 4 0)) (C := RX7) (T := TX7) (N := 10) hC inX7 hH lv_7 rfl rfl 2 (by decide) tw_149 rfl rfl dX7_act_43 ?_
          refine lv_iload_n hx hb dX7_act_46 rfl (lv_at hl 1 rfl) ?_
          refine lv_iload_n hx hb dX7_act_47 rfl (lv_at hl 2 rfl) ?_
          refine lv_iload_n hx hb dX7_act_48 rfl (lv_at hl 3 rfl) ?_
          obtain ⟨hc24, hk⟩ := hk
          refine k_callV (C := RX4) (T := TX4) (N := 7) (rest := []) hC hl hH hS (c_X4_addAction l κ (x_X7_checkRoomInPhrase y3 γ).2 y1 y2 y3 hc24) lv_4 rfl rfl tw_547 tw_548 tw_549 tw_39 tw_550 hd_X4_addAction ⟨Nat.le_of_ble_eq_true rfl, Nat.le_of_ble_eq_true rfl⟩ rfl rfl rfl rfl (Nat.le_of_ble_eq_true rfl) dX7_act_49 ⟨Nat.le_of_ble_eq_true rfl, Nat.le_of_ble_eq_true rfl⟩ rfl (fun H locs hH hS => ?_)
          subst hq
          exact kx_of rfl (by decide) (by decide) (kr_i hC hr hH hS rfl rfl dX7_act_52)
      · have hk := ifp hk c21
        have hq := ifpe hq c21
        exact b_27 γ _ _ _ (lv_sub hl [] rfl) hH hS hk hq
set_option maxRecDepth 20000 in
set_option maxHeartbeats 4000000 in
theorem c_X7_hit (l : Launch) (hfl : l.stackTraces = false) (κ : KP) (γ : St) (y1 : Int32) (y2 : Int32) (y3 : Int32) (y4 : Int32) (hk : ok_X7_hit y1 y2 y3 y4 γ) : vx_Met l yX7_hit [Cond.code yX7_hit cX7_hit 5 (some .int)] ({ frames := 7, cells := 1, slots := 6, locals := 111 } : Room) (va_Pc [.ref (kA κ 7 0), .int y1, .int y2, .int y3, .int y4] (GG κ γ)) (QX κ (((x_X7_hit y1 y2 y3 y4 γ)).2.2) (((x_X7_hit y1 y2 y3 y4 γ)).1) (some (.int (((x_X7_hit y1 y2 y3 y4 γ)).2.1)))) (XX κ (((x_X7_hit y1 y2 y3 y4 γ)).2.2) (((x_X7_hit y1 y2 y3 y4 γ)).1)) 1 6 (AA κ) := by
  generalize hq : x_X7_hit y1 y2 y3 y4 γ = res
  refine vx_ofW (cc := cX7_hit) (maxL := 5) (ret := (some .int)) (by decide) rfl ?_
  intro p e s m args below meth c s₁ B hml9 ht hv
  obtain ⟨rfl, hH, hK9, hB9, hX9, hZ9⟩ := hv
  have hC : CX κ cX7_hit "Phrasehall" 5 p l s m ([.ref (kA κ 7 0), .int y1, .int y2, .int y3, .int y4] : List Value).toArray meth c := ⟨B.exec, B.bytes, findClass_of_methodNamed B.named, fun w hw => tw_use (List.mem_filter.mp hw).2 (State.WarmedH.refl s) (hX9.1 w hw), hK9, hX9, hZ9, hB9, hml9, B.notSynchronized⟩
  obtain ⟨hx, hb, hown, hT, -, -, -, -, hml, -⟩ := id hC
  have hr := B.returns
  have hS : va_S (AA κ) s.heap s.heap [] := va_S.rf
  have hl := lv_entry ([.ref (kA κ 7 0), .int y1, .int y2, .int y3, .int y4]) (n := 5) (Nat.le_of_ble_eq_true rfl)
  rw [lg_entry_eq]
  generalize (lg_sl ([.ref (kA κ 7 0), .int y1, .int y2, .int y3, .int y4]) ++ List.replicate (5 - (lg_sl ([.ref (kA κ 7 0), .int y1, .int y2, .int y3, .int y4])).length) Slot.unset).toArray = ls at hl ⊢
  have hl : lv_has ls 5 [(0, .ref (kA κ 7 0)), (1, .int y1), (2, .int y2), (3, .int y3), (4, .int y4)] := hl
  have b_17 : ∀ (γ : St) (H : Heap) (locs : List Loc) (ls : Array Slot), lv_has ls 5 [] → HR κ γ H → va_S (AA κ) s.heap H locs → ok_X7_hit_17 γ → x_X7_hit_17 γ = res → W p l e (headSpec [Cond.code yX7_hit cX7_hit 5 (some .int)] ({ frames := 7, cells := 1, slots := 6, locals := 111 } : Room)).room s m ([.ref (kA κ 7 0), .int y1, .int y2, .int y3, .int y4] : List Value).toArray below meth c H locs 0 0 (vx_MQ below (QX κ (res.2.2) (res.1) (some (.int res.2.1))) (XX κ (res.2.2) (res.1)) ([.ref (kA κ 7 0), .int y1, .int y2, .int y3, .int y4] : List Value).toArray s 1 6 (AA κ)) (F0 m 17 ls []) := by
    intro  γ H locs ls hl hH hS hk hq
    subst hq
    exact k_throw (en := 2) (text := "side or time is out of range") hC hfl ht hl hH hS rfl (by decide) tw_281 tw_46 (List.mem_of_getElem? (i := 14) rfl) at_IAE ot_IAE fit_2 dX7_hit_17 dX7_hit_20 dX7_hit_21 dX7_hit_23 dX7_hit_26 (Nat.le_of_ble_eq_true rfl) (Nat.le_of_ble_eq_true rfl) (Nat.le_of_ble_eq_true rfl) (Nat.le_of_ble_eq_true rfl) (Nat.le_of_ble_eq_true rfl) (Nat.le_of_ble_eq_true rfl)
  have b_48 : ∀ (γ : St) (H : Heap) (locs : List Loc) (ls : Array Slot), lv_has ls 5 [] → HR κ γ H → va_S (AA κ) s.heap H locs → ok_X7_hit_48 γ → x_X7_hit_48 γ = res → W p l e (headSpec [Cond.code yX7_hit cX7_hit 5 (some .int)] ({ frames := 7, cells := 1, slots := 6, locals := 111 } : Room)).room s m ([.ref (kA κ 7 0), .int y1, .int y2, .int y3, .int y4] : List Value).toArray below meth c H locs 0 0 (vx_MQ below (QX κ (res.2.2) (res.1) (some (.int res.2.1))) (XX κ (res.2.2) (res.1)) ([.ref (kA κ 7 0), .int y1, .int y2, .int y3, .int y4] : List Value).toArray s 1 6 (AA κ)) (F0 m 48 ls []) := by
    intro  γ H locs ls hl hH hS hk hq
    subst hq
    exact k_throw (en := 2) (text := "span or target is out of range") hC hfl ht hl hH hS rfl (by decide) tw_281 tw_46 (List.mem_of_getElem? (i := 15) rfl) at_IAE ot_IAE fit_2 dX7_hit_48 dX7_hit_51 dX7_hit_52 dX7_hit_54 dX7_hit_57 (Nat.le_of_ble_eq_true rfl) (Nat.le_of_ble_eq_true rfl) (Nat.le_of_ble_eq_true rfl) (Nat.le_of_ble_eq_true rfl) (Nat.le_of_ble_eq_true rfl) (Nat.le_of_ble_eq_true rfl)
  refine lv_iload_n hx hb dX7_hit_0 rfl (lv_at hl 1 rfl) ?_
  refine k_callS (rest := []) hC hl hH hS (c_X7_isSide l κ γ y1) tw_521 tw_522 tw_38 tw_523 hd_X7_isSide ⟨Nat.le_of_ble_eq_true rfl, Nat.le_of_ble_eq_true rfl⟩ rfl rfl rfl rfl (Nat.le_of_ble_eq_true rfl) dX7_hit_1 ⟨Nat.le_of_ble_eq_true rfl, Nat.le_of_ble_eq_true rfl⟩ rfl (fun H locs hH hS => ?_)
  refine lv_if_eq (tgt := 17) hx hb dX7_hit_4 (by decide) (fun c22 => ?_) (fun c22 => ?_)
  · have hk := ifp hk c22
    have hq := ifpe hq c22
    exact b_17 γ _ _ _ (lv_sub hl [] rfl) hH hS hk hq
  · have hk := ifn hk c22
    have hq := ifne hq c22
    refine lv_iload_n hx hb dX7_hit_7 rfl (lv_at hl 2 rfl) ?_
    refine lv_iconst (v := 0) hx hb dX7_hit_8 (by decide) ?_
    refine lv_ldc (v := 1000000) hx hb hown (hT _ tw_524) dX7_hit_9 ?_
    refine k_callS (rest := []) hC hl hH hS (c_X7_isWithin l κ γ y2 0 1000000) tw_278 tw_279 tw_38 tw_280 hd_X7_isWithin ⟨Nat.le_of_ble_eq_true rfl, Nat.le_of_ble_eq_true rfl⟩ rfl rfl rfl rfl (Nat.le_of_ble_eq_true rfl) dX7_hit_11 ⟨Nat.le_of_ble_eq_true rfl, Nat.le_of_ble_eq_true rfl⟩ rfl (fun H locs hH hS => ?_)
    refine lv_if_ne (tgt := 27) hx hb dX7_hit_14 (by decide) (fun c23 => ?_) (fun c23 => ?_)
    · have hk := ifn hk c23
      have hq := ifne hq c23
      refine lv_iload_n hx hb dX7_hit_27 rfl (lv_at hl 3 rfl) ?_
      refine lv_iconst (v := 0) hx hb dX7_hit_28 (by decide) ?_
      refine lv_sipush (v := 1000) hx hb dX7_hit_29 (by decide) ?_
      refine k_callS (rest := []) hC hl hH hS (c_X7_isWithin l κ γ y3 0 1000) tw_278 tw_279 tw_38 tw_280 hd_X7_isWithin ⟨Nat.le_of_ble_eq_true rfl, Nat.le_of_ble_eq_true rfl⟩ rfl rfl rfl rfl (Nat.le_of_ble_eq_true rfl) dX7_hit_32 ⟨Nat.le_of_ble_eq_true rfl, Nat.le_of_ble_eq_true rfl⟩ rfl (fun H locs hH hS => ?_)
      refine lv_if_eq (tgt := 48) hx hb dX7_hit_35 (by decide) (fun c24 => ?_) (fun c24 => ?_)
      · have hk := ifp hk c24
        have hq := ifpe hq c24
        exact b_48 γ _ _ _ (lv_sub hl [] rfl) hH hS hk hq
      · have hk := ifn hk c24
        have hq := ifne hq c24
        refine lv_iload hx hb dX7_hit_38 (lv_at hl 4 rfl) ?_
        refine lv_iconst (v := 0) hx hb dX7_hit_40 (by decide) ?_
        refine lv_iconst (v := 2) hx hb dX7_hit_41 (by decide) ?_
        refine k_callS (rest := []) hC hl hH hS (c_X7_isWithin l κ γ y4 0 2) tw_278 tw_279 tw_38 tw_280 hd_X7_isWithin ⟨Nat.le_of_ble_eq_true rfl, Nat.le_of_ble_eq_true rfl⟩ rfl rfl rfl rfl (Nat.le_of_ble_eq_true rfl) dX7_hit_42 ⟨Nat.le_of_ble_eq_true rfl, Nat.le_of_ble_eq_true rfl⟩ rfl (fun H locs hH hS => ?_)
        refine lv_if_ne (tgt := 58) hx hb dX7_hit_45 (by decide) (fun c25 => ?_) (fun c25 => ?_)
        · have hk := ifn hk c25
          have hq := ifne hq c25
          refine lv_aload_n hx hb dX7_hit_58 rfl (lv_at hl 0 rfl) ?_
          refine lv_iload_n hx hb dX7_hit_59 rfl (lv_at hl 2 rfl) ?_
          obtain ⟨hc26, hk⟩ := hk
          have hwt9 := hH.wt
          refine k_xcallV (C := RX7) (T := TX7) (N := 10) (rest := []) hC hl hH hS (c_X7_checkRoomInPhrase l hfl κ γ y2 hc26) lv_7 rfl rfl tw_526 tw_528 tw_15 tw_38 tw_529 hd_X7_checkRoomInPhrase ⟨Nat.le_of_ble_eq_true rfl, Nat.le_of_ble_eq_true rfl⟩ rfl rfl rfl rfl (Nat.le_of_ble_eq_true rfl) dX7_hit_60 ⟨Nat.le_of_ble_eq_true rfl, Nat.le_of_ble_eq_true rfl⟩ rfl (fun he27 ce q9 H locs hH hS hce hcv hcl => ?_) (fun he27 H locs hH hS => ?_)
          · have hq := ifne hq he27
            subst hq
            exact k_out hC ht he27 hH hS hce hcv hcl (Nat.le_of_ble_eq_true rfl) (Nat.le_of_ble_eq_true rfl)
          · have hk := ifp hk he27
            have hq := ifpe hq he27
            refine lv_aload_n hx hb dX7_hit_63 rfl (lv_at hl 0 rfl) ?_
            refine hp_get (v := .ref (kA κ 4 0)) (C := RX7) (T := TX7) (N := 10) hC inX7 hH lv_7 rfl rfl 2 (by decide) tw_149 rfl rfl dX7_hit_64 ?_
            refine lv_iload_n hx hb dX7_hit_67 rfl (lv_at hl 1 rfl) ?_
            refine lv_iload_n hx hb dX7_hit_68 rfl (lv_at hl 2 rfl) ?_
            refine lv_iload_n hx hb dX7_hit_69 rfl (lv_at hl 3 rfl) ?_
            refine lv_iload hx hb dX7_hit_70 (lv_at hl 4 rfl) ?_
            obtain ⟨hc28, hk⟩ := hk
            refine k_callV (C := RX4) (T := TX4) (N := 7) (rest := []) hC hl hH hS (c_X4_addContact l κ (x_X7_checkRoomInPhrase y2 γ).2 y1 y2 y3 y4 hc28) lv_4 rfl rfl tw_561 tw_562 tw_563 tw_39 tw_564 hd_X4_addContact ⟨Nat.le_of_ble_eq_true rfl, Nat.le_of_ble_eq_true rfl⟩ rfl rfl rfl rfl (Nat.le_of_ble_eq_true rfl) dX7_hit_72 ⟨Nat.le_of_ble_eq_true rfl, Nat.le_of_ble_eq_true rfl⟩ rfl (fun H locs hH hS => ?_)
            subst hq
            exact kx_of rfl (by decide) (by decide) (kr_i hC hr hH hS rfl rfl dX7_hit_75)
        · have hk := ifp hk c25
          have hq := ifpe hq c25
          exact b_48 γ _ _ _ (lv_sub hl [] rfl) hH hS hk hq
    · have hk := ifp hk c23
      have hq := ifpe hq c23
      exact b_17 γ _ _ _ (lv_sub hl [] rfl) hH hS hk hq
set_option maxRecDepth 20000 in
set_option maxHeartbeats 4000000 in
theorem c_X7_boutOnPiste (l : Launch) (hfl : l.stackTraces = false) (κ : KP) (γ : St)  : vx_Met l yX7_boutOnPiste [Cond.code yX7_boutOnPiste cX7_boutOnPiste 1 (some (.object "Phrasehall$Bout"))] ({ frames := 6, cells := 1, slots := 6, locals := 90 } : Room) (va_Pc [.ref (kA κ 7 0)] (GG κ γ)) (QX κ (((x_X7_boutOnPiste γ)).2.2) (((x_X7_boutOnPiste γ)).1) (some (va_rf ((((x_X7_boutOnPiste γ)).2.1).map (kA κ 0))))) (XX κ (((x_X7_boutOnPiste γ)).2.2) (((x_X7_boutOnPiste γ)).1)) 1 6 (AA κ) := by
  generalize hq : x_X7_boutOnPiste γ = res
  refine vx_ofW (cc := cX7_boutOnPiste) (maxL := 1) (ret := (some (.object "Phrasehall$Bout"))) (by decide) rfl ?_
  intro p e s m args below meth c s₁ B hml9 ht hv
  obtain ⟨rfl, hH, hK9, hB9, hX9, hZ9⟩ := hv
  have hC : CX κ cX7_boutOnPiste "Phrasehall" 1 p l s m ([.ref (kA κ 7 0)] : List Value).toArray meth c := ⟨B.exec, B.bytes, findClass_of_methodNamed B.named, fun w hw => tw_use (List.mem_filter.mp hw).2 (State.WarmedH.refl s) (hX9.1 w hw), hK9, hX9, hZ9, hB9, hml9, B.notSynchronized⟩
  obtain ⟨hx, hb, hown, hT, -, -, -, -, hml, -⟩ := id hC
  have hr := B.returns
  have hS : va_S (AA κ) s.heap s.heap [] := va_S.rf
  have hl := lv_entry ([.ref (kA κ 7 0)]) (n := 1) (Nat.le_of_ble_eq_true rfl)
  rw [lg_entry_eq]
  generalize (lg_sl ([.ref (kA κ 7 0)]) ++ List.replicate (1 - (lg_sl ([.ref (kA κ 7 0)])).length) Slot.unset).toArray = ls at hl ⊢
  have hl : lv_has ls 1 [(0, .ref (kA κ 7 0))] := hl
  refine lv_aload_n hx hb dX7_boutOnPiste_0 rfl (lv_at hl 0 rfl) ?_
  refine hp_get (v := va_rf ((gR γ 7 8).map (kA κ 0))) (C := RX7) (T := TX7) (N := 10) hC inX7 hH lv_7 rfl rfl 8 (by decide) tw_155 rfl rfl dX7_boutOnPiste_1 ?_
  have hw11 : ∀ b : Nat, gR γ 7 8 = some b → lv κ 0 b := fun b hb => hH.wt 7 8 b hb
  rcases ho13 : gR γ 7 8 with _ | b12
  · have hq := oc_ne hq ho13
    have hl : lv_has ls 1 [(0, .ref (kA κ 7 0))] := by first | exact hl | (rw [ho13] at hl; exact hl)
    refine lv_ifnonnullN hx hb dX7_boutOnPiste_4 ?_
    subst hq
    exact k_throwW (en := 1) (text := "no bout is on the piste") hC hfl ht hl hH hS rfl (by decide) tw_182 tw_47 (List.mem_of_getElem? (i := 16) rfl) at_ISE ot_ISE fit_1 dX7_boutOnPiste_7 dX7_boutOnPiste_10 dX7_boutOnPiste_11 dX7_boutOnPiste_14 dX7_boutOnPiste_17 (Nat.le_of_ble_eq_true rfl) (Nat.le_of_ble_eq_true rfl) (Nat.le_of_ble_eq_true rfl) (Nat.le_of_ble_eq_true rfl) (Nat.le_of_ble_eq_true rfl) (Nat.le_of_ble_eq_true rfl)
  · have hq := oc_se hq ho13
    have hvb14 : lv κ 0 b12 := hw11 b12 ho13
    have hl : lv_has ls 1 [(0, .ref (kA κ 7 0))] := by first | exact hl | (rw [ho13] at hl; exact hl)
    refine lv_ifnonnull (tgt := 18) hx hb dX7_boutOnPiste_4 (by decide) ?_
    refine lv_aload_n hx hb dX7_boutOnPiste_18 rfl (lv_at hl 0 rfl) ?_
    refine hp_get (v := va_rf ((gR γ 7 8).map (kA κ 0))) (C := RX7) (T := TX7) (N := 10) hC inX7 hH lv_7 rfl rfl 8 (by decide) tw_155 rfl rfl dX7_boutOnPiste_19 ?_
    have hw15 : ∀ b : Nat, gR γ 7 8 = some b → lv κ 0 b := fun b hb => hH.wt 7 8 b hb
    subst hq
    exact kx_of rfl (by decide) (by decide) (kr_a hC hr (va_rf_or _) hH hS rfl rfl dX7_boutOnPiste_22)
set_option maxRecDepth 20000 in
set_option maxHeartbeats 4000000 in
theorem c_X7_clearPisteIfOver (l : Launch) (κ : KP) (γ : St) (z1 : Nat) (hv_z1 : lv κ 0 z1) (hk : ok_X7_clearPisteIfOver z1 γ) : Met l yX7_clearPisteIfOver [Cond.code yX7_clearPisteIfOver cX7_clearPisteIfOver 3 none] ({ frames := 3, cells := 0, slots := 0, locals := 66 } : Room) (va_Pc [.ref (kA κ 7 0), .ref (kA κ 0 z1)] (GG κ γ)) (QQ κ ((x_X7_clearPisteIfOver z1 γ)) none) 0 0 (AA κ) := by
  generalize hq : x_X7_clearPisteIfOver z1 γ = res
  refine Met.ofW (cc := cX7_clearPisteIfOver) (maxL := 3) (ret := none) (by decide) rfl ?_
  intro p e s m args below meth c s₁ B hml9 hv
  obtain ⟨rfl, hH, hK9, hB9, hX9, hZ9⟩ := hv
  have hC : CX κ cX7_clearPisteIfOver "Phrasehall" 3 p l s m ([.ref (kA κ 7 0), .ref (kA κ 0 z1)] : List Value).toArray meth c := ⟨B.exec, B.bytes, findClass_of_methodNamed B.named, fun w hw => tw_use (List.mem_filter.mp hw).2 (State.WarmedH.refl s) (hX9.1 w hw), hK9, hX9, hZ9, hB9, hml9, B.notSynchronized⟩
  obtain ⟨hx, hb, hown, hT, -, -, -, -, hml, -⟩ := id hC
  have hr := B.returns
  have hS : va_S (AA κ) s.heap s.heap [] := va_S.rf
  have hl := lv_entry ([.ref (kA κ 7 0), .ref (kA κ 0 z1)]) (n := 3) (Nat.le_of_ble_eq_true rfl)
  rw [lg_entry_eq]
  generalize (lg_sl ([.ref (kA κ 7 0), .ref (kA κ 0 z1)]) ++ List.replicate (3 - (lg_sl ([.ref (kA κ 7 0), .ref (kA κ 0 z1)])).length) Slot.unset).toArray = ls at hl ⊢
  have hl : lv_has ls 3 [(0, .ref (kA κ 7 0)), (1, .ref (kA κ 0 z1))] := hl
  have b_20 : ∀ (n1 : Nat) (γ : St) (H : Heap) (locs : List Loc) (ls : Array Slot), lv_has ls 3 [(0, .ref (kA κ 7 0)), (1, .ref (kA κ 0 n1))] → HR κ γ H → va_S (AA κ) s.heap H locs → (lv κ 0 n1) → ok_X7_clearPisteIfOver_20 n1 γ → x_X7_clearPisteIfOver_20 n1 γ = res → W p l e (headSpec [Cond.code yX7_clearPisteIfOver cX7_clearPisteIfOver 3 none] ({ frames := 3, cells := 0, slots := 0, locals := 66 } : Room)).room s m ([.ref (kA κ 7 0), .ref (kA κ 0 z1)] : List Value).toArray below meth c H locs 0 0 (MQ below (QQ κ res none) ([.ref (kA κ 7 0), .ref (kA κ 0 z1)] : List Value).toArray s 0 0 (AA κ)) (F0 m 20 ls []) := by
    intro n1 γ H locs ls hl hH hS hv_n1 hk hq
    refine lv_aload_n hx hb dX7_clearPisteIfOver_20 rfl (lv_at hl 0 rfl) ?_
    refine lv_aload_n hx hb dX7_clearPisteIfOver_21 rfl (lv_at hl 1 rfl) ?_
    refine hp_getN (v := .int (gV γ 0 n1 4)) (C := RX0) (T := TX0) (N := 10) hC inX0 hH hv_n1 rfl rfl 4 (by decide) nw_485 rfl rfl dX7_clearPisteIfOver_22 ?_
    obtain ⟨hc22, hk⟩ := hk
    have hw23 : ∀ b : Nat, (x_X7_poolOf (gV γ 0 n1 4) γ) = some b → lv κ 5 b := lvr_X7_poolOf hH.wt (gV γ 0 n1 4)
    refine k_callV (C := RX7) (T := TX7) (N := 10) (rest := []) hC hl hH hS (c_X7_poolOf l κ γ (gV γ 0 n1 4) hc22) lv_7 rfl rfl tw_309 tw_311 tw_3 tw_38 tw_312 hd_X7_poolOf ⟨Nat.le_of_ble_eq_true rfl, Nat.le_of_ble_eq_true rfl⟩ rfl rfl rfl rfl (Nat.le_of_ble_eq_true rfl) dX7_clearPisteIfOver_25 ⟨Nat.le_of_ble_eq_true rfl, Nat.le_of_ble_eq_true rfl⟩ rfl (fun H locs hH hS => ?_)
    refine lv_astoreq_n (lv' := [(2, va_rf (((x_X7_poolOf (gV γ 0 n1 4) γ)).map (kA κ 5))), (0, .ref (kA κ 7 0)), (1, .ref (kA κ 0 n1))]) hx hb dX7_clearPisteIfOver_28 rfl hl (by decide) rfl (fun ls hl => ?_)
    refine lv_aloadq_n hx hb dX7_clearPisteIfOver_29 rfl (lv_at hl 0 rfl) ?_
    rcases ho25 : (x_X7_poolOf (gV γ 0 n1 4) γ) with _ | b24
    · have hk := oc_n hk ho25
      have hq := oc_ne hq ho25
      have hl : lv_has ls 3 [(2, .null), (0, .ref (kA κ 7 0)), (1, .ref (kA κ 0 n1))] := by first | exact hl | (rw [ho25] at hl; exact hl)
      refine lv_ifnullN (tgt := 39) hx hb dX7_clearPisteIfOver_30 (by decide) ?_
      subst hq
      exact kr_v hC hr hH hS rfl dX7_clearPisteIfOver_39
    · have hk := oc_s hk ho25
      have hq := oc_se hq ho25
      have hvb26 : lv κ 5 b24 := hw23 b24 ho25
      have hl : lv_has ls 3 [(2, .ref (kA κ 5 b24)), (0, .ref (kA κ 7 0)), (1, .ref (kA κ 0 n1))] := by first | exact hl | (rw [ho25] at hl; exact hl)
      refine lv_ifnull hx hb dX7_clearPisteIfOver_30 ?_
      refine lv_aload_n hx hb dX7_clearPisteIfOver_33 rfl (lv_at hl 0 rfl) ?_
      refine lv_aload_n hx hb dX7_clearPisteIfOver_34 rfl (lv_at hl 2 rfl) ?_
      refine lv_iconst (v := 1) hx hb dX7_clearPisteIfOver_35 (by decide) ?_
      obtain ⟨hc27, hk⟩ := hk
      refine k_callV (C := RX5) (T := TX5) (N := 5) (rest := []) hC hl hH hS (c_X5_enter l κ γ b24 n1 1 hvb26 hv_n1 hc27) hvb26 rfl rfl tw_666 tw_667 tw_668 tw_49 tw_669 hd_X5_enter ⟨Nat.le_of_ble_eq_true rfl, Nat.le_of_ble_eq_true rfl⟩ rfl rfl rfl rfl (Nat.le_of_ble_eq_true rfl) dX7_clearPisteIfOver_36 ⟨Nat.le_of_ble_eq_true rfl, Nat.le_of_ble_eq_true rfl⟩ rfl (fun H locs hH hS => ?_)
      subst hq
      exact kr_v hC hr hH hS rfl dX7_clearPisteIfOver_39
  refine lv_aload_n hx hb dX7_clearPisteIfOver_0 rfl (lv_at hl 1 rfl) ?_
  refine k_callV (C := RX0) (T := TX0) (N := 10) (rest := []) hC hl hH hS (c_X0_isOver l κ γ z1 hv_z1) hv_z1 rfl rfl tw_665 tw_341 tw_342 tw_50 tw_343 hd_X0_isOver ⟨Nat.le_of_ble_eq_true rfl, Nat.le_of_ble_eq_true rfl⟩ rfl rfl rfl rfl (Nat.le_of_ble_eq_true rfl) dX7_clearPisteIfOver_1 ⟨Nat.le_of_ble_eq_true rfl, Nat.le_of_ble_eq_true rfl⟩ rfl (fun H locs hH hS => ?_)
  refine lv_if_ne (tgt := 8) hx hb dX7_clearPisteIfOver_4 (by decide) (fun c28 => ?_) (fun c28 => ?_)
  · have hk := ifn hk c28
    have hq := ifne hq c28
    refine lv_aload_n hx hb dX7_clearPisteIfOver_8 rfl (lv_at hl 0 rfl) ?_
    refine lv_null hx hb dX7_clearPisteIfOver_9 ?_
    refine hp_put (v := .null) (C := RX7) (T := TX7) (N := 10) hC inX7 tyX7_ok nmX7 hH lv_7 rfl hS rfl 8 (by decide) tw_155 rfl rfl rfl rfl (Nat.le_of_ble_eq_true rfl) (sR γ 7 8 none) (pq_7_8 _ _ none) (fun c9 n9 hl9 h => cel_sR (fun q => h ⟨q, lv_u7 n9 (by rw [← q]; exact hl9)⟩)) (WT_sR hH.wt (fun b hb => by cases hb)) dX7_clearPisteIfOver_10 (fun H locs hH hS => ?_)
    refine lv_aload_n hx hb dX7_clearPisteIfOver_13 rfl (lv_at hl 0 rfl) ?_
    refine hp_get (v := .ref (kA κ 4 0)) (C := RX7) (T := TX7) (N := 10) hC inX7 hH lv_7 rfl rfl 2 (by decide) tw_149 rfl rfl dX7_clearPisteIfOver_14 ?_
    refine k_callV (C := RX4) (T := TX4) (N := 7) (rest := []) hC hl hH hS (c_X4_empty l κ (sR γ 7 8 none)) lv_4 rfl rfl tw_657 tw_658 tw_659 tw_39 tw_660 hd_X4_empty ⟨Nat.le_of_ble_eq_true rfl, Nat.le_of_ble_eq_true rfl⟩ rfl rfl rfl rfl (Nat.le_of_ble_eq_true rfl) dX7_clearPisteIfOver_17 ⟨Nat.le_of_ble_eq_true rfl, Nat.le_of_ble_eq_true rfl⟩ rfl (fun H locs hH hS => ?_)
    exact b_20 z1 (x_X4_empty (sR γ 7 8 none)) _ _ _ (lv_sub hl [0, 1] rfl) hH hS hv_z1 hk hq
  · have hk := ifp hk c28
    have hq := ifpe hq c28
    subst hq
    exact kr_v hC hr hH hS rfl dX7_clearPisteIfOver_7
set_option maxRecDepth 20000 in
set_option maxHeartbeats 4000000 in
theorem c_X7_because (l : Launch) (κ : KP) (γ : St) (y1 : Int32) (y2 : Int32)  : Met l yX7_because [Cond.code yX7_because cX7_because 3 (some .int)] ({ frames := 0, cells := 0, slots := 0, locals := 0 } : Room) (va_Pc [.ref (kA κ 7 0), .int y1, .int y2] (GG κ γ)) (QQ κ (((x_X7_because y1 y2 γ)).2) (some (.int (((x_X7_because y1 y2 γ)).1)))) 0 0 (AA κ) := by
  generalize hq : x_X7_because y1 y2 γ = res
  refine Met.ofW (cc := cX7_because) (maxL := 3) (ret := (some .int)) (by decide) rfl ?_
  intro p e s m args below meth c s₁ B hml9 hv
  obtain ⟨rfl, hH, hK9, hB9, hX9, hZ9⟩ := hv
  have hC : CX κ cX7_because "Phrasehall" 3 p l s m ([.ref (kA κ 7 0), .int y1, .int y2] : List Value).toArray meth c := ⟨B.exec, B.bytes, findClass_of_methodNamed B.named, fun w hw => tw_use (List.mem_filter.mp hw).2 (State.WarmedH.refl s) (hX9.1 w hw), hK9, hX9, hZ9, hB9, hml9, B.notSynchronized⟩
  obtain ⟨hx, hb, hown, hT, -, -, -, -, hml, -⟩ := id hC
  have hr := B.returns
  have hS : va_S (AA κ) s.heap s.heap [] := va_S.rf
  have hl := lv_entry ([.ref (kA κ 7 0), .int y1, .int y2]) (n := 3) (Nat.le_of_ble_eq_true rfl)
  rw [lg_entry_eq]
  generalize (lg_sl ([.ref (kA κ 7 0), .int y1, .int y2]) ++ List.replicate (3 - (lg_sl ([.ref (kA κ 7 0), .int y1, .int y2])).length) Slot.unset).toArray = ls at hl ⊢
  have hl : lv_has ls 3 [(0, .ref (kA κ 7 0)), (1, .int y1), (2, .int y2)] := hl
  refine lv_aload_n hx hb dX7_because_0 rfl (lv_at hl 0 rfl) ?_
  refine lv_iload_n hx hb dX7_because_1 rfl (lv_at hl 1 rfl) ?_
  refine hp_put (v := .int y1) (C := RX7) (T := TX7) (N := 10) hC inX7 tyX7_ok nmX7 hH lv_7 rfl hS rfl 9 (by decide) tw_156 rfl rfl rfl rfl (Nat.le_of_ble_eq_true rfl) (sV γ 7 0 9 y1) (pe_7_9 _ _ 0 y1) (fun _ _ _ h => cel_sV h) (WT_sV hH.wt) dX7_because_2 (fun H locs hH hS => ?_)
  refine lv_iload_n hx hb dX7_because_5 rfl (lv_at hl 2 rfl) ?_
  subst hq
  exact kr_i hC hr hH hS rfl rfl dX7_because_6
set_option maxRecDepth 20000 in
set_option maxHeartbeats 4000000 in
theorem c_X7_judgeByRight (l : Launch) (κ : KP) (γ : St) (y1 : Int32) (y2 : Int32) (hk : ok_X7_judgeByRight y1 y2 γ) : Met l yX7_judgeByRight [Cond.code yX7_judgeByRight cX7_judgeByRight 7 (some .int)] ({ frames := 4, cells := 0, slots := 0, locals := 91 } : Room) (va_Pc [.ref (kA κ 7 0), .int y1, .int y2] (GG κ γ)) (QQ κ (((x_X7_judgeByRight y1 y2 γ)).2) (some (.int (((x_X7_judgeByRight y1 y2 γ)).1)))) 0 0 (AA κ) := by
  generalize hq : x_X7_judgeByRight y1 y2 γ = res
  refine Met.ofW (cc := cX7_judgeByRight) (maxL := 7) (ret := (some .int)) (by decide) rfl ?_
  intro p e s m args below meth c s₁ B hml9 hv
  obtain ⟨rfl, hH, hK9, hB9, hX9, hZ9⟩ := hv
  have hC : CX κ cX7_judgeByRight "Phrasehall" 7 p l s m ([.ref (kA κ 7 0), .int y1, .int y2] : List Value).toArray meth c := ⟨B.exec, B.bytes, findClass_of_methodNamed B.named, fun w hw => tw_use (List.mem_filter.mp hw).2 (State.WarmedH.refl s) (hX9.1 w hw), hK9, hX9, hZ9, hB9, hml9, B.notSynchronized⟩
  obtain ⟨hx, hb, hown, hT, -, -, -, -, hml, -⟩ := id hC
  have hr := B.returns
  have hS : va_S (AA κ) s.heap s.heap [] := va_S.rf
  have hl := lv_entry ([.ref (kA κ 7 0), .int y1, .int y2]) (n := 7) (Nat.le_of_ble_eq_true rfl)
  rw [lg_entry_eq]
  generalize (lg_sl ([.ref (kA κ 7 0), .int y1, .int y2]) ++ List.replicate (7 - (lg_sl ([.ref (kA κ 7 0), .int y1, .int y2])).length) Slot.unset).toArray = ls at hl ⊢
  have hl : lv_has ls 7 [(0, .ref (kA κ 7 0)), (1, .int y1), (2, .int y2)] := hl
  have b_122 : ∀ (s0 : Int32) (γ : St) (H : Heap) (locs : List Loc) (ls : Array Slot), lv_has ls 7 [] → HR κ γ H → va_S (AA κ) s.heap H locs → ok_X7_judgeByRight_122 s0 γ → x_X7_judgeByRight_122 s0 γ = res → W p l e (headSpec [Cond.code yX7_judgeByRight cX7_judgeByRight 7 (some .int)] ({ frames := 4, cells := 0, slots := 0, locals := 91 } : Room)).room s m ([.ref (kA κ 7 0), .int y1, .int y2] : List Value).toArray below meth c H locs 0 0 (MQ below (QQ κ (res.2) (some (.int res.1))) ([.ref (kA κ 7 0), .int y1, .int y2] : List Value).toArray s 0 0 (AA κ)) (F0 m 122 ls [.int s0]) := by
    intro s0 γ H locs ls hl hH hS hk hq
    refine lv_goto (tgt := 131) hx hb dX7_judgeByRight_122 (by decide) ?_
    subst hq
    exact kr_i hC hr hH hS rfl rfl dX7_judgeByRight_131
  have b_100 : ∀ (a3 : Int32) (a4 : Int32) (γ : St) (H : Heap) (locs : List Loc) (ls : Array Slot), lv_has ls 7 [(0, .ref (kA κ 7 0)), (3, .int a3), (4, .int a4)] → HR κ γ H → va_S (AA κ) s.heap H locs → ok_X7_judgeByRight_100 a3 a4 γ → x_X7_judgeByRight_100 a3 a4 γ = res → W p l e (headSpec [Cond.code yX7_judgeByRight cX7_judgeByRight 7 (some .int)] ({ frames := 4, cells := 0, slots := 0, locals := 91 } : Room)).room s m ([.ref (kA κ 7 0), .int y1, .int y2] : List Value).toArray below meth c H locs 0 0 (MQ below (QQ κ (res.2) (some (.int res.1))) ([.ref (kA κ 7 0), .int y1, .int y2] : List Value).toArray s 0 0 (AA κ)) (F0 m 100 ls []) := by
    intro a3 a4 γ H locs ls hl hH hS hk hq
    refine lv_aload_n hx hb dX7_judgeByRight_100 rfl (lv_at hl 0 rfl) ?_
    refine hp_get (v := .ref (kA κ 4 0)) (C := RX7) (T := TX7) (N := 10) hC inX7 hH lv_7 rfl rfl 2 (by decide) tw_149 rfl rfl dX7_judgeByRight_101 ?_
    refine lv_iload hx hb dX7_judgeByRight_104 (lv_at hl 2 rfl) ?_
    obtain ⟨hc34, hk⟩ := hk
    refine k_callV (C := RX4) (T := TX4) (N := 7) (rest := []) hC hl hH hS (c_X4_targetAt l κ γ a4 hc34) lv_4 rfl rfl tw_600 tw_601 tw_602 tw_39 tw_603 hd_X4_targetAt ⟨Nat.le_of_ble_eq_true rfl, Nat.le_of_ble_eq_true rfl⟩ rfl rfl rfl rfl (Nat.le_of_ble_eq_true rfl) dX7_judgeByRight_106 ⟨Nat.le_of_ble_eq_true rfl, Nat.le_of_ble_eq_true rfl⟩ rfl (fun H locs hH hS => ?_)
    refine lv_if_ne (tgt := 125) hx hb dX7_judgeByRight_109 (by decide) (fun c35 => ?_) (fun c35 => ?_)
    · have hk := ifn hk c35
      have hq := ifne hq c35
      refine lv_aload_n hx hb dX7_judgeByRight_125 rfl (lv_at hl 0 rfl) ?_
      refine lv_iconst (v := 2) hx hb dX7_judgeByRight_126 (by decide) ?_
      refine lv_iconst (v := 0) hx hb dX7_judgeByRight_127 (by decide) ?_
      refine k_callV (C := RX7) (T := TX7) (N := 10) (rest := []) hC hl hH hS (c_X7_because l κ γ 2 0) lv_7 rfl rfl tw_596 tw_598 tw_21 tw_38 tw_599 hd_X7_because ⟨Nat.le_of_ble_eq_true rfl, Nat.le_of_ble_eq_true rfl⟩ rfl rfl rfl rfl (Nat.le_of_ble_eq_true rfl) dX7_judgeByRight_128 ⟨Nat.le_of_ble_eq_true rfl, Nat.le_of_ble_eq_true rfl⟩ rfl (fun H locs hH hS => ?_)
      subst hq
      exact kr_i hC hr hH hS rfl rfl dX7_judgeByRight_131
    · have hk := ifp hk c35
      have hq := ifpe hq c35
      refine lv_aload_n hx hb dX7_judgeByRight_112 rfl (lv_at hl 0 rfl) ?_
      refine lv_bipush (v := 6) hx hb dX7_judgeByRight_113 (by decide) ?_
      refine lv_iload_n hx hb dX7_judgeByRight_115 rfl (lv_at hl 1 rfl) ?_
      refine k_callS (rest := [.int 6, .ref (kA κ 7 0)]) hC hl hH hS (c_X7_bitOf l κ γ a3) tw_604 tw_605 tw_38 tw_606 hd_X7_bitOf ⟨Nat.le_of_ble_eq_true rfl, Nat.le_of_ble_eq_true rfl⟩ rfl rfl rfl rfl (Nat.le_of_ble_eq_true rfl) dX7_judgeByRight_116 ⟨Nat.le_of_ble_eq_true rfl, Nat.le_of_ble_eq_true rfl⟩ rfl (fun H locs hH hS => ?_)
      refine k_callV (C := RX7) (T := TX7) (N := 10) (rest := []) hC hl hH hS (c_X7_because l κ γ 6 ((x_X7_bitOf a3 γ))) lv_7 rfl rfl tw_596 tw_598 tw_21 tw_38 tw_599 hd_X7_because ⟨Nat.le_of_ble_eq_true rfl, Nat.le_of_ble_eq_true rfl⟩ rfl rfl rfl rfl (Nat.le_of_ble_eq_true rfl) dX7_judgeByRight_119 ⟨Nat.le_of_ble_eq_true rfl, Nat.le_of_ble_eq_true rfl⟩ rfl (fun H locs hH hS => ?_)
      exact b_122 ((x_X7_because 6 ((x_X7_bitOf a3 γ)) γ).1) (x_X7_because 6 ((x_X7_bitOf a3 γ)) γ).2 _ _ _ (lv_sub hl [] rfl) hH hS hk hq
  have b_45 : ∀ (a3 : Int32) (a4 : Int32) (s0 : Int32) (γ : St) (H : Heap) (locs : List Loc) (ls : Array Slot), lv_has ls 7 [(0, .ref (kA κ 7 0)), (3, .int a3), (4, .int a4)] → HR κ γ H → va_S (AA κ) s.heap H locs → ok_X7_judgeByRight_45 a3 a4 s0 γ → x_X7_judgeByRight_45 a3 a4 s0 γ = res → W p l e (headSpec [Cond.code yX7_judgeByRight cX7_judgeByRight 7 (some .int)] ({ frames := 4, cells := 0, slots := 0, locals := 91 } : Room)).room s m ([.ref (kA κ 7 0), .int y1, .int y2] : List Value).toArray below meth c H locs 0 0 (MQ below (QQ κ (res.2) (some (.int res.1))) ([.ref (kA κ 7 0), .int y1, .int y2] : List Value).toArray s 0 0 (AA κ)) (F0 m 45 ls [.int s0]) := by
    intro a3 a4 s0 γ H locs ls hl hH hS hk hq
    refine lv_istore (lv' := [(5, .int s0), (0, .ref (kA κ 7 0)), (3, .int a3), (4, .int a4)]) hx hb dX7_judgeByRight_45 hl (by decide) rfl (fun ls hl => ?_)
    refine lv_aload_n hx hb dX7_judgeByRight_47 rfl (lv_at hl 1 rfl) ?_
    refine hp_get (v := .ref (kA κ 4 0)) (C := RX7) (T := TX7) (N := 10) hC inX7 hH lv_7 rfl rfl 2 (by decide) tw_149 rfl rfl dX7_judgeByRight_48 ?_
    refine lv_iload hx hb dX7_judgeByRight_51 (lv_at hl 3 rfl) ?_
    obtain ⟨hc36, hk⟩ := hk
    refine k_callV (C := RX4) (T := TX4) (N := 7) (rest := []) hC hl hH hS (c_X4_timeAt l κ γ a4 hc36) lv_4 rfl rfl tw_636 tw_535 tw_536 tw_39 tw_537 hd_X4_timeAt ⟨Nat.le_of_ble_eq_true rfl, Nat.le_of_ble_eq_true rfl⟩ rfl rfl rfl rfl (Nat.le_of_ble_eq_true rfl) dX7_judgeByRight_53 ⟨Nat.le_of_ble_eq_true rfl, Nat.le_of_ble_eq_true rfl⟩ rfl (fun H locs hH hS => ?_)
    refine lv_aload_n hx hb dX7_judgeByRight_56 rfl (lv_at hl 1 rfl) ?_
    refine hp_get (v := .ref (kA κ 4 0)) (C := RX7) (T := TX7) (N := 10) hC inX7 hH lv_7 rfl rfl 2 (by decide) tw_149 rfl rfl dX7_judgeByRight_57 ?_
    refine lv_iload hx hb dX7_judgeByRight_60 (lv_at hl 0 rfl) ?_
    obtain ⟨hc37, hk⟩ := hk
    refine k_callV (C := RX4) (T := TX4) (N := 7) (rest := [.int ((x_X4_timeAt a4 γ))]) hC hl hH hS (c_X4_timeAt l κ γ s0 hc37) lv_4 rfl rfl tw_636 tw_535 tw_536 tw_39 tw_537 hd_X4_timeAt ⟨Nat.le_of_ble_eq_true rfl, Nat.le_of_ble_eq_true rfl⟩ rfl rfl rfl rfl (Nat.le_of_ble_eq_true rfl) dX7_judgeByRight_62 ⟨Nat.le_of_ble_eq_true rfl, Nat.le_of_ble_eq_true rfl⟩ rfl (fun H locs hH hS => ?_)
    refine lv_isub hx hb dX7_judgeByRight_65 ?_
    refine lv_istore (lv' := [(6, .int (((x_X4_timeAt a4 γ)) - ((x_X4_timeAt s0 γ)))), (5, .int s0), (0, .ref (kA κ 7 0)), (3, .int a3), (4, .int a4)]) hx hb dX7_judgeByRight_66 hl (by decide) rfl (fun ls hl => ?_)
    refine lv_aload_n hx hb dX7_judgeByRight_68 rfl (lv_at hl 2 rfl) ?_
    refine hp_get (v := .ref (kA κ 4 0)) (C := RX7) (T := TX7) (N := 10) hC inX7 hH lv_7 rfl rfl 2 (by decide) tw_149 rfl rfl dX7_judgeByRight_69 ?_
    refine lv_iload hx hb dX7_judgeByRight_72 (lv_at hl 1 rfl) ?_
    obtain ⟨hc38, hk⟩ := hk
    refine k_callV (C := RX4) (T := TX4) (N := 7) (rest := []) hC hl hH hS (c_X4_targetAt l κ γ s0 hc38) lv_4 rfl rfl tw_600 tw_601 tw_602 tw_39 tw_603 hd_X4_targetAt ⟨Nat.le_of_ble_eq_true rfl, Nat.le_of_ble_eq_true rfl⟩ rfl rfl rfl rfl (Nat.le_of_ble_eq_true rfl) dX7_judgeByRight_74 ⟨Nat.le_of_ble_eq_true rfl, Nat.le_of_ble_eq_true rfl⟩ rfl (fun H locs hH hS => ?_)
    refine lv_if_ne (tgt := 100) hx hb dX7_judgeByRight_77 (by decide) (fun c39 => ?_) (fun c39 => ?_)
    · have hk := ifn hk c39
      have hq := ifne hq c39
      exact b_100 a3 a4 γ _ _ _ (lv_sub hl [2, 3, 4] rfl) hH hS hk hq
    · have hk := ifp hk c39
      have hq := ifpe hq c39
      refine lv_iload hx hb dX7_judgeByRight_80 (lv_at hl 0 rfl) ?_
      refine lv_sipush (v := 150) hx hb dX7_judgeByRight_82 (by decide) ?_
      refine lv_icmp_lt (tgt := 100) hx hb dX7_judgeByRight_85 (by decide) (fun c40 => ?_) (fun c40 => ?_)
      · have hk := ifp hk c40
        have hq := ifpe hq c40
        exact b_100 a3 a4 γ _ _ _ (lv_sub hl [2, 3, 4] rfl) hH hS hk hq
      · have hk := ifn hk c40
        have hq := ifne hq c40
        refine lv_aload_n hx hb dX7_judgeByRight_88 rfl (lv_at hl 2 rfl) ?_
        refine lv_iconst (v := 5) hx hb dX7_judgeByRight_89 (by decide) ?_
        refine lv_iconst (v := 1) hx hb dX7_judgeByRight_90 (by decide) ?_
        refine lv_iload_n hx hb dX7_judgeByRight_91 rfl (lv_at hl 3 rfl) ?_
        refine lv_isub hx hb dX7_judgeByRight_92 ?_
        refine k_callS (rest := [.int 5, .ref (kA κ 7 0)]) hC hl hH hS (c_X7_bitOf l κ γ (1 - a3)) tw_604 tw_605 tw_38 tw_606 hd_X7_bitOf ⟨Nat.le_of_ble_eq_true rfl, Nat.le_of_ble_eq_true rfl⟩ rfl rfl rfl rfl (Nat.le_of_ble_eq_true rfl) dX7_judgeByRight_93 ⟨Nat.le_of_ble_eq_true rfl, Nat.le_of_ble_eq_true rfl⟩ rfl (fun H locs hH hS => ?_)
        refine k_callV (C := RX7) (T := TX7) (N := 10) (rest := []) hC hl hH hS (c_X7_because l κ γ 5 ((x_X7_bitOf (1 - a3) γ))) lv_7 rfl rfl tw_596 tw_598 tw_21 tw_38 tw_599 hd_X7_because ⟨Nat.le_of_ble_eq_true rfl, Nat.le_of_ble_eq_true rfl⟩ rfl rfl rfl rfl (Nat.le_of_ble_eq_true rfl) dX7_judgeByRight_96 ⟨Nat.le_of_ble_eq_true rfl, Nat.le_of_ble_eq_true rfl⟩ rfl (fun H locs hH hS => ?_)
        subst hq
        exact kr_i hC hr hH hS rfl rfl dX7_judgeByRight_99
  have b_34 : ∀ (a1 : Int32) (a2 : Int32) (a3 : Int32) (s0 : Int32) (γ : St) (H : Heap) (locs : List Loc) (ls : Array Slot), lv_has ls 7 [(0, .ref (kA κ 7 0)), (1, .int a1), (2, .int a2), (3, .int a3)] → HR κ γ H → va_S (AA κ) s.heap H locs → ok_X7_judgeByRight_34 a1 a2 a3 s0 γ → x_X7_judgeByRight_34 a1 a2 a3 s0 γ = res → W p l e (headSpec [Cond.code yX7_judgeByRight cX7_judgeByRight 7 (some .int)] ({ frames := 4, cells := 0, slots := 0, locals := 91 } : Room)).room s m ([.ref (kA κ 7 0), .int y1, .int y2] : List Value).toArray below meth c H locs 0 0 (MQ below (QQ κ (res.2) (some (.int res.1))) ([.ref (kA κ 7 0), .int y1, .int y2] : List Value).toArray s 0 0 (AA κ)) (F0 m 34 ls [.int s0]) := by
    intro a1 a2 a3 s0 γ H locs ls hl hH hS hk hq
    refine lv_istore (lv' := [(4, .int s0), (0, .ref (kA κ 7 0)), (1, .int a1), (2, .int a2), (3, .int a3)]) hx hb dX7_judgeByRight_34 hl (by decide) rfl (fun ls hl => ?_)
    refine lv_iload_n hx hb dX7_judgeByRight_36 rfl (lv_at hl 4 rfl) ?_
    refine lv_if_ne (tgt := 44) hx hb dX7_judgeByRight_37 (by decide) (fun c41 => ?_) (fun c41 => ?_)
    · have hk := ifn hk c41
      have hq := ifne hq c41
      refine lv_iload_n hx hb dX7_judgeByRight_44 rfl (lv_at hl 2 rfl) ?_
      exact b_45 a3 s0 a1 γ _ _ _ (lv_sub hl [1, 4, 0] rfl) hH hS hk hq
    · have hk := ifp hk c41
      have hq := ifpe hq c41
      refine lv_iload_n hx hb dX7_judgeByRight_40 rfl (lv_at hl 3 rfl) ?_
      refine lv_goto (tgt := 45) hx hb dX7_judgeByRight_41 (by decide) ?_
      exact b_45 a3 s0 a2 γ _ _ _ (lv_sub hl [1, 4, 0] rfl) hH hS hk hq
  have b_12 : ∀ (a1 : Int32) (a2 : Int32) (s0 : Int32) (γ : St) (H : Heap) (locs : List Loc) (ls : Array Slot), lv_has ls 7 [(0, .ref (kA κ 7 0)), (1, .int a1), (2, .int a2)] → HR κ γ H → va_S (AA κ) s.heap H locs → ok_X7_judgeByRight_12 a1 a2 s0 γ → x_X7_judgeByRight_12 a1 a2 s0 γ = res → W p l e (headSpec [Cond.code yX7_judgeByRight cX7_judgeByRight 7 (some .int)] ({ frames := 4, cells := 0, slots := 0, locals := 91 } : Room)).room s m ([.ref (kA κ 7 0), .int y1, .int y2] : List Value).toArray below meth c H locs 0 0 (MQ below (QQ κ (res.2) (some (.int res.1))) ([.ref (kA κ 7 0), .int y1, .int y2] : List Value).toArray s 0 0 (AA κ)) (F0 m 12 ls [.int s0]) := by
    intro a1 a2 s0 γ H locs ls hl hH hS hk hq
    refine lv_istore_n (lv' := [(3, .int s0), (0, .ref (kA κ 7 0)), (1, .int a1), (2, .int a2)]) hx hb dX7_judgeByRight_12 rfl hl (by decide) rfl (fun ls hl => ?_)
    refine lv_iload_n hx hb dX7_judgeByRight_13 rfl (lv_at hl 0 rfl) ?_
    refine lv_iconst (v := (-1)) hx hb dX7_judgeByRight_14 (by decide) ?_
    refine lv_icmp_ne (tgt := 25) hx hb dX7_judgeByRight_15 (by decide) (fun c42 => ?_) (fun c42 => ?_)
    · have hk := ifn hk c42
      have hq := ifne hq c42
      refine lv_iload_n hx hb dX7_judgeByRight_25 rfl (lv_at hl 0 rfl) ?_
      refine lv_if_ne (tgt := 33) hx hb dX7_judgeByRight_26 (by decide) (fun c43 => ?_) (fun c43 => ?_)
      · have hk := ifn hk c43
        have hq := ifne hq c43
        refine lv_iload_n hx hb dX7_judgeByRight_33 rfl (lv_at hl 3 rfl) ?_
        exact b_34 a1 a2 s0 a2 γ _ _ _ (lv_sub hl [1, 2, 3, 0] rfl) hH hS hk hq
      · have hk := ifp hk c43
        have hq := ifpe hq c43
        refine lv_iload_n hx hb dX7_judgeByRight_29 rfl (lv_at hl 2 rfl) ?_
        refine lv_goto (tgt := 34) hx hb dX7_judgeByRight_30 (by decide) ?_
        exact b_34 a1 a2 s0 a1 γ _ _ _ (lv_sub hl [1, 2, 3, 0] rfl) hH hS hk hq
    · have hk := ifp hk c42
      have hq := ifpe hq c42
      refine lv_aload_n hx hb dX7_judgeByRight_18 rfl (lv_at hl 1 rfl) ?_
      refine lv_iconst (v := 4) hx hb dX7_judgeByRight_19 (by decide) ?_
      refine lv_iconst (v := 0) hx hb dX7_judgeByRight_20 (by decide) ?_
      refine k_callV (C := RX7) (T := TX7) (N := 10) (rest := []) hC hl hH hS (c_X7_because l κ γ 4 0) lv_7 rfl rfl tw_596 tw_598 tw_21 tw_38 tw_599 hd_X7_because ⟨Nat.le_of_ble_eq_true rfl, Nat.le_of_ble_eq_true rfl⟩ rfl rfl rfl rfl (Nat.le_of_ble_eq_true rfl) dX7_judgeByRight_21 ⟨Nat.le_of_ble_eq_true rfl, Nat.le_of_ble_eq_true rfl⟩ rfl (fun H locs hH hS => ?_)
      subst hq
      exact kr_i hC hr hH hS rfl rfl dX7_judgeByRight_24
  refine lv_aload_n hx hb dX7_judgeByRight_0 rfl (lv_at hl 0 rfl) ?_
  refine hp_get (v := .ref (kA κ 4 0)) (C := RX7) (T := TX7) (N := 10) hC inX7 hH lv_7 rfl rfl 2 (by decide) tw_149 rfl rfl dX7_judgeByRight_1 ?_
  refine lv_iload_n hx hb dX7_judgeByRight_4 rfl (lv_at hl 1 rfl) ?_
  refine lv_iload_n hx hb dX7_judgeByRight_5 rfl (lv_at hl 2 rfl) ?_
  refine va_mmax hx hb (by rw [hml]; exact hl.1.symm) hown (hT _ tw_611) (hT _ tw_386) (hT _ tw_52) (hT _ tw_387) (Nat.le_of_ble_eq_true rfl) (Nat.le_of_ble_eq_true rfl) (Nat.le_of_ble_eq_true rfl) (Nat.le_of_ble_eq_true rfl) dX7_judgeByRight_6 ?_
  obtain ⟨hc44, hk⟩ := hk
  refine k_callV (C := RX4) (T := TX4) (N := 7) (rest := []) hC hl hH hS (c_X4_holderAhead l κ γ (if y1 < y2 then y2 else y1) hc44) lv_4 rfl rfl tw_612 tw_613 tw_614 tw_39 tw_615 hd_X4_holderAhead ⟨Nat.le_of_ble_eq_true rfl, Nat.le_of_ble_eq_true rfl⟩ rfl rfl rfl rfl (Nat.le_of_ble_eq_true rfl) dX7_judgeByRight_9 ⟨Nat.le_of_ble_eq_true rfl, Nat.le_of_ble_eq_true rfl⟩ rfl (fun H locs hH hS => ?_)
  exact b_12 y1 y2 ((x_X4_holderAhead (if y1 < y2 then y2 else y1) γ).1) (x_X4_holderAhead (if y1 < y2 then y2 else y1) γ).2 _ _ _ (lv_sub hl [0, 1, 2] rfl) hH hS hk hq
set_option maxRecDepth 20000 in
set_option maxHeartbeats 4000000 in
theorem c_X7_judgeFor (l : Launch) (κ : KP) (γ : St) (y1 : Int32) (y2 : Int32) (hk : ok_X7_judgeFor y1 y2 γ) : Met l yX7_judgeFor [Cond.code yX7_judgeFor cX7_judgeFor 6 (some .int)] ({ frames := 5, cells := 0, slots := 0, locals := 117 } : Room) (va_Pc [.ref (kA κ 7 0), .int y1, .int y2] (GG κ γ)) (QQ κ (((x_X7_judgeFor y1 y2 γ)).2) (some (.int (((x_X7_judgeFor y1 y2 γ)).1)))) 0 0 (AA κ) := by
  generalize hq : x_X7_judgeFor y1 y2 γ = res
  refine Met.ofW (cc := cX7_judgeFor) (maxL := 6) (ret := (some .int)) (by decide) rfl ?_
  intro p e s m args below meth c s₁ B hml9 hv
  obtain ⟨rfl, hH, hK9, hB9, hX9, hZ9⟩ := hv
  have hC : CX κ cX7_judgeFor "Phrasehall" 6 p l s m ([.ref (kA κ 7 0), .int y1, .int y2] : List Value).toArray meth c := ⟨B.exec, B.bytes, findClass_of_methodNamed B.named, fun w hw => tw_use (List.mem_filter.mp hw).2 (State.WarmedH.refl s) (hX9.1 w hw), hK9, hX9, hZ9, hB9, hml9, B.notSynchronized⟩
  obtain ⟨hx, hb, hown, hT, -, -, -, -, hml, -⟩ := id hC
  have hr := B.returns
  have hS : va_S (AA κ) s.heap s.heap [] := va_S.rf
  have hl := lv_entry ([.ref (kA κ 7 0), .int y1, .int y2]) (n := 6) (Nat.le_of_ble_eq_true rfl)
  rw [lg_entry_eq]
  generalize (lg_sl ([.ref (kA κ 7 0), .int y1, .int y2]) ++ List.replicate (6 - (lg_sl ([.ref (kA κ 7 0), .int y1, .int y2])).length) Slot.unset).toArray = ls at hl ⊢
  have hl : lv_has ls 6 [(0, .ref (kA κ 7 0)), (1, .int y1), (2, .int y2)] := hl
  have b_93 : ∀ (s0 : Int32) (γ : St) (H : Heap) (locs : List Loc) (ls : Array Slot), lv_has ls 6 [] → HR κ γ H → va_S (AA κ) s.heap H locs → ok_X7_judgeFor_93 s0 γ → x_X7_judgeFor_93 s0 γ = res → W p l e (headSpec [Cond.code yX7_judgeFor cX7_judgeFor 6 (some .int)] ({ frames := 5, cells := 0, slots := 0, locals := 117 } : Room)).room s m ([.ref (kA κ 7 0), .int y1, .int y2] : List Value).toArray below meth c H locs 0 0 (MQ below (QQ κ (res.2) (some (.int res.1))) ([.ref (kA κ 7 0), .int y1, .int y2] : List Value).toArray s 0 0 (AA κ)) (F0 m 93 ls [.int s0]) := by
    intro s0 γ H locs ls hl hH hS hk hq
    refine lv_goto (tgt := 102) hx hb dX7_judgeFor_93 (by decide) ?_
    subst hq
    exact kr_i hC hr hH hS rfl rfl dX7_judgeFor_102
  have b_87 : ∀ (s0 : Int32) (s1 : Int32) (γ : St) (H : Heap) (locs : List Loc) (ls : Array Slot), lv_has ls 6 [] → HR κ γ H → va_S (AA κ) s.heap H locs → ok_X7_judgeFor_87 s0 s1 γ → x_X7_judgeFor_87 s0 s1 γ = res → W p l e (headSpec [Cond.code yX7_judgeFor cX7_judgeFor 6 (some .int)] ({ frames := 5, cells := 0, slots := 0, locals := 117 } : Room)).room s m ([.ref (kA κ 7 0), .int y1, .int y2] : List Value).toArray below meth c H locs 0 0 (MQ below (QQ κ (res.2) (some (.int res.1))) ([.ref (kA κ 7 0), .int y1, .int y2] : List Value).toArray s 0 0 (AA κ)) (F0 m 87 ls [.int s0, .int s1, .ref (kA κ 7 0)]) := by
    intro s0 s1 γ H locs ls hl hH hS hk hq
    refine k_callS (rest := [.int s1, .ref (kA κ 7 0)]) hC hl hH hS (c_X7_bitOf l κ γ s0) tw_604 tw_605 tw_38 tw_606 hd_X7_bitOf ⟨Nat.le_of_ble_eq_true rfl, Nat.le_of_ble_eq_true rfl⟩ rfl rfl rfl rfl (Nat.le_of_ble_eq_true rfl) dX7_judgeFor_87 ⟨Nat.le_of_ble_eq_true rfl, Nat.le_of_ble_eq_true rfl⟩ rfl (fun H locs hH hS => ?_)
    refine k_callV (C := RX7) (T := TX7) (N := 10) (rest := []) hC hl hH hS (c_X7_because l κ γ s1 ((x_X7_bitOf s0 γ))) lv_7 rfl rfl tw_596 tw_598 tw_21 tw_38 tw_599 hd_X7_because ⟨Nat.le_of_ble_eq_true rfl, Nat.le_of_ble_eq_true rfl⟩ rfl rfl rfl rfl (Nat.le_of_ble_eq_true rfl) dX7_judgeFor_90 ⟨Nat.le_of_ble_eq_true rfl, Nat.le_of_ble_eq_true rfl⟩ rfl (fun H locs hH hS => ?_)
    exact b_93 ((x_X7_because s1 ((x_X7_bitOf s0 γ)) γ).1) (x_X7_because s1 ((x_X7_bitOf s0 γ)) γ).2 _ _ _ (lv_sub hl [] rfl) hH hS hk hq
  have b_61 : ∀ (a3 : Int32) (s0 : Int32) (γ : St) (H : Heap) (locs : List Loc) (ls : Array Slot), lv_has ls 6 [(0, .ref (kA κ 7 0)), (3, .int a3)] → HR κ γ H → va_S (AA κ) s.heap H locs → ok_X7_judgeFor_61 a3 s0 γ → x_X7_judgeFor_61 a3 s0 γ = res → W p l e (headSpec [Cond.code yX7_judgeFor cX7_judgeFor 6 (some .int)] ({ frames := 5, cells := 0, slots := 0, locals := 117 } : Room)).room s m ([.ref (kA κ 7 0), .int y1, .int y2] : List Value).toArray below meth c H locs 0 0 (MQ below (QQ κ (res.2) (some (.int res.1))) ([.ref (kA κ 7 0), .int y1, .int y2] : List Value).toArray s 0 0 (AA κ)) (F0 m 61 ls [.int s0]) := by
    intro a3 s0 γ H locs ls hl hH hS hk hq
    refine lv_istore (lv' := [(5, .int s0), (0, .ref (kA κ 7 0)), (3, .int a3)]) hx hb dX7_judgeFor_61 hl (by decide) rfl (fun ls hl => ?_)
    refine lv_aload_n hx hb dX7_judgeFor_63 rfl (lv_at hl 1 rfl) ?_
    refine hp_get (v := .ref (kA κ 4 0)) (C := RX7) (T := TX7) (N := 10) hC inX7 hH lv_7 rfl rfl 2 (by decide) tw_149 rfl rfl dX7_judgeFor_64 ?_
    refine lv_iload hx hb dX7_judgeFor_67 (lv_at hl 0 rfl) ?_
    obtain ⟨hc40, hk⟩ := hk
    refine k_callV (C := RX4) (T := TX4) (N := 7) (rest := []) hC hl hH hS (c_X4_targetAt l κ γ s0 hc40) lv_4 rfl rfl tw_600 tw_601 tw_602 tw_39 tw_603 hd_X4_targetAt ⟨Nat.le_of_ble_eq_true rfl, Nat.le_of_ble_eq_true rfl⟩ rfl rfl rfl rfl (Nat.le_of_ble_eq_true rfl) dX7_judgeFor_69 ⟨Nat.le_of_ble_eq_true rfl, Nat.le_of_ble_eq_true rfl⟩ rfl (fun H locs hH hS => ?_)
    refine lv_if_ne (tgt := 96) hx hb dX7_judgeFor_72 (by decide) (fun c41 => ?_) (fun c41 => ?_)
    · have hk := ifn hk c41
      have hq := ifne hq c41
      refine lv_aload_n hx hb dX7_judgeFor_96 rfl (lv_at hl 1 rfl) ?_
      refine lv_iconst (v := 2) hx hb dX7_judgeFor_97 (by decide) ?_
      refine lv_iconst (v := 0) hx hb dX7_judgeFor_98 (by decide) ?_
      refine k_callV (C := RX7) (T := TX7) (N := 10) (rest := []) hC hl hH hS (c_X7_because l κ γ 2 0) lv_7 rfl rfl tw_596 tw_598 tw_21 tw_38 tw_599 hd_X7_because ⟨Nat.le_of_ble_eq_true rfl, Nat.le_of_ble_eq_true rfl⟩ rfl rfl rfl rfl (Nat.le_of_ble_eq_true rfl) dX7_judgeFor_99 ⟨Nat.le_of_ble_eq_true rfl, Nat.le_of_ble_eq_true rfl⟩ rfl (fun H locs hH hS => ?_)
      subst hq
      exact kr_i hC hr hH hS rfl rfl dX7_judgeFor_102
    · have hk := ifp hk c41
      have hq := ifpe hq c41
      refine lv_aload_n hx hb dX7_judgeFor_75 rfl (lv_at hl 1 rfl) ?_
      refine lv_iconst (v := 1) hx hb dX7_judgeFor_76 (by decide) ?_
      refine lv_iload_n hx hb dX7_judgeFor_77 rfl (lv_at hl 2 rfl) ?_
      refine lv_iconst (v := (-1)) hx hb dX7_judgeFor_78 (by decide) ?_
      refine lv_icmp_ne (tgt := 86) hx hb dX7_judgeFor_79 (by decide) (fun c42 => ?_) (fun c42 => ?_)
      · have hk := ifn hk c42
        have hq := ifne hq c42
        refine lv_iconst (v := 0) hx hb dX7_judgeFor_86 (by decide) ?_
        exact b_87 0 1 γ _ _ _ (lv_sub hl [] rfl) hH hS hk hq
      · have hk := ifp hk c42
        have hq := ifpe hq c42
        refine lv_iconst (v := 1) hx hb dX7_judgeFor_82 (by decide) ?_
        refine lv_goto (tgt := 87) hx hb dX7_judgeFor_83 (by decide) ?_
        exact b_87 1 1 γ _ _ _ (lv_sub hl [] rfl) hH hS hk hq
  have b_50 : ∀ (a3 : Int32) (a4 : Int32) (γ : St) (H : Heap) (locs : List Loc) (ls : Array Slot), lv_has ls 6 [(0, .ref (kA κ 7 0)), (3, .int a3), (4, .int a4)] → HR κ γ H → va_S (AA κ) s.heap H locs → ok_X7_judgeFor_50 a3 a4 γ → x_X7_judgeFor_50 a3 a4 γ = res → W p l e (headSpec [Cond.code yX7_judgeFor cX7_judgeFor 6 (some .int)] ({ frames := 5, cells := 0, slots := 0, locals := 117 } : Room)).room s m ([.ref (kA κ 7 0), .int y1, .int y2] : List Value).toArray below meth c H locs 0 0 (MQ below (QQ κ (res.2) (some (.int res.1))) ([.ref (kA κ 7 0), .int y1, .int y2] : List Value).toArray s 0 0 (AA κ)) (F0 m 50 ls []) := by
    intro a3 a4 γ H locs ls hl hH hS hk hq
    refine lv_iload_n hx hb dX7_judgeFor_50 rfl (lv_at hl 1 rfl) ?_
    refine lv_iconst (v := (-1)) hx hb dX7_judgeFor_51 (by decide) ?_
    refine lv_icmp_ne (tgt := 60) hx hb dX7_judgeFor_52 (by decide) (fun c43 => ?_) (fun c43 => ?_)
    · have hk := ifn hk c43
      have hq := ifne hq c43
      refine lv_iload_n hx hb dX7_judgeFor_60 rfl (lv_at hl 1 rfl) ?_
      exact b_61 a3 a3 γ _ _ _ (lv_sub hl [0, 1] rfl) hH hS hk hq
    · have hk := ifp hk c43
      have hq := ifpe hq c43
      refine lv_iload hx hb dX7_judgeFor_55 (lv_at hl 2 rfl) ?_
      refine lv_goto (tgt := 61) hx hb dX7_judgeFor_57 (by decide) ?_
      exact b_61 a3 a4 γ _ _ _ (lv_sub hl [0, 1] rfl) hH hS hk hq
  have b_119 : ∀ (s0 : Int32) (s1 : Int32) (γ : St) (H : Heap) (locs : List Loc) (ls : Array Slot), lv_has ls 6 [] → HR κ γ H → va_S (AA κ) s.heap H locs → ok_X7_judgeFor_119 s0 s1 γ → x_X7_judgeFor_119 s0 s1 γ = res → W p l e (headSpec [Cond.code yX7_judgeFor cX7_judgeFor 6 (some .int)] ({ frames := 5, cells := 0, slots := 0, locals := 117 } : Room)).room s m ([.ref (kA κ 7 0), .int y1, .int y2] : List Value).toArray below meth c H locs 0 0 (MQ below (QQ κ (res.2) (some (.int res.1))) ([.ref (kA κ 7 0), .int y1, .int y2] : List Value).toArray s 0 0 (AA κ)) (F0 m 119 ls [.int s0, .int s1, .ref (kA κ 7 0)]) := by
    intro s0 s1 γ H locs ls hl hH hS hk hq
    refine k_callV (C := RX7) (T := TX7) (N := 10) (rest := []) hC hl hH hS (c_X7_because l κ γ s1 s0) lv_7 rfl rfl tw_596 tw_598 tw_21 tw_38 tw_599 hd_X7_because ⟨Nat.le_of_ble_eq_true rfl, Nat.le_of_ble_eq_true rfl⟩ rfl rfl rfl rfl (Nat.le_of_ble_eq_true rfl) dX7_judgeFor_119 ⟨Nat.le_of_ble_eq_true rfl, Nat.le_of_ble_eq_true rfl⟩ rfl (fun H locs hH hS => ?_)
    subst hq
    exact kr_i hC hr hH hS rfl rfl dX7_judgeFor_122
  have b_39 : ∀ (a1 : Int32) (a2 : Int32) (a3 : Int32) (a4 : Int32) (γ : St) (H : Heap) (locs : List Loc) (ls : Array Slot), lv_has ls 6 [(0, .ref (kA κ 7 0)), (1, .int a1), (2, .int a2), (3, .int a3), (4, .int a4)] → HR κ γ H → va_S (AA κ) s.heap H locs → ok_X7_judgeFor_39 a1 a2 a3 a4 γ → x_X7_judgeFor_39 a1 a2 a3 a4 γ = res → W p l e (headSpec [Cond.code yX7_judgeFor cX7_judgeFor 6 (some .int)] ({ frames := 5, cells := 0, slots := 0, locals := 117 } : Room)).room s m ([.ref (kA κ 7 0), .int y1, .int y2] : List Value).toArray below meth c H locs 0 0 (MQ below (QQ κ (res.2) (some (.int res.1))) ([.ref (kA κ 7 0), .int y1, .int y2] : List Value).toArray s 0 0 (AA κ)) (F0 m 39 ls []) := by
    intro a1 a2 a3 a4 γ H locs ls hl hH hS hk hq
    refine lv_iload_n hx hb dX7_judgeFor_39 rfl (lv_at hl 3 rfl) ?_
    refine lv_iconst (v := (-1)) hx hb dX7_judgeFor_40 (by decide) ?_
    refine lv_icmp_eq (tgt := 50) hx hb dX7_judgeFor_41 (by decide) (fun c44 => ?_) (fun c44 => ?_)
    · have hk := ifp hk c44
      have hq := ifpe hq c44
      exact b_50 a3 a4 γ _ _ _ (lv_sub hl [0, 3, 4] rfl) hH hS hk hq
    · have hk := ifn hk c44
      have hq := ifne hq c44
      refine lv_iload hx hb dX7_judgeFor_44 (lv_at hl 4 rfl) ?_
      refine lv_iconst (v := (-1)) hx hb dX7_judgeFor_46 (by decide) ?_
      refine lv_icmp_ne (tgt := 103) hx hb dX7_judgeFor_47 (by decide) (fun c45 => ?_) (fun c45 => ?_)
      · have hk := ifn hk c45
        have hq := ifne hq c45
        refine lv_iload_n hx hb dX7_judgeFor_103 rfl (lv_at hl 1 rfl) ?_
        refine lv_iconst (v := 1) hx hb dX7_judgeFor_104 (by decide) ?_
        refine lv_icmp_ne (tgt := 123) hx hb dX7_judgeFor_105 (by decide) (fun c46 => ?_) (fun c46 => ?_)
        · have hk := ifn hk c46
          have hq := ifne hq c46
          refine lv_aload_n hx hb dX7_judgeFor_123 rfl (lv_at hl 0 rfl) ?_
          refine lv_iload_n hx hb dX7_judgeFor_124 rfl (lv_at hl 3 rfl) ?_
          refine lv_iload hx hb dX7_judgeFor_125 (lv_at hl 4 rfl) ?_
          obtain ⟨hc47, hk⟩ := hk
          refine k_callV (C := RX7) (T := TX7) (N := 10) (rest := []) hC hl hH hS (c_X7_judgeByRight l κ γ a3 a4 hc47) lv_7 rfl rfl tw_607 tw_609 tw_22 tw_38 tw_610 hd_X7_judgeByRight ⟨Nat.le_of_ble_eq_true rfl, Nat.le_of_ble_eq_true rfl⟩ rfl rfl rfl rfl (Nat.le_of_ble_eq_true rfl) dX7_judgeFor_127 ⟨Nat.le_of_ble_eq_true rfl, Nat.le_of_ble_eq_true rfl⟩ rfl (fun H locs hH hS => ?_)
          subst hq
          exact kr_i hC hr hH hS rfl rfl dX7_judgeFor_130
        · have hk := ifp hk c46
          have hq := ifpe hq c46
          refine lv_aload_n hx hb dX7_judgeFor_108 rfl (lv_at hl 0 rfl) ?_
          refine lv_iconst (v := 3) hx hb dX7_judgeFor_109 (by decide) ?_
          refine lv_iload_n hx hb dX7_judgeFor_110 rfl (lv_at hl 2 rfl) ?_
          refine lv_if_eq (tgt := 118) hx hb dX7_judgeFor_111 (by decide) (fun c48 => ?_) (fun c48 => ?_)
          · have hk := ifp hk c48
            have hq := ifpe hq c48
            refine lv_iconst (v := 3) hx hb dX7_judgeFor_118 (by decide) ?_
            exact b_119 3 3 γ _ _ _ (lv_sub hl [] rfl) hH hS hk hq
          · have hk := ifn hk c48
            have hq := ifne hq c48
            refine lv_iconst (v := 0) hx hb dX7_judgeFor_114 (by decide) ?_
            refine lv_goto (tgt := 119) hx hb dX7_judgeFor_115 (by decide) ?_
            exact b_119 0 3 γ _ _ _ (lv_sub hl [] rfl) hH hS hk hq
      · have hk := ifp hk c45
        have hq := ifpe hq c45
        exact b_50 a3 a4 γ _ _ _ (lv_sub hl [0, 3, 4] rfl) hH hS hk hq
  refine lv_aload_n hx hb dX7_judgeFor_0 rfl (lv_at hl 0 rfl) ?_
  refine hp_get (v := .ref (kA κ 4 0)) (C := RX7) (T := TX7) (N := 10) hC inX7 hH lv_7 rfl rfl 2 (by decide) tw_149 rfl rfl dX7_judgeFor_1 ?_
  refine lv_iconst (v := 0) hx hb dX7_judgeFor_4 (by decide) ?_
  refine lv_iload_n hx hb dX7_judgeFor_5 rfl (lv_at hl 1 rfl) ?_
  obtain ⟨hc49, hk⟩ := hk
  refine k_callV (C := RX4) (T := TX4) (N := 7) (rest := []) hC hl hH hS (c_X4_registered l κ γ 0 y1 hc49) lv_4 rfl rfl tw_582 tw_583 tw_584 tw_39 tw_585 hd_X4_registered ⟨Nat.le_of_ble_eq_true rfl, Nat.le_of_ble_eq_true rfl⟩ rfl rfl rfl rfl (Nat.le_of_ble_eq_true rfl) dX7_judgeFor_6 ⟨Nat.le_of_ble_eq_true rfl, Nat.le_of_ble_eq_true rfl⟩ rfl (fun H locs hH hS => ?_)
  refine lv_istore_n (lv' := [(3, .int ((x_X4_registered 0 y1 γ))), (0, .ref (kA κ 7 0)), (1, .int y1), (2, .int y2)]) hx hb dX7_judgeFor_9 rfl hl (by decide) rfl (fun ls hl => ?_)
  refine lv_aload_n hx hb dX7_judgeFor_10 rfl (lv_at hl 1 rfl) ?_
  refine hp_get (v := .ref (kA κ 4 0)) (C := RX7) (T := TX7) (N := 10) hC inX7 hH lv_7 rfl rfl 2 (by decide) tw_149 rfl rfl dX7_judgeFor_11 ?_
  refine lv_iconst (v := 1) hx hb dX7_judgeFor_14 (by decide) ?_
  refine lv_iload_n hx hb dX7_judgeFor_15 rfl (lv_at hl 2 rfl) ?_
  obtain ⟨hc50, hk⟩ := hk
  refine k_callV (C := RX4) (T := TX4) (N := 7) (rest := []) hC hl hH hS (c_X4_registered l κ γ 1 y1 hc50) lv_4 rfl rfl tw_582 tw_583 tw_584 tw_39 tw_585 hd_X4_registered ⟨Nat.le_of_ble_eq_true rfl, Nat.le_of_ble_eq_true rfl⟩ rfl rfl rfl rfl (Nat.le_of_ble_eq_true rfl) dX7_judgeFor_16 ⟨Nat.le_of_ble_eq_true rfl, Nat.le_of_ble_eq_true rfl⟩ rfl (fun H locs hH hS => ?_)
  refine lv_istore (lv' := [(4, .int ((x_X4_registered 1 y1 γ))), (3, .int ((x_X4_registered 0 y1 γ))), (0, .ref (kA κ 7 0)), (1, .int y1), (2, .int y2)]) hx hb dX7_judgeFor_19 hl (by decide) rfl (fun ls hl => ?_)
  refine lv_iload_n hx hb dX7_judgeFor_21 rfl (lv_at hl 1 rfl) ?_
  refine lv_iconst (v := (-1)) hx hb dX7_judgeFor_22 (by decide) ?_
  refine lv_icmp_ne (tgt := 39) hx hb dX7_judgeFor_23 (by decide) (fun c51 => ?_) (fun c51 => ?_)
  · have hk := ifn hk c51
    have hq := ifne hq c51
    exact b_39 y1 y2 ((x_X4_registered 0 y1 γ)) ((x_X4_registered 1 y1 γ)) γ _ _ _ (lv_sub hl [2, 3, 4, 1, 0] rfl) hH hS hk hq
  · have hk := ifp hk c51
    have hq := ifpe hq c51
    refine lv_iload hx hb dX7_judgeFor_26 (lv_at hl 0 rfl) ?_
    refine lv_iconst (v := (-1)) hx hb dX7_judgeFor_28 (by decide) ?_
    refine lv_icmp_ne (tgt := 39) hx hb dX7_judgeFor_29 (by decide) (fun c52 => ?_) (fun c52 => ?_)
    · have hk := ifn hk c52
      have hq := ifne hq c52
      exact b_39 y1 y2 ((x_X4_registered 0 y1 γ)) ((x_X4_registered 1 y1 γ)) γ _ _ _ (lv_sub hl [2, 3, 4, 1, 0] rfl) hH hS hk hq
    · have hk := ifp hk c52
      have hq := ifpe hq c52
      refine lv_aload_n hx hb dX7_judgeFor_32 rfl (lv_at hl 2 rfl) ?_
      refine lv_iconst (v := 0) hx hb dX7_judgeFor_33 (by decide) ?_
      refine lv_iconst (v := 0) hx hb dX7_judgeFor_34 (by decide) ?_
      refine k_callV (C := RX7) (T := TX7) (N := 10) (rest := []) hC hl hH hS (c_X7_because l κ γ 0 0) lv_7 rfl rfl tw_596 tw_598 tw_21 tw_38 tw_599 hd_X7_because ⟨Nat.le_of_ble_eq_true rfl, Nat.le_of_ble_eq_true rfl⟩ rfl rfl rfl rfl (Nat.le_of_ble_eq_true rfl) dX7_judgeFor_35 ⟨Nat.le_of_ble_eq_true rfl, Nat.le_of_ble_eq_true rfl⟩ rfl (fun H locs hH hS => ?_)
      subst hq
      exact kr_i hC hr hH hS rfl rfl dX7_judgeFor_38
set_option maxRecDepth 20000 in
set_option maxHeartbeats 4000000 in
theorem c_X7_judge (l : Launch) (hfl : l.stackTraces = false) (κ : KP) (γ : St) (hk : ok_X7_judge γ) : vx_Met l yX7_judge [Cond.code yX7_judge cX7_judge 3 (some .int)] ({ frames := 7, cells := 1, slots := 6, locals := 142 } : Room) (va_Pc [.ref (kA κ 7 0)] (GG κ γ)) (QX κ (((x_X7_judge γ)).2.2) (((x_X7_judge γ)).1) (some (.int (((x_X7_judge γ)).2.1)))) (XX κ (((x_X7_judge γ)).2.2) (((x_X7_judge γ)).1)) 1 6 (AA κ) := by
  generalize hq : x_X7_judge γ = res
  refine vx_ofW (cc := cX7_judge) (maxL := 3) (ret := (some .int)) (by decide) rfl ?_
  intro p e s m args below meth c s₁ B hml9 ht hv
  obtain ⟨rfl, hH, hK9, hB9, hX9, hZ9⟩ := hv
  have hC : CX κ cX7_judge "Phrasehall" 3 p l s m ([.ref (kA κ 7 0)] : List Value).toArray meth c := ⟨B.exec, B.bytes, findClass_of_methodNamed B.named, fun w hw => tw_use (List.mem_filter.mp hw).2 (State.WarmedH.refl s) (hX9.1 w hw), hK9, hX9, hZ9, hB9, hml9, B.notSynchronized⟩
  obtain ⟨hx, hb, hown, hT, -, -, -, -, hml, -⟩ := id hC
  have hr := B.returns
  have hS : va_S (AA κ) s.heap s.heap [] := va_S.rf
  have hl := lv_entry ([.ref (kA κ 7 0)]) (n := 3) (Nat.le_of_ble_eq_true rfl)
  rw [lg_entry_eq]
  generalize (lg_sl ([.ref (kA κ 7 0)]) ++ List.replicate (3 - (lg_sl ([.ref (kA κ 7 0)])).length) Slot.unset).toArray = ls at hl ⊢
  have hl : lv_has ls 3 [(0, .ref (kA κ 7 0))] := hl
  have b_35 : ∀ (a2 : Int32) (γ : St) (H : Heap) (locs : List Loc) (ls : Array Slot), lv_has ls 3 [(2, .int a2)] → HR κ γ H → va_S (AA κ) s.heap H locs → ok_X7_judge_35 a2 γ → x_X7_judge_35 a2 γ = res → W p l e (headSpec [Cond.code yX7_judge cX7_judge 3 (some .int)] ({ frames := 7, cells := 1, slots := 6, locals := 142 } : Room)).room s m ([.ref (kA κ 7 0)] : List Value).toArray below meth c H locs 1 6 (vx_MQ below (QX κ (res.2.2) (res.1) (some (.int res.2.1))) (XX κ (res.2.2) (res.1)) ([.ref (kA κ 7 0)] : List Value).toArray s 1 6 (AA κ)) (F0 m 35 ls []) := by
    intro a2 γ H locs ls hl hH hS hk hq
    refine lv_iload_n hx hb dX7_judge_35 rfl (lv_at hl 0 rfl) ?_
    subst hq
    exact kx_of rfl (by decide) (by decide) (kr_i hC hr hH hS rfl rfl dX7_judge_36)
  have b_30 : ∀ (n1 : Nat) (a2 : Int32) (γ : St) (H : Heap) (locs : List Loc) (ls : Array Slot), lv_has ls 3 [(0, .ref (kA κ 7 0)), (1, .ref (kA κ 0 n1)), (2, .int a2)] → HR κ γ H → va_S (AA κ) s.heap H locs → (lv κ 0 n1) → ok_X7_judge_30 n1 a2 γ → x_X7_judge_30 n1 a2 γ = res → W p l e (headSpec [Cond.code yX7_judge cX7_judge 3 (some .int)] ({ frames := 7, cells := 1, slots := 6, locals := 142 } : Room)).room s m ([.ref (kA κ 7 0)] : List Value).toArray below meth c H locs 1 6 (vx_MQ below (QX κ (res.2.2) (res.1) (some (.int res.2.1))) (XX κ (res.2.2) (res.1)) ([.ref (kA κ 7 0)] : List Value).toArray s 1 6 (AA κ)) (F0 m 30 ls []) := by
    intro n1 a2 γ H locs ls hl hH hS hv_n1 hk hq
    refine lv_aload_n hx hb dX7_judge_30 rfl (lv_at hl 0 rfl) ?_
    refine lv_aload_n hx hb dX7_judge_31 rfl (lv_at hl 1 rfl) ?_
    obtain ⟨hc22, hk⟩ := hk
    refine k_callV (C := RX7) (T := TX7) (N := 10) (rest := []) hC hl hH hS (c_X7_clearPisteIfOver l κ γ n1 hv_n1 hc22) lv_7 rfl rfl tw_661 tw_663 tw_28 tw_38 tw_664 hd_X7_clearPisteIfOver ⟨Nat.le_of_ble_eq_true rfl, Nat.le_of_ble_eq_true rfl⟩ rfl rfl rfl rfl (Nat.le_of_ble_eq_true rfl) dX7_judge_32 ⟨Nat.le_of_ble_eq_true rfl, Nat.le_of_ble_eq_true rfl⟩ rfl (fun H locs hH hS => ?_)
    exact b_35 a2 (x_X7_clearPisteIfOver n1 γ) _ _ _ (lv_sub hl [2] rfl) hH hS hk hq
  have b_23 : ∀ (n1 : Nat) (a2 : Int32) (γ : St) (H : Heap) (locs : List Loc) (ls : Array Slot), lv_has ls 3 [(0, .ref (kA κ 7 0)), (1, .ref (kA κ 0 n1)), (2, .int a2)] → HR κ γ H → va_S (AA κ) s.heap H locs → (lv κ 0 n1) → ok_X7_judge_23 n1 a2 γ → x_X7_judge_23 n1 a2 γ = res → W p l e (headSpec [Cond.code yX7_judge cX7_judge 3 (some .int)] ({ frames := 7, cells := 1, slots := 6, locals := 142 } : Room)).room s m ([.ref (kA κ 7 0)] : List Value).toArray below meth c H locs 1 6 (vx_MQ below (QX κ (res.2.2) (res.1) (some (.int res.2.1))) (XX κ (res.2.2) (res.1)) ([.ref (kA κ 7 0)] : List Value).toArray s 1 6 (AA κ)) (F0 m 23 ls []) := by
    intro n1 a2 γ H locs ls hl hH hS hv_n1 hk hq
    refine lv_aload_n hx hb dX7_judge_23 rfl (lv_at hl 0 rfl) ?_
    refine hp_get (v := .ref (kA κ 4 0)) (C := RX7) (T := TX7) (N := 10) hC inX7 hH lv_7 rfl rfl 2 (by decide) tw_149 rfl rfl dX7_judge_24 ?_
    refine k_callV (C := RX4) (T := TX4) (N := 7) (rest := []) hC hl hH hS (c_X4_empty l κ γ) lv_4 rfl rfl tw_657 tw_658 tw_659 tw_39 tw_660 hd_X4_empty ⟨Nat.le_of_ble_eq_true rfl, Nat.le_of_ble_eq_true rfl⟩ rfl rfl rfl rfl (Nat.le_of_ble_eq_true rfl) dX7_judge_27 ⟨Nat.le_of_ble_eq_true rfl, Nat.le_of_ble_eq_true rfl⟩ rfl (fun H locs hH hS => ?_)
    exact b_30 n1 a2 (x_X4_empty γ) _ _ _ (lv_sub hl [0, 1, 2] rfl) hH hS hv_n1 hk hq
  have b_17 : ∀ (n1 : Nat) (s0 : Int32) (γ : St) (H : Heap) (locs : List Loc) (ls : Array Slot), lv_has ls 3 [(0, .ref (kA κ 7 0)), (1, .ref (kA κ 0 n1))] → HR κ γ H → va_S (AA κ) s.heap H locs → (lv κ 0 n1) → ok_X7_judge_17 n1 s0 γ → x_X7_judge_17 n1 s0 γ = res → W p l e (headSpec [Cond.code yX7_judge cX7_judge 3 (some .int)] ({ frames := 7, cells := 1, slots := 6, locals := 142 } : Room)).room s m ([.ref (kA κ 7 0)] : List Value).toArray below meth c H locs 1 6 (vx_MQ below (QX κ (res.2.2) (res.1) (some (.int res.2.1))) (XX κ (res.2.2) (res.1)) ([.ref (kA κ 7 0)] : List Value).toArray s 1 6 (AA κ)) (F0 m 17 ls [.int s0]) := by
    intro n1 s0 γ H locs ls hl hH hS hv_n1 hk hq
    refine lv_istore_n (lv' := [(2, .int s0), (0, .ref (kA κ 7 0)), (1, .ref (kA κ 0 n1))]) hx hb dX7_judge_17 rfl hl (by decide) rfl (fun ls hl => ?_)
    refine lv_aload_n hx hb dX7_judge_18 rfl (lv_at hl 2 rfl) ?_
    refine lv_iload_n hx hb dX7_judge_19 rfl (lv_at hl 0 rfl) ?_
    refine k_callV (C := RX0) (T := TX0) (N := 10) (rest := []) hC hl hH hS (c_X0_giveTouches l κ γ n1 s0 hv_n1) hv_n1 rfl rfl tw_637 tw_638 tw_639 tw_50 tw_640 hd_X0_giveTouches ⟨Nat.le_of_ble_eq_true rfl, Nat.le_of_ble_eq_true rfl⟩ rfl rfl rfl rfl (Nat.le_of_ble_eq_true rfl) dX7_judge_20 ⟨Nat.le_of_ble_eq_true rfl, Nat.le_of_ble_eq_true rfl⟩ rfl (fun H locs hH hS => ?_)
    exact b_23 n1 s0 (x_X0_giveTouches n1 s0 γ) _ _ _ (lv_sub hl [1, 2, 0] rfl) hH hS hv_n1 hk hq
  refine lv_aload_n hx hb dX7_judge_0 rfl (lv_at hl 0 rfl) ?_
  have hw23 : ∀ b : Nat, (x_X7_boutOnPiste γ).2.1 = some b → lv κ 0 b := lvr_X7_boutOnPiste hH.wt
  have hwt9 := hH.wt
  refine k_xcallV (C := RX7) (T := TX7) (N := 10) (rest := []) hC hl hH hS (c_X7_boutOnPiste l hfl κ γ) lv_7 rfl rfl tw_569 tw_571 tw_18 tw_38 tw_572 hd_X7_boutOnPiste ⟨Nat.le_of_ble_eq_true rfl, Nat.le_of_ble_eq_true rfl⟩ rfl rfl rfl rfl (Nat.le_of_ble_eq_true rfl) dX7_judge_1 ⟨Nat.le_of_ble_eq_true rfl, Nat.le_of_ble_eq_true rfl⟩ rfl (fun he24 ce q9 H locs hH hS hce hcv hcl => ?_) (fun he24 H locs hH hS => ?_)
  · have hq := ifne hq he24
    subst hq
    exact k_out hC ht he24 hH hS hce hcv hcl (Nat.le_of_ble_eq_true rfl) (Nat.le_of_ble_eq_true rfl)
  · have hk := ifp hk he24
    have hq := ifpe hq he24
    refine lv_astoreq_n (lv' := [(1, va_rf (((x_X7_boutOnPiste γ).2.1).map (kA κ 0))), (0, .ref (kA κ 7 0))]) hx hb dX7_judge_4 rfl hl (by decide) rfl (fun ls hl => ?_)
    refine lv_aload_n hx hb dX7_judge_5 rfl (lv_at hl 1 rfl) ?_
    refine lv_aloadq_n hx hb dX7_judge_6 rfl (lv_at hl 0 rfl) ?_
    rcases ho26 : (x_X7_boutOnPiste γ).2.1 with _ | b25
    · exact (oc_n hk ho26).elim
    · have hk := oc_s hk ho26
      have hq := oc_se hq ho26
      have hvb27 : lv κ 0 b25 := hw23 b25 ho26
      have hl : lv_has ls 3 [(1, .ref (kA κ 0 b25)), (0, .ref (kA κ 7 0))] := by first | exact hl | (rw [ho26] at hl; exact hl)
      refine hp_getN (v := .int (gV (x_X7_boutOnPiste γ).2.2 0 b25 2)) (C := RX0) (T := TX0) (N := 10) hC inX0 hH hvb27 rfl rfl 2 (by decide) nw_481 rfl rfl dX7_judge_7 ?_
      refine lv_aload_n hx hb dX7_judge_10 rfl (lv_at hl 0 rfl) ?_
      refine k_callV (C := RX0) (T := TX0) (N := 10) (rest := [.int (gV (x_X7_boutOnPiste γ).2.2 0 b25 2), .ref (kA κ 7 0)]) hC hl hH hS (c_X0_isDoubleTooFar l κ (x_X7_boutOnPiste γ).2.2 b25 hvb27) hvb27 rfl rfl tw_574 tw_575 tw_576 tw_50 tw_577 hd_X0_isDoubleTooFar ⟨Nat.le_of_ble_eq_true rfl, Nat.le_of_ble_eq_true rfl⟩ rfl rfl rfl rfl (Nat.le_of_ble_eq_true rfl) dX7_judge_11 ⟨Nat.le_of_ble_eq_true rfl, Nat.le_of_ble_eq_true rfl⟩ rfl (fun H locs hH hS => ?_)
      obtain ⟨hc28, hk⟩ := hk
      refine k_callV (C := RX7) (T := TX7) (N := 10) (rest := []) hC hl hH hS (c_X7_judgeFor l κ (x_X7_boutOnPiste γ).2.2 (gV (x_X7_boutOnPiste γ).2.2 0 b25 2) ((x_X0_isDoubleTooFar b25 (x_X7_boutOnPiste γ).2.2)) hc28) lv_7 rfl rfl tw_578 tw_580 tw_19 tw_38 tw_581 hd_X7_judgeFor ⟨Nat.le_of_ble_eq_true rfl, Nat.le_of_ble_eq_true rfl⟩ rfl rfl rfl rfl (Nat.le_of_ble_eq_true rfl) dX7_judge_14 ⟨Nat.le_of_ble_eq_true rfl, Nat.le_of_ble_eq_true rfl⟩ rfl (fun H locs hH hS => ?_)
      exact b_17 b25 ((x_X7_judgeFor (gV (x_X7_boutOnPiste γ).2.2 0 b25 2) ((x_X0_isDoubleTooFar b25 (x_X7_boutOnPiste γ).2.2)) (x_X7_boutOnPiste γ).2.2).1) (x_X7_judgeFor (gV (x_X7_boutOnPiste γ).2.2 0 b25 2) ((x_X0_isDoubleTooFar b25 (x_X7_boutOnPiste γ).2.2)) (x_X7_boutOnPiste γ).2.2).2 _ _ _ (lv_sub hl [1, 0] rfl) hH hS hvb27 hk hq
set_option maxRecDepth 20000 in
set_option maxHeartbeats 4000000 in
theorem c_X7_card (l : Launch) (hfl : l.stackTraces = false) (κ : KP) (γ : St) (y1 : Int32) (y2 : Int32) (hk : ok_X7_card y1 y2 γ) : vx_Met l yX7_card [Cond.code yX7_card cX7_card 5 (some .int)] ({ frames := 7, cells := 1, slots := 6, locals := 110 } : Room) (va_Pc [.ref (kA κ 7 0), .int y1, .int y2] (GG κ γ)) (QX κ (((x_X7_card y1 y2 γ)).2.2) (((x_X7_card y1 y2 γ)).1) (some (.int (((x_X7_card y1 y2 γ)).2.1)))) (XX κ (((x_X7_card y1 y2 γ)).2.2) (((x_X7_card y1 y2 γ)).1)) 1 6 (AA κ) := by
  generalize hq : x_X7_card y1 y2 γ = res
  refine vx_ofW (cc := cX7_card) (maxL := 5) (ret := (some .int)) (by decide) rfl ?_
  intro p e s m args below meth c s₁ B hml9 ht hv
  obtain ⟨rfl, hH, hK9, hB9, hX9, hZ9⟩ := hv
  have hC : CX κ cX7_card "Phrasehall" 5 p l s m ([.ref (kA κ 7 0), .int y1, .int y2] : List Value).toArray meth c := ⟨B.exec, B.bytes, findClass_of_methodNamed B.named, fun w hw => tw_use (List.mem_filter.mp hw).2 (State.WarmedH.refl s) (hX9.1 w hw), hK9, hX9, hZ9, hB9, hml9, B.notSynchronized⟩
  obtain ⟨hx, hb, hown, hT, -, -, -, -, hml, -⟩ := id hC
  have hr := B.returns
  have hS : va_S (AA κ) s.heap s.heap [] := va_S.rf
  have hl := lv_entry ([.ref (kA κ 7 0), .int y1, .int y2]) (n := 5) (Nat.le_of_ble_eq_true rfl)
  rw [lg_entry_eq]
  generalize (lg_sl ([.ref (kA κ 7 0), .int y1, .int y2]) ++ List.replicate (5 - (lg_sl ([.ref (kA κ 7 0), .int y1, .int y2])).length) Slot.unset).toArray = ls at hl ⊢
  have hl : lv_has ls 5 [(0, .ref (kA κ 7 0)), (1, .int y1), (2, .int y2)] := hl
  have b_16 : ∀ (γ : St) (H : Heap) (locs : List Loc) (ls : Array Slot), lv_has ls 5 [] → HR κ γ H → va_S (AA κ) s.heap H locs → ok_X7_card_16 γ → x_X7_card_16 γ = res → W p l e (headSpec [Cond.code yX7_card cX7_card 5 (some .int)] ({ frames := 7, cells := 1, slots := 6, locals := 110 } : Room)).room s m ([.ref (kA κ 7 0), .int y1, .int y2] : List Value).toArray below meth c H locs 0 0 (vx_MQ below (QX κ (res.2.2) (res.1) (some (.int res.2.1))) (XX κ (res.2.2) (res.1)) ([.ref (kA κ 7 0), .int y1, .int y2] : List Value).toArray s 1 6 (AA κ)) (F0 m 16 ls []) := by
    intro  γ H locs ls hl hH hS hk hq
    subst hq
    exact k_throw (en := 2) (text := "side or group is out of range") hC hfl ht hl hH hS rfl (by decide) tw_281 tw_46 (List.mem_of_getElem? (i := 17) rfl) at_IAE ot_IAE fit_2 dX7_card_16 dX7_card_19 dX7_card_20 dX7_card_22 dX7_card_25 (Nat.le_of_ble_eq_true rfl) (Nat.le_of_ble_eq_true rfl) (Nat.le_of_ble_eq_true rfl) (Nat.le_of_ble_eq_true rfl) (Nat.le_of_ble_eq_true rfl) (Nat.le_of_ble_eq_true rfl)
  have b_44 : ∀ (a4 : Int32) (γ : St) (H : Heap) (locs : List Loc) (ls : Array Slot), lv_has ls 5 [(4, .int a4)] → HR κ γ H → va_S (AA κ) s.heap H locs → ok_X7_card_44 a4 γ → x_X7_card_44 a4 γ = res → W p l e (headSpec [Cond.code yX7_card cX7_card 5 (some .int)] ({ frames := 7, cells := 1, slots := 6, locals := 110 } : Room)).room s m ([.ref (kA κ 7 0), .int y1, .int y2] : List Value).toArray below meth c H locs 1 6 (vx_MQ below (QX κ (res.2.2) (res.1) (some (.int res.2.1))) (XX κ (res.2.2) (res.1)) ([.ref (kA κ 7 0), .int y1, .int y2] : List Value).toArray s 1 6 (AA κ)) (F0 m 44 ls []) := by
    intro a4 γ H locs ls hl hH hS hk hq
    refine lv_iload hx hb dX7_card_44 (lv_at hl 0 rfl) ?_
    subst hq
    exact kx_of rfl (by decide) (by decide) (kr_i hC hr hH hS rfl rfl dX7_card_46)
  have b_37 : ∀ (n3 : Nat) (s0 : Int32) (γ : St) (H : Heap) (locs : List Loc) (ls : Array Slot), lv_has ls 5 [(0, .ref (kA κ 7 0)), (3, .ref (kA κ 0 n3))] → HR κ γ H → va_S (AA κ) s.heap H locs → (lv κ 0 n3) → ok_X7_card_37 n3 s0 γ → x_X7_card_37 n3 s0 γ = res → W p l e (headSpec [Cond.code yX7_card cX7_card 5 (some .int)] ({ frames := 7, cells := 1, slots := 6, locals := 110 } : Room)).room s m ([.ref (kA κ 7 0), .int y1, .int y2] : List Value).toArray below meth c H locs 1 6 (vx_MQ below (QX κ (res.2.2) (res.1) (some (.int res.2.1))) (XX κ (res.2.2) (res.1)) ([.ref (kA κ 7 0), .int y1, .int y2] : List Value).toArray s 1 6 (AA κ)) (F0 m 37 ls [.int s0]) := by
    intro n3 s0 γ H locs ls hl hH hS hv_n3 hk hq
    refine lv_istore (lv' := [(4, .int s0), (0, .ref (kA κ 7 0)), (3, .ref (kA κ 0 n3))]) hx hb dX7_card_37 hl (by decide) rfl (fun ls hl => ?_)
    refine lv_aload_n hx hb dX7_card_39 rfl (lv_at hl 1 rfl) ?_
    refine lv_aload_n hx hb dX7_card_40 rfl (lv_at hl 2 rfl) ?_
    obtain ⟨hc25, hk⟩ := hk
    refine k_callV (C := RX7) (T := TX7) (N := 10) (rest := []) hC hl hH hS (c_X7_clearPisteIfOver l κ γ n3 hv_n3 hc25) lv_7 rfl rfl tw_661 tw_663 tw_28 tw_38 tw_664 hd_X7_clearPisteIfOver ⟨Nat.le_of_ble_eq_true rfl, Nat.le_of_ble_eq_true rfl⟩ rfl rfl rfl rfl (Nat.le_of_ble_eq_true rfl) dX7_card_41 ⟨Nat.le_of_ble_eq_true rfl, Nat.le_of_ble_eq_true rfl⟩ rfl (fun H locs hH hS => ?_)
    exact b_44 s0 (x_X7_clearPisteIfOver n3 γ) _ _ _ (lv_sub hl [0] rfl) hH hS hk hq
  refine lv_iload_n hx hb dX7_card_0 rfl (lv_at hl 1 rfl) ?_
  refine k_callS (rest := []) hC hl hH hS (c_X7_isSide l κ γ y1) tw_521 tw_522 tw_38 tw_523 hd_X7_isSide ⟨Nat.le_of_ble_eq_true rfl, Nat.le_of_ble_eq_true rfl⟩ rfl rfl rfl rfl (Nat.le_of_ble_eq_true rfl) dX7_card_1 ⟨Nat.le_of_ble_eq_true rfl, Nat.le_of_ble_eq_true rfl⟩ rfl (fun H locs hH hS => ?_)
  refine lv_if_eq (tgt := 16) hx hb dX7_card_4 (by decide) (fun c26 => ?_) (fun c26 => ?_)
  · have hk := ifp hk c26
    have hq := ifpe hq c26
    exact b_16 γ _ _ _ (lv_sub hl [] rfl) hH hS hk hq
  · have hk := ifn hk c26
    have hq := ifne hq c26
    refine lv_iload_n hx hb dX7_card_7 rfl (lv_at hl 2 rfl) ?_
    refine lv_iconst (v := 1) hx hb dX7_card_8 (by decide) ?_
    refine lv_iconst (v := 3) hx hb dX7_card_9 (by decide) ?_
    refine k_callS (rest := []) hC hl hH hS (c_X7_isWithin l κ γ y2 1 3) tw_278 tw_279 tw_38 tw_280 hd_X7_isWithin ⟨Nat.le_of_ble_eq_true rfl, Nat.le_of_ble_eq_true rfl⟩ rfl rfl rfl rfl (Nat.le_of_ble_eq_true rfl) dX7_card_10 ⟨Nat.le_of_ble_eq_true rfl, Nat.le_of_ble_eq_true rfl⟩ rfl (fun H locs hH hS => ?_)
    refine lv_if_ne (tgt := 26) hx hb dX7_card_13 (by decide) (fun c27 => ?_) (fun c27 => ?_)
    · have hk := ifn hk c27
      have hq := ifne hq c27
      refine lv_aload_n hx hb dX7_card_26 rfl (lv_at hl 0 rfl) ?_
      have hw28 : ∀ b : Nat, (x_X7_boutOnPiste γ).2.1 = some b → lv κ 0 b := lvr_X7_boutOnPiste hH.wt
      have hwt9 := hH.wt
      refine k_xcallV (C := RX7) (T := TX7) (N := 10) (rest := []) hC hl hH hS (c_X7_boutOnPiste l hfl κ γ) lv_7 rfl rfl tw_569 tw_571 tw_18 tw_38 tw_572 hd_X7_boutOnPiste ⟨Nat.le_of_ble_eq_true rfl, Nat.le_of_ble_eq_true rfl⟩ rfl rfl rfl rfl (Nat.le_of_ble_eq_true rfl) dX7_card_27 ⟨Nat.le_of_ble_eq_true rfl, Nat.le_of_ble_eq_true rfl⟩ rfl (fun he29 ce q9 H locs hH hS hce hcv hcl => ?_) (fun he29 H locs hH hS => ?_)
      · have hq := ifne hq he29
        subst hq
        exact k_out hC ht he29 hH hS hce hcv hcl (Nat.le_of_ble_eq_true rfl) (Nat.le_of_ble_eq_true rfl)
      · have hk := ifp hk he29
        have hq := ifpe hq he29
        refine lv_astoreq_n (lv' := [(3, va_rf (((x_X7_boutOnPiste γ).2.1).map (kA κ 0))), (0, .ref (kA κ 7 0)), (1, .int y1), (2, .int y2)]) hx hb dX7_card_30 rfl hl (by decide) rfl (fun ls hl => ?_)
        refine lv_aloadq_n hx hb dX7_card_31 rfl (lv_at hl 0 rfl) ?_
        refine lv_iload_n hx hb dX7_card_32 rfl (lv_at hl 2 rfl) ?_
        refine lv_iload_n hx hb dX7_card_33 rfl (lv_at hl 3 rfl) ?_
        rcases ho31 : (x_X7_boutOnPiste γ).2.1 with _ | b30
        · exact (oc_n hk ho31).elim
        · have hk := oc_s hk ho31
          have hq := oc_se hq ho31
          have hvb32 : lv κ 0 b30 := hw28 b30 ho31
          have hl : lv_has ls 5 [(3, .ref (kA κ 0 b30)), (0, .ref (kA κ 7 0)), (1, .int y1), (2, .int y2)] := by first | exact hl | (rw [ho31] at hl; exact hl)
          refine k_callV (C := RX0) (T := TX0) (N := 10) (rest := []) hC hl hH hS (c_X0_giveCard l κ (x_X7_boutOnPiste γ).2.2 b30 y1 y2 hvb32) hvb32 rfl rfl tw_680 tw_681 tw_682 tw_50 tw_683 hd_X0_giveCard ⟨Nat.le_of_ble_eq_true rfl, Nat.le_of_ble_eq_true rfl⟩ rfl rfl rfl rfl (Nat.le_of_ble_eq_true rfl) dX7_card_34 ⟨Nat.le_of_ble_eq_true rfl, Nat.le_of_ble_eq_true rfl⟩ rfl (fun H locs hH hS => ?_)
          exact b_37 b30 ((x_X0_giveCard b30 y1 y2 (x_X7_boutOnPiste γ).2.2).1) (x_X0_giveCard b30 y1 y2 (x_X7_boutOnPiste γ).2.2).2 _ _ _ (lv_sub hl [1, 0] rfl) hH hS hvb32 hk hq
    · have hk := ifp hk c27
      have hq := ifpe hq c27
      exact b_16 γ _ _ _ (lv_sub hl [] rfl) hH hS hk hq
set_option maxRecDepth 20000 in
set_option maxHeartbeats 4000000 in
theorem c_X7_clock (l : Launch) (hfl : l.stackTraces = false) (κ : KP) (γ : St) (y1 : Int32) (hk : ok_X7_clock y1 γ) : vx_Met l yX7_clock [Cond.code yX7_clock cX7_clock 4 (some .int)] ({ frames := 7, cells := 1, slots := 6, locals := 110 } : Room) (va_Pc [.ref (kA κ 7 0), .int y1] (GG κ γ)) (QX κ (((x_X7_clock y1 γ)).2.2) (((x_X7_clock y1 γ)).1) (some (.int (((x_X7_clock y1 γ)).2.1)))) (XX κ (((x_X7_clock y1 γ)).2.2) (((x_X7_clock y1 γ)).1)) 1 6 (AA κ) := by
  generalize hq : x_X7_clock y1 γ = res
  refine vx_ofW (cc := cX7_clock) (maxL := 4) (ret := (some .int)) (by decide) rfl ?_
  intro p e s m args below meth c s₁ B hml9 ht hv
  obtain ⟨rfl, hH, hK9, hB9, hX9, hZ9⟩ := hv
  have hC : CX κ cX7_clock "Phrasehall" 4 p l s m ([.ref (kA κ 7 0), .int y1] : List Value).toArray meth c := ⟨B.exec, B.bytes, findClass_of_methodNamed B.named, fun w hw => tw_use (List.mem_filter.mp hw).2 (State.WarmedH.refl s) (hX9.1 w hw), hK9, hX9, hZ9, hB9, hml9, B.notSynchronized⟩
  obtain ⟨hx, hb, hown, hT, -, -, -, -, hml, -⟩ := id hC
  have hr := B.returns
  have hS : va_S (AA κ) s.heap s.heap [] := va_S.rf
  have hl := lv_entry ([.ref (kA κ 7 0), .int y1]) (n := 4) (Nat.le_of_ble_eq_true rfl)
  rw [lg_entry_eq]
  generalize (lg_sl ([.ref (kA κ 7 0), .int y1]) ++ List.replicate (4 - (lg_sl ([.ref (kA κ 7 0), .int y1])).length) Slot.unset).toArray = ls at hl ⊢
  have hl : lv_has ls 4 [(0, .ref (kA κ 7 0)), (1, .int y1)] := hl
  have b_59 : ∀ (n2 : Nat) (γ : St) (H : Heap) (locs : List Loc) (ls : Array Slot), lv_has ls 4 [(2, .ref (kA κ 0 n2))] → HR κ γ H → va_S (AA κ) s.heap H locs → (lv κ 0 n2) → ok_X7_clock_59 n2 γ → x_X7_clock_59 n2 γ = res → W p l e (headSpec [Cond.code yX7_clock cX7_clock 4 (some .int)] ({ frames := 7, cells := 1, slots := 6, locals := 110 } : Room)).room s m ([.ref (kA κ 7 0), .int y1] : List Value).toArray below meth c H locs 1 6 (vx_MQ below (QX κ (res.2.2) (res.1) (some (.int res.2.1))) (XX κ (res.2.2) (res.1)) ([.ref (kA κ 7 0), .int y1] : List Value).toArray s 1 6 (AA κ)) (F0 m 59 ls []) := by
    intro n2 γ H locs ls hl hH hS hv_n2 hk hq
    refine lv_aload_n hx hb dX7_clock_59 rfl (lv_at hl 0 rfl) ?_
    refine k_callV (C := RX0) (T := TX0) (N := 10) (rest := []) hC hl hH hS (c_X0_secondsLeft l κ γ n2 hv_n2) hv_n2 rfl rfl tw_725 tw_726 tw_727 tw_50 tw_728 hd_X0_secondsLeft ⟨Nat.le_of_ble_eq_true rfl, Nat.le_of_ble_eq_true rfl⟩ rfl rfl rfl rfl (Nat.le_of_ble_eq_true rfl) dX7_clock_60 ⟨Nat.le_of_ble_eq_true rfl, Nat.le_of_ble_eq_true rfl⟩ rfl (fun H locs hH hS => ?_)
    subst hq
    exact kx_of rfl (by decide) (by decide) (kr_i hC hr hH hS rfl rfl dX7_clock_63)
  have b_54 : ∀ (q2 : Option Nat) (γ : St) (H : Heap) (locs : List Loc) (ls : Array Slot), lv_has ls 4 [(0, .ref (kA κ 7 0)), (2, va_rf ((q2).map (kA κ 0)))] → HR κ γ H → va_S (AA κ) s.heap H locs → (∀ b : Nat, q2 = some b → lv κ 0 b) → ok_X7_clock_54 q2 γ → x_X7_clock_54 q2 γ = res → W p l e (headSpec [Cond.code yX7_clock cX7_clock 4 (some .int)] ({ frames := 7, cells := 1, slots := 6, locals := 110 } : Room)).room s m ([.ref (kA κ 7 0), .int y1] : List Value).toArray below meth c H locs 1 6 (vx_MQ below (QX κ (res.2.2) (res.1) (some (.int res.2.1))) (XX κ (res.2.2) (res.1)) ([.ref (kA κ 7 0), .int y1] : List Value).toArray s 1 6 (AA κ)) (F0 m 54 ls []) := by
    intro q2 γ H locs ls hl hH hS hw_q2 hk hq
    refine lv_aload_n hx hb dX7_clock_54 rfl (lv_at hl 0 rfl) ?_
    refine lv_aloadq_n hx hb dX7_clock_55 rfl (lv_at hl 1 rfl) ?_
    rcases ho38 : q2 with _ | b37
    · exact (oc_n hk ho38).elim
    · have hk := oc_s hk ho38
      have hq := oc_se hq ho38
      have hvb39 : lv κ 0 b37 := hw_q2 b37 ho38
      have hl : lv_has ls 4 [(0, .ref (kA κ 7 0)), (2, .ref (kA κ 0 b37))] := by first | exact hl | (rw [ho38] at hl; exact hl)
      obtain ⟨hc40, hk⟩ := hk
      refine k_callV (C := RX7) (T := TX7) (N := 10) (rest := []) hC hl hH hS (c_X7_clearPisteIfOver l κ γ b37 hvb39 hc40) lv_7 rfl rfl tw_661 tw_663 tw_28 tw_38 tw_664 hd_X7_clearPisteIfOver ⟨Nat.le_of_ble_eq_true rfl, Nat.le_of_ble_eq_true rfl⟩ rfl rfl rfl rfl (Nat.le_of_ble_eq_true rfl) dX7_clock_56 ⟨Nat.le_of_ble_eq_true rfl, Nat.le_of_ble_eq_true rfl⟩ rfl (fun H locs hH hS => ?_)
      exact b_59 b37 (x_X7_clearPisteIfOver b37 γ) _ _ _ (lv_sub hl [1] rfl) hH hS hvb39 hk hq
  have b_28 : ∀ (k28 : Nat) (a1 : Int32) (q2 : Option Nat) (a3 : Int32) (γ : St) (H : Heap) (locs : List Loc) (ls : Array Slot), lv_has ls 4 [(0, .ref (kA κ 7 0)), (1, .int a1), (2, va_rf ((q2).map (kA κ 0))), (3, .int a3)] → HR κ γ H → va_S (AA κ) s.heap H locs → (∀ b : Nat, q2 = some b → lv κ 0 b) → ok_X7_clock_28 k28 a1 q2 a3 γ → x_X7_clock_28 k28 a1 q2 a3 γ = res → W p l e (headSpec [Cond.code yX7_clock cX7_clock 4 (some .int)] ({ frames := 7, cells := 1, slots := 6, locals := 110 } : Room)).room s m ([.ref (kA κ 7 0), .int y1] : List Value).toArray below meth c H locs 1 6 (vx_MQ below (QX κ (res.2.2) (res.1) (some (.int res.2.1))) (XX κ (res.2.2) (res.1)) ([.ref (kA κ 7 0), .int y1] : List Value).toArray s 1 6 (AA κ)) (F0 m 28 ls []) := by
    intro k28
    induction k28 with
    | zero =>
      intro a1 q2 a3 γ H locs ls hl hH hS hw_q2 hk hq
      exact (show False from hk).elim
    | succ k28 ih_28 =>
      have b_48 : ∀ (a1 : Int32) (n2 : Nat) (a3 : Int32) (γ : St) (H : Heap) (locs : List Loc) (ls : Array Slot), lv_has ls 4 [(0, .ref (kA κ 7 0)), (1, .int a1), (2, .ref (kA κ 0 n2)), (3, .int a3)] → HR κ γ H → va_S (AA κ) s.heap H locs → (lv κ 0 n2) → ok_X7_clock_48 (ok_X7_clock_28 k28) a1 n2 a3 γ → x_X7_clock_48 (x_X7_clock_28 k28) a1 n2 a3 γ = res → W p l e (headSpec [Cond.code yX7_clock cX7_clock 4 (some .int)] ({ frames := 7, cells := 1, slots := 6, locals := 110 } : Room)).room s m ([.ref (kA κ 7 0), .int y1] : List Value).toArray below meth c H locs 1 6 (vx_MQ below (QX κ (res.2.2) (res.1) (some (.int res.2.1))) (XX κ (res.2.2) (res.1)) ([.ref (kA κ 7 0), .int y1] : List Value).toArray s 1 6 (AA κ)) (F0 m 48 ls []) := by
        intro a1 n2 a3 γ H locs ls hl hH hS hv_n2 hk hq
        refine lv_iinc (v := a3 + 1) (lv' := [(3, .int (a3 + 1)), (0, .ref (kA κ 7 0)), (1, .int a1), (2, .ref (kA κ 0 n2))]) hx hb dX7_clock_48 hl (k := 3) rfl rfl (by decide) rfl (fun ls hl => ?_)
        refine lv_goto (tgt := 28) hx hb dX7_clock_51 (by decide) ?_
        exact ih_28 a1 (some n2) (a3 + 1) γ _ _ _ (lv_sub hl [1, 2, 3, 0] rfl) hH hS (fun b hb => by cases hb; exact hv_n2) hk hq
      intro a1 q2 a3 γ H locs ls hl hH hS hw_q2 hk hq
      refine lv_iload_n hx hb dX7_clock_28 rfl (lv_at hl 3 rfl) ?_
      refine lv_iload_n hx hb dX7_clock_29 rfl (lv_at hl 1 rfl) ?_
      refine lv_icmp_ge (tgt := 54) hx hb dX7_clock_30 (by decide) (fun c41 => ?_) (fun c41 => ?_)
      · have hk := ifp hk c41
        have hq := ifpe hq c41
        exact b_54 q2 γ _ _ _ (lv_sub hl [0, 2] rfl) hH hS hw_q2 hk hq
      · have hk := ifn hk c41
        have hq := ifne hq c41
        refine lv_aloadq_n hx hb dX7_clock_33 rfl (lv_at hl 2 rfl) ?_
        rcases ho43 : q2 with _ | b42
        · exact (oc_n hk ho43).elim
        · have hk := oc_s hk ho43
          have hq := oc_se hq ho43
          have hvb44 : lv κ 0 b42 := hw_q2 b42 ho43
          have hl : lv_has ls 4 [(0, .ref (kA κ 7 0)), (1, .int a1), (2, .ref (kA κ 0 b42)), (3, .int a3)] := by first | exact hl | (rw [ho43] at hl; exact hl)
          refine k_callV (C := RX0) (T := TX0) (N := 10) (rest := []) hC hl hH hS (c_X0_isOver l κ γ b42 hvb44) hvb44 rfl rfl tw_665 tw_341 tw_342 tw_50 tw_343 hd_X0_isOver ⟨Nat.le_of_ble_eq_true rfl, Nat.le_of_ble_eq_true rfl⟩ rfl rfl rfl rfl (Nat.le_of_ble_eq_true rfl) dX7_clock_34 ⟨Nat.le_of_ble_eq_true rfl, Nat.le_of_ble_eq_true rfl⟩ rfl (fun H locs hH hS => ?_)
          refine lv_if_ne (tgt := 54) hx hb dX7_clock_37 (by decide) (fun c45 => ?_) (fun c45 => ?_)
          · have hk := ifn hk c45
            have hq := ifne hq c45
            exact b_54 (some b42) γ _ _ _ (lv_sub hl [0, 2] rfl) hH hS (fun b hb => by cases hb; exact hvb44) hk hq
          · have hk := ifp hk c45
            have hq := ifpe hq c45
            refine lv_aload_n hx hb dX7_clock_40 rfl (lv_at hl 2 rfl) ?_
            refine lv_aload_n hx hb dX7_clock_41 rfl (lv_at hl 0 rfl) ?_
            refine hp_get (v := .ref (kA κ 3 0)) (C := RX7) (T := TX7) (N := 10) hC inX7 hH lv_7 rfl rfl 4 (by decide) tw_151 rfl rfl dX7_clock_42 ?_
            refine k_callV (C := RX0) (T := TX0) (N := 10) (rest := []) hC hl hH hS (c_X0_passSecond l κ γ b42 hvb44) hvb44 rfl rfl tw_699 tw_700 tw_701 tw_50 tw_702 hd_X0_passSecond ⟨Nat.le_of_ble_eq_true rfl, Nat.le_of_ble_eq_true rfl⟩ rfl rfl rfl rfl (Nat.le_of_ble_eq_true rfl) dX7_clock_45 ⟨Nat.le_of_ble_eq_true rfl, Nat.le_of_ble_eq_true rfl⟩ rfl (fun H locs hH hS => ?_)
            exact b_48 a1 b42 a3 (x_X0_passSecond b42 γ) _ _ _ (lv_sub hl [0, 1, 2, 3] rfl) hH hS hvb44 hk hq
  refine lv_iload_n hx hb dX7_clock_0 rfl (lv_at hl 1 rfl) ?_
  refine lv_iconst (v := 1) hx hb dX7_clock_1 (by decide) ?_
  refine lv_sipush (v := 240) hx hb dX7_clock_2 (by decide) ?_
  refine k_callS (rest := []) hC hl hH hS (c_X7_isWithin l κ γ y1 1 240) tw_278 tw_279 tw_38 tw_280 hd_X7_isWithin ⟨Nat.le_of_ble_eq_true rfl, Nat.le_of_ble_eq_true rfl⟩ rfl rfl rfl rfl (Nat.le_of_ble_eq_true rfl) dX7_clock_5 ⟨Nat.le_of_ble_eq_true rfl, Nat.le_of_ble_eq_true rfl⟩ rfl (fun H locs hH hS => ?_)
  refine lv_if_ne (tgt := 21) hx hb dX7_clock_8 (by decide) (fun c46 => ?_) (fun c46 => ?_)
  · have hk := ifn hk c46
    have hq := ifne hq c46
    refine lv_aload_n hx hb dX7_clock_21 rfl (lv_at hl 0 rfl) ?_
    have hw47 : ∀ b : Nat, (x_X7_boutOnPiste γ).2.1 = some b → lv κ 0 b := lvr_X7_boutOnPiste hH.wt
    have hwt9 := hH.wt
    refine k_xcallV (C := RX7) (T := TX7) (N := 10) (rest := []) hC hl hH hS (c_X7_boutOnPiste l hfl κ γ) lv_7 rfl rfl tw_569 tw_571 tw_18 tw_38 tw_572 hd_X7_boutOnPiste ⟨Nat.le_of_ble_eq_true rfl, Nat.le_of_ble_eq_true rfl⟩ rfl rfl rfl rfl (Nat.le_of_ble_eq_true rfl) dX7_clock_22 ⟨Nat.le_of_ble_eq_true rfl, Nat.le_of_ble_eq_true rfl⟩ rfl (fun he48 ce q9 H locs hH hS hce hcv hcl => ?_) (fun he48 H locs hH hS => ?_)
    · have hq := ifne hq he48
      subst hq
      exact k_out hC ht he48 hH hS hce hcv hcl (Nat.le_of_ble_eq_true rfl) (Nat.le_of_ble_eq_true rfl)
    · have hk := ifp hk he48
      have hq := ifpe hq he48
      refine lv_astoreq_n (lv' := [(2, va_rf (((x_X7_boutOnPiste γ).2.1).map (kA κ 0))), (0, .ref (kA κ 7 0)), (1, .int y1)]) hx hb dX7_clock_25 rfl hl (by decide) rfl (fun ls hl => ?_)
      refine lv_iconst (v := 0) hx hb dX7_clock_26 (by decide) ?_
      refine lv_istore_n (lv' := [(3, .int 0), (2, va_rf (((x_X7_boutOnPiste γ).2.1).map (kA κ 0))), (0, .ref (kA κ 7 0)), (1, .int y1)]) hx hb dX7_clock_27 rfl hl (by decide) (by simp [va_rf_cat]; first | done | exact ⟨rfl, by decide, ⟨by decide, Or.inl (by decide)⟩, by decide, Or.inl (by decide)⟩) (fun ls hl => ?_)
      exact b_28 fu y1 ((x_X7_boutOnPiste γ).2.1) 0 (x_X7_boutOnPiste γ).2.2 _ _ _ (lv_sub hl [2, 3, 1, 0] rfl) hH hS hw47 hk hq
  · have hk := ifp hk c46
    have hq := ifpe hq c46
    subst hq
    exact k_throw (en := 2) (text := "seconds is out of range") hC hfl ht hl hH hS rfl (by decide) tw_281 tw_46 (List.mem_of_getElem? (i := 18) rfl) at_IAE ot_IAE fit_2 dX7_clock_11 dX7_clock_14 dX7_clock_15 dX7_clock_17 dX7_clock_20 (Nat.le_of_ble_eq_true rfl) (Nat.le_of_ble_eq_true rfl) (Nat.le_of_ble_eq_true rfl) (Nat.le_of_ble_eq_true rfl) (Nat.le_of_ble_eq_true rfl) (Nat.le_of_ble_eq_true rfl)
set_option maxRecDepth 20000 in
set_option maxHeartbeats 4000000 in
theorem c_X7_end (l : Launch) (hfl : l.stackTraces = false) (κ : KP) (γ : St) (hk : ok_X7_end γ) : vx_Met l yX7_end [Cond.code yX7_end cX7_end 2 (some .int)] ({ frames := 7, cells := 1, slots := 6, locals := 110 } : Room) (va_Pc [.ref (kA κ 7 0)] (GG κ γ)) (QX κ (((x_X7_end γ)).2.2) (((x_X7_end γ)).1) (some (.int (((x_X7_end γ)).2.1)))) (XX κ (((x_X7_end γ)).2.2) (((x_X7_end γ)).1)) 1 6 (AA κ) := by
  generalize hq : x_X7_end γ = res
  refine vx_ofW (cc := cX7_end) (maxL := 2) (ret := (some .int)) (by decide) rfl ?_
  intro p e s m args below meth c s₁ B hml9 ht hv
  obtain ⟨rfl, hH, hK9, hB9, hX9, hZ9⟩ := hv
  have hC : CX κ cX7_end "Phrasehall" 2 p l s m ([.ref (kA κ 7 0)] : List Value).toArray meth c := ⟨B.exec, B.bytes, findClass_of_methodNamed B.named, fun w hw => tw_use (List.mem_filter.mp hw).2 (State.WarmedH.refl s) (hX9.1 w hw), hK9, hX9, hZ9, hB9, hml9, B.notSynchronized⟩
  obtain ⟨hx, hb, hown, hT, -, -, -, -, hml, -⟩ := id hC
  have hr := B.returns
  have hS : va_S (AA κ) s.heap s.heap [] := va_S.rf
  have hl := lv_entry ([.ref (kA κ 7 0)]) (n := 2) (Nat.le_of_ble_eq_true rfl)
  rw [lg_entry_eq]
  generalize (lg_sl ([.ref (kA κ 7 0)]) ++ List.replicate (2 - (lg_sl ([.ref (kA κ 7 0)])).length) Slot.unset).toArray = ls at hl ⊢
  have hl : lv_has ls 2 [(0, .ref (kA κ 7 0))] := hl
  have b_18 : ∀ (n1 : Nat) (γ : St) (H : Heap) (locs : List Loc) (ls : Array Slot), lv_has ls 2 [(1, .ref (kA κ 0 n1))] → HR κ γ H → va_S (AA κ) s.heap H locs → (lv κ 0 n1) → ok_X7_end_18 n1 γ → x_X7_end_18 n1 γ = res → W p l e (headSpec [Cond.code yX7_end cX7_end 2 (some .int)] ({ frames := 7, cells := 1, slots := 6, locals := 110 } : Room)).room s m ([.ref (kA κ 7 0)] : List Value).toArray below meth c H locs 1 6 (vx_MQ below (QX κ (res.2.2) (res.1) (some (.int res.2.1))) (XX κ (res.2.2) (res.1)) ([.ref (kA κ 7 0)] : List Value).toArray s 1 6 (AA κ)) (F0 m 18 ls []) := by
    intro n1 γ H locs ls hl hH hS hv_n1 hk hq
    refine lv_aload_n hx hb dX7_end_18 rfl (lv_at hl 0 rfl) ?_
    refine hp_getN (v := .int (gV γ 0 n1 5)) (C := RX0) (T := TX0) (N := 10) hC inX0 hH hv_n1 rfl rfl 5 (by decide) nw_487 rfl rfl dX7_end_19 ?_
    subst hq
    exact kx_of rfl (by decide) (by decide) (kr_i hC hr hH hS rfl rfl dX7_end_22)
  have b_13 : ∀ (n1 : Nat) (γ : St) (H : Heap) (locs : List Loc) (ls : Array Slot), lv_has ls 2 [(0, .ref (kA κ 7 0)), (1, .ref (kA κ 0 n1))] → HR κ γ H → va_S (AA κ) s.heap H locs → (lv κ 0 n1) → ok_X7_end_13 n1 γ → x_X7_end_13 n1 γ = res → W p l e (headSpec [Cond.code yX7_end cX7_end 2 (some .int)] ({ frames := 7, cells := 1, slots := 6, locals := 110 } : Room)).room s m ([.ref (kA κ 7 0)] : List Value).toArray below meth c H locs 1 6 (vx_MQ below (QX κ (res.2.2) (res.1) (some (.int res.2.1))) (XX κ (res.2.2) (res.1)) ([.ref (kA κ 7 0)] : List Value).toArray s 1 6 (AA κ)) (F0 m 13 ls []) := by
    intro n1 γ H locs ls hl hH hS hv_n1 hk hq
    refine lv_aload_n hx hb dX7_end_13 rfl (lv_at hl 0 rfl) ?_
    refine lv_aload_n hx hb dX7_end_14 rfl (lv_at hl 1 rfl) ?_
    obtain ⟨hc19, hk⟩ := hk
    refine k_callV (C := RX7) (T := TX7) (N := 10) (rest := []) hC hl hH hS (c_X7_clearPisteIfOver l κ γ n1 hv_n1 hc19) lv_7 rfl rfl tw_661 tw_663 tw_28 tw_38 tw_664 hd_X7_clearPisteIfOver ⟨Nat.le_of_ble_eq_true rfl, Nat.le_of_ble_eq_true rfl⟩ rfl rfl rfl rfl (Nat.le_of_ble_eq_true rfl) dX7_end_15 ⟨Nat.le_of_ble_eq_true rfl, Nat.le_of_ble_eq_true rfl⟩ rfl (fun H locs hH hS => ?_)
    exact b_18 n1 (x_X7_clearPisteIfOver n1 γ) _ _ _ (lv_sub hl [1] rfl) hH hS hv_n1 hk hq
  refine lv_aload_n hx hb dX7_end_0 rfl (lv_at hl 0 rfl) ?_
  have hw20 : ∀ b : Nat, (x_X7_boutOnPiste γ).2.1 = some b → lv κ 0 b := lvr_X7_boutOnPiste hH.wt
  have hwt9 := hH.wt
  refine k_xcallV (C := RX7) (T := TX7) (N := 10) (rest := []) hC hl hH hS (c_X7_boutOnPiste l hfl κ γ) lv_7 rfl rfl tw_569 tw_571 tw_18 tw_38 tw_572 hd_X7_boutOnPiste ⟨Nat.le_of_ble_eq_true rfl, Nat.le_of_ble_eq_true rfl⟩ rfl rfl rfl rfl (Nat.le_of_ble_eq_true rfl) dX7_end_1 ⟨Nat.le_of_ble_eq_true rfl, Nat.le_of_ble_eq_true rfl⟩ rfl (fun he21 ce q9 H locs hH hS hce hcv hcl => ?_) (fun he21 H locs hH hS => ?_)
  · have hq := ifne hq he21
    subst hq
    exact k_out hC ht he21 hH hS hce hcv hcl (Nat.le_of_ble_eq_true rfl) (Nat.le_of_ble_eq_true rfl)
  · have hk := ifp hk he21
    have hq := ifpe hq he21
    refine lv_astoreq_n (lv' := [(1, va_rf (((x_X7_boutOnPiste γ).2.1).map (kA κ 0))), (0, .ref (kA κ 7 0))]) hx hb dX7_end_4 rfl hl (by decide) rfl (fun ls hl => ?_)
    refine lv_aloadq_n hx hb dX7_end_5 rfl (lv_at hl 0 rfl) ?_
    refine lv_aloadq_n hx hb dX7_end_6 rfl (lv_at hl 0 rfl) ?_
    rcases ho23 : (x_X7_boutOnPiste γ).2.1 with _ | b22
    · exact (oc_n hk ho23).elim
    · have hk := oc_s hk ho23
      have hq := oc_se hq ho23
      have hvb24 : lv κ 0 b22 := hw20 b22 ho23
      have hl : lv_has ls 2 [(1, .ref (kA κ 0 b22)), (0, .ref (kA κ 7 0))] := by first | exact hl | (rw [ho23] at hl; exact hl)
      refine k_callV (C := RX0) (T := TX0) (N := 10) (rest := [.ref (kA κ 0 b22)]) hC hl hH hS (c_X0_leader l κ (x_X7_boutOnPiste γ).2.2 b22 hvb24) hvb24 rfl rfl tw_733 tw_650 tw_651 tw_50 tw_652 hd_X0_leader ⟨Nat.le_of_ble_eq_true rfl, Nat.le_of_ble_eq_true rfl⟩ rfl rfl rfl rfl (Nat.le_of_ble_eq_true rfl) dX7_end_7 ⟨Nat.le_of_ble_eq_true rfl, Nat.le_of_ble_eq_true rfl⟩ rfl (fun H locs hH hS => ?_)
      refine k_callV (C := RX0) (T := TX0) (N := 10) (rest := []) hC hl hH hS (c_X0_finish l κ (x_X7_boutOnPiste γ).2.2 b22 ((x_X0_leader b22 (x_X7_boutOnPiste γ).2.2)) hvb24) hvb24 rfl rfl tw_734 tw_654 tw_655 tw_50 tw_656 hd_X0_finish ⟨Nat.le_of_ble_eq_true rfl, Nat.le_of_ble_eq_true rfl⟩ rfl rfl rfl rfl (Nat.le_of_ble_eq_true rfl) dX7_end_10 ⟨Nat.le_of_ble_eq_true rfl, Nat.le_of_ble_eq_true rfl⟩ rfl (fun H locs hH hS => ?_)
      exact b_13 b22 (x_X0_finish b22 ((x_X0_leader b22 (x_X7_boutOnPiste γ).2.2)) (x_X7_boutOnPiste γ).2.2) _ _ _ (lv_sub hl [1, 0] rfl) hH hS hvb24 hk hq
set_option maxRecDepth 20000 in
set_option maxHeartbeats 4000000 in
theorem c_X7_seed (l : Launch) (hfl : l.stackTraces = false) (κ : KP) (γ : St) (y1 : Int32)  : vx_Met l yX7_seed [Cond.code yX7_seed cX7_seed 2 none] ({ frames := 6, cells := 1, slots := 6, locals := 90 } : Room) (va_Pc [.ref (kA κ 7 0), .int y1] (GG κ γ)) (QX κ (((x_X7_seed y1 γ)).2) (((x_X7_seed y1 γ)).1) (none)) (XX κ (((x_X7_seed y1 γ)).2) (((x_X7_seed y1 γ)).1)) 1 6 (AA κ) := by
  generalize hq : x_X7_seed y1 γ = res
  refine vx_ofW (cc := cX7_seed) (maxL := 2) (ret := none) (by decide) rfl ?_
  intro p e s m args below meth c s₁ B hml9 ht hv
  obtain ⟨rfl, hH, hK9, hB9, hX9, hZ9⟩ := hv
  have hC : CX κ cX7_seed "Phrasehall" 2 p l s m ([.ref (kA κ 7 0), .int y1] : List Value).toArray meth c := ⟨B.exec, B.bytes, findClass_of_methodNamed B.named, fun w hw => tw_use (List.mem_filter.mp hw).2 (State.WarmedH.refl s) (hX9.1 w hw), hK9, hX9, hZ9, hB9, hml9, B.notSynchronized⟩
  obtain ⟨hx, hb, hown, hT, -, -, -, -, hml, -⟩ := id hC
  have hr := B.returns
  have hS : va_S (AA κ) s.heap s.heap [] := va_S.rf
  have hl := lv_entry ([.ref (kA κ 7 0), .int y1]) (n := 2) (Nat.le_of_ble_eq_true rfl)
  rw [lg_entry_eq]
  generalize (lg_sl ([.ref (kA κ 7 0), .int y1]) ++ List.replicate (2 - (lg_sl ([.ref (kA κ 7 0), .int y1])).length) Slot.unset).toArray = ls at hl ⊢
  have hl : lv_has ls 2 [(0, .ref (kA κ 7 0)), (1, .int y1)] := hl
  refine lv_iload_n hx hb dX7_seed_0 rfl (lv_at hl 1 rfl) ?_
  refine lv_if_ge (tgt := 14) hx hb dX7_seed_1 (by decide) (fun c3 => ?_) (fun c3 => ?_)
  · have hq := ifpe hq c3
    refine lv_aload_n hx hb dX7_seed_14 rfl (lv_at hl 0 rfl) ?_
    refine hp_get (v := .ref (kA κ 3 0)) (C := RX7) (T := TX7) (N := 10) hC inX7 hH lv_7 rfl rfl 4 (by decide) tw_151 rfl rfl dX7_seed_15 ?_
    refine lv_iload_n hx hb dX7_seed_18 rfl (lv_at hl 1 rfl) ?_
    refine lv_i2l (v := (y1 : Int32).toInt64) hx hb dX7_seed_19 rfl ?_
    refine hp_putN (v := .long ((y1 : Int32).toInt64)) (C := RX3) (T := TX3) (N := 1) hC inX3 tyX3_ok nmX3 hH lv_3 rfl hS rfl 0 (by decide) nw_143 rfl rfl rfl rfl (Nat.le_of_ble_eq_true rfl) (sL γ 3 0 ((y1 : Int32).toInt64)) (pl_3_0 _ _ ((y1 : Int32).toInt64)) (fun c9 n9 hl9 h => cel_sL (fun q => h ⟨q, lv_u3 n9 (by rw [← q]; exact hl9)⟩)) (WT_sL hH.wt) dX7_seed_20 (fun H locs hH hS => ?_)
    subst hq
    exact kx_of rfl (by decide) (by decide) (kr_v hC hr hH hS rfl dX7_seed_23)
  · have hq := ifne hq c3
    subst hq
    exact k_throw (en := 2) (text := "seed is out of range") hC hfl ht hl hH hS rfl (by decide) tw_281 tw_46 (List.mem_of_getElem? (i := 19) rfl) at_IAE ot_IAE fit_2 dX7_seed_4 dX7_seed_7 dX7_seed_8 dX7_seed_10 dX7_seed_13 (Nat.le_of_ble_eq_true rfl) (Nat.le_of_ble_eq_true rfl) (Nat.le_of_ble_eq_true rfl) (Nat.le_of_ble_eq_true rfl) (Nat.le_of_ble_eq_true rfl) (Nat.le_of_ble_eq_true rfl)
set_option maxRecDepth 20000 in
set_option maxHeartbeats 4000000 in
theorem c_X7_boutAt (l : Launch) (κ : KP) (γ : St) (y1 : Int32) (hk : ok_X7_boutAt y1 γ) : Met l yX7_boutAt [Cond.code yX7_boutAt cX7_boutAt 2 (some (.object "Phrasehall$Bout"))] ({ frames := 0, cells := 0, slots := 0, locals := 0 } : Room) (va_Pc [.ref (kA κ 7 0), .int y1] (GG κ γ)) (QQ κ γ (some (va_rf (((x_X7_boutAt y1 γ)).map (kA κ 0))))) 0 0 (AA κ) := by
  generalize hq : x_X7_boutAt y1 γ = res
  refine Met.ofW (cc := cX7_boutAt) (maxL := 2) (ret := (some (.object "Phrasehall$Bout"))) (by decide) rfl ?_
  intro p e s m args below meth c s₁ B hml9 hv
  obtain ⟨rfl, hH, hK9, hB9, hX9, hZ9⟩ := hv
  have hC : CX κ cX7_boutAt "Phrasehall" 2 p l s m ([.ref (kA κ 7 0), .int y1] : List Value).toArray meth c := ⟨B.exec, B.bytes, findClass_of_methodNamed B.named, fun w hw => tw_use (List.mem_filter.mp hw).2 (State.WarmedH.refl s) (hX9.1 w hw), hK9, hX9, hZ9, hB9, hml9, B.notSynchronized⟩
  obtain ⟨hx, hb, hown, hT, -, -, -, -, hml, -⟩ := id hC
  have hr := B.returns
  have hS : va_S (AA κ) s.heap s.heap [] := va_S.rf
  have hl := lv_entry ([.ref (kA κ 7 0), .int y1]) (n := 2) (Nat.le_of_ble_eq_true rfl)
  rw [lg_entry_eq]
  generalize (lg_sl ([.ref (kA κ 7 0), .int y1]) ++ List.replicate (2 - (lg_sl ([.ref (kA κ 7 0), .int y1])).length) Slot.unset).toArray = ls at hl ⊢
  have hl : lv_has ls 2 [(0, .ref (kA κ 7 0)), (1, .int y1)] := hl
  have b_30 : ∀ (H : Heap) (locs : List Loc) (ls : Array Slot), lv_has ls 2 [] → HR κ γ H → va_S (AA κ) s.heap H locs → ok_X7_boutAt_30 γ → x_X7_boutAt_30 γ = res → W p l e (headSpec [Cond.code yX7_boutAt cX7_boutAt 2 (some (.object "Phrasehall$Bout"))] ({ frames := 0, cells := 0, slots := 0, locals := 0 } : Room)).room s m ([.ref (kA κ 7 0), .int y1] : List Value).toArray below meth c H locs 0 0 (MQ below (QQ κ γ (some (va_rf ((res).map (kA κ 0))))) ([.ref (kA κ 7 0), .int y1] : List Value).toArray s 0 0 (AA κ)) (F0 m 30 ls []) := by
    intro  H locs ls hl hH hS hk hq
    refine lv_null hx hb dX7_boutAt_30 ?_
    subst hq
    exact kr_a hC hr (Or.inl rfl) hH hS rfl rfl dX7_boutAt_31
  refine lv_iload_n hx hb dX7_boutAt_0 rfl (lv_at hl 1 rfl) ?_
  refine lv_if_lt (tgt := 30) hx hb dX7_boutAt_1 (by decide) (fun c16 => ?_) (fun c16 => ?_)
  · have hk := ifp hk c16
    have hq := ifpe hq c16
    exact b_30 _ _ _ (lv_sub hl [] rfl) hH hS hk hq
  · have hk := ifn hk c16
    have hq := ifne hq c16
    refine lv_iload_n hx hb dX7_boutAt_4 rfl (lv_at hl 1 rfl) ?_
    refine lv_aload_n hx hb dX7_boutAt_5 rfl (lv_at hl 0 rfl) ?_
    refine hp_get (v := .int (gV γ 7 0 6)) (C := RX7) (T := TX7) (N := 10) hC inX7 hH lv_7 rfl rfl 6 (by decide) tw_153 rfl rfl dX7_boutAt_6 ?_
    refine lv_icmp_ge (tgt := 30) hx hb dX7_boutAt_9 (by decide) (fun c17 => ?_) (fun c17 => ?_)
    · have hk := ifp hk c17
      have hq := ifpe hq c17
      exact b_30 _ _ _ (lv_sub hl [] rfl) hH hS hk hq
    · have hk := ifn hk c17
      have hq := ifne hq c17
      refine lv_iload_n hx hb dX7_boutAt_12 rfl (lv_at hl 1 rfl) ?_
      refine lv_aload_n hx hb dX7_boutAt_13 rfl (lv_at hl 0 rfl) ?_
      refine hp_get (v := .ref (kA κ 9 0)) (C := RX7) (T := TX7) (N := 10) hC inX7 hH lv_7 rfl rfl 0 (by decide) tw_147 rfl rfl dX7_boutAt_14 ?_
      refine hp_alen (v := 80) (t0 := 2) hC rfl hH lv_9 rfl rfl dX7_boutAt_17 ?_
      refine lv_icmp_ge (tgt := 30) hx hb dX7_boutAt_18 (by decide) (fun c18 => ?_) (fun c18 => ?_)
      · have hk := ifp hk c18
        have hq := ifpe hq c18
        exact b_30 _ _ _ (lv_sub hl [] rfl) hH hS hk hq
      · have hk := ifn hk c18
        have hq := ifne hq c18
        refine lv_aload_n hx hb dX7_boutAt_21 rfl (lv_at hl 0 rfl) ?_
        refine hp_get (v := .ref (kA κ 9 0)) (C := RX7) (T := TX7) (N := 10) hC inX7 hH lv_7 rfl rfl 0 (by decide) tw_147 rfl rfl dX7_boutAt_22 ?_
        refine lv_iload_n hx hb dX7_boutAt_25 rfl (lv_at hl 1 rfl) ?_
        obtain ⟨hi19, hk⟩ := hk
        refine hp_qld (v := va_rf ((gR γ 9 ((y1 : Int32).toNatClampNeg)).map (kA κ 0))) (t0 := 2) (cb := 0) hC rfl hH lv_9 rfl rfl hi19 dX7_boutAt_26 ?_
        have hw20 : ∀ b : Nat, gR γ 9 ((y1 : Int32).toNatClampNeg) = some b → lv κ 0 b := fun b hb => hH.wt 9 ((y1 : Int32).toNatClampNeg) b hb
        refine lv_goto (tgt := 31) hx hb dX7_boutAt_27 (by decide) ?_
        subst hq
        exact kr_a hC hr (va_rf_or _) hH hS rfl rfl dX7_boutAt_31
set_option maxRecDepth 20000 in
set_option maxHeartbeats 4000000 in
theorem c_X7_isBusyFor (l : Launch) (κ : KP) (γ : St) (z1 : Nat) (y2 : Int32) (hv_z1 : lv κ 5 z1) (hk : ok_X7_isBusyFor z1 y2 γ) : Met l yX7_isBusyFor [Cond.code yX7_isBusyFor cX7_isBusyFor 3 (some .boolean)] ({ frames := 1, cells := 0, slots := 0, locals := 21 } : Room) (va_Pc [.ref (kA κ 7 0), .ref (kA κ 5 z1), .int y2] (GG κ γ)) (QQ κ γ (some (.int ((x_X7_isBusyFor z1 y2 γ))))) 0 0 (AA κ) := by
  generalize hq : x_X7_isBusyFor z1 y2 γ = res
  refine Met.ofW (cc := cX7_isBusyFor) (maxL := 3) (ret := (some .boolean)) (by decide) rfl ?_
  intro p e s m args below meth c s₁ B hml9 hv
  obtain ⟨rfl, hH, hK9, hB9, hX9, hZ9⟩ := hv
  have hC : CX κ cX7_isBusyFor "Phrasehall" 3 p l s m ([.ref (kA κ 7 0), .ref (kA κ 5 z1), .int y2] : List Value).toArray meth c := ⟨B.exec, B.bytes, findClass_of_methodNamed B.named, fun w hw => tw_use (List.mem_filter.mp hw).2 (State.WarmedH.refl s) (hX9.1 w hw), hK9, hX9, hZ9, hB9, hml9, B.notSynchronized⟩
  obtain ⟨hx, hb, hown, hT, -, -, -, -, hml, -⟩ := id hC
  have hr := B.returns
  have hS : va_S (AA κ) s.heap s.heap [] := va_S.rf
  have hl := lv_entry ([.ref (kA κ 7 0), .ref (kA κ 5 z1), .int y2]) (n := 3) (Nat.le_of_ble_eq_true rfl)
  rw [lg_entry_eq]
  generalize (lg_sl ([.ref (kA κ 7 0), .ref (kA κ 5 z1), .int y2]) ++ List.replicate (3 - (lg_sl ([.ref (kA κ 7 0), .ref (kA κ 5 z1), .int y2])).length) Slot.unset).toArray = ls at hl ⊢
  have hl : lv_has ls 3 [(0, .ref (kA κ 7 0)), (1, .ref (kA κ 5 z1)), (2, .int y2)] := hl
  have b_36 : ∀ (H : Heap) (locs : List Loc) (ls : Array Slot), lv_has ls 3 [] → HR κ γ H → va_S (AA κ) s.heap H locs → ok_X7_isBusyFor_36 γ → x_X7_isBusyFor_36 γ = res → W p l e (headSpec [Cond.code yX7_isBusyFor cX7_isBusyFor 3 (some .boolean)] ({ frames := 1, cells := 0, slots := 0, locals := 21 } : Room)).room s m ([.ref (kA κ 7 0), .ref (kA κ 5 z1), .int y2] : List Value).toArray below meth c H locs 0 0 (MQ below (QQ κ γ (some (.int res))) ([.ref (kA κ 7 0), .ref (kA κ 5 z1), .int y2] : List Value).toArray s 0 0 (AA κ)) (F0 m 36 ls []) := by
    intro  H locs ls hl hH hS hk hq
    refine lv_iconst (v := 0) hx hb dX7_isBusyFor_36 (by decide) ?_
    subst hq
    exact kr_z hC hr rfl hH hS rfl rfl dX7_isBusyFor_37
  refine lv_aload_n hx hb dX7_isBusyFor_0 rfl (lv_at hl 0 rfl) ?_
  refine hp_get (v := va_rf ((gR γ 7 8).map (kA κ 0))) (C := RX7) (T := TX7) (N := 10) hC inX7 hH lv_7 rfl rfl 8 (by decide) tw_155 rfl rfl dX7_isBusyFor_1 ?_
  have hw43 : ∀ b : Nat, gR γ 7 8 = some b → lv κ 0 b := fun b hb => hH.wt 7 8 b hb
  rcases ho45 : gR γ 7 8 with _ | b44
  · have hk := oc_n hk ho45
    have hq := oc_ne hq ho45
    have hl : lv_has ls 3 [(0, .ref (kA κ 7 0)), (1, .ref (kA κ 5 z1)), (2, .int y2)] := by first | exact hl | (rw [ho45] at hl; exact hl)
    refine lv_ifnullN (tgt := 36) hx hb dX7_isBusyFor_4 (by decide) ?_
    exact b_36 _ _ _ (lv_sub hl [] rfl) hH hS hk hq
  · have hk := oc_s hk ho45
    have hq := oc_se hq ho45
    have hvb46 : lv κ 0 b44 := hw43 b44 ho45
    have hl : lv_has ls 3 [(0, .ref (kA κ 7 0)), (1, .ref (kA κ 5 z1)), (2, .int y2)] := by first | exact hl | (rw [ho45] at hl; exact hl)
    refine lv_ifnull hx hb dX7_isBusyFor_4 ?_
    refine lv_aload_n hx hb dX7_isBusyFor_7 rfl (lv_at hl 0 rfl) ?_
    refine hp_get (v := va_rf ((gR γ 7 8).map (kA κ 0))) (C := RX7) (T := TX7) (N := 10) hC inX7 hH lv_7 rfl rfl 8 (by decide) tw_155 rfl rfl dX7_isBusyFor_8 ?_
    have hw47 : ∀ b : Nat, gR γ 7 8 = some b → lv κ 0 b := fun b hb => hH.wt 7 8 b hb
    rcases ho49 : gR γ 7 8 with _ | b48
    · exact (oc_n hk ho49).elim
    · have hk := oc_s hk ho49
      have hq := oc_se hq ho49
      have hvb50 : lv κ 0 b48 := hw47 b48 ho49
      have hl : lv_has ls 3 [(0, .ref (kA κ 7 0)), (1, .ref (kA κ 5 z1)), (2, .int y2)] := by first | exact hl | (rw [ho49] at hl; exact hl)
      refine hp_getN (v := .int (gV γ 0 b48 4)) (C := RX0) (T := TX0) (N := 10) hC inX0 hH hvb50 rfl rfl 4 (by decide) nw_485 rfl rfl dX7_isBusyFor_11 ?_
      refine lv_aload_n hx hb dX7_isBusyFor_14 rfl (lv_at hl 1 rfl) ?_
      refine hp_getN (v := .int (gV γ 5 z1 0)) (C := RX5) (T := TX5) (N := 5) hC inX5 hH hv_z1 rfl rfl 0 (by decide) nw_760 rfl rfl dX7_isBusyFor_15 ?_
      refine lv_icmp_ne (tgt := 36) hx hb dX7_isBusyFor_18 (by decide) (fun c51 => ?_) (fun c51 => ?_)
      · have hk := ifn hk c51
        have hq := ifne hq c51
        exact b_36 _ _ _ (lv_sub hl [] rfl) hH hS hk hq
      · have hk := ifp hk c51
        have hq := ifpe hq c51
        refine lv_aload_n hx hb dX7_isBusyFor_21 rfl (lv_at hl 0 rfl) ?_
        refine hp_get (v := va_rf ((gR γ 7 8).map (kA κ 0))) (C := RX7) (T := TX7) (N := 10) hC inX7 hH lv_7 rfl rfl 8 (by decide) tw_155 rfl rfl dX7_isBusyFor_22 ?_
        have hw52 : ∀ b : Nat, gR γ 7 8 = some b → lv κ 0 b := fun b hb => hH.wt 7 8 b hb
        refine lv_iload_n hx hb dX7_isBusyFor_25 rfl (lv_at hl 2 rfl) ?_
        rcases ho54 : gR γ 7 8 with _ | b53
        · exact (oc_n hk ho54).elim
        · have hk := oc_s hk ho54
          have hq := oc_se hq ho54
          have hvb55 : lv κ 0 b53 := hw52 b53 ho54
          have hl : lv_has ls 3 [(0, .ref (kA κ 7 0)), (1, .ref (kA κ 5 z1)), (2, .int y2)] := by first | exact hl | (rw [ho54] at hl; exact hl)
          refine k_callV (C := RX0) (T := TX0) (N := 10) (rest := []) hC hl hH hS (c_X0_has l κ γ b53 y2 hvb55) hvb55 rfl rfl tw_332 tw_333 tw_334 tw_50 tw_335 hd_X0_has ⟨Nat.le_of_ble_eq_true rfl, Nat.le_of_ble_eq_true rfl⟩ rfl rfl rfl rfl (Nat.le_of_ble_eq_true rfl) dX7_isBusyFor_26 ⟨Nat.le_of_ble_eq_true rfl, Nat.le_of_ble_eq_true rfl⟩ rfl (fun H locs hH hS => ?_)
          refine lv_if_eq (tgt := 36) hx hb dX7_isBusyFor_29 (by decide) (fun c56 => ?_) (fun c56 => ?_)
          · have hk := ifp hk c56
            have hq := ifpe hq c56
            exact b_36 _ _ _ (lv_sub hl [] rfl) hH hS hk hq
          · have hk := ifn hk c56
            have hq := ifne hq c56
            refine lv_iconst (v := 1) hx hb dX7_isBusyFor_32 (by decide) ?_
            refine lv_goto (tgt := 37) hx hb dX7_isBusyFor_33 (by decide) ?_
            subst hq
            exact kr_z hC hr rfl hH hS rfl rfl dX7_isBusyFor_37
set_option maxRecDepth 20000 in
set_option maxHeartbeats 4000000 in
theorem c_X7_poolWith (l : Launch) (hfl : l.stackTraces = false) (κ : KP) (γ : St) (y1 : Int32) (y2 : Int32) (hk : ok_X7_poolWith y1 y2 γ) : vx_Met l yX7_poolWith [Cond.code yX7_poolWith cX7_poolWith 4 (some (.object "Phrasehall$Pool"))] ({ frames := 6, cells := 1, slots := 6, locals := 90 } : Room) (va_Pc [.ref (kA κ 7 0), .int y1, .int y2] (GG κ γ)) (QX κ (((x_X7_poolWith y1 y2 γ)).2.2) (((x_X7_poolWith y1 y2 γ)).1) (some (.ref (kA κ 5 (((x_X7_poolWith y1 y2 γ)).2.1))))) (XX κ (((x_X7_poolWith y1 y2 γ)).2.2) (((x_X7_poolWith y1 y2 γ)).1)) 1 6 (AA κ) := by
  generalize hq : x_X7_poolWith y1 y2 γ = res
  refine vx_ofW (cc := cX7_poolWith) (maxL := 4) (ret := (some (.object "Phrasehall$Pool"))) (by decide) rfl ?_
  intro p e s m args below meth c s₁ B hml9 ht hv
  obtain ⟨rfl, hH, hK9, hB9, hX9, hZ9⟩ := hv
  have hC : CX κ cX7_poolWith "Phrasehall" 4 p l s m ([.ref (kA κ 7 0), .int y1, .int y2] : List Value).toArray meth c := ⟨B.exec, B.bytes, findClass_of_methodNamed B.named, fun w hw => tw_use (List.mem_filter.mp hw).2 (State.WarmedH.refl s) (hX9.1 w hw), hK9, hX9, hZ9, hB9, hml9, B.notSynchronized⟩
  obtain ⟨hx, hb, hown, hT, -, -, -, -, hml, -⟩ := id hC
  have hr := B.returns
  have hS : va_S (AA κ) s.heap s.heap [] := va_S.rf
  have hl := lv_entry ([.ref (kA κ 7 0), .int y1, .int y2]) (n := 4) (Nat.le_of_ble_eq_true rfl)
  rw [lg_entry_eq]
  generalize (lg_sl ([.ref (kA κ 7 0), .int y1, .int y2]) ++ List.replicate (4 - (lg_sl ([.ref (kA κ 7 0), .int y1, .int y2])).length) Slot.unset).toArray = ls at hl ⊢
  have hl : lv_has ls 4 [(0, .ref (kA κ 7 0)), (1, .int y1), (2, .int y2)] := hl
  have b_18 : ∀ (γ : St) (H : Heap) (locs : List Loc) (ls : Array Slot), lv_has ls 4 [] → HR κ γ H → va_S (AA κ) s.heap H locs → ok_X7_poolWith_18 γ → x_X7_poolWith_18 γ = res → W p l e (headSpec [Cond.code yX7_poolWith cX7_poolWith 4 (some (.object "Phrasehall$Pool"))] ({ frames := 6, cells := 1, slots := 6, locals := 90 } : Room)).room s m ([.ref (kA κ 7 0), .int y1, .int y2] : List Value).toArray below meth c H locs 0 0 (vx_MQ below (QX κ (res.2.2) (res.1) (some (.ref (kA κ 5 res.2.1)))) (XX κ (res.2.2) (res.1)) ([.ref (kA κ 7 0), .int y1, .int y2] : List Value).toArray s 1 6 (AA κ)) (F0 m 18 ls []) := by
    intro  γ H locs ls hl hH hS hk hq
    subst hq
    exact k_throwW (en := 3) (text := "no such pool, or it does not have that fencer") hC hfl ht hl hH hS rfl (by decide) tw_262 tw_48 (List.mem_of_getElem? (i := 3) rfl) at_IOB ot_IOB fit_3 dX7_poolWith_18 dX7_poolWith_21 dX7_poolWith_22 dX7_poolWith_25 dX7_poolWith_28 (Nat.le_of_ble_eq_true rfl) (Nat.le_of_ble_eq_true rfl) (Nat.le_of_ble_eq_true rfl) (Nat.le_of_ble_eq_true rfl) (Nat.le_of_ble_eq_true rfl) (Nat.le_of_ble_eq_true rfl)
  refine lv_aload_n hx hb dX7_poolWith_0 rfl (lv_at hl 0 rfl) ?_
  refine lv_iload_n hx hb dX7_poolWith_1 rfl (lv_at hl 1 rfl) ?_
  obtain ⟨hc19, hk⟩ := hk
  have hw20 : ∀ b : Nat, (x_X7_poolOf y1 γ) = some b → lv κ 5 b := lvr_X7_poolOf hH.wt y1
  refine k_callV (C := RX7) (T := TX7) (N := 10) (rest := []) hC hl hH hS (c_X7_poolOf l κ γ y1 hc19) lv_7 rfl rfl tw_309 tw_311 tw_3 tw_38 tw_312 hd_X7_poolOf ⟨Nat.le_of_ble_eq_true rfl, Nat.le_of_ble_eq_true rfl⟩ rfl rfl rfl rfl (Nat.le_of_ble_eq_true rfl) dX7_poolWith_2 ⟨Nat.le_of_ble_eq_true rfl, Nat.le_of_ble_eq_true rfl⟩ rfl (fun H locs hH hS => ?_)
  refine lv_astoreq_n (lv' := [(3, va_rf (((x_X7_poolOf y1 γ)).map (kA κ 5))), (0, .ref (kA κ 7 0)), (1, .int y1), (2, .int y2)]) hx hb dX7_poolWith_5 rfl hl (by decide) rfl (fun ls hl => ?_)
  refine lv_aloadq_n hx hb dX7_poolWith_6 rfl (lv_at hl 0 rfl) ?_
  rcases ho22 : (x_X7_poolOf y1 γ) with _ | b21
  · have hk := oc_n hk ho22
    have hq := oc_ne hq ho22
    have hl : lv_has ls 4 [(3, .null), (0, .ref (kA κ 7 0)), (1, .int y1), (2, .int y2)] := by first | exact hl | (rw [ho22] at hl; exact hl)
    refine lv_ifnullN (tgt := 18) hx hb dX7_poolWith_7 (by decide) ?_
    exact b_18 γ _ _ _ (lv_sub hl [] rfl) hH hS hk hq
  · have hk := oc_s hk ho22
    have hq := oc_se hq ho22
    have hvb23 : lv κ 5 b21 := hw20 b21 ho22
    have hl : lv_has ls 4 [(3, .ref (kA κ 5 b21)), (0, .ref (kA κ 7 0)), (1, .int y1), (2, .int y2)] := by first | exact hl | (rw [ho22] at hl; exact hl)
    refine lv_ifnull hx hb dX7_poolWith_7 ?_
    refine lv_aload_n hx hb dX7_poolWith_10 rfl (lv_at hl 0 rfl) ?_
    refine lv_iload_n hx hb dX7_poolWith_11 rfl (lv_at hl 3 rfl) ?_
    refine k_callV (C := RX5) (T := TX5) (N := 5) (rest := []) hC hl hH hS (c_X5_has l κ γ b21 y2 hvb23) hvb23 rfl rfl tw_313 tw_314 tw_315 tw_49 tw_316 hd_X5_has ⟨Nat.le_of_ble_eq_true rfl, Nat.le_of_ble_eq_true rfl⟩ rfl rfl rfl rfl (Nat.le_of_ble_eq_true rfl) dX7_poolWith_12 ⟨Nat.le_of_ble_eq_true rfl, Nat.le_of_ble_eq_true rfl⟩ rfl (fun H locs hH hS => ?_)
    refine lv_if_ne (tgt := 29) hx hb dX7_poolWith_15 (by decide) (fun c24 => ?_) (fun c24 => ?_)
    · have hk := ifn hk c24
      have hq := ifne hq c24
      refine lv_aload_n hx hb dX7_poolWith_29 rfl (lv_at hl 0 rfl) ?_
      subst hq
      exact kx_of rfl (by decide) (by decide) (kr_a hC hr (Or.inr ⟨_, rfl⟩) hH hS rfl rfl dX7_poolWith_30)
    · have hk := ifp hk c24
      have hq := ifpe hq c24
      exact b_18 γ _ _ _ (lv_sub hl [] rfl) hH hS hk hq
set_option maxRecDepth 20000 in
set_option maxHeartbeats 4000000 in
theorem c_X7_withdraw (l : Launch) (hfl : l.stackTraces = false) (κ : KP) (γ : St) (y1 : Int32) (y2 : Int32) (hk : ok_X7_withdraw y1 y2 γ) : vx_Met l yX7_withdraw [Cond.code yX7_withdraw cX7_withdraw 7 (some .int)] ({ frames := 7, cells := 2, slots := 12, locals := 113 } : Room) (va_Pc [.ref (kA κ 7 0), .int y1, .int y2] (GG κ γ)) (QX κ (((x_X7_withdraw y1 y2 γ)).2.2) (((x_X7_withdraw y1 y2 γ)).1) (some (.int (((x_X7_withdraw y1 y2 γ)).2.1)))) (XX κ (((x_X7_withdraw y1 y2 γ)).2.2) (((x_X7_withdraw y1 y2 γ)).1)) 2 12 (AA κ) := by
  generalize hq : x_X7_withdraw y1 y2 γ = res
  refine vx_ofW (cc := cX7_withdraw) (maxL := 7) (ret := (some .int)) (by decide) rfl ?_
  intro p e s m args below meth c s₁ B hml9 ht hv
  obtain ⟨rfl, hH, hK9, hB9, hX9, hZ9⟩ := hv
  have hC : CX κ cX7_withdraw "Phrasehall" 7 p l s m ([.ref (kA κ 7 0), .int y1, .int y2] : List Value).toArray meth c := ⟨B.exec, B.bytes, findClass_of_methodNamed B.named, fun w hw => tw_use (List.mem_filter.mp hw).2 (State.WarmedH.refl s) (hX9.1 w hw), hK9, hX9, hZ9, hB9, hml9, B.notSynchronized⟩
  obtain ⟨hx, hb, hown, hT, -, -, -, -, hml, -⟩ := id hC
  have hr := B.returns
  have hS : va_S (AA κ) s.heap s.heap [] := va_S.rf
  have hl := lv_entry ([.ref (kA κ 7 0), .int y1, .int y2]) (n := 7) (Nat.le_of_ble_eq_true rfl)
  rw [lg_entry_eq]
  generalize (lg_sl ([.ref (kA κ 7 0), .int y1, .int y2]) ++ List.replicate (7 - (lg_sl ([.ref (kA κ 7 0), .int y1, .int y2])).length) Slot.unset).toArray = ls at hl ⊢
  have hl : lv_has ls 7 [(0, .ref (kA κ 7 0)), (1, .int y1), (2, .int y2)] := hl
  have b_24 : ∀ (γ : St) (H : Heap) (locs : List Loc) (ls : Array Slot), lv_has ls 7 [] → HR κ γ H → va_S (AA κ) s.heap H locs → ok_X7_withdraw_24 γ → x_X7_withdraw_24 γ = res → W p l e (headSpec [Cond.code yX7_withdraw cX7_withdraw 7 (some .int)] ({ frames := 7, cells := 2, slots := 12, locals := 113 } : Room)).room s m ([.ref (kA κ 7 0), .int y1, .int y2] : List Value).toArray below meth c H locs 1 6 (vx_MQ below (QX κ (res.2.2) (res.1) (some (.int res.2.1))) (XX κ (res.2.2) (res.1)) ([.ref (kA κ 7 0), .int y1, .int y2] : List Value).toArray s 2 12 (AA κ)) (F0 m 24 ls []) := by
    intro  γ H locs ls hl hH hS hk hq
    subst hq
    exact k_throw (en := 1) (text := "the fencer withdrew, or is on the piste") hC hfl ht hl hH hS rfl (by decide) tw_182 tw_47 (List.mem_of_getElem? (i := 22) rfl) at_ISE ot_ISE fit_1 dX7_withdraw_24 dX7_withdraw_27 dX7_withdraw_28 dX7_withdraw_30 dX7_withdraw_33 (Nat.le_of_ble_eq_true rfl) (Nat.le_of_ble_eq_true rfl) (Nat.le_of_ble_eq_true rfl) (Nat.le_of_ble_eq_true rfl) (Nat.le_of_ble_eq_true rfl) (Nat.le_of_ble_eq_true rfl)
  have b_101 : ∀ (a4 : Int32) (γ : St) (H : Heap) (locs : List Loc) (ls : Array Slot), lv_has ls 7 [(4, .int a4)] → HR κ γ H → va_S (AA κ) s.heap H locs → ok_X7_withdraw_101 a4 γ → x_X7_withdraw_101 a4 γ = res → W p l e (headSpec [Cond.code yX7_withdraw cX7_withdraw 7 (some .int)] ({ frames := 7, cells := 2, slots := 12, locals := 113 } : Room)).room s m ([.ref (kA κ 7 0), .int y1, .int y2] : List Value).toArray below meth c H locs 1 6 (vx_MQ below (QX κ (res.2.2) (res.1) (some (.int res.2.1))) (XX κ (res.2.2) (res.1)) ([.ref (kA κ 7 0), .int y1, .int y2] : List Value).toArray s 2 12 (AA κ)) (F0 m 101 ls []) := by
    intro a4 γ H locs ls hl hH hS hk hq
    refine lv_iload hx hb dX7_withdraw_101 (lv_at hl 0 rfl) ?_
    subst hq
    exact kx_of rfl (by decide) (by decide) (kr_i hC hr hH hS rfl rfl dX7_withdraw_103)
  have b_40 : ∀ (k40 : Nat) (a2 : Int32) (n3 : Nat) (a4 : Int32) (a5 : Int32) (γ : St) (H : Heap) (locs : List Loc) (ls : Array Slot), lv_has ls 7 [(0, .ref (kA κ 7 0)), (2, .int a2), (3, .ref (kA κ 5 n3)), (4, .int a4), (5, .int a5)] → HR κ γ H → va_S (AA κ) s.heap H locs → (lv κ 5 n3) → ok_X7_withdraw_40 k40 a2 n3 a4 a5 γ → x_X7_withdraw_40 k40 a2 n3 a4 a5 γ = res → W p l e (headSpec [Cond.code yX7_withdraw cX7_withdraw 7 (some .int)] ({ frames := 7, cells := 2, slots := 12, locals := 113 } : Room)).room s m ([.ref (kA κ 7 0), .int y1, .int y2] : List Value).toArray below meth c H locs 1 6 (vx_MQ below (QX κ (res.2.2) (res.1) (some (.int res.2.1))) (XX κ (res.2.2) (res.1)) ([.ref (kA κ 7 0), .int y1, .int y2] : List Value).toArray s 2 12 (AA κ)) (F0 m 40 ls []) := by
    intro k40
    induction k40 with
    | zero =>
      intro a2 n3 a4 a5 γ H locs ls hl hH hS hv_n3 hk hq
      exact (show False from hk).elim
    | succ k40 ih_40 =>
      have b_90 : ∀ (a2 : Int32) (n3 : Nat) (a4 : Int32) (a5 : Int32) (γ : St) (H : Heap) (locs : List Loc) (ls : Array Slot), lv_has ls 7 [(0, .ref (kA κ 7 0)), (2, .int a2), (3, .ref (kA κ 5 n3)), (4, .int a4), (5, .int a5)] → HR κ γ H → va_S (AA κ) s.heap H locs → (lv κ 5 n3) → ok_X7_withdraw_90 (ok_X7_withdraw_40 k40) a2 n3 a4 a5 γ → x_X7_withdraw_90 (x_X7_withdraw_40 k40) a2 n3 a4 a5 γ = res → W p l e (headSpec [Cond.code yX7_withdraw cX7_withdraw 7 (some .int)] ({ frames := 7, cells := 2, slots := 12, locals := 113 } : Room)).room s m ([.ref (kA κ 7 0), .int y1, .int y2] : List Value).toArray below meth c H locs 1 6 (vx_MQ below (QX κ (res.2.2) (res.1) (some (.int res.2.1))) (XX κ (res.2.2) (res.1)) ([.ref (kA κ 7 0), .int y1, .int y2] : List Value).toArray s 2 12 (AA κ)) (F0 m 90 ls []) := by
        intro a2 n3 a4 a5 γ H locs ls hl hH hS hv_n3 hk hq
        refine lv_iinc (v := a5 + 1) (lv' := [(5, .int (a5 + 1)), (0, .ref (kA κ 7 0)), (2, .int a2), (3, .ref (kA κ 5 n3)), (4, .int a4)]) hx hb dX7_withdraw_90 hl (k := 4) rfl rfl (by decide) rfl (fun ls hl => ?_)
        refine lv_goto (tgt := 40) hx hb dX7_withdraw_93 (by decide) ?_
        exact ih_40 a2 n3 a4 (a5 + 1) γ _ _ _ (lv_sub hl [1, 2, 3, 4, 0] rfl) hH hS hv_n3 hk hq
      have b_87 : ∀ (a2 : Int32) (n3 : Nat) (a4 : Int32) (a5 : Int32) (γ : St) (H : Heap) (locs : List Loc) (ls : Array Slot), lv_has ls 7 [(0, .ref (kA κ 7 0)), (2, .int a2), (3, .ref (kA κ 5 n3)), (4, .int a4), (5, .int a5)] → HR κ γ H → va_S (AA κ) s.heap H locs → (lv κ 5 n3) → ok_X7_withdraw_87 (ok_X7_withdraw_40 k40) a2 n3 a4 a5 γ → x_X7_withdraw_87 (x_X7_withdraw_40 k40) a2 n3 a4 a5 γ = res → W p l e (headSpec [Cond.code yX7_withdraw cX7_withdraw 7 (some .int)] ({ frames := 7, cells := 2, slots := 12, locals := 113 } : Room)).room s m ([.ref (kA κ 7 0), .int y1, .int y2] : List Value).toArray below meth c H locs 1 6 (vx_MQ below (QX κ (res.2.2) (res.1) (some (.int res.2.1))) (XX κ (res.2.2) (res.1)) ([.ref (kA κ 7 0), .int y1, .int y2] : List Value).toArray s 2 12 (AA κ)) (F0 m 87 ls []) := by
        intro a2 n3 a4 a5 γ H locs ls hl hH hS hv_n3 hk hq
        refine lv_iinc (v := a4 + 1) (lv' := [(4, .int (a4 + 1)), (0, .ref (kA κ 7 0)), (2, .int a2), (3, .ref (kA κ 5 n3)), (5, .int a5)]) hx hb dX7_withdraw_87 hl (k := 3) rfl rfl (by decide) rfl (fun ls hl => ?_)
        exact b_90 a2 n3 (a4 + 1) a5 γ _ _ _ (lv_sub hl [1, 2, 3, 0, 4] rfl) hH hS hv_n3 hk hq
      intro a2 n3 a4 a5 γ H locs ls hl hH hS hv_n3 hk hq
      refine lv_iload hx hb dX7_withdraw_40 (lv_at hl 4 rfl) ?_
      refine lv_aload_n hx hb dX7_withdraw_42 rfl (lv_at hl 0 rfl) ?_
      refine hp_get (v := .int (gV γ 7 0 6)) (C := RX7) (T := TX7) (N := 10) hC inX7 hH lv_7 rfl rfl 6 (by decide) tw_153 rfl rfl dX7_withdraw_43 ?_
      refine lv_icmp_ge (tgt := 96) hx hb dX7_withdraw_46 (by decide) (fun c46 => ?_) (fun c46 => ?_)
      · have hk := ifp hk c46
        have hq := ifpe hq c46
        refine lv_aload_n hx hb dX7_withdraw_96 rfl (lv_at hl 2 rfl) ?_
        refine lv_iload_n hx hb dX7_withdraw_97 rfl (lv_at hl 1 rfl) ?_
        refine k_callV (C := RX5) (T := TX5) (N := 5) (rest := []) hC hl hH hS (c_X5_markWithdrawn l κ γ n3 a2 hv_n3) hv_n3 rfl rfl tw_785 tw_786 tw_787 tw_49 tw_788 hd_X5_markWithdrawn ⟨Nat.le_of_ble_eq_true rfl, Nat.le_of_ble_eq_true rfl⟩ rfl rfl rfl rfl (Nat.le_of_ble_eq_true rfl) dX7_withdraw_98 ⟨Nat.le_of_ble_eq_true rfl, Nat.le_of_ble_eq_true rfl⟩ rfl (fun H locs hH hS => ?_)
        exact b_101 a4 (x_X5_markWithdrawn n3 a2 γ) _ _ _ (lv_sub hl [3] rfl) hH hS hk hq
      · have hk := ifn hk c46
        have hq := ifne hq c46
        refine lv_aload_n hx hb dX7_withdraw_49 rfl (lv_at hl 0 rfl) ?_
        refine lv_iload hx hb dX7_withdraw_50 (lv_at hl 4 rfl) ?_
        obtain ⟨hc47, hk⟩ := hk
        have hw48 : ∀ b : Nat, (x_X7_boutAt a5 γ) = some b → lv κ 0 b := lvr_X7_boutAt hH.wt a5
        refine k_callV (C := RX7) (T := TX7) (N := 10) (rest := []) hC hl hH hS (c_X7_boutAt l κ γ a5 hc47) lv_7 rfl rfl tw_258 tw_260 tw_1 tw_38 tw_261 hd_X7_boutAt ⟨Nat.le_of_ble_eq_true rfl, Nat.le_of_ble_eq_true rfl⟩ rfl rfl rfl rfl (Nat.le_of_ble_eq_true rfl) dX7_withdraw_52 ⟨Nat.le_of_ble_eq_true rfl, Nat.le_of_ble_eq_true rfl⟩ rfl (fun H locs hH hS => ?_)
        refine lv_astoreq (lv' := [(6, va_rf (((x_X7_boutAt a5 γ)).map (kA κ 0))), (0, .ref (kA κ 7 0)), (2, .int a2), (3, .ref (kA κ 5 n3)), (4, .int a4), (5, .int a5)]) hx hb dX7_withdraw_55 hl (by decide) rfl (fun ls hl => ?_)
        refine lv_aloadq hx hb dX7_withdraw_57 (lv_at hl 0 rfl) ?_
        rcases ho50 : (x_X7_boutAt a5 γ) with _ | b49
        · have hk := oc_n hk ho50
          have hq := oc_ne hq ho50
          have hl : lv_has ls 7 [(6, .null), (0, .ref (kA κ 7 0)), (2, .int a2), (3, .ref (kA κ 5 n3)), (4, .int a4), (5, .int a5)] := by first | exact hl | (rw [ho50] at hl; exact hl)
          refine lv_ifnullN (tgt := 90) hx hb dX7_withdraw_59 (by decide) ?_
          exact b_90 a2 n3 a4 a5 γ _ _ _ (lv_sub hl [1, 2, 3, 4, 5] rfl) hH hS hv_n3 hk hq
        · have hk := oc_s hk ho50
          have hq := oc_se hq ho50
          have hvb51 : lv κ 0 b49 := hw48 b49 ho50
          have hl : lv_has ls 7 [(6, .ref (kA κ 0 b49)), (0, .ref (kA κ 7 0)), (2, .int a2), (3, .ref (kA κ 5 n3)), (4, .int a4), (5, .int a5)] := by first | exact hl | (rw [ho50] at hl; exact hl)
          refine lv_ifnull hx hb dX7_withdraw_59 ?_
          refine lv_aload hx hb dX7_withdraw_62 (lv_at hl 0 rfl) ?_
          refine lv_iload_n hx hb dX7_withdraw_64 rfl (lv_at hl 2 rfl) ?_
          refine k_callV (C := RX0) (T := TX0) (N := 10) (rest := []) hC hl hH hS (c_X0_has l κ γ b49 a2 hvb51) hvb51 rfl rfl tw_332 tw_333 tw_334 tw_50 tw_335 hd_X0_has ⟨Nat.le_of_ble_eq_true rfl, Nat.le_of_ble_eq_true rfl⟩ rfl rfl rfl rfl (Nat.le_of_ble_eq_true rfl) dX7_withdraw_65 ⟨Nat.le_of_ble_eq_true rfl, Nat.le_of_ble_eq_true rfl⟩ rfl (fun H locs hH hS => ?_)
          refine lv_if_eq (tgt := 90) hx hb dX7_withdraw_68 (by decide) (fun c52 => ?_) (fun c52 => ?_)
          · have hk := ifp hk c52
            have hq := ifpe hq c52
            exact b_90 a2 n3 a4 a5 γ _ _ _ (lv_sub hl [1, 2, 3, 4, 5] rfl) hH hS hv_n3 hk hq
          · have hk := ifn hk c52
            have hq := ifne hq c52
            refine lv_aload_n hx hb dX7_withdraw_71 rfl (lv_at hl 3 rfl) ?_
            refine lv_aload hx hb dX7_withdraw_72 (lv_at hl 0 rfl) ?_
            refine k_callV (C := RX5) (T := TX5) (N := 5) (rest := []) hC hl hH hS (c_X5_counts l κ γ n3 b49 hv_n3 hvb51) hv_n3 rfl rfl tw_336 tw_337 tw_338 tw_49 tw_339 hd_X5_counts ⟨Nat.le_of_ble_eq_true rfl, Nat.le_of_ble_eq_true rfl⟩ rfl rfl rfl rfl (Nat.le_of_ble_eq_true rfl) dX7_withdraw_74 ⟨Nat.le_of_ble_eq_true rfl, Nat.le_of_ble_eq_true rfl⟩ rfl (fun H locs hH hS => ?_)
            refine lv_if_eq (tgt := 90) hx hb dX7_withdraw_77 (by decide) (fun c53 => ?_) (fun c53 => ?_)
            · have hk := ifp hk c53
              have hq := ifpe hq c53
              exact b_90 a2 n3 a4 a5 γ _ _ _ (lv_sub hl [1, 2, 3, 4, 5] rfl) hH hS hv_n3 hk hq
            · have hk := ifn hk c53
              have hq := ifne hq c53
              refine lv_aload_n hx hb dX7_withdraw_80 rfl (lv_at hl 3 rfl) ?_
              refine lv_aload hx hb dX7_withdraw_81 (lv_at hl 0 rfl) ?_
              refine lv_iconst (v := (-1)) hx hb dX7_withdraw_83 (by decide) ?_
              obtain ⟨hc54, hk⟩ := hk
              refine k_callV (C := RX5) (T := TX5) (N := 5) (rest := []) hC hl hH hS (c_X5_enter l κ γ n3 b49 ((-1)) hv_n3 hvb51 hc54) hv_n3 rfl rfl tw_666 tw_667 tw_668 tw_49 tw_669 hd_X5_enter ⟨Nat.le_of_ble_eq_true rfl, Nat.le_of_ble_eq_true rfl⟩ rfl rfl rfl rfl (Nat.le_of_ble_eq_true rfl) dX7_withdraw_84 ⟨Nat.le_of_ble_eq_true rfl, Nat.le_of_ble_eq_true rfl⟩ rfl (fun H locs hH hS => ?_)
              exact b_87 a2 n3 a4 a5 (x_X5_enter n3 b49 ((-1)) γ) _ _ _ (lv_sub hl [1, 2, 3, 4, 5] rfl) hH hS hv_n3 hk hq
  refine lv_aload_n hx hb dX7_withdraw_0 rfl (lv_at hl 0 rfl) ?_
  refine lv_iload_n hx hb dX7_withdraw_1 rfl (lv_at hl 1 rfl) ?_
  refine lv_iload_n hx hb dX7_withdraw_2 rfl (lv_at hl 2 rfl) ?_
  obtain ⟨hc55, hk⟩ := hk
  have hwt9 := hH.wt
  refine k_xcallV (C := RX7) (T := TX7) (N := 10) (rest := []) hC hl hH hS (c_X7_poolWith l hfl κ γ y1 y2 hc55) lv_7 rfl rfl tw_305 tw_307 tw_2 tw_38 tw_308 hd_X7_poolWith ⟨Nat.le_of_ble_eq_true rfl, Nat.le_of_ble_eq_true rfl⟩ rfl rfl rfl rfl (Nat.le_of_ble_eq_true rfl) dX7_withdraw_3 ⟨Nat.le_of_ble_eq_true rfl, Nat.le_of_ble_eq_true rfl⟩ rfl (fun he57 ce q9 H locs hH hS hce hcv hcl => ?_) (fun he57 H locs hH hS => ?_)
  · have hq := ifne hq he57
    subst hq
    exact k_out hC ht he57 hH hS hce hcv hcl (Nat.le_of_ble_eq_true rfl) (Nat.le_of_ble_eq_true rfl)
  · have hk := ifp hk he57
    have hq := ifpe hq he57
    have hw56 : lv κ 5 (x_X7_poolWith y1 y2 γ).2.1 := lvr_X7_poolWith hwt9 y1 y2 he57
    refine lv_astore_n (lv' := [(3, .ref (kA κ 5 ((x_X7_poolWith y1 y2 γ).2.1))), (0, .ref (kA κ 7 0)), (1, .int y1), (2, .int y2)]) hx hb dX7_withdraw_6 rfl hl (by decide) rfl (fun ls hl => ?_)
    refine lv_aload_n hx hb dX7_withdraw_7 rfl (lv_at hl 0 rfl) ?_
    refine lv_iload_n hx hb dX7_withdraw_8 rfl (lv_at hl 3 rfl) ?_
    refine k_callV (C := RX5) (T := TX5) (N := 5) (rest := []) hC hl hH hS (c_X5_isWithdrawn l κ (x_X7_poolWith y1 y2 γ).2.2 ((x_X7_poolWith y1 y2 γ).2.1) y2 hw56) hw56 rfl rfl tw_447 tw_345 tw_346 tw_49 tw_347 hd_X5_isWithdrawn ⟨Nat.le_of_ble_eq_true rfl, Nat.le_of_ble_eq_true rfl⟩ rfl rfl rfl rfl (Nat.le_of_ble_eq_true rfl) dX7_withdraw_9 ⟨Nat.le_of_ble_eq_true rfl, Nat.le_of_ble_eq_true rfl⟩ rfl (fun H locs hH hS => ?_)
    refine lv_if_ne (tgt := 24) hx hb dX7_withdraw_12 (by decide) (fun c58 => ?_) (fun c58 => ?_)
    · have hk := ifn hk c58
      have hq := ifne hq c58
      exact b_24 (x_X7_poolWith y1 y2 γ).2.2 _ _ _ (lv_sub hl [] rfl) hH hS hk hq
    · have hk := ifp hk c58
      have hq := ifpe hq c58
      refine lv_aload_n hx hb dX7_withdraw_15 rfl (lv_at hl 1 rfl) ?_
      refine lv_aload_n hx hb dX7_withdraw_16 rfl (lv_at hl 0 rfl) ?_
      refine lv_iload_n hx hb dX7_withdraw_17 rfl (lv_at hl 3 rfl) ?_
      obtain ⟨hc59, hk⟩ := hk
      refine k_callV (C := RX7) (T := TX7) (N := 10) (rest := []) hC hl hH hS (c_X7_isBusyFor l κ (x_X7_poolWith y1 y2 γ).2.2 ((x_X7_poolWith y1 y2 γ).2.1) y2 hw56 hc59) lv_7 rfl rfl tw_780 tw_782 tw_33 tw_38 tw_783 hd_X7_isBusyFor ⟨Nat.le_of_ble_eq_true rfl, Nat.le_of_ble_eq_true rfl⟩ rfl rfl rfl rfl (Nat.le_of_ble_eq_true rfl) dX7_withdraw_18 ⟨Nat.le_of_ble_eq_true rfl, Nat.le_of_ble_eq_true rfl⟩ rfl (fun H locs hH hS => ?_)
      refine lv_if_eq (tgt := 34) hx hb dX7_withdraw_21 (by decide) (fun c60 => ?_) (fun c60 => ?_)
      · have hk := ifp hk c60
        have hq := ifpe hq c60
        refine lv_iconst (v := 0) hx hb dX7_withdraw_34 (by decide) ?_
        refine lv_istore (lv' := [(4, .int 0), (3, .ref (kA κ 5 ((x_X7_poolWith y1 y2 γ).2.1))), (0, .ref (kA κ 7 0)), (1, .int y1), (2, .int y2)]) hx hb dX7_withdraw_35 hl (by decide) rfl (fun ls hl => ?_)
        refine lv_iconst (v := 0) hx hb dX7_withdraw_37 (by decide) ?_
        refine lv_istore (lv' := [(5, .int 0), (4, .int 0), (3, .ref (kA κ 5 ((x_X7_poolWith y1 y2 γ).2.1))), (0, .ref (kA κ 7 0)), (1, .int y1), (2, .int y2)]) hx hb dX7_withdraw_38 hl (by decide) rfl (fun ls hl => ?_)
        exact b_40 fu y2 ((x_X7_poolWith y1 y2 γ).2.1) 0 0 (x_X7_poolWith y1 y2 γ).2.2 _ _ _ (lv_sub hl [3, 5, 2, 1, 0] rfl) hH hS hw56 hk hq
      · have hk := ifn hk c60
        have hq := ifne hq c60
        exact b_24 (x_X7_poolWith y1 y2 γ).2.2 _ _ _ (lv_sub hl [] rfl) hH hS hk hq
set_option maxRecDepth 20000 in
set_option maxHeartbeats 4000000 in
theorem c_X7_tableau (l : Launch) (hfl : l.stackTraces = false) (κ : KP) (γ : St) (y1 : Int32) (hk : ok_X7_tableau y1 γ) : vx_Met l yX7_tableau [Cond.code yX7_tableau cX7_tableau 3 (some .int)] ({ frames := 6, cells := 1, slots := 6, locals := 135 } : Room) (va_Pc [.ref (kA κ 7 0), .int y1] (GG κ γ)) (QX κ (((x_X7_tableau y1 γ)).2.2) (((x_X7_tableau y1 γ)).1) (some (.int (((x_X7_tableau y1 γ)).2.1)))) (XX κ (((x_X7_tableau y1 γ)).2.2) (((x_X7_tableau y1 γ)).1)) 1 6 (AA κ) := by
  generalize hq : x_X7_tableau y1 γ = res
  refine vx_ofW (cc := cX7_tableau) (maxL := 3) (ret := (some .int)) (by decide) rfl ?_
  intro p e s m args below meth c s₁ B hml9 ht hv
  obtain ⟨rfl, hH, hK9, hB9, hX9, hZ9⟩ := hv
  have hC : CX κ cX7_tableau "Phrasehall" 3 p l s m ([.ref (kA κ 7 0), .int y1] : List Value).toArray meth c := ⟨B.exec, B.bytes, findClass_of_methodNamed B.named, fun w hw => tw_use (List.mem_filter.mp hw).2 (State.WarmedH.refl s) (hX9.1 w hw), hK9, hX9, hZ9, hB9, hml9, B.notSynchronized⟩
  obtain ⟨hx, hb, hown, hT, -, -, -, -, hml, -⟩ := id hC
  have hr := B.returns
  have hS : va_S (AA κ) s.heap s.heap [] := va_S.rf
  have hl := lv_entry ([.ref (kA κ 7 0), .int y1]) (n := 3) (Nat.le_of_ble_eq_true rfl)
  rw [lg_entry_eq]
  generalize (lg_sl ([.ref (kA κ 7 0), .int y1]) ++ List.replicate (3 - (lg_sl ([.ref (kA κ 7 0), .int y1])).length) Slot.unset).toArray = ls at hl ⊢
  have hl : lv_has ls 3 [(0, .ref (kA κ 7 0)), (1, .int y1)] := hl
  have b_46 : ∀ (γ : St) (H : Heap) (locs : List Loc) (ls : Array Slot), lv_has ls 3 [(0, .ref (kA κ 7 0))] → HR κ γ H → va_S (AA κ) s.heap H locs → ok_X7_tableau_46 γ → x_X7_tableau_46 γ = res → W p l e (headSpec [Cond.code yX7_tableau cX7_tableau 3 (some .int)] ({ frames := 6, cells := 1, slots := 6, locals := 135 } : Room)).room s m ([.ref (kA κ 7 0), .int y1] : List Value).toArray below meth c H locs 0 0 (vx_MQ below (QX κ (res.2.2) (res.1) (some (.int res.2.1))) (XX κ (res.2.2) (res.1)) ([.ref (kA κ 7 0), .int y1] : List Value).toArray s 1 6 (AA κ)) (F0 m 46 ls []) := by
    intro  γ H locs ls hl hH hS hk hq
    refine lv_aload_n hx hb dX7_tableau_46 rfl (lv_at hl 0 rfl) ?_
    refine hp_get (v := .ref (kA κ 1 0)) (C := RX7) (T := TX7) (N := 10) hC inX7 hH lv_7 rfl rfl 3 (by decide) tw_150 rfl rfl dX7_tableau_47 ?_
    refine hp_getN (v := .int (gV γ 1 0 2)) (C := RX1) (T := TX1) (N := 3) hC inX1 hH lv_1 rfl rfl 2 (by decide) nw_128 rfl rfl dX7_tableau_50 ?_
    subst hq
    exact kx_of rfl (by decide) (by decide) (kr_i hC hr hH hS rfl rfl dX7_tableau_53)
  refine lv_aload_n hx hb dX7_tableau_0 rfl (lv_at hl 0 rfl) ?_
  refine lv_iload_n hx hb dX7_tableau_1 rfl (lv_at hl 1 rfl) ?_
  obtain ⟨hc22, hk⟩ := hk
  have hw23 : ∀ b : Nat, (x_X7_poolOf y1 γ) = some b → lv κ 5 b := lvr_X7_poolOf hH.wt y1
  refine k_callV (C := RX7) (T := TX7) (N := 10) (rest := []) hC hl hH hS (c_X7_poolOf l κ γ y1 hc22) lv_7 rfl rfl tw_309 tw_311 tw_3 tw_38 tw_312 hd_X7_poolOf ⟨Nat.le_of_ble_eq_true rfl, Nat.le_of_ble_eq_true rfl⟩ rfl rfl rfl rfl (Nat.le_of_ble_eq_true rfl) dX7_tableau_2 ⟨Nat.le_of_ble_eq_true rfl, Nat.le_of_ble_eq_true rfl⟩ rfl (fun H locs hH hS => ?_)
  refine lv_astoreq_n (lv' := [(2, va_rf (((x_X7_poolOf y1 γ)).map (kA κ 5))), (0, .ref (kA κ 7 0)), (1, .int y1)]) hx hb dX7_tableau_5 rfl hl (by decide) rfl (fun ls hl => ?_)
  refine lv_aloadq_n hx hb dX7_tableau_6 rfl (lv_at hl 0 rfl) ?_
  rcases ho25 : (x_X7_poolOf y1 γ) with _ | b24
  · have hk := oc_n hk ho25
    have hq := oc_ne hq ho25
    have hl : lv_has ls 3 [(2, .null), (0, .ref (kA κ 7 0)), (1, .int y1)] := by first | exact hl | (rw [ho25] at hl; exact hl)
    refine lv_ifnonnullN hx hb dX7_tableau_7 ?_
    subst hq
    exact k_throw (en := 3) (text := "no such pool") hC hfl ht hl hH hS rfl (by decide) tw_262 tw_48 (List.mem_of_getElem? (i := 23) rfl) at_IOB ot_IOB fit_3 dX7_tableau_10 dX7_tableau_13 dX7_tableau_14 dX7_tableau_16 dX7_tableau_19 (Nat.le_of_ble_eq_true rfl) (Nat.le_of_ble_eq_true rfl) (Nat.le_of_ble_eq_true rfl) (Nat.le_of_ble_eq_true rfl) (Nat.le_of_ble_eq_true rfl) (Nat.le_of_ble_eq_true rfl)
  · have hk := oc_s hk ho25
    have hq := oc_se hq ho25
    have hvb26 : lv κ 5 b24 := hw23 b24 ho25
    have hl : lv_has ls 3 [(2, .ref (kA κ 5 b24)), (0, .ref (kA κ 7 0)), (1, .int y1)] := by first | exact hl | (rw [ho25] at hl; exact hl)
    refine lv_ifnonnull (tgt := 20) hx hb dX7_tableau_7 (by decide) ?_
    refine lv_aload_n hx hb dX7_tableau_20 rfl (lv_at hl 0 rfl) ?_
    refine k_callV (C := RX5) (T := TX5) (N := 5) (rest := []) hC hl hH hS (c_X5_rankedCount l κ γ b24 hvb26) hvb26 rfl rfl tw_794 tw_795 tw_796 tw_49 tw_797 hd_X5_rankedCount ⟨Nat.le_of_ble_eq_true rfl, Nat.le_of_ble_eq_true rfl⟩ rfl rfl rfl rfl (Nat.le_of_ble_eq_true rfl) dX7_tableau_21 ⟨Nat.le_of_ble_eq_true rfl, Nat.le_of_ble_eq_true rfl⟩ rfl (fun H locs hH hS => ?_)
    refine lv_iconst (v := 2) hx hb dX7_tableau_24 (by decide) ?_
    refine lv_icmp_ge (tgt := 38) hx hb dX7_tableau_25 (by decide) (fun c27 => ?_) (fun c27 => ?_)
    · have hk := ifp hk c27
      have hq := ifpe hq c27
      refine lv_aload_n hx hb dX7_tableau_38 rfl (lv_at hl 1 rfl) ?_
      refine hp_get (v := .ref (kA κ 1 0)) (C := RX7) (T := TX7) (N := 10) hC inX7 hH lv_7 rfl rfl 3 (by decide) tw_150 rfl rfl dX7_tableau_39 ?_
      refine lv_aload_n hx hb dX7_tableau_42 rfl (lv_at hl 0 rfl) ?_
      obtain ⟨hc28, hk⟩ := hk
      refine k_callV (C := RX1) (T := TX1) (N := 3) (rest := []) hC hl hH hS (c_X1_makeFrom l κ γ b24 hvb26 hc28) lv_1 rfl rfl tw_800 tw_801 tw_802 tw_41 tw_803 hd_X1_makeFrom ⟨Nat.le_of_ble_eq_true rfl, Nat.le_of_ble_eq_true rfl⟩ rfl rfl rfl rfl (Nat.le_of_ble_eq_true rfl) dX7_tableau_43 ⟨Nat.le_of_ble_eq_true rfl, Nat.le_of_ble_eq_true rfl⟩ rfl (fun H locs hH hS => ?_)
      exact b_46 (x_X1_makeFrom b24 γ) _ _ _ (lv_sub hl [1] rfl) hH hS hk hq
    · have hk := ifn hk c27
      have hq := ifne hq c27
      subst hq
      exact k_throw (en := 1) (text := "fewer than 2 have a rank") hC hfl ht hl hH hS rfl (by decide) tw_182 tw_47 (List.mem_of_getElem? (i := 24) rfl) at_ISE ot_ISE fit_1 dX7_tableau_28 dX7_tableau_31 dX7_tableau_32 dX7_tableau_34 dX7_tableau_37 (Nat.le_of_ble_eq_true rfl) (Nat.le_of_ble_eq_true rfl) (Nat.le_of_ble_eq_true rfl) (Nat.le_of_ble_eq_true rfl) (Nat.le_of_ble_eq_true rfl) (Nat.le_of_ble_eq_true rfl)
set_option maxRecDepth 20000 in
set_option maxHeartbeats 4000000 in
theorem c_X7_checkMatch (l : Launch) (hfl : l.stackTraces = false) (κ : KP) (γ : St) (y1 : Int32) (y2 : Int32)  : vx_Met l yX7_checkMatch [Cond.code yX7_checkMatch cX7_checkMatch 3 none] ({ frames := 6, cells := 1, slots := 6, locals := 90 } : Room) (va_Pc [.ref (kA κ 7 0), .int y1, .int y2] (GG κ γ)) (QX κ (((x_X7_checkMatch y1 y2 γ)).2) (((x_X7_checkMatch y1 y2 γ)).1) (none)) (XX κ (((x_X7_checkMatch y1 y2 γ)).2) (((x_X7_checkMatch y1 y2 γ)).1)) 1 6 (AA κ) := by
  generalize hq : x_X7_checkMatch y1 y2 γ = res
  refine vx_ofW (cc := cX7_checkMatch) (maxL := 3) (ret := none) (by decide) rfl ?_
  intro p e s m args below meth c s₁ B hml9 ht hv
  obtain ⟨rfl, hH, hK9, hB9, hX9, hZ9⟩ := hv
  have hC : CX κ cX7_checkMatch "Phrasehall" 3 p l s m ([.ref (kA κ 7 0), .int y1, .int y2] : List Value).toArray meth c := ⟨B.exec, B.bytes, findClass_of_methodNamed B.named, fun w hw => tw_use (List.mem_filter.mp hw).2 (State.WarmedH.refl s) (hX9.1 w hw), hK9, hX9, hZ9, hB9, hml9, B.notSynchronized⟩
  obtain ⟨hx, hb, hown, hT, -, -, -, -, hml, -⟩ := id hC
  have hr := B.returns
  have hS : va_S (AA κ) s.heap s.heap [] := va_S.rf
  have hl := lv_entry ([.ref (kA κ 7 0), .int y1, .int y2]) (n := 3) (Nat.le_of_ble_eq_true rfl)
  rw [lg_entry_eq]
  generalize (lg_sl ([.ref (kA κ 7 0), .int y1, .int y2]) ++ List.replicate (3 - (lg_sl ([.ref (kA κ 7 0), .int y1, .int y2])).length) Slot.unset).toArray = ls at hl ⊢
  have hl : lv_has ls 3 [(0, .ref (kA κ 7 0)), (1, .int y1), (2, .int y2)] := hl
  refine lv_aload_n hx hb dX7_checkMatch_0 rfl (lv_at hl 0 rfl) ?_
  refine hp_get (v := .ref (kA κ 1 0)) (C := RX7) (T := TX7) (N := 10) hC inX7 hH lv_7 rfl rfl 3 (by decide) tw_150 rfl rfl dX7_checkMatch_1 ?_
  refine lv_iload_n hx hb dX7_checkMatch_4 rfl (lv_at hl 1 rfl) ?_
  refine lv_iload_n hx hb dX7_checkMatch_5 rfl (lv_at hl 2 rfl) ?_
  refine k_callV (C := RX1) (T := TX1) (N := 3) (rest := []) hC hl hH hS (c_X1_hasMatch l κ γ y1 y2) lv_1 rfl rfl tw_404 tw_405 tw_406 tw_41 tw_407 hd_X1_hasMatch ⟨Nat.le_of_ble_eq_true rfl, Nat.le_of_ble_eq_true rfl⟩ rfl rfl rfl rfl (Nat.le_of_ble_eq_true rfl) dX7_checkMatch_6 ⟨Nat.le_of_ble_eq_true rfl, Nat.le_of_ble_eq_true rfl⟩ rfl (fun H locs hH hS => ?_)
  refine lv_if_ne (tgt := 23) hx hb dX7_checkMatch_9 (by decide) (fun c3 => ?_) (fun c3 => ?_)
  · have hq := ifne hq c3
    subst hq
    exact kx_of rfl (by decide) (by decide) (kr_v hC hr hH hS rfl dX7_checkMatch_23)
  · have hq := ifpe hq c3
    subst hq
    exact k_throwW (en := 3) (text := "no such match") hC hfl ht hl hH hS rfl (by decide) tw_262 tw_48 (List.mem_of_getElem? (i := 5) rfl) at_IOB ot_IOB fit_3 dX7_checkMatch_12 dX7_checkMatch_15 dX7_checkMatch_16 dX7_checkMatch_19 dX7_checkMatch_22 (Nat.le_of_ble_eq_true rfl) (Nat.le_of_ble_eq_true rfl) (Nat.le_of_ble_eq_true rfl) (Nat.le_of_ble_eq_true rfl) (Nat.le_of_ble_eq_true rfl) (Nat.le_of_ble_eq_true rfl)
set_option maxRecDepth 20000 in
set_option maxHeartbeats 4000000 in
theorem c_X7_wins (l : Launch) (hfl : l.stackTraces = false) (κ : KP) (γ : St) (y1 : Int32) (y2 : Int32) (y3 : Int32) (hk : ok_X7_wins y1 y2 y3 γ) : vx_Met l yX7_wins [Cond.code yX7_wins cX7_wins 4 (some .int)] ({ frames := 7, cells := 2, slots := 12, locals := 112 } : Room) (va_Pc [.ref (kA κ 7 0), .int y1, .int y2, .int y3] (GG κ γ)) (QX κ (((x_X7_wins y1 y2 y3 γ)).2.2) (((x_X7_wins y1 y2 y3 γ)).1) (some (.int (((x_X7_wins y1 y2 y3 γ)).2.1)))) (XX κ (((x_X7_wins y1 y2 y3 γ)).2.2) (((x_X7_wins y1 y2 y3 γ)).1)) 2 12 (AA κ) := by
  generalize hq : x_X7_wins y1 y2 y3 γ = res
  refine vx_ofW (cc := cX7_wins) (maxL := 4) (ret := (some .int)) (by decide) rfl ?_
  intro p e s m args below meth c s₁ B hml9 ht hv
  obtain ⟨rfl, hH, hK9, hB9, hX9, hZ9⟩ := hv
  have hC : CX κ cX7_wins "Phrasehall" 4 p l s m ([.ref (kA κ 7 0), .int y1, .int y2, .int y3] : List Value).toArray meth c := ⟨B.exec, B.bytes, findClass_of_methodNamed B.named, fun w hw => tw_use (List.mem_filter.mp hw).2 (State.WarmedH.refl s) (hX9.1 w hw), hK9, hX9, hZ9, hB9, hml9, B.notSynchronized⟩
  obtain ⟨hx, hb, hown, hT, -, -, -, -, hml, -⟩ := id hC
  have hr := B.returns
  have hS : va_S (AA κ) s.heap s.heap [] := va_S.rf
  have hl := lv_entry ([.ref (kA κ 7 0), .int y1, .int y2, .int y3]) (n := 4) (Nat.le_of_ble_eq_true rfl)
  rw [lg_entry_eq]
  generalize (lg_sl ([.ref (kA κ 7 0), .int y1, .int y2, .int y3]) ++ List.replicate (4 - (lg_sl ([.ref (kA κ 7 0), .int y1, .int y2, .int y3])).length) Slot.unset).toArray = ls at hl ⊢
  have hl : lv_has ls 4 [(0, .ref (kA κ 7 0)), (1, .int y1), (2, .int y2), (3, .int y3)] := hl
  refine lv_aload_n hx hb dX7_wins_0 rfl (lv_at hl 0 rfl) ?_
  refine lv_iload_n hx hb dX7_wins_1 rfl (lv_at hl 1 rfl) ?_
  refine lv_iload_n hx hb dX7_wins_2 rfl (lv_at hl 2 rfl) ?_
  have hwt9 := hH.wt
  refine k_xcallV (C := RX7) (T := TX7) (N := 10) (rest := []) hC hl hH hS (c_X7_checkMatch l hfl κ γ y1 y2) lv_7 rfl rfl tw_400 tw_402 tw_9 tw_38 tw_403 hd_X7_checkMatch ⟨Nat.le_of_ble_eq_true rfl, Nat.le_of_ble_eq_true rfl⟩ rfl rfl rfl rfl (Nat.le_of_ble_eq_true rfl) dX7_wins_3 ⟨Nat.le_of_ble_eq_true rfl, Nat.le_of_ble_eq_true rfl⟩ rfl (fun he11 ce q9 H locs hH hS hce hcv hcl => ?_) (fun he11 H locs hH hS => ?_)
  · have hq := ifne hq he11
    subst hq
    exact k_out hC ht he11 hH hS hce hcv hcl (Nat.le_of_ble_eq_true rfl) (Nat.le_of_ble_eq_true rfl)
  · have hk := ifp hk he11
    have hq := ifpe hq he11
    refine lv_iload_n hx hb dX7_wins_6 rfl (lv_at hl 3 rfl) ?_
    refine k_callS (rest := []) hC hl hH hS (c_X7_isSide l κ (x_X7_checkMatch y1 y2 γ).2 y3) tw_521 tw_522 tw_38 tw_523 hd_X7_isSide ⟨Nat.le_of_ble_eq_true rfl, Nat.le_of_ble_eq_true rfl⟩ rfl rfl rfl rfl (Nat.le_of_ble_eq_true rfl) dX7_wins_7 ⟨Nat.le_of_ble_eq_true rfl, Nat.le_of_ble_eq_true rfl⟩ rfl (fun H locs hH hS => ?_)
    refine lv_if_ne (tgt := 23) hx hb dX7_wins_10 (by decide) (fun c12 => ?_) (fun c12 => ?_)
    · have hk := ifn hk c12
      have hq := ifne hq c12
      refine lv_aload_n hx hb dX7_wins_23 rfl (lv_at hl 0 rfl) ?_
      refine hp_get (v := .ref (kA κ 1 0)) (C := RX7) (T := TX7) (N := 10) hC inX7 hH lv_7 rfl rfl 3 (by decide) tw_150 rfl rfl dX7_wins_24 ?_
      refine lv_iload_n hx hb dX7_wins_27 rfl (lv_at hl 1 rfl) ?_
      refine lv_iload_n hx hb dX7_wins_28 rfl (lv_at hl 2 rfl) ?_
      obtain ⟨hc13, hk⟩ := hk
      refine k_callV (C := RX1) (T := TX1) (N := 3) (rest := []) hC hl hH hS (c_X1_isOpen l κ (x_X7_checkMatch y1 y2 γ).2 y1 y2 hc13) lv_1 rfl rfl tw_826 tw_827 tw_828 tw_41 tw_829 hd_X1_isOpen ⟨Nat.le_of_ble_eq_true rfl, Nat.le_of_ble_eq_true rfl⟩ rfl rfl rfl rfl (Nat.le_of_ble_eq_true rfl) dX7_wins_29 ⟨Nat.le_of_ble_eq_true rfl, Nat.le_of_ble_eq_true rfl⟩ rfl (fun H locs hH hS => ?_)
      refine lv_if_ne (tgt := 45) hx hb dX7_wins_32 (by decide) (fun c14 => ?_) (fun c14 => ?_)
      · have hk := ifn hk c14
        have hq := ifne hq c14
        refine lv_aload_n hx hb dX7_wins_45 rfl (lv_at hl 0 rfl) ?_
        refine hp_get (v := .ref (kA κ 1 0)) (C := RX7) (T := TX7) (N := 10) hC inX7 hH lv_7 rfl rfl 3 (by decide) tw_150 rfl rfl dX7_wins_46 ?_
        refine lv_iload_n hx hb dX7_wins_49 rfl (lv_at hl 1 rfl) ?_
        refine lv_iload_n hx hb dX7_wins_50 rfl (lv_at hl 2 rfl) ?_
        refine lv_iload_n hx hb dX7_wins_51 rfl (lv_at hl 3 rfl) ?_
        obtain ⟨hc15, hk⟩ := hk
        refine k_callV (C := RX1) (T := TX1) (N := 3) (rest := []) hC hl hH hS (c_X1_settle l κ (x_X7_checkMatch y1 y2 γ).2 y1 y2 y3 hc15) lv_1 rfl rfl tw_833 tw_834 tw_835 tw_41 tw_836 hd_X1_settle ⟨Nat.le_of_ble_eq_true rfl, Nat.le_of_ble_eq_true rfl⟩ rfl rfl rfl rfl (Nat.le_of_ble_eq_true rfl) dX7_wins_52 ⟨Nat.le_of_ble_eq_true rfl, Nat.le_of_ble_eq_true rfl⟩ rfl (fun H locs hH hS => ?_)
        subst hq
        exact kx_of rfl (by decide) (by decide) (kr_i hC hr hH hS rfl rfl dX7_wins_55)
      · have hk := ifp hk c14
        have hq := ifpe hq c14
        subst hq
        exact k_throw (en := 1) (text := "the match does not have both yet, or is won") hC hfl ht hl hH hS rfl (by decide) tw_182 tw_47 (List.mem_of_getElem? (i := 25) rfl) at_ISE ot_ISE fit_1 dX7_wins_35 dX7_wins_38 dX7_wins_39 dX7_wins_41 dX7_wins_44 (Nat.le_of_ble_eq_true rfl) (Nat.le_of_ble_eq_true rfl) (Nat.le_of_ble_eq_true rfl) (Nat.le_of_ble_eq_true rfl) (Nat.le_of_ble_eq_true rfl) (Nat.le_of_ble_eq_true rfl)
    · have hk := ifp hk c12
      have hq := ifpe hq c12
      subst hq
      exact k_throw (en := 2) (text := "side is out of range") hC hfl ht hl hH hS rfl (by decide) tw_281 tw_46 (List.mem_of_getElem? (i := 6) rfl) at_IAE ot_IAE fit_2 dX7_wins_13 dX7_wins_16 dX7_wins_17 dX7_wins_19 dX7_wins_22 (Nat.le_of_ble_eq_true rfl) (Nat.le_of_ble_eq_true rfl) (Nat.le_of_ble_eq_true rfl) (Nat.le_of_ble_eq_true rfl) (Nat.le_of_ble_eq_true rfl) (Nat.le_of_ble_eq_true rfl)
set_option maxRecDepth 20000 in
set_option maxHeartbeats 4000000 in
theorem c_X7_lamp (l : Launch) (hfl : l.stackTraces = false) (κ : KP) (γ : St) (y1 : Int32) (hk : ok_X7_lamp y1 γ) : vx_Met l yX7_lamp [Cond.code yX7_lamp cX7_lamp 2 (some .int)] ({ frames := 6, cells := 1, slots := 6, locals := 90 } : Room) (va_Pc [.ref (kA κ 7 0), .int y1] (GG κ γ)) (QX κ (((x_X7_lamp y1 γ)).2.2) (((x_X7_lamp y1 γ)).1) (some (.int (((x_X7_lamp y1 γ)).2.1)))) (XX κ (((x_X7_lamp y1 γ)).2.2) (((x_X7_lamp y1 γ)).1)) 1 6 (AA κ) := by
  generalize hq : x_X7_lamp y1 γ = res
  refine vx_ofW (cc := cX7_lamp) (maxL := 2) (ret := (some .int)) (by decide) rfl ?_
  intro p e s m args below meth c s₁ B hml9 ht hv
  obtain ⟨rfl, hH, hK9, hB9, hX9, hZ9⟩ := hv
  have hC : CX κ cX7_lamp "Phrasehall" 2 p l s m ([.ref (kA κ 7 0), .int y1] : List Value).toArray meth c := ⟨B.exec, B.bytes, findClass_of_methodNamed B.named, fun w hw => tw_use (List.mem_filter.mp hw).2 (State.WarmedH.refl s) (hX9.1 w hw), hK9, hX9, hZ9, hB9, hml9, B.notSynchronized⟩
  obtain ⟨hx, hb, hown, hT, -, -, -, -, hml, -⟩ := id hC
  have hr := B.returns
  have hS : va_S (AA κ) s.heap s.heap [] := va_S.rf
  have hl := lv_entry ([.ref (kA κ 7 0), .int y1]) (n := 2) (Nat.le_of_ble_eq_true rfl)
  rw [lg_entry_eq]
  generalize (lg_sl ([.ref (kA κ 7 0), .int y1]) ++ List.replicate (2 - (lg_sl ([.ref (kA κ 7 0), .int y1])).length) Slot.unset).toArray = ls at hl ⊢
  have hl : lv_has ls 2 [(0, .ref (kA κ 7 0)), (1, .int y1)] := hl
  refine lv_iload_n hx hb dX7_lamp_0 rfl (lv_at hl 1 rfl) ?_
  refine k_callS (rest := []) hC hl hH hS (c_X7_isSide l κ γ y1) tw_521 tw_522 tw_38 tw_523 hd_X7_isSide ⟨Nat.le_of_ble_eq_true rfl, Nat.le_of_ble_eq_true rfl⟩ rfl rfl rfl rfl (Nat.le_of_ble_eq_true rfl) dX7_lamp_1 ⟨Nat.le_of_ble_eq_true rfl, Nat.le_of_ble_eq_true rfl⟩ rfl (fun H locs hH hS => ?_)
  refine lv_if_ne (tgt := 17) hx hb dX7_lamp_4 (by decide) (fun c23 => ?_) (fun c23 => ?_)
  · have hk := ifn hk c23
    have hq := ifne hq c23
    refine lv_aload_n hx hb dX7_lamp_17 rfl (lv_at hl 0 rfl) ?_
    refine hp_get (v := va_rf ((gR γ 7 8).map (kA κ 0))) (C := RX7) (T := TX7) (N := 10) hC inX7 hH lv_7 rfl rfl 8 (by decide) tw_155 rfl rfl dX7_lamp_18 ?_
    have hw24 : ∀ b : Nat, gR γ 7 8 = some b → lv κ 0 b := fun b hb => hH.wt 7 8 b hb
    rcases ho26 : gR γ 7 8 with _ | b25
    · have hk := oc_n hk ho26
      have hq := oc_ne hq ho26
      have hl : lv_has ls 2 [(0, .ref (kA κ 7 0)), (1, .int y1)] := by first | exact hl | (rw [ho26] at hl; exact hl)
      refine lv_ifnonnullN hx hb dX7_lamp_21 ?_
      refine lv_iconst (v := (-1)) hx hb dX7_lamp_24 (by decide) ?_
      refine lv_goto (tgt := 50) hx hb dX7_lamp_25 (by decide) ?_
      subst hq
      exact kx_of rfl (by decide) (by decide) (kr_i hC hr hH hS rfl rfl dX7_lamp_50)
    · have hk := oc_s hk ho26
      have hq := oc_se hq ho26
      have hvb27 : lv κ 0 b25 := hw24 b25 ho26
      have hl : lv_has ls 2 [(0, .ref (kA κ 7 0)), (1, .int y1)] := by first | exact hl | (rw [ho26] at hl; exact hl)
      refine lv_ifnonnull (tgt := 28) hx hb dX7_lamp_21 (by decide) ?_
      refine lv_aload_n hx hb dX7_lamp_28 rfl (lv_at hl 0 rfl) ?_
      refine hp_get (v := .ref (kA κ 4 0)) (C := RX7) (T := TX7) (N := 10) hC inX7 hH lv_7 rfl rfl 2 (by decide) tw_149 rfl rfl dX7_lamp_29 ?_
      refine lv_aload_n hx hb dX7_lamp_32 rfl (lv_at hl 0 rfl) ?_
      refine hp_get (v := .ref (kA κ 4 0)) (C := RX7) (T := TX7) (N := 10) hC inX7 hH lv_7 rfl rfl 2 (by decide) tw_149 rfl rfl dX7_lamp_33 ?_
      refine lv_iload_n hx hb dX7_lamp_36 rfl (lv_at hl 1 rfl) ?_
      refine lv_aload_n hx hb dX7_lamp_37 rfl (lv_at hl 0 rfl) ?_
      refine hp_get (v := va_rf ((gR γ 7 8).map (kA κ 0))) (C := RX7) (T := TX7) (N := 10) hC inX7 hH lv_7 rfl rfl 8 (by decide) tw_155 rfl rfl dX7_lamp_38 ?_
      have hw28 : ∀ b : Nat, gR γ 7 8 = some b → lv κ 0 b := fun b hb => hH.wt 7 8 b hb
      rcases ho30 : gR γ 7 8 with _ | b29
      · exact (oc_n hk ho30).elim
      · have hk := oc_s hk ho30
        have hq := oc_se hq ho30
        have hvb31 : lv κ 0 b29 := hw28 b29 ho30
        have hl : lv_has ls 2 [(0, .ref (kA κ 7 0)), (1, .int y1)] := by first | exact hl | (rw [ho30] at hl; exact hl)
        refine hp_getN (v := .int (gV γ 0 b29 2)) (C := RX0) (T := TX0) (N := 10) hC inX0 hH hvb31 rfl rfl 2 (by decide) nw_481 rfl rfl dX7_lamp_41 ?_
        obtain ⟨hc32, hk⟩ := hk
        refine k_callV (C := RX4) (T := TX4) (N := 7) (rest := [.ref (kA κ 4 0)]) hC hl hH hS (c_X4_registered l κ γ y1 (gV γ 0 b29 2) hc32) lv_4 rfl rfl tw_582 tw_583 tw_584 tw_39 tw_585 hd_X4_registered ⟨Nat.le_of_ble_eq_true rfl, Nat.le_of_ble_eq_true rfl⟩ rfl rfl rfl rfl (Nat.le_of_ble_eq_true rfl) dX7_lamp_44 ⟨Nat.le_of_ble_eq_true rfl, Nat.le_of_ble_eq_true rfl⟩ rfl (fun H locs hH hS => ?_)
        obtain ⟨hc33, hk⟩ := hk
        refine k_callV (C := RX4) (T := TX4) (N := 7) (rest := []) hC hl hH hS (c_X4_targetAt l κ γ ((x_X4_registered y1 (gV γ 0 b29 2) γ)) hc33) lv_4 rfl rfl tw_600 tw_601 tw_602 tw_39 tw_603 hd_X4_targetAt ⟨Nat.le_of_ble_eq_true rfl, Nat.le_of_ble_eq_true rfl⟩ rfl rfl rfl rfl (Nat.le_of_ble_eq_true rfl) dX7_lamp_47 ⟨Nat.le_of_ble_eq_true rfl, Nat.le_of_ble_eq_true rfl⟩ rfl (fun H locs hH hS => ?_)
        subst hq
        exact kx_of rfl (by decide) (by decide) (kr_i hC hr hH hS rfl rfl dX7_lamp_50)
  · have hk := ifp hk c23
    have hq := ifpe hq c23
    subst hq
    exact k_throw (en := 2) (text := "side is out of range") hC hfl ht hl hH hS rfl (by decide) tw_281 tw_46 (List.mem_of_getElem? (i := 6) rfl) at_IAE ot_IAE fit_2 dX7_lamp_7 dX7_lamp_10 dX7_lamp_11 dX7_lamp_13 dX7_lamp_16 (Nat.le_of_ble_eq_true rfl) (Nat.le_of_ble_eq_true rfl) (Nat.le_of_ble_eq_true rfl) (Nat.le_of_ble_eq_true rfl) (Nat.le_of_ble_eq_true rfl) (Nat.le_of_ble_eq_true rfl)
set_option maxRecDepth 20000 in
set_option maxHeartbeats 4000000 in
theorem c_X7_holder (l : Launch) (κ : KP) (γ : St) (hk : ok_X7_holder γ) : Met l yX7_holder [Cond.code yX7_holder cX7_holder 1 (some .int)] ({ frames := 4, cells := 0, slots := 0, locals := 91 } : Room) (va_Pc [.ref (kA κ 7 0)] (GG κ γ)) (QQ κ (((x_X7_holder γ)).2) (some (.int (((x_X7_holder γ)).1)))) 0 0 (AA κ) := by
  generalize hq : x_X7_holder γ = res
  refine Met.ofW (cc := cX7_holder) (maxL := 1) (ret := (some .int)) (by decide) rfl ?_
  intro p e s m args below meth c s₁ B hml9 hv
  obtain ⟨rfl, hH, hK9, hB9, hX9, hZ9⟩ := hv
  have hC : CX κ cX7_holder "Phrasehall" 1 p l s m ([.ref (kA κ 7 0)] : List Value).toArray meth c := ⟨B.exec, B.bytes, findClass_of_methodNamed B.named, fun w hw => tw_use (List.mem_filter.mp hw).2 (State.WarmedH.refl s) (hX9.1 w hw), hK9, hX9, hZ9, hB9, hml9, B.notSynchronized⟩
  obtain ⟨hx, hb, hown, hT, -, -, -, -, hml, -⟩ := id hC
  have hr := B.returns
  have hS : va_S (AA κ) s.heap s.heap [] := va_S.rf
  have hl := lv_entry ([.ref (kA κ 7 0)]) (n := 1) (Nat.le_of_ble_eq_true rfl)
  rw [lg_entry_eq]
  generalize (lg_sl ([.ref (kA κ 7 0)]) ++ List.replicate (1 - (lg_sl ([.ref (kA κ 7 0)])).length) Slot.unset).toArray = ls at hl ⊢
  have hl : lv_has ls 1 [(0, .ref (kA κ 7 0))] := hl
  refine lv_aload_n hx hb dX7_holder_0 rfl (lv_at hl 0 rfl) ?_
  refine hp_get (v := .ref (kA κ 4 0)) (C := RX7) (T := TX7) (N := 10) hC inX7 hH lv_7 rfl rfl 2 (by decide) tw_149 rfl rfl dX7_holder_1 ?_
  refine lv_aload_n hx hb dX7_holder_4 rfl (lv_at hl 0 rfl) ?_
  refine hp_get (v := .ref (kA κ 4 0)) (C := RX7) (T := TX7) (N := 10) hC inX7 hH lv_7 rfl rfl 2 (by decide) tw_149 rfl rfl dX7_holder_5 ?_
  refine hp_getN (v := .int (gV γ 4 0 6)) (C := RX4) (T := TX4) (N := 7) hC inX4 hH lv_4 rfl rfl 6 (by decide) nw_103 rfl rfl dX7_holder_8 ?_
  obtain ⟨hc3, hk⟩ := hk
  refine k_callV (C := RX4) (T := TX4) (N := 7) (rest := []) hC hl hH hS (c_X4_holderAhead l κ γ (gV γ 4 0 6) hc3) lv_4 rfl rfl tw_612 tw_613 tw_614 tw_39 tw_615 hd_X4_holderAhead ⟨Nat.le_of_ble_eq_true rfl, Nat.le_of_ble_eq_true rfl⟩ rfl rfl rfl rfl (Nat.le_of_ble_eq_true rfl) dX7_holder_11 ⟨Nat.le_of_ble_eq_true rfl, Nat.le_of_ble_eq_true rfl⟩ rfl (fun H locs hH hS => ?_)
  subst hq
  exact kr_i hC hr hH hS rfl rfl dX7_holder_14
set_option maxRecDepth 20000 in
set_option maxHeartbeats 4000000 in
theorem c_X7_reason (l : Launch) (κ : KP) (γ : St)  : Met l yX7_reason [Cond.code yX7_reason cX7_reason 1 (some .int)] ({ frames := 0, cells := 0, slots := 0, locals := 0 } : Room) (va_Pc [.ref (kA κ 7 0)] (GG κ γ)) (QQ κ γ (some (.int ((x_X7_reason γ))))) 0 0 (AA κ) := by
  generalize hq : x_X7_reason γ = res
  refine Met.ofW (cc := cX7_reason) (maxL := 1) (ret := (some .int)) (by decide) rfl ?_
  intro p e s m args below meth c s₁ B hml9 hv
  obtain ⟨rfl, hH, hK9, hB9, hX9, hZ9⟩ := hv
  have hC : CX κ cX7_reason "Phrasehall" 1 p l s m ([.ref (kA κ 7 0)] : List Value).toArray meth c := ⟨B.exec, B.bytes, findClass_of_methodNamed B.named, fun w hw => tw_use (List.mem_filter.mp hw).2 (State.WarmedH.refl s) (hX9.1 w hw), hK9, hX9, hZ9, hB9, hml9, B.notSynchronized⟩
  obtain ⟨hx, hb, hown, hT, -, -, -, -, hml, -⟩ := id hC
  have hr := B.returns
  have hS : va_S (AA κ) s.heap s.heap [] := va_S.rf
  have hl := lv_entry ([.ref (kA κ 7 0)]) (n := 1) (Nat.le_of_ble_eq_true rfl)
  rw [lg_entry_eq]
  generalize (lg_sl ([.ref (kA κ 7 0)]) ++ List.replicate (1 - (lg_sl ([.ref (kA κ 7 0)])).length) Slot.unset).toArray = ls at hl ⊢
  have hl : lv_has ls 1 [(0, .ref (kA κ 7 0))] := hl
  refine lv_aload_n hx hb dX7_reason_0 rfl (lv_at hl 0 rfl) ?_
  refine hp_get (v := .int (gV γ 7 0 9)) (C := RX7) (T := TX7) (N := 10) hC inX7 hH lv_7 rfl rfl 9 (by decide) tw_156 rfl rfl dX7_reason_1 ?_
  subst hq
  exact kr_i hC hr hH hS rfl rfl dX7_reason_4
set_option maxRecDepth 20000 in
set_option maxHeartbeats 4000000 in
theorem c_X7_ofBout (l : Launch) (hfl : l.stackTraces = false) (κ : KP) (γ : St) (y1 : Int32) (y2 : Int32) (hk : ok_X7_ofBout y1 y2 γ) : vx_Met l yX7_ofBout [Cond.code yX7_ofBout cX7_ofBout 4 (some .int)] ({ frames := 6, cells := 1, slots := 6, locals := 90 } : Room) (va_Pc [.ref (kA κ 7 0), .int y1, .int y2] (GG κ γ)) (QX κ (((x_X7_ofBout y1 y2 γ)).2.2) (((x_X7_ofBout y1 y2 γ)).1) (some (.int (((x_X7_ofBout y1 y2 γ)).2.1)))) (XX κ (((x_X7_ofBout y1 y2 γ)).2.2) (((x_X7_ofBout y1 y2 γ)).1)) 1 6 (AA κ) := by
  generalize hq : x_X7_ofBout y1 y2 γ = res
  refine vx_ofW (cc := cX7_ofBout) (maxL := 4) (ret := (some .int)) (by decide) rfl ?_
  intro p e s m args below meth c s₁ B hml9 ht hv
  obtain ⟨rfl, hH, hK9, hB9, hX9, hZ9⟩ := hv
  have hC : CX κ cX7_ofBout "Phrasehall" 4 p l s m ([.ref (kA κ 7 0), .int y1, .int y2] : List Value).toArray meth c := ⟨B.exec, B.bytes, findClass_of_methodNamed B.named, fun w hw => tw_use (List.mem_filter.mp hw).2 (State.WarmedH.refl s) (hX9.1 w hw), hK9, hX9, hZ9, hB9, hml9, B.notSynchronized⟩
  obtain ⟨hx, hb, hown, hT, -, -, -, -, hml, -⟩ := id hC
  have hr := B.returns
  have hS : va_S (AA κ) s.heap s.heap [] := va_S.rf
  have hl := lv_entry ([.ref (kA κ 7 0), .int y1, .int y2]) (n := 4) (Nat.le_of_ble_eq_true rfl)
  rw [lg_entry_eq]
  generalize (lg_sl ([.ref (kA κ 7 0), .int y1, .int y2]) ++ List.replicate (4 - (lg_sl ([.ref (kA κ 7 0), .int y1, .int y2])).length) Slot.unset).toArray = ls at hl ⊢
  have hl : lv_has ls 4 [(0, .ref (kA κ 7 0)), (1, .int y1), (2, .int y2)] := hl
  refine lv_aload_n hx hb dX7_ofBout_0 rfl (lv_at hl 0 rfl) ?_
  refine lv_iload_n hx hb dX7_ofBout_1 rfl (lv_at hl 1 rfl) ?_
  obtain ⟨hc13, hk⟩ := hk
  have hw14 : ∀ b : Nat, (x_X7_boutAt y1 γ) = some b → lv κ 0 b := lvr_X7_boutAt hH.wt y1
  refine k_callV (C := RX7) (T := TX7) (N := 10) (rest := []) hC hl hH hS (c_X7_boutAt l κ γ y1 hc13) lv_7 rfl rfl tw_258 tw_260 tw_1 tw_38 tw_261 hd_X7_boutAt ⟨Nat.le_of_ble_eq_true rfl, Nat.le_of_ble_eq_true rfl⟩ rfl rfl rfl rfl (Nat.le_of_ble_eq_true rfl) dX7_ofBout_2 ⟨Nat.le_of_ble_eq_true rfl, Nat.le_of_ble_eq_true rfl⟩ rfl (fun H locs hH hS => ?_)
  refine lv_astoreq_n (lv' := [(3, va_rf (((x_X7_boutAt y1 γ)).map (kA κ 0))), (0, .ref (kA κ 7 0)), (1, .int y1), (2, .int y2)]) hx hb dX7_ofBout_5 rfl hl (by decide) rfl (fun ls hl => ?_)
  refine lv_aloadq_n hx hb dX7_ofBout_6 rfl (lv_at hl 0 rfl) ?_
  rcases ho16 : (x_X7_boutAt y1 γ) with _ | b15
  · have hk := oc_n hk ho16
    have hq := oc_ne hq ho16
    have hl : lv_has ls 4 [(3, .null), (0, .ref (kA κ 7 0)), (1, .int y1), (2, .int y2)] := by first | exact hl | (rw [ho16] at hl; exact hl)
    refine lv_ifnonnullN hx hb dX7_ofBout_7 ?_
    subst hq
    exact k_throwW (en := 3) (text := "no such bout") hC hfl ht hl hH hS rfl (by decide) tw_262 tw_48 (List.mem_of_getElem? (i := 1) rfl) at_IOB ot_IOB fit_3 dX7_ofBout_10 dX7_ofBout_13 dX7_ofBout_14 dX7_ofBout_17 dX7_ofBout_20 (Nat.le_of_ble_eq_true rfl) (Nat.le_of_ble_eq_true rfl) (Nat.le_of_ble_eq_true rfl) (Nat.le_of_ble_eq_true rfl) (Nat.le_of_ble_eq_true rfl) (Nat.le_of_ble_eq_true rfl)
  · have hk := oc_s hk ho16
    have hq := oc_se hq ho16
    have hvb17 : lv κ 0 b15 := hw14 b15 ho16
    have hl : lv_has ls 4 [(3, .ref (kA κ 0 b15)), (0, .ref (kA κ 7 0)), (1, .int y1), (2, .int y2)] := by first | exact hl | (rw [ho16] at hl; exact hl)
    refine lv_ifnonnull (tgt := 21) hx hb dX7_ofBout_7 (by decide) ?_
    refine lv_iload_n hx hb dX7_ofBout_21 rfl (lv_at hl 3 rfl) ?_
    refine lv_iconst (v := 0) hx hb dX7_ofBout_22 (by decide) ?_
    refine lv_iconst (v := 5) hx hb dX7_ofBout_23 (by decide) ?_
    refine k_callS (rest := []) hC hl hH hS (c_X7_isWithin l κ γ y2 0 5) tw_278 tw_279 tw_38 tw_280 hd_X7_isWithin ⟨Nat.le_of_ble_eq_true rfl, Nat.le_of_ble_eq_true rfl⟩ rfl rfl rfl rfl (Nat.le_of_ble_eq_true rfl) dX7_ofBout_24 ⟨Nat.le_of_ble_eq_true rfl, Nat.le_of_ble_eq_true rfl⟩ rfl (fun H locs hH hS => ?_)
    refine lv_if_ne (tgt := 41) hx hb dX7_ofBout_27 (by decide) (fun c18 => ?_) (fun c18 => ?_)
    · have hk := ifn hk c18
      have hq := ifne hq c18
      refine lv_aload_n hx hb dX7_ofBout_41 rfl (lv_at hl 0 rfl) ?_
      refine lv_iload_n hx hb dX7_ofBout_42 rfl (lv_at hl 3 rfl) ?_
      refine k_callV (C := RX0) (T := TX0) (N := 10) (rest := []) hC hl hH hS (c_X0_told l κ γ b15 y2 hvb17) hvb17 rfl rfl tw_297 tw_298 tw_299 tw_50 tw_300 hd_X0_told ⟨Nat.le_of_ble_eq_true rfl, Nat.le_of_ble_eq_true rfl⟩ rfl rfl rfl rfl (Nat.le_of_ble_eq_true rfl) dX7_ofBout_43 ⟨Nat.le_of_ble_eq_true rfl, Nat.le_of_ble_eq_true rfl⟩ rfl (fun H locs hH hS => ?_)
      subst hq
      exact kx_of rfl (by decide) (by decide) (kr_i hC hr hH hS rfl rfl dX7_ofBout_46)
    · have hk := ifp hk c18
      have hq := ifpe hq c18
      subst hq
      exact k_throwW (en := 2) (text := "what is out of range") hC hfl ht hl hH hS rfl (by decide) tw_281 tw_46 (List.mem_of_getElem? (i := 2) rfl) at_IAE ot_IAE fit_2 dX7_ofBout_30 dX7_ofBout_33 dX7_ofBout_34 dX7_ofBout_37 dX7_ofBout_40 (Nat.le_of_ble_eq_true rfl) (Nat.le_of_ble_eq_true rfl) (Nat.le_of_ble_eq_true rfl) (Nat.le_of_ble_eq_true rfl) (Nat.le_of_ble_eq_true rfl) (Nat.le_of_ble_eq_true rfl)
set_option maxRecDepth 20000 in
set_option maxHeartbeats 4000000 in
theorem c_X7_checkOfPool (l : Launch) (hfl : l.stackTraces = false) (κ : KP) (γ : St) (y0 : Int32)  : vx_Met l yX7_checkOfPool [Cond.code yX7_checkOfPool cX7_checkOfPool 1 none] ({ frames := 6, cells := 1, slots := 6, locals := 90 } : Room) (va_Pc [.int y0] (GG κ γ)) (QX κ (((x_X7_checkOfPool y0 γ)).2) (((x_X7_checkOfPool y0 γ)).1) (none)) (XX κ (((x_X7_checkOfPool y0 γ)).2) (((x_X7_checkOfPool y0 γ)).1)) 1 6 (AA κ) := by
  generalize hq : x_X7_checkOfPool y0 γ = res
  refine vx_ofW (cc := cX7_checkOfPool) (maxL := 1) (ret := none) (by decide) rfl ?_
  intro p e s m args below meth c s₁ B hml9 ht hv
  obtain ⟨rfl, hH, hK9, hB9, hX9, hZ9⟩ := hv
  have hC : CX κ cX7_checkOfPool "Phrasehall" 1 p l s m ([.int y0] : List Value).toArray meth c := ⟨B.exec, B.bytes, findClass_of_methodNamed B.named, fun w hw => tw_use (List.mem_filter.mp hw).2 (State.WarmedH.refl s) (hX9.1 w hw), hK9, hX9, hZ9, hB9, hml9, B.notSynchronized⟩
  obtain ⟨hx, hb, hown, hT, -, -, -, -, hml, -⟩ := id hC
  have hr := B.returns
  have hS : va_S (AA κ) s.heap s.heap [] := va_S.rf
  have hl := lv_entry ([.int y0]) (n := 1) (Nat.le_of_ble_eq_true rfl)
  rw [lg_entry_eq]
  generalize (lg_sl ([.int y0]) ++ List.replicate (1 - (lg_sl ([.int y0])).length) Slot.unset).toArray = ls at hl ⊢
  have hl : lv_has ls 1 [(0, .int y0)] := hl
  refine lv_iload_n hx hb dX7_checkOfPool_0 rfl (lv_at hl 0 rfl) ?_
  refine lv_iconst (v := 0) hx hb dX7_checkOfPool_1 (by decide) ?_
  refine lv_iconst (v := 3) hx hb dX7_checkOfPool_2 (by decide) ?_
  refine k_callS (rest := []) hC hl hH hS (c_X7_isWithin l κ γ y0 0 3) tw_278 tw_279 tw_38 tw_280 hd_X7_isWithin ⟨Nat.le_of_ble_eq_true rfl, Nat.le_of_ble_eq_true rfl⟩ rfl rfl rfl rfl (Nat.le_of_ble_eq_true rfl) dX7_checkOfPool_3 ⟨Nat.le_of_ble_eq_true rfl, Nat.le_of_ble_eq_true rfl⟩ rfl (fun H locs hH hS => ?_)
  refine lv_if_ne (tgt := 20) hx hb dX7_checkOfPool_6 (by decide) (fun c3 => ?_) (fun c3 => ?_)
  · have hq := ifne hq c3
    subst hq
    exact kx_of rfl (by decide) (by decide) (kr_v hC hr hH hS rfl dX7_checkOfPool_20)
  · have hq := ifpe hq c3
    subst hq
    exact k_throwW (en := 2) (text := "what is out of range") hC hfl ht hl hH hS rfl (by decide) tw_281 tw_46 (List.mem_of_getElem? (i := 2) rfl) at_IAE ot_IAE fit_2 dX7_checkOfPool_9 dX7_checkOfPool_12 dX7_checkOfPool_13 dX7_checkOfPool_16 dX7_checkOfPool_19 (Nat.le_of_ble_eq_true rfl) (Nat.le_of_ble_eq_true rfl) (Nat.le_of_ble_eq_true rfl) (Nat.le_of_ble_eq_true rfl) (Nat.le_of_ble_eq_true rfl) (Nat.le_of_ble_eq_true rfl)
set_option maxRecDepth 20000 in
set_option maxHeartbeats 4000000 in
theorem c_X7_ofPool (l : Launch) (hfl : l.stackTraces = false) (κ : KP) (γ : St) (y1 : Int32) (y2 : Int32) (y3 : Int32) (hk : ok_X7_ofPool y1 y2 y3 γ) : vx_Met l yX7_ofPool [Cond.code yX7_ofPool cX7_ofPool 5 (some .int)] ({ frames := 7, cells := 2, slots := 12, locals := 113 } : Room) (va_Pc [.ref (kA κ 7 0), .int y1, .int y2, .int y3] (GG κ γ)) (QX κ (((x_X7_ofPool y1 y2 y3 γ)).2.2) (((x_X7_ofPool y1 y2 y3 γ)).1) (some (.int (((x_X7_ofPool y1 y2 y3 γ)).2.1)))) (XX κ (((x_X7_ofPool y1 y2 y3 γ)).2.2) (((x_X7_ofPool y1 y2 y3 γ)).1)) 2 12 (AA κ) := by
  generalize hq : x_X7_ofPool y1 y2 y3 γ = res
  refine vx_ofW (cc := cX7_ofPool) (maxL := 5) (ret := (some .int)) (by decide) rfl ?_
  intro p e s m args below meth c s₁ B hml9 ht hv
  obtain ⟨rfl, hH, hK9, hB9, hX9, hZ9⟩ := hv
  have hC : CX κ cX7_ofPool "Phrasehall" 5 p l s m ([.ref (kA κ 7 0), .int y1, .int y2, .int y3] : List Value).toArray meth c := ⟨B.exec, B.bytes, findClass_of_methodNamed B.named, fun w hw => tw_use (List.mem_filter.mp hw).2 (State.WarmedH.refl s) (hX9.1 w hw), hK9, hX9, hZ9, hB9, hml9, B.notSynchronized⟩
  obtain ⟨hx, hb, hown, hT, -, -, -, -, hml, -⟩ := id hC
  have hr := B.returns
  have hS : va_S (AA κ) s.heap s.heap [] := va_S.rf
  have hl := lv_entry ([.ref (kA κ 7 0), .int y1, .int y2, .int y3]) (n := 5) (Nat.le_of_ble_eq_true rfl)
  rw [lg_entry_eq]
  generalize (lg_sl ([.ref (kA κ 7 0), .int y1, .int y2, .int y3]) ++ List.replicate (5 - (lg_sl ([.ref (kA κ 7 0), .int y1, .int y2, .int y3])).length) Slot.unset).toArray = ls at hl ⊢
  have hl : lv_has ls 5 [(0, .ref (kA κ 7 0)), (1, .int y1), (2, .int y2), (3, .int y3)] := hl
  refine lv_aload_n hx hb dX7_ofPool_0 rfl (lv_at hl 0 rfl) ?_
  refine lv_iload_n hx hb dX7_ofPool_1 rfl (lv_at hl 1 rfl) ?_
  refine lv_iload_n hx hb dX7_ofPool_2 rfl (lv_at hl 2 rfl) ?_
  obtain ⟨hc11, hk⟩ := hk
  have hwt9 := hH.wt
  refine k_xcallV (C := RX7) (T := TX7) (N := 10) (rest := []) hC hl hH hS (c_X7_poolWith l hfl κ γ y1 y2 hc11) lv_7 rfl rfl tw_305 tw_307 tw_2 tw_38 tw_308 hd_X7_poolWith ⟨Nat.le_of_ble_eq_true rfl, Nat.le_of_ble_eq_true rfl⟩ rfl rfl rfl rfl (Nat.le_of_ble_eq_true rfl) dX7_ofPool_3 ⟨Nat.le_of_ble_eq_true rfl, Nat.le_of_ble_eq_true rfl⟩ rfl (fun he13 ce q9 H locs hH hS hce hcv hcl => ?_) (fun he13 H locs hH hS => ?_)
  · have hq := ifne hq he13
    subst hq
    exact k_out hC ht he13 hH hS hce hcv hcl (Nat.le_of_ble_eq_true rfl) (Nat.le_of_ble_eq_true rfl)
  · have hk := ifp hk he13
    have hq := ifpe hq he13
    have hw12 : lv κ 5 (x_X7_poolWith y1 y2 γ).2.1 := lvr_X7_poolWith hwt9 y1 y2 he13
    refine lv_astore (lv' := [(4, .ref (kA κ 5 ((x_X7_poolWith y1 y2 γ).2.1))), (0, .ref (kA κ 7 0)), (1, .int y1), (2, .int y2), (3, .int y3)]) hx hb dX7_ofPool_6 hl (by decide) rfl (fun ls hl => ?_)
    refine lv_iload_n hx hb dX7_ofPool_8 rfl (lv_at hl 4 rfl) ?_
    have hwt9 := hH.wt
    refine k_xcallS (rest := []) hC hl hH hS (c_X7_checkOfPool l hfl κ (x_X7_poolWith y1 y2 γ).2.2 y3) tw_321 tw_322 tw_38 tw_323 hd_X7_checkOfPool ⟨Nat.le_of_ble_eq_true rfl, Nat.le_of_ble_eq_true rfl⟩ rfl rfl rfl rfl (Nat.le_of_ble_eq_true rfl) dX7_ofPool_9 ⟨Nat.le_of_ble_eq_true rfl, Nat.le_of_ble_eq_true rfl⟩ rfl (fun he14 ce q9 H locs hH hS hce hcv hcl => ?_) (fun he14 H locs hH hS => ?_)
    · have hq := ifne hq he14
      subst hq
      exact k_out hC ht he14 hH hS hce hcv hcl (Nat.le_of_ble_eq_true rfl) (Nat.le_of_ble_eq_true rfl)
    · have hk := ifp hk he14
      have hq := ifpe hq he14
      refine lv_aload hx hb dX7_ofPool_12 (lv_at hl 0 rfl) ?_
      refine lv_iload_n hx hb dX7_ofPool_14 rfl (lv_at hl 3 rfl) ?_
      refine lv_iload_n hx hb dX7_ofPool_15 rfl (lv_at hl 4 rfl) ?_
      obtain ⟨hc15, hk⟩ := hk
      refine k_callV (C := RX5) (T := TX5) (N := 5) (rest := []) hC hl hH hS (c_X5_kept l κ (x_X7_checkOfPool y3 (x_X7_poolWith y1 y2 γ).2.2).2 ((x_X7_poolWith y1 y2 γ).2.1) y2 y3 hw12 hc15) hw12 rfl rfl tw_324 tw_325 tw_326 tw_49 tw_327 hd_X5_kept ⟨Nat.le_of_ble_eq_true rfl, Nat.le_of_ble_eq_true rfl⟩ rfl rfl rfl rfl (Nat.le_of_ble_eq_true rfl) dX7_ofPool_16 ⟨Nat.le_of_ble_eq_true rfl, Nat.le_of_ble_eq_true rfl⟩ rfl (fun H locs hH hS => ?_)
      subst hq
      exact kx_of rfl (by decide) (by decide) (kr_i hC hr hH hS rfl rfl dX7_ofPool_19)
set_option maxRecDepth 20000 in
set_option maxHeartbeats 4000000 in
theorem c_X7_ofPoolAnew (l : Launch) (hfl : l.stackTraces = false) (κ : KP) (γ : St) (y1 : Int32) (y2 : Int32) (y3 : Int32) (hk : ok_X7_ofPoolAnew y1 y2 y3 γ) : vx_Met l yX7_ofPoolAnew [Cond.code yX7_ofPoolAnew cX7_ofPoolAnew 8 (some .int)] ({ frames := 7, cells := 2, slots := 12, locals := 113 } : Room) (va_Pc [.ref (kA κ 7 0), .int y1, .int y2, .int y3] (GG κ γ)) (QX κ (((x_X7_ofPoolAnew y1 y2 y3 γ)).2.2) (((x_X7_ofPoolAnew y1 y2 y3 γ)).1) (some (.int (((x_X7_ofPoolAnew y1 y2 y3 γ)).2.1)))) (XX κ (((x_X7_ofPoolAnew y1 y2 y3 γ)).2.2) (((x_X7_ofPoolAnew y1 y2 y3 γ)).1)) 2 12 (AA κ) := by
  generalize hq : x_X7_ofPoolAnew y1 y2 y3 γ = res
  refine vx_ofW (cc := cX7_ofPoolAnew) (maxL := 8) (ret := (some .int)) (by decide) rfl ?_
  intro p e s m args below meth c s₁ B hml9 ht hv
  obtain ⟨rfl, hH, hK9, hB9, hX9, hZ9⟩ := hv
  have hC : CX κ cX7_ofPoolAnew "Phrasehall" 8 p l s m ([.ref (kA κ 7 0), .int y1, .int y2, .int y3] : List Value).toArray meth c := ⟨B.exec, B.bytes, findClass_of_methodNamed B.named, fun w hw => tw_use (List.mem_filter.mp hw).2 (State.WarmedH.refl s) (hX9.1 w hw), hK9, hX9, hZ9, hB9, hml9, B.notSynchronized⟩
  obtain ⟨hx, hb, hown, hT, -, -, -, -, hml, -⟩ := id hC
  have hr := B.returns
  have hS : va_S (AA κ) s.heap s.heap [] := va_S.rf
  have hl := lv_entry ([.ref (kA κ 7 0), .int y1, .int y2, .int y3]) (n := 8) (Nat.le_of_ble_eq_true rfl)
  rw [lg_entry_eq]
  generalize (lg_sl ([.ref (kA κ 7 0), .int y1, .int y2, .int y3]) ++ List.replicate (8 - (lg_sl ([.ref (kA κ 7 0), .int y1, .int y2, .int y3])).length) Slot.unset).toArray = ls at hl ⊢
  have hl : lv_has ls 8 [(0, .ref (kA κ 7 0)), (1, .int y1), (2, .int y2), (3, .int y3)] := hl
  have b_18 : ∀ (k18 : Nat) (a2 : Int32) (a3 : Int32) (n4 : Nat) (a5 : Int32) (a6 : Int32) (γ : St) (H : Heap) (locs : List Loc) (ls : Array Slot), lv_has ls 8 [(0, .ref (kA κ 7 0)), (2, .int a2), (3, .int a3), (4, .ref (kA κ 5 n4)), (5, .int a5), (6, .int a6)] → HR κ γ H → va_S (AA κ) s.heap H locs → (lv κ 5 n4) → ok_X7_ofPoolAnew_18 k18 a2 a3 n4 a5 a6 γ → x_X7_ofPoolAnew_18 k18 a2 a3 n4 a5 a6 γ = res → W p l e (headSpec [Cond.code yX7_ofPoolAnew cX7_ofPoolAnew 8 (some .int)] ({ frames := 7, cells := 2, slots := 12, locals := 113 } : Room)).room s m ([.ref (kA κ 7 0), .int y1, .int y2, .int y3] : List Value).toArray below meth c H locs 2 12 (vx_MQ below (QX κ (res.2.2) (res.1) (some (.int res.2.1))) (XX κ (res.2.2) (res.1)) ([.ref (kA κ 7 0), .int y1, .int y2, .int y3] : List Value).toArray s 2 12 (AA κ)) (F0 m 18 ls []) := by
    intro k18
    induction k18 with
    | zero =>
      intro a2 a3 n4 a5 a6 γ H locs ls hl hH hS hv_n4 hk hq
      exact (show False from hk).elim
    | succ k18 ih_18 =>
      have b_76 : ∀ (a2 : Int32) (a3 : Int32) (n4 : Nat) (a5 : Int32) (a6 : Int32) (γ : St) (H : Heap) (locs : List Loc) (ls : Array Slot), lv_has ls 8 [(0, .ref (kA κ 7 0)), (2, .int a2), (3, .int a3), (4, .ref (kA κ 5 n4)), (5, .int a5), (6, .int a6)] → HR κ γ H → va_S (AA κ) s.heap H locs → (lv κ 5 n4) → ok_X7_ofPoolAnew_76 (ok_X7_ofPoolAnew_18 k18) a2 a3 n4 a5 a6 γ → x_X7_ofPoolAnew_76 (x_X7_ofPoolAnew_18 k18) a2 a3 n4 a5 a6 γ = res → W p l e (headSpec [Cond.code yX7_ofPoolAnew cX7_ofPoolAnew 8 (some .int)] ({ frames := 7, cells := 2, slots := 12, locals := 113 } : Room)).room s m ([.ref (kA κ 7 0), .int y1, .int y2, .int y3] : List Value).toArray below meth c H locs 2 12 (vx_MQ below (QX κ (res.2.2) (res.1) (some (.int res.2.1))) (XX κ (res.2.2) (res.1)) ([.ref (kA κ 7 0), .int y1, .int y2, .int y3] : List Value).toArray s 2 12 (AA κ)) (F0 m 76 ls []) := by
        intro a2 a3 n4 a5 a6 γ H locs ls hl hH hS hv_n4 hk hq
        refine lv_iinc (v := a6 + 1) (lv' := [(6, .int (a6 + 1)), (0, .ref (kA κ 7 0)), (2, .int a2), (3, .int a3), (4, .ref (kA κ 5 n4)), (5, .int a5)]) hx hb dX7_ofPoolAnew_76 hl (k := 5) rfl rfl (by decide) rfl (fun ls hl => ?_)
        refine lv_goto (tgt := 18) hx hb dX7_ofPoolAnew_79 (by decide) ?_
        exact ih_18 a2 a3 n4 a5 (a6 + 1) γ _ _ _ (lv_sub hl [1, 2, 3, 4, 5, 0] rfl) hH hS hv_n4 hk hq
      intro a2 a3 n4 a5 a6 γ H locs ls hl hH hS hv_n4 hk hq
      refine lv_iload hx hb dX7_ofPoolAnew_18 (lv_at hl 5 rfl) ?_
      refine lv_aload_n hx hb dX7_ofPoolAnew_20 rfl (lv_at hl 0 rfl) ?_
      refine hp_get (v := .int (gV γ 7 0 6)) (C := RX7) (T := TX7) (N := 10) hC inX7 hH lv_7 rfl rfl 6 (by decide) tw_153 rfl rfl dX7_ofPoolAnew_21 ?_
      refine lv_icmp_ge (tgt := 82) hx hb dX7_ofPoolAnew_24 (by decide) (fun c37 => ?_) (fun c37 => ?_)
      · have hk := ifp hk c37
        have hq := ifpe hq c37
        refine lv_iload hx hb dX7_ofPoolAnew_82 (lv_at hl 4 rfl) ?_
        subst hq
        exact kx_of rfl (by decide) (by decide) (kr_i hC hr hH hS rfl rfl dX7_ofPoolAnew_84)
      · have hk := ifn hk c37
        have hq := ifne hq c37
        refine lv_aload_n hx hb dX7_ofPoolAnew_27 rfl (lv_at hl 0 rfl) ?_
        refine lv_iload hx hb dX7_ofPoolAnew_28 (lv_at hl 5 rfl) ?_
        obtain ⟨hc38, hk⟩ := hk
        have hw39 : ∀ b : Nat, (x_X7_boutAt a6 γ) = some b → lv κ 0 b := lvr_X7_boutAt hH.wt a6
        refine k_callV (C := RX7) (T := TX7) (N := 10) (rest := []) hC hl hH hS (c_X7_boutAt l κ γ a6 hc38) lv_7 rfl rfl tw_258 tw_260 tw_1 tw_38 tw_261 hd_X7_boutAt ⟨Nat.le_of_ble_eq_true rfl, Nat.le_of_ble_eq_true rfl⟩ rfl rfl rfl rfl (Nat.le_of_ble_eq_true rfl) dX7_ofPoolAnew_30 ⟨Nat.le_of_ble_eq_true rfl, Nat.le_of_ble_eq_true rfl⟩ rfl (fun H locs hH hS => ?_)
        refine lv_astoreq (lv' := [(7, va_rf (((x_X7_boutAt a6 γ)).map (kA κ 0))), (0, .ref (kA κ 7 0)), (2, .int a2), (3, .int a3), (4, .ref (kA κ 5 n4)), (5, .int a5), (6, .int a6)]) hx hb dX7_ofPoolAnew_33 hl (by decide) rfl (fun ls hl => ?_)
        refine lv_aloadq hx hb dX7_ofPoolAnew_35 (lv_at hl 0 rfl) ?_
        rcases ho41 : (x_X7_boutAt a6 γ) with _ | b40
        · have hk := oc_n hk ho41
          have hq := oc_ne hq ho41
          have hl : lv_has ls 8 [(7, .null), (0, .ref (kA κ 7 0)), (2, .int a2), (3, .int a3), (4, .ref (kA κ 5 n4)), (5, .int a5), (6, .int a6)] := by first | exact hl | (rw [ho41] at hl; exact hl)
          refine lv_ifnullN (tgt := 76) hx hb dX7_ofPoolAnew_37 (by decide) ?_
          exact b_76 a2 a3 n4 a5 a6 γ _ _ _ (lv_sub hl [1, 2, 3, 4, 5, 6] rfl) hH hS hv_n4 hk hq
        · have hk := oc_s hk ho41
          have hq := oc_se hq ho41
          have hvb42 : lv κ 0 b40 := hw39 b40 ho41
          have hl : lv_has ls 8 [(7, .ref (kA κ 0 b40)), (0, .ref (kA κ 7 0)), (2, .int a2), (3, .int a3), (4, .ref (kA κ 5 n4)), (5, .int a5), (6, .int a6)] := by first | exact hl | (rw [ho41] at hl; exact hl)
          refine lv_ifnull hx hb dX7_ofPoolAnew_37 ?_
          refine lv_aload hx hb dX7_ofPoolAnew_40 (lv_at hl 0 rfl) ?_
          refine lv_iload_n hx hb dX7_ofPoolAnew_42 rfl (lv_at hl 2 rfl) ?_
          refine k_callV (C := RX0) (T := TX0) (N := 10) (rest := []) hC hl hH hS (c_X0_has l κ γ b40 a2 hvb42) hvb42 rfl rfl tw_332 tw_333 tw_334 tw_50 tw_335 hd_X0_has ⟨Nat.le_of_ble_eq_true rfl, Nat.le_of_ble_eq_true rfl⟩ rfl rfl rfl rfl (Nat.le_of_ble_eq_true rfl) dX7_ofPoolAnew_43 ⟨Nat.le_of_ble_eq_true rfl, Nat.le_of_ble_eq_true rfl⟩ rfl (fun H locs hH hS => ?_)
          refine lv_if_eq (tgt := 76) hx hb dX7_ofPoolAnew_46 (by decide) (fun c43 => ?_) (fun c43 => ?_)
          · have hk := ifp hk c43
            have hq := ifpe hq c43
            exact b_76 a2 a3 n4 a5 a6 γ _ _ _ (lv_sub hl [1, 2, 3, 4, 5, 6] rfl) hH hS hv_n4 hk hq
          · have hk := ifn hk c43
            have hq := ifne hq c43
            refine lv_aload hx hb dX7_ofPoolAnew_49 (lv_at hl 4 rfl) ?_
            refine lv_aload hx hb dX7_ofPoolAnew_51 (lv_at hl 0 rfl) ?_
            refine k_callV (C := RX5) (T := TX5) (N := 5) (rest := []) hC hl hH hS (c_X5_counts l κ γ n4 b40 hv_n4 hvb42) hv_n4 rfl rfl tw_336 tw_337 tw_338 tw_49 tw_339 hd_X5_counts ⟨Nat.le_of_ble_eq_true rfl, Nat.le_of_ble_eq_true rfl⟩ rfl rfl rfl rfl (Nat.le_of_ble_eq_true rfl) dX7_ofPoolAnew_53 ⟨Nat.le_of_ble_eq_true rfl, Nat.le_of_ble_eq_true rfl⟩ rfl (fun H locs hH hS => ?_)
            refine lv_if_eq (tgt := 76) hx hb dX7_ofPoolAnew_56 (by decide) (fun c44 => ?_) (fun c44 => ?_)
            · have hk := ifp hk c44
              have hq := ifpe hq c44
              exact b_76 a2 a3 n4 a5 a6 γ _ _ _ (lv_sub hl [1, 2, 3, 4, 5, 6] rfl) hH hS hv_n4 hk hq
            · have hk := ifn hk c44
              have hq := ifne hq c44
              refine lv_iload hx hb dX7_ofPoolAnew_59 (lv_at hl 5 rfl) ?_
              refine lv_aload hx hb dX7_ofPoolAnew_61 (lv_at hl 0 rfl) ?_
              refine lv_aload hx hb dX7_ofPoolAnew_63 (lv_at hl 0 rfl) ?_
              refine lv_iload_n hx hb dX7_ofPoolAnew_65 rfl (lv_at hl 2 rfl) ?_
              refine k_callV (C := RX0) (T := TX0) (N := 10) (rest := [.ref (kA κ 0 b40), .int a5]) hC hl hH hS (c_X0_sideOf l κ γ b40 a2 hvb42) hvb42 rfl rfl tw_348 tw_349 tw_350 tw_50 tw_351 hd_X0_sideOf ⟨Nat.le_of_ble_eq_true rfl, Nat.le_of_ble_eq_true rfl⟩ rfl rfl rfl rfl (Nat.le_of_ble_eq_true rfl) dX7_ofPoolAnew_66 ⟨Nat.le_of_ble_eq_true rfl, Nat.le_of_ble_eq_true rfl⟩ rfl (fun H locs hH hS => ?_)
              refine lv_iload_n hx hb dX7_ofPoolAnew_69 rfl (lv_at hl 3 rfl) ?_
              refine k_callV (C := RX0) (T := TX0) (N := 10) (rest := [.int a5]) hC hl hH hS (c_X0_share l κ γ b40 ((x_X0_sideOf b40 a2 γ)) a3 hvb42) hvb42 rfl rfl tw_352 tw_353 tw_354 tw_50 tw_355 hd_X0_share ⟨Nat.le_of_ble_eq_true rfl, Nat.le_of_ble_eq_true rfl⟩ rfl rfl rfl rfl (Nat.le_of_ble_eq_true rfl) dX7_ofPoolAnew_70 ⟨Nat.le_of_ble_eq_true rfl, Nat.le_of_ble_eq_true rfl⟩ rfl (fun H locs hH hS => ?_)
              refine lv_iadd hx hb dX7_ofPoolAnew_73 ?_
              refine lv_istore (lv' := [(5, .int (a5 + ((x_X0_share b40 ((x_X0_sideOf b40 a2 γ)) a3 γ)))), (7, .ref (kA κ 0 b40)), (0, .ref (kA κ 7 0)), (2, .int a2), (3, .int a3), (4, .ref (kA κ 5 n4)), (6, .int a6)]) hx hb dX7_ofPoolAnew_74 hl (by decide) rfl (fun ls hl => ?_)
              exact b_76 a2 a3 n4 (a5 + ((x_X0_share b40 ((x_X0_sideOf b40 a2 γ)) a3 γ))) a6 γ _ _ _ (lv_sub hl [2, 3, 4, 5, 0, 6] rfl) hH hS hv_n4 hk hq
  refine lv_aload_n hx hb dX7_ofPoolAnew_0 rfl (lv_at hl 0 rfl) ?_
  refine lv_iload_n hx hb dX7_ofPoolAnew_1 rfl (lv_at hl 1 rfl) ?_
  refine lv_iload_n hx hb dX7_ofPoolAnew_2 rfl (lv_at hl 2 rfl) ?_
  obtain ⟨hc45, hk⟩ := hk
  have hwt9 := hH.wt
  refine k_xcallV (C := RX7) (T := TX7) (N := 10) (rest := []) hC hl hH hS (c_X7_poolWith l hfl κ γ y1 y2 hc45) lv_7 rfl rfl tw_305 tw_307 tw_2 tw_38 tw_308 hd_X7_poolWith ⟨Nat.le_of_ble_eq_true rfl, Nat.le_of_ble_eq_true rfl⟩ rfl rfl rfl rfl (Nat.le_of_ble_eq_true rfl) dX7_ofPoolAnew_3 ⟨Nat.le_of_ble_eq_true rfl, Nat.le_of_ble_eq_true rfl⟩ rfl (fun he47 ce q9 H locs hH hS hce hcv hcl => ?_) (fun he47 H locs hH hS => ?_)
  · have hq := ifne hq he47
    subst hq
    exact k_out hC ht he47 hH hS hce hcv hcl (Nat.le_of_ble_eq_true rfl) (Nat.le_of_ble_eq_true rfl)
  · have hk := ifp hk he47
    have hq := ifpe hq he47
    have hw46 : lv κ 5 (x_X7_poolWith y1 y2 γ).2.1 := lvr_X7_poolWith hwt9 y1 y2 he47
    refine lv_astore (lv' := [(4, .ref (kA κ 5 ((x_X7_poolWith y1 y2 γ).2.1))), (0, .ref (kA κ 7 0)), (1, .int y1), (2, .int y2), (3, .int y3)]) hx hb dX7_ofPoolAnew_6 hl (by decide) rfl (fun ls hl => ?_)
    refine lv_iload_n hx hb dX7_ofPoolAnew_8 rfl (lv_at hl 4 rfl) ?_
    have hwt9 := hH.wt
    refine k_xcallS (rest := []) hC hl hH hS (c_X7_checkOfPool l hfl κ (x_X7_poolWith y1 y2 γ).2.2 y3) tw_321 tw_322 tw_38 tw_323 hd_X7_checkOfPool ⟨Nat.le_of_ble_eq_true rfl, Nat.le_of_ble_eq_true rfl⟩ rfl rfl rfl rfl (Nat.le_of_ble_eq_true rfl) dX7_ofPoolAnew_9 ⟨Nat.le_of_ble_eq_true rfl, Nat.le_of_ble_eq_true rfl⟩ rfl (fun he48 ce q9 H locs hH hS hce hcv hcl => ?_) (fun he48 H locs hH hS => ?_)
    · have hq := ifne hq he48
      subst hq
      exact k_out hC ht he48 hH hS hce hcv hcl (Nat.le_of_ble_eq_true rfl) (Nat.le_of_ble_eq_true rfl)
    · have hk := ifp hk he48
      have hq := ifpe hq he48
      refine lv_iconst (v := 0) hx hb dX7_ofPoolAnew_12 (by decide) ?_
      refine lv_istore (lv' := [(5, .int 0), (4, .ref (kA κ 5 ((x_X7_poolWith y1 y2 γ).2.1))), (0, .ref (kA κ 7 0)), (1, .int y1), (2, .int y2), (3, .int y3)]) hx hb dX7_ofPoolAnew_13 hl (by decide) rfl (fun ls hl => ?_)
      refine lv_iconst (v := 0) hx hb dX7_ofPoolAnew_15 (by decide) ?_
      refine lv_istore (lv' := [(6, .int 0), (5, .int 0), (4, .ref (kA κ 5 ((x_X7_poolWith y1 y2 γ).2.1))), (0, .ref (kA κ 7 0)), (1, .int y1), (2, .int y2), (3, .int y3)]) hx hb dX7_ofPoolAnew_16 hl (by decide) rfl (fun ls hl => ?_)
      exact b_18 fu y2 y3 ((x_X7_poolWith y1 y2 γ).2.1) 0 0 (x_X7_checkOfPool y3 (x_X7_poolWith y1 y2 γ).2.2).2 _ _ _ (lv_sub hl [3, 5, 6, 2, 1, 0] rfl) hH hS hw46 hk hq
set_option maxRecDepth 20000 in
set_option maxHeartbeats 4000000 in
theorem c_X7_rank (l : Launch) (hfl : l.stackTraces = false) (κ : KP) (γ : St) (y1 : Int32) (y2 : Int32) (hk : ok_X7_rank y1 y2 γ) : vx_Met l yX7_rank [Cond.code yX7_rank cX7_rank 4 (some .int)] ({ frames := 6, cells := 1, slots := 6, locals := 113 } : Room) (va_Pc [.ref (kA κ 7 0), .int y1, .int y2] (GG κ γ)) (QX κ (((x_X7_rank y1 y2 γ)).2.2) (((x_X7_rank y1 y2 γ)).1) (some (.int (((x_X7_rank y1 y2 γ)).2.1)))) (XX κ (((x_X7_rank y1 y2 γ)).2.2) (((x_X7_rank y1 y2 γ)).1)) 1 6 (AA κ) := by
  generalize hq : x_X7_rank y1 y2 γ = res
  refine vx_ofW (cc := cX7_rank) (maxL := 4) (ret := (some .int)) (by decide) rfl ?_
  intro p e s m args below meth c s₁ B hml9 ht hv
  obtain ⟨rfl, hH, hK9, hB9, hX9, hZ9⟩ := hv
  have hC : CX κ cX7_rank "Phrasehall" 4 p l s m ([.ref (kA κ 7 0), .int y1, .int y2] : List Value).toArray meth c := ⟨B.exec, B.bytes, findClass_of_methodNamed B.named, fun w hw => tw_use (List.mem_filter.mp hw).2 (State.WarmedH.refl s) (hX9.1 w hw), hK9, hX9, hZ9, hB9, hml9, B.notSynchronized⟩
  obtain ⟨hx, hb, hown, hT, -, -, -, -, hml, -⟩ := id hC
  have hr := B.returns
  have hS : va_S (AA κ) s.heap s.heap [] := va_S.rf
  have hl := lv_entry ([.ref (kA κ 7 0), .int y1, .int y2]) (n := 4) (Nat.le_of_ble_eq_true rfl)
  rw [lg_entry_eq]
  generalize (lg_sl ([.ref (kA κ 7 0), .int y1, .int y2]) ++ List.replicate (4 - (lg_sl ([.ref (kA κ 7 0), .int y1, .int y2])).length) Slot.unset).toArray = ls at hl ⊢
  have hl : lv_has ls 4 [(0, .ref (kA κ 7 0)), (1, .int y1), (2, .int y2)] := hl
  have b_14 : ∀ (γ : St) (H : Heap) (locs : List Loc) (ls : Array Slot), lv_has ls 4 [] → HR κ γ H → va_S (AA κ) s.heap H locs → ok_X7_rank_14 γ → x_X7_rank_14 γ = res → W p l e (headSpec [Cond.code yX7_rank cX7_rank 4 (some .int)] ({ frames := 6, cells := 1, slots := 6, locals := 113 } : Room)).room s m ([.ref (kA κ 7 0), .int y1, .int y2] : List Value).toArray below meth c H locs 0 0 (vx_MQ below (QX κ (res.2.2) (res.1) (some (.int res.2.1))) (XX κ (res.2.2) (res.1)) ([.ref (kA κ 7 0), .int y1, .int y2] : List Value).toArray s 1 6 (AA κ)) (F0 m 14 ls []) := by
    intro  γ H locs ls hl hH hS hk hq
    subst hq
    exact k_throwW (en := 3) (text := "no such pool or place") hC hfl ht hl hH hS rfl (by decide) tw_262 tw_48 (List.mem_of_getElem? (i := 4) rfl) at_IOB ot_IOB fit_3 dX7_rank_14 dX7_rank_17 dX7_rank_18 dX7_rank_21 dX7_rank_24 (Nat.le_of_ble_eq_true rfl) (Nat.le_of_ble_eq_true rfl) (Nat.le_of_ble_eq_true rfl) (Nat.le_of_ble_eq_true rfl) (Nat.le_of_ble_eq_true rfl) (Nat.le_of_ble_eq_true rfl)
  have b_29 : ∀ (a2 : Int32) (n3 : Nat) (γ : St) (H : Heap) (locs : List Loc) (ls : Array Slot), lv_has ls 4 [(2, .int a2), (3, .ref (kA κ 5 n3))] → HR κ γ H → va_S (AA κ) s.heap H locs → (lv κ 5 n3) → ok_X7_rank_29 a2 n3 γ → x_X7_rank_29 a2 n3 γ = res → W p l e (headSpec [Cond.code yX7_rank cX7_rank 4 (some .int)] ({ frames := 6, cells := 1, slots := 6, locals := 113 } : Room)).room s m ([.ref (kA κ 7 0), .int y1, .int y2] : List Value).toArray below meth c H locs 0 0 (vx_MQ below (QX κ (res.2.2) (res.1) (some (.int res.2.1))) (XX κ (res.2.2) (res.1)) ([.ref (kA κ 7 0), .int y1, .int y2] : List Value).toArray s 1 6 (AA κ)) (F0 m 29 ls []) := by
    intro a2 n3 γ H locs ls hl hH hS hv_n3 hk hq
    refine lv_aload_n hx hb dX7_rank_29 rfl (lv_at hl 1 rfl) ?_
    refine lv_iload_n hx hb dX7_rank_30 rfl (lv_at hl 0 rfl) ?_
    obtain ⟨hc25, hk⟩ := hk
    refine k_callV (C := RX5) (T := TX5) (N := 5) (rest := []) hC hl hH hS (c_X5_rankedAt l κ γ n3 a2 hv_n3 hc25) hv_n3 rfl rfl tw_392 tw_393 tw_394 tw_49 tw_395 hd_X5_rankedAt ⟨Nat.le_of_ble_eq_true rfl, Nat.le_of_ble_eq_true rfl⟩ rfl rfl rfl rfl (Nat.le_of_ble_eq_true rfl) dX7_rank_31 ⟨Nat.le_of_ble_eq_true rfl, Nat.le_of_ble_eq_true rfl⟩ rfl (fun H locs hH hS => ?_)
    subst hq
    exact kx_of rfl (by decide) (by decide) (kr_i hC hr hH hS rfl rfl dX7_rank_34)
  refine lv_aload_n hx hb dX7_rank_0 rfl (lv_at hl 0 rfl) ?_
  refine lv_iload_n hx hb dX7_rank_1 rfl (lv_at hl 1 rfl) ?_
  obtain ⟨hc26, hk⟩ := hk
  have hw27 : ∀ b : Nat, (x_X7_poolOf y1 γ) = some b → lv κ 5 b := lvr_X7_poolOf hH.wt y1
  refine k_callV (C := RX7) (T := TX7) (N := 10) (rest := []) hC hl hH hS (c_X7_poolOf l κ γ y1 hc26) lv_7 rfl rfl tw_309 tw_311 tw_3 tw_38 tw_312 hd_X7_poolOf ⟨Nat.le_of_ble_eq_true rfl, Nat.le_of_ble_eq_true rfl⟩ rfl rfl rfl rfl (Nat.le_of_ble_eq_true rfl) dX7_rank_2 ⟨Nat.le_of_ble_eq_true rfl, Nat.le_of_ble_eq_true rfl⟩ rfl (fun H locs hH hS => ?_)
  refine lv_astoreq_n (lv' := [(3, va_rf (((x_X7_poolOf y1 γ)).map (kA κ 5))), (0, .ref (kA κ 7 0)), (1, .int y1), (2, .int y2)]) hx hb dX7_rank_5 rfl hl (by decide) rfl (fun ls hl => ?_)
  refine lv_aloadq_n hx hb dX7_rank_6 rfl (lv_at hl 0 rfl) ?_
  rcases ho29 : (x_X7_poolOf y1 γ) with _ | b28
  · have hk := oc_n hk ho29
    have hq := oc_ne hq ho29
    have hl : lv_has ls 4 [(3, .null), (0, .ref (kA κ 7 0)), (1, .int y1), (2, .int y2)] := by first | exact hl | (rw [ho29] at hl; exact hl)
    refine lv_ifnullN (tgt := 14) hx hb dX7_rank_7 (by decide) ?_
    exact b_14 γ _ _ _ (lv_sub hl [] rfl) hH hS hk hq
  · have hk := oc_s hk ho29
    have hq := oc_se hq ho29
    have hvb30 : lv κ 5 b28 := hw27 b28 ho29
    have hl : lv_has ls 4 [(3, .ref (kA κ 5 b28)), (0, .ref (kA κ 7 0)), (1, .int y1), (2, .int y2)] := by first | exact hl | (rw [ho29] at hl; exact hl)
    refine lv_ifnull hx hb dX7_rank_7 ?_
    refine lv_iload_n hx hb dX7_rank_10 rfl (lv_at hl 3 rfl) ?_
    refine lv_if_ge (tgt := 25) hx hb dX7_rank_11 (by decide) (fun c31 => ?_) (fun c31 => ?_)
    · have hk := ifp hk c31
      have hq := ifpe hq c31
      refine lv_aload_n hx hb dX7_rank_25 rfl (lv_at hl 0 rfl) ?_
      obtain ⟨hc32, hk⟩ := hk
      refine k_callV (C := RX5) (T := TX5) (N := 5) (rest := []) hC hl hH hS (c_X5_orderRanked l κ γ b28 hvb30 hc32) hvb30 rfl rfl tw_366 tw_367 tw_368 tw_49 tw_369 hd_X5_orderRanked ⟨Nat.le_of_ble_eq_true rfl, Nat.le_of_ble_eq_true rfl⟩ rfl rfl rfl rfl (Nat.le_of_ble_eq_true rfl) dX7_rank_26 ⟨Nat.le_of_ble_eq_true rfl, Nat.le_of_ble_eq_true rfl⟩ rfl (fun H locs hH hS => ?_)
      exact b_29 y2 b28 (x_X5_orderRanked b28 γ) _ _ _ (lv_sub hl [3, 0] rfl) hH hS hvb30 hk hq
    · have hk := ifn hk c31
      have hq := ifne hq c31
      exact b_14 γ _ _ _ (lv_sub hl [] rfl) hH hS hk hq
set_option maxRecDepth 20000 in
set_option maxHeartbeats 4000000 in
theorem c_X7_meets (l : Launch) (hfl : l.stackTraces = false) (κ : KP) (γ : St) (y1 : Int32) (y2 : Int32) (y3 : Int32) (hk : ok_X7_meets y1 y2 y3 γ) : vx_Met l yX7_meets [Cond.code yX7_meets cX7_meets 4 (some .int)] ({ frames := 7, cells := 2, slots := 12, locals := 112 } : Room) (va_Pc [.ref (kA κ 7 0), .int y1, .int y2, .int y3] (GG κ γ)) (QX κ (((x_X7_meets y1 y2 y3 γ)).2.2) (((x_X7_meets y1 y2 y3 γ)).1) (some (.int (((x_X7_meets y1 y2 y3 γ)).2.1)))) (XX κ (((x_X7_meets y1 y2 y3 γ)).2.2) (((x_X7_meets y1 y2 y3 γ)).1)) 2 12 (AA κ) := by
  generalize hq : x_X7_meets y1 y2 y3 γ = res
  refine vx_ofW (cc := cX7_meets) (maxL := 4) (ret := (some .int)) (by decide) rfl ?_
  intro p e s m args below meth c s₁ B hml9 ht hv
  obtain ⟨rfl, hH, hK9, hB9, hX9, hZ9⟩ := hv
  have hC : CX κ cX7_meets "Phrasehall" 4 p l s m ([.ref (kA κ 7 0), .int y1, .int y2, .int y3] : List Value).toArray meth c := ⟨B.exec, B.bytes, findClass_of_methodNamed B.named, fun w hw => tw_use (List.mem_filter.mp hw).2 (State.WarmedH.refl s) (hX9.1 w hw), hK9, hX9, hZ9, hB9, hml9, B.notSynchronized⟩
  obtain ⟨hx, hb, hown, hT, -, -, -, -, hml, -⟩ := id hC
  have hr := B.returns
  have hS : va_S (AA κ) s.heap s.heap [] := va_S.rf
  have hl := lv_entry ([.ref (kA κ 7 0), .int y1, .int y2, .int y3]) (n := 4) (Nat.le_of_ble_eq_true rfl)
  rw [lg_entry_eq]
  generalize (lg_sl ([.ref (kA κ 7 0), .int y1, .int y2, .int y3]) ++ List.replicate (4 - (lg_sl ([.ref (kA κ 7 0), .int y1, .int y2, .int y3])).length) Slot.unset).toArray = ls at hl ⊢
  have hl : lv_has ls 4 [(0, .ref (kA κ 7 0)), (1, .int y1), (2, .int y2), (3, .int y3)] := hl
  refine lv_aload_n hx hb dX7_meets_0 rfl (lv_at hl 0 rfl) ?_
  refine lv_iload_n hx hb dX7_meets_1 rfl (lv_at hl 1 rfl) ?_
  refine lv_iload_n hx hb dX7_meets_2 rfl (lv_at hl 2 rfl) ?_
  have hwt9 := hH.wt
  refine k_xcallV (C := RX7) (T := TX7) (N := 10) (rest := []) hC hl hH hS (c_X7_checkMatch l hfl κ γ y1 y2) lv_7 rfl rfl tw_400 tw_402 tw_9 tw_38 tw_403 hd_X7_checkMatch ⟨Nat.le_of_ble_eq_true rfl, Nat.le_of_ble_eq_true rfl⟩ rfl rfl rfl rfl (Nat.le_of_ble_eq_true rfl) dX7_meets_3 ⟨Nat.le_of_ble_eq_true rfl, Nat.le_of_ble_eq_true rfl⟩ rfl (fun he11 ce q9 H locs hH hS hce hcv hcl => ?_) (fun he11 H locs hH hS => ?_)
  · have hq := ifne hq he11
    subst hq
    exact k_out hC ht he11 hH hS hce hcv hcl (Nat.le_of_ble_eq_true rfl) (Nat.le_of_ble_eq_true rfl)
  · have hk := ifp hk he11
    have hq := ifpe hq he11
    refine lv_iload_n hx hb dX7_meets_6 rfl (lv_at hl 3 rfl) ?_
    refine lv_iconst (v := 0) hx hb dX7_meets_7 (by decide) ?_
    refine lv_iconst (v := 2) hx hb dX7_meets_8 (by decide) ?_
    refine k_callS (rest := []) hC hl hH hS (c_X7_isWithin l κ (x_X7_checkMatch y1 y2 γ).2 y3 0 2) tw_278 tw_279 tw_38 tw_280 hd_X7_isWithin ⟨Nat.le_of_ble_eq_true rfl, Nat.le_of_ble_eq_true rfl⟩ rfl rfl rfl rfl (Nat.le_of_ble_eq_true rfl) dX7_meets_9 ⟨Nat.le_of_ble_eq_true rfl, Nat.le_of_ble_eq_true rfl⟩ rfl (fun H locs hH hS => ?_)
    refine lv_if_ne (tgt := 25) hx hb dX7_meets_12 (by decide) (fun c12 => ?_) (fun c12 => ?_)
    · have hk := ifn hk c12
      have hq := ifne hq c12
      refine lv_iload_n hx hb dX7_meets_25 rfl (lv_at hl 3 rfl) ?_
      refine lv_iconst (v := 2) hx hb dX7_meets_26 (by decide) ?_
      refine lv_icmp_ne (tgt := 42) hx hb dX7_meets_27 (by decide) (fun c13 => ?_) (fun c13 => ?_)
      · have hk := ifn hk c13
        have hq := ifne hq c13
        refine lv_aload_n hx hb dX7_meets_42 rfl (lv_at hl 0 rfl) ?_
        refine hp_get (v := .ref (kA κ 1 0)) (C := RX7) (T := TX7) (N := 10) hC inX7 hH lv_7 rfl rfl 3 (by decide) tw_150 rfl rfl dX7_meets_43 ?_
        refine lv_iload_n hx hb dX7_meets_46 rfl (lv_at hl 1 rfl) ?_
        refine lv_iload_n hx hb dX7_meets_47 rfl (lv_at hl 2 rfl) ?_
        refine lv_iload_n hx hb dX7_meets_48 rfl (lv_at hl 3 rfl) ?_
        obtain ⟨hc14, hk⟩ := hk
        refine k_callV (C := RX1) (T := TX1) (N := 3) (rest := []) hC hl hH hS (c_X1_fencerIn l κ (x_X7_checkMatch y1 y2 γ).2 y1 y2 y3 hc14) lv_1 rfl rfl tw_426 tw_427 tw_428 tw_41 tw_429 hd_X1_fencerIn ⟨Nat.le_of_ble_eq_true rfl, Nat.le_of_ble_eq_true rfl⟩ rfl rfl rfl rfl (Nat.le_of_ble_eq_true rfl) dX7_meets_49 ⟨Nat.le_of_ble_eq_true rfl, Nat.le_of_ble_eq_true rfl⟩ rfl (fun H locs hH hS => ?_)
        subst hq
        exact kx_of rfl (by decide) (by decide) (kr_i hC hr hH hS rfl rfl dX7_meets_52)
      · have hk := ifp hk c13
        have hq := ifpe hq c13
        refine lv_aload_n hx hb dX7_meets_30 rfl (lv_at hl 0 rfl) ?_
        refine hp_get (v := .ref (kA κ 1 0)) (C := RX7) (T := TX7) (N := 10) hC inX7 hH lv_7 rfl rfl 3 (by decide) tw_150 rfl rfl dX7_meets_31 ?_
        refine lv_iload_n hx hb dX7_meets_34 rfl (lv_at hl 1 rfl) ?_
        refine lv_iload_n hx hb dX7_meets_35 rfl (lv_at hl 2 rfl) ?_
        obtain ⟨hc15, hk⟩ := hk
        refine k_callV (C := RX1) (T := TX1) (N := 3) (rest := []) hC hl hH hS (c_X1_winnerOf l κ (x_X7_checkMatch y1 y2 γ).2 y1 y2 hc15) lv_1 rfl rfl tw_414 tw_415 tw_416 tw_41 tw_417 hd_X1_winnerOf ⟨Nat.le_of_ble_eq_true rfl, Nat.le_of_ble_eq_true rfl⟩ rfl rfl rfl rfl (Nat.le_of_ble_eq_true rfl) dX7_meets_36 ⟨Nat.le_of_ble_eq_true rfl, Nat.le_of_ble_eq_true rfl⟩ rfl (fun H locs hH hS => ?_)
        refine lv_goto (tgt := 52) hx hb dX7_meets_39 (by decide) ?_
        subst hq
        exact kx_of rfl (by decide) (by decide) (kr_i hC hr hH hS rfl rfl dX7_meets_52)
    · have hk := ifp hk c12
      have hq := ifpe hq c12
      subst hq
      exact k_throw (en := 2) (text := "side is out of range") hC hfl ht hl hH hS rfl (by decide) tw_281 tw_46 (List.mem_of_getElem? (i := 6) rfl) at_IAE ot_IAE fit_2 dX7_meets_15 dX7_meets_18 dX7_meets_19 dX7_meets_21 dX7_meets_24 (Nat.le_of_ble_eq_true rfl) (Nat.le_of_ble_eq_true rfl) (Nat.le_of_ble_eq_true rfl) (Nat.le_of_ble_eq_true rfl) (Nat.le_of_ble_eq_true rfl) (Nat.le_of_ble_eq_true rfl)
