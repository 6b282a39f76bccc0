set_option maxRecDepth 20000 in
set_option maxHeartbeats 4000000 in
theorem c_X0_corner (l : Launch) (κ : KP) (γ : St) (o : Nat) (y1 : Int32) (hvo : lv κ 0 o) : Met l yX0_corner [Cond.code yX0_corner cX0_corner 2 (some (.object "Phrasehall$Corner"))] ({ frames := 0, cells := 0, slots := 0, locals := 0 } : Room) (va_Pc [.ref (kA κ 0 o), .int y1] (GG κ γ)) (QQ κ γ (some (.ref (kA κ 2 ((x_X0_corner o y1 γ)))))) 0 0 (AA κ) := by
  generalize hq : x_X0_corner o y1 γ = res
  refine Met.ofW (cc := cX0_corner) (maxL := 2) (ret := (some (.object "Phrasehall$Corner"))) (by decide) rfl ?_
  intro p e s m args below meth c s₁ B hml9 hv
  obtain ⟨rfl, hH, hK9, hB9, hX9, hZ9⟩ := hv
  have hC : CX κ cX0_corner "Phrasehall$Bout" 2 p l s m ([.ref (kA κ 0 o), .int y1] : List Value).toArray meth c := ⟨B.exec, B.bytes, findClass_of_methodNamed B.named, fun w hw => tw_use (List.mem_filter.mp hw).2 (State.WarmedH.refl s) (hX9.1 w hw), hK9, hX9, hZ9, hB9, hml9, B.notSynchronized⟩
  obtain ⟨hx, hb, hown, hT, -, -, -, -, hml, -⟩ := id hC
  have hr := B.returns
  have hS : va_S (AA κ) s.heap s.heap [] := va_S.rf
  have hl := lv_entry ([.ref (kA κ 0 o), .int y1]) (n := 2) (Nat.le_of_ble_eq_true rfl)
  rw [lg_entry_eq]
  generalize (lg_sl ([.ref (kA κ 0 o), .int y1]) ++ List.replicate (2 - (lg_sl ([.ref (kA κ 0 o), .int y1])).length) Slot.unset).toArray = ls at hl ⊢
  have hl : lv_has ls 2 [(0, .ref (kA κ 0 o)), (1, .int y1)] := hl
  refine lv_iload_n hx hb dX0_corner_0 rfl (lv_at hl 1 rfl) ?_
  refine lv_if_ne (tgt := 11) hx hb dX0_corner_1 (by decide) (fun c3 => ?_) (fun c3 => ?_)
  · have hq := ifne hq c3
    refine lv_aload_n hx hb dX0_corner_11 rfl (lv_at hl 0 rfl) ?_
    refine hp_get (v := .ref (kA κ 2 (2 * o + 1))) (C := RX0) (T := TX0) (N := 10) hC inX0 hH hvo rfl rfl 1 (by decide) tw_478 rfl rfl dX0_corner_12 ?_
    subst hq
    exact kr_a hC hr (Or.inr ⟨_, rfl⟩) hH hS rfl rfl dX0_corner_15
  · have hq := ifpe hq c3
    refine lv_aload_n hx hb dX0_corner_4 rfl (lv_at hl 0 rfl) ?_
    refine hp_get (v := .ref (kA κ 2 (2 * o))) (C := RX0) (T := TX0) (N := 10) hC inX0 hH hvo rfl rfl 0 (by decide) tw_476 rfl rfl dX0_corner_5 ?_
    refine lv_goto (tgt := 15) hx hb dX0_corner_8 (by decide) ?_
    subst hq
    exact kr_a hC hr (Or.inr ⟨_, rfl⟩) hH hS rfl rfl dX0_corner_15
set_option maxRecDepth 20000 in
set_option maxHeartbeats 4000000 in
theorem c_X0_has (l : Launch) (κ : KP) (γ : St) (o : Nat) (y1 : Int32) (hvo : lv κ 0 o) : Met l yX0_has [Cond.code yX0_has cX0_has 2 (some .boolean)] ({ frames := 0, cells := 0, slots := 0, locals := 0 } : Room) (va_Pc [.ref (kA κ 0 o), .int y1] (GG κ γ)) (QQ κ γ (some (.int ((x_X0_has o y1 γ))))) 0 0 (AA κ) := by
  generalize hq : x_X0_has o y1 γ = res
  refine Met.ofW (cc := cX0_has) (maxL := 2) (ret := (some .boolean)) (by decide) rfl ?_
  intro p e s m args below meth c s₁ B hml9 hv
  obtain ⟨rfl, hH, hK9, hB9, hX9, hZ9⟩ := hv
  have hC : CX κ cX0_has "Phrasehall$Bout" 2 p l s m ([.ref (kA κ 0 o), .int y1] : List Value).toArray meth c := ⟨B.exec, B.bytes, findClass_of_methodNamed B.named, fun w hw => tw_use (List.mem_filter.mp hw).2 (State.WarmedH.refl s) (hX9.1 w hw), hK9, hX9, hZ9, hB9, hml9, B.notSynchronized⟩
  obtain ⟨hx, hb, hown, hT, -, -, -, -, hml, -⟩ := id hC
  have hr := B.returns
  have hS : va_S (AA κ) s.heap s.heap [] := va_S.rf
  have hl := lv_entry ([.ref (kA κ 0 o), .int y1]) (n := 2) (Nat.le_of_ble_eq_true rfl)
  rw [lg_entry_eq]
  generalize (lg_sl ([.ref (kA κ 0 o), .int y1]) ++ List.replicate (2 - (lg_sl ([.ref (kA κ 0 o), .int y1])).length) Slot.unset).toArray = ls at hl ⊢
  have hl : lv_has ls 2 [(0, .ref (kA κ 0 o)), (1, .int y1)] := hl
  have b_22 : ∀ (H : Heap) (locs : List Loc) (ls : Array Slot), lv_has ls 2 [] → HR κ γ H → va_S (AA κ) s.heap H locs → x_X0_has_22 o γ = res → W p l e (headSpec [Cond.code yX0_has cX0_has 2 (some .boolean)] ({ frames := 0, cells := 0, slots := 0, locals := 0 } : Room)).room s m ([.ref (kA κ 0 o), .int y1] : List Value).toArray below meth c H locs 0 0 (MQ below (QQ κ γ (some (.int res))) ([.ref (kA κ 0 o), .int y1] : List Value).toArray s 0 0 (AA κ)) (F0 m 22 ls []) := by
    intro  H locs ls hl hH hS hq
    refine lv_iconst (v := 1) hx hb dX0_has_22 (by decide) ?_
    refine lv_goto (tgt := 27) hx hb dX0_has_23 (by decide) ?_
    subst hq
    exact kr_z hC hr rfl hH hS rfl rfl dX0_has_27
  refine lv_aload_n hx hb dX0_has_0 rfl (lv_at hl 0 rfl) ?_
  refine hp_get (v := .ref (kA κ 2 (2 * o))) (C := RX0) (T := TX0) (N := 10) hC inX0 hH hvo rfl rfl 0 (by decide) tw_476 rfl rfl dX0_has_1 ?_
  refine hp_getN (v := .int (gV γ 2 (2 * o) 0)) (C := RX2) (T := TX2) (N := 4) hC inX2 hH (lv_c0 hvo) rfl rfl 0 (by decide) nw_461 rfl rfl dX0_has_4 ?_
  refine lv_iload_n hx hb dX0_has_7 rfl (lv_at hl 1 rfl) ?_
  refine lv_icmp_eq (tgt := 22) hx hb dX0_has_8 (by decide) (fun c7 => ?_) (fun c7 => ?_)
  · have hq := ifpe hq c7
    exact b_22 _ _ _ (lv_sub hl [] rfl) hH hS hq
  · have hq := ifne hq c7
    refine lv_aload_n hx hb dX0_has_11 rfl (lv_at hl 0 rfl) ?_
    refine hp_get (v := .ref (kA κ 2 (2 * o + 1))) (C := RX0) (T := TX0) (N := 10) hC inX0 hH hvo rfl rfl 1 (by decide) tw_478 rfl rfl dX0_has_12 ?_
    refine hp_getN (v := .int (gV γ 2 (2 * o + 1) 0)) (C := RX2) (T := TX2) (N := 4) hC inX2 hH (lv_c1 hvo) rfl rfl 0 (by decide) nw_461 rfl rfl dX0_has_15 ?_
    refine lv_iload_n hx hb dX0_has_18 rfl (lv_at hl 1 rfl) ?_
    refine lv_icmp_ne (tgt := 26) hx hb dX0_has_19 (by decide) (fun c8 => ?_) (fun c8 => ?_)
    · have hq := ifne hq c8
      refine lv_iconst (v := 0) hx hb dX0_has_26 (by decide) ?_
      subst hq
      exact kr_z hC hr rfl hH hS rfl rfl dX0_has_27
    · have hq := ifpe hq c8
      exact b_22 _ _ _ (lv_sub hl [] rfl) hH hS hq
set_option maxRecDepth 20000 in
set_option maxHeartbeats 4000000 in
theorem c_X0_sideOf (l : Launch) (κ : KP) (γ : St) (o : Nat) (y1 : Int32) (hvo : lv κ 0 o) : Met l yX0_sideOf [Cond.code yX0_sideOf cX0_sideOf 2 (some .int)] ({ frames := 0, cells := 0, slots := 0, locals := 0 } : Room) (va_Pc [.ref (kA κ 0 o), .int y1] (GG κ γ)) (QQ κ γ (some (.int ((x_X0_sideOf o y1 γ))))) 0 0 (AA κ) := by
  generalize hq : x_X0_sideOf o y1 γ = res
  refine Met.ofW (cc := cX0_sideOf) (maxL := 2) (ret := (some .int)) (by decide) rfl ?_
  intro p e s m args below meth c s₁ B hml9 hv
  obtain ⟨rfl, hH, hK9, hB9, hX9, hZ9⟩ := hv
  have hC : CX κ cX0_sideOf "Phrasehall$Bout" 2 p l s m ([.ref (kA κ 0 o), .int y1] : List Value).toArray meth c := ⟨B.exec, B.bytes, findClass_of_methodNamed B.named, fun w hw => tw_use (List.mem_filter.mp hw).2 (State.WarmedH.refl s) (hX9.1 w hw), hK9, hX9, hZ9, hB9, hml9, B.notSynchronized⟩
  obtain ⟨hx, hb, hown, hT, -, -, -, -, hml, -⟩ := id hC
  have hr := B.returns
  have hS : va_S (AA κ) s.heap s.heap [] := va_S.rf
  have hl := lv_entry ([.ref (kA κ 0 o), .int y1]) (n := 2) (Nat.le_of_ble_eq_true rfl)
  rw [lg_entry_eq]
  generalize (lg_sl ([.ref (kA κ 0 o), .int y1]) ++ List.replicate (2 - (lg_sl ([.ref (kA κ 0 o), .int y1])).length) Slot.unset).toArray = ls at hl ⊢
  have hl : lv_has ls 2 [(0, .ref (kA κ 0 o)), (1, .int y1)] := hl
  refine lv_aload_n hx hb dX0_sideOf_0 rfl (lv_at hl 0 rfl) ?_
  refine hp_get (v := .ref (kA κ 2 (2 * o))) (C := RX0) (T := TX0) (N := 10) hC inX0 hH hvo rfl rfl 0 (by decide) tw_476 rfl rfl dX0_sideOf_1 ?_
  refine hp_getN (v := .int (gV γ 2 (2 * o) 0)) (C := RX2) (T := TX2) (N := 4) hC inX2 hH (lv_c0 hvo) rfl rfl 0 (by decide) nw_461 rfl rfl dX0_sideOf_4 ?_
  refine lv_iload_n hx hb dX0_sideOf_7 rfl (lv_at hl 1 rfl) ?_
  refine lv_icmp_ne (tgt := 15) hx hb dX0_sideOf_8 (by decide) (fun c3 => ?_) (fun c3 => ?_)
  · have hq := ifne hq c3
    refine lv_iconst (v := 1) hx hb dX0_sideOf_15 (by decide) ?_
    subst hq
    exact kr_i hC hr hH hS rfl rfl dX0_sideOf_16
  · have hq := ifpe hq c3
    refine lv_iconst (v := 0) hx hb dX0_sideOf_11 (by decide) ?_
    refine lv_goto (tgt := 16) hx hb dX0_sideOf_12 (by decide) ?_
    subst hq
    exact kr_i hC hr hH hS rfl rfl dX0_sideOf_16
set_option maxRecDepth 20000 in
set_option maxHeartbeats 4000000 in
theorem c_X0_isOver (l : Launch) (κ : KP) (γ : St) (o : Nat) (hvo : lv κ 0 o) : Met l yX0_isOver [Cond.code yX0_isOver cX0_isOver 1 (some .boolean)] ({ frames := 0, cells := 0, slots := 0, locals := 0 } : Room) (va_Pc [.ref (kA κ 0 o)] (GG κ γ)) (QQ κ γ (some (.int ((x_X0_isOver o γ))))) 0 0 (AA κ) := by
  generalize hq : x_X0_isOver o γ = res
  refine Met.ofW (cc := cX0_isOver) (maxL := 1) (ret := (some .boolean)) (by decide) rfl ?_
  intro p e s m args below meth c s₁ B hml9 hv
  obtain ⟨rfl, hH, hK9, hB9, hX9, hZ9⟩ := hv
  have hC : CX κ cX0_isOver "Phrasehall$Bout" 1 p l s m ([.ref (kA κ 0 o)] : List Value).toArray meth c := ⟨B.exec, B.bytes, findClass_of_methodNamed B.named, fun w hw => tw_use (List.mem_filter.mp hw).2 (State.WarmedH.refl s) (hX9.1 w hw), hK9, hX9, hZ9, hB9, hml9, B.notSynchronized⟩
  obtain ⟨hx, hb, hown, hT, -, -, -, -, hml, -⟩ := id hC
  have hr := B.returns
  have hS : va_S (AA κ) s.heap s.heap [] := va_S.rf
  have hl := lv_entry ([.ref (kA κ 0 o)]) (n := 1) (Nat.le_of_ble_eq_true rfl)
  rw [lg_entry_eq]
  generalize (lg_sl ([.ref (kA κ 0 o)]) ++ List.replicate (1 - (lg_sl ([.ref (kA κ 0 o)])).length) Slot.unset).toArray = ls at hl ⊢
  have hl : lv_has ls 1 [(0, .ref (kA κ 0 o))] := hl
  refine lv_aload_n hx hb dX0_isOver_0 rfl (lv_at hl 0 rfl) ?_
  refine hp_get (v := .int (gV γ 0 o 5)) (C := RX0) (T := TX0) (N := 10) hC inX0 hH hvo rfl rfl 5 (by decide) tw_486 rfl rfl dX0_isOver_1 ?_
  refine lv_iconst (v := (-1)) hx hb dX0_isOver_4 (by decide) ?_
  refine lv_icmp_eq (tgt := 12) hx hb dX0_isOver_5 (by decide) (fun c3 => ?_) (fun c3 => ?_)
  · have hq := ifpe hq c3
    refine lv_iconst (v := 0) hx hb dX0_isOver_12 (by decide) ?_
    subst hq
    exact kr_z hC hr rfl hH hS rfl rfl dX0_isOver_13
  · have hq := ifne hq c3
    refine lv_iconst (v := 1) hx hb dX0_isOver_8 (by decide) ?_
    refine lv_goto (tgt := 13) hx hb dX0_isOver_9 (by decide) ?_
    subst hq
    exact kr_z hC hr rfl hH hS rfl rfl dX0_isOver_13
set_option maxRecDepth 20000 in
set_option maxHeartbeats 4000000 in
theorem c_X0_isLike (l : Launch) (κ : KP) (γ : St) (o : Nat) (hvo : lv κ 0 o) : Met l yX0_isLike [Cond.code yX0_isLike cX0_isLike 1 (some .boolean)] ({ frames := 0, cells := 0, slots := 0, locals := 0 } : Room) (va_Pc [.ref (kA κ 0 o)] (GG κ γ)) (QQ κ γ (some (.int ((x_X0_isLike o γ))))) 0 0 (AA κ) := by
  generalize hq : x_X0_isLike o γ = res
  refine Met.ofW (cc := cX0_isLike) (maxL := 1) (ret := (some .boolean)) (by decide) rfl ?_
  intro p e s m args below meth c s₁ B hml9 hv
  obtain ⟨rfl, hH, hK9, hB9, hX9, hZ9⟩ := hv
  have hC : CX κ cX0_isLike "Phrasehall$Bout" 1 p l s m ([.ref (kA κ 0 o)] : List Value).toArray meth c := ⟨B.exec, B.bytes, findClass_of_methodNamed B.named, fun w hw => tw_use (List.mem_filter.mp hw).2 (State.WarmedH.refl s) (hX9.1 w hw), hK9, hX9, hZ9, hB9, hml9, B.notSynchronized⟩
  obtain ⟨hx, hb, hown, hT, -, -, -, -, hml, -⟩ := id hC
  have hr := B.returns
  have hS : va_S (AA κ) s.heap s.heap [] := va_S.rf
  have hl := lv_entry ([.ref (kA κ 0 o)]) (n := 1) (Nat.le_of_ble_eq_true rfl)
  rw [lg_entry_eq]
  generalize (lg_sl ([.ref (kA κ 0 o)]) ++ List.replicate (1 - (lg_sl ([.ref (kA κ 0 o)])).length) Slot.unset).toArray = ls at hl ⊢
  have hl : lv_has ls 1 [(0, .ref (kA κ 0 o))] := hl
  refine lv_aload_n hx hb dX0_isLike_0 rfl (lv_at hl 0 rfl) ?_
  refine hp_get (v := .ref (kA κ 2 (2 * o))) (C := RX0) (T := TX0) (N := 10) hC inX0 hH hvo rfl rfl 0 (by decide) tw_476 rfl rfl dX0_isLike_1 ?_
  refine hp_getN (v := .int (gV γ 2 (2 * o) 1)) (C := RX2) (T := TX2) (N := 4) hC inX2 hH (lv_c0 hvo) rfl rfl 1 (by decide) nw_464 rfl rfl dX0_isLike_4 ?_
  refine lv_aload_n hx hb dX0_isLike_7 rfl (lv_at hl 0 rfl) ?_
  refine hp_get (v := .ref (kA κ 2 (2 * o + 1))) (C := RX0) (T := TX0) (N := 10) hC inX0 hH hvo rfl rfl 1 (by decide) tw_478 rfl rfl dX0_isLike_8 ?_
  refine hp_getN (v := .int (gV γ 2 (2 * o + 1) 1)) (C := RX2) (T := TX2) (N := 4) hC inX2 hH (lv_c1 hvo) rfl rfl 1 (by decide) nw_464 rfl rfl dX0_isLike_11 ?_
  refine lv_icmp_ne (tgt := 21) hx hb dX0_isLike_14 (by decide) (fun c3 => ?_) (fun c3 => ?_)
  · have hq := ifne hq c3
    refine lv_iconst (v := 0) hx hb dX0_isLike_21 (by decide) ?_
    subst hq
    exact kr_z hC hr rfl hH hS rfl rfl dX0_isLike_22
  · have hq := ifpe hq c3
    refine lv_iconst (v := 1) hx hb dX0_isLike_17 (by decide) ?_
    refine lv_goto (tgt := 22) hx hb dX0_isLike_18 (by decide) ?_
    subst hq
    exact kr_z hC hr rfl hH hS rfl rfl dX0_isLike_22
set_option maxRecDepth 20000 in
set_option maxHeartbeats 4000000 in
theorem c_X0_leader (l : Launch) (κ : KP) (γ : St) (o : Nat) (hvo : lv κ 0 o) : Met l yX0_leader [Cond.code yX0_leader cX0_leader 1 (some .int)] ({ frames := 1, cells := 0, slots := 0, locals := 20 } : Room) (va_Pc [.ref (kA κ 0 o)] (GG κ γ)) (QQ κ γ (some (.int ((x_X0_leader o γ))))) 0 0 (AA κ) := by
  generalize hq : x_X0_leader o γ = res
  refine Met.ofW (cc := cX0_leader) (maxL := 1) (ret := (some .int)) (by decide) rfl ?_
  intro p e s m args below meth c s₁ B hml9 hv
  obtain ⟨rfl, hH, hK9, hB9, hX9, hZ9⟩ := hv
  have hC : CX κ cX0_leader "Phrasehall$Bout" 1 p l s m ([.ref (kA κ 0 o)] : List Value).toArray meth c := ⟨B.exec, B.bytes, findClass_of_methodNamed B.named, fun w hw => tw_use (List.mem_filter.mp hw).2 (State.WarmedH.refl s) (hX9.1 w hw), hK9, hX9, hZ9, hB9, hml9, B.notSynchronized⟩
  obtain ⟨hx, hb, hown, hT, -, -, -, -, hml, -⟩ := id hC
  have hr := B.returns
  have hS : va_S (AA κ) s.heap s.heap [] := va_S.rf
  have hl := lv_entry ([.ref (kA κ 0 o)]) (n := 1) (Nat.le_of_ble_eq_true rfl)
  rw [lg_entry_eq]
  generalize (lg_sl ([.ref (kA κ 0 o)]) ++ List.replicate (1 - (lg_sl ([.ref (kA κ 0 o)])).length) Slot.unset).toArray = ls at hl ⊢
  have hl : lv_has ls 1 [(0, .ref (kA κ 0 o))] := hl
  refine lv_aload_n hx hb dX0_leader_0 rfl (lv_at hl 0 rfl) ?_
  refine k_callV (C := RX0) (T := TX0) (N := 10) (rest := []) hC hl hH hS (c_X0_isLike l κ γ o hvo) hvo rfl rfl tw_645 tw_647 tw_27 tw_50 tw_648 hd_X0_isLike ⟨Nat.le_of_ble_eq_true rfl, Nat.le_of_ble_eq_true rfl⟩ rfl rfl rfl rfl (Nat.le_of_ble_eq_true rfl) dX0_leader_1 ⟨Nat.le_of_ble_eq_true rfl, Nat.le_of_ble_eq_true rfl⟩ rfl (fun H locs hH hS => ?_)
  refine lv_if_eq (tgt := 30) hx hb dX0_leader_4 (by decide) (fun c7 => ?_) (fun c7 => ?_)
  · have hq := ifpe hq c7
    refine lv_aload_n hx hb dX0_leader_30 rfl (lv_at hl 0 rfl) ?_
    refine hp_get (v := .ref (kA κ 2 (2 * o))) (C := RX0) (T := TX0) (N := 10) hC inX0 hH hvo rfl rfl 0 (by decide) tw_476 rfl rfl dX0_leader_31 ?_
    refine hp_getN (v := .int (gV γ 2 (2 * o) 1)) (C := RX2) (T := TX2) (N := 4) hC inX2 hH (lv_c0 hvo) rfl rfl 1 (by decide) nw_464 rfl rfl dX0_leader_34 ?_
    refine lv_aload_n hx hb dX0_leader_37 rfl (lv_at hl 0 rfl) ?_
    refine hp_get (v := .ref (kA κ 2 (2 * o + 1))) (C := RX0) (T := TX0) (N := 10) hC inX0 hH hvo rfl rfl 1 (by decide) tw_478 rfl rfl dX0_leader_38 ?_
    refine hp_getN (v := .int (gV γ 2 (2 * o + 1) 1)) (C := RX2) (T := TX2) (N := 4) hC inX2 hH (lv_c1 hvo) rfl rfl 1 (by decide) nw_464 rfl rfl dX0_leader_41 ?_
    refine lv_icmp_le (tgt := 51) hx hb dX0_leader_44 (by decide) (fun c8 => ?_) (fun c8 => ?_)
    · have hq := ifpe hq c8
      refine lv_iconst (v := 1) hx hb dX0_leader_51 (by decide) ?_
      subst hq
      exact kr_i hC hr hH hS rfl rfl dX0_leader_52
    · have hq := ifne hq c8
      refine lv_iconst (v := 0) hx hb dX0_leader_47 (by decide) ?_
      refine lv_goto (tgt := 52) hx hb dX0_leader_48 (by decide) ?_
      subst hq
      exact kr_i hC hr hH hS rfl rfl dX0_leader_52
  · have hq := ifne hq c7
    refine lv_aload_n hx hb dX0_leader_7 rfl (lv_at hl 0 rfl) ?_
    refine hp_get (v := .ref (kA κ 2 (2 * o))) (C := RX0) (T := TX0) (N := 10) hC inX0 hH hvo rfl rfl 0 (by decide) tw_476 rfl rfl dX0_leader_8 ?_
    refine hp_getN (v := .int (gV γ 2 (2 * o) 0)) (C := RX2) (T := TX2) (N := 4) hC inX2 hH (lv_c0 hvo) rfl rfl 0 (by decide) nw_461 rfl rfl dX0_leader_11 ?_
    refine lv_aload_n hx hb dX0_leader_14 rfl (lv_at hl 0 rfl) ?_
    refine hp_get (v := .ref (kA κ 2 (2 * o + 1))) (C := RX0) (T := TX0) (N := 10) hC inX0 hH hvo rfl rfl 1 (by decide) tw_478 rfl rfl dX0_leader_15 ?_
    refine hp_getN (v := .int (gV γ 2 (2 * o + 1) 0)) (C := RX2) (T := TX2) (N := 4) hC inX2 hH (lv_c1 hvo) rfl rfl 0 (by decide) nw_461 rfl rfl dX0_leader_18 ?_
    refine lv_icmp_ge (tgt := 28) hx hb dX0_leader_21 (by decide) (fun c9 => ?_) (fun c9 => ?_)
    · have hq := ifpe hq c9
      refine lv_iconst (v := 1) hx hb dX0_leader_28 (by decide) ?_
      subst hq
      exact kr_i hC hr hH hS rfl rfl dX0_leader_29
    · have hq := ifne hq c9
      refine lv_iconst (v := 0) hx hb dX0_leader_24 (by decide) ?_
      refine lv_goto (tgt := 29) hx hb dX0_leader_25 (by decide) ?_
      subst hq
      exact kr_i hC hr hH hS rfl rfl dX0_leader_29
set_option maxRecDepth 20000 in
set_option maxHeartbeats 4000000 in
theorem c_X0_finish (l : Launch) (κ : KP) (γ : St) (o : Nat) (y1 : Int32) (hvo : lv κ 0 o) : Met l yX0_finish [Cond.code yX0_finish cX0_finish 2 none] ({ frames := 0, cells := 0, slots := 0, locals := 0 } : Room) (va_Pc [.ref (kA κ 0 o), .int y1] (GG κ γ)) (QQ κ ((x_X0_finish o y1 γ)) none) 0 0 (AA κ) := by
  generalize hq : x_X0_finish o y1 γ = res
  refine Met.ofW (cc := cX0_finish) (maxL := 2) (ret := none) (by decide) rfl ?_
  intro p e s m args below meth c s₁ B hml9 hv
  obtain ⟨rfl, hH, hK9, hB9, hX9, hZ9⟩ := hv
  have hC : CX κ cX0_finish "Phrasehall$Bout" 2 p l s m ([.ref (kA κ 0 o), .int y1] : List Value).toArray meth c := ⟨B.exec, B.bytes, findClass_of_methodNamed B.named, fun w hw => tw_use (List.mem_filter.mp hw).2 (State.WarmedH.refl s) (hX9.1 w hw), hK9, hX9, hZ9, hB9, hml9, B.notSynchronized⟩
  obtain ⟨hx, hb, hown, hT, -, -, -, -, hml, -⟩ := id hC
  have hr := B.returns
  have hS : va_S (AA κ) s.heap s.heap [] := va_S.rf
  have hl := lv_entry ([.ref (kA κ 0 o), .int y1]) (n := 2) (Nat.le_of_ble_eq_true rfl)
  rw [lg_entry_eq]
  generalize (lg_sl ([.ref (kA κ 0 o), .int y1]) ++ List.replicate (2 - (lg_sl ([.ref (kA κ 0 o), .int y1])).length) Slot.unset).toArray = ls at hl ⊢
  have hl : lv_has ls 2 [(0, .ref (kA κ 0 o)), (1, .int y1)] := hl
  refine lv_aload_n hx hb dX0_finish_0 rfl (lv_at hl 0 rfl) ?_
  refine lv_iload_n hx hb dX0_finish_1 rfl (lv_at hl 1 rfl) ?_
  refine hp_put (v := .int y1) (C := RX0) (T := TX0) (N := 10) hC inX0 tyX0_ok nmX0 hH hvo rfl hS rfl 5 (by decide) tw_486 rfl rfl rfl rfl (Nat.le_of_ble_eq_true rfl) (sV γ 0 o 5 y1) (pe_0_5 _ _ o y1) (fun _ _ _ h => cel_sV h) (WT_sV hH.wt) dX0_finish_2 (fun H locs hH hS => ?_)
  subst hq
  exact kr_v hC hr hH hS rfl dX0_finish_5
set_option maxRecDepth 20000 in
set_option maxHeartbeats 4000000 in
theorem c_X0_isDoubleTooFar (l : Launch) (κ : KP) (γ : St) (o : Nat) (hvo : lv κ 0 o) : Met l yX0_isDoubleTooFar [Cond.code yX0_isDoubleTooFar cX0_isDoubleTooFar 1 (some .boolean)] ({ frames := 0, cells := 0, slots := 0, locals := 0 } : Room) (va_Pc [.ref (kA κ 0 o)] (GG κ γ)) (QQ κ γ (some (.int ((x_X0_isDoubleTooFar o γ))))) 0 0 (AA κ) := by
  generalize hq : x_X0_isDoubleTooFar o γ = res
  refine Met.ofW (cc := cX0_isDoubleTooFar) (maxL := 1) (ret := (some .boolean)) (by decide) rfl ?_
  intro p e s m args below meth c s₁ B hml9 hv
  obtain ⟨rfl, hH, hK9, hB9, hX9, hZ9⟩ := hv
  have hC : CX κ cX0_isDoubleTooFar "Phrasehall$Bout" 1 p l s m ([.ref (kA κ 0 o)] : List Value).toArray meth c := ⟨B.exec, B.bytes, findClass_of_methodNamed B.named, fun w hw => tw_use (List.mem_filter.mp hw).2 (State.WarmedH.refl s) (hX9.1 w hw), hK9, hX9, hZ9, hB9, hml9, B.notSynchronized⟩
  obtain ⟨hx, hb, hown, hT, -, -, -, -, hml, -⟩ := id hC
  have hr := B.returns
  have hS : va_S (AA κ) s.heap s.heap [] := va_S.rf
  have hl := lv_entry ([.ref (kA κ 0 o)]) (n := 1) (Nat.le_of_ble_eq_true rfl)
  rw [lg_entry_eq]
  generalize (lg_sl ([.ref (kA κ 0 o)]) ++ List.replicate (1 - (lg_sl ([.ref (kA κ 0 o)])).length) Slot.unset).toArray = ls at hl ⊢
  have hl : lv_has ls 1 [(0, .ref (kA κ 0 o))] := hl
  have b_36 : ∀ (H : Heap) (locs : List Loc) (ls : Array Slot), lv_has ls 1 [] → HR κ γ H → va_S (AA κ) s.heap H locs → x_X0_isDoubleTooFar_36 o γ = res → W p l e (headSpec [Cond.code yX0_isDoubleTooFar cX0_isDoubleTooFar 1 (some .boolean)] ({ frames := 0, cells := 0, slots := 0, locals := 0 } : Room)).room s m ([.ref (kA κ 0 o)] : List Value).toArray below meth c H locs 0 0 (MQ below (QQ κ γ (some (.int res))) ([.ref (kA κ 0 o)] : List Value).toArray s 0 0 (AA κ)) (F0 m 36 ls []) := by
    intro  H locs ls hl hH hS hq
    refine lv_iconst (v := 0) hx hb dX0_isDoubleTooFar_36 (by decide) ?_
    subst hq
    exact kr_z hC hr rfl hH hS rfl rfl dX0_isDoubleTooFar_37
  refine lv_aload_n hx hb dX0_isDoubleTooFar_0 rfl (lv_at hl 0 rfl) ?_
  refine hp_get (v := .ref (kA κ 2 (2 * o))) (C := RX0) (T := TX0) (N := 10) hC inX0 hH hvo rfl rfl 0 (by decide) tw_476 rfl rfl dX0_isDoubleTooFar_1 ?_
  refine hp_getN (v := .int (gV γ 2 (2 * o) 1)) (C := RX2) (T := TX2) (N := 4) hC inX2 hH (lv_c0 hvo) rfl rfl 1 (by decide) nw_464 rfl rfl dX0_isDoubleTooFar_4 ?_
  refine lv_iconst (v := 1) hx hb dX0_isDoubleTooFar_7 (by decide) ?_
  refine lv_iadd hx hb dX0_isDoubleTooFar_8 ?_
  refine lv_aload_n hx hb dX0_isDoubleTooFar_9 rfl (lv_at hl 0 rfl) ?_
  refine hp_get (v := .int (gV γ 0 o 3)) (C := RX0) (T := TX0) (N := 10) hC inX0 hH hvo rfl rfl 3 (by decide) tw_482 rfl rfl dX0_isDoubleTooFar_10 ?_
  refine lv_icmp_lt (tgt := 36) hx hb dX0_isDoubleTooFar_13 (by decide) (fun c7 => ?_) (fun c7 => ?_)
  · have hq := ifpe hq c7
    exact b_36 _ _ _ (lv_sub hl [] rfl) hH hS hq
  · have hq := ifne hq c7
    refine lv_aload_n hx hb dX0_isDoubleTooFar_16 rfl (lv_at hl 0 rfl) ?_
    refine hp_get (v := .ref (kA κ 2 (2 * o + 1))) (C := RX0) (T := TX0) (N := 10) hC inX0 hH hvo rfl rfl 1 (by decide) tw_478 rfl rfl dX0_isDoubleTooFar_17 ?_
    refine hp_getN (v := .int (gV γ 2 (2 * o + 1) 1)) (C := RX2) (T := TX2) (N := 4) hC inX2 hH (lv_c1 hvo) rfl rfl 1 (by decide) nw_464 rfl rfl dX0_isDoubleTooFar_20 ?_
    refine lv_iconst (v := 1) hx hb dX0_isDoubleTooFar_23 (by decide) ?_
    refine lv_iadd hx hb dX0_isDoubleTooFar_24 ?_
    refine lv_aload_n hx hb dX0_isDoubleTooFar_25 rfl (lv_at hl 0 rfl) ?_
    refine hp_get (v := .int (gV γ 0 o 3)) (C := RX0) (T := TX0) (N := 10) hC inX0 hH hvo rfl rfl 3 (by decide) tw_482 rfl rfl dX0_isDoubleTooFar_26 ?_
    refine lv_icmp_lt (tgt := 36) hx hb dX0_isDoubleTooFar_29 (by decide) (fun c8 => ?_) (fun c8 => ?_)
    · have hq := ifpe hq c8
      exact b_36 _ _ _ (lv_sub hl [] rfl) hH hS hq
    · have hq := ifne hq c8
      refine lv_iconst (v := 1) hx hb dX0_isDoubleTooFar_32 (by decide) ?_
      refine lv_goto (tgt := 37) hx hb dX0_isDoubleTooFar_33 (by decide) ?_
      subst hq
      exact kr_z hC hr rfl hH hS rfl rfl dX0_isDoubleTooFar_37
set_option maxRecDepth 20000 in
set_option maxHeartbeats 4000000 in
theorem c_X0_addTouches (l : Launch) (κ : KP) (γ : St) (o : Nat) (y1 : Int32) (hvo : lv κ 0 o) : Met l yX0_addTouches [Cond.code yX0_addTouches cX0_addTouches 3 none] ({ frames := 2, cells := 0, slots := 0, locals := 40 } : Room) (va_Pc [.ref (kA κ 0 o), .int y1] (GG κ γ)) (QQ κ ((x_X0_addTouches o y1 γ)) none) 0 0 (AA κ) := by
  generalize hq : x_X0_addTouches o y1 γ = res
  refine Met.ofW (cc := cX0_addTouches) (maxL := 3) (ret := none) (by decide) rfl ?_
  intro p e s m args below meth c s₁ B hml9 hv
  obtain ⟨rfl, hH, hK9, hB9, hX9, hZ9⟩ := hv
  have hC : CX κ cX0_addTouches "Phrasehall$Bout" 3 p l s m ([.ref (kA κ 0 o), .int y1] : List Value).toArray meth c := ⟨B.exec, B.bytes, findClass_of_methodNamed B.named, fun w hw => tw_use (List.mem_filter.mp hw).2 (State.WarmedH.refl s) (hX9.1 w hw), hK9, hX9, hZ9, hB9, hml9, B.notSynchronized⟩
  obtain ⟨hx, hb, hown, hT, -, -, -, -, hml, -⟩ := id hC
  have hr := B.returns
  have hS : va_S (AA κ) s.heap s.heap [] := va_S.rf
  have hl := lv_entry ([.ref (kA κ 0 o), .int y1]) (n := 3) (Nat.le_of_ble_eq_true rfl)
  rw [lg_entry_eq]
  generalize (lg_sl ([.ref (kA κ 0 o), .int y1]) ++ List.replicate (3 - (lg_sl ([.ref (kA κ 0 o), .int y1])).length) Slot.unset).toArray = ls at hl ⊢
  have hl : lv_has ls 3 [(0, .ref (kA κ 0 o)), (1, .int y1)] := hl
  have b_91 : ∀ (γ : St) (H : Heap) (locs : List Loc) (ls : Array Slot), lv_has ls 3 [(0, .ref (kA κ 0 o))] → HR κ γ H → va_S (AA κ) s.heap H locs → x_X0_addTouches_91 o γ = res → W p l e (headSpec [Cond.code yX0_addTouches cX0_addTouches 3 none] ({ frames := 2, cells := 0, slots := 0, locals := 40 } : Room)).room s m ([.ref (kA κ 0 o), .int y1] : List Value).toArray below meth c H locs 0 0 (MQ below (QQ κ res none) ([.ref (kA κ 0 o), .int y1] : List Value).toArray s 0 0 (AA κ)) (F0 m 91 ls []) := by
    intro  γ H locs ls hl hH hS hq
    refine lv_aload_n hx hb dX0_addTouches_91 rfl (lv_at hl 0 rfl) ?_
    refine lv_aload_n hx hb dX0_addTouches_92 rfl (lv_at hl 0 rfl) ?_
    refine k_callV (C := RX0) (T := TX0) (N := 10) (rest := [.ref (kA κ 0 o)]) hC hl hH hS (c_X0_leader l κ γ o hvo) hvo rfl rfl tw_649 tw_650 tw_651 tw_50 tw_652 hd_X0_leader ⟨Nat.le_of_ble_eq_true rfl, Nat.le_of_ble_eq_true rfl⟩ rfl rfl rfl rfl (Nat.le_of_ble_eq_true rfl) dX0_addTouches_93 ⟨Nat.le_of_ble_eq_true rfl, Nat.le_of_ble_eq_true rfl⟩ rfl (fun H locs hH hS => ?_)
    refine k_callV (C := RX0) (T := TX0) (N := 10) (rest := []) hC hl hH hS (c_X0_finish l κ γ o ((x_X0_leader o γ)) hvo) hvo rfl rfl tw_653 tw_654 tw_655 tw_50 tw_656 hd_X0_finish ⟨Nat.le_of_ble_eq_true rfl, Nat.le_of_ble_eq_true rfl⟩ rfl rfl rfl rfl (Nat.le_of_ble_eq_true rfl) dX0_addTouches_96 ⟨Nat.le_of_ble_eq_true rfl, Nat.le_of_ble_eq_true rfl⟩ rfl (fun H locs hH hS => ?_)
    subst hq
    exact kr_v hC hr hH hS rfl dX0_addTouches_99
  have b_71 : ∀ (s0 : Int32) (γ : St) (H : Heap) (locs : List Loc) (ls : Array Slot), lv_has ls 3 [(0, .ref (kA κ 0 o))] → HR κ γ H → va_S (AA κ) s.heap H locs → x_X0_addTouches_71 o s0 γ = res → W p l e (headSpec [Cond.code yX0_addTouches cX0_addTouches 3 none] ({ frames := 2, cells := 0, slots := 0, locals := 40 } : Room)).room s m ([.ref (kA κ 0 o), .int y1] : List Value).toArray below meth c H locs 0 0 (MQ below (QQ κ res none) ([.ref (kA κ 0 o), .int y1] : List Value).toArray s 0 0 (AA κ)) (F0 m 71 ls [.int s0]) := by
    intro s0 γ H locs ls hl hH hS hq
    refine lv_istore_n (lv' := [(2, .int s0), (0, .ref (kA κ 0 o))]) hx hb dX0_addTouches_71 rfl hl (by decide) rfl (fun ls hl => ?_)
    refine lv_iload_n hx hb dX0_addTouches_72 rfl (lv_at hl 0 rfl) ?_
    refine lv_if_ne (tgt := 91) hx hb dX0_addTouches_73 (by decide) (fun c22 => ?_) (fun c22 => ?_)
    · have hq := ifne hq c22
      exact b_91 γ _ _ _ (lv_sub hl [1] rfl) hH hS hq
    · have hq := ifpe hq c22
      refine lv_aload_n hx hb dX0_addTouches_76 rfl (lv_at hl 1 rfl) ?_
      refine hp_get (v := .int (gV γ 0 o 6)) (C := RX0) (T := TX0) (N := 10) hC inX0 hH hvo rfl rfl 6 (by decide) tw_488 rfl rfl dX0_addTouches_77 ?_
      refine lv_iconst (v := (-1)) hx hb dX0_addTouches_80 (by decide) ?_
      refine lv_icmp_eq (tgt := 99) hx hb dX0_addTouches_81 (by decide) (fun c23 => ?_) (fun c23 => ?_)
      · have hq := ifpe hq c23
        subst hq
        exact kr_v hC hr hH hS rfl dX0_addTouches_99
      · have hq := ifne hq c23
        refine lv_aload_n hx hb dX0_addTouches_84 rfl (lv_at hl 1 rfl) ?_
        refine k_callV (C := RX0) (T := TX0) (N := 10) (rest := []) hC hl hH hS (c_X0_isLike l κ γ o hvo) hvo rfl rfl tw_645 tw_647 tw_27 tw_50 tw_648 hd_X0_isLike ⟨Nat.le_of_ble_eq_true rfl, Nat.le_of_ble_eq_true rfl⟩ rfl rfl rfl rfl (Nat.le_of_ble_eq_true rfl) dX0_addTouches_85 ⟨Nat.le_of_ble_eq_true rfl, Nat.le_of_ble_eq_true rfl⟩ rfl (fun H locs hH hS => ?_)
        refine lv_if_ne (tgt := 99) hx hb dX0_addTouches_88 (by decide) (fun c24 => ?_) (fun c24 => ?_)
        · have hq := ifne hq c24
          subst hq
          exact kr_v hC hr hH hS rfl dX0_addTouches_99
        · have hq := ifpe hq c24
          exact b_91 γ _ _ _ (lv_sub hl [1] rfl) hH hS hq
  have b_66 : ∀ (γ : St) (H : Heap) (locs : List Loc) (ls : Array Slot), lv_has ls 3 [(0, .ref (kA κ 0 o))] → HR κ γ H → va_S (AA κ) s.heap H locs → x_X0_addTouches_66 o γ = res → W p l e (headSpec [Cond.code yX0_addTouches cX0_addTouches 3 none] ({ frames := 2, cells := 0, slots := 0, locals := 40 } : Room)).room s m ([.ref (kA κ 0 o), .int y1] : List Value).toArray below meth c H locs 0 0 (MQ below (QQ κ res none) ([.ref (kA κ 0 o), .int y1] : List Value).toArray s 0 0 (AA κ)) (F0 m 66 ls []) := by
    intro  γ H locs ls hl hH hS hq
    refine lv_iconst (v := 1) hx hb dX0_addTouches_66 (by decide) ?_
    refine lv_goto (tgt := 71) hx hb dX0_addTouches_67 (by decide) ?_
    exact b_71 1 γ _ _ _ (lv_sub hl [0] rfl) hH hS hq
  have b_38 : ∀ (γ : St) (H : Heap) (locs : List Loc) (ls : Array Slot), lv_has ls 3 [(0, .ref (kA κ 0 o))] → HR κ γ H → va_S (AA κ) s.heap H locs → x_X0_addTouches_38 o γ = res → W p l e (headSpec [Cond.code yX0_addTouches cX0_addTouches 3 none] ({ frames := 2, cells := 0, slots := 0, locals := 40 } : Room)).room s m ([.ref (kA κ 0 o), .int y1] : List Value).toArray below meth c H locs 0 0 (MQ below (QQ κ res none) ([.ref (kA κ 0 o), .int y1] : List Value).toArray s 0 0 (AA κ)) (F0 m 38 ls []) := by
    intro  γ H locs ls hl hH hS hq
    refine lv_aload_n hx hb dX0_addTouches_38 rfl (lv_at hl 0 rfl) ?_
    refine hp_get (v := .ref (kA κ 2 (2 * o))) (C := RX0) (T := TX0) (N := 10) hC inX0 hH hvo rfl rfl 0 (by decide) tw_476 rfl rfl dX0_addTouches_39 ?_
    refine hp_getN (v := .int (gV γ 2 (2 * o) 1)) (C := RX2) (T := TX2) (N := 4) hC inX2 hH (lv_c0 hvo) rfl rfl 1 (by decide) nw_464 rfl rfl dX0_addTouches_42 ?_
    refine lv_aload_n hx hb dX0_addTouches_45 rfl (lv_at hl 0 rfl) ?_
    refine hp_get (v := .int (gV γ 0 o 3)) (C := RX0) (T := TX0) (N := 10) hC inX0 hH hvo rfl rfl 3 (by decide) tw_482 rfl rfl dX0_addTouches_46 ?_
    refine lv_icmp_ge (tgt := 66) hx hb dX0_addTouches_49 (by decide) (fun c25 => ?_) (fun c25 => ?_)
    · have hq := ifpe hq c25
      exact b_66 γ _ _ _ (lv_sub hl [0] rfl) hH hS hq
    · have hq := ifne hq c25
      refine lv_aload_n hx hb dX0_addTouches_52 rfl (lv_at hl 0 rfl) ?_
      refine hp_get (v := .ref (kA κ 2 (2 * o + 1))) (C := RX0) (T := TX0) (N := 10) hC inX0 hH hvo rfl rfl 1 (by decide) tw_478 rfl rfl dX0_addTouches_53 ?_
      refine hp_getN (v := .int (gV γ 2 (2 * o + 1) 1)) (C := RX2) (T := TX2) (N := 4) hC inX2 hH (lv_c1 hvo) rfl rfl 1 (by decide) nw_464 rfl rfl dX0_addTouches_56 ?_
      refine lv_aload_n hx hb dX0_addTouches_59 rfl (lv_at hl 0 rfl) ?_
      refine hp_get (v := .int (gV γ 0 o 3)) (C := RX0) (T := TX0) (N := 10) hC inX0 hH hvo rfl rfl 3 (by decide) tw_482 rfl rfl dX0_addTouches_60 ?_
      refine lv_icmp_lt (tgt := 70) hx hb dX0_addTouches_63 (by decide) (fun c26 => ?_) (fun c26 => ?_)
      · have hq := ifpe hq c26
        refine lv_iconst (v := 0) hx hb dX0_addTouches_70 (by decide) ?_
        exact b_71 0 γ _ _ _ (lv_sub hl [0] rfl) hH hS hq
      · have hq := ifne hq c26
        exact b_66 γ _ _ _ (lv_sub hl [0] rfl) hH hS hq
  have b_19 : ∀ (a1 : Int32) (γ : St) (H : Heap) (locs : List Loc) (ls : Array Slot), lv_has ls 3 [(0, .ref (kA κ 0 o)), (1, .int a1)] → HR κ γ H → va_S (AA κ) s.heap H locs → x_X0_addTouches_19 o a1 γ = res → W p l e (headSpec [Cond.code yX0_addTouches cX0_addTouches 3 none] ({ frames := 2, cells := 0, slots := 0, locals := 40 } : Room)).room s m ([.ref (kA κ 0 o), .int y1] : List Value).toArray below meth c H locs 0 0 (MQ below (QQ κ res none) ([.ref (kA κ 0 o), .int y1] : List Value).toArray s 0 0 (AA κ)) (F0 m 19 ls []) := by
    intro a1 γ H locs ls hl hH hS hq
    refine lv_iload_n hx hb dX0_addTouches_19 rfl (lv_at hl 1 rfl) ?_
    refine lv_iconst (v := 2) hx hb dX0_addTouches_20 (by decide) ?_
    refine lv_iand hx hb dX0_addTouches_21 ?_
    refine lv_if_eq (tgt := 38) hx hb dX0_addTouches_22 (by decide) (fun c27 => ?_) (fun c27 => ?_)
    · have hq := ifpe hq c27
      exact b_38 γ _ _ _ (lv_sub hl [0] rfl) hH hS hq
    · have hq := ifne hq c27
      refine lv_aload_n hx hb dX0_addTouches_25 rfl (lv_at hl 0 rfl) ?_
      refine hp_get (v := .ref (kA κ 2 (2 * o + 1))) (C := RX0) (T := TX0) (N := 10) hC inX0 hH hvo rfl rfl 1 (by decide) tw_478 rfl rfl dX0_addTouches_26 ?_
      refine lv_dup hx hb dX0_addTouches_29 rfl ?_
      refine hp_getN (v := .int (gV γ 2 (2 * o + 1) 1)) (C := RX2) (T := TX2) (N := 4) hC inX2 hH (lv_c1 hvo) rfl rfl 1 (by decide) nw_464 rfl rfl dX0_addTouches_30 ?_
      refine lv_iconst (v := 1) hx hb dX0_addTouches_33 (by decide) ?_
      refine lv_iadd hx hb dX0_addTouches_34 ?_
      refine hp_putN (v := .int ((gV γ 2 (2 * o + 1) 1) + 1)) (C := RX2) (T := TX2) (N := 4) hC inX2 tyX2_ok nmX2 hH (lv_c1 hvo) rfl hS rfl 1 (by decide) nw_464 rfl rfl rfl rfl (Nat.le_of_ble_eq_true rfl) (sV γ 2 (2 * o + 1) 1 ((gV γ 2 (2 * o + 1) 1) + 1)) (pe_2_1 _ _ (2 * o + 1) ((gV γ 2 (2 * o + 1) 1) + 1)) (fun _ _ _ h => cel_sV h) (WT_sV hH.wt) dX0_addTouches_35 (fun H locs hH hS => ?_)
      exact b_38 (sV γ 2 (2 * o + 1) 1 ((gV γ 2 (2 * o + 1) 1) + 1)) _ _ _ (lv_sub hl [0] rfl) hH hS hq
  refine lv_iload_n hx hb dX0_addTouches_0 rfl (lv_at hl 1 rfl) ?_
  refine lv_iconst (v := 1) hx hb dX0_addTouches_1 (by decide) ?_
  refine lv_iand hx hb dX0_addTouches_2 ?_
  refine lv_if_eq (tgt := 19) hx hb dX0_addTouches_3 (by decide) (fun c28 => ?_) (fun c28 => ?_)
  · have hq := ifpe hq c28
    exact b_19 y1 γ _ _ _ (lv_sub hl [0, 1] rfl) hH hS hq
  · have hq := ifne hq c28
    refine lv_aload_n hx hb dX0_addTouches_6 rfl (lv_at hl 0 rfl) ?_
    refine hp_get (v := .ref (kA κ 2 (2 * o))) (C := RX0) (T := TX0) (N := 10) hC inX0 hH hvo rfl rfl 0 (by decide) tw_476 rfl rfl dX0_addTouches_7 ?_
    refine lv_dup hx hb dX0_addTouches_10 rfl ?_
    refine hp_getN (v := .int (gV γ 2 (2 * o) 1)) (C := RX2) (T := TX2) (N := 4) hC inX2 hH (lv_c0 hvo) rfl rfl 1 (by decide) nw_464 rfl rfl dX0_addTouches_11 ?_
    refine lv_iconst (v := 1) hx hb dX0_addTouches_14 (by decide) ?_
    refine lv_iadd hx hb dX0_addTouches_15 ?_
    refine hp_putN (v := .int ((gV γ 2 (2 * o) 1) + 1)) (C := RX2) (T := TX2) (N := 4) hC inX2 tyX2_ok nmX2 hH (lv_c0 hvo) rfl hS rfl 1 (by decide) nw_464 rfl rfl rfl rfl (Nat.le_of_ble_eq_true rfl) (sV γ 2 (2 * o) 1 ((gV γ 2 (2 * o) 1) + 1)) (pe_2_1 _ _ (2 * o) ((gV γ 2 (2 * o) 1) + 1)) (fun _ _ _ h => cel_sV h) (WT_sV hH.wt) dX0_addTouches_16 (fun H locs hH hS => ?_)
    exact b_19 y1 (sV γ 2 (2 * o) 1 ((gV γ 2 (2 * o) 1) + 1)) _ _ _ (lv_sub hl [0, 1] rfl) hH hS hq
set_option maxRecDepth 20000 in
set_option maxHeartbeats 4000000 in
theorem c_X0_giveTouches (l : Launch) (κ : KP) (γ : St) (o : Nat) (y1 : Int32) (hvo : lv κ 0 o) : Met l yX0_giveTouches [Cond.code yX0_giveTouches cX0_giveTouches 2 none] ({ frames := 3, cells := 0, slots := 0, locals := 62 } : Room) (va_Pc [.ref (kA κ 0 o), .int y1] (GG κ γ)) (QQ κ ((x_X0_giveTouches o y1 γ)) none) 0 0 (AA κ) := by
  generalize hq : x_X0_giveTouches o y1 γ = res
  refine Met.ofW (cc := cX0_giveTouches) (maxL := 2) (ret := none) (by decide) rfl ?_
  intro p e s m args below meth c s₁ B hml9 hv
  obtain ⟨rfl, hH, hK9, hB9, hX9, hZ9⟩ := hv
  have hC : CX κ cX0_giveTouches "Phrasehall$Bout" 2 p l s m ([.ref (kA κ 0 o), .int y1] : List Value).toArray meth c := ⟨B.exec, B.bytes, findClass_of_methodNamed B.named, fun w hw => tw_use (List.mem_filter.mp hw).2 (State.WarmedH.refl s) (hX9.1 w hw), hK9, hX9, hZ9, hB9, hml9, B.notSynchronized⟩
  obtain ⟨hx, hb, hown, hT, -, -, -, -, hml, -⟩ := id hC
  have hr := B.returns
  have hS : va_S (AA κ) s.heap s.heap [] := va_S.rf
  have hl := lv_entry ([.ref (kA κ 0 o), .int y1]) (n := 2) (Nat.le_of_ble_eq_true rfl)
  rw [lg_entry_eq]
  generalize (lg_sl ([.ref (kA κ 0 o), .int y1]) ++ List.replicate (2 - (lg_sl ([.ref (kA κ 0 o), .int y1])).length) Slot.unset).toArray = ls at hl ⊢
  have hl : lv_has ls 2 [(0, .ref (kA κ 0 o)), (1, .int y1)] := hl
  refine lv_iload_n hx hb dX0_giveTouches_0 rfl (lv_at hl 1 rfl) ?_
  refine lv_if_eq (tgt := 14) hx hb dX0_giveTouches_1 (by decide) (fun c3 => ?_) (fun c3 => ?_)
  · have hq := ifpe hq c3
    subst hq
    exact kr_v hC hr hH hS rfl dX0_giveTouches_14
  · have hq := ifne hq c3
    refine lv_aload_n hx hb dX0_giveTouches_4 rfl (lv_at hl 0 rfl) ?_
    refine lv_iconst (v := 0) hx hb dX0_giveTouches_5 (by decide) ?_
    refine hp_put (v := .int 0) (C := RX0) (T := TX0) (N := 10) hC inX0 tyX0_ok nmX0 hH hvo rfl hS rfl 8 (by decide) tw_490 rfl rfl rfl rfl (Nat.le_of_ble_eq_true rfl) (sV γ 0 o 8 0) (pe_0_8 _ _ o 0) (fun _ _ _ h => cel_sV h) (WT_sV hH.wt) dX0_giveTouches_6 (fun H locs hH hS => ?_)
    refine lv_aload_n hx hb dX0_giveTouches_9 rfl (lv_at hl 0 rfl) ?_
    refine lv_iload_n hx hb dX0_giveTouches_10 rfl (lv_at hl 1 rfl) ?_
    refine k_callV (C := RX0) (T := TX0) (N := 10) (rest := []) hC hl hH hS (c_X0_addTouches l κ (sV γ 0 o 8 0) o y1 hvo) hvo rfl rfl tw_641 tw_643 tw_26 tw_50 tw_644 hd_X0_addTouches ⟨Nat.le_of_ble_eq_true rfl, Nat.le_of_ble_eq_true rfl⟩ rfl rfl rfl rfl (Nat.le_of_ble_eq_true rfl) dX0_giveTouches_11 ⟨Nat.le_of_ble_eq_true rfl, Nat.le_of_ble_eq_true rfl⟩ rfl (fun H locs hH hS => ?_)
    subst hq
    exact kr_v hC hr hH hS rfl dX0_giveTouches_14
set_option maxRecDepth 20000 in
set_option maxHeartbeats 4000000 in
theorem c_X2_colourFor (l : Launch) (κ : KP) (γ : St) (o : Nat) (y1 : Int32) (hvo : lv κ 2 o) : Met l yX2_colourFor [Cond.code yX2_colourFor cX2_colourFor 2 (some .int)] ({ frames := 0, cells := 0, slots := 0, locals := 0 } : Room) (va_Pc [.ref (kA κ 2 o), .int y1] (GG κ γ)) (QQ κ γ (some (.int ((x_X2_colourFor o y1 γ))))) 0 0 (AA κ) := by
  generalize hq : x_X2_colourFor o y1 γ = res
  refine Met.ofW (cc := cX2_colourFor) (maxL := 2) (ret := (some .int)) (by decide) rfl ?_
  intro p e s m args below meth c s₁ B hml9 hv
  obtain ⟨rfl, hH, hK9, hB9, hX9, hZ9⟩ := hv
  have hC : CX κ cX2_colourFor "Phrasehall$Corner" 2 p l s m ([.ref (kA κ 2 o), .int y1] : List Value).toArray meth c := ⟨B.exec, B.bytes, findClass_of_methodNamed B.named, fun w hw => tw_use (List.mem_filter.mp hw).2 (State.WarmedH.refl s) (hX9.1 w hw), hK9, hX9, hZ9, hB9, hml9, B.notSynchronized⟩
  obtain ⟨hx, hb, hown, hT, -, -, -, -, hml, -⟩ := id hC
  have hr := B.returns
  have hS : va_S (AA κ) s.heap s.heap [] := va_S.rf
  have hl := lv_entry ([.ref (kA κ 2 o), .int y1]) (n := 2) (Nat.le_of_ble_eq_true rfl)
  rw [lg_entry_eq]
  generalize (lg_sl ([.ref (kA κ 2 o), .int y1]) ++ List.replicate (2 - (lg_sl ([.ref (kA κ 2 o), .int y1])).length) Slot.unset).toArray = ls at hl ⊢
  have hl : lv_has ls 2 [(0, .ref (kA κ 2 o)), (1, .int y1)] := hl
  have b_34 : ∀ (H : Heap) (locs : List Loc) (ls : Array Slot), lv_has ls 2 [] → HR κ γ H → va_S (AA κ) s.heap H locs → x_X2_colourFor_34 o γ = res → W p l e (headSpec [Cond.code yX2_colourFor cX2_colourFor 2 (some .int)] ({ frames := 0, cells := 0, slots := 0, locals := 0 } : Room)).room s m ([.ref (kA κ 2 o), .int y1] : List Value).toArray below meth c H locs 0 0 (MQ below (QQ κ γ (some (.int res))) ([.ref (kA κ 2 o), .int y1] : List Value).toArray s 0 0 (AA κ)) (F0 m 34 ls []) := by
    intro  H locs ls hl hH hS hq
    refine lv_iconst (v := 2) hx hb dX2_colourFor_34 (by decide) ?_
    subst hq
    exact kr_i hC hr hH hS rfl rfl dX2_colourFor_35
  refine lv_iload_n hx hb dX2_colourFor_0 rfl (lv_at hl 1 rfl) ?_
  refine lv_iconst (v := 1) hx hb dX2_colourFor_1 (by decide) ?_
  refine lv_icmp_ne (tgt := 18) hx hb dX2_colourFor_2 (by decide) (fun c13 => ?_) (fun c13 => ?_)
  · have hq := ifne hq c13
    refine lv_iload_n hx hb dX2_colourFor_18 rfl (lv_at hl 1 rfl) ?_
    refine lv_iconst (v := 3) hx hb dX2_colourFor_19 (by decide) ?_
    refine lv_icmp_ne (tgt := 34) hx hb dX2_colourFor_20 (by decide) (fun c14 => ?_) (fun c14 => ?_)
    · have hq := ifne hq c14
      exact b_34 _ _ _ (lv_sub hl [] rfl) hH hS hq
    · have hq := ifpe hq c14
      refine lv_aload_n hx hb dX2_colourFor_23 rfl (lv_at hl 0 rfl) ?_
      refine hp_get (v := .int (gV γ 2 o 3)) (C := RX2) (T := TX2) (N := 4) hC inX2 hH hvo rfl rfl 3 (by decide) tw_466 rfl rfl dX2_colourFor_24 ?_
      refine lv_if_eq (tgt := 34) hx hb dX2_colourFor_27 (by decide) (fun c15 => ?_) (fun c15 => ?_)
      · have hq := ifpe hq c15
        exact b_34 _ _ _ (lv_sub hl [] rfl) hH hS hq
      · have hq := ifne hq c15
        refine lv_iconst (v := 3) hx hb dX2_colourFor_30 (by decide) ?_
        refine lv_goto (tgt := 35) hx hb dX2_colourFor_31 (by decide) ?_
        subst hq
        exact kr_i hC hr hH hS rfl rfl dX2_colourFor_35
  · have hq := ifpe hq c13
    refine lv_aload_n hx hb dX2_colourFor_5 rfl (lv_at hl 0 rfl) ?_
    refine hp_get (v := .int (gV γ 2 o 2)) (C := RX2) (T := TX2) (N := 4) hC inX2 hH hvo rfl rfl 2 (by decide) tw_465 rfl rfl dX2_colourFor_6 ?_
    refine lv_if_eq (tgt := 16) hx hb dX2_colourFor_9 (by decide) (fun c16 => ?_) (fun c16 => ?_)
    · have hq := ifpe hq c16
      refine lv_iconst (v := 1) hx hb dX2_colourFor_16 (by decide) ?_
      subst hq
      exact kr_i hC hr hH hS rfl rfl dX2_colourFor_17
    · have hq := ifne hq c16
      refine lv_iconst (v := 2) hx hb dX2_colourFor_12 (by decide) ?_
      refine lv_goto (tgt := 17) hx hb dX2_colourFor_13 (by decide) ?_
      subst hq
      exact kr_i hC hr hH hS rfl rfl dX2_colourFor_17
set_option maxRecDepth 20000 in
set_option maxHeartbeats 4000000 in
theorem c_X2_note (l : Launch) (κ : KP) (γ : St) (o : Nat) (y1 : Int32) (hvo : lv κ 2 o) : Met l yX2_note [Cond.code yX2_note cX2_note 2 none] ({ frames := 0, cells := 0, slots := 0, locals := 0 } : Room) (va_Pc [.ref (kA κ 2 o), .int y1] (GG κ γ)) (QQ κ ((x_X2_note o y1 γ)) none) 0 0 (AA κ) := by
  generalize hq : x_X2_note o y1 γ = res
  refine Met.ofW (cc := cX2_note) (maxL := 2) (ret := none) (by decide) rfl ?_
  intro p e s m args below meth c s₁ B hml9 hv
  obtain ⟨rfl, hH, hK9, hB9, hX9, hZ9⟩ := hv
  have hC : CX κ cX2_note "Phrasehall$Corner" 2 p l s m ([.ref (kA κ 2 o), .int y1] : List Value).toArray meth c := ⟨B.exec, B.bytes, findClass_of_methodNamed B.named, fun w hw => tw_use (List.mem_filter.mp hw).2 (State.WarmedH.refl s) (hX9.1 w hw), hK9, hX9, hZ9, hB9, hml9, B.notSynchronized⟩
  obtain ⟨hx, hb, hown, hT, -, -, -, -, hml, -⟩ := id hC
  have hr := B.returns
  have hS : va_S (AA κ) s.heap s.heap [] := va_S.rf
  have hl := lv_entry ([.ref (kA κ 2 o), .int y1]) (n := 2) (Nat.le_of_ble_eq_true rfl)
  rw [lg_entry_eq]
  generalize (lg_sl ([.ref (kA κ 2 o), .int y1]) ++ List.replicate (2 - (lg_sl ([.ref (kA κ 2 o), .int y1])).length) Slot.unset).toArray = ls at hl ⊢
  have hl : lv_has ls 2 [(0, .ref (kA κ 2 o)), (1, .int y1)] := hl
  refine lv_aload_n hx hb dX2_note_0 rfl (lv_at hl 0 rfl) ?_
  refine lv_iconst (v := 1) hx hb dX2_note_1 (by decide) ?_
  refine hp_put (v := .int 1) (C := RX2) (T := TX2) (N := 4) hC inX2 tyX2_ok nmX2 hH hvo rfl hS rfl 2 (by decide) tw_465 rfl rfl rfl rfl (Nat.le_of_ble_eq_true rfl) (sV γ 2 o 2 1) (pe_2_2 _ _ o 1) (fun _ _ _ h => cel_sV h) (WT_sV hH.wt) dX2_note_2 (fun H locs hH hS => ?_)
  refine lv_iload_n hx hb dX2_note_5 rfl (lv_at hl 1 rfl) ?_
  refine lv_iconst (v := 3) hx hb dX2_note_6 (by decide) ?_
  refine lv_icmp_ne (tgt := 15) hx hb dX2_note_7 (by decide) (fun c3 => ?_) (fun c3 => ?_)
  · have hq := ifne hq c3
    subst hq
    exact kr_v hC hr hH hS rfl dX2_note_15
  · have hq := ifpe hq c3
    refine lv_aload_n hx hb dX2_note_10 rfl (lv_at hl 0 rfl) ?_
    refine lv_iconst (v := 1) hx hb dX2_note_11 (by decide) ?_
    refine hp_put (v := .int 1) (C := RX2) (T := TX2) (N := 4) hC inX2 tyX2_ok nmX2 hH hvo rfl hS rfl 3 (by decide) tw_466 rfl rfl rfl rfl (Nat.le_of_ble_eq_true rfl) (sV (sV γ 2 o 2 1) 2 o 3 1) (pe_2_3 _ _ o 1) (fun _ _ _ h => cel_sV h) (WT_sV hH.wt) dX2_note_12 (fun H locs hH hS => ?_)
    subst hq
    exact kr_v hC hr hH hS rfl dX2_note_15
set_option maxRecDepth 20000 in
set_option maxHeartbeats 4000000 in
theorem c_X7_bitOf (l : Launch) (κ : KP) (γ : St) (y0 : Int32)  : Met l yX7_bitOf [Cond.code yX7_bitOf cX7_bitOf 1 (some .int)] ({ frames := 0, cells := 0, slots := 0, locals := 0 } : Room) (va_Pc [.int y0] (GG κ γ)) (QQ κ γ (some (.int ((x_X7_bitOf y0 γ))))) 0 0 (AA κ) := by
  generalize hq : x_X7_bitOf y0 γ = res
  refine Met.ofW (cc := cX7_bitOf) (maxL := 1) (ret := (some .int)) (by decide) rfl ?_
  intro p e s m args below meth c s₁ B hml9 hv
  obtain ⟨rfl, hH, hK9, hB9, hX9, hZ9⟩ := hv
  have hC : CX κ cX7_bitOf "Phrasehall" 1 p l s m ([.int y0] : List Value).toArray meth c := ⟨B.exec, B.bytes, findClass_of_methodNamed B.named, fun w hw => tw_use (List.mem_filter.mp hw).2 (State.WarmedH.refl s) (hX9.1 w hw), hK9, hX9, hZ9, hB9, hml9, B.notSynchronized⟩
  obtain ⟨hx, hb, hown, hT, -, -, -, -, hml, -⟩ := id hC
  have hr := B.returns
  have hS : va_S (AA κ) s.heap s.heap [] := va_S.rf
  have hl := lv_entry ([.int y0]) (n := 1) (Nat.le_of_ble_eq_true rfl)
  rw [lg_entry_eq]
  generalize (lg_sl ([.int y0]) ++ List.replicate (1 - (lg_sl ([.int y0])).length) Slot.unset).toArray = ls at hl ⊢
  have hl : lv_has ls 1 [(0, .int y0)] := hl
  refine lv_iload_n hx hb dX7_bitOf_0 rfl (lv_at hl 0 rfl) ?_
  refine lv_if_ne (tgt := 8) hx hb dX7_bitOf_1 (by decide) (fun c3 => ?_) (fun c3 => ?_)
  · have hq := ifne hq c3
    refine lv_iconst (v := 2) hx hb dX7_bitOf_8 (by decide) ?_
    subst hq
    exact kr_i hC hr hH hS rfl rfl dX7_bitOf_9
  · have hq := ifpe hq c3
    refine lv_iconst (v := 1) hx hb dX7_bitOf_4 (by decide) ?_
    refine lv_goto (tgt := 9) hx hb dX7_bitOf_5 (by decide) ?_
    subst hq
    exact kr_i hC hr hH hS rfl rfl dX7_bitOf_9
set_option maxRecDepth 20000 in
set_option maxHeartbeats 4000000 in
theorem c_X0_giveCard (l : Launch) (κ : KP) (γ : St) (o : Nat) (y1 : Int32) (y2 : Int32) (hvo : lv κ 0 o) : Met l yX0_giveCard [Cond.code yX0_giveCard cX0_giveCard 4 (some .int)] ({ frames := 4, cells := 0, slots := 0, locals := 83 } : Room) (va_Pc [.ref (kA κ 0 o), .int y1, .int y2] (GG κ γ)) (QQ κ (((x_X0_giveCard o y1 y2 γ)).2) (some (.int (((x_X0_giveCard o y1 y2 γ)).1)))) 0 0 (AA κ) := by
  generalize hq : x_X0_giveCard o y1 y2 γ = res
  refine Met.ofW (cc := cX0_giveCard) (maxL := 4) (ret := (some .int)) (by decide) rfl ?_
  intro p e s m args below meth c s₁ B hml9 hv
  obtain ⟨rfl, hH, hK9, hB9, hX9, hZ9⟩ := hv
  have hC : CX κ cX0_giveCard "Phrasehall$Bout" 4 p l s m ([.ref (kA κ 0 o), .int y1, .int y2] : List Value).toArray meth c := ⟨B.exec, B.bytes, findClass_of_methodNamed B.named, fun w hw => tw_use (List.mem_filter.mp hw).2 (State.WarmedH.refl s) (hX9.1 w hw), hK9, hX9, hZ9, hB9, hml9, B.notSynchronized⟩
  obtain ⟨hx, hb, hown, hT, -, -, -, -, hml, -⟩ := id hC
  have hr := B.returns
  have hS : va_S (AA κ) s.heap s.heap [] := va_S.rf
  have hl := lv_entry ([.ref (kA κ 0 o), .int y1, .int y2]) (n := 4) (Nat.le_of_ble_eq_true rfl)
  rw [lg_entry_eq]
  generalize (lg_sl ([.ref (kA κ 0 o), .int y1, .int y2]) ++ List.replicate (4 - (lg_sl ([.ref (kA κ 0 o), .int y1, .int y2])).length) Slot.unset).toArray = ls at hl ⊢
  have hl : lv_has ls 4 [(0, .ref (kA κ 0 o)), (1, .int y1), (2, .int y2)] := hl
  have b_49 : ∀ (a3 : Int32) (γ : St) (H : Heap) (locs : List Loc) (ls : Array Slot), lv_has ls 4 [(3, .int a3)] → HR κ γ H → va_S (AA κ) s.heap H locs → x_X0_giveCard_49 o a3 γ = res → W p l e (headSpec [Cond.code yX0_giveCard cX0_giveCard 4 (some .int)] ({ frames := 4, cells := 0, slots := 0, locals := 83 } : Room)).room s m ([.ref (kA κ 0 o), .int y1, .int y2] : List Value).toArray below meth c H locs 0 0 (MQ below (QQ κ (res.2) (some (.int res.1))) ([.ref (kA κ 0 o), .int y1, .int y2] : List Value).toArray s 0 0 (AA κ)) (F0 m 49 ls []) := by
    intro a3 γ H locs ls hl hH hS hq
    refine lv_iload_n hx hb dX0_giveCard_49 rfl (lv_at hl 0 rfl) ?_
    subst hq
    exact kr_i hC hr hH hS rfl rfl dX0_giveCard_50
  have b_34 : ∀ (a3 : Int32) (γ : St) (H : Heap) (locs : List Loc) (ls : Array Slot), lv_has ls 4 [(3, .int a3)] → HR κ γ H → va_S (AA κ) s.heap H locs → x_X0_giveCard_34 o a3 γ = res → W p l e (headSpec [Cond.code yX0_giveCard cX0_giveCard 4 (some .int)] ({ frames := 4, cells := 0, slots := 0, locals := 83 } : Room)).room s m ([.ref (kA κ 0 o), .int y1, .int y2] : List Value).toArray below meth c H locs 0 0 (MQ below (QQ κ (res.2) (some (.int res.1))) ([.ref (kA κ 0 o), .int y1, .int y2] : List Value).toArray s 0 0 (AA κ)) (F0 m 34 ls []) := by
    intro a3 γ H locs ls hl hH hS hq
    refine lv_goto (tgt := 49) hx hb dX0_giveCard_34 (by decide) ?_
    exact b_49 a3 γ _ _ _ (lv_sub hl [0] rfl) hH hS hq
  have b_19 : ∀ (a1 : Int32) (a3 : Int32) (γ : St) (H : Heap) (locs : List Loc) (ls : Array Slot), lv_has ls 4 [(0, .ref (kA κ 0 o)), (1, .int a1), (3, .int a3)] → HR κ γ H → va_S (AA κ) s.heap H locs → x_X0_giveCard_19 o a1 a3 γ = res → W p l e (headSpec [Cond.code yX0_giveCard cX0_giveCard 4 (some .int)] ({ frames := 4, cells := 0, slots := 0, locals := 83 } : Room)).room s m ([.ref (kA κ 0 o), .int y1, .int y2] : List Value).toArray below meth c H locs 0 0 (MQ below (QQ κ (res.2) (some (.int res.1))) ([.ref (kA κ 0 o), .int y1, .int y2] : List Value).toArray s 0 0 (AA κ)) (F0 m 19 ls []) := by
    intro a1 a3 γ H locs ls hl hH hS hq
    refine lv_iload_n hx hb dX0_giveCard_19 rfl (lv_at hl 2 rfl) ?_
    refine lv_iconst (v := 2) hx hb dX0_giveCard_20 (by decide) ?_
    refine lv_icmp_ne (tgt := 37) hx hb dX0_giveCard_21 (by decide) (fun c13 => ?_) (fun c13 => ?_)
    · have hq := ifne hq c13
      refine lv_iload_n hx hb dX0_giveCard_37 rfl (lv_at hl 2 rfl) ?_
      refine lv_iconst (v := 3) hx hb dX0_giveCard_38 (by decide) ?_
      refine lv_icmp_ne (tgt := 49) hx hb dX0_giveCard_39 (by decide) (fun c14 => ?_) (fun c14 => ?_)
      · have hq := ifne hq c14
        exact b_49 a3 γ _ _ _ (lv_sub hl [2] rfl) hH hS hq
      · have hq := ifpe hq c14
        refine lv_aload_n hx hb dX0_giveCard_42 rfl (lv_at hl 0 rfl) ?_
        refine lv_iconst (v := 1) hx hb dX0_giveCard_43 (by decide) ?_
        refine lv_iload_n hx hb dX0_giveCard_44 rfl (lv_at hl 1 rfl) ?_
        refine lv_isub hx hb dX0_giveCard_45 ?_
        refine k_callV (C := RX0) (T := TX0) (N := 10) (rest := []) hC hl hH hS (c_X0_finish l κ γ o (1 - a1) hvo) hvo rfl rfl tw_653 tw_654 tw_655 tw_50 tw_656 hd_X0_finish ⟨Nat.le_of_ble_eq_true rfl, Nat.le_of_ble_eq_true rfl⟩ rfl rfl rfl rfl (Nat.le_of_ble_eq_true rfl) dX0_giveCard_46 ⟨Nat.le_of_ble_eq_true rfl, Nat.le_of_ble_eq_true rfl⟩ rfl (fun H locs hH hS => ?_)
        exact b_49 a3 (x_X0_finish o (1 - a1) γ) _ _ _ (lv_sub hl [2] rfl) hH hS hq
    · have hq := ifpe hq c13
      refine lv_aload_n hx hb dX0_giveCard_24 rfl (lv_at hl 0 rfl) ?_
      refine lv_iconst (v := 1) hx hb dX0_giveCard_25 (by decide) ?_
      refine lv_iload_n hx hb dX0_giveCard_26 rfl (lv_at hl 1 rfl) ?_
      refine lv_isub hx hb dX0_giveCard_27 ?_
      refine k_callSN (rest := [.ref (kA κ 0 o)]) hC hl hH hS (c_X7_bitOf l κ γ (1 - a1)) nw_692 tw_605 tw_38 tw_606 hd_X7_bitOf ⟨Nat.le_of_ble_eq_true rfl, Nat.le_of_ble_eq_true rfl⟩ rfl rfl rfl rfl (Nat.le_of_ble_eq_true rfl) dX0_giveCard_28 ⟨Nat.le_of_ble_eq_true rfl, Nat.le_of_ble_eq_true rfl⟩ rfl (fun H locs hH hS => ?_)
      refine k_callV (C := RX0) (T := TX0) (N := 10) (rest := []) hC hl hH hS (c_X0_giveTouches l κ γ o ((x_X7_bitOf (1 - a1) γ)) hvo) hvo rfl rfl tw_693 tw_638 tw_639 tw_50 tw_640 hd_X0_giveTouches ⟨Nat.le_of_ble_eq_true rfl, Nat.le_of_ble_eq_true rfl⟩ rfl rfl rfl rfl (Nat.le_of_ble_eq_true rfl) dX0_giveCard_31 ⟨Nat.le_of_ble_eq_true rfl, Nat.le_of_ble_eq_true rfl⟩ rfl (fun H locs hH hS => ?_)
      exact b_34 a3 (x_X0_giveTouches o ((x_X7_bitOf (1 - a1) γ)) γ) _ _ _ (lv_sub hl [2] rfl) hH hS hq
  refine lv_aload_n hx hb dX0_giveCard_0 rfl (lv_at hl 0 rfl) ?_
  refine lv_iload_n hx hb dX0_giveCard_1 rfl (lv_at hl 1 rfl) ?_
  have hw15 : lv κ 2 (x_X0_corner o y1 γ) := lvr_X0_corner hvo y1
  refine k_callV (C := RX0) (T := TX0) (N := 10) (rest := []) hC hl hH hS (c_X0_corner l κ γ o y1 hvo) hvo rfl rfl tw_356 tw_358 tw_4 tw_50 tw_360 hd_X0_corner ⟨Nat.le_of_ble_eq_true rfl, Nat.le_of_ble_eq_true rfl⟩ rfl rfl rfl rfl (Nat.le_of_ble_eq_true rfl) dX0_giveCard_2 ⟨Nat.le_of_ble_eq_true rfl, Nat.le_of_ble_eq_true rfl⟩ rfl (fun H locs hH hS => ?_)
  refine lv_iload_n hx hb dX0_giveCard_5 rfl (lv_at hl 2 rfl) ?_
  refine k_callV (C := RX2) (T := TX2) (N := 4) (rest := []) hC hl hH hS (c_X2_colourFor l κ γ ((x_X0_corner o y1 γ)) y2 hw15) hw15 rfl rfl tw_684 tw_685 tw_686 tw_51 tw_687 hd_X2_colourFor ⟨Nat.le_of_ble_eq_true rfl, Nat.le_of_ble_eq_true rfl⟩ rfl rfl rfl rfl (Nat.le_of_ble_eq_true rfl) dX0_giveCard_6 ⟨Nat.le_of_ble_eq_true rfl, Nat.le_of_ble_eq_true rfl⟩ rfl (fun H locs hH hS => ?_)
  refine lv_istore_n (lv' := [(3, .int ((x_X2_colourFor ((x_X0_corner o y1 γ)) y2 γ))), (0, .ref (kA κ 0 o)), (1, .int y1), (2, .int y2)]) hx hb dX0_giveCard_9 rfl hl (by decide) rfl (fun ls hl => ?_)
  refine lv_aload_n hx hb dX0_giveCard_10 rfl (lv_at hl 1 rfl) ?_
  refine lv_iload_n hx hb dX0_giveCard_11 rfl (lv_at hl 2 rfl) ?_
  have hw16 : lv κ 2 (x_X0_corner o y1 γ) := lvr_X0_corner hvo y1
  refine k_callV (C := RX0) (T := TX0) (N := 10) (rest := []) hC hl hH hS (c_X0_corner l κ γ o y1 hvo) hvo rfl rfl tw_356 tw_358 tw_4 tw_50 tw_360 hd_X0_corner ⟨Nat.le_of_ble_eq_true rfl, Nat.le_of_ble_eq_true rfl⟩ rfl rfl rfl rfl (Nat.le_of_ble_eq_true rfl) dX0_giveCard_12 ⟨Nat.le_of_ble_eq_true rfl, Nat.le_of_ble_eq_true rfl⟩ rfl (fun H locs hH hS => ?_)
  refine lv_iload_n hx hb dX0_giveCard_15 rfl (lv_at hl 3 rfl) ?_
  refine k_callV (C := RX2) (T := TX2) (N := 4) (rest := []) hC hl hH hS (c_X2_note l κ γ ((x_X0_corner o y1 γ)) y2 hw16) hw16 rfl rfl tw_688 tw_689 tw_690 tw_51 tw_691 hd_X2_note ⟨Nat.le_of_ble_eq_true rfl, Nat.le_of_ble_eq_true rfl⟩ rfl rfl rfl rfl (Nat.le_of_ble_eq_true rfl) dX0_giveCard_16 ⟨Nat.le_of_ble_eq_true rfl, Nat.le_of_ble_eq_true rfl⟩ rfl (fun H locs hH hS => ?_)
  exact b_19 y1 ((x_X2_colourFor ((x_X0_corner o y1 γ)) y2 γ)) (x_X2_note ((x_X0_corner o y1 γ)) y2 γ) _ _ _ (lv_sub hl [1, 2, 0] rfl) hH hS hq
set_option maxRecDepth 20000 in
set_option maxHeartbeats 4000000 in
theorem c_X0_becomePassive (l : Launch) (κ : KP) (γ : St) (o : Nat) (hvo : lv κ 0 o) : Met l yX0_becomePassive [Cond.code yX0_becomePassive cX0_becomePassive 1 none] ({ frames := 3, cells := 0, slots := 0, locals := 62 } : Room) (va_Pc [.ref (kA κ 0 o)] (GG κ γ)) (QQ κ ((x_X0_becomePassive o γ)) none) 0 0 (AA κ) := by
  generalize hq : x_X0_becomePassive o γ = res
  refine Met.ofW (cc := cX0_becomePassive) (maxL := 1) (ret := none) (by decide) rfl ?_
  intro p e s m args below meth c s₁ B hml9 hv
  obtain ⟨rfl, hH, hK9, hB9, hX9, hZ9⟩ := hv
  have hC : CX κ cX0_becomePassive "Phrasehall$Bout" 1 p l s m ([.ref (kA κ 0 o)] : List Value).toArray meth c := ⟨B.exec, B.bytes, findClass_of_methodNamed B.named, fun w hw => tw_use (List.mem_filter.mp hw).2 (State.WarmedH.refl s) (hX9.1 w hw), hK9, hX9, hZ9, hB9, hml9, B.notSynchronized⟩
  obtain ⟨hx, hb, hown, hT, -, -, -, -, hml, -⟩ := id hC
  have hr := B.returns
  have hS : va_S (AA κ) s.heap s.heap [] := va_S.rf
  have hl := lv_entry ([.ref (kA κ 0 o)]) (n := 1) (Nat.le_of_ble_eq_true rfl)
  rw [lg_entry_eq]
  generalize (lg_sl ([.ref (kA κ 0 o)]) ++ List.replicate (1 - (lg_sl ([.ref (kA κ 0 o)])).length) Slot.unset).toArray = ls at hl ⊢
  have hl : lv_has ls 1 [(0, .ref (kA κ 0 o))] := hl
  have b_28 : ∀ (γ : St) (H : Heap) (locs : List Loc) (ls : Array Slot), lv_has ls 1 [] → HR κ γ H → va_S (AA κ) s.heap H locs → x_X0_becomePassive_28 o γ = res → W p l e (headSpec [Cond.code yX0_becomePassive cX0_becomePassive 1 none] ({ frames := 3, cells := 0, slots := 0, locals := 62 } : Room)).room s m ([.ref (kA κ 0 o)] : List Value).toArray below meth c H locs 0 0 (MQ below (QQ κ res none) ([.ref (kA κ 0 o)] : List Value).toArray s 0 0 (AA κ)) (F0 m 28 ls []) := by
    intro  γ H locs ls hl hH hS hq
    refine lv_goto (tgt := 47) hx hb dX0_becomePassive_28 (by decide) ?_
    subst hq
    exact kr_v hC hr hH hS rfl dX0_becomePassive_47
  refine lv_aload_n hx hb dX0_becomePassive_0 rfl (lv_at hl 0 rfl) ?_
  refine lv_iconst (v := 0) hx hb dX0_becomePassive_1 (by decide) ?_
  refine hp_put (v := .int 0) (C := RX0) (T := TX0) (N := 10) hC inX0 tyX0_ok nmX0 hH hvo rfl hS rfl 8 (by decide) tw_490 rfl rfl rfl rfl (Nat.le_of_ble_eq_true rfl) (sV γ 0 o 8 0) (pe_0_8 _ _ o 0) (fun _ _ _ h => cel_sV h) (WT_sV hH.wt) dX0_becomePassive_2 (fun H locs hH hS => ?_)
  refine lv_aload_n hx hb dX0_becomePassive_5 rfl (lv_at hl 0 rfl) ?_
  refine lv_dup hx hb dX0_becomePassive_6 rfl ?_
  refine hp_get (v := .int (gV γ 0 o 9)) (C := RX0) (T := TX0) (N := 10) hC inX0 hH hvo rfl rfl 9 (by decide) tw_491 rfl (by simp [gV_sV, gV_sL, gV_sR, gL_sV, gL_sL, gL_sR, gR_sV, gR_sL, gR_sR]) dX0_becomePassive_7 ?_
  refine lv_iconst (v := 1) hx hb dX0_becomePassive_10 (by decide) ?_
  refine lv_iadd hx hb dX0_becomePassive_11 ?_
  refine hp_put (v := .int ((gV γ 0 o 9) + 1)) (C := RX0) (T := TX0) (N := 10) hC inX0 tyX0_ok nmX0 hH hvo rfl hS rfl 9 (by decide) tw_491 rfl rfl rfl rfl (Nat.le_of_ble_eq_true rfl) (sV (sV γ 0 o 8 0) 0 o 9 ((gV γ 0 o 9) + 1)) (pe_0_9 _ _ o ((gV γ 0 o 9) + 1)) (fun _ _ _ h => cel_sV h) (WT_sV hH.wt) dX0_becomePassive_12 (fun H locs hH hS => ?_)
  refine lv_aload_n hx hb dX0_becomePassive_15 rfl (lv_at hl 0 rfl) ?_
  refine hp_get (v := .int (gV (sV (sV γ 0 o 8 0) 0 o 9 ((gV γ 0 o 9) + 1)) 0 o 9)) (C := RX0) (T := TX0) (N := 10) hC inX0 hH hvo rfl rfl 9 (by decide) tw_491 rfl rfl dX0_becomePassive_16 ?_
  refine lv_iconst (v := 2) hx hb dX0_becomePassive_19 (by decide) ?_
  refine lv_icmp_ne (tgt := 31) hx hb dX0_becomePassive_20 (by decide) (fun c7 => ?_) (fun c7 => ?_)
  · have hq := ifne hq c7
    refine lv_aload_n hx hb dX0_becomePassive_31 rfl (lv_at hl 0 rfl) ?_
    refine hp_get (v := .int (gV (sV (sV γ 0 o 8 0) 0 o 9 ((gV γ 0 o 9) + 1)) 0 o 9)) (C := RX0) (T := TX0) (N := 10) hC inX0 hH hvo rfl rfl 9 (by decide) tw_491 rfl rfl dX0_becomePassive_32 ?_
    refine lv_iconst (v := 3) hx hb dX0_becomePassive_35 (by decide) ?_
    refine lv_icmp_lt (tgt := 47) hx hb dX0_becomePassive_36 (by decide) (fun c8 => ?_) (fun c8 => ?_)
    · have hq := ifpe hq c8
      subst hq
      exact kr_v hC hr hH hS rfl dX0_becomePassive_47
    · have hq := ifne hq c8
      refine lv_aload_n hx hb dX0_becomePassive_39 rfl (lv_at hl 0 rfl) ?_
      refine lv_aload_n hx hb dX0_becomePassive_40 rfl (lv_at hl 0 rfl) ?_
      refine k_callV (C := RX0) (T := TX0) (N := 10) (rest := [.ref (kA κ 0 o)]) hC hl hH hS (c_X0_leader l κ (sV (sV γ 0 o 8 0) 0 o 9 ((gV γ 0 o 9) + 1)) o hvo) hvo rfl rfl tw_649 tw_650 tw_651 tw_50 tw_652 hd_X0_leader ⟨Nat.le_of_ble_eq_true rfl, Nat.le_of_ble_eq_true rfl⟩ rfl rfl rfl rfl (Nat.le_of_ble_eq_true rfl) dX0_becomePassive_41 ⟨Nat.le_of_ble_eq_true rfl, Nat.le_of_ble_eq_true rfl⟩ rfl (fun H locs hH hS => ?_)
      refine k_callV (C := RX0) (T := TX0) (N := 10) (rest := []) hC hl hH hS (c_X0_finish l κ (sV (sV γ 0 o 8 0) 0 o 9 ((gV γ 0 o 9) + 1)) o ((x_X0_leader o (sV (sV γ 0 o 8 0) 0 o 9 ((gV γ 0 o 9) + 1)))) hvo) hvo rfl rfl tw_653 tw_654 tw_655 tw_50 tw_656 hd_X0_finish ⟨Nat.le_of_ble_eq_true rfl, Nat.le_of_ble_eq_true rfl⟩ rfl rfl rfl rfl (Nat.le_of_ble_eq_true rfl) dX0_becomePassive_44 ⟨Nat.le_of_ble_eq_true rfl, Nat.le_of_ble_eq_true rfl⟩ rfl (fun H locs hH hS => ?_)
      subst hq
      exact kr_v hC hr hH hS rfl dX0_becomePassive_47
  · have hq := ifpe hq c7
    refine lv_aload_n hx hb dX0_becomePassive_23 rfl (lv_at hl 0 rfl) ?_
    refine lv_iconst (v := 3) hx hb dX0_becomePassive_24 (by decide) ?_
    refine k_callV (C := RX0) (T := TX0) (N := 10) (rest := []) hC hl hH hS (c_X0_addTouches l κ (sV (sV γ 0 o 8 0) 0 o 9 ((gV γ 0 o 9) + 1)) o 3 hvo) hvo rfl rfl tw_641 tw_643 tw_26 tw_50 tw_644 hd_X0_addTouches ⟨Nat.le_of_ble_eq_true rfl, Nat.le_of_ble_eq_true rfl⟩ rfl rfl rfl rfl (Nat.le_of_ble_eq_true rfl) dX0_becomePassive_25 ⟨Nat.le_of_ble_eq_true rfl, Nat.le_of_ble_eq_true rfl⟩ rfl (fun H locs hH hS => ?_)
    exact b_28 (x_X0_addTouches o 3 (sV (sV γ 0 o 8 0) 0 o 9 ((gV γ 0 o 9) + 1))) _ _ _ (lv_sub hl [] rfl) hH hS hq
set_option maxRecDepth 20000 in
set_option maxHeartbeats 4000000 in
theorem c_X0_timeLimit (l : Launch) (κ : KP) (γ : St) (o : Nat) (hvo : lv κ 0 o) : Met l yX0_timeLimit [Cond.code yX0_timeLimit cX0_timeLimit 1 (some .int)] ({ frames := 0, cells := 0, slots := 0, locals := 0 } : Room) (va_Pc [.ref (kA κ 0 o)] (GG κ γ)) (QQ κ γ (some (.int ((x_X0_timeLimit o γ))))) 0 0 (AA κ) := by
  generalize hq : x_X0_timeLimit o γ = res
  refine Met.ofW (cc := cX0_timeLimit) (maxL := 1) (ret := (some .int)) (by decide) rfl ?_
  intro p e s m args below meth c s₁ B hml9 hv
  obtain ⟨rfl, hH, hK9, hB9, hX9, hZ9⟩ := hv
  have hC : CX κ cX0_timeLimit "Phrasehall$Bout" 1 p l s m ([.ref (kA κ 0 o)] : List Value).toArray meth c := ⟨B.exec, B.bytes, findClass_of_methodNamed B.named, fun w hw => tw_use (List.mem_filter.mp hw).2 (State.WarmedH.refl s) (hX9.1 w hw), hK9, hX9, hZ9, hB9, hml9, B.notSynchronized⟩
  obtain ⟨hx, hb, hown, hT, -, -, -, -, hml, -⟩ := id hC
  have hr := B.returns
  have hS : va_S (AA κ) s.heap s.heap [] := va_S.rf
  have hl := lv_entry ([.ref (kA κ 0 o)]) (n := 1) (Nat.le_of_ble_eq_true rfl)
  rw [lg_entry_eq]
  generalize (lg_sl ([.ref (kA κ 0 o)]) ++ List.replicate (1 - (lg_sl ([.ref (kA κ 0 o)])).length) Slot.unset).toArray = ls at hl ⊢
  have hl : lv_has ls 1 [(0, .ref (kA κ 0 o))] := hl
  refine lv_aload_n hx hb dX0_timeLimit_0 rfl (lv_at hl 0 rfl) ?_
  refine hp_get (v := .int (gV γ 0 o 6)) (C := RX0) (T := TX0) (N := 10) hC inX0 hH hvo rfl rfl 6 (by decide) tw_488 rfl rfl dX0_timeLimit_1 ?_
  refine lv_iconst (v := (-1)) hx hb dX0_timeLimit_4 (by decide) ?_
  refine lv_icmp_ne (tgt := 14) hx hb dX0_timeLimit_5 (by decide) (fun c3 => ?_) (fun c3 => ?_)
  · have hq := ifne hq c3
    refine lv_sipush (v := 240) hx hb dX0_timeLimit_14 (by decide) ?_
    subst hq
    exact kr_i hC hr hH hS rfl rfl dX0_timeLimit_17
  · have hq := ifpe hq c3
    refine lv_sipush (v := 180) hx hb dX0_timeLimit_8 (by decide) ?_
    refine lv_goto (tgt := 17) hx hb dX0_timeLimit_11 (by decide) ?_
    subst hq
    exact kr_i hC hr hH hS rfl rfl dX0_timeLimit_17
set_option maxRecDepth 20000 in
set_option maxHeartbeats 4000000 in
theorem c_X3_draw (l : Launch) (κ : KP) (γ : St)  : Met l yX3_draw [Cond.code yX3_draw cX3_draw 1 (some .int)] ({ frames := 0, cells := 0, slots := 0, locals := 0 } : Room) (va_Pc [.ref (kA κ 3 0)] (GG κ γ)) (QQ κ (((x_X3_draw γ)).2) (some (.int (((x_X3_draw γ)).1)))) 0 0 (AA κ) := by
  generalize hq : x_X3_draw γ = res
  refine Met.ofW (cc := cX3_draw) (maxL := 1) (ret := (some .int)) (by decide) rfl ?_
  intro p e s m args below meth c s₁ B hml9 hv
  obtain ⟨rfl, hH, hK9, hB9, hX9, hZ9⟩ := hv
  have hC : CX κ cX3_draw "Phrasehall$Lot" 1 p l s m ([.ref (kA κ 3 0)] : List Value).toArray meth c := ⟨B.exec, B.bytes, findClass_of_methodNamed B.named, fun w hw => tw_use (List.mem_filter.mp hw).2 (State.WarmedH.refl s) (hX9.1 w hw), hK9, hX9, hZ9, hB9, hml9, B.notSynchronized⟩
  obtain ⟨hx, hb, hown, hT, -, -, -, -, hml, -⟩ := id hC
  have hr := B.returns
  have hS : va_S (AA κ) s.heap s.heap [] := va_S.rf
  have hl := lv_entry ([.ref (kA κ 3 0)]) (n := 1) (Nat.le_of_ble_eq_true rfl)
  rw [lg_entry_eq]
  generalize (lg_sl ([.ref (kA κ 3 0)]) ++ List.replicate (1 - (lg_sl ([.ref (kA κ 3 0)])).length) Slot.unset).toArray = ls at hl ⊢
  have hl : lv_has ls 1 [(0, .ref (kA κ 3 0))] := hl
  refine lv_aload_n hx hb dX3_draw_0 rfl (lv_at hl 0 rfl) ?_
  refine lv_ldc2 (v := 1103515245) hx hb hown (hT _ tw_720) dX3_draw_1 ?_
  refine lv_aload_n hx hb dX3_draw_4 rfl (lv_at hl 0 rfl) ?_
  refine hp_get (v := .long (gL γ 3 0)) (C := RX3) (T := TX3) (N := 1) hC inX3 hH lv_3 rfl rfl 0 (by decide) tw_142 rfl rfl dX3_draw_5 ?_
  refine lv_lmul hx hb dX3_draw_8 ?_
  refine lv_ldc2 (v := 12345) hx hb hown (hT _ tw_721) dX3_draw_9 ?_
  refine lv_ladd hx hb dX3_draw_12 ?_
  refine lv_ldc2 (v := 2147483648) hx hb hown (hT _ tw_722) dX3_draw_13 ?_
  refine lv_lrem hx hb dX3_draw_16 (by decide) ?_
  refine hp_put (v := .long (((1103515245 * (gL γ 3 0)) + 12345) - ((1103515245 * (gL γ 3 0)) + 12345) / 2147483648 * 2147483648)) (C := RX3) (T := TX3) (N := 1) hC inX3 tyX3_ok nmX3 hH lv_3 rfl hS rfl 0 (by decide) tw_142 rfl rfl rfl rfl (Nat.le_of_ble_eq_true rfl) (sL γ 3 0 (((1103515245 * (gL γ 3 0)) + 12345) - ((1103515245 * (gL γ 3 0)) + 12345) / 2147483648 * 2147483648)) (pl_3_0 _ _ (((1103515245 * (gL γ 3 0)) + 12345) - ((1103515245 * (gL γ 3 0)) + 12345) / 2147483648 * 2147483648)) (fun c9 n9 hl9 h => cel_sL (fun q => h ⟨q, lv_u3 n9 (by rw [← q]; exact hl9)⟩)) (WT_sL hH.wt) dX3_draw_17 (fun H locs hH hS => ?_)
  refine lv_aload_n hx hb dX3_draw_20 rfl (lv_at hl 0 rfl) ?_
  refine hp_get (v := .long (((1103515245 * (gL γ 3 0)) + 12345) - ((1103515245 * (gL γ 3 0)) + 12345) / 2147483648 * 2147483648)) (C := RX3) (T := TX3) (N := 1) hC inX3 hH lv_3 rfl rfl 0 (by decide) tw_142 rfl (by simp [gV_sV, gV_sL, gV_sR, gL_sV, gL_sL, gL_sR, gR_sV, gR_sL, gR_sR]) dX3_draw_21 ?_
  refine lv_ldc2 (v := 65536) hx hb hown (hT _ tw_723) dX3_draw_24 ?_
  refine lv_ldiv hx hb dX3_draw_27 (by decide) ?_
  refine lv_ldc2 (v := 2) hx hb hown (hT _ tw_724) dX3_draw_28 ?_
  refine lv_lrem hx hb dX3_draw_31 (by decide) ?_
  refine lv_l2i (v := (((((1103515245 * (gL γ 3 0)) + 12345) - ((1103515245 * (gL γ 3 0)) + 12345) / 2147483648 * 2147483648) / 65536) - ((((1103515245 * (gL γ 3 0)) + 12345) - ((1103515245 * (gL γ 3 0)) + 12345) / 2147483648 * 2147483648) / 65536) / 2 * 2 : Int64).toInt32) hx hb dX3_draw_32 rfl ?_
  subst hq
  exact kr_i hC hr hH hS rfl rfl dX3_draw_33
set_option maxRecDepth 20000 in
set_option maxHeartbeats 4000000 in
theorem c_X0_lookAtTime (l : Launch) (κ : KP) (γ : St) (o : Nat) (hvo : lv κ 0 o) : Met l yX0_lookAtTime [Cond.code yX0_lookAtTime cX0_lookAtTime 2 none] ({ frames := 2, cells := 0, slots := 0, locals := 40 } : Room) (va_Pc [.ref (kA κ 0 o), .ref (kA κ 3 0)] (GG κ γ)) (QQ κ ((x_X0_lookAtTime o γ)) none) 0 0 (AA κ) := by
  generalize hq : x_X0_lookAtTime o γ = res
  refine Met.ofW (cc := cX0_lookAtTime) (maxL := 2) (ret := none) (by decide) rfl ?_
  intro p e s m args below meth c s₁ B hml9 hv
  obtain ⟨rfl, hH, hK9, hB9, hX9, hZ9⟩ := hv
  have hC : CX κ cX0_lookAtTime "Phrasehall$Bout" 2 p l s m ([.ref (kA κ 0 o), .ref (kA κ 3 0)] : List Value).toArray meth c := ⟨B.exec, B.bytes, findClass_of_methodNamed B.named, fun w hw => tw_use (List.mem_filter.mp hw).2 (State.WarmedH.refl s) (hX9.1 w hw), hK9, hX9, hZ9, hB9, hml9, B.notSynchronized⟩
  obtain ⟨hx, hb, hown, hT, -, -, -, -, hml, -⟩ := id hC
  have hr := B.returns
  have hS : va_S (AA κ) s.heap s.heap [] := va_S.rf
  have hl := lv_entry ([.ref (kA κ 0 o), .ref (kA κ 3 0)]) (n := 2) (Nat.le_of_ble_eq_true rfl)
  rw [lg_entry_eq]
  generalize (lg_sl ([.ref (kA κ 0 o), .ref (kA κ 3 0)]) ++ List.replicate (2 - (lg_sl ([.ref (kA κ 0 o), .ref (kA κ 3 0)])).length) Slot.unset).toArray = ls at hl ⊢
  have hl : lv_has ls 2 [(0, .ref (kA κ 0 o)), (1, .ref (kA κ 3 0))] := hl
  have b_43 : ∀ (s0 : Int32) (γ : St) (H : Heap) (locs : List Loc) (ls : Array Slot), lv_has ls 2 [] → HR κ γ H → va_S (AA κ) s.heap H locs → x_X0_lookAtTime_43 o s0 γ = res → W p l e (headSpec [Cond.code yX0_lookAtTime cX0_lookAtTime 2 none] ({ frames := 2, cells := 0, slots := 0, locals := 40 } : Room)).room s m ([.ref (kA κ 0 o), .ref (kA κ 3 0)] : List Value).toArray below meth c H locs 0 0 (MQ below (QQ κ res none) ([.ref (kA κ 0 o), .ref (kA κ 3 0)] : List Value).toArray s 0 0 (AA κ)) (F0 m 43 ls [.int s0, .ref (kA κ 0 o)]) := by
    intro s0 γ H locs ls hl hH hS hq
    refine hp_put (v := .int s0) (C := RX0) (T := TX0) (N := 10) hC inX0 tyX0_ok nmX0 hH hvo rfl hS rfl 6 (by decide) tw_488 rfl rfl rfl rfl (Nat.le_of_ble_eq_true rfl) (sV γ 0 o 6 s0) (pe_0_6 _ _ o s0) (fun _ _ _ h => cel_sV h) (WT_sV hH.wt) dX0_lookAtTime_43 (fun H locs hH hS => ?_)
    refine lv_goto (tgt := 57) hx hb dX0_lookAtTime_46 (by decide) ?_
    subst hq
    exact kr_v hC hr hH hS rfl dX0_lookAtTime_57
  have b_28 : ∀ (γ : St) (H : Heap) (locs : List Loc) (ls : Array Slot), lv_has ls 2 [] → HR κ γ H → va_S (AA κ) s.heap H locs → x_X0_lookAtTime_28 o γ = res → W p l e (headSpec [Cond.code yX0_lookAtTime cX0_lookAtTime 2 none] ({ frames := 2, cells := 0, slots := 0, locals := 40 } : Room)).room s m ([.ref (kA κ 0 o), .ref (kA κ 3 0)] : List Value).toArray below meth c H locs 0 0 (MQ below (QQ κ res none) ([.ref (kA κ 0 o), .ref (kA κ 3 0)] : List Value).toArray s 0 0 (AA κ)) (F0 m 28 ls []) := by
    intro  γ H locs ls hl hH hS hq
    refine lv_goto (tgt := 57) hx hb dX0_lookAtTime_28 (by decide) ?_
    subst hq
    exact kr_v hC hr hH hS rfl dX0_lookAtTime_57
  refine lv_aload_n hx hb dX0_lookAtTime_0 rfl (lv_at hl 0 rfl) ?_
  refine hp_get (v := .int (gV γ 0 o 7)) (C := RX0) (T := TX0) (N := 10) hC inX0 hH hvo rfl rfl 7 (by decide) tw_489 rfl rfl dX0_lookAtTime_1 ?_
  refine lv_aload_n hx hb dX0_lookAtTime_4 rfl (lv_at hl 0 rfl) ?_
  refine k_callV (C := RX0) (T := TX0) (N := 10) (rest := [.int (gV γ 0 o 7)]) hC hl hH hS (c_X0_timeLimit l κ γ o hvo) hvo rfl rfl tw_712 tw_714 tw_32 tw_50 tw_715 hd_X0_timeLimit ⟨Nat.le_of_ble_eq_true rfl, Nat.le_of_ble_eq_true rfl⟩ rfl rfl rfl rfl (Nat.le_of_ble_eq_true rfl) dX0_lookAtTime_5 ⟨Nat.le_of_ble_eq_true rfl, Nat.le_of_ble_eq_true rfl⟩ rfl (fun H locs hH hS => ?_)
  refine lv_icmp_ge (tgt := 12) hx hb dX0_lookAtTime_8 (by decide) (fun c10 => ?_) (fun c10 => ?_)
  · have hq := ifpe hq c10
    refine lv_aload_n hx hb dX0_lookAtTime_12 rfl (lv_at hl 0 rfl) ?_
    refine hp_get (v := .int (gV γ 0 o 6)) (C := RX0) (T := TX0) (N := 10) hC inX0 hH hvo rfl rfl 6 (by decide) tw_488 rfl rfl dX0_lookAtTime_13 ?_
    refine lv_iconst (v := (-1)) hx hb dX0_lookAtTime_16 (by decide) ?_
    refine lv_icmp_eq (tgt := 31) hx hb dX0_lookAtTime_17 (by decide) (fun c11 => ?_) (fun c11 => ?_)
    · have hq := ifpe hq c11
      refine lv_aload_n hx hb dX0_lookAtTime_31 rfl (lv_at hl 0 rfl) ?_
      refine k_callV (C := RX0) (T := TX0) (N := 10) (rest := []) hC hl hH hS (c_X0_isLike l κ γ o hvo) hvo rfl rfl tw_645 tw_647 tw_27 tw_50 tw_648 hd_X0_isLike ⟨Nat.le_of_ble_eq_true rfl, Nat.le_of_ble_eq_true rfl⟩ rfl rfl rfl rfl (Nat.le_of_ble_eq_true rfl) dX0_lookAtTime_32 ⟨Nat.le_of_ble_eq_true rfl, Nat.le_of_ble_eq_true rfl⟩ rfl (fun H locs hH hS => ?_)
      refine lv_if_eq (tgt := 49) hx hb dX0_lookAtTime_35 (by decide) (fun c12 => ?_) (fun c12 => ?_)
      · have hq := ifpe hq c12
        refine lv_aload_n hx hb dX0_lookAtTime_49 rfl (lv_at hl 0 rfl) ?_
        refine lv_aload_n hx hb dX0_lookAtTime_50 rfl (lv_at hl 0 rfl) ?_
        refine k_callV (C := RX0) (T := TX0) (N := 10) (rest := [.ref (kA κ 0 o)]) hC hl hH hS (c_X0_leader l κ γ o hvo) hvo rfl rfl tw_649 tw_650 tw_651 tw_50 tw_652 hd_X0_leader ⟨Nat.le_of_ble_eq_true rfl, Nat.le_of_ble_eq_true rfl⟩ rfl rfl rfl rfl (Nat.le_of_ble_eq_true rfl) dX0_lookAtTime_51 ⟨Nat.le_of_ble_eq_true rfl, Nat.le_of_ble_eq_true rfl⟩ rfl (fun H locs hH hS => ?_)
        refine k_callV (C := RX0) (T := TX0) (N := 10) (rest := []) hC hl hH hS (c_X0_finish l κ γ o ((x_X0_leader o γ)) hvo) hvo rfl rfl tw_653 tw_654 tw_655 tw_50 tw_656 hd_X0_finish ⟨Nat.le_of_ble_eq_true rfl, Nat.le_of_ble_eq_true rfl⟩ rfl rfl rfl rfl (Nat.le_of_ble_eq_true rfl) dX0_lookAtTime_54 ⟨Nat.le_of_ble_eq_true rfl, Nat.le_of_ble_eq_true rfl⟩ rfl (fun H locs hH hS => ?_)
        subst hq
        exact kr_v hC hr hH hS rfl dX0_lookAtTime_57
      · have hq := ifne hq c12
        refine lv_aload_n hx hb dX0_lookAtTime_38 rfl (lv_at hl 0 rfl) ?_
        refine lv_aload_n hx hb dX0_lookAtTime_39 rfl (lv_at hl 1 rfl) ?_
        refine k_callV (C := RX3) (T := TX3) (N := 1) (rest := [.ref (kA κ 0 o)]) hC hl hH hS (c_X3_draw l κ γ) lv_3 rfl rfl tw_716 tw_717 tw_718 tw_42 tw_719 hd_X3_draw ⟨Nat.le_of_ble_eq_true rfl, Nat.le_of_ble_eq_true rfl⟩ rfl rfl rfl rfl (Nat.le_of_ble_eq_true rfl) dX0_lookAtTime_40 ⟨Nat.le_of_ble_eq_true rfl, Nat.le_of_ble_eq_true rfl⟩ rfl (fun H locs hH hS => ?_)
        exact b_43 ((x_X3_draw γ).1) (x_X3_draw γ).2 _ _ _ (lv_sub hl [] rfl) hH hS hq
    · have hq := ifne hq c11
      refine lv_aload_n hx hb dX0_lookAtTime_20 rfl (lv_at hl 0 rfl) ?_
      refine lv_aload_n hx hb dX0_lookAtTime_21 rfl (lv_at hl 0 rfl) ?_
      refine hp_get (v := .int (gV γ 0 o 6)) (C := RX0) (T := TX0) (N := 10) hC inX0 hH hvo rfl rfl 6 (by decide) tw_488 rfl rfl dX0_lookAtTime_22 ?_
      refine k_callV (C := RX0) (T := TX0) (N := 10) (rest := []) hC hl hH hS (c_X0_finish l κ γ o (gV γ 0 o 6) hvo) hvo rfl rfl tw_653 tw_654 tw_655 tw_50 tw_656 hd_X0_finish ⟨Nat.le_of_ble_eq_true rfl, Nat.le_of_ble_eq_true rfl⟩ rfl rfl rfl rfl (Nat.le_of_ble_eq_true rfl) dX0_lookAtTime_25 ⟨Nat.le_of_ble_eq_true rfl, Nat.le_of_ble_eq_true rfl⟩ rfl (fun H locs hH hS => ?_)
      exact b_28 (x_X0_finish o (gV γ 0 o 6) γ) _ _ _ (lv_sub hl [] rfl) hH hS hq
  · have hq := ifne hq c10
    subst hq
    exact kr_v hC hr hH hS rfl dX0_lookAtTime_11
set_option maxRecDepth 20000 in
set_option maxHeartbeats 4000000 in
theorem c_X0_passSecond (l : Launch) (κ : KP) (γ : St) (o : Nat) (hvo : lv κ 0 o) : Met l yX0_passSecond [Cond.code yX0_passSecond cX0_passSecond 2 none] ({ frames := 4, cells := 0, slots := 0, locals := 82 } : Room) (va_Pc [.ref (kA κ 0 o), .ref (kA κ 3 0)] (GG κ γ)) (QQ κ ((x_X0_passSecond o γ)) none) 0 0 (AA κ) := by
  generalize hq : x_X0_passSecond o γ = res
  refine Met.ofW (cc := cX0_passSecond) (maxL := 2) (ret := none) (by decide) rfl ?_
  intro p e s m args below meth c s₁ B hml9 hv
  obtain ⟨rfl, hH, hK9, hB9, hX9, hZ9⟩ := hv
  have hC : CX κ cX0_passSecond "Phrasehall$Bout" 2 p l s m ([.ref (kA κ 0 o), .ref (kA κ 3 0)] : List Value).toArray meth c := ⟨B.exec, B.bytes, findClass_of_methodNamed B.named, fun w hw => tw_use (List.mem_filter.mp hw).2 (State.WarmedH.refl s) (hX9.1 w hw), hK9, hX9, hZ9, hB9, hml9, B.notSynchronized⟩
  obtain ⟨hx, hb, hown, hT, -, -, -, -, hml, -⟩ := id hC
  have hr := B.returns
  have hS : va_S (AA κ) s.heap s.heap [] := va_S.rf
  have hl := lv_entry ([.ref (kA κ 0 o), .ref (kA κ 3 0)]) (n := 2) (Nat.le_of_ble_eq_true rfl)
  rw [lg_entry_eq]
  generalize (lg_sl ([.ref (kA κ 0 o), .ref (kA κ 3 0)]) ++ List.replicate (2 - (lg_sl ([.ref (kA κ 0 o), .ref (kA κ 3 0)])).length) Slot.unset).toArray = ls at hl ⊢
  have hl : lv_has ls 2 [(0, .ref (kA κ 0 o)), (1, .ref (kA κ 3 0))] := hl
  have b_33 : ∀ (γ : St) (H : Heap) (locs : List Loc) (ls : Array Slot), lv_has ls 2 [(0, .ref (kA κ 0 o)), (1, .ref (kA κ 3 0))] → HR κ γ H → va_S (AA κ) s.heap H locs → x_X0_passSecond_33 o γ = res → W p l e (headSpec [Cond.code yX0_passSecond cX0_passSecond 2 none] ({ frames := 4, cells := 0, slots := 0, locals := 82 } : Room)).room s m ([.ref (kA κ 0 o), .ref (kA κ 3 0)] : List Value).toArray below meth c H locs 0 0 (MQ below (QQ κ res none) ([.ref (kA κ 0 o), .ref (kA κ 3 0)] : List Value).toArray s 0 0 (AA κ)) (F0 m 33 ls []) := by
    intro  γ H locs ls hl hH hS hq
    refine lv_aload_n hx hb dX0_passSecond_33 rfl (lv_at hl 0 rfl) ?_
    refine k_callV (C := RX0) (T := TX0) (N := 10) (rest := []) hC hl hH hS (c_X0_isOver l κ γ o hvo) hvo rfl rfl tw_707 tw_341 tw_342 tw_50 tw_343 hd_X0_isOver ⟨Nat.le_of_ble_eq_true rfl, Nat.le_of_ble_eq_true rfl⟩ rfl rfl rfl rfl (Nat.le_of_ble_eq_true rfl) dX0_passSecond_34 ⟨Nat.le_of_ble_eq_true rfl, Nat.le_of_ble_eq_true rfl⟩ rfl (fun H locs hH hS => ?_)
    refine lv_if_ne (tgt := 45) hx hb dX0_passSecond_37 (by decide) (fun c7 => ?_) (fun c7 => ?_)
    · have hq := ifne hq c7
      subst hq
      exact kr_v hC hr hH hS rfl dX0_passSecond_45
    · have hq := ifpe hq c7
      refine lv_aload_n hx hb dX0_passSecond_40 rfl (lv_at hl 0 rfl) ?_
      refine lv_aload_n hx hb dX0_passSecond_41 rfl (lv_at hl 1 rfl) ?_
      refine k_callV (C := RX0) (T := TX0) (N := 10) (rest := []) hC hl hH hS (c_X0_lookAtTime l κ γ o hvo) hvo rfl rfl tw_708 tw_710 tw_31 tw_50 tw_711 hd_X0_lookAtTime ⟨Nat.le_of_ble_eq_true rfl, Nat.le_of_ble_eq_true rfl⟩ rfl rfl rfl rfl (Nat.le_of_ble_eq_true rfl) dX0_passSecond_42 ⟨Nat.le_of_ble_eq_true rfl, Nat.le_of_ble_eq_true rfl⟩ rfl (fun H locs hH hS => ?_)
      subst hq
      exact kr_v hC hr hH hS rfl dX0_passSecond_45
  refine lv_aload_n hx hb dX0_passSecond_0 rfl (lv_at hl 0 rfl) ?_
  refine lv_dup hx hb dX0_passSecond_1 rfl ?_
  refine hp_get (v := .int (gV γ 0 o 7)) (C := RX0) (T := TX0) (N := 10) hC inX0 hH hvo rfl rfl 7 (by decide) tw_489 rfl rfl dX0_passSecond_2 ?_
  refine lv_iconst (v := 1) hx hb dX0_passSecond_5 (by decide) ?_
  refine lv_iadd hx hb dX0_passSecond_6 ?_
  refine hp_put (v := .int ((gV γ 0 o 7) + 1)) (C := RX0) (T := TX0) (N := 10) hC inX0 tyX0_ok nmX0 hH hvo rfl hS rfl 7 (by decide) tw_489 rfl rfl rfl rfl (Nat.le_of_ble_eq_true rfl) (sV γ 0 o 7 ((gV γ 0 o 7) + 1)) (pe_0_7 _ _ o ((gV γ 0 o 7) + 1)) (fun _ _ _ h => cel_sV h) (WT_sV hH.wt) dX0_passSecond_7 (fun H locs hH hS => ?_)
  refine lv_aload_n hx hb dX0_passSecond_10 rfl (lv_at hl 0 rfl) ?_
  refine lv_dup hx hb dX0_passSecond_11 rfl ?_
  refine hp_get (v := .int (gV γ 0 o 8)) (C := RX0) (T := TX0) (N := 10) hC inX0 hH hvo rfl rfl 8 (by decide) tw_490 rfl (by simp [gV_sV, gV_sL, gV_sR, gL_sV, gL_sL, gL_sR, gR_sV, gR_sL, gR_sR]) dX0_passSecond_12 ?_
  refine lv_iconst (v := 1) hx hb dX0_passSecond_15 (by decide) ?_
  refine lv_iadd hx hb dX0_passSecond_16 ?_
  refine hp_put (v := .int ((gV γ 0 o 8) + 1)) (C := RX0) (T := TX0) (N := 10) hC inX0 tyX0_ok nmX0 hH hvo rfl hS rfl 8 (by decide) tw_490 rfl rfl rfl rfl (Nat.le_of_ble_eq_true rfl) (sV (sV γ 0 o 7 ((gV γ 0 o 7) + 1)) 0 o 8 ((gV γ 0 o 8) + 1)) (pe_0_8 _ _ o ((gV γ 0 o 8) + 1)) (fun _ _ _ h => cel_sV h) (WT_sV hH.wt) dX0_passSecond_17 (fun H locs hH hS => ?_)
  refine lv_aload_n hx hb dX0_passSecond_20 rfl (lv_at hl 0 rfl) ?_
  refine hp_get (v := .int (gV (sV (sV γ 0 o 7 ((gV γ 0 o 7) + 1)) 0 o 8 ((gV γ 0 o 8) + 1)) 0 o 8)) (C := RX0) (T := TX0) (N := 10) hC inX0 hH hvo rfl rfl 8 (by decide) tw_490 rfl rfl dX0_passSecond_21 ?_
  refine lv_bipush (v := 60) hx hb dX0_passSecond_24 (by decide) ?_
  refine lv_icmp_lt (tgt := 33) hx hb dX0_passSecond_26 (by decide) (fun c8 => ?_) (fun c8 => ?_)
  · have hq := ifpe hq c8
    exact b_33 (sV (sV γ 0 o 7 ((gV γ 0 o 7) + 1)) 0 o 8 ((gV γ 0 o 8) + 1)) _ _ _ (lv_sub hl [0, 1] rfl) hH hS hq
  · have hq := ifne hq c8
    refine lv_aload_n hx hb dX0_passSecond_29 rfl (lv_at hl 0 rfl) ?_
    refine k_callV (C := RX0) (T := TX0) (N := 10) (rest := []) hC hl hH hS (c_X0_becomePassive l κ (sV (sV γ 0 o 7 ((gV γ 0 o 7) + 1)) 0 o 8 ((gV γ 0 o 8) + 1)) o hvo) hvo rfl rfl tw_703 tw_705 tw_30 tw_50 tw_706 hd_X0_becomePassive ⟨Nat.le_of_ble_eq_true rfl, Nat.le_of_ble_eq_true rfl⟩ rfl rfl rfl rfl (Nat.le_of_ble_eq_true rfl) dX0_passSecond_30 ⟨Nat.le_of_ble_eq_true rfl, Nat.le_of_ble_eq_true rfl⟩ rfl (fun H locs hH hS => ?_)
    exact b_33 (x_X0_becomePassive o (sV (sV γ 0 o 7 ((gV γ 0 o 7) + 1)) 0 o 8 ((gV γ 0 o 8) + 1))) _ _ _ (lv_sub hl [0, 1] rfl) hH hS hq
set_option maxRecDepth 20000 in
set_option maxHeartbeats 4000000 in
theorem c_X0_secondsLeft (l : Launch) (κ : KP) (γ : St) (o : Nat) (hvo : lv κ 0 o) : Met l yX0_secondsLeft [Cond.code yX0_secondsLeft cX0_secondsLeft 1 (some .int)] ({ frames := 1, cells := 0, slots := 0, locals := 20 } : Room) (va_Pc [.ref (kA κ 0 o)] (GG κ γ)) (QQ κ γ (some (.int ((x_X0_secondsLeft o γ))))) 0 0 (AA κ) := by
  generalize hq : x_X0_secondsLeft o γ = res
  refine Met.ofW (cc := cX0_secondsLeft) (maxL := 1) (ret := (some .int)) (by decide) rfl ?_
  intro p e s m args below meth c s₁ B hml9 hv
  obtain ⟨rfl, hH, hK9, hB9, hX9, hZ9⟩ := hv
  have hC : CX κ cX0_secondsLeft "Phrasehall$Bout" 1 p l s m ([.ref (kA κ 0 o)] : List Value).toArray meth c := ⟨B.exec, B.bytes, findClass_of_methodNamed B.named, fun w hw => tw_use (List.mem_filter.mp hw).2 (State.WarmedH.refl s) (hX9.1 w hw), hK9, hX9, hZ9, hB9, hml9, B.notSynchronized⟩
  obtain ⟨hx, hb, hown, hT, -, -, -, -, hml, -⟩ := id hC
  have hr := B.returns
  have hS : va_S (AA κ) s.heap s.heap [] := va_S.rf
  have hl := lv_entry ([.ref (kA κ 0 o)]) (n := 1) (Nat.le_of_ble_eq_true rfl)
  rw [lg_entry_eq]
  generalize (lg_sl ([.ref (kA κ 0 o)]) ++ List.replicate (1 - (lg_sl ([.ref (kA κ 0 o)])).length) Slot.unset).toArray = ls at hl ⊢
  have hl : lv_has ls 1 [(0, .ref (kA κ 0 o))] := hl
  refine lv_aload_n hx hb dX0_secondsLeft_0 rfl (lv_at hl 0 rfl) ?_
  refine k_callV (C := RX0) (T := TX0) (N := 10) (rest := []) hC hl hH hS (c_X0_isOver l κ γ o hvo) hvo rfl rfl tw_707 tw_341 tw_342 tw_50 tw_343 hd_X0_isOver ⟨Nat.le_of_ble_eq_true rfl, Nat.le_of_ble_eq_true rfl⟩ rfl rfl rfl rfl (Nat.le_of_ble_eq_true rfl) dX0_secondsLeft_1 ⟨Nat.le_of_ble_eq_true rfl, Nat.le_of_ble_eq_true rfl⟩ rfl (fun H locs hH hS => ?_)
  refine lv_if_eq (tgt := 11) hx hb dX0_secondsLeft_4 (by decide) (fun c3 => ?_) (fun c3 => ?_)
  · have hq := ifpe hq c3
    refine lv_aload_n hx hb dX0_secondsLeft_11 rfl (lv_at hl 0 rfl) ?_
    refine k_callV (C := RX0) (T := TX0) (N := 10) (rest := []) hC hl hH hS (c_X0_timeLimit l κ γ o hvo) hvo rfl rfl tw_712 tw_714 tw_32 tw_50 tw_715 hd_X0_timeLimit ⟨Nat.le_of_ble_eq_true rfl, Nat.le_of_ble_eq_true rfl⟩ rfl rfl rfl rfl (Nat.le_of_ble_eq_true rfl) dX0_secondsLeft_12 ⟨Nat.le_of_ble_eq_true rfl, Nat.le_of_ble_eq_true rfl⟩ rfl (fun H locs hH hS => ?_)
    refine lv_aload_n hx hb dX0_secondsLeft_15 rfl (lv_at hl 0 rfl) ?_
    refine hp_get (v := .int (gV γ 0 o 7)) (C := RX0) (T := TX0) (N := 10) hC inX0 hH hvo rfl rfl 7 (by decide) tw_489 rfl rfl dX0_secondsLeft_16 ?_
    refine lv_isub hx hb dX0_secondsLeft_19 ?_
    subst hq
    exact kr_i hC hr hH hS rfl rfl dX0_secondsLeft_20
  · have hq := ifne hq c3
    refine lv_iconst (v := 0) hx hb dX0_secondsLeft_7 (by decide) ?_
    refine lv_goto (tgt := 20) hx hb dX0_secondsLeft_8 (by decide) ?_
    subst hq
    exact kr_i hC hr hH hS rfl rfl dX0_secondsLeft_20
set_option maxRecDepth 20000 in
set_option maxHeartbeats 4000000 in
theorem c_X0_told (l : Launch) (κ : KP) (γ : St) (o : Nat) (y1 : Int32) (hvo : lv κ 0 o) : Met l yX0_told [Cond.code yX0_told cX0_told 2 (some .int)] ({ frames := 0, cells := 0, slots := 0, locals := 0 } : Room) (va_Pc [.ref (kA κ 0 o), .int y1] (GG κ γ)) (QQ κ γ (some (.int ((x_X0_told o y1 γ))))) 0 0 (AA κ) := by
  generalize hq : x_X0_told o y1 γ = res
  refine Met.ofW (cc := cX0_told) (maxL := 2) (ret := (some .int)) (by decide) rfl ?_
  intro p e s m args below meth c s₁ B hml9 hv
  obtain ⟨rfl, hH, hK9, hB9, hX9, hZ9⟩ := hv
  have hC : CX κ cX0_told "Phrasehall$Bout" 2 p l s m ([.ref (kA κ 0 o), .int y1] : List Value).toArray meth c := ⟨B.exec, B.bytes, findClass_of_methodNamed B.named, fun w hw => tw_use (List.mem_filter.mp hw).2 (State.WarmedH.refl s) (hX9.1 w hw), hK9, hX9, hZ9, hB9, hml9, B.notSynchronized⟩
  obtain ⟨hx, hb, hown, hT, -, -, -, -, hml, -⟩ := id hC
  have hr := B.returns
  have hS : va_S (AA κ) s.heap s.heap [] := va_S.rf
  have hl := lv_entry ([.ref (kA κ 0 o), .int y1]) (n := 2) (Nat.le_of_ble_eq_true rfl)
  rw [lg_entry_eq]
  generalize (lg_sl ([.ref (kA κ 0 o), .int y1]) ++ List.replicate (2 - (lg_sl ([.ref (kA κ 0 o), .int y1])).length) Slot.unset).toArray = ls at hl ⊢
  have hl : lv_has ls 2 [(0, .ref (kA κ 0 o)), (1, .int y1)] := hl
  refine lv_iload_n hx hb dX0_told_0 rfl (lv_at hl 1 rfl) ?_
  by_cases c11 : y1 = 0
  · have hq := ifpe hq c11
    refine k_tabI (j := 0) (tgt := 36) c11 hx hb dX0_told_1 (by decide) (by decide) rfl (by decide) ?_
    refine lv_aload_n hx hb dX0_told_36 rfl (lv_at hl 0 rfl) ?_
    refine hp_get (v := .ref (kA κ 2 (2 * o))) (C := RX0) (T := TX0) (N := 10) hC inX0 hH hvo rfl rfl 0 (by decide) tw_476 rfl rfl dX0_told_37 ?_
    refine hp_getN (v := .int (gV γ 2 (2 * o) 1)) (C := RX2) (T := TX2) (N := 4) hC inX2 hH (lv_c0 hvo) rfl rfl 1 (by decide) nw_464 rfl rfl dX0_told_40 ?_
    subst hq
    exact kr_i hC hr hH hS rfl rfl dX0_told_43
  have hq := ifne hq c11
  by_cases c12 : y1 = 1
  · have hq := ifpe hq c12
    refine k_tabI (j := 1) (tgt := 44) c12 hx hb dX0_told_1 (by decide) (by decide) rfl (by decide) ?_
    refine lv_aload_n hx hb dX0_told_44 rfl (lv_at hl 0 rfl) ?_
    refine hp_get (v := .ref (kA κ 2 (2 * o + 1))) (C := RX0) (T := TX0) (N := 10) hC inX0 hH hvo rfl rfl 1 (by decide) tw_478 rfl rfl dX0_told_45 ?_
    refine hp_getN (v := .int (gV γ 2 (2 * o + 1) 1)) (C := RX2) (T := TX2) (N := 4) hC inX2 hH (lv_c1 hvo) rfl rfl 1 (by decide) nw_464 rfl rfl dX0_told_48 ?_
    subst hq
    exact kr_i hC hr hH hS rfl rfl dX0_told_51
  have hq := ifne hq c12
  by_cases c13 : y1 = 2
  · have hq := ifpe hq c13
    refine k_tabI (j := 2) (tgt := 52) c13 hx hb dX0_told_1 (by decide) (by decide) rfl (by decide) ?_
    refine lv_aload_n hx hb dX0_told_52 rfl (lv_at hl 0 rfl) ?_
    refine hp_get (v := .int (gV γ 0 o 5)) (C := RX0) (T := TX0) (N := 10) hC inX0 hH hvo rfl rfl 5 (by decide) tw_486 rfl rfl dX0_told_53 ?_
    subst hq
    exact kr_i hC hr hH hS rfl rfl dX0_told_56
  have hq := ifne hq c13
  by_cases c14 : y1 = 3
  · have hq := ifpe hq c14
    refine k_tabI (j := 3) (tgt := 57) c14 hx hb dX0_told_1 (by decide) (by decide) rfl (by decide) ?_
    refine lv_aload_n hx hb dX0_told_57 rfl (lv_at hl 0 rfl) ?_
    refine hp_get (v := .int (gV γ 0 o 7)) (C := RX0) (T := TX0) (N := 10) hC inX0 hH hvo rfl rfl 7 (by decide) tw_489 rfl rfl dX0_told_58 ?_
    subst hq
    exact kr_i hC hr hH hS rfl rfl dX0_told_61
  have hq := ifne hq c14
  by_cases c15 : y1 = 4
  · have hq := ifpe hq c15
    refine k_tabI (j := 4) (tgt := 62) c15 hx hb dX0_told_1 (by decide) (by decide) rfl (by decide) ?_
    refine lv_aload_n hx hb dX0_told_62 rfl (lv_at hl 0 rfl) ?_
    refine hp_get (v := .int (gV γ 0 o 9)) (C := RX0) (T := TX0) (N := 10) hC inX0 hH hvo rfl rfl 9 (by decide) tw_491 rfl rfl dX0_told_63 ?_
    subst hq
    exact kr_i hC hr hH hS rfl rfl dX0_told_66
  have hq := ifne hq c15
  refine lv_tableOut (tgt := 67) hx hb dX0_told_1 (by have e0 := i32_ne (n := 0) (by decide) c11; have e1 := i32_ne (n := 1) (by decide) c12; have e2 := i32_ne (n := 2) (by decide) c13; have e3 := i32_ne (n := 3) (by decide) c14; have e4 := i32_ne (n := 4) (by decide) c15; omega) (by decide) ?_
  refine lv_aload_n hx hb dX0_told_67 rfl (lv_at hl 0 rfl) ?_
  refine hp_get (v := .int (gV γ 0 o 6)) (C := RX0) (T := TX0) (N := 10) hC inX0 hH hvo rfl rfl 6 (by decide) tw_488 rfl rfl dX0_told_68 ?_
  subst hq
  exact kr_i hC hr hH hS rfl rfl dX0_told_71
set_option maxRecDepth 20000 in
set_option maxHeartbeats 4000000 in
theorem c_X0_share (l : Launch) (κ : KP) (γ : St) (o : Nat) (y1 : Int32) (y2 : Int32) (hvo : lv κ 0 o) : Met l yX0_share [Cond.code yX0_share cX0_share 3 (some .int)] ({ frames := 1, cells := 0, slots := 0, locals := 21 } : Room) (va_Pc [.ref (kA κ 0 o), .int y1, .int y2] (GG κ γ)) (QQ κ γ (some (.int ((x_X0_share o y1 y2 γ))))) 0 0 (AA κ) := by
  generalize hq : x_X0_share o y1 y2 γ = res
  refine Met.ofW (cc := cX0_share) (maxL := 3) (ret := (some .int)) (by decide) rfl ?_
  intro p e s m args below meth c s₁ B hml9 hv
  obtain ⟨rfl, hH, hK9, hB9, hX9, hZ9⟩ := hv
  have hC : CX κ cX0_share "Phrasehall$Bout" 3 p l s m ([.ref (kA κ 0 o), .int y1, .int y2] : List Value).toArray meth c := ⟨B.exec, B.bytes, findClass_of_methodNamed B.named, fun w hw => tw_use (List.mem_filter.mp hw).2 (State.WarmedH.refl s) (hX9.1 w hw), hK9, hX9, hZ9, hB9, hml9, B.notSynchronized⟩
  obtain ⟨hx, hb, hown, hT, -, -, -, -, hml, -⟩ := id hC
  have hr := B.returns
  have hS : va_S (AA κ) s.heap s.heap [] := va_S.rf
  have hl := lv_entry ([.ref (kA κ 0 o), .int y1, .int y2]) (n := 3) (Nat.le_of_ble_eq_true rfl)
  rw [lg_entry_eq]
  generalize (lg_sl ([.ref (kA κ 0 o), .int y1, .int y2]) ++ List.replicate (3 - (lg_sl ([.ref (kA κ 0 o), .int y1, .int y2])).length) Slot.unset).toArray = ls at hl ⊢
  have hl : lv_has ls 3 [(0, .ref (kA κ 0 o)), (1, .int y1), (2, .int y2)] := hl
  refine lv_iload_n hx hb dX0_share_0 rfl (lv_at hl 2 rfl) ?_
  by_cases c13 : y2 = 0
  · have hq := ifpe hq c13
    refine k_tabI (j := 0) (tgt := 28) c13 hx hb dX0_share_1 (by decide) (by decide) rfl (by decide) ?_
    refine lv_iconst (v := 1) hx hb dX0_share_28 (by decide) ?_
    subst hq
    exact kr_i hC hr hH hS rfl rfl dX0_share_29
  have hq := ifne hq c13
  by_cases c14 : y2 = 1
  · have hq := ifpe hq c14
    refine k_tabI (j := 1) (tgt := 30) c14 hx hb dX0_share_1 (by decide) (by decide) rfl (by decide) ?_
    refine lv_aload_n hx hb dX0_share_30 rfl (lv_at hl 0 rfl) ?_
    refine hp_get (v := .int (gV γ 0 o 5)) (C := RX0) (T := TX0) (N := 10) hC inX0 hH hvo rfl rfl 5 (by decide) tw_486 rfl rfl dX0_share_31 ?_
    refine lv_iload_n hx hb dX0_share_34 rfl (lv_at hl 1 rfl) ?_
    refine lv_icmp_ne (tgt := 42) hx hb dX0_share_35 (by decide) (fun c15 => ?_) (fun c15 => ?_)
    · have hq := ifne hq c15
      refine lv_iconst (v := 0) hx hb dX0_share_42 (by decide) ?_
      subst hq
      exact kr_i hC hr hH hS rfl rfl dX0_share_43
    · have hq := ifpe hq c15
      refine lv_iconst (v := 1) hx hb dX0_share_38 (by decide) ?_
      refine lv_goto (tgt := 43) hx hb dX0_share_39 (by decide) ?_
      subst hq
      exact kr_i hC hr hH hS rfl rfl dX0_share_43
  have hq := ifne hq c14
  by_cases c16 : y2 = 2
  · have hq := ifpe hq c16
    refine k_tabI (j := 2) (tgt := 44) c16 hx hb dX0_share_1 (by decide) (by decide) rfl (by decide) ?_
    refine lv_aload_n hx hb dX0_share_44 rfl (lv_at hl 0 rfl) ?_
    refine lv_iload_n hx hb dX0_share_45 rfl (lv_at hl 1 rfl) ?_
    have hw17 : lv κ 2 (x_X0_corner o y1 γ) := lvr_X0_corner hvo y1
    refine k_callV (C := RX0) (T := TX0) (N := 10) (rest := []) hC hl hH hS (c_X0_corner l κ γ o y1 hvo) hvo rfl rfl tw_356 tw_358 tw_4 tw_50 tw_360 hd_X0_corner ⟨Nat.le_of_ble_eq_true rfl, Nat.le_of_ble_eq_true rfl⟩ rfl rfl rfl rfl (Nat.le_of_ble_eq_true rfl) dX0_share_46 ⟨Nat.le_of_ble_eq_true rfl, Nat.le_of_ble_eq_true rfl⟩ rfl (fun H locs hH hS => ?_)
    refine hp_getN (v := .int (gV γ 2 ((x_X0_corner o y1 γ)) 1)) (C := RX2) (T := TX2) (N := 4) hC inX2 hH hw17 rfl rfl 1 (by decide) nw_464 rfl rfl dX0_share_49 ?_
    subst hq
    exact kr_i hC hr hH hS rfl rfl dX0_share_52
  have hq := ifne hq c16
  refine lv_tableOut (tgt := 53) hx hb dX0_share_1 (by have e0 := i32_ne (n := 0) (by decide) c13; have e1 := i32_ne (n := 1) (by decide) c14; have e2 := i32_ne (n := 2) (by decide) c16; omega) (by decide) ?_
  refine lv_aload_n hx hb dX0_share_53 rfl (lv_at hl 0 rfl) ?_
  refine lv_iconst (v := 1) hx hb dX0_share_54 (by decide) ?_
  refine lv_iload_n hx hb dX0_share_55 rfl (lv_at hl 1 rfl) ?_
  refine lv_isub hx hb dX0_share_56 ?_
  have hw18 : lv κ 2 (x_X0_corner o (1 - y1) γ) := lvr_X0_corner hvo (1 - y1)
  refine k_callV (C := RX0) (T := TX0) (N := 10) (rest := []) hC hl hH hS (c_X0_corner l κ γ o (1 - y1) hvo) hvo rfl rfl tw_356 tw_358 tw_4 tw_50 tw_360 hd_X0_corner ⟨Nat.le_of_ble_eq_true rfl, Nat.le_of_ble_eq_true rfl⟩ rfl rfl rfl rfl (Nat.le_of_ble_eq_true rfl) dX0_share_57 ⟨Nat.le_of_ble_eq_true rfl, Nat.le_of_ble_eq_true rfl⟩ rfl (fun H locs hH hS => ?_)
  refine hp_getN (v := .int (gV γ 2 ((x_X0_corner o (1 - y1) γ)) 1)) (C := RX2) (T := TX2) (N := 4) hC inX2 hH hw18 rfl rfl 1 (by decide) nw_464 rfl rfl dX0_share_60 ?_
  subst hq
  exact kr_i hC hr hH hS rfl rfl dX0_share_63
