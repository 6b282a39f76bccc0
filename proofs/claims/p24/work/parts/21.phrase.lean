set_option maxRecDepth 20000 in
set_option maxHeartbeats 4000000 in
theorem c_X4_empty (l : Launch) (κ : KP) (γ : St)  : Met l yX4_empty [Cond.code yX4_empty cX4_empty 1 none] ({ frames := 0, cells := 0, slots := 0, locals := 0 } : Room) (va_Pc [.ref (kA κ 4 0)] (GG κ γ)) (QQ κ ((x_X4_empty γ)) none) 0 0 (AA κ) := by
  generalize hq : x_X4_empty γ = res
  refine Met.ofW (cc := cX4_empty) (maxL := 1) (ret := none) (by decide) rfl ?_
  intro p e s m args below meth c s₁ B hml9 hv
  obtain ⟨rfl, hH, hK9, hB9, hX9, hZ9⟩ := hv
  have hC : CX κ cX4_empty "Phrasehall$Phrase" 1 p l s m ([.ref (kA κ 4 0)] : List Value).toArray meth c := ⟨B.exec, B.bytes, findClass_of_methodNamed B.named, fun w hw => tw_use (List.mem_filter.mp hw).2 (State.WarmedH.refl s) (hX9.1 w hw), hK9, hX9, hZ9, hB9, hml9, B.notSynchronized⟩
  obtain ⟨hx, hb, hown, hT, -, -, -, -, hml, -⟩ := id hC
  have hr := B.returns
  have hS : va_S (AA κ) s.heap s.heap [] := va_S.rf
  have hl := lv_entry ([.ref (kA κ 4 0)]) (n := 1) (Nat.le_of_ble_eq_true rfl)
  rw [lg_entry_eq]
  generalize (lg_sl ([.ref (kA κ 4 0)]) ++ List.replicate (1 - (lg_sl ([.ref (kA κ 4 0)])).length) Slot.unset).toArray = ls at hl ⊢
  have hl : lv_has ls 1 [(0, .ref (kA κ 4 0))] := hl
  refine lv_aload_n hx hb dX4_empty_0 rfl (lv_at hl 0 rfl) ?_
  refine lv_iconst (v := 0) hx hb dX4_empty_1 (by decide) ?_
  refine hp_put (v := .int 0) (C := RX4) (T := TX4) (N := 7) hC inX4 tyX4_ok nmX4 hH lv_4 rfl hS rfl 6 (by decide) tw_102 rfl rfl rfl rfl (Nat.le_of_ble_eq_true rfl) (sV γ 4 0 6 0) (pe_4_6 _ _ 0 0) (fun _ _ _ h => cel_sV h) (WT_sV hH.wt) dX4_empty_2 (fun H locs hH hS => ?_)
  subst hq
  exact kr_v hC hr hH hS rfl dX4_empty_5
set_option maxRecDepth 20000 in
set_option maxHeartbeats 4000000 in
theorem c_X4_isFull (l : Launch) (κ : KP) (γ : St)  : Met l yX4_isFull [Cond.code yX4_isFull cX4_isFull 1 (some .boolean)] ({ frames := 0, cells := 0, slots := 0, locals := 0 } : Room) (va_Pc [.ref (kA κ 4 0)] (GG κ γ)) (QQ κ γ (some (.int ((x_X4_isFull γ))))) 0 0 (AA κ) := by
  generalize hq : x_X4_isFull γ = res
  refine Met.ofW (cc := cX4_isFull) (maxL := 1) (ret := (some .boolean)) (by decide) rfl ?_
  intro p e s m args below meth c s₁ B hml9 hv
  obtain ⟨rfl, hH, hK9, hB9, hX9, hZ9⟩ := hv
  have hC : CX κ cX4_isFull "Phrasehall$Phrase" 1 p l s m ([.ref (kA κ 4 0)] : List Value).toArray meth c := ⟨B.exec, B.bytes, findClass_of_methodNamed B.named, fun w hw => tw_use (List.mem_filter.mp hw).2 (State.WarmedH.refl s) (hX9.1 w hw), hK9, hX9, hZ9, hB9, hml9, B.notSynchronized⟩
  obtain ⟨hx, hb, hown, hT, -, -, -, -, hml, -⟩ := id hC
  have hr := B.returns
  have hS : va_S (AA κ) s.heap s.heap [] := va_S.rf
  have hl := lv_entry ([.ref (kA κ 4 0)]) (n := 1) (Nat.le_of_ble_eq_true rfl)
  rw [lg_entry_eq]
  generalize (lg_sl ([.ref (kA κ 4 0)]) ++ List.replicate (1 - (lg_sl ([.ref (kA κ 4 0)])).length) Slot.unset).toArray = ls at hl ⊢
  have hl : lv_has ls 1 [(0, .ref (kA κ 4 0))] := hl
  refine lv_aload_n hx hb dX4_isFull_0 rfl (lv_at hl 0 rfl) ?_
  refine hp_get (v := .int (gV γ 4 0 6)) (C := RX4) (T := TX4) (N := 7) hC inX4 hH lv_4 rfl rfl 6 (by decide) tw_102 rfl rfl dX4_isFull_1 ?_
  refine lv_bipush (v := 24) hx hb dX4_isFull_4 (by decide) ?_
  refine lv_icmp_lt (tgt := 13) hx hb dX4_isFull_6 (by decide) (fun c3 => ?_) (fun c3 => ?_)
  · have hq := ifpe hq c3
    refine lv_iconst (v := 0) hx hb dX4_isFull_13 (by decide) ?_
    subst hq
    exact kr_z hC hr rfl hH hS rfl rfl dX4_isFull_14
  · have hq := ifne hq c3
    refine lv_iconst (v := 1) hx hb dX4_isFull_9 (by decide) ?_
    refine lv_goto (tgt := 14) hx hb dX4_isFull_10 (by decide) ?_
    subst hq
    exact kr_z hC hr rfl hH hS rfl rfl dX4_isFull_14
set_option maxRecDepth 20000 in
set_option maxHeartbeats 4000000 in
theorem c_X4_isEntry (l : Launch) (κ : KP) (γ : St) (y1 : Int32)  : Met l yX4_isEntry [Cond.code yX4_isEntry cX4_isEntry 2 (some .boolean)] ({ frames := 0, cells := 0, slots := 0, locals := 0 } : Room) (va_Pc [.ref (kA κ 4 0), .int y1] (GG κ γ)) (QQ κ γ (some (.int ((x_X4_isEntry y1 γ))))) 0 0 (AA κ) := by
  generalize hq : x_X4_isEntry y1 γ = res
  refine Met.ofW (cc := cX4_isEntry) (maxL := 2) (ret := (some .boolean)) (by decide) rfl ?_
  intro p e s m args below meth c s₁ B hml9 hv
  obtain ⟨rfl, hH, hK9, hB9, hX9, hZ9⟩ := hv
  have hC : CX κ cX4_isEntry "Phrasehall$Phrase" 2 p l s m ([.ref (kA κ 4 0), .int y1] : List Value).toArray meth c := ⟨B.exec, B.bytes, findClass_of_methodNamed B.named, fun w hw => tw_use (List.mem_filter.mp hw).2 (State.WarmedH.refl s) (hX9.1 w hw), hK9, hX9, hZ9, hB9, hml9, B.notSynchronized⟩
  obtain ⟨hx, hb, hown, hT, -, -, -, -, hml, -⟩ := id hC
  have hr := B.returns
  have hS : va_S (AA κ) s.heap s.heap [] := va_S.rf
  have hl := lv_entry ([.ref (kA κ 4 0), .int y1]) (n := 2) (Nat.le_of_ble_eq_true rfl)
  rw [lg_entry_eq]
  generalize (lg_sl ([.ref (kA κ 4 0), .int y1]) ++ List.replicate (2 - (lg_sl ([.ref (kA κ 4 0), .int y1])).length) Slot.unset).toArray = ls at hl ⊢
  have hl : lv_has ls 2 [(0, .ref (kA κ 4 0)), (1, .int y1)] := hl
  have b_22 : ∀ (H : Heap) (locs : List Loc) (ls : Array Slot), lv_has ls 2 [] → HR κ γ H → va_S (AA κ) s.heap H locs → x_X4_isEntry_22 γ = res → W p l e (headSpec [Cond.code yX4_isEntry cX4_isEntry 2 (some .boolean)] ({ frames := 0, cells := 0, slots := 0, locals := 0 } : Room)).room s m ([.ref (kA κ 4 0), .int y1] : List Value).toArray below meth c H locs 0 0 (MQ below (QQ κ γ (some (.int res))) ([.ref (kA κ 4 0), .int y1] : List Value).toArray s 0 0 (AA κ)) (F0 m 22 ls []) := by
    intro  H locs ls hl hH hS hq
    refine lv_iconst (v := 0) hx hb dX4_isEntry_22 (by decide) ?_
    subst hq
    exact kr_z hC hr rfl hH hS rfl rfl dX4_isEntry_23
  refine lv_iload_n hx hb dX4_isEntry_0 rfl (lv_at hl 1 rfl) ?_
  refine lv_if_lt (tgt := 22) hx hb dX4_isEntry_1 (by decide) (fun c10 => ?_) (fun c10 => ?_)
  · have hq := ifpe hq c10
    exact b_22 _ _ _ (lv_sub hl [] rfl) hH hS hq
  · have hq := ifne hq c10
    refine lv_iload_n hx hb dX4_isEntry_4 rfl (lv_at hl 1 rfl) ?_
    refine lv_aload_n hx hb dX4_isEntry_5 rfl (lv_at hl 0 rfl) ?_
    refine hp_get (v := .int (gV γ 4 0 6)) (C := RX4) (T := TX4) (N := 7) hC inX4 hH lv_4 rfl rfl 6 (by decide) tw_102 rfl rfl dX4_isEntry_6 ?_
    refine lv_icmp_ge (tgt := 22) hx hb dX4_isEntry_9 (by decide) (fun c11 => ?_) (fun c11 => ?_)
    · have hq := ifpe hq c11
      exact b_22 _ _ _ (lv_sub hl [] rfl) hH hS hq
    · have hq := ifne hq c11
      refine lv_iload_n hx hb dX4_isEntry_12 rfl (lv_at hl 1 rfl) ?_
      refine lv_bipush (v := 24) hx hb dX4_isEntry_13 (by decide) ?_
      refine lv_icmp_ge (tgt := 22) hx hb dX4_isEntry_15 (by decide) (fun c12 => ?_) (fun c12 => ?_)
      · have hq := ifpe hq c12
        exact b_22 _ _ _ (lv_sub hl [] rfl) hH hS hq
      · have hq := ifne hq c12
        refine lv_iconst (v := 1) hx hb dX4_isEntry_18 (by decide) ?_
        refine lv_goto (tgt := 23) hx hb dX4_isEntry_19 (by decide) ?_
        subst hq
        exact kr_z hC hr rfl hH hS rfl rfl dX4_isEntry_23
set_option maxRecDepth 20000 in
set_option maxHeartbeats 4000000 in
theorem c_X4_timeAt (l : Launch) (κ : KP) (γ : St) (y1 : Int32) (hk : ok_X4_timeAt y1 γ) : Met l yX4_timeAt [Cond.code yX4_timeAt cX4_timeAt 2 (some .int)] ({ frames := 1, cells := 0, slots := 0, locals := 21 } : Room) (va_Pc [.ref (kA κ 4 0), .int y1] (GG κ γ)) (QQ κ γ (some (.int ((x_X4_timeAt y1 γ))))) 0 0 (AA κ) := by
  generalize hq : x_X4_timeAt y1 γ = res
  refine Met.ofW (cc := cX4_timeAt) (maxL := 2) (ret := (some .int)) (by decide) rfl ?_
  intro p e s m args below meth c s₁ B hml9 hv
  obtain ⟨rfl, hH, hK9, hB9, hX9, hZ9⟩ := hv
  have hC : CX κ cX4_timeAt "Phrasehall$Phrase" 2 p l s m ([.ref (kA κ 4 0), .int y1] : List Value).toArray meth c := ⟨B.exec, B.bytes, findClass_of_methodNamed B.named, fun w hw => tw_use (List.mem_filter.mp hw).2 (State.WarmedH.refl s) (hX9.1 w hw), hK9, hX9, hZ9, hB9, hml9, B.notSynchronized⟩
  obtain ⟨hx, hb, hown, hT, -, -, -, -, hml, -⟩ := id hC
  have hr := B.returns
  have hS : va_S (AA κ) s.heap s.heap [] := va_S.rf
  have hl := lv_entry ([.ref (kA κ 4 0), .int y1]) (n := 2) (Nat.le_of_ble_eq_true rfl)
  rw [lg_entry_eq]
  generalize (lg_sl ([.ref (kA κ 4 0), .int y1]) ++ List.replicate (2 - (lg_sl ([.ref (kA κ 4 0), .int y1])).length) Slot.unset).toArray = ls at hl ⊢
  have hl : lv_has ls 2 [(0, .ref (kA κ 4 0)), (1, .int y1)] := hl
  refine lv_aload_n hx hb dX4_timeAt_0 rfl (lv_at hl 0 rfl) ?_
  refine lv_iload_n hx hb dX4_timeAt_1 rfl (lv_at hl 1 rfl) ?_
  refine k_callV (C := RX4) (T := TX4) (N := 7) (rest := []) hC hl hH hS (c_X4_isEntry l κ γ y1) lv_4 rfl rfl tw_538 tw_540 tw_16 tw_39 tw_541 hd_X4_isEntry ⟨Nat.le_of_ble_eq_true rfl, Nat.le_of_ble_eq_true rfl⟩ rfl rfl rfl rfl (Nat.le_of_ble_eq_true rfl) dX4_timeAt_2 ⟨Nat.le_of_ble_eq_true rfl, Nat.le_of_ble_eq_true rfl⟩ rfl (fun H locs hH hS => ?_)
  refine lv_if_eq (tgt := 17) hx hb dX4_timeAt_5 (by decide) (fun c5 => ?_) (fun c5 => ?_)
  · have hk := ifp hk c5
    have hq := ifpe hq c5
    refine lv_iconst (v := 0) hx hb dX4_timeAt_17 (by decide) ?_
    subst hq
    exact kr_i hC hr hH hS rfl rfl dX4_timeAt_18
  · have hk := ifn hk c5
    have hq := ifne hq c5
    refine lv_aload_n hx hb dX4_timeAt_8 rfl (lv_at hl 0 rfl) ?_
    refine hp_get (v := .ref (kA κ 13 0)) (C := RX4) (T := TX4) (N := 7) hC inX4 hH lv_4 rfl rfl 2 (by decide) tw_98 rfl rfl dX4_timeAt_9 ?_
    refine lv_iload_n hx hb dX4_timeAt_12 rfl (lv_at hl 1 rfl) ?_
    obtain ⟨hi6, hk⟩ := hk
    refine hp_ald (v := gV γ 13 0 ((y1 : Int32).toNatClampNeg)) hC hH lv_13 rfl hi6 rfl dX4_timeAt_13 ?_
    refine lv_goto (tgt := 18) hx hb dX4_timeAt_14 (by decide) ?_
    subst hq
    exact kr_i hC hr hH hS rfl rfl dX4_timeAt_18
set_option maxRecDepth 20000 in
set_option maxHeartbeats 4000000 in
theorem c_X4_lastTime (l : Launch) (κ : KP) (γ : St) (hk : ok_X4_lastTime γ) : Met l yX4_lastTime [Cond.code yX4_lastTime cX4_lastTime 1 (some .int)] ({ frames := 2, cells := 0, slots := 0, locals := 42 } : Room) (va_Pc [.ref (kA κ 4 0)] (GG κ γ)) (QQ κ γ (some (.int ((x_X4_lastTime γ))))) 0 0 (AA κ) := by
  generalize hq : x_X4_lastTime γ = res
  refine Met.ofW (cc := cX4_lastTime) (maxL := 1) (ret := (some .int)) (by decide) rfl ?_
  intro p e s m args below meth c s₁ B hml9 hv
  obtain ⟨rfl, hH, hK9, hB9, hX9, hZ9⟩ := hv
  have hC : CX κ cX4_lastTime "Phrasehall$Phrase" 1 p l s m ([.ref (kA κ 4 0)] : List Value).toArray meth c := ⟨B.exec, B.bytes, findClass_of_methodNamed B.named, fun w hw => tw_use (List.mem_filter.mp hw).2 (State.WarmedH.refl s) (hX9.1 w hw), hK9, hX9, hZ9, hB9, hml9, B.notSynchronized⟩
  obtain ⟨hx, hb, hown, hT, -, -, -, -, hml, -⟩ := id hC
  have hr := B.returns
  have hS : va_S (AA κ) s.heap s.heap [] := va_S.rf
  have hl := lv_entry ([.ref (kA κ 4 0)]) (n := 1) (Nat.le_of_ble_eq_true rfl)
  rw [lg_entry_eq]
  generalize (lg_sl ([.ref (kA κ 4 0)]) ++ List.replicate (1 - (lg_sl ([.ref (kA κ 4 0)])).length) Slot.unset).toArray = ls at hl ⊢
  have hl : lv_has ls 1 [(0, .ref (kA κ 4 0))] := hl
  refine lv_aload_n hx hb dX4_lastTime_0 rfl (lv_at hl 0 rfl) ?_
  refine hp_get (v := .int (gV γ 4 0 6)) (C := RX4) (T := TX4) (N := 7) hC inX4 hH lv_4 rfl rfl 6 (by decide) tw_102 rfl rfl dX4_lastTime_1 ?_
  refine lv_if_ne (tgt := 11) hx hb dX4_lastTime_4 (by decide) (fun c5 => ?_) (fun c5 => ?_)
  · have hk := ifn hk c5
    have hq := ifne hq c5
    refine lv_aload_n hx hb dX4_lastTime_11 rfl (lv_at hl 0 rfl) ?_
    refine lv_aload_n hx hb dX4_lastTime_12 rfl (lv_at hl 0 rfl) ?_
    refine hp_get (v := .int (gV γ 4 0 6)) (C := RX4) (T := TX4) (N := 7) hC inX4 hH lv_4 rfl rfl 6 (by decide) tw_102 rfl rfl dX4_lastTime_13 ?_
    refine lv_iconst (v := 1) hx hb dX4_lastTime_16 (by decide) ?_
    refine lv_isub hx hb dX4_lastTime_17 ?_
    obtain ⟨hc6, hk⟩ := hk
    refine k_callV (C := RX4) (T := TX4) (N := 7) (rest := []) hC hl hH hS (c_X4_timeAt l κ γ ((gV γ 4 0 6) - 1) hc6) lv_4 rfl rfl tw_534 tw_535 tw_536 tw_39 tw_537 hd_X4_timeAt ⟨Nat.le_of_ble_eq_true rfl, Nat.le_of_ble_eq_true rfl⟩ rfl rfl rfl rfl (Nat.le_of_ble_eq_true rfl) dX4_lastTime_18 ⟨Nat.le_of_ble_eq_true rfl, Nat.le_of_ble_eq_true rfl⟩ rfl (fun H locs hH hS => ?_)
    subst hq
    exact kr_i hC hr hH hS rfl rfl dX4_lastTime_21
  · have hk := ifp hk c5
    have hq := ifpe hq c5
    refine lv_iconst (v := 0) hx hb dX4_lastTime_7 (by decide) ?_
    refine lv_goto (tgt := 21) hx hb dX4_lastTime_8 (by decide) ?_
    subst hq
    exact kr_i hC hr hH hS rfl rfl dX4_lastTime_21
set_option maxRecDepth 20000 in
set_option maxHeartbeats 4000000 in
theorem c_X4_append (l : Launch) (κ : KP) (γ : St) (y1 : Int32) (y2 : Int32) (y3 : Int32) (y4 : Int32) (y5 : Int32) (hk : ok_X4_append y1 y2 y3 y4 y5 γ) : Met l yX4_append [Cond.code yX4_append cX4_append 6 (some .int)] ({ frames := 0, cells := 0, slots := 0, locals := 0 } : Room) (va_Pc [.ref (kA κ 4 0), .int y1, .int y2, .int y3, .int y4, .int y5] (GG κ γ)) (QQ κ (((x_X4_append y1 y2 y3 y4 y5 γ)).2) (some (.int (((x_X4_append y1 y2 y3 y4 y5 γ)).1)))) 0 0 (AA κ) := by
  generalize hq : x_X4_append y1 y2 y3 y4 y5 γ = res
  refine Met.ofW (cc := cX4_append) (maxL := 6) (ret := (some .int)) (by decide) rfl ?_
  intro p e s m args below meth c s₁ B hml9 hv
  obtain ⟨rfl, hH, hK9, hB9, hX9, hZ9⟩ := hv
  have hC : CX κ cX4_append "Phrasehall$Phrase" 6 p l s m ([.ref (kA κ 4 0), .int y1, .int y2, .int y3, .int y4, .int y5] : List Value).toArray meth c := ⟨B.exec, B.bytes, findClass_of_methodNamed B.named, fun w hw => tw_use (List.mem_filter.mp hw).2 (State.WarmedH.refl s) (hX9.1 w hw), hK9, hX9, hZ9, hB9, hml9, B.notSynchronized⟩
  obtain ⟨hx, hb, hown, hT, -, -, -, -, hml, -⟩ := id hC
  have hr := B.returns
  have hS : va_S (AA κ) s.heap s.heap [] := va_S.rf
  have hl := lv_entry ([.ref (kA κ 4 0), .int y1, .int y2, .int y3, .int y4, .int y5]) (n := 6) (Nat.le_of_ble_eq_true rfl)
  rw [lg_entry_eq]
  generalize (lg_sl ([.ref (kA κ 4 0), .int y1, .int y2, .int y3, .int y4, .int y5]) ++ List.replicate (6 - (lg_sl ([.ref (kA κ 4 0), .int y1, .int y2, .int y3, .int y4, .int y5])).length) Slot.unset).toArray = ls at hl ⊢
  have hl : lv_has ls 6 [(0, .ref (kA κ 4 0)), (1, .int y1), (2, .int y2), (3, .int y3), (4, .int y4), (5, .int y5)] := hl
  have b_78 : ∀ (γ : St) (H : Heap) (locs : List Loc) (ls : Array Slot), lv_has ls 6 [(0, .ref (kA κ 4 0))] → HR κ γ H → va_S (AA κ) s.heap H locs → ok_X4_append_78 γ → x_X4_append_78 γ = res → W p l e (headSpec [Cond.code yX4_append cX4_append 6 (some .int)] ({ frames := 0, cells := 0, slots := 0, locals := 0 } : Room)).room s m ([.ref (kA κ 4 0), .int y1, .int y2, .int y3, .int y4, .int y5] : List Value).toArray below meth c H locs 0 0 (MQ below (QQ κ (res.2) (some (.int res.1))) ([.ref (kA κ 4 0), .int y1, .int y2, .int y3, .int y4, .int y5] : List Value).toArray s 0 0 (AA κ)) (F0 m 78 ls []) := by
    intro  γ H locs ls hl hH hS hk hq
    refine lv_aload_n hx hb dX4_append_78 rfl (lv_at hl 0 rfl) ?_
    refine hp_get (v := .int (gV γ 4 0 6)) (C := RX4) (T := TX4) (N := 7) hC inX4 hH lv_4 rfl rfl 6 (by decide) tw_102 rfl rfl dX4_append_79 ?_
    subst hq
    exact kr_i hC hr hH hS rfl rfl dX4_append_82
  refine lv_aload_n hx hb dX4_append_0 rfl (lv_at hl 0 rfl) ?_
  refine hp_get (v := .int (gV γ 4 0 6)) (C := RX4) (T := TX4) (N := 7) hC inX4 hH lv_4 rfl rfl 6 (by decide) tw_102 rfl rfl dX4_append_1 ?_
  refine lv_if_lt (tgt := 78) hx hb dX4_append_4 (by decide) (fun c22 => ?_) (fun c22 => ?_)
  · have hk := ifp hk c22
    have hq := ifpe hq c22
    exact b_78 γ _ _ _ (lv_sub hl [0] rfl) hH hS hk hq
  · have hk := ifn hk c22
    have hq := ifne hq c22
    refine lv_aload_n hx hb dX4_append_7 rfl (lv_at hl 0 rfl) ?_
    refine hp_get (v := .int (gV γ 4 0 6)) (C := RX4) (T := TX4) (N := 7) hC inX4 hH lv_4 rfl rfl 6 (by decide) tw_102 rfl rfl dX4_append_8 ?_
    refine lv_bipush (v := 24) hx hb dX4_append_11 (by decide) ?_
    refine lv_icmp_ge (tgt := 78) hx hb dX4_append_13 (by decide) (fun c23 => ?_) (fun c23 => ?_)
    · have hk := ifp hk c23
      have hq := ifpe hq c23
      exact b_78 γ _ _ _ (lv_sub hl [0] rfl) hH hS hk hq
    · have hk := ifn hk c23
      have hq := ifne hq c23
      refine lv_aload_n hx hb dX4_append_16 rfl (lv_at hl 0 rfl) ?_
      refine hp_get (v := .ref (kA κ 11 0)) (C := RX4) (T := TX4) (N := 7) hC inX4 hH lv_4 rfl rfl 0 (by decide) tw_96 rfl rfl dX4_append_17 ?_
      refine lv_aload_n hx hb dX4_append_20 rfl (lv_at hl 0 rfl) ?_
      refine hp_get (v := .int (gV γ 4 0 6)) (C := RX4) (T := TX4) (N := 7) hC inX4 hH lv_4 rfl rfl 6 (by decide) tw_102 rfl rfl dX4_append_21 ?_
      refine lv_iload_n hx hb dX4_append_24 rfl (lv_at hl 1 rfl) ?_
      obtain ⟨hi24, hk⟩ := hk
      refine hp_ast hC hH lv_11 (fun _ => rfl) hS hi24 dX4_append_25 (fun H locs hH hS => ?_)
      refine lv_aload_n hx hb dX4_append_26 rfl (lv_at hl 0 rfl) ?_
      refine hp_get (v := .ref (kA κ 12 0)) (C := RX4) (T := TX4) (N := 7) hC inX4 hH lv_4 rfl rfl 1 (by decide) tw_97 rfl rfl dX4_append_27 ?_
      refine lv_aload_n hx hb dX4_append_30 rfl (lv_at hl 0 rfl) ?_
      refine hp_get (v := .int (gV γ 4 0 6)) (C := RX4) (T := TX4) (N := 7) hC inX4 hH lv_4 rfl rfl 6 (by decide) tw_102 rfl (by simp [gV_sV, gV_sL, gV_sR, gL_sV, gL_sL, gL_sR, gR_sV, gR_sL, gR_sR]) dX4_append_31 ?_
      refine lv_iload_n hx hb dX4_append_34 rfl (lv_at hl 2 rfl) ?_
      obtain ⟨hi25, hk⟩ := hk
      refine hp_ast hC hH lv_12 (fun _ => rfl) hS hi25 dX4_append_35 (fun H locs hH hS => ?_)
      refine lv_aload_n hx hb dX4_append_36 rfl (lv_at hl 0 rfl) ?_
      refine hp_get (v := .ref (kA κ 13 0)) (C := RX4) (T := TX4) (N := 7) hC inX4 hH lv_4 rfl rfl 2 (by decide) tw_98 rfl rfl dX4_append_37 ?_
      refine lv_aload_n hx hb dX4_append_40 rfl (lv_at hl 0 rfl) ?_
      refine hp_get (v := .int (gV γ 4 0 6)) (C := RX4) (T := TX4) (N := 7) hC inX4 hH lv_4 rfl rfl 6 (by decide) tw_102 rfl (by simp [gV_sV, gV_sL, gV_sR, gL_sV, gL_sL, gL_sR, gR_sV, gR_sL, gR_sR]) dX4_append_41 ?_
      refine lv_iload_n hx hb dX4_append_44 rfl (lv_at hl 3 rfl) ?_
      obtain ⟨hi26, hk⟩ := hk
      refine hp_ast hC hH lv_13 (fun _ => rfl) hS hi26 dX4_append_45 (fun H locs hH hS => ?_)
      refine lv_aload_n hx hb dX4_append_46 rfl (lv_at hl 0 rfl) ?_
      refine hp_get (v := .ref (kA κ 14 0)) (C := RX4) (T := TX4) (N := 7) hC inX4 hH lv_4 rfl rfl 3 (by decide) tw_99 rfl rfl dX4_append_47 ?_
      refine lv_aload_n hx hb dX4_append_50 rfl (lv_at hl 0 rfl) ?_
      refine hp_get (v := .int (gV γ 4 0 6)) (C := RX4) (T := TX4) (N := 7) hC inX4 hH lv_4 rfl rfl 6 (by decide) tw_102 rfl (by simp [gV_sV, gV_sL, gV_sR, gL_sV, gL_sL, gL_sR, gR_sV, gR_sL, gR_sR]) dX4_append_51 ?_
      refine lv_iload hx hb dX4_append_54 (lv_at hl 4 rfl) ?_
      obtain ⟨hi27, hk⟩ := hk
      refine hp_ast hC hH lv_14 (fun _ => rfl) hS hi27 dX4_append_56 (fun H locs hH hS => ?_)
      refine lv_aload_n hx hb dX4_append_57 rfl (lv_at hl 0 rfl) ?_
      refine hp_get (v := .ref (kA κ 15 0)) (C := RX4) (T := TX4) (N := 7) hC inX4 hH lv_4 rfl rfl 4 (by decide) tw_100 rfl rfl dX4_append_58 ?_
      refine lv_aload_n hx hb dX4_append_61 rfl (lv_at hl 0 rfl) ?_
      refine hp_get (v := .int (gV γ 4 0 6)) (C := RX4) (T := TX4) (N := 7) hC inX4 hH lv_4 rfl rfl 6 (by decide) tw_102 rfl (by simp [gV_sV, gV_sL, gV_sR, gL_sV, gL_sL, gL_sR, gR_sV, gR_sL, gR_sR]) dX4_append_62 ?_
      refine lv_iload hx hb dX4_append_65 (lv_at hl 5 rfl) ?_
      obtain ⟨hi28, hk⟩ := hk
      refine hp_ast hC hH lv_15 (fun _ => rfl) hS hi28 dX4_append_67 (fun H locs hH hS => ?_)
      refine lv_aload_n hx hb dX4_append_68 rfl (lv_at hl 0 rfl) ?_
      refine lv_dup hx hb dX4_append_69 rfl ?_
      refine hp_get (v := .int (gV γ 4 0 6)) (C := RX4) (T := TX4) (N := 7) hC inX4 hH lv_4 rfl rfl 6 (by decide) tw_102 rfl (by simp [gV_sV, gV_sL, gV_sR, gL_sV, gL_sL, gL_sR, gR_sV, gR_sL, gR_sR]) dX4_append_70 ?_
      refine lv_iconst (v := 1) hx hb dX4_append_73 (by decide) ?_
      refine lv_iadd hx hb dX4_append_74 ?_
      refine hp_put (v := .int ((gV γ 4 0 6) + 1)) (C := RX4) (T := TX4) (N := 7) hC inX4 tyX4_ok nmX4 hH lv_4 rfl hS rfl 6 (by decide) tw_102 rfl rfl rfl rfl (Nat.le_of_ble_eq_true rfl) (sV (sV (sV (sV (sV (sV γ 11 0 ((gV γ 4 0 6 : Int32).toNatClampNeg) y1) 12 0 ((gV γ 4 0 6 : Int32).toNatClampNeg) y2) 13 0 ((gV γ 4 0 6 : Int32).toNatClampNeg) y3) 14 0 ((gV γ 4 0 6 : Int32).toNatClampNeg) y4) 15 0 ((gV γ 4 0 6 : Int32).toNatClampNeg) y5) 4 0 6 ((gV γ 4 0 6) + 1)) (pe_4_6 _ _ 0 ((gV γ 4 0 6) + 1)) (fun _ _ _ h => cel_sV h) (WT_sV hH.wt) dX4_append_75 (fun H locs hH hS => ?_)
      exact b_78 (sV (sV (sV (sV (sV (sV γ 11 0 ((gV γ 4 0 6 : Int32).toNatClampNeg) y1) 12 0 ((gV γ 4 0 6 : Int32).toNatClampNeg) y2) 13 0 ((gV γ 4 0 6 : Int32).toNatClampNeg) y3) 14 0 ((gV γ 4 0 6 : Int32).toNatClampNeg) y4) 15 0 ((gV γ 4 0 6 : Int32).toNatClampNeg) y5) 4 0 6 ((gV γ 4 0 6) + 1)) _ _ _ (lv_sub hl [0] rfl) hH hS hk hq
set_option maxRecDepth 20000 in
set_option maxHeartbeats 4000000 in
theorem c_X4_addAction (l : Launch) (κ : KP) (γ : St) (y1 : Int32) (y2 : Int32) (y3 : Int32) (hk : ok_X4_addAction y1 y2 y3 γ) : Met l yX4_addAction [Cond.code yX4_addAction cX4_addAction 4 (some .int)] ({ frames := 1, cells := 0, slots := 0, locals := 25 } : Room) (va_Pc [.ref (kA κ 4 0), .int y1, .int y2, .int y3] (GG κ γ)) (QQ κ (((x_X4_addAction y1 y2 y3 γ)).2) (some (.int (((x_X4_addAction y1 y2 y3 γ)).1)))) 0 0 (AA κ) := by
  generalize hq : x_X4_addAction y1 y2 y3 γ = res
  refine Met.ofW (cc := cX4_addAction) (maxL := 4) (ret := (some .int)) (by decide) rfl ?_
  intro p e s m args below meth c s₁ B hml9 hv
  obtain ⟨rfl, hH, hK9, hB9, hX9, hZ9⟩ := hv
  have hC : CX κ cX4_addAction "Phrasehall$Phrase" 4 p l s m ([.ref (kA κ 4 0), .int y1, .int y2, .int y3] : List Value).toArray meth c := ⟨B.exec, B.bytes, findClass_of_methodNamed B.named, fun w hw => tw_use (List.mem_filter.mp hw).2 (State.WarmedH.refl s) (hX9.1 w hw), hK9, hX9, hZ9, hB9, hml9, B.notSynchronized⟩
  obtain ⟨hx, hb, hown, hT, -, -, -, -, hml, -⟩ := id hC
  have hr := B.returns
  have hS : va_S (AA κ) s.heap s.heap [] := va_S.rf
  have hl := lv_entry ([.ref (kA κ 4 0), .int y1, .int y2, .int y3]) (n := 4) (Nat.le_of_ble_eq_true rfl)
  rw [lg_entry_eq]
  generalize (lg_sl ([.ref (kA κ 4 0), .int y1, .int y2, .int y3]) ++ List.replicate (4 - (lg_sl ([.ref (kA κ 4 0), .int y1, .int y2, .int y3])).length) Slot.unset).toArray = ls at hl ⊢
  have hl : lv_has ls 4 [(0, .ref (kA κ 4 0)), (1, .int y1), (2, .int y2), (3, .int y3)] := hl
  refine lv_aload_n hx hb dX4_addAction_0 rfl (lv_at hl 0 rfl) ?_
  refine lv_iload_n hx hb dX4_addAction_1 rfl (lv_at hl 1 rfl) ?_
  refine lv_iload_n hx hb dX4_addAction_2 rfl (lv_at hl 2 rfl) ?_
  refine lv_iload_n hx hb dX4_addAction_3 rfl (lv_at hl 3 rfl) ?_
  refine lv_iconst (v := 0) hx hb dX4_addAction_4 (by decide) ?_
  refine lv_iconst (v := (-1)) hx hb dX4_addAction_5 (by decide) ?_
  obtain ⟨hc3, hk⟩ := hk
  refine k_callV (C := RX4) (T := TX4) (N := 7) (rest := []) hC hl hH hS (c_X4_append l κ γ y1 y2 y3 0 ((-1)) hc3) lv_4 rfl rfl tw_551 tw_553 tw_17 tw_39 tw_554 hd_X4_append ⟨Nat.le_of_ble_eq_true rfl, Nat.le_of_ble_eq_true rfl⟩ rfl rfl rfl rfl (Nat.le_of_ble_eq_true rfl) dX4_addAction_6 ⟨Nat.le_of_ble_eq_true rfl, Nat.le_of_ble_eq_true rfl⟩ rfl (fun H locs hH hS => ?_)
  subst hq
  exact kr_i hC hr hH hS rfl rfl dX4_addAction_9
set_option maxRecDepth 20000 in
set_option maxHeartbeats 4000000 in
theorem c_X4_addContact (l : Launch) (κ : KP) (γ : St) (y1 : Int32) (y2 : Int32) (y3 : Int32) (y4 : Int32) (hk : ok_X4_addContact y1 y2 y3 y4 γ) : Met l yX4_addContact [Cond.code yX4_addContact cX4_addContact 5 (some .int)] ({ frames := 1, cells := 0, slots := 0, locals := 25 } : Room) (va_Pc [.ref (kA κ 4 0), .int y1, .int y2, .int y3, .int y4] (GG κ γ)) (QQ κ (((x_X4_addContact y1 y2 y3 y4 γ)).2) (some (.int (((x_X4_addContact y1 y2 y3 y4 γ)).1)))) 0 0 (AA κ) := by
  generalize hq : x_X4_addContact y1 y2 y3 y4 γ = res
  refine Met.ofW (cc := cX4_addContact) (maxL := 5) (ret := (some .int)) (by decide) rfl ?_
  intro p e s m args below meth c s₁ B hml9 hv
  obtain ⟨rfl, hH, hK9, hB9, hX9, hZ9⟩ := hv
  have hC : CX κ cX4_addContact "Phrasehall$Phrase" 5 p l s m ([.ref (kA κ 4 0), .int y1, .int y2, .int y3, .int y4] : List Value).toArray meth c := ⟨B.exec, B.bytes, findClass_of_methodNamed B.named, fun w hw => tw_use (List.mem_filter.mp hw).2 (State.WarmedH.refl s) (hX9.1 w hw), hK9, hX9, hZ9, hB9, hml9, B.notSynchronized⟩
  obtain ⟨hx, hb, hown, hT, -, -, -, -, hml, -⟩ := id hC
  have hr := B.returns
  have hS : va_S (AA κ) s.heap s.heap [] := va_S.rf
  have hl := lv_entry ([.ref (kA κ 4 0), .int y1, .int y2, .int y3, .int y4]) (n := 5) (Nat.le_of_ble_eq_true rfl)
  rw [lg_entry_eq]
  generalize (lg_sl ([.ref (kA κ 4 0), .int y1, .int y2, .int y3, .int y4]) ++ List.replicate (5 - (lg_sl ([.ref (kA κ 4 0), .int y1, .int y2, .int y3, .int y4])).length) Slot.unset).toArray = ls at hl ⊢
  have hl : lv_has ls 5 [(0, .ref (kA κ 4 0)), (1, .int y1), (2, .int y2), (3, .int y3), (4, .int y4)] := hl
  refine lv_aload_n hx hb dX4_addContact_0 rfl (lv_at hl 0 rfl) ?_
  refine lv_iload_n hx hb dX4_addContact_1 rfl (lv_at hl 1 rfl) ?_
  refine lv_iconst (v := (-1)) hx hb dX4_addContact_2 (by decide) ?_
  refine lv_iload_n hx hb dX4_addContact_3 rfl (lv_at hl 2 rfl) ?_
  refine lv_iload_n hx hb dX4_addContact_4 rfl (lv_at hl 3 rfl) ?_
  refine lv_iload hx hb dX4_addContact_5 (lv_at hl 4 rfl) ?_
  obtain ⟨hc3, hk⟩ := hk
  refine k_callV (C := RX4) (T := TX4) (N := 7) (rest := []) hC hl hH hS (c_X4_append l κ γ y1 ((-1)) y2 y3 y4 hc3) lv_4 rfl rfl tw_551 tw_553 tw_17 tw_39 tw_554 hd_X4_append ⟨Nat.le_of_ble_eq_true rfl, Nat.le_of_ble_eq_true rfl⟩ rfl rfl rfl rfl (Nat.le_of_ble_eq_true rfl) dX4_addContact_7 ⟨Nat.le_of_ble_eq_true rfl, Nat.le_of_ble_eq_true rfl⟩ rfl (fun H locs hH hS => ?_)
  subst hq
  exact kr_i hC hr hH hS rfl rfl dX4_addContact_10
set_option maxRecDepth 20000 in
set_option maxHeartbeats 4000000 in
theorem c_X4_targetAt (l : Launch) (κ : KP) (γ : St) (y1 : Int32) (hk : ok_X4_targetAt y1 γ) : Met l yX4_targetAt [Cond.code yX4_targetAt cX4_targetAt 2 (some .int)] ({ frames := 1, cells := 0, slots := 0, locals := 21 } : Room) (va_Pc [.ref (kA κ 4 0), .int y1] (GG κ γ)) (QQ κ γ (some (.int ((x_X4_targetAt y1 γ))))) 0 0 (AA κ) := by
  generalize hq : x_X4_targetAt y1 γ = res
  refine Met.ofW (cc := cX4_targetAt) (maxL := 2) (ret := (some .int)) (by decide) rfl ?_
  intro p e s m args below meth c s₁ B hml9 hv
  obtain ⟨rfl, hH, hK9, hB9, hX9, hZ9⟩ := hv
  have hC : CX κ cX4_targetAt "Phrasehall$Phrase" 2 p l s m ([.ref (kA κ 4 0), .int y1] : List Value).toArray meth c := ⟨B.exec, B.bytes, findClass_of_methodNamed B.named, fun w hw => tw_use (List.mem_filter.mp hw).2 (State.WarmedH.refl s) (hX9.1 w hw), hK9, hX9, hZ9, hB9, hml9, B.notSynchronized⟩
  obtain ⟨hx, hb, hown, hT, -, -, -, -, hml, -⟩ := id hC
  have hr := B.returns
  have hS : va_S (AA κ) s.heap s.heap [] := va_S.rf
  have hl := lv_entry ([.ref (kA κ 4 0), .int y1]) (n := 2) (Nat.le_of_ble_eq_true rfl)
  rw [lg_entry_eq]
  generalize (lg_sl ([.ref (kA κ 4 0), .int y1]) ++ List.replicate (2 - (lg_sl ([.ref (kA κ 4 0), .int y1])).length) Slot.unset).toArray = ls at hl ⊢
  have hl : lv_has ls 2 [(0, .ref (kA κ 4 0)), (1, .int y1)] := hl
  refine lv_aload_n hx hb dX4_targetAt_0 rfl (lv_at hl 0 rfl) ?_
  refine lv_iload_n hx hb dX4_targetAt_1 rfl (lv_at hl 1 rfl) ?_
  refine k_callV (C := RX4) (T := TX4) (N := 7) (rest := []) hC hl hH hS (c_X4_isEntry l κ γ y1) lv_4 rfl rfl tw_538 tw_540 tw_16 tw_39 tw_541 hd_X4_isEntry ⟨Nat.le_of_ble_eq_true rfl, Nat.le_of_ble_eq_true rfl⟩ rfl rfl rfl rfl (Nat.le_of_ble_eq_true rfl) dX4_targetAt_2 ⟨Nat.le_of_ble_eq_true rfl, Nat.le_of_ble_eq_true rfl⟩ rfl (fun H locs hH hS => ?_)
  refine lv_if_eq (tgt := 17) hx hb dX4_targetAt_5 (by decide) (fun c5 => ?_) (fun c5 => ?_)
  · have hk := ifp hk c5
    have hq := ifpe hq c5
    refine lv_iconst (v := (-1)) hx hb dX4_targetAt_17 (by decide) ?_
    subst hq
    exact kr_i hC hr hH hS rfl rfl dX4_targetAt_18
  · have hk := ifn hk c5
    have hq := ifne hq c5
    refine lv_aload_n hx hb dX4_targetAt_8 rfl (lv_at hl 0 rfl) ?_
    refine hp_get (v := .ref (kA κ 15 0)) (C := RX4) (T := TX4) (N := 7) hC inX4 hH lv_4 rfl rfl 4 (by decide) tw_100 rfl rfl dX4_targetAt_9 ?_
    refine lv_iload_n hx hb dX4_targetAt_12 rfl (lv_at hl 1 rfl) ?_
    obtain ⟨hi6, hk⟩ := hk
    refine hp_ald (v := gV γ 15 0 ((y1 : Int32).toNatClampNeg)) hC hH lv_15 rfl hi6 rfl dX4_targetAt_13 ?_
    refine lv_goto (tgt := 18) hx hb dX4_targetAt_14 (by decide) ?_
    subst hq
    exact kr_i hC hr hH hS rfl rfl dX4_targetAt_18
set_option maxRecDepth 20000 in
set_option maxHeartbeats 4000000 in
theorem c_X4_leastSpan (l : Launch) (κ : KP) (γ : St) (y0 : Int32)  : Met l yX4_leastSpan [Cond.code yX4_leastSpan cX4_leastSpan 1 (some .int)] ({ frames := 0, cells := 0, slots := 0, locals := 0 } : Room) (va_Pc [.int y0] (GG κ γ)) (QQ κ γ (some (.int ((x_X4_leastSpan y0 γ))))) 0 0 (AA κ) := by
  generalize hq : x_X4_leastSpan y0 γ = res
  refine Met.ofW (cc := cX4_leastSpan) (maxL := 1) (ret := (some .int)) (by decide) rfl ?_
  intro p e s m args below meth c s₁ B hml9 hv
  obtain ⟨rfl, hH, hK9, hB9, hX9, hZ9⟩ := hv
  have hC : CX κ cX4_leastSpan "Phrasehall$Phrase" 1 p l s m ([.int y0] : List Value).toArray meth c := ⟨B.exec, B.bytes, findClass_of_methodNamed B.named, fun w hw => tw_use (List.mem_filter.mp hw).2 (State.WarmedH.refl s) (hX9.1 w hw), hK9, hX9, hZ9, hB9, hml9, B.notSynchronized⟩
  obtain ⟨hx, hb, hown, hT, -, -, -, -, hml, -⟩ := id hC
  have hr := B.returns
  have hS : va_S (AA κ) s.heap s.heap [] := va_S.rf
  have hl := lv_entry ([.int y0]) (n := 1) (Nat.le_of_ble_eq_true rfl)
  rw [lg_entry_eq]
  generalize (lg_sl ([.int y0]) ++ List.replicate (1 - (lg_sl ([.int y0])).length) Slot.unset).toArray = ls at hl ⊢
  have hl : lv_has ls 1 [(0, .int y0)] := hl
  refine lv_iload_n hx hb dX4_leastSpan_0 rfl (lv_at hl 0 rfl) ?_
  refine lv_if_ne (tgt := 9) hx hb dX4_leastSpan_1 (by decide) (fun c5 => ?_) (fun c5 => ?_)
  · have hq := ifne hq c5
    refine lv_iload_n hx hb dX4_leastSpan_9 rfl (lv_at hl 0 rfl) ?_
    refine lv_iconst (v := 1) hx hb dX4_leastSpan_10 (by decide) ?_
    refine lv_icmp_ne (tgt := 18) hx hb dX4_leastSpan_11 (by decide) (fun c6 => ?_) (fun c6 => ?_)
    · have hq := ifne hq c6
      refine lv_iconst (v := 1) hx hb dX4_leastSpan_18 (by decide) ?_
      subst hq
      exact kr_i hC hr hH hS rfl rfl dX4_leastSpan_19
    · have hq := ifpe hq c6
      refine lv_iconst (v := 2) hx hb dX4_leastSpan_14 (by decide) ?_
      refine lv_goto (tgt := 19) hx hb dX4_leastSpan_15 (by decide) ?_
      subst hq
      exact kr_i hC hr hH hS rfl rfl dX4_leastSpan_19
  · have hq := ifpe hq c5
    refine lv_bipush (v := 14) hx hb dX4_leastSpan_4 (by decide) ?_
    refine lv_goto (tgt := 19) hx hb dX4_leastSpan_6 (by decide) ?_
    subst hq
    exact kr_i hC hr hH hS rfl rfl dX4_leastSpan_19
set_option maxRecDepth 20000 in
set_option maxHeartbeats 4000000 in
theorem c_X4_couldRegister (l : Launch) (κ : KP) (γ : St) (y1 : Int32) (y2 : Int32) (hk : ok_X4_couldRegister y1 y2 γ) : Met l yX4_couldRegister [Cond.code yX4_couldRegister cX4_couldRegister 3 (some .boolean)] ({ frames := 1, cells := 0, slots := 0, locals := 21 } : Room) (va_Pc [.ref (kA κ 4 0), .int y1, .int y2] (GG κ γ)) (QQ κ γ (some (.int ((x_X4_couldRegister y1 y2 γ))))) 0 0 (AA κ) := by
  generalize hq : x_X4_couldRegister y1 y2 γ = res
  refine Met.ofW (cc := cX4_couldRegister) (maxL := 3) (ret := (some .boolean)) (by decide) rfl ?_
  intro p e s m args below meth c s₁ B hml9 hv
  obtain ⟨rfl, hH, hK9, hB9, hX9, hZ9⟩ := hv
  have hC : CX κ cX4_couldRegister "Phrasehall$Phrase" 3 p l s m ([.ref (kA κ 4 0), .int y1, .int y2] : List Value).toArray meth c := ⟨B.exec, B.bytes, findClass_of_methodNamed B.named, fun w hw => tw_use (List.mem_filter.mp hw).2 (State.WarmedH.refl s) (hX9.1 w hw), hK9, hX9, hZ9, hB9, hml9, B.notSynchronized⟩
  obtain ⟨hx, hb, hown, hT, -, -, -, -, hml, -⟩ := id hC
  have hr := B.returns
  have hS : va_S (AA κ) s.heap s.heap [] := va_S.rf
  have hl := lv_entry ([.ref (kA κ 4 0), .int y1, .int y2]) (n := 3) (Nat.le_of_ble_eq_true rfl)
  rw [lg_entry_eq]
  generalize (lg_sl ([.ref (kA κ 4 0), .int y1, .int y2]) ++ List.replicate (3 - (lg_sl ([.ref (kA κ 4 0), .int y1, .int y2])).length) Slot.unset).toArray = ls at hl ⊢
  have hl : lv_has ls 3 [(0, .ref (kA κ 4 0)), (1, .int y1), (2, .int y2)] := hl
  have b_31 : ∀ (H : Heap) (locs : List Loc) (ls : Array Slot), lv_has ls 3 [] → HR κ γ H → va_S (AA κ) s.heap H locs → ok_X4_couldRegister_31 γ → x_X4_couldRegister_31 γ = res → W p l e (headSpec [Cond.code yX4_couldRegister cX4_couldRegister 3 (some .boolean)] ({ frames := 1, cells := 0, slots := 0, locals := 21 } : Room)).room s m ([.ref (kA κ 4 0), .int y1, .int y2] : List Value).toArray below meth c H locs 0 0 (MQ below (QQ κ γ (some (.int res))) ([.ref (kA κ 4 0), .int y1, .int y2] : List Value).toArray s 0 0 (AA κ)) (F0 m 31 ls []) := by
    intro  H locs ls hl hH hS hk hq
    refine lv_iconst (v := 0) hx hb dX4_couldRegister_31 (by decide) ?_
    subst hq
    exact kr_z hC hr rfl hH hS rfl rfl dX4_couldRegister_32
  have b_56 : ∀ (H : Heap) (locs : List Loc) (ls : Array Slot), lv_has ls 3 [] → HR κ γ H → va_S (AA κ) s.heap H locs → ok_X4_couldRegister_56 γ → x_X4_couldRegister_56 γ = res → W p l e (headSpec [Cond.code yX4_couldRegister cX4_couldRegister 3 (some .boolean)] ({ frames := 1, cells := 0, slots := 0, locals := 21 } : Room)).room s m ([.ref (kA κ 4 0), .int y1, .int y2] : List Value).toArray below meth c H locs 0 0 (MQ below (QQ κ γ (some (.int res))) ([.ref (kA κ 4 0), .int y1, .int y2] : List Value).toArray s 0 0 (AA κ)) (F0 m 56 ls []) := by
    intro  H locs ls hl hH hS hk hq
    refine lv_iconst (v := 1) hx hb dX4_couldRegister_56 (by decide) ?_
    refine lv_goto (tgt := 61) hx hb dX4_couldRegister_57 (by decide) ?_
    subst hq
    exact kr_z hC hr rfl hH hS rfl rfl dX4_couldRegister_61
  have b_60 : ∀ (H : Heap) (locs : List Loc) (ls : Array Slot), lv_has ls 3 [] → HR κ γ H → va_S (AA κ) s.heap H locs → ok_X4_couldRegister_60 γ → x_X4_couldRegister_60 γ = res → W p l e (headSpec [Cond.code yX4_couldRegister cX4_couldRegister 3 (some .boolean)] ({ frames := 1, cells := 0, slots := 0, locals := 21 } : Room)).room s m ([.ref (kA κ 4 0), .int y1, .int y2] : List Value).toArray below meth c H locs 0 0 (MQ below (QQ κ γ (some (.int res))) ([.ref (kA κ 4 0), .int y1, .int y2] : List Value).toArray s 0 0 (AA κ)) (F0 m 60 ls []) := by
    intro  H locs ls hl hH hS hk hq
    refine lv_iconst (v := 0) hx hb dX4_couldRegister_60 (by decide) ?_
    subst hq
    exact kr_z hC hr rfl hH hS rfl rfl dX4_couldRegister_61
  refine lv_aload_n hx hb dX4_couldRegister_0 rfl (lv_at hl 0 rfl) ?_
  refine lv_iload_n hx hb dX4_couldRegister_1 rfl (lv_at hl 1 rfl) ?_
  refine k_callV (C := RX4) (T := TX4) (N := 7) (rest := []) hC hl hH hS (c_X4_isEntry l κ γ y1) lv_4 rfl rfl tw_538 tw_540 tw_16 tw_39 tw_541 hd_X4_isEntry ⟨Nat.le_of_ble_eq_true rfl, Nat.le_of_ble_eq_true rfl⟩ rfl rfl rfl rfl (Nat.le_of_ble_eq_true rfl) dX4_couldRegister_2 ⟨Nat.le_of_ble_eq_true rfl, Nat.le_of_ble_eq_true rfl⟩ rfl (fun H locs hH hS => ?_)
  refine lv_if_eq (tgt := 31) hx hb dX4_couldRegister_5 (by decide) (fun c31 => ?_) (fun c31 => ?_)
  · have hk := ifp hk c31
    have hq := ifpe hq c31
    exact b_31 _ _ _ (lv_sub hl [] rfl) hH hS hk hq
  · have hk := ifn hk c31
    have hq := ifne hq c31
    refine lv_aload_n hx hb dX4_couldRegister_8 rfl (lv_at hl 0 rfl) ?_
    refine hp_get (v := .ref (kA κ 12 0)) (C := RX4) (T := TX4) (N := 7) hC inX4 hH lv_4 rfl rfl 1 (by decide) tw_97 rfl rfl dX4_couldRegister_9 ?_
    refine lv_iload_n hx hb dX4_couldRegister_12 rfl (lv_at hl 1 rfl) ?_
    obtain ⟨hi32, hk⟩ := hk
    refine hp_ald (v := gV γ 12 0 ((y1 : Int32).toNatClampNeg)) hC hH lv_12 rfl hi32 rfl dX4_couldRegister_13 ?_
    refine lv_iconst (v := (-1)) hx hb dX4_couldRegister_14 (by decide) ?_
    refine lv_icmp_ne (tgt := 31) hx hb dX4_couldRegister_15 (by decide) (fun c33 => ?_) (fun c33 => ?_)
    · have hk := ifn hk c33
      have hq := ifne hq c33
      exact b_31 _ _ _ (lv_sub hl [] rfl) hH hS hk hq
    · have hk := ifp hk c33
      have hq := ifpe hq c33
      refine lv_aload_n hx hb dX4_couldRegister_18 rfl (lv_at hl 0 rfl) ?_
      refine hp_get (v := .ref (kA κ 14 0)) (C := RX4) (T := TX4) (N := 7) hC inX4 hH lv_4 rfl rfl 3 (by decide) tw_99 rfl rfl dX4_couldRegister_19 ?_
      refine lv_iload_n hx hb dX4_couldRegister_22 rfl (lv_at hl 1 rfl) ?_
      obtain ⟨hi34, hk⟩ := hk
      refine hp_ald (v := gV γ 14 0 ((y1 : Int32).toNatClampNeg)) hC hH lv_14 rfl hi34 rfl dX4_couldRegister_23 ?_
      refine lv_iload_n hx hb dX4_couldRegister_24 rfl (lv_at hl 2 rfl) ?_
      refine k_callS (rest := [.int (gV γ 14 0 ((y1 : Int32).toNatClampNeg))]) hC hl hH hS (c_X4_leastSpan l κ γ y2) tw_590 tw_591 tw_39 tw_592 hd_X4_leastSpan ⟨Nat.le_of_ble_eq_true rfl, Nat.le_of_ble_eq_true rfl⟩ rfl rfl rfl rfl (Nat.le_of_ble_eq_true rfl) dX4_couldRegister_25 ⟨Nat.le_of_ble_eq_true rfl, Nat.le_of_ble_eq_true rfl⟩ rfl (fun H locs hH hS => ?_)
      refine lv_icmp_ge (tgt := 33) hx hb dX4_couldRegister_28 (by decide) (fun c35 => ?_) (fun c35 => ?_)
      · have hk := ifp hk c35
        have hq := ifpe hq c35
        refine lv_aload_n hx hb dX4_couldRegister_33 rfl (lv_at hl 0 rfl) ?_
        refine hp_get (v := .ref (kA κ 15 0)) (C := RX4) (T := TX4) (N := 7) hC inX4 hH lv_4 rfl rfl 4 (by decide) tw_100 rfl rfl dX4_couldRegister_34 ?_
        refine lv_iload_n hx hb dX4_couldRegister_37 rfl (lv_at hl 1 rfl) ?_
        obtain ⟨hi36, hk⟩ := hk
        refine hp_ald (v := gV γ 15 0 ((y1 : Int32).toNatClampNeg)) hC hH lv_15 rfl hi36 rfl dX4_couldRegister_38 ?_
        refine lv_if_eq (tgt := 56) hx hb dX4_couldRegister_39 (by decide) (fun c37 => ?_) (fun c37 => ?_)
        · have hk := ifp hk c37
          have hq := ifpe hq c37
          exact b_56 _ _ _ (lv_sub hl [] rfl) hH hS hk hq
        · have hk := ifn hk c37
          have hq := ifne hq c37
          refine lv_iload_n hx hb dX4_couldRegister_42 rfl (lv_at hl 2 rfl) ?_
          refine lv_if_ne (tgt := 60) hx hb dX4_couldRegister_43 (by decide) (fun c38 => ?_) (fun c38 => ?_)
          · have hk := ifn hk c38
            have hq := ifne hq c38
            exact b_60 _ _ _ (lv_sub hl [] rfl) hH hS hk hq
          · have hk := ifp hk c38
            have hq := ifpe hq c38
            refine lv_aload_n hx hb dX4_couldRegister_46 rfl (lv_at hl 0 rfl) ?_
            refine hp_get (v := .ref (kA κ 15 0)) (C := RX4) (T := TX4) (N := 7) hC inX4 hH lv_4 rfl rfl 4 (by decide) tw_100 rfl rfl dX4_couldRegister_47 ?_
            refine lv_iload_n hx hb dX4_couldRegister_50 rfl (lv_at hl 1 rfl) ?_
            obtain ⟨hi39, hk⟩ := hk
            refine hp_ald (v := gV γ 15 0 ((y1 : Int32).toNatClampNeg)) hC hH lv_15 rfl hi39 rfl dX4_couldRegister_51 ?_
            refine lv_iconst (v := 1) hx hb dX4_couldRegister_52 (by decide) ?_
            refine lv_icmp_ne (tgt := 60) hx hb dX4_couldRegister_53 (by decide) (fun c40 => ?_) (fun c40 => ?_)
            · have hk := ifn hk c40
              have hq := ifne hq c40
              exact b_60 _ _ _ (lv_sub hl [] rfl) hH hS hk hq
            · have hk := ifp hk c40
              have hq := ifpe hq c40
              exact b_56 _ _ _ (lv_sub hl [] rfl) hH hS hk hq
      · have hk := ifn hk c35
        have hq := ifne hq c35
        exact b_31 _ _ _ (lv_sub hl [] rfl) hH hS hk hq
set_option maxRecDepth 20000 in
set_option maxHeartbeats 4000000 in
theorem c_X4_lockout (l : Launch) (κ : KP) (γ : St) (y0 : Int32)  : Met l yX4_lockout [Cond.code yX4_lockout cX4_lockout 1 (some .int)] ({ frames := 0, cells := 0, slots := 0, locals := 0 } : Room) (va_Pc [.int y0] (GG κ γ)) (QQ κ γ (some (.int ((x_X4_lockout y0 γ))))) 0 0 (AA κ) := by
  generalize hq : x_X4_lockout y0 γ = res
  refine Met.ofW (cc := cX4_lockout) (maxL := 1) (ret := (some .int)) (by decide) rfl ?_
  intro p e s m args below meth c s₁ B hml9 hv
  obtain ⟨rfl, hH, hK9, hB9, hX9, hZ9⟩ := hv
  have hC : CX κ cX4_lockout "Phrasehall$Phrase" 1 p l s m ([.int y0] : List Value).toArray meth c := ⟨B.exec, B.bytes, findClass_of_methodNamed B.named, fun w hw => tw_use (List.mem_filter.mp hw).2 (State.WarmedH.refl s) (hX9.1 w hw), hK9, hX9, hZ9, hB9, hml9, B.notSynchronized⟩
  obtain ⟨hx, hb, hown, hT, -, -, -, -, hml, -⟩ := id hC
  have hr := B.returns
  have hS : va_S (AA κ) s.heap s.heap [] := va_S.rf
  have hl := lv_entry ([.int y0]) (n := 1) (Nat.le_of_ble_eq_true rfl)
  rw [lg_entry_eq]
  generalize (lg_sl ([.int y0]) ++ List.replicate (1 - (lg_sl ([.int y0])).length) Slot.unset).toArray = ls at hl ⊢
  have hl : lv_has ls 1 [(0, .int y0)] := hl
  refine lv_iload_n hx hb dX4_lockout_0 rfl (lv_at hl 0 rfl) ?_
  refine lv_if_ne (tgt := 10) hx hb dX4_lockout_1 (by decide) (fun c5 => ?_) (fun c5 => ?_)
  · have hq := ifne hq c5
    refine lv_iload_n hx hb dX4_lockout_10 rfl (lv_at hl 0 rfl) ?_
    refine lv_iconst (v := 1) hx hb dX4_lockout_11 (by decide) ?_
    refine lv_icmp_ne (tgt := 20) hx hb dX4_lockout_12 (by decide) (fun c6 => ?_) (fun c6 => ?_)
    · have hq := ifne hq c6
      refine lv_sipush (v := 170) hx hb dX4_lockout_20 (by decide) ?_
      subst hq
      exact kr_i hC hr hH hS rfl rfl dX4_lockout_23
    · have hq := ifpe hq c6
      refine lv_bipush (v := 45) hx hb dX4_lockout_15 (by decide) ?_
      refine lv_goto (tgt := 23) hx hb dX4_lockout_17 (by decide) ?_
      subst hq
      exact kr_i hC hr hH hS rfl rfl dX4_lockout_23
  · have hq := ifpe hq c5
    refine lv_sipush (v := 300) hx hb dX4_lockout_4 (by decide) ?_
    refine lv_goto (tgt := 23) hx hb dX4_lockout_7 (by decide) ?_
    subst hq
    exact kr_i hC hr hH hS rfl rfl dX4_lockout_23
set_option maxRecDepth 20000 in
set_option maxHeartbeats 4000000 in
theorem c_X4_registered (l : Launch) (κ : KP) (γ : St) (y1 : Int32) (y2 : Int32) (hk : ok_X4_registered y1 y2 γ) : Met l yX4_registered [Cond.code yX4_registered cX4_registered 5 (some .int)] ({ frames := 2, cells := 0, slots := 0, locals := 43 } : Room) (va_Pc [.ref (kA κ 4 0), .int y1, .int y2] (GG κ γ)) (QQ κ γ (some (.int ((x_X4_registered y1 y2 γ))))) 0 0 (AA κ) := by
  generalize hq : x_X4_registered y1 y2 γ = res
  refine Met.ofW (cc := cX4_registered) (maxL := 5) (ret := (some .int)) (by decide) rfl ?_
  intro p e s m args below meth c s₁ B hml9 hv
  obtain ⟨rfl, hH, hK9, hB9, hX9, hZ9⟩ := hv
  have hC : CX κ cX4_registered "Phrasehall$Phrase" 5 p l s m ([.ref (kA κ 4 0), .int y1, .int y2] : List Value).toArray meth c := ⟨B.exec, B.bytes, findClass_of_methodNamed B.named, fun w hw => tw_use (List.mem_filter.mp hw).2 (State.WarmedH.refl s) (hX9.1 w hw), hK9, hX9, hZ9, hB9, hml9, B.notSynchronized⟩
  obtain ⟨hx, hb, hown, hT, -, -, -, -, hml, -⟩ := id hC
  have hr := B.returns
  have hS : va_S (AA κ) s.heap s.heap [] := va_S.rf
  have hl := lv_entry ([.ref (kA κ 4 0), .int y1, .int y2]) (n := 5) (Nat.le_of_ble_eq_true rfl)
  rw [lg_entry_eq]
  generalize (lg_sl ([.ref (kA κ 4 0), .int y1, .int y2]) ++ List.replicate (5 - (lg_sl ([.ref (kA κ 4 0), .int y1, .int y2])).length) Slot.unset).toArray = ls at hl ⊢
  have hl : lv_has ls 5 [(0, .ref (kA κ 4 0)), (1, .int y1), (2, .int y2)] := hl
  have b_5 : ∀ (k5 : Nat) (a1 : Int32) (a2 : Int32) (a3 : Int32) (a4 : Int32) (H : Heap) (locs : List Loc) (ls : Array Slot), lv_has ls 5 [(0, .ref (kA κ 4 0)), (1, .int a1), (2, .int a2), (3, .int a3), (4, .int a4)] → HR κ γ H → va_S (AA κ) s.heap H locs → ok_X4_registered_5 k5 a1 a2 a3 a4 γ → x_X4_registered_5 k5 a1 a2 a3 a4 γ = res → W p l e (headSpec [Cond.code yX4_registered cX4_registered 5 (some .int)] ({ frames := 2, cells := 0, slots := 0, locals := 43 } : Room)).room s m ([.ref (kA κ 4 0), .int y1, .int y2] : List Value).toArray below meth c H locs 0 0 (MQ below (QQ κ γ (some (.int res))) ([.ref (kA κ 4 0), .int y1, .int y2] : List Value).toArray s 0 0 (AA κ)) (F0 m 5 ls []) := by
    intro k5
    induction k5 with
    | zero =>
      intro a1 a2 a3 a4 H locs ls hl hH hS hk hq
      exact (show False from hk).elim
    | succ k5 ih_5 =>
      have b_79 : ∀ (a1 : Int32) (a2 : Int32) (a3 : Int32) (a4 : Int32) (H : Heap) (locs : List Loc) (ls : Array Slot), lv_has ls 5 [(0, .ref (kA κ 4 0)), (1, .int a1), (2, .int a2), (3, .int a3), (4, .int a4)] → HR κ γ H → va_S (AA κ) s.heap H locs → ok_X4_registered_79 (ok_X4_registered_5 k5) a1 a2 a3 a4 γ → x_X4_registered_79 (x_X4_registered_5 k5) a1 a2 a3 a4 γ = res → W p l e (headSpec [Cond.code yX4_registered cX4_registered 5 (some .int)] ({ frames := 2, cells := 0, slots := 0, locals := 43 } : Room)).room s m ([.ref (kA κ 4 0), .int y1, .int y2] : List Value).toArray below meth c H locs 0 0 (MQ below (QQ κ γ (some (.int res))) ([.ref (kA κ 4 0), .int y1, .int y2] : List Value).toArray s 0 0 (AA κ)) (F0 m 79 ls []) := by
        intro a1 a2 a3 a4 H locs ls hl hH hS hk hq
        refine lv_iinc (v := a4 + 1) (lv' := [(4, .int (a4 + 1)), (0, .ref (kA κ 4 0)), (1, .int a1), (2, .int a2), (3, .int a3)]) hx hb dX4_registered_79 hl (k := 4) rfl rfl (by decide) rfl (fun ls hl => ?_)
        refine lv_goto (tgt := 5) hx hb dX4_registered_82 (by decide) ?_
        exact ih_5 a1 a2 a3 (a4 + 1) _ _ _ (lv_sub hl [1, 2, 3, 4, 0] rfl) hH hS hk hq
      have b_44 : ∀ (a1 : Int32) (a2 : Int32) (a4 : Int32) (s0 : Int32) (H : Heap) (locs : List Loc) (ls : Array Slot), lv_has ls 5 [(0, .ref (kA κ 4 0)), (1, .int a1), (2, .int a2), (4, .int a4)] → HR κ γ H → va_S (AA κ) s.heap H locs → ok_X4_registered_44 (ok_X4_registered_5 k5) a1 a2 a4 s0 γ → x_X4_registered_44 (x_X4_registered_5 k5) a1 a2 a4 s0 γ = res → W p l e (headSpec [Cond.code yX4_registered cX4_registered 5 (some .int)] ({ frames := 2, cells := 0, slots := 0, locals := 43 } : Room)).room s m ([.ref (kA κ 4 0), .int y1, .int y2] : List Value).toArray below meth c H locs 0 0 (MQ below (QQ κ γ (some (.int res))) ([.ref (kA κ 4 0), .int y1, .int y2] : List Value).toArray s 0 0 (AA κ)) (F0 m 44 ls [.int s0]) := by
        intro a1 a2 a4 s0 H locs ls hl hH hS hk hq
        refine lv_istore_n (lv' := [(3, .int s0), (0, .ref (kA κ 4 0)), (1, .int a1), (2, .int a2), (4, .int a4)]) hx hb dX4_registered_44 rfl hl (by decide) rfl (fun ls hl => ?_)
        refine lv_aload_n hx hb dX4_registered_45 rfl (lv_at hl 1 rfl) ?_
        refine hp_get (v := .ref (kA κ 11 0)) (C := RX4) (T := TX4) (N := 7) hC inX4 hH lv_4 rfl rfl 0 (by decide) tw_96 rfl rfl dX4_registered_46 ?_
        refine lv_iload hx hb dX4_registered_49 (lv_at hl 4 rfl) ?_
        obtain ⟨hi31, hk⟩ := hk
        refine hp_ald (v := gV γ 11 0 ((a4 : Int32).toNatClampNeg)) hC hH lv_11 rfl hi31 rfl dX4_registered_51 ?_
        refine lv_iload_n hx hb dX4_registered_52 rfl (lv_at hl 2 rfl) ?_
        refine lv_icmp_ne (tgt := 79) hx hb dX4_registered_53 (by decide) (fun c32 => ?_) (fun c32 => ?_)
        · have hk := ifn hk c32
          have hq := ifne hq c32
          exact b_79 a1 a2 s0 a4 _ _ _ (lv_sub hl [1, 2, 3, 0, 4] rfl) hH hS hk hq
        · have hk := ifp hk c32
          have hq := ifpe hq c32
          refine lv_aload_n hx hb dX4_registered_56 rfl (lv_at hl 1 rfl) ?_
          refine hp_get (v := .ref (kA κ 13 0)) (C := RX4) (T := TX4) (N := 7) hC inX4 hH lv_4 rfl rfl 2 (by decide) tw_98 rfl rfl dX4_registered_57 ?_
          refine lv_iload hx hb dX4_registered_60 (lv_at hl 4 rfl) ?_
          obtain ⟨hi33, hk⟩ := hk
          refine hp_ald (v := gV γ 13 0 ((a4 : Int32).toNatClampNeg)) hC hH lv_13 rfl hi33 rfl dX4_registered_62 ?_
          refine lv_aload_n hx hb dX4_registered_63 rfl (lv_at hl 1 rfl) ?_
          refine lv_iload_n hx hb dX4_registered_64 rfl (lv_at hl 0 rfl) ?_
          obtain ⟨hc34, hk⟩ := hk
          refine k_callV (C := RX4) (T := TX4) (N := 7) (rest := [.int (gV γ 13 0 ((a4 : Int32).toNatClampNeg))]) hC hl hH hS (c_X4_timeAt l κ γ s0 hc34) lv_4 rfl rfl tw_534 tw_535 tw_536 tw_39 tw_537 hd_X4_timeAt ⟨Nat.le_of_ble_eq_true rfl, Nat.le_of_ble_eq_true rfl⟩ rfl rfl rfl rfl (Nat.le_of_ble_eq_true rfl) dX4_registered_65 ⟨Nat.le_of_ble_eq_true rfl, Nat.le_of_ble_eq_true rfl⟩ rfl (fun H locs hH hS => ?_)
          refine lv_isub hx hb dX4_registered_68 ?_
          refine lv_iload_n hx hb dX4_registered_69 rfl (lv_at hl 3 rfl) ?_
          refine k_callS (rest := [.int ((gV γ 13 0 ((a4 : Int32).toNatClampNeg)) - ((x_X4_timeAt s0 γ)))]) hC hl hH hS (c_X4_lockout l κ γ a2) tw_593 tw_594 tw_39 tw_595 hd_X4_lockout ⟨Nat.le_of_ble_eq_true rfl, Nat.le_of_ble_eq_true rfl⟩ rfl rfl rfl rfl (Nat.le_of_ble_eq_true rfl) dX4_registered_70 ⟨Nat.le_of_ble_eq_true rfl, Nat.le_of_ble_eq_true rfl⟩ rfl (fun H locs hH hS => ?_)
          refine lv_icmp_gt (tgt := 79) hx hb dX4_registered_73 (by decide) (fun c35 => ?_) (fun c35 => ?_)
          · have hk := ifp hk c35
            have hq := ifpe hq c35
            exact b_79 a1 a2 s0 a4 _ _ _ (lv_sub hl [1, 2, 3, 0, 4] rfl) hH hS hk hq
          · have hk := ifn hk c35
            have hq := ifne hq c35
            refine lv_iload hx hb dX4_registered_76 (lv_at hl 4 rfl) ?_
            subst hq
            exact kr_i hC hr hH hS rfl rfl dX4_registered_78
      intro a1 a2 a3 a4 H locs ls hl hH hS hk hq
      refine lv_iload hx hb dX4_registered_5 (lv_at hl 4 rfl) ?_
      refine lv_aload_n hx hb dX4_registered_7 rfl (lv_at hl 0 rfl) ?_
      refine hp_get (v := .int (gV γ 4 0 6)) (C := RX4) (T := TX4) (N := 7) hC inX4 hH lv_4 rfl rfl 6 (by decide) tw_102 rfl rfl dX4_registered_8 ?_
      refine lv_icmp_ge (tgt := 85) hx hb dX4_registered_11 (by decide) (fun c36 => ?_) (fun c36 => ?_)
      · have hk := ifp hk c36
        have hq := ifpe hq c36
        refine lv_iconst (v := (-1)) hx hb dX4_registered_85 (by decide) ?_
        subst hq
        exact kr_i hC hr hH hS rfl rfl dX4_registered_86
      · have hk := ifn hk c36
        have hq := ifne hq c36
        refine lv_aload_n hx hb dX4_registered_14 rfl (lv_at hl 0 rfl) ?_
        refine lv_iload hx hb dX4_registered_15 (lv_at hl 4 rfl) ?_
        refine k_callV (C := RX4) (T := TX4) (N := 7) (rest := []) hC hl hH hS (c_X4_isEntry l κ γ a4) lv_4 rfl rfl tw_538 tw_540 tw_16 tw_39 tw_541 hd_X4_isEntry ⟨Nat.le_of_ble_eq_true rfl, Nat.le_of_ble_eq_true rfl⟩ rfl rfl rfl rfl (Nat.le_of_ble_eq_true rfl) dX4_registered_17 ⟨Nat.le_of_ble_eq_true rfl, Nat.le_of_ble_eq_true rfl⟩ rfl (fun H locs hH hS => ?_)
        refine lv_if_eq (tgt := 79) hx hb dX4_registered_20 (by decide) (fun c37 => ?_) (fun c37 => ?_)
        · have hk := ifp hk c37
          have hq := ifpe hq c37
          exact b_79 a1 a2 a3 a4 _ _ _ (lv_sub hl [0, 1, 2, 3, 4] rfl) hH hS hk hq
        · have hk := ifn hk c37
          have hq := ifne hq c37
          refine lv_aload_n hx hb dX4_registered_23 rfl (lv_at hl 0 rfl) ?_
          refine lv_iload hx hb dX4_registered_24 (lv_at hl 4 rfl) ?_
          refine lv_iload_n hx hb dX4_registered_26 rfl (lv_at hl 2 rfl) ?_
          obtain ⟨hc38, hk⟩ := hk
          refine k_callV (C := RX4) (T := TX4) (N := 7) (rest := []) hC hl hH hS (c_X4_couldRegister l κ γ a4 a2 hc38) lv_4 rfl rfl tw_586 tw_588 tw_20 tw_39 tw_589 hd_X4_couldRegister ⟨Nat.le_of_ble_eq_true rfl, Nat.le_of_ble_eq_true rfl⟩ rfl rfl rfl rfl (Nat.le_of_ble_eq_true rfl) dX4_registered_27 ⟨Nat.le_of_ble_eq_true rfl, Nat.le_of_ble_eq_true rfl⟩ rfl (fun H locs hH hS => ?_)
          refine lv_if_eq (tgt := 79) hx hb dX4_registered_30 (by decide) (fun c39 => ?_) (fun c39 => ?_)
          · have hk := ifp hk c39
            have hq := ifpe hq c39
            exact b_79 a1 a2 a3 a4 _ _ _ (lv_sub hl [0, 1, 2, 3, 4] rfl) hH hS hk hq
          · have hk := ifn hk c39
            have hq := ifne hq c39
            refine lv_iload_n hx hb dX4_registered_33 rfl (lv_at hl 3 rfl) ?_
            refine lv_iconst (v := (-1)) hx hb dX4_registered_34 (by decide) ?_
            refine lv_icmp_ne (tgt := 43) hx hb dX4_registered_35 (by decide) (fun c40 => ?_) (fun c40 => ?_)
            · have hk := ifn hk c40
              have hq := ifne hq c40
              refine lv_iload_n hx hb dX4_registered_43 rfl (lv_at hl 3 rfl) ?_
              exact b_44 a1 a2 a4 a3 _ _ _ (lv_sub hl [0, 1, 2, 4] rfl) hH hS hk hq
            · have hk := ifp hk c40
              have hq := ifpe hq c40
              refine lv_iload hx hb dX4_registered_38 (lv_at hl 4 rfl) ?_
              refine lv_goto (tgt := 44) hx hb dX4_registered_40 (by decide) ?_
              exact b_44 a1 a2 a4 a4 _ _ _ (lv_sub hl [0, 1, 2, 4] rfl) hH hS hk hq
  refine lv_iconst (v := (-1)) hx hb dX4_registered_0 (by decide) ?_
  refine lv_istore_n (lv' := [(3, .int ((-1))), (0, .ref (kA κ 4 0)), (1, .int y1), (2, .int y2)]) hx hb dX4_registered_1 rfl hl (by decide) rfl (fun ls hl => ?_)
  refine lv_iconst (v := 0) hx hb dX4_registered_2 (by decide) ?_
  refine lv_istore (lv' := [(4, .int 0), (3, .int ((-1))), (0, .ref (kA κ 4 0)), (1, .int y1), (2, .int y2)]) hx hb dX4_registered_3 hl (by decide) rfl (fun ls hl => ?_)
  exact b_5 fu y1 y2 ((-1)) 0 _ _ _ (lv_sub hl [2, 3, 4, 1, 0] rfl) hH hS hk hq
set_option maxRecDepth 20000 in
set_option maxHeartbeats 4000000 in
theorem c_X6_forget (l : Launch) (κ : KP) (γ : St)  : Met l yX6_forget [Cond.code yX6_forget cX6_forget 1 none] ({ frames := 0, cells := 0, slots := 0, locals := 0 } : Room) (va_Pc [.ref (kA κ 6 0)] (GG κ γ)) (QQ κ ((x_X6_forget γ)) none) 0 0 (AA κ) := by
  generalize hq : x_X6_forget γ = res
  refine Met.ofW (cc := cX6_forget) (maxL := 1) (ret := none) (by decide) rfl ?_
  intro p e s m args below meth c s₁ B hml9 hv
  obtain ⟨rfl, hH, hK9, hB9, hX9, hZ9⟩ := hv
  have hC : CX κ cX6_forget "Phrasehall$RightOfWay" 1 p l s m ([.ref (kA κ 6 0)] : List Value).toArray meth c := ⟨B.exec, B.bytes, findClass_of_methodNamed B.named, fun w hw => tw_use (List.mem_filter.mp hw).2 (State.WarmedH.refl s) (hX9.1 w hw), hK9, hX9, hZ9, hB9, hml9, B.notSynchronized⟩
  obtain ⟨hx, hb, hown, hT, -, -, -, -, hml, -⟩ := id hC
  have hr := B.returns
  have hS : va_S (AA κ) s.heap s.heap [] := va_S.rf
  have hl := lv_entry ([.ref (kA κ 6 0)]) (n := 1) (Nat.le_of_ble_eq_true rfl)
  rw [lg_entry_eq]
  generalize (lg_sl ([.ref (kA κ 6 0)]) ++ List.replicate (1 - (lg_sl ([.ref (kA κ 6 0)])).length) Slot.unset).toArray = ls at hl ⊢
  have hl : lv_has ls 1 [(0, .ref (kA κ 6 0))] := hl
  refine lv_aload_n hx hb dX6_forget_0 rfl (lv_at hl 0 rfl) ?_
  refine lv_iconst (v := (-1)) hx hb dX6_forget_1 (by decide) ?_
  refine hp_put (v := .int ((-1))) (C := RX6) (T := TX6) (N := 5) hC inX6 tyX6_ok nmX6 hH lv_6 rfl hS rfl 0 (by decide) tw_78 rfl rfl rfl rfl (Nat.le_of_ble_eq_true rfl) (sV γ 6 0 0 ((-1))) (pe_6_0 _ _ 0 ((-1))) (fun _ _ _ h => cel_sV h) (WT_sV hH.wt) dX6_forget_2 (fun H locs hH hS => ?_)
  refine lv_aload_n hx hb dX6_forget_5 rfl (lv_at hl 0 rfl) ?_
  refine lv_iconst (v := (-1)) hx hb dX6_forget_6 (by decide) ?_
  refine hp_put (v := .int ((-1))) (C := RX6) (T := TX6) (N := 5) hC inX6 tyX6_ok nmX6 hH lv_6 rfl hS rfl 3 (by decide) tw_82 rfl rfl rfl rfl (Nat.le_of_ble_eq_true rfl) (sV (sV γ 6 0 0 ((-1))) 6 0 3 ((-1))) (pe_6_3 _ _ 0 ((-1))) (fun _ _ _ h => cel_sV h) (WT_sV hH.wt) dX6_forget_7 (fun H locs hH hS => ?_)
  subst hq
  exact kr_v hC hr hH hS rfl dX6_forget_10
set_option maxRecDepth 20000 in
set_option maxHeartbeats 4000000 in
theorem c_X6_give (l : Launch) (κ : KP) (γ : St) (y1 : Int32) (y2 : Int32) (y3 : Int32)  : Met l yX6_give [Cond.code yX6_give cX6_give 4 none] ({ frames := 0, cells := 0, slots := 0, locals := 0 } : Room) (va_Pc [.ref (kA κ 6 0), .int y1, .int y2, .int y3] (GG κ γ)) (QQ κ ((x_X6_give y1 y2 y3 γ)) none) 0 0 (AA κ) := by
  generalize hq : x_X6_give y1 y2 y3 γ = res
  refine Met.ofW (cc := cX6_give) (maxL := 4) (ret := none) (by decide) rfl ?_
  intro p e s m args below meth c s₁ B hml9 hv
  obtain ⟨rfl, hH, hK9, hB9, hX9, hZ9⟩ := hv
  have hC : CX κ cX6_give "Phrasehall$RightOfWay" 4 p l s m ([.ref (kA κ 6 0), .int y1, .int y2, .int y3] : List Value).toArray meth c := ⟨B.exec, B.bytes, findClass_of_methodNamed B.named, fun w hw => tw_use (List.mem_filter.mp hw).2 (State.WarmedH.refl s) (hX9.1 w hw), hK9, hX9, hZ9, hB9, hml9, B.notSynchronized⟩
  obtain ⟨hx, hb, hown, hT, -, -, -, -, hml, -⟩ := id hC
  have hr := B.returns
  have hS : va_S (AA κ) s.heap s.heap [] := va_S.rf
  have hl := lv_entry ([.ref (kA κ 6 0), .int y1, .int y2, .int y3]) (n := 4) (Nat.le_of_ble_eq_true rfl)
  rw [lg_entry_eq]
  generalize (lg_sl ([.ref (kA κ 6 0), .int y1, .int y2, .int y3]) ++ List.replicate (4 - (lg_sl ([.ref (kA κ 6 0), .int y1, .int y2, .int y3])).length) Slot.unset).toArray = ls at hl ⊢
  have hl : lv_has ls 4 [(0, .ref (kA κ 6 0)), (1, .int y1), (2, .int y2), (3, .int y3)] := hl
  refine lv_aload_n hx hb dX6_give_0 rfl (lv_at hl 0 rfl) ?_
  refine lv_iload_n hx hb dX6_give_1 rfl (lv_at hl 1 rfl) ?_
  refine hp_put (v := .int y1) (C := RX6) (T := TX6) (N := 5) hC inX6 tyX6_ok nmX6 hH lv_6 rfl hS rfl 0 (by decide) tw_78 rfl rfl rfl rfl (Nat.le_of_ble_eq_true rfl) (sV γ 6 0 0 y1) (pe_6_0 _ _ 0 y1) (fun _ _ _ h => cel_sV h) (WT_sV hH.wt) dX6_give_2 (fun H locs hH hS => ?_)
  refine lv_aload_n hx hb dX6_give_5 rfl (lv_at hl 0 rfl) ?_
  refine lv_iload_n hx hb dX6_give_6 rfl (lv_at hl 2 rfl) ?_
  refine hp_put (v := .int y2) (C := RX6) (T := TX6) (N := 5) hC inX6 tyX6_ok nmX6 hH lv_6 rfl hS rfl 1 (by decide) tw_80 rfl rfl rfl rfl (Nat.le_of_ble_eq_true rfl) (sV (sV γ 6 0 0 y1) 6 0 1 y2) (pe_6_1 _ _ 0 y2) (fun _ _ _ h => cel_sV h) (WT_sV hH.wt) dX6_give_7 (fun H locs hH hS => ?_)
  refine lv_aload_n hx hb dX6_give_10 rfl (lv_at hl 0 rfl) ?_
  refine lv_iload_n hx hb dX6_give_11 rfl (lv_at hl 3 rfl) ?_
  refine hp_put (v := .int y3) (C := RX6) (T := TX6) (N := 5) hC inX6 tyX6_ok nmX6 hH lv_6 rfl hS rfl 2 (by decide) tw_81 rfl rfl rfl rfl (Nat.le_of_ble_eq_true rfl) (sV (sV (sV γ 6 0 0 y1) 6 0 1 y2) 6 0 2 y3) (pe_6_2 _ _ 0 y3) (fun _ _ _ h => cel_sV h) (WT_sV hH.wt) dX6_give_12 (fun H locs hH hS => ?_)
  subst hq
  exact kr_v hC hr hH hS rfl dX6_give_15
set_option maxRecDepth 20000 in
set_option maxHeartbeats 4000000 in
theorem c_X6_attack (l : Launch) (κ : KP) (γ : St) (y1 : Int32) (y2 : Int32)  : Met l yX6_attack [Cond.code yX6_attack cX6_attack 3 none] ({ frames := 1, cells := 0, slots := 0, locals := 23 } : Room) (va_Pc [.ref (kA κ 6 0), .int y1, .int y2] (GG κ γ)) (QQ κ ((x_X6_attack y1 y2 γ)) none) 0 0 (AA κ) := by
  generalize hq : x_X6_attack y1 y2 γ = res
  refine Met.ofW (cc := cX6_attack) (maxL := 3) (ret := none) (by decide) rfl ?_
  intro p e s m args below meth c s₁ B hml9 hv
  obtain ⟨rfl, hH, hK9, hB9, hX9, hZ9⟩ := hv
  have hC : CX κ cX6_attack "Phrasehall$RightOfWay" 3 p l s m ([.ref (kA κ 6 0), .int y1, .int y2] : List Value).toArray meth c := ⟨B.exec, B.bytes, findClass_of_methodNamed B.named, fun w hw => tw_use (List.mem_filter.mp hw).2 (State.WarmedH.refl s) (hX9.1 w hw), hK9, hX9, hZ9, hB9, hml9, B.notSynchronized⟩
  obtain ⟨hx, hb, hown, hT, -, -, -, -, hml, -⟩ := id hC
  have hr := B.returns
  have hS : va_S (AA κ) s.heap s.heap [] := va_S.rf
  have hl := lv_entry ([.ref (kA κ 6 0), .int y1, .int y2]) (n := 3) (Nat.le_of_ble_eq_true rfl)
  rw [lg_entry_eq]
  generalize (lg_sl ([.ref (kA κ 6 0), .int y1, .int y2]) ++ List.replicate (3 - (lg_sl ([.ref (kA κ 6 0), .int y1, .int y2])).length) Slot.unset).toArray = ls at hl ⊢
  have hl : lv_has ls 3 [(0, .ref (kA κ 6 0)), (1, .int y1), (2, .int y2)] := hl
  have b_17 : ∀ (γ : St) (H : Heap) (locs : List Loc) (ls : Array Slot), lv_has ls 3 [] → HR κ γ H → va_S (AA κ) s.heap H locs → x_X6_attack_17 γ = res → W p l e (headSpec [Cond.code yX6_attack cX6_attack 3 none] ({ frames := 1, cells := 0, slots := 0, locals := 23 } : Room)).room s m ([.ref (kA κ 6 0), .int y1, .int y2] : List Value).toArray below meth c H locs 0 0 (MQ below (QQ κ res none) ([.ref (kA κ 6 0), .int y1, .int y2] : List Value).toArray s 0 0 (AA κ)) (F0 m 17 ls []) := by
    intro  γ H locs ls hl hH hS hq
    refine lv_goto (tgt := 43) hx hb dX6_attack_17 (by decide) ?_
    subst hq
    exact kr_v hC hr hH hS rfl dX6_attack_43
  refine lv_aload_n hx hb dX6_attack_0 rfl (lv_at hl 0 rfl) ?_
  refine hp_get (v := .int (gV γ 6 0 0)) (C := RX6) (T := TX6) (N := 5) hC inX6 hH lv_6 rfl rfl 0 (by decide) tw_78 rfl rfl dX6_attack_1 ?_
  refine lv_iconst (v := 1) hx hb dX6_attack_4 (by decide) ?_
  refine lv_iload_n hx hb dX6_attack_5 rfl (lv_at hl 1 rfl) ?_
  refine lv_isub hx hb dX6_attack_6 ?_
  refine lv_icmp_eq (tgt := 20) hx hb dX6_attack_7 (by decide) (fun c10 => ?_) (fun c10 => ?_)
  · have hq := ifpe hq c10
    refine lv_aload_n hx hb dX6_attack_20 rfl (lv_at hl 0 rfl) ?_
    refine hp_get (v := .int (gV γ 6 0 1)) (C := RX6) (T := TX6) (N := 5) hC inX6 hH lv_6 rfl rfl 1 (by decide) tw_80 rfl rfl dX6_attack_21 ?_
    refine lv_if_ne (tgt := 43) hx hb dX6_attack_24 (by decide) (fun c11 => ?_) (fun c11 => ?_)
    · have hq := ifne hq c11
      subst hq
      exact kr_v hC hr hH hS rfl dX6_attack_43
    · have hq := ifpe hq c11
      refine lv_iload_n hx hb dX6_attack_27 rfl (lv_at hl 2 rfl) ?_
      refine lv_aload_n hx hb dX6_attack_28 rfl (lv_at hl 0 rfl) ?_
      refine hp_get (v := .int (gV γ 6 0 2)) (C := RX6) (T := TX6) (N := 5) hC inX6 hH lv_6 rfl rfl 2 (by decide) tw_81 rfl rfl dX6_attack_29 ?_
      refine lv_isub hx hb dX6_attack_32 ?_
      refine lv_bipush (v := 40) hx hb dX6_attack_33 (by decide) ?_
      refine lv_icmp_gt (tgt := 43) hx hb dX6_attack_35 (by decide) (fun c12 => ?_) (fun c12 => ?_)
      · have hq := ifpe hq c12
        subst hq
        exact kr_v hC hr hH hS rfl dX6_attack_43
      · have hq := ifne hq c12
        refine lv_aload_n hx hb dX6_attack_38 rfl (lv_at hl 0 rfl) ?_
        refine lv_iconst (v := (-1)) hx hb dX6_attack_39 (by decide) ?_
        refine hp_put (v := .int ((-1))) (C := RX6) (T := TX6) (N := 5) hC inX6 tyX6_ok nmX6 hH lv_6 rfl hS rfl 0 (by decide) tw_78 rfl rfl rfl rfl (Nat.le_of_ble_eq_true rfl) (sV γ 6 0 0 ((-1))) (pe_6_0 _ _ 0 ((-1))) (fun _ _ _ h => cel_sV h) (WT_sV hH.wt) dX6_attack_40 (fun H locs hH hS => ?_)
        subst hq
        exact kr_v hC hr hH hS rfl dX6_attack_43
  · have hq := ifne hq c10
    refine lv_aload_n hx hb dX6_attack_10 rfl (lv_at hl 0 rfl) ?_
    refine lv_iload_n hx hb dX6_attack_11 rfl (lv_at hl 1 rfl) ?_
    refine lv_iconst (v := 0) hx hb dX6_attack_12 (by decide) ?_
    refine lv_iload_n hx hb dX6_attack_13 rfl (lv_at hl 2 rfl) ?_
    refine k_callV (C := RX6) (T := TX6) (N := 5) (rest := []) hC hl hH hS (c_X6_give l κ γ y1 0 y2) lv_6 rfl rfl tw_628 tw_630 tw_24 tw_40 tw_631 hd_X6_give ⟨Nat.le_of_ble_eq_true rfl, Nat.le_of_ble_eq_true rfl⟩ rfl rfl rfl rfl (Nat.le_of_ble_eq_true rfl) dX6_attack_14 ⟨Nat.le_of_ble_eq_true rfl, Nat.le_of_ble_eq_true rfl⟩ rfl (fun H locs hH hS => ?_)
    exact b_17 (x_X6_give y1 0 y2 γ) _ _ _ (lv_sub hl [] rfl) hH hS hq
set_option maxRecDepth 20000 in
set_option maxHeartbeats 4000000 in
theorem c_X6_parry (l : Launch) (κ : KP) (γ : St) (y1 : Int32) (y2 : Int32)  : Met l yX6_parry [Cond.code yX6_parry cX6_parry 3 none] ({ frames := 0, cells := 0, slots := 0, locals := 0 } : Room) (va_Pc [.ref (kA κ 6 0), .int y1, .int y2] (GG κ γ)) (QQ κ ((x_X6_parry y1 y2 γ)) none) 0 0 (AA κ) := by
  generalize hq : x_X6_parry y1 y2 γ = res
  refine Met.ofW (cc := cX6_parry) (maxL := 3) (ret := none) (by decide) rfl ?_
  intro p e s m args below meth c s₁ B hml9 hv
  obtain ⟨rfl, hH, hK9, hB9, hX9, hZ9⟩ := hv
  have hC : CX κ cX6_parry "Phrasehall$RightOfWay" 3 p l s m ([.ref (kA κ 6 0), .int y1, .int y2] : List Value).toArray meth c := ⟨B.exec, B.bytes, findClass_of_methodNamed B.named, fun w hw => tw_use (List.mem_filter.mp hw).2 (State.WarmedH.refl s) (hX9.1 w hw), hK9, hX9, hZ9, hB9, hml9, B.notSynchronized⟩
  obtain ⟨hx, hb, hown, hT, -, -, -, -, hml, -⟩ := id hC
  have hr := B.returns
  have hS : va_S (AA κ) s.heap s.heap [] := va_S.rf
  have hl := lv_entry ([.ref (kA κ 6 0), .int y1, .int y2]) (n := 3) (Nat.le_of_ble_eq_true rfl)
  rw [lg_entry_eq]
  generalize (lg_sl ([.ref (kA κ 6 0), .int y1, .int y2]) ++ List.replicate (3 - (lg_sl ([.ref (kA κ 6 0), .int y1, .int y2])).length) Slot.unset).toArray = ls at hl ⊢
  have hl : lv_has ls 3 [(0, .ref (kA κ 6 0)), (1, .int y1), (2, .int y2)] := hl
  refine lv_aload_n hx hb dX6_parry_0 rfl (lv_at hl 0 rfl) ?_
  refine hp_get (v := .int (gV γ 6 0 0)) (C := RX6) (T := TX6) (N := 5) hC inX6 hH lv_6 rfl rfl 0 (by decide) tw_78 rfl rfl dX6_parry_1 ?_
  refine lv_iconst (v := 1) hx hb dX6_parry_4 (by decide) ?_
  refine lv_iload_n hx hb dX6_parry_5 rfl (lv_at hl 1 rfl) ?_
  refine lv_isub hx hb dX6_parry_6 ?_
  refine lv_icmp_ne (tgt := 33) hx hb dX6_parry_7 (by decide) (fun c5 => ?_) (fun c5 => ?_)
  · have hq := ifne hq c5
    subst hq
    exact kr_v hC hr hH hS rfl dX6_parry_33
  · have hq := ifpe hq c5
    refine lv_aload_n hx hb dX6_parry_10 rfl (lv_at hl 0 rfl) ?_
    refine hp_get (v := .int (gV γ 6 0 1)) (C := RX6) (T := TX6) (N := 5) hC inX6 hH lv_6 rfl rfl 1 (by decide) tw_80 rfl rfl dX6_parry_11 ?_
    refine lv_iconst (v := 1) hx hb dX6_parry_14 (by decide) ?_
    refine lv_icmp_eq (tgt := 33) hx hb dX6_parry_15 (by decide) (fun c6 => ?_) (fun c6 => ?_)
    · have hq := ifpe hq c6
      subst hq
      exact kr_v hC hr hH hS rfl dX6_parry_33
    · have hq := ifne hq c6
      refine lv_aload_n hx hb dX6_parry_18 rfl (lv_at hl 0 rfl) ?_
      refine lv_iconst (v := (-1)) hx hb dX6_parry_19 (by decide) ?_
      refine hp_put (v := .int ((-1))) (C := RX6) (T := TX6) (N := 5) hC inX6 tyX6_ok nmX6 hH lv_6 rfl hS rfl 0 (by decide) tw_78 rfl rfl rfl rfl (Nat.le_of_ble_eq_true rfl) (sV γ 6 0 0 ((-1))) (pe_6_0 _ _ 0 ((-1))) (fun _ _ _ h => cel_sV h) (WT_sV hH.wt) dX6_parry_20 (fun H locs hH hS => ?_)
      refine lv_aload_n hx hb dX6_parry_23 rfl (lv_at hl 0 rfl) ?_
      refine lv_iload_n hx hb dX6_parry_24 rfl (lv_at hl 1 rfl) ?_
      refine hp_put (v := .int y1) (C := RX6) (T := TX6) (N := 5) hC inX6 tyX6_ok nmX6 hH lv_6 rfl hS rfl 3 (by decide) tw_82 rfl rfl rfl rfl (Nat.le_of_ble_eq_true rfl) (sV (sV γ 6 0 0 ((-1))) 6 0 3 y1) (pe_6_3 _ _ 0 y1) (fun _ _ _ h => cel_sV h) (WT_sV hH.wt) dX6_parry_25 (fun H locs hH hS => ?_)
      refine lv_aload_n hx hb dX6_parry_28 rfl (lv_at hl 0 rfl) ?_
      refine lv_iload_n hx hb dX6_parry_29 rfl (lv_at hl 2 rfl) ?_
      refine hp_put (v := .int y2) (C := RX6) (T := TX6) (N := 5) hC inX6 tyX6_ok nmX6 hH lv_6 rfl hS rfl 4 (by decide) tw_83 rfl rfl rfl rfl (Nat.le_of_ble_eq_true rfl) (sV (sV (sV γ 6 0 0 ((-1))) 6 0 3 y1) 6 0 4 y2) (pe_6_4 _ _ 0 y2) (fun _ _ _ h => cel_sV h) (WT_sV hH.wt) dX6_parry_30 (fun H locs hH hS => ?_)
      subst hq
      exact kr_v hC hr hH hS rfl dX6_parry_33
set_option maxRecDepth 20000 in
set_option maxHeartbeats 4000000 in
theorem c_X6_take (l : Launch) (κ : KP) (γ : St) (y1 : Int32) (y2 : Int32) (y3 : Int32)  : Met l yX6_take [Cond.code yX6_take cX6_take 5 none] ({ frames := 2, cells := 0, slots := 0, locals := 45 } : Room) (va_Pc [.ref (kA κ 6 0), .int y1, .int y2, .int y3] (GG κ γ)) (QQ κ ((x_X6_take y1 y2 y3 γ)) none) 0 0 (AA κ) := by
  generalize hq : x_X6_take y1 y2 y3 γ = res
  refine Met.ofW (cc := cX6_take) (maxL := 5) (ret := none) (by decide) rfl ?_
  intro p e s m args below meth c s₁ B hml9 hv
  obtain ⟨rfl, hH, hK9, hB9, hX9, hZ9⟩ := hv
  have hC : CX κ cX6_take "Phrasehall$RightOfWay" 5 p l s m ([.ref (kA κ 6 0), .int y1, .int y2, .int y3] : List Value).toArray meth c := ⟨B.exec, B.bytes, findClass_of_methodNamed B.named, fun w hw => tw_use (List.mem_filter.mp hw).2 (State.WarmedH.refl s) (hX9.1 w hw), hK9, hX9, hZ9, hB9, hml9, B.notSynchronized⟩
  obtain ⟨hx, hb, hown, hT, -, -, -, -, hml, -⟩ := id hC
  have hr := B.returns
  have hS : va_S (AA κ) s.heap s.heap [] := va_S.rf
  have hl := lv_entry ([.ref (kA κ 6 0), .int y1, .int y2, .int y3]) (n := 5) (Nat.le_of_ble_eq_true rfl)
  rw [lg_entry_eq]
  generalize (lg_sl ([.ref (kA κ 6 0), .int y1, .int y2, .int y3]) ++ List.replicate (5 - (lg_sl ([.ref (kA κ 6 0), .int y1, .int y2, .int y3])).length) Slot.unset).toArray = ls at hl ⊢
  have hl : lv_has ls 5 [(0, .ref (kA κ 6 0)), (1, .int y1), (2, .int y2), (3, .int y3)] := hl
  have b_54 : ∀ (γ : St) (H : Heap) (locs : List Loc) (ls : Array Slot), lv_has ls 5 [] → HR κ γ H → va_S (AA κ) s.heap H locs → x_X6_take_54 γ = res → W p l e (headSpec [Cond.code yX6_take cX6_take 5 none] ({ frames := 2, cells := 0, slots := 0, locals := 45 } : Room)).room s m ([.ref (kA κ 6 0), .int y1, .int y2, .int y3] : List Value).toArray below meth c H locs 0 0 (MQ below (QQ κ res none) ([.ref (kA κ 6 0), .int y1, .int y2, .int y3] : List Value).toArray s 0 0 (AA κ)) (F0 m 54 ls []) := by
    intro  γ H locs ls hl hH hS hq
    refine lv_goto (tgt := 204) hx hb dX6_take_54 (by decide) ?_
    subst hq
    exact kr_v hC hr hH hS rfl dX6_take_204
  have b_72 : ∀ (γ : St) (H : Heap) (locs : List Loc) (ls : Array Slot), lv_has ls 5 [] → HR κ γ H → va_S (AA κ) s.heap H locs → x_X6_take_72 γ = res → W p l e (headSpec [Cond.code yX6_take cX6_take 5 none] ({ frames := 2, cells := 0, slots := 0, locals := 45 } : Room)).room s m ([.ref (kA κ 6 0), .int y1, .int y2, .int y3] : List Value).toArray below meth c H locs 0 0 (MQ below (QQ κ res none) ([.ref (kA κ 6 0), .int y1, .int y2, .int y3] : List Value).toArray s 0 0 (AA κ)) (F0 m 72 ls []) := by
    intro  γ H locs ls hl hH hS hq
    refine lv_goto (tgt := 204) hx hb dX6_take_72 (by decide) ?_
    subst hq
    exact kr_v hC hr hH hS rfl dX6_take_204
  have b_99 : ∀ (γ : St) (H : Heap) (locs : List Loc) (ls : Array Slot), lv_has ls 5 [] → HR κ γ H → va_S (AA κ) s.heap H locs → x_X6_take_99 γ = res → W p l e (headSpec [Cond.code yX6_take cX6_take 5 none] ({ frames := 2, cells := 0, slots := 0, locals := 45 } : Room)).room s m ([.ref (kA κ 6 0), .int y1, .int y2, .int y3] : List Value).toArray below meth c H locs 0 0 (MQ below (QQ κ res none) ([.ref (kA κ 6 0), .int y1, .int y2, .int y3] : List Value).toArray s 0 0 (AA κ)) (F0 m 99 ls []) := by
    intro  γ H locs ls hl hH hS hq
    refine lv_goto (tgt := 204) hx hb dX6_take_99 (by decide) ?_
    subst hq
    exact kr_v hC hr hH hS rfl dX6_take_204
  have b_108 : ∀ (γ : St) (H : Heap) (locs : List Loc) (ls : Array Slot), lv_has ls 5 [] → HR κ γ H → va_S (AA κ) s.heap H locs → x_X6_take_108 γ = res → W p l e (headSpec [Cond.code yX6_take cX6_take 5 none] ({ frames := 2, cells := 0, slots := 0, locals := 45 } : Room)).room s m ([.ref (kA κ 6 0), .int y1, .int y2, .int y3] : List Value).toArray below meth c H locs 0 0 (MQ below (QQ κ res none) ([.ref (kA κ 6 0), .int y1, .int y2, .int y3] : List Value).toArray s 0 0 (AA κ)) (F0 m 108 ls []) := by
    intro  γ H locs ls hl hH hS hq
    refine lv_goto (tgt := 204) hx hb dX6_take_108 (by decide) ?_
    subst hq
    exact kr_v hC hr hH hS rfl dX6_take_204
  have b_146 : ∀ (γ : St) (H : Heap) (locs : List Loc) (ls : Array Slot), lv_has ls 5 [] → HR κ γ H → va_S (AA κ) s.heap H locs → x_X6_take_146 γ = res → W p l e (headSpec [Cond.code yX6_take cX6_take 5 none] ({ frames := 2, cells := 0, slots := 0, locals := 45 } : Room)).room s m ([.ref (kA κ 6 0), .int y1, .int y2, .int y3] : List Value).toArray below meth c H locs 0 0 (MQ below (QQ κ res none) ([.ref (kA κ 6 0), .int y1, .int y2, .int y3] : List Value).toArray s 0 0 (AA κ)) (F0 m 146 ls []) := by
    intro  γ H locs ls hl hH hS hq
    refine lv_goto (tgt := 204) hx hb dX6_take_146 (by decide) ?_
    subst hq
    exact kr_v hC hr hH hS rfl dX6_take_204
  have b_185 : ∀ (γ : St) (H : Heap) (locs : List Loc) (ls : Array Slot), lv_has ls 5 [] → HR κ γ H → va_S (AA κ) s.heap H locs → x_X6_take_185 γ = res → W p l e (headSpec [Cond.code yX6_take cX6_take 5 none] ({ frames := 2, cells := 0, slots := 0, locals := 45 } : Room)).room s m ([.ref (kA κ 6 0), .int y1, .int y2, .int y3] : List Value).toArray below meth c H locs 0 0 (MQ below (QQ κ res none) ([.ref (kA κ 6 0), .int y1, .int y2, .int y3] : List Value).toArray s 0 0 (AA κ)) (F0 m 185 ls []) := by
    intro  γ H locs ls hl hH hS hq
    refine lv_goto (tgt := 204) hx hb dX6_take_185 (by decide) ?_
    subst hq
    exact kr_v hC hr hH hS rfl dX6_take_204
  refine lv_iconst (v := 1) hx hb dX6_take_0 (by decide) ?_
  refine lv_iload_n hx hb dX6_take_1 rfl (lv_at hl 1 rfl) ?_
  refine lv_isub hx hb dX6_take_2 ?_
  refine lv_istore (lv' := [(4, .int (1 - y1)), (0, .ref (kA κ 6 0)), (1, .int y1), (2, .int y2), (3, .int y3)]) hx hb dX6_take_3 hl (by decide) rfl (fun ls hl => ?_)
  refine lv_iload_n hx hb dX6_take_5 rfl (lv_at hl 3 rfl) ?_
  by_cases c52 : y2 = 0
  · have hq := ifpe hq c52
    refine k_tabI (j := 0) (tgt := 48) c52 hx hb dX6_take_6 (by decide) (by decide) rfl (by decide) ?_
    refine lv_aload_n hx hb dX6_take_48 rfl (lv_at hl 1 rfl) ?_
    refine lv_iload_n hx hb dX6_take_49 rfl (lv_at hl 2 rfl) ?_
    refine lv_iload_n hx hb dX6_take_50 rfl (lv_at hl 4 rfl) ?_
    refine k_callV (C := RX6) (T := TX6) (N := 5) (rest := []) hC hl hH hS (c_X6_attack l κ γ y1 y3) lv_6 rfl rfl tw_624 tw_626 tw_23 tw_40 tw_627 hd_X6_attack ⟨Nat.le_of_ble_eq_true rfl, Nat.le_of_ble_eq_true rfl⟩ rfl rfl rfl rfl (Nat.le_of_ble_eq_true rfl) dX6_take_51 ⟨Nat.le_of_ble_eq_true rfl, Nat.le_of_ble_eq_true rfl⟩ rfl (fun H locs hH hS => ?_)
    exact b_54 (x_X6_attack y1 y3 γ) _ _ _ (lv_sub hl [] rfl) hH hS hq
  have hq := ifne hq c52
  by_cases c53 : y2 = 1
  · have hq := ifpe hq c53
    refine k_tabI (j := 1) (tgt := 57) c53 hx hb dX6_take_6 (by decide) (by decide) rfl (by decide) ?_
    refine lv_aload_n hx hb dX6_take_57 rfl (lv_at hl 1 rfl) ?_
    refine hp_get (v := .int (gV γ 6 0 0)) (C := RX6) (T := TX6) (N := 5) hC inX6 hH lv_6 rfl rfl 0 (by decide) tw_78 rfl rfl dX6_take_58 ?_
    refine lv_iconst (v := (-1)) hx hb dX6_take_61 (by decide) ?_
    refine lv_icmp_ne (tgt := 204) hx hb dX6_take_62 (by decide) (fun c54 => ?_) (fun c54 => ?_)
    · have hq := ifne hq c54
      subst hq
      exact kr_v hC hr hH hS rfl dX6_take_204
    · have hq := ifpe hq c54
      refine lv_aload_n hx hb dX6_take_65 rfl (lv_at hl 1 rfl) ?_
      refine lv_iload_n hx hb dX6_take_66 rfl (lv_at hl 2 rfl) ?_
      refine lv_iconst (v := 1) hx hb dX6_take_67 (by decide) ?_
      refine lv_iload_n hx hb dX6_take_68 rfl (lv_at hl 4 rfl) ?_
      refine k_callV (C := RX6) (T := TX6) (N := 5) (rest := []) hC hl hH hS (c_X6_give l κ γ y1 1 y3) lv_6 rfl rfl tw_628 tw_630 tw_24 tw_40 tw_631 hd_X6_give ⟨Nat.le_of_ble_eq_true rfl, Nat.le_of_ble_eq_true rfl⟩ rfl rfl rfl rfl (Nat.le_of_ble_eq_true rfl) dX6_take_69 ⟨Nat.le_of_ble_eq_true rfl, Nat.le_of_ble_eq_true rfl⟩ rfl (fun H locs hH hS => ?_)
      exact b_72 (x_X6_give y1 1 y3 γ) _ _ _ (lv_sub hl [] rfl) hH hS hq
  have hq := ifne hq c53
  by_cases c55 : y2 = 2
  · have hq := ifpe hq c55
    refine k_tabI (j := 2) (tgt := 75) c55 hx hb dX6_take_6 (by decide) (by decide) rfl (by decide) ?_
    refine lv_aload_n hx hb dX6_take_75 rfl (lv_at hl 1 rfl) ?_
    refine hp_get (v := .int (gV γ 6 0 0)) (C := RX6) (T := TX6) (N := 5) hC inX6 hH lv_6 rfl rfl 0 (by decide) tw_78 rfl rfl dX6_take_76 ?_
    refine lv_iload hx hb dX6_take_79 (lv_at hl 0 rfl) ?_
    refine lv_icmp_ne (tgt := 204) hx hb dX6_take_81 (by decide) (fun c56 => ?_) (fun c56 => ?_)
    · have hq := ifne hq c56
      subst hq
      exact kr_v hC hr hH hS rfl dX6_take_204
    · have hq := ifpe hq c56
      refine lv_aload_n hx hb dX6_take_84 rfl (lv_at hl 1 rfl) ?_
      refine hp_get (v := .int (gV γ 6 0 1)) (C := RX6) (T := TX6) (N := 5) hC inX6 hH lv_6 rfl rfl 1 (by decide) tw_80 rfl rfl dX6_take_85 ?_
      refine lv_iconst (v := 1) hx hb dX6_take_88 (by decide) ?_
      refine lv_icmp_ne (tgt := 204) hx hb dX6_take_89 (by decide) (fun c57 => ?_) (fun c57 => ?_)
      · have hq := ifne hq c57
        subst hq
        exact kr_v hC hr hH hS rfl dX6_take_204
      · have hq := ifpe hq c57
        refine lv_aload_n hx hb dX6_take_92 rfl (lv_at hl 1 rfl) ?_
        refine lv_iload_n hx hb dX6_take_93 rfl (lv_at hl 2 rfl) ?_
        refine lv_iconst (v := 0) hx hb dX6_take_94 (by decide) ?_
        refine lv_iload_n hx hb dX6_take_95 rfl (lv_at hl 4 rfl) ?_
        refine k_callV (C := RX6) (T := TX6) (N := 5) (rest := []) hC hl hH hS (c_X6_give l κ γ y1 0 y3) lv_6 rfl rfl tw_628 tw_630 tw_24 tw_40 tw_631 hd_X6_give ⟨Nat.le_of_ble_eq_true rfl, Nat.le_of_ble_eq_true rfl⟩ rfl rfl rfl rfl (Nat.le_of_ble_eq_true rfl) dX6_take_96 ⟨Nat.le_of_ble_eq_true rfl, Nat.le_of_ble_eq_true rfl⟩ rfl (fun H locs hH hS => ?_)
        exact b_99 (x_X6_give y1 0 y3 γ) _ _ _ (lv_sub hl [] rfl) hH hS hq
  have hq := ifne hq c55
  by_cases c58 : y2 = 3
  · have hq := ifpe hq c58
    refine k_tabI (j := 3) (tgt := 102) c58 hx hb dX6_take_6 (by decide) (by decide) rfl (by decide) ?_
    refine lv_aload_n hx hb dX6_take_102 rfl (lv_at hl 1 rfl) ?_
    refine lv_iload_n hx hb dX6_take_103 rfl (lv_at hl 2 rfl) ?_
    refine lv_iload_n hx hb dX6_take_104 rfl (lv_at hl 4 rfl) ?_
    refine k_callV (C := RX6) (T := TX6) (N := 5) (rest := []) hC hl hH hS (c_X6_parry l κ γ y1 y3) lv_6 rfl rfl tw_632 tw_634 tw_25 tw_40 tw_635 hd_X6_parry ⟨Nat.le_of_ble_eq_true rfl, Nat.le_of_ble_eq_true rfl⟩ rfl rfl rfl rfl (Nat.le_of_ble_eq_true rfl) dX6_take_105 ⟨Nat.le_of_ble_eq_true rfl, Nat.le_of_ble_eq_true rfl⟩ rfl (fun H locs hH hS => ?_)
    exact b_108 (x_X6_parry y1 y3 γ) _ _ _ (lv_sub hl [] rfl) hH hS hq
  have hq := ifne hq c58
  by_cases c59 : y2 = 4
  · have hq := ifpe hq c59
    refine k_tabI (j := 4) (tgt := 111) c59 hx hb dX6_take_6 (by decide) (by decide) rfl (by decide) ?_
    refine lv_aload_n hx hb dX6_take_111 rfl (lv_at hl 1 rfl) ?_
    refine hp_get (v := .int (gV γ 6 0 0)) (C := RX6) (T := TX6) (N := 5) hC inX6 hH lv_6 rfl rfl 0 (by decide) tw_78 rfl rfl dX6_take_112 ?_
    refine lv_iconst (v := (-1)) hx hb dX6_take_115 (by decide) ?_
    refine lv_icmp_ne (tgt := 204) hx hb dX6_take_116 (by decide) (fun c60 => ?_) (fun c60 => ?_)
    · have hq := ifne hq c60
      subst hq
      exact kr_v hC hr hH hS rfl dX6_take_204
    · have hq := ifpe hq c60
      refine lv_aload_n hx hb dX6_take_119 rfl (lv_at hl 1 rfl) ?_
      refine hp_get (v := .int (gV γ 6 0 3)) (C := RX6) (T := TX6) (N := 5) hC inX6 hH lv_6 rfl rfl 3 (by decide) tw_82 rfl rfl dX6_take_120 ?_
      refine lv_iload_n hx hb dX6_take_123 rfl (lv_at hl 2 rfl) ?_
      refine lv_icmp_ne (tgt := 204) hx hb dX6_take_124 (by decide) (fun c61 => ?_) (fun c61 => ?_)
      · have hq := ifne hq c61
        subst hq
        exact kr_v hC hr hH hS rfl dX6_take_204
      · have hq := ifpe hq c61
        refine lv_iload_n hx hb dX6_take_127 rfl (lv_at hl 4 rfl) ?_
        refine lv_aload_n hx hb dX6_take_128 rfl (lv_at hl 1 rfl) ?_
        refine hp_get (v := .int (gV γ 6 0 4)) (C := RX6) (T := TX6) (N := 5) hC inX6 hH lv_6 rfl rfl 4 (by decide) tw_83 rfl rfl dX6_take_129 ?_
        refine lv_isub hx hb dX6_take_132 ?_
        refine lv_sipush (v := 300) hx hb dX6_take_133 (by decide) ?_
        refine lv_icmp_gt (tgt := 204) hx hb dX6_take_136 (by decide) (fun c62 => ?_) (fun c62 => ?_)
        · have hq := ifpe hq c62
          subst hq
          exact kr_v hC hr hH hS rfl dX6_take_204
        · have hq := ifne hq c62
          refine lv_aload_n hx hb dX6_take_139 rfl (lv_at hl 1 rfl) ?_
          refine lv_iload_n hx hb dX6_take_140 rfl (lv_at hl 2 rfl) ?_
          refine lv_iconst (v := 4) hx hb dX6_take_141 (by decide) ?_
          refine lv_iload_n hx hb dX6_take_142 rfl (lv_at hl 4 rfl) ?_
          refine k_callV (C := RX6) (T := TX6) (N := 5) (rest := []) hC hl hH hS (c_X6_give l κ γ y1 4 y3) lv_6 rfl rfl tw_628 tw_630 tw_24 tw_40 tw_631 hd_X6_give ⟨Nat.le_of_ble_eq_true rfl, Nat.le_of_ble_eq_true rfl⟩ rfl rfl rfl rfl (Nat.le_of_ble_eq_true rfl) dX6_take_143 ⟨Nat.le_of_ble_eq_true rfl, Nat.le_of_ble_eq_true rfl⟩ rfl (fun H locs hH hS => ?_)
          exact b_146 (x_X6_give y1 4 y3 γ) _ _ _ (lv_sub hl [] rfl) hH hS hq
  have hq := ifne hq c59
  by_cases c63 : y2 = 5
  · have hq := ifpe hq c63
    refine k_tabI (j := 5) (tgt := 149) c63 hx hb dX6_take_6 (by decide) (by decide) rfl (by decide) ?_
    refine lv_aload_n hx hb dX6_take_149 rfl (lv_at hl 1 rfl) ?_
    refine hp_get (v := .int (gV γ 6 0 0)) (C := RX6) (T := TX6) (N := 5) hC inX6 hH lv_6 rfl rfl 0 (by decide) tw_78 rfl rfl dX6_take_150 ?_
    refine lv_iconst (v := (-1)) hx hb dX6_take_153 (by decide) ?_
    refine lv_icmp_ne (tgt := 204) hx hb dX6_take_154 (by decide) (fun c64 => ?_) (fun c64 => ?_)
    · have hq := ifne hq c64
      subst hq
      exact kr_v hC hr hH hS rfl dX6_take_204
    · have hq := ifpe hq c64
      refine lv_aload_n hx hb dX6_take_157 rfl (lv_at hl 1 rfl) ?_
      refine hp_get (v := .int (gV γ 6 0 3)) (C := RX6) (T := TX6) (N := 5) hC inX6 hH lv_6 rfl rfl 3 (by decide) tw_82 rfl rfl dX6_take_158 ?_
      refine lv_iload hx hb dX6_take_161 (lv_at hl 0 rfl) ?_
      refine lv_icmp_ne (tgt := 204) hx hb dX6_take_163 (by decide) (fun c65 => ?_) (fun c65 => ?_)
      · have hq := ifne hq c65
        subst hq
        exact kr_v hC hr hH hS rfl dX6_take_204
      · have hq := ifpe hq c65
        refine lv_iload_n hx hb dX6_take_166 rfl (lv_at hl 4 rfl) ?_
        refine lv_aload_n hx hb dX6_take_167 rfl (lv_at hl 1 rfl) ?_
        refine hp_get (v := .int (gV γ 6 0 4)) (C := RX6) (T := TX6) (N := 5) hC inX6 hH lv_6 rfl rfl 4 (by decide) tw_83 rfl rfl dX6_take_168 ?_
        refine lv_isub hx hb dX6_take_171 ?_
        refine lv_sipush (v := 300) hx hb dX6_take_172 (by decide) ?_
        refine lv_icmp_le (tgt := 204) hx hb dX6_take_175 (by decide) (fun c66 => ?_) (fun c66 => ?_)
        · have hq := ifpe hq c66
          subst hq
          exact kr_v hC hr hH hS rfl dX6_take_204
        · have hq := ifne hq c66
          refine lv_aload_n hx hb dX6_take_178 rfl (lv_at hl 1 rfl) ?_
          refine lv_iload_n hx hb dX6_take_179 rfl (lv_at hl 2 rfl) ?_
          refine lv_iconst (v := 5) hx hb dX6_take_180 (by decide) ?_
          refine lv_iload_n hx hb dX6_take_181 rfl (lv_at hl 4 rfl) ?_
          refine k_callV (C := RX6) (T := TX6) (N := 5) (rest := []) hC hl hH hS (c_X6_give l κ γ y1 5 y3) lv_6 rfl rfl tw_628 tw_630 tw_24 tw_40 tw_631 hd_X6_give ⟨Nat.le_of_ble_eq_true rfl, Nat.le_of_ble_eq_true rfl⟩ rfl rfl rfl rfl (Nat.le_of_ble_eq_true rfl) dX6_take_182 ⟨Nat.le_of_ble_eq_true rfl, Nat.le_of_ble_eq_true rfl⟩ rfl (fun H locs hH hS => ?_)
          exact b_185 (x_X6_give y1 5 y3 γ) _ _ _ (lv_sub hl [] rfl) hH hS hq
  have hq := ifne hq c63
  by_cases c67 : y2 = 6
  · have hq := ifpe hq c67
    refine k_tabI (j := 6) (tgt := 188) c67 hx hb dX6_take_6 (by decide) (by decide) rfl (by decide) ?_
    refine lv_aload_n hx hb dX6_take_188 rfl (lv_at hl 1 rfl) ?_
    refine hp_get (v := .int (gV γ 6 0 0)) (C := RX6) (T := TX6) (N := 5) hC inX6 hH lv_6 rfl rfl 0 (by decide) tw_78 rfl rfl dX6_take_189 ?_
    refine lv_iload_n hx hb dX6_take_192 rfl (lv_at hl 2 rfl) ?_
    refine lv_icmp_ne (tgt := 204) hx hb dX6_take_193 (by decide) (fun c68 => ?_) (fun c68 => ?_)
    · have hq := ifne hq c68
      subst hq
      exact kr_v hC hr hH hS rfl dX6_take_204
    · have hq := ifpe hq c68
      refine lv_aload_n hx hb dX6_take_196 rfl (lv_at hl 1 rfl) ?_
      refine lv_iconst (v := (-1)) hx hb dX6_take_197 (by decide) ?_
      refine hp_put (v := .int ((-1))) (C := RX6) (T := TX6) (N := 5) hC inX6 tyX6_ok nmX6 hH lv_6 rfl hS rfl 0 (by decide) tw_78 rfl rfl rfl rfl (Nat.le_of_ble_eq_true rfl) (sV γ 6 0 0 ((-1))) (pe_6_0 _ _ 0 ((-1))) (fun _ _ _ h => cel_sV h) (WT_sV hH.wt) dX6_take_198 (fun H locs hH hS => ?_)
      refine lv_goto (tgt := 204) hx hb dX6_take_201 (by decide) ?_
      subst hq
      exact kr_v hC hr hH hS rfl dX6_take_204
  have hq := ifne hq c67
  refine lv_tableOut (tgt := 204) hx hb dX6_take_6 (by have e0 := i32_ne (n := 0) (by decide) c52; have e1 := i32_ne (n := 1) (by decide) c53; have e2 := i32_ne (n := 2) (by decide) c55; have e3 := i32_ne (n := 3) (by decide) c58; have e4 := i32_ne (n := 4) (by decide) c59; have e5 := i32_ne (n := 5) (by decide) c63; have e6 := i32_ne (n := 6) (by decide) c67; omega) (by decide) ?_
  subst hq
  exact kr_v hC hr hH hS rfl dX6_take_204
set_option maxRecDepth 20000 in
set_option maxHeartbeats 4000000 in
theorem c_X4_holderAhead (l : Launch) (κ : KP) (γ : St) (y1 : Int32) (hk : ok_X4_holderAhead y1 γ) : Met l yX4_holderAhead [Cond.code yX4_holderAhead cX4_holderAhead 3 (some .int)] ({ frames := 3, cells := 0, slots := 0, locals := 69 } : Room) (va_Pc [.ref (kA κ 4 0), .int y1] (GG κ γ)) (QQ κ (((x_X4_holderAhead y1 γ)).2) (some (.int (((x_X4_holderAhead y1 γ)).1)))) 0 0 (AA κ) := by
  generalize hq : x_X4_holderAhead y1 γ = res
  refine Met.ofW (cc := cX4_holderAhead) (maxL := 3) (ret := (some .int)) (by decide) rfl ?_
  intro p e s m args below meth c s₁ B hml9 hv
  obtain ⟨rfl, hH, hK9, hB9, hX9, hZ9⟩ := hv
  have hC : CX κ cX4_holderAhead "Phrasehall$Phrase" 3 p l s m ([.ref (kA κ 4 0), .int y1] : List Value).toArray meth c := ⟨B.exec, B.bytes, findClass_of_methodNamed B.named, fun w hw => tw_use (List.mem_filter.mp hw).2 (State.WarmedH.refl s) (hX9.1 w hw), hK9, hX9, hZ9, hB9, hml9, B.notSynchronized⟩
  obtain ⟨hx, hb, hown, hT, -, -, -, -, hml, -⟩ := id hC
  have hr := B.returns
  have hS : va_S (AA κ) s.heap s.heap [] := va_S.rf
  have hl := lv_entry ([.ref (kA κ 4 0), .int y1]) (n := 3) (Nat.le_of_ble_eq_true rfl)
  rw [lg_entry_eq]
  generalize (lg_sl ([.ref (kA κ 4 0), .int y1]) ++ List.replicate (3 - (lg_sl ([.ref (kA κ 4 0), .int y1])).length) Slot.unset).toArray = ls at hl ⊢
  have hl : lv_has ls 3 [(0, .ref (kA κ 4 0)), (1, .int y1)] := hl
  have b_71 : ∀ (γ : St) (H : Heap) (locs : List Loc) (ls : Array Slot), lv_has ls 3 [(0, .ref (kA κ 4 0))] → HR κ γ H → va_S (AA κ) s.heap H locs → ok_X4_holderAhead_71 γ → x_X4_holderAhead_71 γ = res → W p l e (headSpec [Cond.code yX4_holderAhead cX4_holderAhead 3 (some .int)] ({ frames := 3, cells := 0, slots := 0, locals := 69 } : Room)).room s m ([.ref (kA κ 4 0), .int y1] : List Value).toArray below meth c H locs 0 0 (MQ below (QQ κ (res.2) (some (.int res.1))) ([.ref (kA κ 4 0), .int y1] : List Value).toArray s 0 0 (AA κ)) (F0 m 71 ls []) := by
    intro  γ H locs ls hl hH hS hk hq
    refine lv_aload_n hx hb dX4_holderAhead_71 rfl (lv_at hl 0 rfl) ?_
    refine hp_get (v := .ref (kA κ 6 0)) (C := RX4) (T := TX4) (N := 7) hC inX4 hH lv_4 rfl rfl 5 (by decide) tw_101 rfl rfl dX4_holderAhead_72 ?_
    refine hp_getN (v := .int (gV γ 6 0 0)) (C := RX6) (T := TX6) (N := 5) hC inX6 hH lv_6 rfl rfl 0 (by decide) nw_79 rfl rfl dX4_holderAhead_75 ?_
    subst hq
    exact kr_i hC hr hH hS rfl rfl dX4_holderAhead_78
  have b_9 : ∀ (k9 : Nat) (a1 : Int32) (a2 : Int32) (γ : St) (H : Heap) (locs : List Loc) (ls : Array Slot), lv_has ls 3 [(0, .ref (kA κ 4 0)), (1, .int a1), (2, .int a2)] → HR κ γ H → va_S (AA κ) s.heap H locs → ok_X4_holderAhead_9 k9 a1 a2 γ → x_X4_holderAhead_9 k9 a1 a2 γ = res → W p l e (headSpec [Cond.code yX4_holderAhead cX4_holderAhead 3 (some .int)] ({ frames := 3, cells := 0, slots := 0, locals := 69 } : Room)).room s m ([.ref (kA κ 4 0), .int y1] : List Value).toArray below meth c H locs 0 0 (MQ below (QQ κ (res.2) (some (.int res.1))) ([.ref (kA κ 4 0), .int y1] : List Value).toArray s 0 0 (AA κ)) (F0 m 9 ls []) := by
    intro k9
    induction k9 with
    | zero =>
      intro a1 a2 γ H locs ls hl hH hS hk hq
      exact (show False from hk).elim
    | succ k9 ih_9 =>
      have b_65 : ∀ (a1 : Int32) (a2 : Int32) (γ : St) (H : Heap) (locs : List Loc) (ls : Array Slot), lv_has ls 3 [(0, .ref (kA κ 4 0)), (1, .int a1), (2, .int a2)] → HR κ γ H → va_S (AA κ) s.heap H locs → ok_X4_holderAhead_65 (ok_X4_holderAhead_9 k9) a1 a2 γ → x_X4_holderAhead_65 (x_X4_holderAhead_9 k9) a1 a2 γ = res → W p l e (headSpec [Cond.code yX4_holderAhead cX4_holderAhead 3 (some .int)] ({ frames := 3, cells := 0, slots := 0, locals := 69 } : Room)).room s m ([.ref (kA κ 4 0), .int y1] : List Value).toArray below meth c H locs 0 0 (MQ below (QQ κ (res.2) (some (.int res.1))) ([.ref (kA κ 4 0), .int y1] : List Value).toArray s 0 0 (AA κ)) (F0 m 65 ls []) := by
        intro a1 a2 γ H locs ls hl hH hS hk hq
        refine lv_iinc (v := a2 + 1) (lv' := [(2, .int (a2 + 1)), (0, .ref (kA κ 4 0)), (1, .int a1)]) hx hb dX4_holderAhead_65 hl (k := 2) rfl rfl (by decide) rfl (fun ls hl => ?_)
        refine lv_goto (tgt := 9) hx hb dX4_holderAhead_68 (by decide) ?_
        exact ih_9 a1 (a2 + 1) γ _ _ _ (lv_sub hl [1, 2, 0] rfl) hH hS hk hq
      intro a1 a2 γ H locs ls hl hH hS hk hq
      refine lv_iload_n hx hb dX4_holderAhead_9 rfl (lv_at hl 2 rfl) ?_
      refine lv_iload_n hx hb dX4_holderAhead_10 rfl (lv_at hl 1 rfl) ?_
      refine lv_icmp_ge (tgt := 71) hx hb dX4_holderAhead_11 (by decide) (fun c25 => ?_) (fun c25 => ?_)
      · have hk := ifp hk c25
        have hq := ifpe hq c25
        exact b_71 γ _ _ _ (lv_sub hl [0] rfl) hH hS hk hq
      · have hk := ifn hk c25
        have hq := ifne hq c25
        refine lv_iload_n hx hb dX4_holderAhead_14 rfl (lv_at hl 2 rfl) ?_
        refine lv_aload_n hx hb dX4_holderAhead_15 rfl (lv_at hl 0 rfl) ?_
        refine hp_get (v := .int (gV γ 4 0 6)) (C := RX4) (T := TX4) (N := 7) hC inX4 hH lv_4 rfl rfl 6 (by decide) tw_102 rfl rfl dX4_holderAhead_16 ?_
        refine lv_icmp_ge (tgt := 71) hx hb dX4_holderAhead_19 (by decide) (fun c26 => ?_) (fun c26 => ?_)
        · have hk := ifp hk c26
          have hq := ifpe hq c26
          exact b_71 γ _ _ _ (lv_sub hl [0] rfl) hH hS hk hq
        · have hk := ifn hk c26
          have hq := ifne hq c26
          refine lv_aload_n hx hb dX4_holderAhead_22 rfl (lv_at hl 0 rfl) ?_
          refine lv_iload_n hx hb dX4_holderAhead_23 rfl (lv_at hl 2 rfl) ?_
          refine k_callV (C := RX4) (T := TX4) (N := 7) (rest := []) hC hl hH hS (c_X4_isEntry l κ γ a2) lv_4 rfl rfl tw_538 tw_540 tw_16 tw_39 tw_541 hd_X4_isEntry ⟨Nat.le_of_ble_eq_true rfl, Nat.le_of_ble_eq_true rfl⟩ rfl rfl rfl rfl (Nat.le_of_ble_eq_true rfl) dX4_holderAhead_24 ⟨Nat.le_of_ble_eq_true rfl, Nat.le_of_ble_eq_true rfl⟩ rfl (fun H locs hH hS => ?_)
          refine lv_if_eq (tgt := 65) hx hb dX4_holderAhead_27 (by decide) (fun c27 => ?_) (fun c27 => ?_)
          · have hk := ifp hk c27
            have hq := ifpe hq c27
            exact b_65 a1 a2 γ _ _ _ (lv_sub hl [0, 1, 2] rfl) hH hS hk hq
          · have hk := ifn hk c27
            have hq := ifne hq c27
            refine lv_aload_n hx hb dX4_holderAhead_30 rfl (lv_at hl 0 rfl) ?_
            refine hp_get (v := .ref (kA κ 12 0)) (C := RX4) (T := TX4) (N := 7) hC inX4 hH lv_4 rfl rfl 1 (by decide) tw_97 rfl rfl dX4_holderAhead_31 ?_
            refine lv_iload_n hx hb dX4_holderAhead_34 rfl (lv_at hl 2 rfl) ?_
            obtain ⟨hi28, hk⟩ := hk
            refine hp_ald (v := gV γ 12 0 ((a2 : Int32).toNatClampNeg)) hC hH lv_12 rfl hi28 rfl dX4_holderAhead_35 ?_
            refine lv_iconst (v := (-1)) hx hb dX4_holderAhead_36 (by decide) ?_
            refine lv_icmp_eq (tgt := 65) hx hb dX4_holderAhead_37 (by decide) (fun c29 => ?_) (fun c29 => ?_)
            · have hk := ifp hk c29
              have hq := ifpe hq c29
              exact b_65 a1 a2 γ _ _ _ (lv_sub hl [0, 1, 2] rfl) hH hS hk hq
            · have hk := ifn hk c29
              have hq := ifne hq c29
              refine lv_aload_n hx hb dX4_holderAhead_40 rfl (lv_at hl 0 rfl) ?_
              refine hp_get (v := .ref (kA κ 6 0)) (C := RX4) (T := TX4) (N := 7) hC inX4 hH lv_4 rfl rfl 5 (by decide) tw_101 rfl rfl dX4_holderAhead_41 ?_
              refine lv_aload_n hx hb dX4_holderAhead_44 rfl (lv_at hl 0 rfl) ?_
              refine hp_get (v := .ref (kA κ 11 0)) (C := RX4) (T := TX4) (N := 7) hC inX4 hH lv_4 rfl rfl 0 (by decide) tw_96 rfl rfl dX4_holderAhead_45 ?_
              refine lv_iload_n hx hb dX4_holderAhead_48 rfl (lv_at hl 2 rfl) ?_
              obtain ⟨hi30, hk⟩ := hk
              refine hp_ald (v := gV γ 11 0 ((a2 : Int32).toNatClampNeg)) hC hH lv_11 rfl hi30 rfl dX4_holderAhead_49 ?_
              refine lv_aload_n hx hb dX4_holderAhead_50 rfl (lv_at hl 0 rfl) ?_
              refine hp_get (v := .ref (kA κ 12 0)) (C := RX4) (T := TX4) (N := 7) hC inX4 hH lv_4 rfl rfl 1 (by decide) tw_97 rfl rfl dX4_holderAhead_51 ?_
              refine lv_iload_n hx hb dX4_holderAhead_54 rfl (lv_at hl 2 rfl) ?_
              obtain ⟨hi31, hk⟩ := hk
              refine hp_ald (v := gV γ 12 0 ((a2 : Int32).toNatClampNeg)) hC hH lv_12 rfl hi31 rfl dX4_holderAhead_55 ?_
              refine lv_aload_n hx hb dX4_holderAhead_56 rfl (lv_at hl 0 rfl) ?_
              refine hp_get (v := .ref (kA κ 13 0)) (C := RX4) (T := TX4) (N := 7) hC inX4 hH lv_4 rfl rfl 2 (by decide) tw_98 rfl rfl dX4_holderAhead_57 ?_
              refine lv_iload_n hx hb dX4_holderAhead_60 rfl (lv_at hl 2 rfl) ?_
              obtain ⟨hi32, hk⟩ := hk
              refine hp_ald (v := gV γ 13 0 ((a2 : Int32).toNatClampNeg)) hC hH lv_13 rfl hi32 rfl dX4_holderAhead_61 ?_
              refine k_callV (C := RX6) (T := TX6) (N := 5) (rest := []) hC hl hH hS (c_X6_take l κ γ (gV γ 11 0 ((a2 : Int32).toNatClampNeg)) (gV γ 12 0 ((a2 : Int32).toNatClampNeg)) (gV γ 13 0 ((a2 : Int32).toNatClampNeg))) lv_6 rfl rfl tw_620 tw_621 tw_622 tw_40 tw_623 hd_X6_take ⟨Nat.le_of_ble_eq_true rfl, Nat.le_of_ble_eq_true rfl⟩ rfl rfl rfl rfl (Nat.le_of_ble_eq_true rfl) dX4_holderAhead_62 ⟨Nat.le_of_ble_eq_true rfl, Nat.le_of_ble_eq_true rfl⟩ rfl (fun H locs hH hS => ?_)
              exact b_65 a1 a2 (x_X6_take (gV γ 11 0 ((a2 : Int32).toNatClampNeg)) (gV γ 12 0 ((a2 : Int32).toNatClampNeg)) (gV γ 13 0 ((a2 : Int32).toNatClampNeg)) γ) _ _ _ (lv_sub hl [0, 1, 2] rfl) hH hS hk hq
  have b_7 : ∀ (a1 : Int32) (γ : St) (H : Heap) (locs : List Loc) (ls : Array Slot), lv_has ls 3 [(0, .ref (kA κ 4 0)), (1, .int a1)] → HR κ γ H → va_S (AA κ) s.heap H locs → ok_X4_holderAhead_7 a1 γ → x_X4_holderAhead_7 a1 γ = res → W p l e (headSpec [Cond.code yX4_holderAhead cX4_holderAhead 3 (some .int)] ({ frames := 3, cells := 0, slots := 0, locals := 69 } : Room)).room s m ([.ref (kA κ 4 0), .int y1] : List Value).toArray below meth c H locs 0 0 (MQ below (QQ κ (res.2) (some (.int res.1))) ([.ref (kA κ 4 0), .int y1] : List Value).toArray s 0 0 (AA κ)) (F0 m 7 ls []) := by
    intro a1 γ H locs ls hl hH hS hk hq
    refine lv_iconst (v := 0) hx hb dX4_holderAhead_7 (by decide) ?_
    refine lv_istore_n (lv' := [(2, .int 0), (0, .ref (kA κ 4 0)), (1, .int a1)]) hx hb dX4_holderAhead_8 rfl hl (by decide) rfl (fun ls hl => ?_)
    exact b_9 fu a1 0 γ _ _ _ (lv_sub hl [1, 2, 0] rfl) hH hS hk hq
  refine lv_aload_n hx hb dX4_holderAhead_0 rfl (lv_at hl 0 rfl) ?_
  refine hp_get (v := .ref (kA κ 6 0)) (C := RX4) (T := TX4) (N := 7) hC inX4 hH lv_4 rfl rfl 5 (by decide) tw_101 rfl rfl dX4_holderAhead_1 ?_
  refine k_callV (C := RX6) (T := TX6) (N := 5) (rest := []) hC hl hH hS (c_X6_forget l κ γ) lv_6 rfl rfl tw_616 tw_617 tw_618 tw_40 tw_619 hd_X6_forget ⟨Nat.le_of_ble_eq_true rfl, Nat.le_of_ble_eq_true rfl⟩ rfl rfl rfl rfl (Nat.le_of_ble_eq_true rfl) dX4_holderAhead_4 ⟨Nat.le_of_ble_eq_true rfl, Nat.le_of_ble_eq_true rfl⟩ rfl (fun H locs hH hS => ?_)
  exact b_7 y1 (x_X6_forget γ) _ _ _ (lv_sub hl [0, 1] rfl) hH hS hk hq
