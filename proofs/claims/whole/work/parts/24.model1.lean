set_option maxRecDepth 20000 in
set_option maxHeartbeats 4000000 in
theorem c_X8_thrown (l : Launch) (κ : KP) (γ : St)  : Met l yX8_thrown [Cond.code yX8_thrown cX8_thrown 1 (some .int)] ({ frames := 0, cells := 0, slots := 0, locals := 0 } : Room) (va_Pc [.ref (kA κ 8 0)] (GG κ γ)) (QQ κ γ (some (.int ((x_X8_thrown γ))))) 0 0 (AA κ) := by
  generalize hq : x_X8_thrown γ = res
  refine Met.ofW (cc := cX8_thrown) (maxL := 1) (ret := (some .int)) (by decide) rfl ?_
  intro p e s m args below meth c s₁ B hml9 hv
  obtain ⟨rfl, hH, hK9, hB9, hX9, hZ9⟩ := hv
  have hC : CX κ cX8_thrown "PhrasehallModel" 1 p l s m ([.ref (kA κ 8 0)] : List Value).toArray meth c := ⟨B.exec, B.bytes, findClass_of_methodNamed B.named, fun w hw => tw_use (List.mem_filter.mp hw).2 (State.WarmedH.refl s) (hX9.1 w hw), hK9, hX9, hZ9, hB9, hml9, B.notSynchronized⟩
  obtain ⟨hx, hb, hown, hT, -, -, -, -, hml, -⟩ := id hC
  have hr := B.returns
  have hS : va_S (AA κ) s.heap s.heap [] := va_S.rf
  have hl := lv_entry ([.ref (kA κ 8 0)]) (n := 1) (Nat.le_of_ble_eq_true rfl)
  rw [lg_entry_eq]
  generalize (lg_sl ([.ref (kA κ 8 0)]) ++ List.replicate (1 - (lg_sl ([.ref (kA κ 8 0)])).length) Slot.unset).toArray = ls at hl ⊢
  have hl : lv_has ls 1 [(0, .ref (kA κ 8 0))] := hl
  refine lv_aload_n hx hb dX8_thrown_0 rfl (lv_at hl 0 rfl) ?_
  refine hp_get (v := .int (gV γ 8 0 31)) (C := RX8) (T := TX8) (N := 32) hC inX8 hH lv_8 rfl rfl 31 (by decide) tw_953 rfl rfl dX8_thrown_1 ?_
  subst hq
  exact kr_i hC hr hH hS rfl rfl dX8_thrown_4
set_option maxRecDepth 20000 in
set_option maxHeartbeats 4000000 in
theorem c_X8_isIn (l : Launch) (κ : KP) (γ : St) (y0 : Int32) (y1 : Int32) (y2 : Int32)  : Met l yX8_isIn [Cond.code yX8_isIn cX8_isIn 3 (some .boolean)] ({ frames := 0, cells := 0, slots := 0, locals := 0 } : Room) (va_Pc [.int y0, .int y1, .int y2] (GG κ γ)) (QQ κ γ (some (.int ((x_X8_isIn y0 y1 y2 γ))))) 0 0 (AA κ) := by
  generalize hq : x_X8_isIn y0 y1 y2 γ = res
  refine Met.ofW (cc := cX8_isIn) (maxL := 3) (ret := (some .boolean)) (by decide) rfl ?_
  intro p e s m args below meth c s₁ B hml9 hv
  obtain ⟨rfl, hH, hK9, hB9, hX9, hZ9⟩ := hv
  have hC : CX κ cX8_isIn "PhrasehallModel" 3 p l s m ([.int y0, .int y1, .int y2] : List Value).toArray meth c := ⟨B.exec, B.bytes, findClass_of_methodNamed B.named, fun w hw => tw_use (List.mem_filter.mp hw).2 (State.WarmedH.refl s) (hX9.1 w hw), hK9, hX9, hZ9, hB9, hml9, B.notSynchronized⟩
  obtain ⟨hx, hb, hown, hT, -, -, -, -, hml, -⟩ := id hC
  have hr := B.returns
  have hS : va_S (AA κ) s.heap s.heap [] := va_S.rf
  have hl := lv_entry ([.int y0, .int y1, .int y2]) (n := 3) (Nat.le_of_ble_eq_true rfl)
  rw [lg_entry_eq]
  generalize (lg_sl ([.int y0, .int y1, .int y2]) ++ List.replicate (3 - (lg_sl ([.int y0, .int y1, .int y2])).length) Slot.unset).toArray = ls at hl ⊢
  have hl : lv_has ls 3 [(0, .int y0), (1, .int y1), (2, .int y2)] := hl
  have b_14 : ∀ (H : Heap) (locs : List Loc) (ls : Array Slot), lv_has ls 3 [] → HR κ γ H → va_S (AA κ) s.heap H locs → x_X8_isIn_14 γ = res → W p l e (headSpec [Cond.code yX8_isIn cX8_isIn 3 (some .boolean)] ({ frames := 0, cells := 0, slots := 0, locals := 0 } : Room)).room s m ([.int y0, .int y1, .int y2] : List Value).toArray below meth c H locs 0 0 (MQ below (QQ κ γ (some (.int res))) ([.int y0, .int y1, .int y2] : List Value).toArray s 0 0 (AA κ)) (F0 m 14 ls []) := by
    intro  H locs ls hl hH hS hq
    refine lv_iconst (v := 0) hx hb dX8_isIn_14 (by decide) ?_
    subst hq
    exact kr_z hC hr rfl hH hS rfl rfl dX8_isIn_15
  refine lv_iload_n hx hb dX8_isIn_0 rfl (lv_at hl 0 rfl) ?_
  refine lv_iload_n hx hb dX8_isIn_1 rfl (lv_at hl 1 rfl) ?_
  refine lv_icmp_lt (tgt := 14) hx hb dX8_isIn_2 (by decide) (fun c7 => ?_) (fun c7 => ?_)
  · have hq := ifpe hq c7
    exact b_14 _ _ _ (lv_sub hl [] rfl) hH hS hq
  · have hq := ifne hq c7
    refine lv_iload_n hx hb dX8_isIn_5 rfl (lv_at hl 0 rfl) ?_
    refine lv_iload_n hx hb dX8_isIn_6 rfl (lv_at hl 2 rfl) ?_
    refine lv_icmp_gt (tgt := 14) hx hb dX8_isIn_7 (by decide) (fun c8 => ?_) (fun c8 => ?_)
    · have hq := ifpe hq c8
      exact b_14 _ _ _ (lv_sub hl [] rfl) hH hS hq
    · have hq := ifne hq c8
      refine lv_iconst (v := 1) hx hb dX8_isIn_10 (by decide) ?_
      refine lv_goto (tgt := 15) hx hb dX8_isIn_11 (by decide) ?_
      subst hq
      exact kr_z hC hr rfl hH hS rfl rfl dX8_isIn_15
set_option maxRecDepth 20000 in
set_option maxHeartbeats 4000000 in
theorem c_X8_isFencer (l : Launch) (κ : KP) (γ : St) (y1 : Int32)  : Met l yX8_isFencer [Cond.code yX8_isFencer cX8_isFencer 2 (some .boolean)] ({ frames := 1, cells := 0, slots := 0, locals := 22 } : Room) (va_Pc [.ref (kA κ 8 0), .int y1] (GG κ γ)) (QQ κ γ (some (.int ((x_X8_isFencer y1 γ))))) 0 0 (AA κ) := by
  generalize hq : x_X8_isFencer y1 γ = res
  refine Met.ofW (cc := cX8_isFencer) (maxL := 2) (ret := (some .boolean)) (by decide) rfl ?_
  intro p e s m args below meth c s₁ B hml9 hv
  obtain ⟨rfl, hH, hK9, hB9, hX9, hZ9⟩ := hv
  have hC : CX κ cX8_isFencer "PhrasehallModel" 2 p l s m ([.ref (kA κ 8 0), .int y1] : List Value).toArray meth c := ⟨B.exec, B.bytes, findClass_of_methodNamed B.named, fun w hw => tw_use (List.mem_filter.mp hw).2 (State.WarmedH.refl s) (hX9.1 w hw), hK9, hX9, hZ9, hB9, hml9, B.notSynchronized⟩
  obtain ⟨hx, hb, hown, hT, -, -, -, -, hml, -⟩ := id hC
  have hr := B.returns
  have hS : va_S (AA κ) s.heap s.heap [] := va_S.rf
  have hl := lv_entry ([.ref (kA κ 8 0), .int y1]) (n := 2) (Nat.le_of_ble_eq_true rfl)
  rw [lg_entry_eq]
  generalize (lg_sl ([.ref (kA κ 8 0), .int y1]) ++ List.replicate (2 - (lg_sl ([.ref (kA κ 8 0), .int y1])).length) Slot.unset).toArray = ls at hl ⊢
  have hl : lv_has ls 2 [(0, .ref (kA κ 8 0)), (1, .int y1)] := hl
  refine lv_iload_n hx hb dX8_isFencer_0 rfl (lv_at hl 1 rfl) ?_
  refine lv_iconst (v := 0) hx hb dX8_isFencer_1 (by decide) ?_
  refine lv_aload_n hx hb dX8_isFencer_2 rfl (lv_at hl 0 rfl) ?_
  refine hp_get (v := .int (gV γ 8 0 0)) (C := RX8) (T := TX8) (N := 32) hC inX8 hH lv_8 rfl rfl 0 (by decide) tw_922 rfl rfl dX8_isFencer_3 ?_
  refine lv_iconst (v := 1) hx hb dX8_isFencer_6 (by decide) ?_
  refine lv_isub hx hb dX8_isFencer_7 ?_
  refine k_callS (rest := []) hC hl hH hS (c_X8_isIn l κ γ y1 0 ((gV γ 8 0 0) - 1)) tw_1036 tw_1037 tw_62 tw_1038 hd_X8_isIn ⟨Nat.le_of_ble_eq_true rfl, Nat.le_of_ble_eq_true rfl⟩ rfl rfl rfl rfl (Nat.le_of_ble_eq_true rfl) dX8_isFencer_8 ⟨Nat.le_of_ble_eq_true rfl, Nat.le_of_ble_eq_true rfl⟩ rfl (fun H locs hH hS => ?_)
  subst hq
  exact kr_z hC hr (zN_eq _) hH hS rfl rfl dX8_isFencer_11
set_option maxRecDepth 20000 in
set_option maxHeartbeats 4000000 in
theorem c_X8_isPool (l : Launch) (κ : KP) (γ : St) (y1 : Int32)  : Met l yX8_isPool [Cond.code yX8_isPool cX8_isPool 2 (some .boolean)] ({ frames := 1, cells := 0, slots := 0, locals := 22 } : Room) (va_Pc [.ref (kA κ 8 0), .int y1] (GG κ γ)) (QQ κ γ (some (.int ((x_X8_isPool y1 γ))))) 0 0 (AA κ) := by
  generalize hq : x_X8_isPool y1 γ = res
  refine Met.ofW (cc := cX8_isPool) (maxL := 2) (ret := (some .boolean)) (by decide) rfl ?_
  intro p e s m args below meth c s₁ B hml9 hv
  obtain ⟨rfl, hH, hK9, hB9, hX9, hZ9⟩ := hv
  have hC : CX κ cX8_isPool "PhrasehallModel" 2 p l s m ([.ref (kA κ 8 0), .int y1] : List Value).toArray meth c := ⟨B.exec, B.bytes, findClass_of_methodNamed B.named, fun w hw => tw_use (List.mem_filter.mp hw).2 (State.WarmedH.refl s) (hX9.1 w hw), hK9, hX9, hZ9, hB9, hml9, B.notSynchronized⟩
  obtain ⟨hx, hb, hown, hT, -, -, -, -, hml, -⟩ := id hC
  have hr := B.returns
  have hS : va_S (AA κ) s.heap s.heap [] := va_S.rf
  have hl := lv_entry ([.ref (kA κ 8 0), .int y1]) (n := 2) (Nat.le_of_ble_eq_true rfl)
  rw [lg_entry_eq]
  generalize (lg_sl ([.ref (kA κ 8 0), .int y1]) ++ List.replicate (2 - (lg_sl ([.ref (kA κ 8 0), .int y1])).length) Slot.unset).toArray = ls at hl ⊢
  have hl : lv_has ls 2 [(0, .ref (kA κ 8 0)), (1, .int y1)] := hl
  refine lv_iload_n hx hb dX8_isPool_0 rfl (lv_at hl 1 rfl) ?_
  refine lv_iconst (v := 0) hx hb dX8_isPool_1 (by decide) ?_
  refine lv_aload_n hx hb dX8_isPool_2 rfl (lv_at hl 0 rfl) ?_
  refine hp_get (v := .int (gV γ 8 0 23)) (C := RX8) (T := TX8) (N := 32) hC inX8 hH lv_8 rfl rfl 23 (by decide) tw_945 rfl rfl dX8_isPool_3 ?_
  refine lv_iconst (v := 1) hx hb dX8_isPool_6 (by decide) ?_
  refine lv_isub hx hb dX8_isPool_7 ?_
  refine k_callS (rest := []) hC hl hH hS (c_X8_isIn l κ γ y1 0 ((gV γ 8 0 23) - 1)) tw_1036 tw_1037 tw_62 tw_1038 hd_X8_isIn ⟨Nat.le_of_ble_eq_true rfl, Nat.le_of_ble_eq_true rfl⟩ rfl rfl rfl rfl (Nat.le_of_ble_eq_true rfl) dX8_isPool_8 ⟨Nat.le_of_ble_eq_true rfl, Nat.le_of_ble_eq_true rfl⟩ rfl (fun H locs hH hS => ?_)
  subst hq
  exact kr_z hC hr (zN_eq _) hH hS rfl rfl dX8_isPool_11
set_option maxRecDepth 20000 in
set_option maxHeartbeats 4000000 in
theorem c_X8_has (l : Launch) (κ : KP) (γ : St) (y0 : Int32) (y1 : Int32)  : Met l yX8_has [Cond.code yX8_has cX8_has 2 (some .boolean)] ({ frames := 0, cells := 0, slots := 0, locals := 0 } : Room) (va_Pc [.int y0, .int y1] (GG κ γ)) (QQ κ γ (some (.int ((x_X8_has y0 y1 γ))))) 0 0 (AA κ) := by
  generalize hq : x_X8_has y0 y1 γ = res
  refine Met.ofW (cc := cX8_has) (maxL := 2) (ret := (some .boolean)) (by decide) rfl ?_
  intro p e s m args below meth c s₁ B hml9 hv
  obtain ⟨rfl, hH, hK9, hB9, hX9, hZ9⟩ := hv
  have hC : CX κ cX8_has "PhrasehallModel" 2 p l s m ([.int y0, .int y1] : List Value).toArray meth c := ⟨B.exec, B.bytes, findClass_of_methodNamed B.named, fun w hw => tw_use (List.mem_filter.mp hw).2 (State.WarmedH.refl s) (hX9.1 w hw), hK9, hX9, hZ9, hB9, hml9, B.notSynchronized⟩
  obtain ⟨hx, hb, hown, hT, -, -, -, -, hml, -⟩ := id hC
  have hr := B.returns
  have hS : va_S (AA κ) s.heap s.heap [] := va_S.rf
  have hl := lv_entry ([.int y0, .int y1]) (n := 2) (Nat.le_of_ble_eq_true rfl)
  rw [lg_entry_eq]
  generalize (lg_sl ([.int y0, .int y1]) ++ List.replicate (2 - (lg_sl ([.int y0, .int y1])).length) Slot.unset).toArray = ls at hl ⊢
  have hl : lv_has ls 2 [(0, .int y0), (1, .int y1)] := hl
  refine lv_iload_n hx hb dX8_has_0 rfl (lv_at hl 0 rfl) ?_
  refine lv_iload_n hx hb dX8_has_1 rfl (lv_at hl 1 rfl) ?_
  refine lv_ishr hx hb dX8_has_2 ?_
  refine lv_iconst (v := 1) hx hb dX8_has_3 (by decide) ?_
  refine lv_iand hx hb dX8_has_4 ?_
  refine lv_iconst (v := 1) hx hb dX8_has_5 (by decide) ?_
  refine lv_icmp_ne (tgt := 13) hx hb dX8_has_6 (by decide) (fun c3 => ?_) (fun c3 => ?_)
  · have hq := ifne hq c3
    refine lv_iconst (v := 0) hx hb dX8_has_13 (by decide) ?_
    subst hq
    exact kr_z hC hr rfl hH hS rfl rfl dX8_has_14
  · have hq := ifpe hq c3
    refine lv_iconst (v := 1) hx hb dX8_has_9 (by decide) ?_
    refine lv_goto (tgt := 14) hx hb dX8_has_10 (by decide) ?_
    subst hq
    exact kr_z hC hr rfl hH hS rfl rfl dX8_has_14
set_option maxRecDepth 20000 in
set_option maxHeartbeats 4000000 in
theorem c_X8_fencer (l : Launch) (κ : KP) (γ : St)  : Met l yX8_fencer [Cond.code yX8_fencer cX8_fencer 1 (some .int)] ({ frames := 0, cells := 0, slots := 0, locals := 0 } : Room) (va_Pc [.ref (kA κ 8 0)] (GG κ γ)) (QQ κ (((x_X8_fencer γ)).2) (some (.int (((x_X8_fencer γ)).1)))) 0 0 (AA κ) := by
  generalize hq : x_X8_fencer γ = res
  refine Met.ofW (cc := cX8_fencer) (maxL := 1) (ret := (some .int)) (by decide) rfl ?_
  intro p e s m args below meth c s₁ B hml9 hv
  obtain ⟨rfl, hH, hK9, hB9, hX9, hZ9⟩ := hv
  have hC : CX κ cX8_fencer "PhrasehallModel" 1 p l s m ([.ref (kA κ 8 0)] : List Value).toArray meth c := ⟨B.exec, B.bytes, findClass_of_methodNamed B.named, fun w hw => tw_use (List.mem_filter.mp hw).2 (State.WarmedH.refl s) (hX9.1 w hw), hK9, hX9, hZ9, hB9, hml9, B.notSynchronized⟩
  obtain ⟨hx, hb, hown, hT, -, -, -, -, hml, -⟩ := id hC
  have hr := B.returns
  have hS : va_S (AA κ) s.heap s.heap [] := va_S.rf
  have hl := lv_entry ([.ref (kA κ 8 0)]) (n := 1) (Nat.le_of_ble_eq_true rfl)
  rw [lg_entry_eq]
  generalize (lg_sl ([.ref (kA κ 8 0)]) ++ List.replicate (1 - (lg_sl ([.ref (kA κ 8 0)])).length) Slot.unset).toArray = ls at hl ⊢
  have hl : lv_has ls 1 [(0, .ref (kA κ 8 0))] := hl
  have b_15 : ∀ (s0 : Int32) (γ : St) (H : Heap) (locs : List Loc) (ls : Array Slot), lv_has ls 1 [(0, .ref (kA κ 8 0))] → HR κ γ H → va_S (AA κ) s.heap H locs → x_X8_fencer_15 s0 γ = res → W p l e (headSpec [Cond.code yX8_fencer cX8_fencer 1 (some .int)] ({ frames := 0, cells := 0, slots := 0, locals := 0 } : Room)).room s m ([.ref (kA κ 8 0)] : List Value).toArray below meth c H locs 0 0 (MQ below (QQ κ (res.2) (some (.int res.1))) ([.ref (kA κ 8 0)] : List Value).toArray s 0 0 (AA κ)) (F0 m 15 ls [.int s0, .ref (kA κ 8 0)]) := by
    intro s0 γ H locs ls hl hH hS hq
    refine hp_put (v := .int s0) (C := RX8) (T := TX8) (N := 32) hC inX8 tyX8_ok nmX8 hH lv_8 rfl hS rfl 31 (by decide) tw_953 rfl rfl rfl rfl (Nat.le_of_ble_eq_true rfl) (sV γ 8 0 31 s0) (pe_8_31 _ _ 0 s0) (fun _ _ _ h => cel_sV h) (WT_sV hH.wt) dX8_fencer_15 (fun H locs hH hS => ?_)
    refine lv_aload_n hx hb dX8_fencer_18 rfl (lv_at hl 0 rfl) ?_
    refine hp_get (v := .int s0) (C := RX8) (T := TX8) (N := 32) hC inX8 hH lv_8 rfl rfl 31 (by decide) tw_953 rfl rfl dX8_fencer_19 ?_
    refine lv_if_le (tgt := 27) hx hb dX8_fencer_22 (by decide) (fun c7 => ?_) (fun c7 => ?_)
    · have hq := ifpe hq c7
      refine lv_aload_n hx hb dX8_fencer_27 rfl (lv_at hl 0 rfl) ?_
      refine lv_dup hx hb dX8_fencer_28 rfl ?_
      refine hp_get (v := .int (gV γ 8 0 0)) (C := RX8) (T := TX8) (N := 32) hC inX8 hH lv_8 rfl rfl 0 (by decide) tw_922 rfl rfl dX8_fencer_29 ?_
      refine lv_iconst (v := 1) hx hb dX8_fencer_32 (by decide) ?_
      refine lv_iadd hx hb dX8_fencer_33 ?_
      refine hp_put (v := .int ((gV γ 8 0 0) + 1)) (C := RX8) (T := TX8) (N := 32) hC inX8 tyX8_ok nmX8 hH lv_8 rfl hS rfl 0 (by decide) tw_922 rfl rfl rfl rfl (Nat.le_of_ble_eq_true rfl) (sV (sV γ 8 0 31 s0) 8 0 0 ((gV γ 8 0 0) + 1)) (pe_8_0 _ _ 0 ((gV γ 8 0 0) + 1)) (fun _ _ _ h => cel_sV h) (WT_sV hH.wt) dX8_fencer_34 (fun H locs hH hS => ?_)
      refine lv_aload_n hx hb dX8_fencer_37 rfl (lv_at hl 0 rfl) ?_
      refine hp_get (v := .int ((gV γ 8 0 0) + 1)) (C := RX8) (T := TX8) (N := 32) hC inX8 hH lv_8 rfl rfl 0 (by decide) tw_922 rfl rfl dX8_fencer_38 ?_
      refine lv_iconst (v := 1) hx hb dX8_fencer_41 (by decide) ?_
      refine lv_isub hx hb dX8_fencer_42 ?_
      subst hq
      exact kr_i hC hr hH hS rfl rfl dX8_fencer_43
    · have hq := ifne hq c7
      refine lv_iconst (v := 0) hx hb dX8_fencer_25 (by decide) ?_
      subst hq
      exact kr_i hC hr hH hS rfl rfl dX8_fencer_26
  refine lv_aload_n hx hb dX8_fencer_0 rfl (lv_at hl 0 rfl) ?_
  refine lv_aload_n hx hb dX8_fencer_1 rfl (lv_at hl 0 rfl) ?_
  refine hp_get (v := .int (gV γ 8 0 0)) (C := RX8) (T := TX8) (N := 32) hC inX8 hH lv_8 rfl rfl 0 (by decide) tw_922 rfl rfl dX8_fencer_2 ?_
  refine lv_bipush (v := 12) hx hb dX8_fencer_5 (by decide) ?_
  refine lv_icmp_ne (tgt := 14) hx hb dX8_fencer_7 (by decide) (fun c8 => ?_) (fun c8 => ?_)
  · have hq := ifne hq c8
    refine lv_iconst (v := 0) hx hb dX8_fencer_14 (by decide) ?_
    exact b_15 0 γ _ _ _ (lv_sub hl [0] rfl) hH hS hq
  · have hq := ifpe hq c8
    refine lv_iconst (v := 1) hx hb dX8_fencer_10 (by decide) ?_
    refine lv_goto (tgt := 15) hx hb dX8_fencer_11 (by decide) ?_
    exact b_15 1 γ _ _ _ (lv_sub hl [0] rfl) hH hS hq
set_option maxRecDepth 20000 in
set_option maxHeartbeats 4000000 in
theorem c_X8_begin (l : Launch) (κ : KP) (γ : St) (y1 : Int32) (y2 : Int32) (y3 : Int32) (y4 : Int32) (y5 : Int32) (hk : ok_X8_begin y1 y2 y3 y4 y5 γ) : Met l yX8_begin [Cond.code yX8_begin cX8_begin 9 (some .int)] ({ frames := 2, cells := 0, slots := 0, locals := 43 } : Room) (va_Pc [.ref (kA κ 8 0), .int y1, .int y2, .int y3, .int y4, .int y5] (GG κ γ)) (QQ κ (((x_X8_begin y1 y2 y3 y4 y5 γ)).2) (some (.int (((x_X8_begin y1 y2 y3 y4 y5 γ)).1)))) 0 0 (AA κ) := by
  generalize hq : x_X8_begin y1 y2 y3 y4 y5 γ = res
  refine Met.ofW (cc := cX8_begin) (maxL := 9) (ret := (some .int)) (by decide) rfl ?_
  intro p e s m args below meth c s₁ B hml9 hv
  obtain ⟨rfl, hH, hK9, hB9, hX9, hZ9⟩ := hv
  have hC : CX κ cX8_begin "PhrasehallModel" 9 p l s m ([.ref (kA κ 8 0), .int y1, .int y2, .int y3, .int y4, .int y5] : List Value).toArray meth c := ⟨B.exec, B.bytes, findClass_of_methodNamed B.named, fun w hw => tw_use (List.mem_filter.mp hw).2 (State.WarmedH.refl s) (hX9.1 w hw), hK9, hX9, hZ9, hB9, hml9, B.notSynchronized⟩
  obtain ⟨hx, hb, hown, hT, -, -, -, -, hml, -⟩ := id hC
  have hr := B.returns
  have hS : va_S (AA κ) s.heap s.heap [] := va_S.rf
  have hl := lv_entry ([.ref (kA κ 8 0), .int y1, .int y2, .int y3, .int y4, .int y5]) (n := 9) (Nat.le_of_ble_eq_true rfl)
  rw [lg_entry_eq]
  generalize (lg_sl ([.ref (kA κ 8 0), .int y1, .int y2, .int y3, .int y4, .int y5]) ++ List.replicate (9 - (lg_sl ([.ref (kA κ 8 0), .int y1, .int y2, .int y3, .int y4, .int y5])).length) Slot.unset).toArray = ls at hl ⊢
  have hl : lv_has ls 9 [(0, .ref (kA κ 8 0)), (1, .int y1), (2, .int y2), (3, .int y3), (4, .int y4), (5, .int y5)] := hl
  have b_299 : ∀ (k299 : Nat) (a8 : Int32) (γ : St) (H : Heap) (locs : List Loc) (ls : Array Slot), lv_has ls 9 [(0, .ref (kA κ 8 0)), (8, .int a8)] → HR κ γ H → va_S (AA κ) s.heap H locs → ok_X8_begin_299 k299 a8 γ → x_X8_begin_299 k299 a8 γ = res → W p l e (headSpec [Cond.code yX8_begin cX8_begin 9 (some .int)] ({ frames := 2, cells := 0, slots := 0, locals := 43 } : Room)).room s m ([.ref (kA κ 8 0), .int y1, .int y2, .int y3, .int y4, .int y5] : List Value).toArray below meth c H locs 0 0 (MQ below (QQ κ (res.2) (some (.int res.1))) ([.ref (kA κ 8 0), .int y1, .int y2, .int y3, .int y4, .int y5] : List Value).toArray s 0 0 (AA κ)) (F0 m 299 ls []) := by
    intro k299
    induction k299 with
    | zero =>
      intro a8 γ H locs ls hl hH hS hk hq
      exact (show False from hk).elim
    | succ k299 ih_299 =>
      intro a8 γ H locs ls hl hH hS hk hq
      refine lv_iload hx hb dX8_begin_299 (lv_at hl 1 rfl) ?_
      refine lv_iconst (v := 2) hx hb dX8_begin_301 (by decide) ?_
      refine lv_icmp_ge (tgt := 327) hx hb dX8_begin_302 (by decide) (fun c100 => ?_) (fun c100 => ?_)
      · have hk := ifp hk c100
        have hq := ifpe hq c100
        refine lv_aload_n hx hb dX8_begin_327 rfl (lv_at hl 0 rfl) ?_
        refine lv_iconst (v := 0) hx hb dX8_begin_328 (by decide) ?_
        refine hp_put (v := .int 0) (C := RX8) (T := TX8) (N := 32) hC inX8 tyX8_ok nmX8 hH lv_8 rfl hS rfl 17 (by decide) tw_939 rfl rfl rfl rfl (Nat.le_of_ble_eq_true rfl) (sV γ 8 0 17 0) (pe_8_17 _ _ 0 0) (fun _ _ _ h => cel_sV h) (WT_sV hH.wt) dX8_begin_329 (fun H locs hH hS => ?_)
        refine lv_aload_n hx hb dX8_begin_332 rfl (lv_at hl 0 rfl) ?_
        refine lv_dup hx hb dX8_begin_333 rfl ?_
        refine hp_get (v := .int (gV γ 8 0 3)) (C := RX8) (T := TX8) (N := 32) hC inX8 hH lv_8 rfl rfl 3 (by decide) tw_925 rfl rfl dX8_begin_334 ?_
        refine lv_iconst (v := 1) hx hb dX8_begin_337 (by decide) ?_
        refine lv_iadd hx hb dX8_begin_338 ?_
        refine hp_put (v := .int ((gV γ 8 0 3) + 1)) (C := RX8) (T := TX8) (N := 32) hC inX8 tyX8_ok nmX8 hH lv_8 rfl hS rfl 3 (by decide) tw_925 rfl rfl rfl rfl (Nat.le_of_ble_eq_true rfl) (sV (sV γ 8 0 17 0) 8 0 3 ((gV γ 8 0 3) + 1)) (pe_8_3 _ _ 0 ((gV γ 8 0 3) + 1)) (fun _ _ _ h => cel_sV h) (WT_sV hH.wt) dX8_begin_339 (fun H locs hH hS => ?_)
        refine lv_aload_n hx hb dX8_begin_342 rfl (lv_at hl 0 rfl) ?_
        refine hp_get (v := .int (gV γ 8 0 4)) (C := RX8) (T := TX8) (N := 32) hC inX8 hH lv_8 rfl rfl 4 (by decide) tw_926 rfl rfl dX8_begin_343 ?_
        subst hq
        exact kr_i hC hr hH hS rfl rfl dX8_begin_346
      · have hk := ifn hk c100
        have hq := ifne hq c100
        refine lv_aload_n hx hb dX8_begin_305 rfl (lv_at hl 0 rfl) ?_
        refine hp_get (v := .ref (kA κ 29 0)) (C := RX8) (T := TX8) (N := 32) hC inX8 hH lv_8 rfl rfl 15 (by decide) tw_937 rfl rfl dX8_begin_306 ?_
        refine lv_iload hx hb dX8_begin_309 (lv_at hl 1 rfl) ?_
        refine lv_iconst (v := 0) hx hb dX8_begin_311 (by decide) ?_
        obtain ⟨hi101, hk⟩ := hk
        refine hp_ast hC hH lv_29 (fun _ => rfl) hS hi101 dX8_begin_312 (fun H locs hH hS => ?_)
        refine lv_aload_n hx hb dX8_begin_313 rfl (lv_at hl 0 rfl) ?_
        refine hp_get (v := .ref (kA κ 30 0)) (C := RX8) (T := TX8) (N := 32) hC inX8 hH lv_8 rfl rfl 16 (by decide) tw_938 rfl rfl dX8_begin_314 ?_
        refine lv_iload hx hb dX8_begin_317 (lv_at hl 1 rfl) ?_
        refine lv_iconst (v := 0) hx hb dX8_begin_319 (by decide) ?_
        obtain ⟨hi102, hk⟩ := hk
        refine hp_zst hC hH lv_30 (fun _ => rfl) hS hi102 dX8_begin_320 (fun H locs hH hS => ?_)
        refine lv_iinc (v := a8 + 1) (lv' := [(8, .int (a8 + 1)), (0, .ref (kA κ 8 0))]) hx hb dX8_begin_321 hl (k := 1) rfl rfl (by decide) rfl (fun ls hl => ?_)
        refine lv_goto (tgt := 299) hx hb dX8_begin_324 (by decide) ?_
        exact ih_299 (a8 + 1) (sV (sV γ 29 0 ((a8 : Int32).toNatClampNeg) 0) 30 0 ((a8 : Int32).toNatClampNeg) (vp_nar .boolean 0)) _ _ _ (lv_sub hl [1, 0] rfl) hH hS hk hq
  have b_193 : ∀ (a1 : Int32) (a2 : Int32) (a3 : Int32) (a4 : Int32) (a5 : Int32) (s0 : Int32) (γ : St) (H : Heap) (locs : List Loc) (ls : Array Slot), lv_has ls 9 [(0, .ref (kA κ 8 0)), (1, .int a1), (2, .int a2), (3, .int a3), (4, .int a4), (5, .int a5)] → HR κ γ H → va_S (AA κ) s.heap H locs → ok_X8_begin_193 a1 a2 a3 a4 a5 s0 γ → x_X8_begin_193 a1 a2 a3 a4 a5 s0 γ = res → W p l e (headSpec [Cond.code yX8_begin cX8_begin 9 (some .int)] ({ frames := 2, cells := 0, slots := 0, locals := 43 } : Room)).room s m ([.ref (kA κ 8 0), .int y1, .int y2, .int y3, .int y4, .int y5] : List Value).toArray below meth c H locs 0 0 (MQ below (QQ κ (res.2) (some (.int res.1))) ([.ref (kA κ 8 0), .int y1, .int y2, .int y3, .int y4, .int y5] : List Value).toArray s 0 0 (AA κ)) (F0 m 193 ls [.int s0, .ref (kA κ 8 0)]) := by
    intro a1 a2 a3 a4 a5 s0 γ H locs ls hl hH hS hk hq
    refine hp_put (v := .int s0) (C := RX8) (T := TX8) (N := 32) hC inX8 tyX8_ok nmX8 hH lv_8 rfl hS rfl 31 (by decide) tw_953 rfl rfl rfl rfl (Nat.le_of_ble_eq_true rfl) (sV γ 8 0 31 s0) (pe_8_31 _ _ 0 s0) (fun _ _ _ h => cel_sV h) (WT_sV hH.wt) dX8_begin_193 (fun H locs hH hS => ?_)
    refine lv_aload_n hx hb dX8_begin_196 rfl (lv_at hl 0 rfl) ?_
    refine hp_get (v := .int s0) (C := RX8) (T := TX8) (N := 32) hC inX8 hH lv_8 rfl rfl 31 (by decide) tw_953 rfl rfl dX8_begin_197 ?_
    refine lv_if_le (tgt := 205) hx hb dX8_begin_200 (by decide) (fun c103 => ?_) (fun c103 => ?_)
    · have hk := ifp hk c103
      have hq := ifpe hq c103
      refine lv_aload_n hx hb dX8_begin_205 rfl (lv_at hl 0 rfl) ?_
      refine hp_get (v := .ref (kA κ 20 0)) (C := RX8) (T := TX8) (N := 32) hC inX8 hH lv_8 rfl rfl 5 (by decide) tw_927 rfl rfl dX8_begin_206 ?_
      refine lv_iconst (v := 2) hx hb dX8_begin_209 (by decide) ?_
      refine lv_aload_n hx hb dX8_begin_210 rfl (lv_at hl 0 rfl) ?_
      refine hp_get (v := .int (gV γ 8 0 3)) (C := RX8) (T := TX8) (N := 32) hC inX8 hH lv_8 rfl rfl 3 (by decide) tw_925 rfl rfl dX8_begin_211 ?_
      refine lv_imul hx hb dX8_begin_214 ?_
      refine lv_iload_n hx hb dX8_begin_215 rfl (lv_at hl 1 rfl) ?_
      obtain ⟨hi104, hk⟩ := hk
      refine hp_ast hC hH lv_20 (fun _ => rfl) hS hi104 dX8_begin_216 (fun H locs hH hS => ?_)
      refine lv_aload_n hx hb dX8_begin_217 rfl (lv_at hl 0 rfl) ?_
      refine hp_get (v := .ref (kA κ 20 0)) (C := RX8) (T := TX8) (N := 32) hC inX8 hH lv_8 rfl rfl 5 (by decide) tw_927 rfl rfl dX8_begin_218 ?_
      refine lv_iconst (v := 2) hx hb dX8_begin_221 (by decide) ?_
      refine lv_aload_n hx hb dX8_begin_222 rfl (lv_at hl 0 rfl) ?_
      refine hp_get (v := .int (gV γ 8 0 3)) (C := RX8) (T := TX8) (N := 32) hC inX8 hH lv_8 rfl rfl 3 (by decide) tw_925 rfl rfl dX8_begin_223 ?_
      refine lv_imul hx hb dX8_begin_226 ?_
      refine lv_iconst (v := 1) hx hb dX8_begin_227 (by decide) ?_
      refine lv_iadd hx hb dX8_begin_228 ?_
      refine lv_iload_n hx hb dX8_begin_229 rfl (lv_at hl 2 rfl) ?_
      obtain ⟨hi105, hk⟩ := hk
      refine hp_ast hC hH lv_20 (fun _ => rfl) hS hi105 dX8_begin_230 (fun H locs hH hS => ?_)
      refine lv_aload_n hx hb dX8_begin_231 rfl (lv_at hl 0 rfl) ?_
      refine hp_get (v := .ref (kA κ 22 0)) (C := RX8) (T := TX8) (N := 32) hC inX8 hH lv_8 rfl rfl 7 (by decide) tw_929 rfl rfl dX8_begin_232 ?_
      refine lv_aload_n hx hb dX8_begin_235 rfl (lv_at hl 0 rfl) ?_
      refine hp_get (v := .int (gV γ 8 0 3)) (C := RX8) (T := TX8) (N := 32) hC inX8 hH lv_8 rfl rfl 3 (by decide) tw_925 rfl rfl dX8_begin_236 ?_
      refine lv_iload_n hx hb dX8_begin_239 rfl (lv_at hl 3 rfl) ?_
      obtain ⟨hi106, hk⟩ := hk
      refine hp_ast hC hH lv_22 (fun _ => rfl) hS hi106 dX8_begin_240 (fun H locs hH hS => ?_)
      refine lv_aload_n hx hb dX8_begin_241 rfl (lv_at hl 0 rfl) ?_
      refine hp_get (v := .ref (kA κ 23 0)) (C := RX8) (T := TX8) (N := 32) hC inX8 hH lv_8 rfl rfl 8 (by decide) tw_930 rfl rfl dX8_begin_242 ?_
      refine lv_aload_n hx hb dX8_begin_245 rfl (lv_at hl 0 rfl) ?_
      refine hp_get (v := .int (gV γ 8 0 3)) (C := RX8) (T := TX8) (N := 32) hC inX8 hH lv_8 rfl rfl 3 (by decide) tw_925 rfl rfl dX8_begin_246 ?_
      refine lv_iload hx hb dX8_begin_249 (lv_at hl 4 rfl) ?_
      obtain ⟨hi107, hk⟩ := hk
      refine hp_ast hC hH lv_23 (fun _ => rfl) hS hi107 dX8_begin_251 (fun H locs hH hS => ?_)
      refine lv_aload_n hx hb dX8_begin_252 rfl (lv_at hl 0 rfl) ?_
      refine hp_get (v := .ref (kA κ 24 0)) (C := RX8) (T := TX8) (N := 32) hC inX8 hH lv_8 rfl rfl 9 (by decide) tw_931 rfl rfl dX8_begin_253 ?_
      refine lv_aload_n hx hb dX8_begin_256 rfl (lv_at hl 0 rfl) ?_
      refine hp_get (v := .int (gV γ 8 0 3)) (C := RX8) (T := TX8) (N := 32) hC inX8 hH lv_8 rfl rfl 3 (by decide) tw_925 rfl rfl dX8_begin_257 ?_
      refine lv_iload hx hb dX8_begin_260 (lv_at hl 5 rfl) ?_
      obtain ⟨hi108, hk⟩ := hk
      refine hp_ast hC hH lv_24 (fun _ => rfl) hS hi108 dX8_begin_262 (fun H locs hH hS => ?_)
      refine lv_aload_n hx hb dX8_begin_263 rfl (lv_at hl 0 rfl) ?_
      refine hp_get (v := .ref (kA κ 25 0)) (C := RX8) (T := TX8) (N := 32) hC inX8 hH lv_8 rfl rfl 10 (by decide) tw_932 rfl rfl dX8_begin_264 ?_
      refine lv_aload_n hx hb dX8_begin_267 rfl (lv_at hl 0 rfl) ?_
      refine hp_get (v := .int (gV γ 8 0 3)) (C := RX8) (T := TX8) (N := 32) hC inX8 hH lv_8 rfl rfl 3 (by decide) tw_925 rfl rfl dX8_begin_268 ?_
      refine lv_iconst (v := (-1)) hx hb dX8_begin_271 (by decide) ?_
      obtain ⟨hi109, hk⟩ := hk
      refine hp_ast hC hH lv_25 (fun _ => rfl) hS hi109 dX8_begin_272 (fun H locs hH hS => ?_)
      refine lv_aload_n hx hb dX8_begin_273 rfl (lv_at hl 0 rfl) ?_
      refine hp_get (v := .ref (kA κ 28 0)) (C := RX8) (T := TX8) (N := 32) hC inX8 hH lv_8 rfl rfl 13 (by decide) tw_935 rfl rfl dX8_begin_274 ?_
      refine lv_aload_n hx hb dX8_begin_277 rfl (lv_at hl 0 rfl) ?_
      refine hp_get (v := .int (gV γ 8 0 3)) (C := RX8) (T := TX8) (N := 32) hC inX8 hH lv_8 rfl rfl 3 (by decide) tw_925 rfl rfl dX8_begin_278 ?_
      refine lv_iconst (v := (-1)) hx hb dX8_begin_281 (by decide) ?_
      obtain ⟨hi110, hk⟩ := hk
      refine hp_ast hC hH lv_28 (fun _ => rfl) hS hi110 dX8_begin_282 (fun H locs hH hS => ?_)
      refine lv_aload_n hx hb dX8_begin_283 rfl (lv_at hl 0 rfl) ?_
      refine lv_aload_n hx hb dX8_begin_284 rfl (lv_at hl 0 rfl) ?_
      refine hp_get (v := .int (gV γ 8 0 3)) (C := RX8) (T := TX8) (N := 32) hC inX8 hH lv_8 rfl rfl 3 (by decide) tw_925 rfl rfl dX8_begin_285 ?_
      refine hp_put (v := .int (gV γ 8 0 3)) (C := RX8) (T := TX8) (N := 32) hC inX8 tyX8_ok nmX8 hH lv_8 rfl hS rfl 4 (by decide) tw_926 rfl rfl rfl rfl (Nat.le_of_ble_eq_true rfl) (sV (sV (sV (sV (sV (sV (sV (sV (sV γ 8 0 31 s0) 20 0 ((2 * (gV γ 8 0 3) : Int32).toNatClampNeg) a1) 20 0 (((2 * (gV γ 8 0 3)) + 1 : Int32).toNatClampNeg) a2) 22 0 ((gV γ 8 0 3 : Int32).toNatClampNeg) a3) 23 0 ((gV γ 8 0 3 : Int32).toNatClampNeg) a4) 24 0 ((gV γ 8 0 3 : Int32).toNatClampNeg) a5) 25 0 ((gV γ 8 0 3 : Int32).toNatClampNeg) ((-1))) 28 0 ((gV γ 8 0 3 : Int32).toNatClampNeg) ((-1))) 8 0 4 (gV γ 8 0 3)) (pe_8_4 _ _ 0 (gV γ 8 0 3)) (fun _ _ _ h => cel_sV h) (WT_sV hH.wt) dX8_begin_288 (fun H locs hH hS => ?_)
      refine lv_aload_n hx hb dX8_begin_291 rfl (lv_at hl 0 rfl) ?_
      refine lv_iconst (v := 0) hx hb dX8_begin_292 (by decide) ?_
      refine hp_put (v := .int 0) (C := RX8) (T := TX8) (N := 32) hC inX8 tyX8_ok nmX8 hH lv_8 rfl hS rfl 14 (by decide) tw_936 rfl rfl rfl rfl (Nat.le_of_ble_eq_true rfl) (sV (sV (sV (sV (sV (sV (sV (sV (sV (sV γ 8 0 31 s0) 20 0 ((2 * (gV γ 8 0 3) : Int32).toNatClampNeg) a1) 20 0 (((2 * (gV γ 8 0 3)) + 1 : Int32).toNatClampNeg) a2) 22 0 ((gV γ 8 0 3 : Int32).toNatClampNeg) a3) 23 0 ((gV γ 8 0 3 : Int32).toNatClampNeg) a4) 24 0 ((gV γ 8 0 3 : Int32).toNatClampNeg) a5) 25 0 ((gV γ 8 0 3 : Int32).toNatClampNeg) ((-1))) 28 0 ((gV γ 8 0 3 : Int32).toNatClampNeg) ((-1))) 8 0 4 (gV γ 8 0 3)) 8 0 14 0) (pe_8_14 _ _ 0 0) (fun _ _ _ h => cel_sV h) (WT_sV hH.wt) dX8_begin_293 (fun H locs hH hS => ?_)
      refine lv_iconst (v := 0) hx hb dX8_begin_296 (by decide) ?_
      refine lv_istore (lv' := [(8, .int 0), (0, .ref (kA κ 8 0)), (1, .int a1), (2, .int a2), (3, .int a3), (4, .int a4), (5, .int a5)]) hx hb dX8_begin_297 hl (by decide) rfl (fun ls hl => ?_)
      exact b_299 fu 0 (sV (sV (sV (sV (sV (sV (sV (sV (sV (sV γ 8 0 31 s0) 20 0 ((2 * (gV γ 8 0 3) : Int32).toNatClampNeg) a1) 20 0 (((2 * (gV γ 8 0 3)) + 1 : Int32).toNatClampNeg) a2) 22 0 ((gV γ 8 0 3 : Int32).toNatClampNeg) a3) 23 0 ((gV γ 8 0 3 : Int32).toNatClampNeg) a4) 24 0 ((gV γ 8 0 3 : Int32).toNatClampNeg) a5) 25 0 ((gV γ 8 0 3 : Int32).toNatClampNeg) ((-1))) 28 0 ((gV γ 8 0 3 : Int32).toNatClampNeg) ((-1))) 8 0 4 (gV γ 8 0 3)) 8 0 14 0) _ _ _ (lv_sub hl [1, 0] rfl) hH hS hk hq
    · have hk := ifn hk c103
      have hq := ifne hq c103
      refine lv_iconst (v := 0) hx hb dX8_begin_203 (by decide) ?_
      subst hq
      exact kr_i hC hr hH hS rfl rfl dX8_begin_204
  have b_162 : ∀ (a1 : Int32) (a2 : Int32) (a3 : Int32) (a4 : Int32) (a5 : Int32) (γ : St) (H : Heap) (locs : List Loc) (ls : Array Slot), lv_has ls 9 [(0, .ref (kA κ 8 0)), (1, .int a1), (2, .int a2), (3, .int a3), (4, .int a4), (5, .int a5)] → HR κ γ H → va_S (AA κ) s.heap H locs → ok_X8_begin_162 a1 a2 a3 a4 a5 γ → x_X8_begin_162 a1 a2 a3 a4 a5 γ = res → W p l e (headSpec [Cond.code yX8_begin cX8_begin 9 (some .int)] ({ frames := 2, cells := 0, slots := 0, locals := 43 } : Room)).room s m ([.ref (kA κ 8 0), .int y1, .int y2, .int y3, .int y4, .int y5] : List Value).toArray below meth c H locs 0 0 (MQ below (QQ κ (res.2) (some (.int res.1))) ([.ref (kA κ 8 0), .int y1, .int y2, .int y3, .int y4, .int y5] : List Value).toArray s 0 0 (AA κ)) (F0 m 162 ls [.ref (kA κ 8 0)]) := by
    intro a1 a2 a3 a4 a5 γ H locs ls hl hH hS hk hq
    refine lv_iconst (v := 2) hx hb dX8_begin_162 (by decide) ?_
    refine lv_goto (tgt := 193) hx hb dX8_begin_163 (by decide) ?_
    exact b_193 a1 a2 a3 a4 a5 2 γ _ _ _ (lv_sub hl [0, 1, 2, 3, 4, 5] rfl) hH hS hk hq
  have b_188 : ∀ (a1 : Int32) (a2 : Int32) (a3 : Int32) (a4 : Int32) (a5 : Int32) (γ : St) (H : Heap) (locs : List Loc) (ls : Array Slot), lv_has ls 9 [(0, .ref (kA κ 8 0)), (1, .int a1), (2, .int a2), (3, .int a3), (4, .int a4), (5, .int a5)] → HR κ γ H → va_S (AA κ) s.heap H locs → ok_X8_begin_188 a1 a2 a3 a4 a5 γ → x_X8_begin_188 a1 a2 a3 a4 a5 γ = res → W p l e (headSpec [Cond.code yX8_begin cX8_begin 9 (some .int)] ({ frames := 2, cells := 0, slots := 0, locals := 43 } : Room)).room s m ([.ref (kA κ 8 0), .int y1, .int y2, .int y3, .int y4, .int y5] : List Value).toArray below meth c H locs 0 0 (MQ below (QQ κ (res.2) (some (.int res.1))) ([.ref (kA κ 8 0), .int y1, .int y2, .int y3, .int y4, .int y5] : List Value).toArray s 0 0 (AA κ)) (F0 m 188 ls [.ref (kA κ 8 0)]) := by
    intro a1 a2 a3 a4 a5 γ H locs ls hl hH hS hk hq
    refine lv_iconst (v := 3) hx hb dX8_begin_188 (by decide) ?_
    refine lv_goto (tgt := 193) hx hb dX8_begin_189 (by decide) ?_
    exact b_193 a1 a2 a3 a4 a5 3 γ _ _ _ (lv_sub hl [0, 1, 2, 3, 4, 5] rfl) hH hS hk hq
  have b_129 : ∀ (a1 : Int32) (a2 : Int32) (a3 : Int32) (a4 : Int32) (a5 : Int32) (a6 : Int32) (s0 : Int32) (γ : St) (H : Heap) (locs : List Loc) (ls : Array Slot), lv_has ls 9 [(0, .ref (kA κ 8 0)), (1, .int a1), (2, .int a2), (3, .int a3), (4, .int a4), (5, .int a5), (6, .int a6)] → HR κ γ H → va_S (AA κ) s.heap H locs → ok_X8_begin_129 a1 a2 a3 a4 a5 a6 s0 γ → x_X8_begin_129 a1 a2 a3 a4 a5 a6 s0 γ = res → W p l e (headSpec [Cond.code yX8_begin cX8_begin 9 (some .int)] ({ frames := 2, cells := 0, slots := 0, locals := 43 } : Room)).room s m ([.ref (kA κ 8 0), .int y1, .int y2, .int y3, .int y4, .int y5] : List Value).toArray below meth c H locs 0 0 (MQ below (QQ κ (res.2) (some (.int res.1))) ([.ref (kA κ 8 0), .int y1, .int y2, .int y3, .int y4, .int y5] : List Value).toArray s 0 0 (AA κ)) (F0 m 129 ls [.int s0]) := by
    intro a1 a2 a3 a4 a5 a6 s0 γ H locs ls hl hH hS hk hq
    refine lv_istore (lv' := [(7, .int s0), (0, .ref (kA κ 8 0)), (1, .int a1), (2, .int a2), (3, .int a3), (4, .int a4), (5, .int a5), (6, .int a6)]) hx hb dX8_begin_129 hl (by decide) rfl (fun ls hl => ?_)
    refine lv_aload_n hx hb dX8_begin_131 rfl (lv_at hl 1 rfl) ?_
    refine lv_iload_n hx hb dX8_begin_132 rfl (lv_at hl 2 rfl) ?_
    refine lv_iload_n hx hb dX8_begin_133 rfl (lv_at hl 3 rfl) ?_
    refine lv_icmp_eq (tgt := 162) hx hb dX8_begin_134 (by decide) (fun c111 => ?_) (fun c111 => ?_)
    · have hk := ifp hk c111
      have hq := ifpe hq c111
      exact b_162 a1 a2 a3 a4 a5 γ _ _ _ (lv_sub hl [1, 2, 3, 4, 5, 6] rfl) hH hS hk hq
    · have hk := ifn hk c111
      have hq := ifne hq c111
      refine lv_iload_n hx hb dX8_begin_137 rfl (lv_at hl 4 rfl) ?_
      refine lv_iconst (v := 0) hx hb dX8_begin_138 (by decide) ?_
      refine lv_iconst (v := 2) hx hb dX8_begin_139 (by decide) ?_
      refine k_callS (rest := [.ref (kA κ 8 0)]) hC hl hH hS (c_X8_isIn l κ γ a3 0 2) tw_1036 tw_1037 tw_62 tw_1038 hd_X8_isIn ⟨Nat.le_of_ble_eq_true rfl, Nat.le_of_ble_eq_true rfl⟩ rfl rfl rfl rfl (Nat.le_of_ble_eq_true rfl) dX8_begin_140 ⟨Nat.le_of_ble_eq_true rfl, Nat.le_of_ble_eq_true rfl⟩ rfl (fun H locs hH hS => ?_)
      refine lv_if_eq (tgt := 162) hx hb dX8_begin_143 (by decide) (fun c112 => ?_) (fun c112 => ?_)
      · have hk := ifp hk c112
        have hq := ifpe hq c112
        exact b_162 a1 a2 a3 a4 a5 γ _ _ _ (lv_sub hl [1, 2, 3, 4, 5, 6] rfl) hH hS hk hq
      · have hk := ifn hk c112
        have hq := ifne hq c112
        refine lv_iload hx hb dX8_begin_146 (lv_at hl 5 rfl) ?_
        refine lv_iconst (v := 1) hx hb dX8_begin_148 (by decide) ?_
        refine lv_bipush (v := 45) hx hb dX8_begin_149 (by decide) ?_
        refine k_callS (rest := [.ref (kA κ 8 0)]) hC hl hH hS (c_X8_isIn l κ γ a4 1 45) tw_1036 tw_1037 tw_62 tw_1038 hd_X8_isIn ⟨Nat.le_of_ble_eq_true rfl, Nat.le_of_ble_eq_true rfl⟩ rfl rfl rfl rfl (Nat.le_of_ble_eq_true rfl) dX8_begin_151 ⟨Nat.le_of_ble_eq_true rfl, Nat.le_of_ble_eq_true rfl⟩ rfl (fun H locs hH hS => ?_)
        refine lv_if_eq (tgt := 162) hx hb dX8_begin_154 (by decide) (fun c113 => ?_) (fun c113 => ?_)
        · have hk := ifp hk c113
          have hq := ifpe hq c113
          exact b_162 a1 a2 a3 a4 a5 γ _ _ _ (lv_sub hl [1, 2, 3, 4, 5, 6] rfl) hH hS hk hq
        · have hk := ifn hk c113
          have hq := ifne hq c113
          refine lv_iload hx hb dX8_begin_157 (lv_at hl 7 rfl) ?_
          refine lv_if_ne (tgt := 166) hx hb dX8_begin_159 (by decide) (fun c114 => ?_) (fun c114 => ?_)
          · have hk := ifn hk c114
            have hq := ifne hq c114
            refine lv_aload_n hx hb dX8_begin_166 rfl (lv_at hl 1 rfl) ?_
            refine hp_get (v := .int (gV γ 8 0 4)) (C := RX8) (T := TX8) (N := 32) hC inX8 hH lv_8 rfl rfl 4 (by decide) tw_926 rfl rfl dX8_begin_167 ?_
            refine lv_iconst (v := (-1)) hx hb dX8_begin_170 (by decide) ?_
            refine lv_icmp_ne (tgt := 188) hx hb dX8_begin_171 (by decide) (fun c115 => ?_) (fun c115 => ?_)
            · have hk := ifn hk c115
              have hq := ifne hq c115
              exact b_188 a1 a2 a3 a4 a5 γ _ _ _ (lv_sub hl [1, 2, 3, 4, 5, 6] rfl) hH hS hk hq
            · have hk := ifp hk c115
              have hq := ifpe hq c115
              refine lv_iload hx hb dX8_begin_174 (lv_at hl 0 rfl) ?_
              refine lv_if_eq (tgt := 188) hx hb dX8_begin_176 (by decide) (fun c116 => ?_) (fun c116 => ?_)
              · have hk := ifp hk c116
                have hq := ifpe hq c116
                exact b_188 a1 a2 a3 a4 a5 γ _ _ _ (lv_sub hl [1, 2, 3, 4, 5, 6] rfl) hH hS hk hq
              · have hk := ifn hk c116
                have hq := ifne hq c116
                refine lv_aload_n hx hb dX8_begin_179 rfl (lv_at hl 1 rfl) ?_
                refine hp_get (v := .int (gV γ 8 0 3)) (C := RX8) (T := TX8) (N := 32) hC inX8 hH lv_8 rfl rfl 3 (by decide) tw_925 rfl rfl dX8_begin_180 ?_
                refine lv_bipush (v := 80) hx hb dX8_begin_183 (by decide) ?_
                refine lv_icmp_ne (tgt := 192) hx hb dX8_begin_185 (by decide) (fun c117 => ?_) (fun c117 => ?_)
                · have hk := ifn hk c117
                  have hq := ifne hq c117
                  refine lv_iconst (v := 0) hx hb dX8_begin_192 (by decide) ?_
                  exact b_193 a1 a2 a3 a4 a5 0 γ _ _ _ (lv_sub hl [1, 2, 3, 4, 5, 6] rfl) hH hS hk hq
                · have hk := ifp hk c117
                  have hq := ifpe hq c117
                  exact b_188 a1 a2 a3 a4 a5 γ _ _ _ (lv_sub hl [1, 2, 3, 4, 5, 6] rfl) hH hS hk hq
          · have hk := ifp hk c114
            have hq := ifpe hq c114
            exact b_162 a1 a2 a3 a4 a5 γ _ _ _ (lv_sub hl [1, 2, 3, 4, 5, 6] rfl) hH hS hk hq
  have b_124 : ∀ (a1 : Int32) (a2 : Int32) (a3 : Int32) (a4 : Int32) (a5 : Int32) (a6 : Int32) (γ : St) (H : Heap) (locs : List Loc) (ls : Array Slot), lv_has ls 9 [(0, .ref (kA κ 8 0)), (1, .int a1), (2, .int a2), (3, .int a3), (4, .int a4), (5, .int a5), (6, .int a6)] → HR κ γ H → va_S (AA κ) s.heap H locs → ok_X8_begin_124 a1 a2 a3 a4 a5 a6 γ → x_X8_begin_124 a1 a2 a3 a4 a5 a6 γ = res → W p l e (headSpec [Cond.code yX8_begin cX8_begin 9 (some .int)] ({ frames := 2, cells := 0, slots := 0, locals := 43 } : Room)).room s m ([.ref (kA κ 8 0), .int y1, .int y2, .int y3, .int y4, .int y5] : List Value).toArray below meth c H locs 0 0 (MQ below (QQ κ (res.2) (some (.int res.1))) ([.ref (kA κ 8 0), .int y1, .int y2, .int y3, .int y4, .int y5] : List Value).toArray s 0 0 (AA κ)) (F0 m 124 ls []) := by
    intro a1 a2 a3 a4 a5 a6 γ H locs ls hl hH hS hk hq
    refine lv_iconst (v := 1) hx hb dX8_begin_124 (by decide) ?_
    refine lv_goto (tgt := 129) hx hb dX8_begin_125 (by decide) ?_
    exact b_129 a1 a2 a3 a4 a5 a6 1 γ _ _ _ (lv_sub hl [0, 1, 2, 3, 4, 5, 6] rfl) hH hS hk hq
  have b_128 : ∀ (a1 : Int32) (a2 : Int32) (a3 : Int32) (a4 : Int32) (a5 : Int32) (a6 : Int32) (γ : St) (H : Heap) (locs : List Loc) (ls : Array Slot), lv_has ls 9 [(0, .ref (kA κ 8 0)), (1, .int a1), (2, .int a2), (3, .int a3), (4, .int a4), (5, .int a5), (6, .int a6)] → HR κ γ H → va_S (AA κ) s.heap H locs → ok_X8_begin_128 a1 a2 a3 a4 a5 a6 γ → x_X8_begin_128 a1 a2 a3 a4 a5 a6 γ = res → W p l e (headSpec [Cond.code yX8_begin cX8_begin 9 (some .int)] ({ frames := 2, cells := 0, slots := 0, locals := 43 } : Room)).room s m ([.ref (kA κ 8 0), .int y1, .int y2, .int y3, .int y4, .int y5] : List Value).toArray below meth c H locs 0 0 (MQ below (QQ κ (res.2) (some (.int res.1))) ([.ref (kA κ 8 0), .int y1, .int y2, .int y3, .int y4, .int y5] : List Value).toArray s 0 0 (AA κ)) (F0 m 128 ls []) := by
    intro a1 a2 a3 a4 a5 a6 γ H locs ls hl hH hS hk hq
    refine lv_iconst (v := 0) hx hb dX8_begin_128 (by decide) ?_
    exact b_129 a1 a2 a3 a4 a5 a6 0 γ _ _ _ (lv_sub hl [0, 1, 2, 3, 4, 5, 6] rfl) hH hS hk hq
  have b_88 : ∀ (a1 : Int32) (a2 : Int32) (a3 : Int32) (a4 : Int32) (a5 : Int32) (s0 : Int32) (γ : St) (H : Heap) (locs : List Loc) (ls : Array Slot), lv_has ls 9 [(0, .ref (kA κ 8 0)), (1, .int a1), (2, .int a2), (3, .int a3), (4, .int a4), (5, .int a5)] → HR κ γ H → va_S (AA κ) s.heap H locs → ok_X8_begin_88 a1 a2 a3 a4 a5 s0 γ → x_X8_begin_88 a1 a2 a3 a4 a5 s0 γ = res → W p l e (headSpec [Cond.code yX8_begin cX8_begin 9 (some .int)] ({ frames := 2, cells := 0, slots := 0, locals := 43 } : Room)).room s m ([.ref (kA κ 8 0), .int y1, .int y2, .int y3, .int y4, .int y5] : List Value).toArray below meth c H locs 0 0 (MQ below (QQ κ (res.2) (some (.int res.1))) ([.ref (kA κ 8 0), .int y1, .int y2, .int y3, .int y4, .int y5] : List Value).toArray s 0 0 (AA κ)) (F0 m 88 ls [.int s0]) := by
    intro a1 a2 a3 a4 a5 s0 γ H locs ls hl hH hS hk hq
    refine lv_istore (lv' := [(6, .int s0), (0, .ref (kA κ 8 0)), (1, .int a1), (2, .int a2), (3, .int a3), (4, .int a4), (5, .int a5)]) hx hb dX8_begin_88 hl (by decide) rfl (fun ls hl => ?_)
    refine lv_iload hx hb dX8_begin_90 (lv_at hl 6 rfl) ?_
    refine lv_iconst (v := (-1)) hx hb dX8_begin_92 (by decide) ?_
    refine lv_icmp_eq (tgt := 124) hx hb dX8_begin_93 (by decide) (fun c118 => ?_) (fun c118 => ?_)
    · have hk := ifp hk c118
      have hq := ifpe hq c118
      exact b_124 a1 a2 a3 a4 a5 s0 γ _ _ _ (lv_sub hl [1, 2, 3, 4, 5, 6, 0] rfl) hH hS hk hq
    · have hk := ifn hk c118
      have hq := ifne hq c118
      refine lv_aload_n hx hb dX8_begin_96 rfl (lv_at hl 1 rfl) ?_
      refine hp_get (v := .ref (kA κ 37 0)) (C := RX8) (T := TX8) (N := 32) hC inX8 hH lv_8 rfl rfl 25 (by decide) tw_947 rfl rfl dX8_begin_97 ?_
      refine lv_iload hx hb dX8_begin_100 (lv_at hl 6 rfl) ?_
      obtain ⟨hi119, hk⟩ := hk
      refine hp_ald (v := gV γ 37 0 ((a5 : Int32).toNatClampNeg)) hC hH lv_37 rfl hi119 rfl dX8_begin_102 ?_
      refine lv_iload_n hx hb dX8_begin_103 rfl (lv_at hl 2 rfl) ?_
      refine k_callS (rest := []) hC hl hH hS (c_X8_has l κ γ (gV γ 37 0 ((a5 : Int32).toNatClampNeg)) a1) tw_1043 tw_1044 tw_62 tw_1045 hd_X8_has ⟨Nat.le_of_ble_eq_true rfl, Nat.le_of_ble_eq_true rfl⟩ rfl rfl rfl rfl (Nat.le_of_ble_eq_true rfl) dX8_begin_104 ⟨Nat.le_of_ble_eq_true rfl, Nat.le_of_ble_eq_true rfl⟩ rfl (fun H locs hH hS => ?_)
      refine lv_if_ne (tgt := 128) hx hb dX8_begin_107 (by decide) (fun c120 => ?_) (fun c120 => ?_)
      · have hk := ifn hk c120
        have hq := ifne hq c120
        exact b_128 a1 a2 a3 a4 a5 s0 γ _ _ _ (lv_sub hl [1, 2, 3, 4, 5, 6, 0] rfl) hH hS hk hq
      · have hk := ifp hk c120
        have hq := ifpe hq c120
        refine lv_aload_n hx hb dX8_begin_110 rfl (lv_at hl 1 rfl) ?_
        refine hp_get (v := .ref (kA κ 37 0)) (C := RX8) (T := TX8) (N := 32) hC inX8 hH lv_8 rfl rfl 25 (by decide) tw_947 rfl rfl dX8_begin_111 ?_
        refine lv_iload hx hb dX8_begin_114 (lv_at hl 6 rfl) ?_
        obtain ⟨hi121, hk⟩ := hk
        refine hp_ald (v := gV γ 37 0 ((a5 : Int32).toNatClampNeg)) hC hH lv_37 rfl hi121 rfl dX8_begin_116 ?_
        refine lv_iload_n hx hb dX8_begin_117 rfl (lv_at hl 3 rfl) ?_
        refine k_callS (rest := []) hC hl hH hS (c_X8_has l κ γ (gV γ 37 0 ((a5 : Int32).toNatClampNeg)) a2) tw_1043 tw_1044 tw_62 tw_1045 hd_X8_has ⟨Nat.le_of_ble_eq_true rfl, Nat.le_of_ble_eq_true rfl⟩ rfl rfl rfl rfl (Nat.le_of_ble_eq_true rfl) dX8_begin_118 ⟨Nat.le_of_ble_eq_true rfl, Nat.le_of_ble_eq_true rfl⟩ rfl (fun H locs hH hS => ?_)
        refine lv_if_ne (tgt := 128) hx hb dX8_begin_121 (by decide) (fun c122 => ?_) (fun c122 => ?_)
        · have hk := ifn hk c122
          have hq := ifne hq c122
          exact b_128 a1 a2 a3 a4 a5 s0 γ _ _ _ (lv_sub hl [1, 2, 3, 4, 5, 6, 0] rfl) hH hS hk hq
        · have hk := ifp hk c122
          have hq := ifpe hq c122
          exact b_124 a1 a2 a3 a4 a5 s0 γ _ _ _ (lv_sub hl [1, 2, 3, 4, 5, 6, 0] rfl) hH hS hk hq
  have b_83 : ∀ (a1 : Int32) (a2 : Int32) (a3 : Int32) (a4 : Int32) (a5 : Int32) (γ : St) (H : Heap) (locs : List Loc) (ls : Array Slot), lv_has ls 9 [(0, .ref (kA κ 8 0)), (1, .int a1), (2, .int a2), (3, .int a3), (4, .int a4), (5, .int a5)] → HR κ γ H → va_S (AA κ) s.heap H locs → ok_X8_begin_83 a1 a2 a3 a4 a5 γ → x_X8_begin_83 a1 a2 a3 a4 a5 γ = res → W p l e (headSpec [Cond.code yX8_begin cX8_begin 9 (some .int)] ({ frames := 2, cells := 0, slots := 0, locals := 43 } : Room)).room s m ([.ref (kA κ 8 0), .int y1, .int y2, .int y3, .int y4, .int y5] : List Value).toArray below meth c H locs 0 0 (MQ below (QQ κ (res.2) (some (.int res.1))) ([.ref (kA κ 8 0), .int y1, .int y2, .int y3, .int y4, .int y5] : List Value).toArray s 0 0 (AA κ)) (F0 m 83 ls []) := by
    intro a1 a2 a3 a4 a5 γ H locs ls hl hH hS hk hq
    refine lv_iconst (v := 1) hx hb dX8_begin_83 (by decide) ?_
    refine lv_goto (tgt := 88) hx hb dX8_begin_84 (by decide) ?_
    exact b_88 a1 a2 a3 a4 a5 1 γ _ _ _ (lv_sub hl [0, 1, 2, 3, 4, 5] rfl) hH hS hk hq
  have b_87 : ∀ (a1 : Int32) (a2 : Int32) (a3 : Int32) (a4 : Int32) (a5 : Int32) (γ : St) (H : Heap) (locs : List Loc) (ls : Array Slot), lv_has ls 9 [(0, .ref (kA κ 8 0)), (1, .int a1), (2, .int a2), (3, .int a3), (4, .int a4), (5, .int a5)] → HR κ γ H → va_S (AA κ) s.heap H locs → ok_X8_begin_87 a1 a2 a3 a4 a5 γ → x_X8_begin_87 a1 a2 a3 a4 a5 γ = res → W p l e (headSpec [Cond.code yX8_begin cX8_begin 9 (some .int)] ({ frames := 2, cells := 0, slots := 0, locals := 43 } : Room)).room s m ([.ref (kA κ 8 0), .int y1, .int y2, .int y3, .int y4, .int y5] : List Value).toArray below meth c H locs 0 0 (MQ below (QQ κ (res.2) (some (.int res.1))) ([.ref (kA κ 8 0), .int y1, .int y2, .int y3, .int y4, .int y5] : List Value).toArray s 0 0 (AA κ)) (F0 m 87 ls []) := by
    intro a1 a2 a3 a4 a5 γ H locs ls hl hH hS hk hq
    refine lv_iconst (v := 0) hx hb dX8_begin_87 (by decide) ?_
    exact b_88 a1 a2 a3 a4 a5 0 γ _ _ _ (lv_sub hl [0, 1, 2, 3, 4, 5] rfl) hH hS hk hq
  have b_37 : ∀ (a1 : Int32) (a2 : Int32) (a3 : Int32) (a4 : Int32) (a5 : Int32) (s0 : Int32) (γ : St) (H : Heap) (locs : List Loc) (ls : Array Slot), lv_has ls 9 [(0, .ref (kA κ 8 0)), (1, .int a1), (2, .int a2), (3, .int a3), (4, .int a4), (5, .int a5)] → HR κ γ H → va_S (AA κ) s.heap H locs → ok_X8_begin_37 a1 a2 a3 a4 a5 s0 γ → x_X8_begin_37 a1 a2 a3 a4 a5 s0 γ = res → W p l e (headSpec [Cond.code yX8_begin cX8_begin 9 (some .int)] ({ frames := 2, cells := 0, slots := 0, locals := 43 } : Room)).room s m ([.ref (kA κ 8 0), .int y1, .int y2, .int y3, .int y4, .int y5] : List Value).toArray below meth c H locs 0 0 (MQ below (QQ κ (res.2) (some (.int res.1))) ([.ref (kA κ 8 0), .int y1, .int y2, .int y3, .int y4, .int y5] : List Value).toArray s 0 0 (AA κ)) (F0 m 37 ls [.int s0, .ref (kA κ 8 0)]) := by
    intro a1 a2 a3 a4 a5 s0 γ H locs ls hl hH hS hk hq
    refine hp_put (v := .int s0) (C := RX8) (T := TX8) (N := 32) hC inX8 tyX8_ok nmX8 hH lv_8 rfl hS rfl 31 (by decide) tw_953 rfl rfl rfl rfl (Nat.le_of_ble_eq_true rfl) (sV γ 8 0 31 s0) (pe_8_31 _ _ 0 s0) (fun _ _ _ h => cel_sV h) (WT_sV hH.wt) dX8_begin_37 (fun H locs hH hS => ?_)
    refine lv_aload_n hx hb dX8_begin_40 rfl (lv_at hl 0 rfl) ?_
    refine hp_get (v := .int s0) (C := RX8) (T := TX8) (N := 32) hC inX8 hH lv_8 rfl rfl 31 (by decide) tw_953 rfl rfl dX8_begin_41 ?_
    refine lv_if_le (tgt := 49) hx hb dX8_begin_44 (by decide) (fun c123 => ?_) (fun c123 => ?_)
    · have hk := ifp hk c123
      have hq := ifpe hq c123
      refine lv_iload hx hb dX8_begin_49 (lv_at hl 5 rfl) ?_
      refine lv_iconst (v := (-1)) hx hb dX8_begin_51 (by decide) ?_
      refine lv_icmp_eq (tgt := 83) hx hb dX8_begin_52 (by decide) (fun c124 => ?_) (fun c124 => ?_)
      · have hk := ifp hk c124
        have hq := ifpe hq c124
        exact b_83 a1 a2 a3 a4 a5 (sV γ 8 0 31 s0) _ _ _ (lv_sub hl [0, 1, 2, 3, 4, 5] rfl) hH hS hk hq
      · have hk := ifn hk c124
        have hq := ifne hq c124
        refine lv_aload_n hx hb dX8_begin_55 rfl (lv_at hl 0 rfl) ?_
        refine hp_get (v := .ref (kA κ 36 0)) (C := RX8) (T := TX8) (N := 32) hC inX8 hH lv_8 rfl rfl 24 (by decide) tw_946 rfl rfl dX8_begin_56 ?_
        refine lv_iload hx hb dX8_begin_59 (lv_at hl 5 rfl) ?_
        obtain ⟨hi125, hk⟩ := hk
        refine hp_ald (v := gV γ 36 0 ((a5 : Int32).toNatClampNeg)) hC hH lv_36 rfl hi125 rfl dX8_begin_61 ?_
        refine lv_iload_n hx hb dX8_begin_62 rfl (lv_at hl 1 rfl) ?_
        refine k_callS (rest := []) hC hl hH hS (c_X8_has l κ (sV γ 8 0 31 s0) (gV γ 36 0 ((a5 : Int32).toNatClampNeg)) a1) tw_1043 tw_1044 tw_62 tw_1045 hd_X8_has ⟨Nat.le_of_ble_eq_true rfl, Nat.le_of_ble_eq_true rfl⟩ rfl rfl rfl rfl (Nat.le_of_ble_eq_true rfl) dX8_begin_63 ⟨Nat.le_of_ble_eq_true rfl, Nat.le_of_ble_eq_true rfl⟩ rfl (fun H locs hH hS => ?_)
        refine lv_if_eq (tgt := 87) hx hb dX8_begin_66 (by decide) (fun c126 => ?_) (fun c126 => ?_)
        · have hk := ifp hk c126
          have hq := ifpe hq c126
          exact b_87 a1 a2 a3 a4 a5 (sV γ 8 0 31 s0) _ _ _ (lv_sub hl [0, 1, 2, 3, 4, 5] rfl) hH hS hk hq
        · have hk := ifn hk c126
          have hq := ifne hq c126
          refine lv_aload_n hx hb dX8_begin_69 rfl (lv_at hl 0 rfl) ?_
          refine hp_get (v := .ref (kA κ 36 0)) (C := RX8) (T := TX8) (N := 32) hC inX8 hH lv_8 rfl rfl 24 (by decide) tw_946 rfl rfl dX8_begin_70 ?_
          refine lv_iload hx hb dX8_begin_73 (lv_at hl 5 rfl) ?_
          obtain ⟨hi127, hk⟩ := hk
          refine hp_ald (v := gV γ 36 0 ((a5 : Int32).toNatClampNeg)) hC hH lv_36 rfl hi127 rfl dX8_begin_75 ?_
          refine lv_iload_n hx hb dX8_begin_76 rfl (lv_at hl 2 rfl) ?_
          refine k_callS (rest := []) hC hl hH hS (c_X8_has l κ (sV γ 8 0 31 s0) (gV γ 36 0 ((a5 : Int32).toNatClampNeg)) a2) tw_1043 tw_1044 tw_62 tw_1045 hd_X8_has ⟨Nat.le_of_ble_eq_true rfl, Nat.le_of_ble_eq_true rfl⟩ rfl rfl rfl rfl (Nat.le_of_ble_eq_true rfl) dX8_begin_77 ⟨Nat.le_of_ble_eq_true rfl, Nat.le_of_ble_eq_true rfl⟩ rfl (fun H locs hH hS => ?_)
          refine lv_if_eq (tgt := 87) hx hb dX8_begin_80 (by decide) (fun c128 => ?_) (fun c128 => ?_)
          · have hk := ifp hk c128
            have hq := ifpe hq c128
            exact b_87 a1 a2 a3 a4 a5 (sV γ 8 0 31 s0) _ _ _ (lv_sub hl [0, 1, 2, 3, 4, 5] rfl) hH hS hk hq
          · have hk := ifn hk c128
            have hq := ifne hq c128
            exact b_83 a1 a2 a3 a4 a5 (sV γ 8 0 31 s0) _ _ _ (lv_sub hl [0, 1, 2, 3, 4, 5] rfl) hH hS hk hq
    · have hk := ifn hk c123
      have hq := ifne hq c123
      refine lv_iconst (v := 0) hx hb dX8_begin_47 (by decide) ?_
      subst hq
      exact kr_i hC hr hH hS rfl rfl dX8_begin_48
  have b_32 : ∀ (a1 : Int32) (a2 : Int32) (a3 : Int32) (a4 : Int32) (a5 : Int32) (γ : St) (H : Heap) (locs : List Loc) (ls : Array Slot), lv_has ls 9 [(0, .ref (kA κ 8 0)), (1, .int a1), (2, .int a2), (3, .int a3), (4, .int a4), (5, .int a5)] → HR κ γ H → va_S (AA κ) s.heap H locs → ok_X8_begin_32 a1 a2 a3 a4 a5 γ → x_X8_begin_32 a1 a2 a3 a4 a5 γ = res → W p l e (headSpec [Cond.code yX8_begin cX8_begin 9 (some .int)] ({ frames := 2, cells := 0, slots := 0, locals := 43 } : Room)).room s m ([.ref (kA κ 8 0), .int y1, .int y2, .int y3, .int y4, .int y5] : List Value).toArray below meth c H locs 0 0 (MQ below (QQ κ (res.2) (some (.int res.1))) ([.ref (kA κ 8 0), .int y1, .int y2, .int y3, .int y4, .int y5] : List Value).toArray s 0 0 (AA κ)) (F0 m 32 ls [.ref (kA κ 8 0)]) := by
    intro a1 a2 a3 a4 a5 γ H locs ls hl hH hS hk hq
    refine lv_iconst (v := 1) hx hb dX8_begin_32 (by decide) ?_
    refine lv_goto (tgt := 37) hx hb dX8_begin_33 (by decide) ?_
    exact b_37 a1 a2 a3 a4 a5 1 γ _ _ _ (lv_sub hl [0, 1, 2, 3, 4, 5] rfl) hH hS hk hq
  have b_36 : ∀ (a1 : Int32) (a2 : Int32) (a3 : Int32) (a4 : Int32) (a5 : Int32) (γ : St) (H : Heap) (locs : List Loc) (ls : Array Slot), lv_has ls 9 [(0, .ref (kA κ 8 0)), (1, .int a1), (2, .int a2), (3, .int a3), (4, .int a4), (5, .int a5)] → HR κ γ H → va_S (AA κ) s.heap H locs → ok_X8_begin_36 a1 a2 a3 a4 a5 γ → x_X8_begin_36 a1 a2 a3 a4 a5 γ = res → W p l e (headSpec [Cond.code yX8_begin cX8_begin 9 (some .int)] ({ frames := 2, cells := 0, slots := 0, locals := 43 } : Room)).room s m ([.ref (kA κ 8 0), .int y1, .int y2, .int y3, .int y4, .int y5] : List Value).toArray below meth c H locs 0 0 (MQ below (QQ κ (res.2) (some (.int res.1))) ([.ref (kA κ 8 0), .int y1, .int y2, .int y3, .int y4, .int y5] : List Value).toArray s 0 0 (AA κ)) (F0 m 36 ls [.ref (kA κ 8 0)]) := by
    intro a1 a2 a3 a4 a5 γ H locs ls hl hH hS hk hq
    refine lv_iconst (v := 0) hx hb dX8_begin_36 (by decide) ?_
    exact b_37 a1 a2 a3 a4 a5 0 γ _ _ _ (lv_sub hl [0, 1, 2, 3, 4, 5] rfl) hH hS hk hq
  refine lv_aload_n hx hb dX8_begin_0 rfl (lv_at hl 0 rfl) ?_
  refine lv_aload_n hx hb dX8_begin_1 rfl (lv_at hl 0 rfl) ?_
  refine lv_iload_n hx hb dX8_begin_2 rfl (lv_at hl 1 rfl) ?_
  refine k_callV (C := RX8) (T := TX8) (N := 32) (rest := [.ref (kA κ 8 0)]) hC hl hH hS (c_X8_isFencer l κ γ y1) lv_8 rfl rfl tw_1032 tw_1034 tw_37 tw_62 tw_1035 hd_X8_isFencer ⟨Nat.le_of_ble_eq_true rfl, Nat.le_of_ble_eq_true rfl⟩ rfl rfl rfl rfl (Nat.le_of_ble_eq_true rfl) dX8_begin_3 ⟨Nat.le_of_ble_eq_true rfl, Nat.le_of_ble_eq_true rfl⟩ rfl (fun H locs hH hS => ?_)
  refine lv_if_eq (tgt := 32) hx hb dX8_begin_6 (by decide) (fun c129 => ?_) (fun c129 => ?_)
  · have hk := ifp hk c129
    have hq := ifpe hq c129
    exact b_32 y1 y2 y3 y4 y5 γ _ _ _ (lv_sub hl [0, 1, 2, 3, 4, 5] rfl) hH hS hk hq
  · have hk := ifn hk c129
    have hq := ifne hq c129
    refine lv_aload_n hx hb dX8_begin_9 rfl (lv_at hl 0 rfl) ?_
    refine lv_iload_n hx hb dX8_begin_10 rfl (lv_at hl 2 rfl) ?_
    refine k_callV (C := RX8) (T := TX8) (N := 32) (rest := [.ref (kA κ 8 0)]) hC hl hH hS (c_X8_isFencer l κ γ y2) lv_8 rfl rfl tw_1032 tw_1034 tw_37 tw_62 tw_1035 hd_X8_isFencer ⟨Nat.le_of_ble_eq_true rfl, Nat.le_of_ble_eq_true rfl⟩ rfl rfl rfl rfl (Nat.le_of_ble_eq_true rfl) dX8_begin_11 ⟨Nat.le_of_ble_eq_true rfl, Nat.le_of_ble_eq_true rfl⟩ rfl (fun H locs hH hS => ?_)
    refine lv_if_eq (tgt := 32) hx hb dX8_begin_14 (by decide) (fun c130 => ?_) (fun c130 => ?_)
    · have hk := ifp hk c130
      have hq := ifpe hq c130
      exact b_32 y1 y2 y3 y4 y5 γ _ _ _ (lv_sub hl [0, 1, 2, 3, 4, 5] rfl) hH hS hk hq
    · have hk := ifn hk c130
      have hq := ifne hq c130
      refine lv_iload hx hb dX8_begin_17 (lv_at hl 5 rfl) ?_
      refine lv_iconst (v := (-1)) hx hb dX8_begin_19 (by decide) ?_
      refine lv_icmp_eq (tgt := 36) hx hb dX8_begin_20 (by decide) (fun c131 => ?_) (fun c131 => ?_)
      · have hk := ifp hk c131
        have hq := ifpe hq c131
        exact b_36 y1 y2 y3 y4 y5 γ _ _ _ (lv_sub hl [0, 1, 2, 3, 4, 5] rfl) hH hS hk hq
      · have hk := ifn hk c131
        have hq := ifne hq c131
        refine lv_aload_n hx hb dX8_begin_23 rfl (lv_at hl 0 rfl) ?_
        refine lv_iload hx hb dX8_begin_24 (lv_at hl 5 rfl) ?_
        refine k_callV (C := RX8) (T := TX8) (N := 32) (rest := [.ref (kA κ 8 0)]) hC hl hH hS (c_X8_isPool l κ γ y5) lv_8 rfl rfl tw_1039 tw_1041 tw_38 tw_62 tw_1042 hd_X8_isPool ⟨Nat.le_of_ble_eq_true rfl, Nat.le_of_ble_eq_true rfl⟩ rfl rfl rfl rfl (Nat.le_of_ble_eq_true rfl) dX8_begin_26 ⟨Nat.le_of_ble_eq_true rfl, Nat.le_of_ble_eq_true rfl⟩ rfl (fun H locs hH hS => ?_)
        refine lv_if_ne (tgt := 36) hx hb dX8_begin_29 (by decide) (fun c132 => ?_) (fun c132 => ?_)
        · have hk := ifn hk c132
          have hq := ifne hq c132
          exact b_36 y1 y2 y3 y4 y5 γ _ _ _ (lv_sub hl [0, 1, 2, 3, 4, 5] rfl) hH hS hk hq
        · have hk := ifp hk c132
          have hq := ifpe hq c132
          exact b_32 y1 y2 y3 y4 y5 γ _ _ _ (lv_sub hl [0, 1, 2, 3, 4, 5] rfl) hH hS hk hq
set_option maxRecDepth 20000 in
set_option maxHeartbeats 4000000 in
theorem c_X8_puts (l : Launch) (κ : KP) (γ : St) (y1 : Int32) (y2 : Int32) (y3 : Int32) (hk : ok_X8_puts y1 y2 y3 γ) : Met l yX8_puts [Cond.code yX8_puts cX8_puts 4 (some .int)] ({ frames := 0, cells := 0, slots := 0, locals := 0 } : Room) (va_Pc [.ref (kA κ 8 0), .int y1, .int y2, .int y3] (GG κ γ)) (QQ κ (((x_X8_puts y1 y2 y3 γ)).2) (some (.int (((x_X8_puts y1 y2 y3 γ)).1)))) 0 0 (AA κ) := by
  generalize hq : x_X8_puts y1 y2 y3 γ = res
  refine Met.ofW (cc := cX8_puts) (maxL := 4) (ret := (some .int)) (by decide) rfl ?_
  intro p e s m args below meth c s₁ B hml9 hv
  obtain ⟨rfl, hH, hK9, hB9, hX9, hZ9⟩ := hv
  have hC : CX κ cX8_puts "PhrasehallModel" 4 p l s m ([.ref (kA κ 8 0), .int y1, .int y2, .int y3] : List Value).toArray meth c := ⟨B.exec, B.bytes, findClass_of_methodNamed B.named, fun w hw => tw_use (List.mem_filter.mp hw).2 (State.WarmedH.refl s) (hX9.1 w hw), hK9, hX9, hZ9, hB9, hml9, B.notSynchronized⟩
  obtain ⟨hx, hb, hown, hT, -, -, -, -, hml, -⟩ := id hC
  have hr := B.returns
  have hS : va_S (AA κ) s.heap s.heap [] := va_S.rf
  have hl := lv_entry ([.ref (kA κ 8 0), .int y1, .int y2, .int y3]) (n := 4) (Nat.le_of_ble_eq_true rfl)
  rw [lg_entry_eq]
  generalize (lg_sl ([.ref (kA κ 8 0), .int y1, .int y2, .int y3]) ++ List.replicate (4 - (lg_sl ([.ref (kA κ 8 0), .int y1, .int y2, .int y3])).length) Slot.unset).toArray = ls at hl ⊢
  have hl : lv_has ls 4 [(0, .ref (kA κ 8 0)), (1, .int y1), (2, .int y2), (3, .int y3)] := hl
  refine lv_aload_n hx hb dX8_puts_0 rfl (lv_at hl 0 rfl) ?_
  refine hp_get (v := .ref (kA κ 31 0)) (C := RX8) (T := TX8) (N := 32) hC inX8 hH lv_8 rfl rfl 18 (by decide) tw_940 rfl rfl dX8_puts_1 ?_
  refine lv_aload_n hx hb dX8_puts_4 rfl (lv_at hl 0 rfl) ?_
  refine hp_get (v := .int (gV γ 8 0 17)) (C := RX8) (T := TX8) (N := 32) hC inX8 hH lv_8 rfl rfl 17 (by decide) tw_939 rfl rfl dX8_puts_5 ?_
  refine lv_iload_n hx hb dX8_puts_8 rfl (lv_at hl 1 rfl) ?_
  obtain ⟨hi7, hk⟩ := hk
  refine hp_ast hC hH lv_31 (fun _ => rfl) hS hi7 dX8_puts_9 (fun H locs hH hS => ?_)
  refine lv_aload_n hx hb dX8_puts_10 rfl (lv_at hl 0 rfl) ?_
  refine hp_get (v := .ref (kA κ 32 0)) (C := RX8) (T := TX8) (N := 32) hC inX8 hH lv_8 rfl rfl 19 (by decide) tw_941 rfl rfl dX8_puts_11 ?_
  refine lv_aload_n hx hb dX8_puts_14 rfl (lv_at hl 0 rfl) ?_
  refine hp_get (v := .int (gV γ 8 0 17)) (C := RX8) (T := TX8) (N := 32) hC inX8 hH lv_8 rfl rfl 17 (by decide) tw_939 rfl rfl dX8_puts_15 ?_
  refine lv_iload_n hx hb dX8_puts_18 rfl (lv_at hl 2 rfl) ?_
  obtain ⟨hi8, hk⟩ := hk
  refine hp_ast hC hH lv_32 (fun _ => rfl) hS hi8 dX8_puts_19 (fun H locs hH hS => ?_)
  refine lv_aload_n hx hb dX8_puts_20 rfl (lv_at hl 0 rfl) ?_
  refine hp_get (v := .ref (kA κ 33 0)) (C := RX8) (T := TX8) (N := 32) hC inX8 hH lv_8 rfl rfl 20 (by decide) tw_942 rfl rfl dX8_puts_21 ?_
  refine lv_aload_n hx hb dX8_puts_24 rfl (lv_at hl 0 rfl) ?_
  refine hp_get (v := .int (gV γ 8 0 17)) (C := RX8) (T := TX8) (N := 32) hC inX8 hH lv_8 rfl rfl 17 (by decide) tw_939 rfl rfl dX8_puts_25 ?_
  refine lv_iload_n hx hb dX8_puts_28 rfl (lv_at hl 3 rfl) ?_
  obtain ⟨hi9, hk⟩ := hk
  refine hp_ast hC hH lv_33 (fun _ => rfl) hS hi9 dX8_puts_29 (fun H locs hH hS => ?_)
  refine lv_aload_n hx hb dX8_puts_30 rfl (lv_at hl 0 rfl) ?_
  refine lv_dup hx hb dX8_puts_31 rfl ?_
  refine hp_get (v := .int (gV γ 8 0 17)) (C := RX8) (T := TX8) (N := 32) hC inX8 hH lv_8 rfl rfl 17 (by decide) tw_939 rfl rfl dX8_puts_32 ?_
  refine lv_iconst (v := 1) hx hb dX8_puts_35 (by decide) ?_
  refine lv_iadd hx hb dX8_puts_36 ?_
  refine hp_put (v := .int ((gV γ 8 0 17) + 1)) (C := RX8) (T := TX8) (N := 32) hC inX8 tyX8_ok nmX8 hH lv_8 rfl hS rfl 17 (by decide) tw_939 rfl rfl rfl rfl (Nat.le_of_ble_eq_true rfl) (sV (sV (sV (sV γ 31 0 ((gV γ 8 0 17 : Int32).toNatClampNeg) y1) 32 0 ((gV γ 8 0 17 : Int32).toNatClampNeg) y2) 33 0 ((gV γ 8 0 17 : Int32).toNatClampNeg) y3) 8 0 17 ((gV γ 8 0 17) + 1)) (pe_8_17 _ _ 0 ((gV γ 8 0 17) + 1)) (fun _ _ _ h => cel_sV h) (WT_sV hH.wt) dX8_puts_37 (fun H locs hH hS => ?_)
  refine lv_aload_n hx hb dX8_puts_40 rfl (lv_at hl 0 rfl) ?_
  refine hp_get (v := .int ((gV γ 8 0 17) + 1)) (C := RX8) (T := TX8) (N := 32) hC inX8 hH lv_8 rfl rfl 17 (by decide) tw_939 rfl rfl dX8_puts_41 ?_
  subst hq
  exact kr_i hC hr hH hS rfl rfl dX8_puts_44
set_option maxRecDepth 20000 in
set_option maxHeartbeats 4000000 in
theorem c_X8_may (l : Launch) (κ : KP) (γ : St) (y1 : Int32) (hk : ok_X8_may y1 γ) : Met l yX8_may [Cond.code yX8_may cX8_may 2 (some .boolean)] ({ frames := 0, cells := 0, slots := 0, locals := 0 } : Room) (va_Pc [.ref (kA κ 8 0), .int y1] (GG κ γ)) (QQ κ γ (some (.int ((x_X8_may y1 γ))))) 0 0 (AA κ) := by
  generalize hq : x_X8_may y1 γ = res
  refine Met.ofW (cc := cX8_may) (maxL := 2) (ret := (some .boolean)) (by decide) rfl ?_
  intro p e s m args below meth c s₁ B hml9 hv
  obtain ⟨rfl, hH, hK9, hB9, hX9, hZ9⟩ := hv
  have hC : CX κ cX8_may "PhrasehallModel" 2 p l s m ([.ref (kA κ 8 0), .int y1] : List Value).toArray meth c := ⟨B.exec, B.bytes, findClass_of_methodNamed B.named, fun w hw => tw_use (List.mem_filter.mp hw).2 (State.WarmedH.refl s) (hX9.1 w hw), hK9, hX9, hZ9, hB9, hml9, B.notSynchronized⟩
  obtain ⟨hx, hb, hown, hT, -, -, -, -, hml, -⟩ := id hC
  have hr := B.returns
  have hS : va_S (AA κ) s.heap s.heap [] := va_S.rf
  have hl := lv_entry ([.ref (kA κ 8 0), .int y1]) (n := 2) (Nat.le_of_ble_eq_true rfl)
  rw [lg_entry_eq]
  generalize (lg_sl ([.ref (kA κ 8 0), .int y1]) ++ List.replicate (2 - (lg_sl ([.ref (kA κ 8 0), .int y1])).length) Slot.unset).toArray = ls at hl ⊢
  have hl : lv_has ls 2 [(0, .ref (kA κ 8 0)), (1, .int y1)] := hl
  have b_43 : ∀ (H : Heap) (locs : List Loc) (ls : Array Slot), lv_has ls 2 [] → HR κ γ H → va_S (AA κ) s.heap H locs → ok_X8_may_43 γ → x_X8_may_43 γ = res → W p l e (headSpec [Cond.code yX8_may cX8_may 2 (some .boolean)] ({ frames := 0, cells := 0, slots := 0, locals := 0 } : Room)).room s m ([.ref (kA κ 8 0), .int y1] : List Value).toArray below meth c H locs 0 0 (MQ below (QQ κ γ (some (.int res))) ([.ref (kA κ 8 0), .int y1] : List Value).toArray s 0 0 (AA κ)) (F0 m 43 ls []) := by
    intro  H locs ls hl hH hS hk hq
    refine lv_iconst (v := 0) hx hb dX8_may_43 (by decide) ?_
    subst hq
    exact kr_z hC hr rfl hH hS rfl rfl dX8_may_44
  have b_39 : ∀ (H : Heap) (locs : List Loc) (ls : Array Slot), lv_has ls 2 [] → HR κ γ H → va_S (AA κ) s.heap H locs → ok_X8_may_39 γ → x_X8_may_39 γ = res → W p l e (headSpec [Cond.code yX8_may cX8_may 2 (some .boolean)] ({ frames := 0, cells := 0, slots := 0, locals := 0 } : Room)).room s m ([.ref (kA κ 8 0), .int y1] : List Value).toArray below meth c H locs 0 0 (MQ below (QQ κ γ (some (.int res))) ([.ref (kA κ 8 0), .int y1] : List Value).toArray s 0 0 (AA κ)) (F0 m 39 ls []) := by
    intro  H locs ls hl hH hS hk hq
    refine lv_iconst (v := 1) hx hb dX8_may_39 (by decide) ?_
    refine lv_goto (tgt := 44) hx hb dX8_may_40 (by decide) ?_
    subst hq
    exact kr_z hC hr rfl hH hS rfl rfl dX8_may_44
  refine lv_aload_n hx hb dX8_may_0 rfl (lv_at hl 0 rfl) ?_
  refine hp_get (v := .int (gV γ 8 0 4)) (C := RX8) (T := TX8) (N := 32) hC inX8 hH lv_8 rfl rfl 4 (by decide) tw_926 rfl rfl dX8_may_1 ?_
  refine lv_iconst (v := (-1)) hx hb dX8_may_4 (by decide) ?_
  refine lv_icmp_eq (tgt := 43) hx hb dX8_may_5 (by decide) (fun c16 => ?_) (fun c16 => ?_)
  · have hk := ifp hk c16
    have hq := ifpe hq c16
    exact b_43 _ _ _ (lv_sub hl [] rfl) hH hS hk hq
  · have hk := ifn hk c16
    have hq := ifne hq c16
    refine lv_aload_n hx hb dX8_may_8 rfl (lv_at hl 0 rfl) ?_
    refine hp_get (v := .int (gV γ 8 0 17)) (C := RX8) (T := TX8) (N := 32) hC inX8 hH lv_8 rfl rfl 17 (by decide) tw_939 rfl rfl dX8_may_9 ?_
    refine lv_bipush (v := 24) hx hb dX8_may_12 (by decide) ?_
    refine lv_icmp_ge (tgt := 43) hx hb dX8_may_14 (by decide) (fun c17 => ?_) (fun c17 => ?_)
    · have hk := ifp hk c17
      have hq := ifpe hq c17
      exact b_43 _ _ _ (lv_sub hl [] rfl) hH hS hk hq
    · have hk := ifn hk c17
      have hq := ifne hq c17
      refine lv_aload_n hx hb dX8_may_17 rfl (lv_at hl 0 rfl) ?_
      refine hp_get (v := .int (gV γ 8 0 17)) (C := RX8) (T := TX8) (N := 32) hC inX8 hH lv_8 rfl rfl 17 (by decide) tw_939 rfl rfl dX8_may_18 ?_
      refine lv_if_eq (tgt := 39) hx hb dX8_may_21 (by decide) (fun c18 => ?_) (fun c18 => ?_)
      · have hk := ifp hk c18
        have hq := ifpe hq c18
        exact b_39 _ _ _ (lv_sub hl [] rfl) hH hS hk hq
      · have hk := ifn hk c18
        have hq := ifne hq c18
        refine lv_iload_n hx hb dX8_may_24 rfl (lv_at hl 1 rfl) ?_
        refine lv_aload_n hx hb dX8_may_25 rfl (lv_at hl 0 rfl) ?_
        refine hp_get (v := .ref (kA κ 33 0)) (C := RX8) (T := TX8) (N := 32) hC inX8 hH lv_8 rfl rfl 20 (by decide) tw_942 rfl rfl dX8_may_26 ?_
        refine lv_aload_n hx hb dX8_may_29 rfl (lv_at hl 0 rfl) ?_
        refine hp_get (v := .int (gV γ 8 0 17)) (C := RX8) (T := TX8) (N := 32) hC inX8 hH lv_8 rfl rfl 17 (by decide) tw_939 rfl rfl dX8_may_30 ?_
        refine lv_iconst (v := 1) hx hb dX8_may_33 (by decide) ?_
        refine lv_isub hx hb dX8_may_34 ?_
        obtain ⟨hi19, hk⟩ := hk
        refine hp_ald (v := gV γ 33 0 (((gV γ 8 0 17) - 1 : Int32).toNatClampNeg)) hC hH lv_33 rfl hi19 rfl dX8_may_35 ?_
        refine lv_icmp_lt (tgt := 43) hx hb dX8_may_36 (by decide) (fun c20 => ?_) (fun c20 => ?_)
        · have hk := ifp hk c20
          have hq := ifpe hq c20
          exact b_43 _ _ _ (lv_sub hl [] rfl) hH hS hk hq
        · have hk := ifn hk c20
          have hq := ifne hq c20
          exact b_39 _ _ _ (lv_sub hl [] rfl) hH hS hk hq
set_option maxRecDepth 20000 in
set_option maxHeartbeats 4000000 in
theorem c_X8_isSide (l : Launch) (κ : KP) (γ : St) (y0 : Int32)  : Met l yX8_isSide [Cond.code yX8_isSide cX8_isSide 1 (some .boolean)] ({ frames := 1, cells := 0, slots := 0, locals := 22 } : Room) (va_Pc [.int y0] (GG κ γ)) (QQ κ γ (some (.int ((x_X8_isSide y0 γ))))) 0 0 (AA κ) := by
  generalize hq : x_X8_isSide y0 γ = res
  refine Met.ofW (cc := cX8_isSide) (maxL := 1) (ret := (some .boolean)) (by decide) rfl ?_
  intro p e s m args below meth c s₁ B hml9 hv
  obtain ⟨rfl, hH, hK9, hB9, hX9, hZ9⟩ := hv
  have hC : CX κ cX8_isSide "PhrasehallModel" 1 p l s m ([.int y0] : List Value).toArray meth c := ⟨B.exec, B.bytes, findClass_of_methodNamed B.named, fun w hw => tw_use (List.mem_filter.mp hw).2 (State.WarmedH.refl s) (hX9.1 w hw), hK9, hX9, hZ9, hB9, hml9, B.notSynchronized⟩
  obtain ⟨hx, hb, hown, hT, -, -, -, -, hml, -⟩ := id hC
  have hr := B.returns
  have hS : va_S (AA κ) s.heap s.heap [] := va_S.rf
  have hl := lv_entry ([.int y0]) (n := 1) (Nat.le_of_ble_eq_true rfl)
  rw [lg_entry_eq]
  generalize (lg_sl ([.int y0]) ++ List.replicate (1 - (lg_sl ([.int y0])).length) Slot.unset).toArray = ls at hl ⊢
  have hl : lv_has ls 1 [(0, .int y0)] := hl
  refine lv_iload_n hx hb dX8_isSide_0 rfl (lv_at hl 0 rfl) ?_
  refine lv_iconst (v := 0) hx hb dX8_isSide_1 (by decide) ?_
  refine lv_iconst (v := 1) hx hb dX8_isSide_2 (by decide) ?_
  refine k_callS (rest := []) hC hl hH hS (c_X8_isIn l κ γ y0 0 1) tw_1036 tw_1037 tw_62 tw_1038 hd_X8_isIn ⟨Nat.le_of_ble_eq_true rfl, Nat.le_of_ble_eq_true rfl⟩ rfl rfl rfl rfl (Nat.le_of_ble_eq_true rfl) dX8_isSide_3 ⟨Nat.le_of_ble_eq_true rfl, Nat.le_of_ble_eq_true rfl⟩ rfl (fun H locs hH hS => ?_)
  subst hq
  exact kr_z hC hr (zN_eq _) hH hS rfl rfl dX8_isSide_6
set_option maxRecDepth 20000 in
set_option maxHeartbeats 4000000 in
theorem c_X8_act (l : Launch) (κ : KP) (γ : St) (y1 : Int32) (y2 : Int32) (y3 : Int32) (hk : ok_X8_act y1 y2 y3 γ) : Met l yX8_act [Cond.code yX8_act cX8_act 4 (some .int)] ({ frames := 2, cells := 0, slots := 0, locals := 42 } : Room) (va_Pc [.ref (kA κ 8 0), .int y1, .int y2, .int y3] (GG κ γ)) (QQ κ (((x_X8_act y1 y2 y3 γ)).2) (some (.int (((x_X8_act y1 y2 y3 γ)).1)))) 0 0 (AA κ) := by
  generalize hq : x_X8_act y1 y2 y3 γ = res
  refine Met.ofW (cc := cX8_act) (maxL := 4) (ret := (some .int)) (by decide) rfl ?_
  intro p e s m args below meth c s₁ B hml9 hv
  obtain ⟨rfl, hH, hK9, hB9, hX9, hZ9⟩ := hv
  have hC : CX κ cX8_act "PhrasehallModel" 4 p l s m ([.ref (kA κ 8 0), .int y1, .int y2, .int y3] : List Value).toArray meth c := ⟨B.exec, B.bytes, findClass_of_methodNamed B.named, fun w hw => tw_use (List.mem_filter.mp hw).2 (State.WarmedH.refl s) (hX9.1 w hw), hK9, hX9, hZ9, hB9, hml9, B.notSynchronized⟩
  obtain ⟨hx, hb, hown, hT, -, -, -, -, hml, -⟩ := id hC
  have hr := B.returns
  have hS : va_S (AA κ) s.heap s.heap [] := va_S.rf
  have hl := lv_entry ([.ref (kA κ 8 0), .int y1, .int y2, .int y3]) (n := 4) (Nat.le_of_ble_eq_true rfl)
  rw [lg_entry_eq]
  generalize (lg_sl ([.ref (kA κ 8 0), .int y1, .int y2, .int y3]) ++ List.replicate (4 - (lg_sl ([.ref (kA κ 8 0), .int y1, .int y2, .int y3])).length) Slot.unset).toArray = ls at hl ⊢
  have hl : lv_has ls 4 [(0, .ref (kA κ 8 0)), (1, .int y1), (2, .int y2), (3, .int y3)] := hl
  have b_45 : ∀ (a1 : Int32) (a2 : Int32) (a3 : Int32) (s0 : Int32) (γ : St) (H : Heap) (locs : List Loc) (ls : Array Slot), lv_has ls 4 [(0, .ref (kA κ 8 0)), (1, .int a1), (2, .int a2), (3, .int a3)] → HR κ γ H → va_S (AA κ) s.heap H locs → ok_X8_act_45 a1 a2 a3 s0 γ → x_X8_act_45 a1 a2 a3 s0 γ = res → W p l e (headSpec [Cond.code yX8_act cX8_act 4 (some .int)] ({ frames := 2, cells := 0, slots := 0, locals := 42 } : Room)).room s m ([.ref (kA κ 8 0), .int y1, .int y2, .int y3] : List Value).toArray below meth c H locs 0 0 (MQ below (QQ κ (res.2) (some (.int res.1))) ([.ref (kA κ 8 0), .int y1, .int y2, .int y3] : List Value).toArray s 0 0 (AA κ)) (F0 m 45 ls [.int s0, .ref (kA κ 8 0)]) := by
    intro a1 a2 a3 s0 γ H locs ls hl hH hS hk hq
    refine hp_put (v := .int s0) (C := RX8) (T := TX8) (N := 32) hC inX8 tyX8_ok nmX8 hH lv_8 rfl hS rfl 31 (by decide) tw_953 rfl rfl rfl rfl (Nat.le_of_ble_eq_true rfl) (sV γ 8 0 31 s0) (pe_8_31 _ _ 0 s0) (fun _ _ _ h => cel_sV h) (WT_sV hH.wt) dX8_act_45 (fun H locs hH hS => ?_)
    refine lv_aload_n hx hb dX8_act_48 rfl (lv_at hl 0 rfl) ?_
    refine hp_get (v := .int s0) (C := RX8) (T := TX8) (N := 32) hC inX8 hH lv_8 rfl rfl 31 (by decide) tw_953 rfl rfl dX8_act_49 ?_
    refine lv_if_le (tgt := 59) hx hb dX8_act_52 (by decide) (fun c22 => ?_) (fun c22 => ?_)
    · have hk := ifp hk c22
      have hq := ifpe hq c22
      refine lv_aload_n hx hb dX8_act_59 rfl (lv_at hl 0 rfl) ?_
      refine lv_iload_n hx hb dX8_act_60 rfl (lv_at hl 1 rfl) ?_
      refine lv_iload_n hx hb dX8_act_61 rfl (lv_at hl 2 rfl) ?_
      refine lv_iload_n hx hb dX8_act_62 rfl (lv_at hl 3 rfl) ?_
      obtain ⟨hc23, hk⟩ := hk
      refine k_callV (C := RX8) (T := TX8) (N := 32) (rest := []) hC hl hH hS (c_X8_puts l κ (sV γ 8 0 31 s0) a1 a2 a3 hc23) lv_8 rfl rfl tw_1058 tw_1060 tw_40 tw_62 tw_1061 hd_X8_puts ⟨Nat.le_of_ble_eq_true rfl, Nat.le_of_ble_eq_true rfl⟩ rfl rfl rfl rfl (Nat.le_of_ble_eq_true rfl) dX8_act_63 ⟨Nat.le_of_ble_eq_true rfl, Nat.le_of_ble_eq_true rfl⟩ rfl (fun H locs hH hS => ?_)
      subst hq
      exact kr_i hC hr hH hS rfl rfl dX8_act_66
    · have hk := ifn hk c22
      have hq := ifne hq c22
      refine lv_iconst (v := 0) hx hb dX8_act_55 (by decide) ?_
      refine lv_goto (tgt := 66) hx hb dX8_act_56 (by decide) ?_
      subst hq
      exact kr_i hC hr hH hS rfl rfl dX8_act_66
  have b_28 : ∀ (a1 : Int32) (a2 : Int32) (a3 : Int32) (γ : St) (H : Heap) (locs : List Loc) (ls : Array Slot), lv_has ls 4 [(0, .ref (kA κ 8 0)), (1, .int a1), (2, .int a2), (3, .int a3)] → HR κ γ H → va_S (AA κ) s.heap H locs → ok_X8_act_28 a1 a2 a3 γ → x_X8_act_28 a1 a2 a3 γ = res → W p l e (headSpec [Cond.code yX8_act cX8_act 4 (some .int)] ({ frames := 2, cells := 0, slots := 0, locals := 42 } : Room)).room s m ([.ref (kA κ 8 0), .int y1, .int y2, .int y3] : List Value).toArray below meth c H locs 0 0 (MQ below (QQ κ (res.2) (some (.int res.1))) ([.ref (kA κ 8 0), .int y1, .int y2, .int y3] : List Value).toArray s 0 0 (AA κ)) (F0 m 28 ls [.ref (kA κ 8 0)]) := by
    intro a1 a2 a3 γ H locs ls hl hH hS hk hq
    refine lv_iconst (v := 1) hx hb dX8_act_28 (by decide) ?_
    refine lv_goto (tgt := 45) hx hb dX8_act_29 (by decide) ?_
    exact b_45 a1 a2 a3 1 γ _ _ _ (lv_sub hl [0, 1, 2, 3] rfl) hH hS hk hq
  refine lv_aload_n hx hb dX8_act_0 rfl (lv_at hl 0 rfl) ?_
  refine lv_iload_n hx hb dX8_act_1 rfl (lv_at hl 1 rfl) ?_
  refine k_callS (rest := [.ref (kA κ 8 0)]) hC hl hH hS (c_X8_isSide l κ γ y1) tw_1050 tw_1051 tw_62 tw_1052 hd_X8_isSide ⟨Nat.le_of_ble_eq_true rfl, Nat.le_of_ble_eq_true rfl⟩ rfl rfl rfl rfl (Nat.le_of_ble_eq_true rfl) dX8_act_2 ⟨Nat.le_of_ble_eq_true rfl, Nat.le_of_ble_eq_true rfl⟩ rfl (fun H locs hH hS => ?_)
  refine lv_if_eq (tgt := 28) hx hb dX8_act_5 (by decide) (fun c24 => ?_) (fun c24 => ?_)
  · have hk := ifp hk c24
    have hq := ifpe hq c24
    exact b_28 y1 y2 y3 γ _ _ _ (lv_sub hl [0, 1, 2, 3] rfl) hH hS hk hq
  · have hk := ifn hk c24
    have hq := ifne hq c24
    refine lv_iload_n hx hb dX8_act_8 rfl (lv_at hl 2 rfl) ?_
    refine lv_iconst (v := 0) hx hb dX8_act_9 (by decide) ?_
    refine lv_bipush (v := 6) hx hb dX8_act_10 (by decide) ?_
    refine k_callS (rest := [.ref (kA κ 8 0)]) hC hl hH hS (c_X8_isIn l κ γ y2 0 6) tw_1036 tw_1037 tw_62 tw_1038 hd_X8_isIn ⟨Nat.le_of_ble_eq_true rfl, Nat.le_of_ble_eq_true rfl⟩ rfl rfl rfl rfl (Nat.le_of_ble_eq_true rfl) dX8_act_12 ⟨Nat.le_of_ble_eq_true rfl, Nat.le_of_ble_eq_true rfl⟩ rfl (fun H locs hH hS => ?_)
    refine lv_if_eq (tgt := 28) hx hb dX8_act_15 (by decide) (fun c25 => ?_) (fun c25 => ?_)
    · have hk := ifp hk c25
      have hq := ifpe hq c25
      exact b_28 y1 y2 y3 γ _ _ _ (lv_sub hl [0, 1, 2, 3] rfl) hH hS hk hq
    · have hk := ifn hk c25
      have hq := ifne hq c25
      refine lv_iload_n hx hb dX8_act_18 rfl (lv_at hl 3 rfl) ?_
      refine lv_iconst (v := 0) hx hb dX8_act_19 (by decide) ?_
      refine lv_ldc (v := 1000000) hx hb hown (hT _ tw_1053) dX8_act_20 ?_
      refine k_callS (rest := [.ref (kA κ 8 0)]) hC hl hH hS (c_X8_isIn l κ γ y3 0 1000000) tw_1036 tw_1037 tw_62 tw_1038 hd_X8_isIn ⟨Nat.le_of_ble_eq_true rfl, Nat.le_of_ble_eq_true rfl⟩ rfl rfl rfl rfl (Nat.le_of_ble_eq_true rfl) dX8_act_22 ⟨Nat.le_of_ble_eq_true rfl, Nat.le_of_ble_eq_true rfl⟩ rfl (fun H locs hH hS => ?_)
      refine lv_if_ne (tgt := 32) hx hb dX8_act_25 (by decide) (fun c26 => ?_) (fun c26 => ?_)
      · have hk := ifn hk c26
        have hq := ifne hq c26
        refine lv_aload_n hx hb dX8_act_32 rfl (lv_at hl 0 rfl) ?_
        refine lv_iload_n hx hb dX8_act_33 rfl (lv_at hl 3 rfl) ?_
        obtain ⟨hc27, hk⟩ := hk
        refine k_callV (C := RX8) (T := TX8) (N := 32) (rest := [.ref (kA κ 8 0)]) hC hl hH hS (c_X8_may l κ γ y3 hc27) lv_8 rfl rfl tw_1054 tw_1056 tw_39 tw_62 tw_1057 hd_X8_may ⟨Nat.le_of_ble_eq_true rfl, Nat.le_of_ble_eq_true rfl⟩ rfl rfl rfl rfl (Nat.le_of_ble_eq_true rfl) dX8_act_34 ⟨Nat.le_of_ble_eq_true rfl, Nat.le_of_ble_eq_true rfl⟩ rfl (fun H locs hH hS => ?_)
        refine lv_if_ne (tgt := 44) hx hb dX8_act_37 (by decide) (fun c28 => ?_) (fun c28 => ?_)
        · have hk := ifn hk c28
          have hq := ifne hq c28
          refine lv_iconst (v := 0) hx hb dX8_act_44 (by decide) ?_
          exact b_45 y1 y2 y3 0 γ _ _ _ (lv_sub hl [0, 1, 2, 3] rfl) hH hS hk hq
        · have hk := ifp hk c28
          have hq := ifpe hq c28
          refine lv_iconst (v := 2) hx hb dX8_act_40 (by decide) ?_
          refine lv_goto (tgt := 45) hx hb dX8_act_41 (by decide) ?_
          exact b_45 y1 y2 y3 2 γ _ _ _ (lv_sub hl [0, 1, 2, 3] rfl) hH hS hk hq
      · have hk := ifp hk c26
        have hq := ifpe hq c26
        exact b_28 y1 y2 y3 γ _ _ _ (lv_sub hl [0, 1, 2, 3] rfl) hH hS hk hq
set_option maxRecDepth 20000 in
set_option maxHeartbeats 4000000 in
theorem c_X8_hit (l : Launch) (κ : KP) (γ : St) (y1 : Int32) (y2 : Int32) (y3 : Int32) (y4 : Int32) (hk : ok_X8_hit y1 y2 y3 y4 γ) : Met l yX8_hit [Cond.code yX8_hit cX8_hit 5 (some .int)] ({ frames := 2, cells := 0, slots := 0, locals := 42 } : Room) (va_Pc [.ref (kA κ 8 0), .int y1, .int y2, .int y3, .int y4] (GG κ γ)) (QQ κ (((x_X8_hit y1 y2 y3 y4 γ)).2) (some (.int (((x_X8_hit y1 y2 y3 y4 γ)).1)))) 0 0 (AA κ) := by
  generalize hq : x_X8_hit y1 y2 y3 y4 γ = res
  refine Met.ofW (cc := cX8_hit) (maxL := 5) (ret := (some .int)) (by decide) rfl ?_
  intro p e s m args below meth c s₁ B hml9 hv
  obtain ⟨rfl, hH, hK9, hB9, hX9, hZ9⟩ := hv
  have hC : CX κ cX8_hit "PhrasehallModel" 5 p l s m ([.ref (kA κ 8 0), .int y1, .int y2, .int y3, .int y4] : List Value).toArray meth c := ⟨B.exec, B.bytes, findClass_of_methodNamed B.named, fun w hw => tw_use (List.mem_filter.mp hw).2 (State.WarmedH.refl s) (hX9.1 w hw), hK9, hX9, hZ9, hB9, hml9, B.notSynchronized⟩
  obtain ⟨hx, hb, hown, hT, -, -, -, -, hml, -⟩ := id hC
  have hr := B.returns
  have hS : va_S (AA κ) s.heap s.heap [] := va_S.rf
  have hl := lv_entry ([.ref (kA κ 8 0), .int y1, .int y2, .int y3, .int y4]) (n := 5) (Nat.le_of_ble_eq_true rfl)
  rw [lg_entry_eq]
  generalize (lg_sl ([.ref (kA κ 8 0), .int y1, .int y2, .int y3, .int y4]) ++ List.replicate (5 - (lg_sl ([.ref (kA κ 8 0), .int y1, .int y2, .int y3, .int y4])).length) Slot.unset).toArray = ls at hl ⊢
  have hl : lv_has ls 5 [(0, .ref (kA κ 8 0)), (1, .int y1), (2, .int y2), (3, .int y3), (4, .int y4)] := hl
  have b_56 : ∀ (a1 : Int32) (a2 : Int32) (a3 : Int32) (a4 : Int32) (s0 : Int32) (γ : St) (H : Heap) (locs : List Loc) (ls : Array Slot), lv_has ls 5 [(0, .ref (kA κ 8 0)), (1, .int a1), (2, .int a2), (3, .int a3), (4, .int a4)] → HR κ γ H → va_S (AA κ) s.heap H locs → ok_X8_hit_56 a1 a2 a3 a4 s0 γ → x_X8_hit_56 a1 a2 a3 a4 s0 γ = res → W p l e (headSpec [Cond.code yX8_hit cX8_hit 5 (some .int)] ({ frames := 2, cells := 0, slots := 0, locals := 42 } : Room)).room s m ([.ref (kA κ 8 0), .int y1, .int y2, .int y3, .int y4] : List Value).toArray below meth c H locs 0 0 (MQ below (QQ κ (res.2) (some (.int res.1))) ([.ref (kA κ 8 0), .int y1, .int y2, .int y3, .int y4] : List Value).toArray s 0 0 (AA κ)) (F0 m 56 ls [.int s0, .ref (kA κ 8 0)]) := by
    intro a1 a2 a3 a4 s0 γ H locs ls hl hH hS hk hq
    refine hp_put (v := .int s0) (C := RX8) (T := TX8) (N := 32) hC inX8 tyX8_ok nmX8 hH lv_8 rfl hS rfl 31 (by decide) tw_953 rfl rfl rfl rfl (Nat.le_of_ble_eq_true rfl) (sV γ 8 0 31 s0) (pe_8_31 _ _ 0 s0) (fun _ _ _ h => cel_sV h) (WT_sV hH.wt) dX8_hit_56 (fun H locs hH hS => ?_)
    refine lv_aload_n hx hb dX8_hit_59 rfl (lv_at hl 0 rfl) ?_
    refine hp_get (v := .int s0) (C := RX8) (T := TX8) (N := 32) hC inX8 hH lv_8 rfl rfl 31 (by decide) tw_953 rfl rfl dX8_hit_60 ?_
    refine lv_if_le (tgt := 68) hx hb dX8_hit_63 (by decide) (fun c31 => ?_) (fun c31 => ?_)
    · have hk := ifp hk c31
      have hq := ifpe hq c31
      refine lv_aload_n hx hb dX8_hit_68 rfl (lv_at hl 0 rfl) ?_
      refine hp_get (v := .ref (kA κ 34 0)) (C := RX8) (T := TX8) (N := 32) hC inX8 hH lv_8 rfl rfl 21 (by decide) tw_943 rfl rfl dX8_hit_69 ?_
      refine lv_aload_n hx hb dX8_hit_72 rfl (lv_at hl 0 rfl) ?_
      refine hp_get (v := .int (gV γ 8 0 17)) (C := RX8) (T := TX8) (N := 32) hC inX8 hH lv_8 rfl rfl 17 (by decide) tw_939 rfl rfl dX8_hit_73 ?_
      refine lv_iload_n hx hb dX8_hit_76 rfl (lv_at hl 3 rfl) ?_
      obtain ⟨hi32, hk⟩ := hk
      refine hp_ast hC hH lv_34 (fun _ => rfl) hS hi32 dX8_hit_77 (fun H locs hH hS => ?_)
      refine lv_aload_n hx hb dX8_hit_78 rfl (lv_at hl 0 rfl) ?_
      refine hp_get (v := .ref (kA κ 35 0)) (C := RX8) (T := TX8) (N := 32) hC inX8 hH lv_8 rfl rfl 22 (by decide) tw_944 rfl rfl dX8_hit_79 ?_
      refine lv_aload_n hx hb dX8_hit_82 rfl (lv_at hl 0 rfl) ?_
      refine hp_get (v := .int (gV γ 8 0 17)) (C := RX8) (T := TX8) (N := 32) hC inX8 hH lv_8 rfl rfl 17 (by decide) tw_939 rfl rfl dX8_hit_83 ?_
      refine lv_iload hx hb dX8_hit_86 (lv_at hl 4 rfl) ?_
      obtain ⟨hi33, hk⟩ := hk
      refine hp_ast hC hH lv_35 (fun _ => rfl) hS hi33 dX8_hit_88 (fun H locs hH hS => ?_)
      refine lv_aload_n hx hb dX8_hit_89 rfl (lv_at hl 0 rfl) ?_
      refine lv_iload_n hx hb dX8_hit_90 rfl (lv_at hl 1 rfl) ?_
      refine lv_bipush (v := 7) hx hb dX8_hit_91 (by decide) ?_
      refine lv_iload_n hx hb dX8_hit_93 rfl (lv_at hl 2 rfl) ?_
      obtain ⟨hc34, hk⟩ := hk
      refine k_callV (C := RX8) (T := TX8) (N := 32) (rest := []) hC hl hH hS (c_X8_puts l κ (sV (sV (sV γ 8 0 31 s0) 34 0 ((gV γ 8 0 17 : Int32).toNatClampNeg) a3) 35 0 ((gV γ 8 0 17 : Int32).toNatClampNeg) a4) a1 7 a2 hc34) lv_8 rfl rfl tw_1058 tw_1060 tw_40 tw_62 tw_1061 hd_X8_puts ⟨Nat.le_of_ble_eq_true rfl, Nat.le_of_ble_eq_true rfl⟩ rfl rfl rfl rfl (Nat.le_of_ble_eq_true rfl) dX8_hit_94 ⟨Nat.le_of_ble_eq_true rfl, Nat.le_of_ble_eq_true rfl⟩ rfl (fun H locs hH hS => ?_)
      subst hq
      exact kr_i hC hr hH hS rfl rfl dX8_hit_97
    · have hk := ifn hk c31
      have hq := ifne hq c31
      refine lv_iconst (v := 0) hx hb dX8_hit_66 (by decide) ?_
      subst hq
      exact kr_i hC hr hH hS rfl rfl dX8_hit_67
  have b_39 : ∀ (a1 : Int32) (a2 : Int32) (a3 : Int32) (a4 : Int32) (γ : St) (H : Heap) (locs : List Loc) (ls : Array Slot), lv_has ls 5 [(0, .ref (kA κ 8 0)), (1, .int a1), (2, .int a2), (3, .int a3), (4, .int a4)] → HR κ γ H → va_S (AA κ) s.heap H locs → ok_X8_hit_39 a1 a2 a3 a4 γ → x_X8_hit_39 a1 a2 a3 a4 γ = res → W p l e (headSpec [Cond.code yX8_hit cX8_hit 5 (some .int)] ({ frames := 2, cells := 0, slots := 0, locals := 42 } : Room)).room s m ([.ref (kA κ 8 0), .int y1, .int y2, .int y3, .int y4] : List Value).toArray below meth c H locs 0 0 (MQ below (QQ κ (res.2) (some (.int res.1))) ([.ref (kA κ 8 0), .int y1, .int y2, .int y3, .int y4] : List Value).toArray s 0 0 (AA κ)) (F0 m 39 ls [.ref (kA κ 8 0)]) := by
    intro a1 a2 a3 a4 γ H locs ls hl hH hS hk hq
    refine lv_iconst (v := 1) hx hb dX8_hit_39 (by decide) ?_
    refine lv_goto (tgt := 56) hx hb dX8_hit_40 (by decide) ?_
    exact b_56 a1 a2 a3 a4 1 γ _ _ _ (lv_sub hl [0, 1, 2, 3, 4] rfl) hH hS hk hq
  refine lv_aload_n hx hb dX8_hit_0 rfl (lv_at hl 0 rfl) ?_
  refine lv_iload_n hx hb dX8_hit_1 rfl (lv_at hl 1 rfl) ?_
  refine k_callS (rest := [.ref (kA κ 8 0)]) hC hl hH hS (c_X8_isSide l κ γ y1) tw_1050 tw_1051 tw_62 tw_1052 hd_X8_isSide ⟨Nat.le_of_ble_eq_true rfl, Nat.le_of_ble_eq_true rfl⟩ rfl rfl rfl rfl (Nat.le_of_ble_eq_true rfl) dX8_hit_2 ⟨Nat.le_of_ble_eq_true rfl, Nat.le_of_ble_eq_true rfl⟩ rfl (fun H locs hH hS => ?_)
  refine lv_if_eq (tgt := 39) hx hb dX8_hit_5 (by decide) (fun c35 => ?_) (fun c35 => ?_)
  · have hk := ifp hk c35
    have hq := ifpe hq c35
    exact b_39 y1 y2 y3 y4 γ _ _ _ (lv_sub hl [0, 1, 2, 3, 4] rfl) hH hS hk hq
  · have hk := ifn hk c35
    have hq := ifne hq c35
    refine lv_iload_n hx hb dX8_hit_8 rfl (lv_at hl 2 rfl) ?_
    refine lv_iconst (v := 0) hx hb dX8_hit_9 (by decide) ?_
    refine lv_ldc (v := 1000000) hx hb hown (hT _ tw_1053) dX8_hit_10 ?_
    refine k_callS (rest := [.ref (kA κ 8 0)]) hC hl hH hS (c_X8_isIn l κ γ y2 0 1000000) tw_1036 tw_1037 tw_62 tw_1038 hd_X8_isIn ⟨Nat.le_of_ble_eq_true rfl, Nat.le_of_ble_eq_true rfl⟩ rfl rfl rfl rfl (Nat.le_of_ble_eq_true rfl) dX8_hit_12 ⟨Nat.le_of_ble_eq_true rfl, Nat.le_of_ble_eq_true rfl⟩ rfl (fun H locs hH hS => ?_)
    refine lv_if_eq (tgt := 39) hx hb dX8_hit_15 (by decide) (fun c36 => ?_) (fun c36 => ?_)
    · have hk := ifp hk c36
      have hq := ifpe hq c36
      exact b_39 y1 y2 y3 y4 γ _ _ _ (lv_sub hl [0, 1, 2, 3, 4] rfl) hH hS hk hq
    · have hk := ifn hk c36
      have hq := ifne hq c36
      refine lv_iload_n hx hb dX8_hit_18 rfl (lv_at hl 3 rfl) ?_
      refine lv_iconst (v := 0) hx hb dX8_hit_19 (by decide) ?_
      refine lv_sipush (v := 1000) hx hb dX8_hit_20 (by decide) ?_
      refine k_callS (rest := [.ref (kA κ 8 0)]) hC hl hH hS (c_X8_isIn l κ γ y3 0 1000) tw_1036 tw_1037 tw_62 tw_1038 hd_X8_isIn ⟨Nat.le_of_ble_eq_true rfl, Nat.le_of_ble_eq_true rfl⟩ rfl rfl rfl rfl (Nat.le_of_ble_eq_true rfl) dX8_hit_23 ⟨Nat.le_of_ble_eq_true rfl, Nat.le_of_ble_eq_true rfl⟩ rfl (fun H locs hH hS => ?_)
      refine lv_if_eq (tgt := 39) hx hb dX8_hit_26 (by decide) (fun c37 => ?_) (fun c37 => ?_)
      · have hk := ifp hk c37
        have hq := ifpe hq c37
        exact b_39 y1 y2 y3 y4 γ _ _ _ (lv_sub hl [0, 1, 2, 3, 4] rfl) hH hS hk hq
      · have hk := ifn hk c37
        have hq := ifne hq c37
        refine lv_iload hx hb dX8_hit_29 (lv_at hl 4 rfl) ?_
        refine lv_iconst (v := 0) hx hb dX8_hit_31 (by decide) ?_
        refine lv_iconst (v := 2) hx hb dX8_hit_32 (by decide) ?_
        refine k_callS (rest := [.ref (kA κ 8 0)]) hC hl hH hS (c_X8_isIn l κ γ y4 0 2) tw_1036 tw_1037 tw_62 tw_1038 hd_X8_isIn ⟨Nat.le_of_ble_eq_true rfl, Nat.le_of_ble_eq_true rfl⟩ rfl rfl rfl rfl (Nat.le_of_ble_eq_true rfl) dX8_hit_33 ⟨Nat.le_of_ble_eq_true rfl, Nat.le_of_ble_eq_true rfl⟩ rfl (fun H locs hH hS => ?_)
        refine lv_if_ne (tgt := 43) hx hb dX8_hit_36 (by decide) (fun c38 => ?_) (fun c38 => ?_)
        · have hk := ifn hk c38
          have hq := ifne hq c38
          refine lv_aload_n hx hb dX8_hit_43 rfl (lv_at hl 0 rfl) ?_
          refine lv_iload_n hx hb dX8_hit_44 rfl (lv_at hl 2 rfl) ?_
          obtain ⟨hc39, hk⟩ := hk
          refine k_callV (C := RX8) (T := TX8) (N := 32) (rest := [.ref (kA κ 8 0)]) hC hl hH hS (c_X8_may l κ γ y2 hc39) lv_8 rfl rfl tw_1054 tw_1056 tw_39 tw_62 tw_1057 hd_X8_may ⟨Nat.le_of_ble_eq_true rfl, Nat.le_of_ble_eq_true rfl⟩ rfl rfl rfl rfl (Nat.le_of_ble_eq_true rfl) dX8_hit_45 ⟨Nat.le_of_ble_eq_true rfl, Nat.le_of_ble_eq_true rfl⟩ rfl (fun H locs hH hS => ?_)
          refine lv_if_ne (tgt := 55) hx hb dX8_hit_48 (by decide) (fun c40 => ?_) (fun c40 => ?_)
          · have hk := ifn hk c40
            have hq := ifne hq c40
            refine lv_iconst (v := 0) hx hb dX8_hit_55 (by decide) ?_
            exact b_56 y1 y2 y3 y4 0 γ _ _ _ (lv_sub hl [0, 1, 2, 3, 4] rfl) hH hS hk hq
          · have hk := ifp hk c40
            have hq := ifpe hq c40
            refine lv_iconst (v := 2) hx hb dX8_hit_51 (by decide) ?_
            refine lv_goto (tgt := 56) hx hb dX8_hit_52 (by decide) ?_
            exact b_56 y1 y2 y3 y4 2 γ _ _ _ (lv_sub hl [0, 1, 2, 3, 4] rfl) hH hS hk hq
        · have hk := ifp hk c38
          have hq := ifpe hq c38
          exact b_39 y1 y2 y3 y4 γ _ _ _ (lv_sub hl [0, 1, 2, 3, 4] rfl) hH hS hk hq
set_option maxRecDepth 20000 in
set_option maxHeartbeats 4000000 in
theorem c_X8_least (l : Launch) (κ : KP) (γ : St) (y0 : Int32)  : Met l yX8_least [Cond.code yX8_least cX8_least 1 (some .int)] ({ frames := 0, cells := 0, slots := 0, locals := 0 } : Room) (va_Pc [.int y0] (GG κ γ)) (QQ κ γ (some (.int ((x_X8_least y0 γ))))) 0 0 (AA κ) := by
  generalize hq : x_X8_least y0 γ = res
  refine Met.ofW (cc := cX8_least) (maxL := 1) (ret := (some .int)) (by decide) rfl ?_
  intro p e s m args below meth c s₁ B hml9 hv
  obtain ⟨rfl, hH, hK9, hB9, hX9, hZ9⟩ := hv
  have hC : CX κ cX8_least "PhrasehallModel" 1 p l s m ([.int y0] : List Value).toArray meth c := ⟨B.exec, B.bytes, findClass_of_methodNamed B.named, fun w hw => tw_use (List.mem_filter.mp hw).2 (State.WarmedH.refl s) (hX9.1 w hw), hK9, hX9, hZ9, hB9, hml9, B.notSynchronized⟩
  obtain ⟨hx, hb, hown, hT, -, -, -, -, hml, -⟩ := id hC
  have hr := B.returns
  have hS : va_S (AA κ) s.heap s.heap [] := va_S.rf
  have hl := lv_entry ([.int y0]) (n := 1) (Nat.le_of_ble_eq_true rfl)
  rw [lg_entry_eq]
  generalize (lg_sl ([.int y0]) ++ List.replicate (1 - (lg_sl ([.int y0])).length) Slot.unset).toArray = ls at hl ⊢
  have hl : lv_has ls 1 [(0, .int y0)] := hl
  refine lv_iload_n hx hb dX8_least_0 rfl (lv_at hl 0 rfl) ?_
  refine lv_if_ne (tgt := 9) hx hb dX8_least_1 (by decide) (fun c5 => ?_) (fun c5 => ?_)
  · have hq := ifne hq c5
    refine lv_iload_n hx hb dX8_least_9 rfl (lv_at hl 0 rfl) ?_
    refine lv_iconst (v := 1) hx hb dX8_least_10 (by decide) ?_
    refine lv_icmp_ne (tgt := 18) hx hb dX8_least_11 (by decide) (fun c6 => ?_) (fun c6 => ?_)
    · have hq := ifne hq c6
      refine lv_iconst (v := 1) hx hb dX8_least_18 (by decide) ?_
      subst hq
      exact kr_i hC hr hH hS rfl rfl dX8_least_19
    · have hq := ifpe hq c6
      refine lv_iconst (v := 2) hx hb dX8_least_14 (by decide) ?_
      refine lv_goto (tgt := 19) hx hb dX8_least_15 (by decide) ?_
      subst hq
      exact kr_i hC hr hH hS rfl rfl dX8_least_19
  · have hq := ifpe hq c5
    refine lv_bipush (v := 14) hx hb dX8_least_4 (by decide) ?_
    refine lv_goto (tgt := 19) hx hb dX8_least_6 (by decide) ?_
    subst hq
    exact kr_i hC hr hH hS rfl rfl dX8_least_19
set_option maxRecDepth 20000 in
set_option maxHeartbeats 4000000 in
theorem c_X8_locks (l : Launch) (κ : KP) (γ : St) (y0 : Int32)  : Met l yX8_locks [Cond.code yX8_locks cX8_locks 1 (some .int)] ({ frames := 0, cells := 0, slots := 0, locals := 0 } : Room) (va_Pc [.int y0] (GG κ γ)) (QQ κ γ (some (.int ((x_X8_locks y0 γ))))) 0 0 (AA κ) := by
  generalize hq : x_X8_locks y0 γ = res
  refine Met.ofW (cc := cX8_locks) (maxL := 1) (ret := (some .int)) (by decide) rfl ?_
  intro p e s m args below meth c s₁ B hml9 hv
  obtain ⟨rfl, hH, hK9, hB9, hX9, hZ9⟩ := hv
  have hC : CX κ cX8_locks "PhrasehallModel" 1 p l s m ([.int y0] : List Value).toArray meth c := ⟨B.exec, B.bytes, findClass_of_methodNamed B.named, fun w hw => tw_use (List.mem_filter.mp hw).2 (State.WarmedH.refl s) (hX9.1 w hw), hK9, hX9, hZ9, hB9, hml9, B.notSynchronized⟩
  obtain ⟨hx, hb, hown, hT, -, -, -, -, hml, -⟩ := id hC
  have hr := B.returns
  have hS : va_S (AA κ) s.heap s.heap [] := va_S.rf
  have hl := lv_entry ([.int y0]) (n := 1) (Nat.le_of_ble_eq_true rfl)
  rw [lg_entry_eq]
  generalize (lg_sl ([.int y0]) ++ List.replicate (1 - (lg_sl ([.int y0])).length) Slot.unset).toArray = ls at hl ⊢
  have hl : lv_has ls 1 [(0, .int y0)] := hl
  refine lv_iload_n hx hb dX8_locks_0 rfl (lv_at hl 0 rfl) ?_
  refine lv_if_ne (tgt := 10) hx hb dX8_locks_1 (by decide) (fun c5 => ?_) (fun c5 => ?_)
  · have hq := ifne hq c5
    refine lv_iload_n hx hb dX8_locks_10 rfl (lv_at hl 0 rfl) ?_
    refine lv_iconst (v := 1) hx hb dX8_locks_11 (by decide) ?_
    refine lv_icmp_ne (tgt := 20) hx hb dX8_locks_12 (by decide) (fun c6 => ?_) (fun c6 => ?_)
    · have hq := ifne hq c6
      refine lv_sipush (v := 170) hx hb dX8_locks_20 (by decide) ?_
      subst hq
      exact kr_i hC hr hH hS rfl rfl dX8_locks_23
    · have hq := ifpe hq c6
      refine lv_bipush (v := 45) hx hb dX8_locks_15 (by decide) ?_
      refine lv_goto (tgt := 23) hx hb dX8_locks_17 (by decide) ?_
      subst hq
      exact kr_i hC hr hH hS rfl rfl dX8_locks_23
  · have hq := ifpe hq c5
    refine lv_sipush (v := 300) hx hb dX8_locks_4 (by decide) ?_
    refine lv_goto (tgt := 23) hx hb dX8_locks_7 (by decide) ?_
    subst hq
    exact kr_i hC hr hH hS rfl rfl dX8_locks_23
