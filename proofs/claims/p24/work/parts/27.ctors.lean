/-- a constructor's start -/
def CB (D : va_G) (kc : Nat → ClassId) (w : va_W) (sz : Nat) (U : State) : Prop := U.heap.size = sz ∧ va_P D vwCl w U.heap ∧ va_K D vwCl [(kc 0, .int), (kc 1, .int), (kc 2, .object "Phrasehall$Bout"), (kc 3, .object "Phrasehall$Pool")] U ∧ va_D (fun _ => True) w ∧ XT U
def CBO (D : va_G) (kc : Nat → ClassId) (w : va_W) (sz : Nat) (U : State) : Prop := U.heap.size = sz ∧ va_P D vwCl w U.heap ∧ va_K D vwCl [(kc 0, .int), (kc 1, .int), (kc 2, .object "Phrasehall$Bout"), (kc 3, .object "Phrasehall$Pool")] U ∧ va_D (fun _ => True) w ∧ XT U ∧ va_AO "Phrasehall$Bout" U ∧ va_AO "Phrasehall$Pool" U
theorem CB.blind {D : va_G} {kc : Nat → ClassId} {w : va_W} {sz : Nat} {av : List Value} : FrameBlind (va_Pc av (CB D kc w sz)) := fun a U g mk q => by
  obtain ⟨q0, q1, qP, qK, qD, qX⟩ := q
  exact ⟨q0, q1, qP, va_K.moved (u := U) (U := U.calling g mk a) (Vm.Alike.refl U.vm) qK, qD, qX.warm (State.WarmedH.refl U)⟩
theorem CBO.blind {D : va_G} {kc : Nat → ClassId} {w : va_W} {sz : Nat} {av : List Value} : FrameBlind (va_Pc av (CBO D kc w sz)) := fun a U g mk q => by
  obtain ⟨q0, q1, qP, qK, qD, qX, q2, q3⟩ := q
  exact ⟨q0, q1, qP, va_K.moved (u := U) (U := U.calling g mk a) (Vm.Alike.refl U.vm) qK, qD, qX.warm (State.WarmedH.refl U), va_AO.moved (u := U) (U := U.calling g mk a) (Vm.Alike.refl U.vm) q2, va_AO.moved (u := U) (U := U.calling g mk a) (Vm.Alike.refl U.vm) q3⟩

theorem df_0 : ∀ j, j < 10 → defaultValue (tyX0 j) = vp_V [.null, .null, .int 0, .int 0, .int 0, .int 0, .int 0, .int 0, .int 0, .int 0] j := by
  intro j hj
  match j, hj with
  | 0, _ => rfl
  | 1, _ => rfl
  | 2, _ => rfl
  | 3, _ => rfl
  | 4, _ => rfl
  | 5, _ => rfl
  | 6, _ => rfl
  | 7, _ => rfl
  | 8, _ => rfl
  | 9, _ => rfl
  | k + 10, hj => exact absurd hj (by omega)
theorem df_1 : ∀ j, j < 3 → defaultValue (tyX1 j) = vp_V [.null, .null, .int 0] j := by
  intro j hj
  match j, hj with
  | 0, _ => rfl
  | 1, _ => rfl
  | 2, _ => rfl
  | k + 3, hj => exact absurd hj (by omega)
theorem df_2 : ∀ j, j < 4 → defaultValue (tyX2 j) = vp_V [.int 0, .int 0, .int 0, .int 0] j := by
  intro j hj
  match j, hj with
  | 0, _ => rfl
  | 1, _ => rfl
  | 2, _ => rfl
  | 3, _ => rfl
  | k + 4, hj => exact absurd hj (by omega)
theorem df_3 : ∀ j, j < 1 → defaultValue (tyX3 j) = vp_V [.long 0] j := by
  intro j hj
  match j, hj with
  | 0, _ => rfl
  | k + 1, hj => exact absurd hj (by omega)
theorem df_4 : ∀ j, j < 7 → defaultValue (tyX4 j) = vp_V [.null, .null, .null, .null, .null, .null, .int 0] j := by
  intro j hj
  match j, hj with
  | 0, _ => rfl
  | 1, _ => rfl
  | 2, _ => rfl
  | 3, _ => rfl
  | 4, _ => rfl
  | 5, _ => rfl
  | 6, _ => rfl
  | k + 7, hj => exact absurd hj (by omega)
theorem df_5 : ∀ j, j < 5 → defaultValue (tyX5 j) = vp_V [.int 0, .int 0, .null, .null, .int 0] j := by
  intro j hj
  match j, hj with
  | 0, _ => rfl
  | 1, _ => rfl
  | 2, _ => rfl
  | 3, _ => rfl
  | 4, _ => rfl
  | k + 5, hj => exact absurd hj (by omega)
theorem df_6 : ∀ j, j < 5 → defaultValue (tyX6 j) = vp_V [.int 0, .int 0, .int 0, .int 0, .int 0] j := by
  intro j hj
  match j, hj with
  | 0, _ => rfl
  | 1, _ => rfl
  | 2, _ => rfl
  | 3, _ => rfl
  | 4, _ => rfl
  | k + 5, hj => exact absurd hj (by omega)
theorem df_7 : ∀ j, j < 10 → defaultValue (tyX7 j) = vp_V [.null, .null, .null, .null, .null, .int 0, .int 0, .int 0, .null, .int 0] j := by
  intro j hj
  match j, hj with
  | 0, _ => rfl
  | 1, _ => rfl
  | 2, _ => rfl
  | 3, _ => rfl
  | 4, _ => rfl
  | 5, _ => rfl
  | 6, _ => rfl
  | 7, _ => rfl
  | 8, _ => rfl
  | 9, _ => rfl
  | k + 10, hj => exact absurd hj (by omega)
set_option maxRecDepth 100000 in
set_option maxHeartbeats 4000000 in
theorem ci_2 (l : Launch) (D : va_G) (kc : Nat → ClassId) (h sz : Nat) (y1 : Int32) : Met l yX2_init [Cond.code yX2_init cX2_init 2 none] ({ frames := 1, cells := 0, slots := 0, locals := 21 } : Room) (va_Pc [.ref h, .int y1] (CB D kc [(h, .inr (2, [.int 0, .int 0, .int 0, .int 0]))] sz)) (va_Qv (fun _ : Unit => True) (fun (_ : Unit) t => va_P D vwCl [(h, .inr (2, [.int y1, .int 0, .int 0, .int 0]))] t.heap ∧ va_D (va_A [(h, .inr (2, [.int 0, .int 0, .int 0, .int 0]))] sz) [(h, .inr (2, [.int y1, .int 0, .int 0, .int 0]))]) (va_A [(h, .inr (2, [.int 0, .int 0, .int 0, .int 0]))] sz)) 0 0 (va_A [(h, .inr (2, [.int 0, .int 0, .int 0, .int 0]))] sz) := by
  refine Met.ofW (cc := cX2_init) (maxL := 2) (ret := none) (by decide) rfl ?_
  intro p e s m args below meth c s₁ B hml hv
  obtain ⟨rfl, hsz, hP, hK, hD0, hX⟩ := hv
  have hx := B.exec
  have hb := B.bytes
  have hr := B.returns
  have hT : ∀ w ∈ TW, w.before ([.ref h, .int y1] : List Value).toArray s = true := fun w hw => tw_use (List.mem_filter.mp hw).2 (State.WarmedH.refl s) (hX.1 w hw)
  have hown : s.vm.findClass "Phrasehall$Corner" = some m.cls := findClass_of_methodNamed B.named
  have hlocks := B.notSynchronized
  have hin : meth.name = "<init>" := (name_of_methodNamed B.named B.method).1
  subst hsz
  have hD := hD0.self (sz := s.heap.size)
  generalize hAe : va_A [(h, .inr (2, [.int 0, .int 0, .int 0, .int 0]))] s.heap.size = A at hD ⊢
  have hA : ∀ q : Nat, s.heap.size ≤ q → A q := fun q h => by rw [← hAe]; exact Or.inr h
  have hS : va_S A s.heap s.heap [] := va_S.rf
  have hl := lv_entry ([.ref h, .int y1]) (n := 2) (Nat.le_of_ble_eq_true rfl)
  rw [lg_entry_eq]
  generalize (lg_sl ([.ref h, .int y1]) ++ List.replicate (2 - (lg_sl ([.ref h, .int y1])).length) Slot.unset).toArray = ls at hl ⊢
  have hl : lv_has ls 2 [(0, .ref h), (1, .int y1)] := hl
  refine lv_aload_n hx hb dX2_init_0 rfl (lv_at hl 0 rfl) ?_
  refine W.objInit hx hb hown (hT _ tw_459) (hT _ tw_60) (hT _ tw_61) rfl (by rw [hml]; exact hl.1) rfl dX2_init_1 (Nat.le_of_ble_eq_true rfl) (Nat.le_of_ble_eq_true rfl) ?_
  refine W.eq (g2 := F0 m 4 ls []) rfl ?_
  refine lv_aload_n hx hb dX2_init_4 rfl (lv_at hl 0 rfl) ?_
  refine lv_iconst (v := 0) hx hb dX2_init_5 (by decide) ?_
  refine va_put (D := D) (ci := 2) (v := .int 0) (ty := tyX2 1) (C := RX2) (T := TX2) (N := 4) hx hb hT inX2 tyX2 tyX2_ok nmX2 hown hK hP hD hS 0 rfl rfl 1 (by decide) (hT _ tw_463) (fun _ h9 => h9) rfl (tyX2_ok 1 (by decide)) rfl rfl (Nat.le_of_ble_eq_true rfl) dX2_init_6 (fun H locs hP hD hS => ?_)
  have hP : va_P D vwCl [(h, .inr (2, [.int 0, .int 0, .int 0, .int 0]))] H := hP
  have hD : va_D A [(h, .inr (2, [.int 0, .int 0, .int 0, .int 0]))] := hD
  refine lv_aload_n hx hb dX2_init_9 rfl (lv_at hl 0 rfl) ?_
  refine lv_iconst (v := 0) hx hb dX2_init_10 (by decide) ?_
  refine va_put (D := D) (ci := 2) (v := .int 0) (ty := tyX2 2) (C := RX2) (T := TX2) (N := 4) hx hb hT inX2 tyX2 tyX2_ok nmX2 hown hK hP hD hS 0 rfl rfl 2 (by decide) (hT _ tw_465) (fun _ h9 => h9) rfl (tyX2_ok 2 (by decide)) rfl rfl (Nat.le_of_ble_eq_true rfl) dX2_init_11 (fun H locs hP hD hS => ?_)
  have hP : va_P D vwCl [(h, .inr (2, [.int 0, .int 0, .int 0, .int 0]))] H := hP
  have hD : va_D A [(h, .inr (2, [.int 0, .int 0, .int 0, .int 0]))] := hD
  refine lv_aload_n hx hb dX2_init_14 rfl (lv_at hl 0 rfl) ?_
  refine lv_iconst (v := 0) hx hb dX2_init_15 (by decide) ?_
  refine va_put (D := D) (ci := 2) (v := .int 0) (ty := tyX2 3) (C := RX2) (T := TX2) (N := 4) hx hb hT inX2 tyX2 tyX2_ok nmX2 hown hK hP hD hS 0 rfl rfl 3 (by decide) (hT _ tw_466) (fun _ h9 => h9) rfl (tyX2_ok 3 (by decide)) rfl rfl (Nat.le_of_ble_eq_true rfl) dX2_init_16 (fun H locs hP hD hS => ?_)
  have hP : va_P D vwCl [(h, .inr (2, [.int 0, .int 0, .int 0, .int 0]))] H := hP
  have hD : va_D A [(h, .inr (2, [.int 0, .int 0, .int 0, .int 0]))] := hD
  refine lv_aload_n hx hb dX2_init_19 rfl (lv_at hl 0 rfl) ?_
  refine lv_iload_n hx hb dX2_init_20 rfl (lv_at hl 1 rfl) ?_
  refine va_putF (D := D) (ci := 2) (v := .int y1) (ty := tyX2 0) (C := RX2) (T := TX2) (N := 4) hx hb hT inX2 tyX2 tyX2_ok nmX2 hown hK hP hD hS 0 rfl rfl 0 (by decide) (hT _ tw_460) (fun _ h9 => h9) rfl hin rfl (tyX2_ok 0 (by decide)) rfl rfl (Nat.le_of_ble_eq_true rfl) dX2_init_21 (fun H locs hP hD hS => ?_)
  have hP : va_P D vwCl [(h, .inr (2, [.int y1, .int 0, .int 0, .int 0]))] H := hP
  have hD : va_D A [(h, .inr (2, [.int y1, .int 0, .int 0, .int 0]))] := hD
  have hP9 := hP.sub (ws' := [(h, .inr (2, [.int y1, .int 0, .int 0, .int 0]))]) [0] rfl
  have hD9 := hD.sub (ws' := [(h, .inr (2, [.int y1, .int 0, .int 0, .int 0]))]) [0] (by decide) rfl
  exact W.vret hx hb hr (fun t ht hW => ⟨⟨(), rfl, trivial, by rw [ht]; exact hP9, hD9⟩, hS.F ht⟩) hS.2.2 dX2_init_24
set_option maxRecDepth 100000 in
set_option maxHeartbeats 4000000 in
theorem ci_0 (l : Launch) (D : va_G) (kc : Nat → ClassId) (h sz : Nat) (y1 : Int32) (y2 : Int32) (y3 : Int32) (y4 : Int32) (y5 : Int32) : Met l yX0_init [Cond.code yX0_init cX0_init 6 none] ({ frames := 2, cells := 2, slots := 8, locals := 42 } : Room) (va_Pc [.ref h, .int y1, .int y2, .int y3, .int y4, .int y5] (CB D kc [(h, .inr (0, [.null, .null, .int 0, .int 0, .int 0, .int 0, .int 0, .int 0, .int 0, .int 0]))] sz)) (va_Qv (fun _ : Unit => True) (fun (_ : Unit) t => ∃ q0 q1 : Nat, va_P D vwCl [(h, .inr (0, [.ref q0, .ref q1, .int y3, .int y4, .int y5, .int ((-1)), .int ((-1)), .int 0, .int 0, .int 0])), (q0, .inr (2, [.int y1, .int 0, .int 0, .int 0])), (q1, .inr (2, [.int y2, .int 0, .int 0, .int 0]))] t.heap ∧ va_D (va_A [(h, .inr (0, [.null, .null, .int 0, .int 0, .int 0, .int 0, .int 0, .int 0, .int 0, .int 0]))] sz) [(h, .inr (0, [.ref q0, .ref q1, .int y3, .int y4, .int y5, .int ((-1)), .int ((-1)), .int 0, .int 0, .int 0])), (q0, .inr (2, [.int y1, .int 0, .int 0, .int 0])), (q1, .inr (2, [.int y2, .int 0, .int 0, .int 0]))]) (va_A [(h, .inr (0, [.null, .null, .int 0, .int 0, .int 0, .int 0, .int 0, .int 0, .int 0, .int 0]))] sz)) 2 8 (va_A [(h, .inr (0, [.null, .null, .int 0, .int 0, .int 0, .int 0, .int 0, .int 0, .int 0, .int 0]))] sz) := by
  refine Met.ofW (cc := cX0_init) (maxL := 6) (ret := none) (by decide) rfl ?_
  intro p e s m args below meth c s₁ B hml hv
  obtain ⟨rfl, hsz, hP, hK, hD0, hX⟩ := hv
  have hx := B.exec
  have hb := B.bytes
  have hr := B.returns
  have hT : ∀ w ∈ TW, w.before ([.ref h, .int y1, .int y2, .int y3, .int y4, .int y5] : List Value).toArray s = true := fun w hw => tw_use (List.mem_filter.mp hw).2 (State.WarmedH.refl s) (hX.1 w hw)
  have hown : s.vm.findClass "Phrasehall$Bout" = some m.cls := findClass_of_methodNamed B.named
  have hlocks := B.notSynchronized
  have hin : meth.name = "<init>" := (name_of_methodNamed B.named B.method).1
  subst hsz
  have hD := hD0.self (sz := s.heap.size)
  generalize hAe : va_A [(h, .inr (0, [.null, .null, .int 0, .int 0, .int 0, .int 0, .int 0, .int 0, .int 0, .int 0]))] s.heap.size = A at hD ⊢
  have hA : ∀ q : Nat, s.heap.size ≤ q → A q := fun q h => by rw [← hAe]; exact Or.inr h
  have hS : va_S A s.heap s.heap [] := va_S.rf
  have hl := lv_entry ([.ref h, .int y1, .int y2, .int y3, .int y4, .int y5]) (n := 6) (Nat.le_of_ble_eq_true rfl)
  rw [lg_entry_eq]
  generalize (lg_sl ([.ref h, .int y1, .int y2, .int y3, .int y4, .int y5]) ++ List.replicate (6 - (lg_sl ([.ref h, .int y1, .int y2, .int y3, .int y4, .int y5])).length) Slot.unset).toArray = ls at hl ⊢
  have hl : lv_has ls 6 [(0, .ref h), (1, .int y1), (2, .int y2), (3, .int y3), (4, .int y4), (5, .int y5)] := hl
  refine lv_aload_n hx hb dX0_init_0 rfl (lv_at hl 0 rfl) ?_
  refine W.objInit hx hb hown (hT _ tw_453) (hT _ tw_60) (hT _ tw_61) rfl (by rw [hml]; exact hl.1) rfl dX0_init_1 (Nat.le_of_ble_eq_true rfl) (Nat.le_of_ble_eq_true rfl) ?_
  refine W.eq (g2 := F0 m 4 ls []) rfl ?_
  refine lv_aload_n hx hb dX0_init_4 rfl (lv_at hl 0 rfl) ?_
  refine lv_iconst (v := (-1)) hx hb dX0_init_5 (by decide) ?_
  refine va_put (D := D) (ci := 0) (v := .int ((-1))) (ty := tyX0 5) (C := RX0) (T := TX0) (N := 10) hx hb hT inX0 tyX0 tyX0_ok nmX0 hown hK hP hD hS 0 rfl rfl 5 (by decide) (hT _ tw_486) (fun _ h9 => h9) rfl (tyX0_ok 5 (by decide)) rfl rfl (Nat.le_of_ble_eq_true rfl) dX0_init_6 (fun H locs hP hD hS => ?_)
  have hP : va_P D vwCl [(h, .inr (0, [.null, .null, .int 0, .int 0, .int 0, .int ((-1)), .int 0, .int 0, .int 0, .int 0]))] H := hP
  have hD : va_D A [(h, .inr (0, [.null, .null, .int 0, .int 0, .int 0, .int ((-1)), .int 0, .int 0, .int 0, .int 0]))] := hD
  refine lv_aload_n hx hb dX0_init_9 rfl (lv_at hl 0 rfl) ?_
  refine lv_iconst (v := (-1)) hx hb dX0_init_10 (by decide) ?_
  refine va_put (D := D) (ci := 0) (v := .int ((-1))) (ty := tyX0 6) (C := RX0) (T := TX0) (N := 10) hx hb hT inX0 tyX0 tyX0_ok nmX0 hown hK hP hD hS 0 rfl rfl 6 (by decide) (hT _ tw_488) (fun _ h9 => h9) rfl (tyX0_ok 6 (by decide)) rfl rfl (Nat.le_of_ble_eq_true rfl) dX0_init_11 (fun H locs hP hD hS => ?_)
  have hP : va_P D vwCl [(h, .inr (0, [.null, .null, .int 0, .int 0, .int 0, .int ((-1)), .int ((-1)), .int 0, .int 0, .int 0]))] H := hP
  have hD : va_D A [(h, .inr (0, [.null, .null, .int 0, .int 0, .int 0, .int ((-1)), .int ((-1)), .int 0, .int 0, .int 0]))] := hD
  refine lv_aload_n hx hb dX0_init_14 rfl (lv_at hl 0 rfl) ?_
  refine lv_iconst (v := 0) hx hb dX0_init_15 (by decide) ?_
  refine va_put (D := D) (ci := 0) (v := .int 0) (ty := tyX0 7) (C := RX0) (T := TX0) (N := 10) hx hb hT inX0 tyX0 tyX0_ok nmX0 hown hK hP hD hS 0 rfl rfl 7 (by decide) (hT _ tw_489) (fun _ h9 => h9) rfl (tyX0_ok 7 (by decide)) rfl rfl (Nat.le_of_ble_eq_true rfl) dX0_init_16 (fun H locs hP hD hS => ?_)
  have hP : va_P D vwCl [(h, .inr (0, [.null, .null, .int 0, .int 0, .int 0, .int ((-1)), .int ((-1)), .int 0, .int 0, .int 0]))] H := hP
  have hD : va_D A [(h, .inr (0, [.null, .null, .int 0, .int 0, .int 0, .int ((-1)), .int ((-1)), .int 0, .int 0, .int 0]))] := hD
  refine lv_aload_n hx hb dX0_init_19 rfl (lv_at hl 0 rfl) ?_
  refine lv_iconst (v := 0) hx hb dX0_init_20 (by decide) ?_
  refine va_put (D := D) (ci := 0) (v := .int 0) (ty := tyX0 8) (C := RX0) (T := TX0) (N := 10) hx hb hT inX0 tyX0 tyX0_ok nmX0 hown hK hP hD hS 0 rfl rfl 8 (by decide) (hT _ tw_490) (fun _ h9 => h9) rfl (tyX0_ok 8 (by decide)) rfl rfl (Nat.le_of_ble_eq_true rfl) dX0_init_21 (fun H locs hP hD hS => ?_)
  have hP : va_P D vwCl [(h, .inr (0, [.null, .null, .int 0, .int 0, .int 0, .int ((-1)), .int ((-1)), .int 0, .int 0, .int 0]))] H := hP
  have hD : va_D A [(h, .inr (0, [.null, .null, .int 0, .int 0, .int 0, .int ((-1)), .int ((-1)), .int 0, .int 0, .int 0]))] := hD
  refine lv_aload_n hx hb dX0_init_24 rfl (lv_at hl 0 rfl) ?_
  refine lv_iconst (v := 0) hx hb dX0_init_25 (by decide) ?_
  refine va_put (D := D) (ci := 0) (v := .int 0) (ty := tyX0 9) (C := RX0) (T := TX0) (N := 10) hx hb hT inX0 tyX0 tyX0_ok nmX0 hown hK hP hD hS 0 rfl rfl 9 (by decide) (hT _ tw_491) (fun _ h9 => h9) rfl (tyX0_ok 9 (by decide)) rfl rfl (Nat.le_of_ble_eq_true rfl) dX0_init_26 (fun H locs hP hD hS => ?_)
  have hP : va_P D vwCl [(h, .inr (0, [.null, .null, .int 0, .int 0, .int 0, .int ((-1)), .int ((-1)), .int 0, .int 0, .int 0]))] H := hP
  have hD : va_D A [(h, .inr (0, [.null, .null, .int 0, .int 0, .int 0, .int ((-1)), .int ((-1)), .int 0, .int 0, .int 0]))] := hD
  refine lv_aload_n hx hb dX0_init_29 rfl (lv_at hl 0 rfl) ?_
  refine va_new (ci := 2) (fs := [.int 0, .int 0, .int 0, .int 0]) (C := RX2) (T := TX2) (N := 4) hx hb hT inX2 tyX2 tyX2_ok hown (hT _ tw_454) (hT _ tw_455) (hT _ tw_51) hK hP hD hS hA rfl (df_2) (Nat.le_of_ble_eq_true rfl) (Nat.le_of_ble_eq_true rfl) dX0_init_30 (fun q0 H hP hD hS => ?_)
  have hP : va_P D vwCl [(h, .inr (0, [.null, .null, .int 0, .int 0, .int 0, .int ((-1)), .int ((-1)), .int 0, .int 0, .int 0])), (q0, .inr (2, [.int 0, .int 0, .int 0, .int 0]))] H := hP
  have hD : va_D A [(h, .inr (0, [.null, .null, .int 0, .int 0, .int 0, .int ((-1)), .int ((-1)), .int 0, .int 0, .int 0])), (q0, .inr (2, [.int 0, .int 0, .int 0, .int 0]))] := hD
  refine W.widen (k := 1) (n := 4) (Nat.le_of_ble_eq_true rfl) (Nat.le_of_ble_eq_true rfl) ?_
  refine lv_dup hx hb dX0_init_33 rfl ?_
  refine lv_iload_n hx hb dX0_init_34 rfl (lv_at hl 1 rfl) ?_
  have hPc := hP.sub (ws' := [(q0, .inr (2, [.int 0, .int 0, .int 0, .int 0]))]) [1] rfl
  have hDc := hD.sub (ws' := [(q0, .inr (2, [.int 0, .int 0, .int 0, .int 0]))]) [1] (by decide) rfl
  have hFc := va_free (wc := [(q0, .inr (2, [.int 0, .int 0, .int 0, .int 0]))]) hD hS hA [1] rfl
  refine va_callv (va_runI (As := [.int y1]) (rest := [.ref q0, .ref h]) ⟨hx, hb, hml, hown, hT⟩ (ci_2 l D kc q0 H.size y1) (cwI 1 hT (gi1 tw_458) rfl rfl rfl (hT _ tw_51) (hT _ tw_456) (hT _ tw_457) rfl ⟨by decide +kernel, by decide +kernel, by decide +kernel⟩ ⟨Nat.le_of_ble_eq_true rfl, Nat.le_of_ble_eq_true rfl⟩) ⟨CB.blind, fun U hU hW => ⟨rfl, by rw [hU], by rw [hU]; exact hPc, va_K.moved hW.alike hK, hDc.weaken (fun _ _ _ _ => trivial), hX.warm hW⟩⟩ rfl rfl hl.1 rfl (lv_room (Nat.le_of_ble_eq_true rfl)) dX0_init_35 ⟨Nat.le_of_ble_eq_true rfl, Nat.le_of_ble_eq_true rfl⟩) hS (fun q _ h => hFc q h) hFc (fun u t H1 locs ht hvm hw hB hz1 hk1 hS => ?_)
  obtain ⟨hP1, hD1⟩ := hB
  rw [ht] at hP1
  obtain ⟨hP, hD⟩ := va_join (wr := [(h, .inr (0, [.null, .null, .int 0, .int 0, .int 0, .int ((-1)), .int ((-1)), .int 0, .int 0, .int 0]))]) (w1 := [(q0, .inr (2, [.int y1, .int 0, .int 0, .int 0]))]) hP hD [1] [0] rfl rfl (by decide) (by decide) hk1 hFc hP1 hD1
  generalize H1 = H at hP hS ⊢
  have hP : va_P D vwCl [(h, .inr (0, [.null, .null, .int 0, .int 0, .int 0, .int ((-1)), .int ((-1)), .int 0, .int 0, .int 0])), (q0, .inr (2, [.int y1, .int 0, .int 0, .int 0]))] H := hP
  have hD : va_D A [(h, .inr (0, [.null, .null, .int 0, .int 0, .int 0, .int ((-1)), .int ((-1)), .int 0, .int 0, .int 0])), (q0, .inr (2, [.int y1, .int 0, .int 0, .int 0]))] := hD
  refine W.widen (k := 1) (n := 4) (Nat.le_of_ble_eq_true rfl) (Nat.le_of_ble_eq_true rfl) ?_
  refine va_putF (D := D) (ci := 0) (v := .ref q0) (ty := tyX0 0) (C := RX0) (T := TX0) (N := 10) hx hb hT inX0 tyX0 tyX0_ok nmX0 hown hK hP hD hS 0 rfl rfl 0 (by decide) (hT _ tw_476) (fun _ h9 => h9) rfl hin rfl (tyX0_ok 0 (by decide)) rfl rfl (Nat.le_of_ble_eq_true rfl) dX0_init_38 (fun H locs hP hD hS => ?_)
  have hP : va_P D vwCl [(h, .inr (0, [.ref q0, .null, .int 0, .int 0, .int 0, .int ((-1)), .int ((-1)), .int 0, .int 0, .int 0])), (q0, .inr (2, [.int y1, .int 0, .int 0, .int 0]))] H := hP
  have hD : va_D A [(h, .inr (0, [.ref q0, .null, .int 0, .int 0, .int 0, .int ((-1)), .int ((-1)), .int 0, .int 0, .int 0])), (q0, .inr (2, [.int y1, .int 0, .int 0, .int 0]))] := hD
  refine lv_aload_n hx hb dX0_init_41 rfl (lv_at hl 0 rfl) ?_
  refine va_new (ci := 2) (fs := [.int 0, .int 0, .int 0, .int 0]) (C := RX2) (T := TX2) (N := 4) hx hb hT inX2 tyX2 tyX2_ok hown (hT _ tw_454) (hT _ tw_455) (hT _ tw_51) hK hP hD hS hA rfl (df_2) (Nat.le_of_ble_eq_true rfl) (Nat.le_of_ble_eq_true rfl) dX0_init_42 (fun q1 H hP hD hS => ?_)
  have hP : va_P D vwCl [(h, .inr (0, [.ref q0, .null, .int 0, .int 0, .int 0, .int ((-1)), .int ((-1)), .int 0, .int 0, .int 0])), (q0, .inr (2, [.int y1, .int 0, .int 0, .int 0])), (q1, .inr (2, [.int 0, .int 0, .int 0, .int 0]))] H := hP
  have hD : va_D A [(h, .inr (0, [.ref q0, .null, .int 0, .int 0, .int 0, .int ((-1)), .int ((-1)), .int 0, .int 0, .int 0])), (q0, .inr (2, [.int y1, .int 0, .int 0, .int 0])), (q1, .inr (2, [.int 0, .int 0, .int 0, .int 0]))] := hD
  refine W.widen (k := 2) (n := 8) (Nat.le_of_ble_eq_true rfl) (Nat.le_of_ble_eq_true rfl) ?_
  refine lv_dup hx hb dX0_init_45 rfl ?_
  refine lv_iload_n hx hb dX0_init_46 rfl (lv_at hl 2 rfl) ?_
  have hPc := hP.sub (ws' := [(q1, .inr (2, [.int 0, .int 0, .int 0, .int 0]))]) [2] rfl
  have hDc := hD.sub (ws' := [(q1, .inr (2, [.int 0, .int 0, .int 0, .int 0]))]) [2] (by decide) rfl
  have hFc := va_free (wc := [(q1, .inr (2, [.int 0, .int 0, .int 0, .int 0]))]) hD hS hA [2] rfl
  refine va_callv (va_runI (As := [.int y2]) (rest := [.ref q1, .ref h]) ⟨hx, hb, hml, hown, hT⟩ (ci_2 l D kc q1 H.size y2) (cwI 1 hT (gi1 tw_458) rfl rfl rfl (hT _ tw_51) (hT _ tw_456) (hT _ tw_457) rfl ⟨by decide +kernel, by decide +kernel, by decide +kernel⟩ ⟨Nat.le_of_ble_eq_true rfl, Nat.le_of_ble_eq_true rfl⟩) ⟨CB.blind, fun U hU hW => ⟨rfl, by rw [hU], by rw [hU]; exact hPc, va_K.moved hW.alike hK, hDc.weaken (fun _ _ _ _ => trivial), hX.warm hW⟩⟩ rfl rfl hl.1 rfl (lv_room (Nat.le_of_ble_eq_true rfl)) dX0_init_47 ⟨Nat.le_of_ble_eq_true rfl, Nat.le_of_ble_eq_true rfl⟩) hS (fun q _ h => hFc q h) hFc (fun u t H1 locs ht hvm hw hB hz1 hk1 hS => ?_)
  obtain ⟨hP1, hD1⟩ := hB
  rw [ht] at hP1
  obtain ⟨hP, hD⟩ := va_join (wr := [(h, .inr (0, [.ref q0, .null, .int 0, .int 0, .int 0, .int ((-1)), .int ((-1)), .int 0, .int 0, .int 0])), (q0, .inr (2, [.int y1, .int 0, .int 0, .int 0]))]) (w1 := [(q1, .inr (2, [.int y2, .int 0, .int 0, .int 0]))]) hP hD [2] [0, 1] rfl rfl (by decide) (by decide) hk1 hFc hP1 hD1
  generalize H1 = H at hP hS ⊢
  have hP : va_P D vwCl [(h, .inr (0, [.ref q0, .null, .int 0, .int 0, .int 0, .int ((-1)), .int ((-1)), .int 0, .int 0, .int 0])), (q0, .inr (2, [.int y1, .int 0, .int 0, .int 0])), (q1, .inr (2, [.int y2, .int 0, .int 0, .int 0]))] H := hP
  have hD : va_D A [(h, .inr (0, [.ref q0, .null, .int 0, .int 0, .int 0, .int ((-1)), .int ((-1)), .int 0, .int 0, .int 0])), (q0, .inr (2, [.int y1, .int 0, .int 0, .int 0])), (q1, .inr (2, [.int y2, .int 0, .int 0, .int 0]))] := hD
  refine W.widen (k := 2) (n := 8) (Nat.le_of_ble_eq_true rfl) (Nat.le_of_ble_eq_true rfl) ?_
  refine va_putF (D := D) (ci := 0) (v := .ref q1) (ty := tyX0 1) (C := RX0) (T := TX0) (N := 10) hx hb hT inX0 tyX0 tyX0_ok nmX0 hown hK hP hD hS 0 rfl rfl 1 (by decide) (hT _ tw_478) (fun _ h9 => h9) rfl hin rfl (tyX0_ok 1 (by decide)) rfl rfl (Nat.le_of_ble_eq_true rfl) dX0_init_50 (fun H locs hP hD hS => ?_)
  have hP : va_P D vwCl [(h, .inr (0, [.ref q0, .ref q1, .int 0, .int 0, .int 0, .int ((-1)), .int ((-1)), .int 0, .int 0, .int 0])), (q0, .inr (2, [.int y1, .int 0, .int 0, .int 0])), (q1, .inr (2, [.int y2, .int 0, .int 0, .int 0]))] H := hP
  have hD : va_D A [(h, .inr (0, [.ref q0, .ref q1, .int 0, .int 0, .int 0, .int ((-1)), .int ((-1)), .int 0, .int 0, .int 0])), (q0, .inr (2, [.int y1, .int 0, .int 0, .int 0])), (q1, .inr (2, [.int y2, .int 0, .int 0, .int 0]))] := hD
  refine lv_aload_n hx hb dX0_init_53 rfl (lv_at hl 0 rfl) ?_
  refine lv_iload_n hx hb dX0_init_54 rfl (lv_at hl 3 rfl) ?_
  refine va_putF (D := D) (ci := 0) (v := .int y3) (ty := tyX0 2) (C := RX0) (T := TX0) (N := 10) hx hb hT inX0 tyX0 tyX0_ok nmX0 hown hK hP hD hS 0 rfl rfl 2 (by decide) (hT _ tw_480) (fun _ h9 => h9) rfl hin rfl (tyX0_ok 2 (by decide)) rfl rfl (Nat.le_of_ble_eq_true rfl) dX0_init_55 (fun H locs hP hD hS => ?_)
  have hP : va_P D vwCl [(h, .inr (0, [.ref q0, .ref q1, .int y3, .int 0, .int 0, .int ((-1)), .int ((-1)), .int 0, .int 0, .int 0])), (q0, .inr (2, [.int y1, .int 0, .int 0, .int 0])), (q1, .inr (2, [.int y2, .int 0, .int 0, .int 0]))] H := hP
  have hD : va_D A [(h, .inr (0, [.ref q0, .ref q1, .int y3, .int 0, .int 0, .int ((-1)), .int ((-1)), .int 0, .int 0, .int 0])), (q0, .inr (2, [.int y1, .int 0, .int 0, .int 0])), (q1, .inr (2, [.int y2, .int 0, .int 0, .int 0]))] := hD
  refine lv_aload_n hx hb dX0_init_58 rfl (lv_at hl 0 rfl) ?_
  refine lv_iload hx hb dX0_init_59 (lv_at hl 4 rfl) ?_
  refine va_putF (D := D) (ci := 0) (v := .int y4) (ty := tyX0 3) (C := RX0) (T := TX0) (N := 10) hx hb hT inX0 tyX0 tyX0_ok nmX0 hown hK hP hD hS 0 rfl rfl 3 (by decide) (hT _ tw_482) (fun _ h9 => h9) rfl hin rfl (tyX0_ok 3 (by decide)) rfl rfl (Nat.le_of_ble_eq_true rfl) dX0_init_61 (fun H locs hP hD hS => ?_)
  have hP : va_P D vwCl [(h, .inr (0, [.ref q0, .ref q1, .int y3, .int y4, .int 0, .int ((-1)), .int ((-1)), .int 0, .int 0, .int 0])), (q0, .inr (2, [.int y1, .int 0, .int 0, .int 0])), (q1, .inr (2, [.int y2, .int 0, .int 0, .int 0]))] H := hP
  have hD : va_D A [(h, .inr (0, [.ref q0, .ref q1, .int y3, .int y4, .int 0, .int ((-1)), .int ((-1)), .int 0, .int 0, .int 0])), (q0, .inr (2, [.int y1, .int 0, .int 0, .int 0])), (q1, .inr (2, [.int y2, .int 0, .int 0, .int 0]))] := hD
  refine lv_aload_n hx hb dX0_init_64 rfl (lv_at hl 0 rfl) ?_
  refine lv_iload hx hb dX0_init_65 (lv_at hl 5 rfl) ?_
  refine va_putF (D := D) (ci := 0) (v := .int y5) (ty := tyX0 4) (C := RX0) (T := TX0) (N := 10) hx hb hT inX0 tyX0 tyX0_ok nmX0 hown hK hP hD hS 0 rfl rfl 4 (by decide) (hT _ tw_483) (fun _ h9 => h9) rfl hin rfl (tyX0_ok 4 (by decide)) rfl rfl (Nat.le_of_ble_eq_true rfl) dX0_init_67 (fun H locs hP hD hS => ?_)
  have hP : va_P D vwCl [(h, .inr (0, [.ref q0, .ref q1, .int y3, .int y4, .int y5, .int ((-1)), .int ((-1)), .int 0, .int 0, .int 0])), (q0, .inr (2, [.int y1, .int 0, .int 0, .int 0])), (q1, .inr (2, [.int y2, .int 0, .int 0, .int 0]))] H := hP
  have hD : va_D A [(h, .inr (0, [.ref q0, .ref q1, .int y3, .int y4, .int y5, .int ((-1)), .int ((-1)), .int 0, .int 0, .int 0])), (q0, .inr (2, [.int y1, .int 0, .int 0, .int 0])), (q1, .inr (2, [.int y2, .int 0, .int 0, .int 0]))] := hD
  have hP9 := hP.sub (ws' := [(h, .inr (0, [.ref q0, .ref q1, .int y3, .int y4, .int y5, .int ((-1)), .int ((-1)), .int 0, .int 0, .int 0])), (q0, .inr (2, [.int y1, .int 0, .int 0, .int 0])), (q1, .inr (2, [.int y2, .int 0, .int 0, .int 0]))]) [0, 1, 2] rfl
  have hD9 := hD.sub (ws' := [(h, .inr (0, [.ref q0, .ref q1, .int y3, .int y4, .int y5, .int ((-1)), .int ((-1)), .int 0, .int 0, .int 0])), (q0, .inr (2, [.int y1, .int 0, .int 0, .int 0])), (q1, .inr (2, [.int y2, .int 0, .int 0, .int 0]))]) [0, 1, 2] (by decide) rfl
  exact W.vret hx hb hr (fun t ht hW => ⟨⟨(), rfl, trivial, q0, q1, by rw [ht]; exact hP9, hD9⟩, hS.F ht⟩) hS.2.2 dX0_init_70
set_option maxRecDepth 100000 in
set_option maxHeartbeats 4000000 in
theorem ci_5 (l : Launch) (D : va_G) (kc : Nat → ClassId) (h sz : Nat) (y1 : Int32) (y2 : Int32) : Met l yX5_init [Cond.code yX5_init cX5_init 3 none] ({ frames := 1, cells := 2, slots := 60, locals := 21 } : Room) (va_Pc [.ref h, .int y1, .int y2] (CB D kc [(h, .inr (5, [.int 0, .int 0, .null, .null, .int 0]))] sz)) (va_Qv (fun _ : Unit => True) (fun (_ : Unit) t => ∃ q0 q1 : Nat, va_P D vwCl [(h, .inr (5, [.int y1, .int y2, .ref q0, .ref q1, .int 0])), (q0, .inl (kc 0, (48, .inl (fun _ => 0)))), (q1, .inl (kc 0, (12, .inl (fun _ => 0))))] t.heap ∧ va_D (va_A [(h, .inr (5, [.int 0, .int 0, .null, .null, .int 0]))] sz) [(h, .inr (5, [.int y1, .int y2, .ref q0, .ref q1, .int 0])), (q0, .inl (kc 0, (48, .inl (fun _ => 0)))), (q1, .inl (kc 0, (12, .inl (fun _ => 0))))]) (va_A [(h, .inr (5, [.int 0, .int 0, .null, .null, .int 0]))] sz)) 2 60 (va_A [(h, .inr (5, [.int 0, .int 0, .null, .null, .int 0]))] sz) := by
  refine Met.ofW (cc := cX5_init) (maxL := 3) (ret := none) (by decide) rfl ?_
  intro p e s m args below meth c s₁ B hml hv
  obtain ⟨rfl, hsz, hP, hK, hD0, hX⟩ := hv
  have hx := B.exec
  have hb := B.bytes
  have hr := B.returns
  have hT : ∀ w ∈ TW, w.before ([.ref h, .int y1, .int y2] : List Value).toArray s = true := fun w hw => tw_use (List.mem_filter.mp hw).2 (State.WarmedH.refl s) (hX.1 w hw)
  have hown : s.vm.findClass "Phrasehall$Pool" = some m.cls := findClass_of_methodNamed B.named
  have hlocks := B.notSynchronized
  have hin : meth.name = "<init>" := (name_of_methodNamed B.named B.method).1
  subst hsz
  have hD := hD0.self (sz := s.heap.size)
  generalize hAe : va_A [(h, .inr (5, [.int 0, .int 0, .null, .null, .int 0]))] s.heap.size = A at hD ⊢
  have hA : ∀ q : Nat, s.heap.size ≤ q → A q := fun q h => by rw [← hAe]; exact Or.inr h
  have hS : va_S A s.heap s.heap [] := va_S.rf
  have hl := lv_entry ([.ref h, .int y1, .int y2]) (n := 3) (Nat.le_of_ble_eq_true rfl)
  rw [lg_entry_eq]
  generalize (lg_sl ([.ref h, .int y1, .int y2]) ++ List.replicate (3 - (lg_sl ([.ref h, .int y1, .int y2])).length) Slot.unset).toArray = ls at hl ⊢
  have hl : lv_has ls 3 [(0, .ref h), (1, .int y1), (2, .int y2)] := hl
  refine lv_aload_n hx hb dX5_init_0 rfl (lv_at hl 0 rfl) ?_
  refine W.objInit hx hb hown (hT _ tw_758) (hT _ tw_60) (hT _ tw_61) rfl (by rw [hml]; exact hl.1) rfl dX5_init_1 (Nat.le_of_ble_eq_true rfl) (Nat.le_of_ble_eq_true rfl) ?_
  refine W.eq (g2 := F0 m 4 ls []) rfl ?_
  refine lv_aload_n hx hb dX5_init_4 rfl (lv_at hl 0 rfl) ?_
  refine lv_bipush (v := 48) hx hb dX5_init_5 (by decide) ?_
  refine va_newa (atype := .int) (ty := .int) (N' := 48) (a0 := (48, .inl (fun _ => 0))) hx hb (hT _ tw_95) rfl hK hP hD hS hA (fun _ => rfl) (by decide) (by decide) (Nat.le_of_ble_eq_true rfl) (Nat.le_of_ble_eq_true rfl) (Nat.le_of_ble_eq_true rfl) dX5_init_7 (fun q0 cA H hK9 hP hD hS => ?_)
  have e9 : cA = kc 0 := Option.some.inj ((hK9.2 4 _ rfl).2.symm.trans (hK.2 0 _ rfl).2)
  subst e9
  have hP : va_P D vwCl [(h, .inr (5, [.int 0, .int 0, .null, .null, .int 0])), (q0, .inl (kc 0, (48, .inl (fun _ => 0))))] H := hP
  have hD : va_D A [(h, .inr (5, [.int 0, .int 0, .null, .null, .int 0])), (q0, .inl (kc 0, (48, .inl (fun _ => 0))))] := hD
  refine W.widen (k := 1) (n := 48) (Nat.le_of_ble_eq_true rfl) (Nat.le_of_ble_eq_true rfl) ?_
  refine va_putF (D := D) (ci := 5) (v := .ref q0) (ty := tyX5 2) (C := RX5) (T := TX5) (N := 5) hx hb hT inX5 tyX5 tyX5_ok nmX5 hown hK hP hD hS 0 rfl rfl 2 (by decide) (hT _ tw_762) (fun _ h9 => h9) rfl hin rfl (tyX5_ok 2 (by decide)) rfl rfl (Nat.le_of_ble_eq_true rfl) dX5_init_9 (fun H locs hP hD hS => ?_)
  have hP : va_P D vwCl [(h, .inr (5, [.int 0, .int 0, .ref q0, .null, .int 0])), (q0, .inl (kc 0, (48, .inl (fun _ => 0))))] H := hP
  have hD : va_D A [(h, .inr (5, [.int 0, .int 0, .ref q0, .null, .int 0])), (q0, .inl (kc 0, (48, .inl (fun _ => 0))))] := hD
  refine lv_aload_n hx hb dX5_init_12 rfl (lv_at hl 0 rfl) ?_
  refine lv_bipush (v := 12) hx hb dX5_init_13 (by decide) ?_
  refine va_newa (atype := .int) (ty := .int) (N' := 12) (a0 := (12, .inl (fun _ => 0))) hx hb (hT _ tw_95) rfl hK hP hD hS hA (fun _ => rfl) (by decide) (by decide) (Nat.le_of_ble_eq_true rfl) (Nat.le_of_ble_eq_true rfl) (Nat.le_of_ble_eq_true rfl) dX5_init_15 (fun q1 cA H hK9 hP hD hS => ?_)
  have e9 : cA = kc 0 := Option.some.inj ((hK9.2 4 _ rfl).2.symm.trans (hK.2 0 _ rfl).2)
  subst e9
  have hP : va_P D vwCl [(h, .inr (5, [.int 0, .int 0, .ref q0, .null, .int 0])), (q0, .inl (kc 0, (48, .inl (fun _ => 0)))), (q1, .inl (kc 0, (12, .inl (fun _ => 0))))] H := hP
  have hD : va_D A [(h, .inr (5, [.int 0, .int 0, .ref q0, .null, .int 0])), (q0, .inl (kc 0, (48, .inl (fun _ => 0)))), (q1, .inl (kc 0, (12, .inl (fun _ => 0))))] := hD
  refine W.widen (k := 2) (n := 60) (Nat.le_of_ble_eq_true rfl) (Nat.le_of_ble_eq_true rfl) ?_
  refine va_putF (D := D) (ci := 5) (v := .ref q1) (ty := tyX5 3) (C := RX5) (T := TX5) (N := 5) hx hb hT inX5 tyX5 tyX5_ok nmX5 hown hK hP hD hS 0 rfl rfl 3 (by decide) (hT _ tw_763) (fun _ h9 => h9) rfl hin rfl (tyX5_ok 3 (by decide)) rfl rfl (Nat.le_of_ble_eq_true rfl) dX5_init_17 (fun H locs hP hD hS => ?_)
  have hP : va_P D vwCl [(h, .inr (5, [.int 0, .int 0, .ref q0, .ref q1, .int 0])), (q0, .inl (kc 0, (48, .inl (fun _ => 0)))), (q1, .inl (kc 0, (12, .inl (fun _ => 0))))] H := hP
  have hD : va_D A [(h, .inr (5, [.int 0, .int 0, .ref q0, .ref q1, .int 0])), (q0, .inl (kc 0, (48, .inl (fun _ => 0)))), (q1, .inl (kc 0, (12, .inl (fun _ => 0))))] := hD
  refine lv_aload_n hx hb dX5_init_20 rfl (lv_at hl 0 rfl) ?_
  refine lv_iconst (v := 0) hx hb dX5_init_21 (by decide) ?_
  refine va_put (D := D) (ci := 5) (v := .int 0) (ty := tyX5 4) (C := RX5) (T := TX5) (N := 5) hx hb hT inX5 tyX5 tyX5_ok nmX5 hown hK hP hD hS 0 rfl rfl 4 (by decide) (hT _ tw_764) (fun _ h9 => h9) rfl (tyX5_ok 4 (by decide)) rfl rfl (Nat.le_of_ble_eq_true rfl) dX5_init_22 (fun H locs hP hD hS => ?_)
  have hP : va_P D vwCl [(h, .inr (5, [.int 0, .int 0, .ref q0, .ref q1, .int 0])), (q0, .inl (kc 0, (48, .inl (fun _ => 0)))), (q1, .inl (kc 0, (12, .inl (fun _ => 0))))] H := hP
  have hD : va_D A [(h, .inr (5, [.int 0, .int 0, .ref q0, .ref q1, .int 0])), (q0, .inl (kc 0, (48, .inl (fun _ => 0)))), (q1, .inl (kc 0, (12, .inl (fun _ => 0))))] := hD
  refine lv_aload_n hx hb dX5_init_25 rfl (lv_at hl 0 rfl) ?_
  refine lv_iload_n hx hb dX5_init_26 rfl (lv_at hl 1 rfl) ?_
  refine va_putF (D := D) (ci := 5) (v := .int y1) (ty := tyX5 0) (C := RX5) (T := TX5) (N := 5) hx hb hT inX5 tyX5 tyX5_ok nmX5 hown hK hP hD hS 0 rfl rfl 0 (by decide) (hT _ tw_759) (fun _ h9 => h9) rfl hin rfl (tyX5_ok 0 (by decide)) rfl rfl (Nat.le_of_ble_eq_true rfl) dX5_init_27 (fun H locs hP hD hS => ?_)
  have hP : va_P D vwCl [(h, .inr (5, [.int y1, .int 0, .ref q0, .ref q1, .int 0])), (q0, .inl (kc 0, (48, .inl (fun _ => 0)))), (q1, .inl (kc 0, (12, .inl (fun _ => 0))))] H := hP
  have hD : va_D A [(h, .inr (5, [.int y1, .int 0, .ref q0, .ref q1, .int 0])), (q0, .inl (kc 0, (48, .inl (fun _ => 0)))), (q1, .inl (kc 0, (12, .inl (fun _ => 0))))] := hD
  refine lv_aload_n hx hb dX5_init_30 rfl (lv_at hl 0 rfl) ?_
  refine lv_iload_n hx hb dX5_init_31 rfl (lv_at hl 2 rfl) ?_
  refine va_putF (D := D) (ci := 5) (v := .int y2) (ty := tyX5 1) (C := RX5) (T := TX5) (N := 5) hx hb hT inX5 tyX5 tyX5_ok nmX5 hown hK hP hD hS 0 rfl rfl 1 (by decide) (hT _ tw_761) (fun _ h9 => h9) rfl hin rfl (tyX5_ok 1 (by decide)) rfl rfl (Nat.le_of_ble_eq_true rfl) dX5_init_32 (fun H locs hP hD hS => ?_)
  have hP : va_P D vwCl [(h, .inr (5, [.int y1, .int y2, .ref q0, .ref q1, .int 0])), (q0, .inl (kc 0, (48, .inl (fun _ => 0)))), (q1, .inl (kc 0, (12, .inl (fun _ => 0))))] H := hP
  have hD : va_D A [(h, .inr (5, [.int y1, .int y2, .ref q0, .ref q1, .int 0])), (q0, .inl (kc 0, (48, .inl (fun _ => 0)))), (q1, .inl (kc 0, (12, .inl (fun _ => 0))))] := hD
  have hP9 := hP.sub (ws' := [(h, .inr (5, [.int y1, .int y2, .ref q0, .ref q1, .int 0])), (q0, .inl (kc 0, (48, .inl (fun _ => 0)))), (q1, .inl (kc 0, (12, .inl (fun _ => 0))))]) [0, 1, 2] rfl
  have hD9 := hD.sub (ws' := [(h, .inr (5, [.int y1, .int y2, .ref q0, .ref q1, .int 0])), (q0, .inl (kc 0, (48, .inl (fun _ => 0)))), (q1, .inl (kc 0, (12, .inl (fun _ => 0))))]) [0, 1, 2] (by decide) rfl
  exact W.vret hx hb hr (fun t ht hW => ⟨⟨(), rfl, trivial, q0, q1, by rw [ht]; exact hP9, hD9⟩, hS.F ht⟩) hS.2.2 dX5_init_35
set_option maxRecDepth 100000 in
set_option maxHeartbeats 4000000 in
theorem ci_6 (l : Launch) (D : va_G) (kc : Nat → ClassId) (h sz : Nat) : Met l yX6_init [Cond.code yX6_init cX6_init 1 none] ({ frames := 1, cells := 0, slots := 0, locals := 21 } : Room) (va_Pc [.ref h] (CB D kc [(h, .inr (6, [.int 0, .int 0, .int 0, .int 0, .int 0]))] sz)) (va_Qv (fun _ : Unit => True) (fun (_ : Unit) t => va_P D vwCl [(h, .inr (6, [.int ((-1)), .int ((-1)), .int 0, .int ((-1)), .int 0]))] t.heap ∧ va_D (va_A [(h, .inr (6, [.int 0, .int 0, .int 0, .int 0, .int 0]))] sz) [(h, .inr (6, [.int ((-1)), .int ((-1)), .int 0, .int ((-1)), .int 0]))]) (va_A [(h, .inr (6, [.int 0, .int 0, .int 0, .int 0, .int 0]))] sz)) 0 0 (va_A [(h, .inr (6, [.int 0, .int 0, .int 0, .int 0, .int 0]))] sz) := by
  refine Met.ofW (cc := cX6_init) (maxL := 1) (ret := none) (by decide) rfl ?_
  intro p e s m args below meth c s₁ B hml hv
  obtain ⟨rfl, hsz, hP, hK, hD0, hX⟩ := hv
  have hx := B.exec
  have hb := B.bytes
  have hr := B.returns
  have hT : ∀ w ∈ TW, w.before ([.ref h] : List Value).toArray s = true := fun w hw => tw_use (List.mem_filter.mp hw).2 (State.WarmedH.refl s) (hX.1 w hw)
  have hown : s.vm.findClass "Phrasehall$RightOfWay" = some m.cls := findClass_of_methodNamed B.named
  have hlocks := B.notSynchronized
  have hin : meth.name = "<init>" := (name_of_methodNamed B.named B.method).1
  subst hsz
  have hD := hD0.self (sz := s.heap.size)
  generalize hAe : va_A [(h, .inr (6, [.int 0, .int 0, .int 0, .int 0, .int 0]))] s.heap.size = A at hD ⊢
  have hA : ∀ q : Nat, s.heap.size ≤ q → A q := fun q h => by rw [← hAe]; exact Or.inr h
  have hS : va_S A s.heap s.heap [] := va_S.rf
  have hl := lv_entry ([.ref h]) (n := 1) (Nat.le_of_ble_eq_true rfl)
  rw [lg_entry_eq]
  generalize (lg_sl ([.ref h]) ++ List.replicate (1 - (lg_sl ([.ref h])).length) Slot.unset).toArray = ls at hl ⊢
  have hl : lv_has ls 1 [(0, .ref h)] := hl
  refine lv_aload_n hx hb dX6_init_0 rfl (lv_at hl 0 rfl) ?_
  refine W.objInit hx hb hown (hT _ tw_77) (hT _ tw_60) (hT _ tw_61) rfl (by rw [hml]; exact hl.1) rfl dX6_init_1 (Nat.le_of_ble_eq_true rfl) (Nat.le_of_ble_eq_true rfl) ?_
  refine W.eq (g2 := F0 m 4 ls []) rfl ?_
  refine lv_aload_n hx hb dX6_init_4 rfl (lv_at hl 0 rfl) ?_
  refine lv_iconst (v := (-1)) hx hb dX6_init_5 (by decide) ?_
  refine va_put (D := D) (ci := 6) (v := .int ((-1))) (ty := tyX6 0) (C := RX6) (T := TX6) (N := 5) hx hb hT inX6 tyX6 tyX6_ok nmX6 hown hK hP hD hS 0 rfl rfl 0 (by decide) (hT _ tw_78) (fun _ h9 => h9) rfl (tyX6_ok 0 (by decide)) rfl rfl (Nat.le_of_ble_eq_true rfl) dX6_init_6 (fun H locs hP hD hS => ?_)
  have hP : va_P D vwCl [(h, .inr (6, [.int ((-1)), .int 0, .int 0, .int 0, .int 0]))] H := hP
  have hD : va_D A [(h, .inr (6, [.int ((-1)), .int 0, .int 0, .int 0, .int 0]))] := hD
  refine lv_aload_n hx hb dX6_init_9 rfl (lv_at hl 0 rfl) ?_
  refine lv_iconst (v := (-1)) hx hb dX6_init_10 (by decide) ?_
  refine va_put (D := D) (ci := 6) (v := .int ((-1))) (ty := tyX6 1) (C := RX6) (T := TX6) (N := 5) hx hb hT inX6 tyX6 tyX6_ok nmX6 hown hK hP hD hS 0 rfl rfl 1 (by decide) (hT _ tw_80) (fun _ h9 => h9) rfl (tyX6_ok 1 (by decide)) rfl rfl (Nat.le_of_ble_eq_true rfl) dX6_init_11 (fun H locs hP hD hS => ?_)
  have hP : va_P D vwCl [(h, .inr (6, [.int ((-1)), .int ((-1)), .int 0, .int 0, .int 0]))] H := hP
  have hD : va_D A [(h, .inr (6, [.int ((-1)), .int ((-1)), .int 0, .int 0, .int 0]))] := hD
  refine lv_aload_n hx hb dX6_init_14 rfl (lv_at hl 0 rfl) ?_
  refine lv_iconst (v := 0) hx hb dX6_init_15 (by decide) ?_
  refine va_put (D := D) (ci := 6) (v := .int 0) (ty := tyX6 2) (C := RX6) (T := TX6) (N := 5) hx hb hT inX6 tyX6 tyX6_ok nmX6 hown hK hP hD hS 0 rfl rfl 2 (by decide) (hT _ tw_81) (fun _ h9 => h9) rfl (tyX6_ok 2 (by decide)) rfl rfl (Nat.le_of_ble_eq_true rfl) dX6_init_16 (fun H locs hP hD hS => ?_)
  have hP : va_P D vwCl [(h, .inr (6, [.int ((-1)), .int ((-1)), .int 0, .int 0, .int 0]))] H := hP
  have hD : va_D A [(h, .inr (6, [.int ((-1)), .int ((-1)), .int 0, .int 0, .int 0]))] := hD
  refine lv_aload_n hx hb dX6_init_19 rfl (lv_at hl 0 rfl) ?_
  refine lv_iconst (v := (-1)) hx hb dX6_init_20 (by decide) ?_
  refine va_put (D := D) (ci := 6) (v := .int ((-1))) (ty := tyX6 3) (C := RX6) (T := TX6) (N := 5) hx hb hT inX6 tyX6 tyX6_ok nmX6 hown hK hP hD hS 0 rfl rfl 3 (by decide) (hT _ tw_82) (fun _ h9 => h9) rfl (tyX6_ok 3 (by decide)) rfl rfl (Nat.le_of_ble_eq_true rfl) dX6_init_21 (fun H locs hP hD hS => ?_)
  have hP : va_P D vwCl [(h, .inr (6, [.int ((-1)), .int ((-1)), .int 0, .int ((-1)), .int 0]))] H := hP
  have hD : va_D A [(h, .inr (6, [.int ((-1)), .int ((-1)), .int 0, .int ((-1)), .int 0]))] := hD
  refine lv_aload_n hx hb dX6_init_24 rfl (lv_at hl 0 rfl) ?_
  refine lv_iconst (v := 0) hx hb dX6_init_25 (by decide) ?_
  refine va_put (D := D) (ci := 6) (v := .int 0) (ty := tyX6 4) (C := RX6) (T := TX6) (N := 5) hx hb hT inX6 tyX6 tyX6_ok nmX6 hown hK hP hD hS 0 rfl rfl 4 (by decide) (hT _ tw_83) (fun _ h9 => h9) rfl (tyX6_ok 4 (by decide)) rfl rfl (Nat.le_of_ble_eq_true rfl) dX6_init_26 (fun H locs hP hD hS => ?_)
  have hP : va_P D vwCl [(h, .inr (6, [.int ((-1)), .int ((-1)), .int 0, .int ((-1)), .int 0]))] H := hP
  have hD : va_D A [(h, .inr (6, [.int ((-1)), .int ((-1)), .int 0, .int ((-1)), .int 0]))] := hD
  have hP9 := hP.sub (ws' := [(h, .inr (6, [.int ((-1)), .int ((-1)), .int 0, .int ((-1)), .int 0]))]) [0] rfl
  have hD9 := hD.sub (ws' := [(h, .inr (6, [.int ((-1)), .int ((-1)), .int 0, .int ((-1)), .int 0]))]) [0] (by decide) rfl
  exact W.vret hx hb hr (fun t ht hW => ⟨⟨(), rfl, trivial, by rw [ht]; exact hP9, hD9⟩, hS.F ht⟩) hS.2.2 dX6_init_29
set_option maxRecDepth 100000 in
set_option maxHeartbeats 4000000 in
theorem ci_4 (l : Launch) (D : va_G) (kc : Nat → ClassId) (h sz : Nat) : Met l yX4_init [Cond.code yX4_init cX4_init 1 none] ({ frames := 2, cells := 6, slots := 125, locals := 41 } : Room) (va_Pc [.ref h] (CB D kc [(h, .inr (4, [.null, .null, .null, .null, .null, .null, .int 0]))] sz)) (va_Qv (fun _ : Unit => True) (fun (_ : Unit) t => ∃ q0 q1 q2 q3 q4 q5 : Nat, va_P D vwCl [(h, .inr (4, [.ref q0, .ref q1, .ref q2, .ref q3, .ref q4, .ref q5, .int 0])), (q0, .inl (kc 0, (24, .inl (fun _ => 0)))), (q1, .inl (kc 0, (24, .inl (fun _ => 0)))), (q2, .inl (kc 0, (24, .inl (fun _ => 0)))), (q3, .inl (kc 0, (24, .inl (fun _ => 0)))), (q4, .inl (kc 0, (24, .inl (fun _ => 0)))), (q5, .inr (6, [.int ((-1)), .int ((-1)), .int 0, .int ((-1)), .int 0]))] t.heap ∧ va_D (va_A [(h, .inr (4, [.null, .null, .null, .null, .null, .null, .int 0]))] sz) [(h, .inr (4, [.ref q0, .ref q1, .ref q2, .ref q3, .ref q4, .ref q5, .int 0])), (q0, .inl (kc 0, (24, .inl (fun _ => 0)))), (q1, .inl (kc 0, (24, .inl (fun _ => 0)))), (q2, .inl (kc 0, (24, .inl (fun _ => 0)))), (q3, .inl (kc 0, (24, .inl (fun _ => 0)))), (q4, .inl (kc 0, (24, .inl (fun _ => 0)))), (q5, .inr (6, [.int ((-1)), .int ((-1)), .int 0, .int ((-1)), .int 0]))]) (va_A [(h, .inr (4, [.null, .null, .null, .null, .null, .null, .int 0]))] sz)) 6 125 (va_A [(h, .inr (4, [.null, .null, .null, .null, .null, .null, .int 0]))] sz) := by
  refine Met.ofW (cc := cX4_init) (maxL := 1) (ret := none) (by decide) rfl ?_
  intro p e s m args below meth c s₁ B hml hv
  obtain ⟨rfl, hsz, hP, hK, hD0, hX⟩ := hv
  have hx := B.exec
  have hb := B.bytes
  have hr := B.returns
  have hT : ∀ w ∈ TW, w.before ([.ref h] : List Value).toArray s = true := fun w hw => tw_use (List.mem_filter.mp hw).2 (State.WarmedH.refl s) (hX.1 w hw)
  have hown : s.vm.findClass "Phrasehall$Phrase" = some m.cls := findClass_of_methodNamed B.named
  have hlocks := B.notSynchronized
  have hin : meth.name = "<init>" := (name_of_methodNamed B.named B.method).1
  subst hsz
  have hD := hD0.self (sz := s.heap.size)
  generalize hAe : va_A [(h, .inr (4, [.null, .null, .null, .null, .null, .null, .int 0]))] s.heap.size = A at hD ⊢
  have hA : ∀ q : Nat, s.heap.size ≤ q → A q := fun q h => by rw [← hAe]; exact Or.inr h
  have hS : va_S A s.heap s.heap [] := va_S.rf
  have hl := lv_entry ([.ref h]) (n := 1) (Nat.le_of_ble_eq_true rfl)
  rw [lg_entry_eq]
  generalize (lg_sl ([.ref h]) ++ List.replicate (1 - (lg_sl ([.ref h])).length) Slot.unset).toArray = ls at hl ⊢
  have hl : lv_has ls 1 [(0, .ref h)] := hl
  refine lv_aload_n hx hb dX4_init_0 rfl (lv_at hl 0 rfl) ?_
  refine W.objInit hx hb hown (hT _ tw_71) (hT _ tw_60) (hT _ tw_61) rfl (by rw [hml]; exact hl.1) rfl dX4_init_1 (Nat.le_of_ble_eq_true rfl) (Nat.le_of_ble_eq_true rfl) ?_
  refine W.eq (g2 := F0 m 4 ls []) rfl ?_
  refine lv_aload_n hx hb dX4_init_4 rfl (lv_at hl 0 rfl) ?_
  refine lv_bipush (v := 24) hx hb dX4_init_5 (by decide) ?_
  refine va_newa (atype := .int) (ty := .int) (N' := 24) (a0 := (24, .inl (fun _ => 0))) hx hb (hT _ tw_95) rfl hK hP hD hS hA (fun _ => rfl) (by decide) (by decide) (Nat.le_of_ble_eq_true rfl) (Nat.le_of_ble_eq_true rfl) (Nat.le_of_ble_eq_true rfl) dX4_init_7 (fun q0 cA H hK9 hP hD hS => ?_)
  have e9 : cA = kc 0 := Option.some.inj ((hK9.2 4 _ rfl).2.symm.trans (hK.2 0 _ rfl).2)
  subst e9
  have hP : va_P D vwCl [(h, .inr (4, [.null, .null, .null, .null, .null, .null, .int 0])), (q0, .inl (kc 0, (24, .inl (fun _ => 0))))] H := hP
  have hD : va_D A [(h, .inr (4, [.null, .null, .null, .null, .null, .null, .int 0])), (q0, .inl (kc 0, (24, .inl (fun _ => 0))))] := hD
  refine W.widen (k := 1) (n := 24) (Nat.le_of_ble_eq_true rfl) (Nat.le_of_ble_eq_true rfl) ?_
  refine va_putF (D := D) (ci := 4) (v := .ref q0) (ty := tyX4 0) (C := RX4) (T := TX4) (N := 7) hx hb hT inX4 tyX4 tyX4_ok nmX4 hown hK hP hD hS 0 rfl rfl 0 (by decide) (hT _ tw_96) (fun _ h9 => h9) rfl hin rfl (tyX4_ok 0 (by decide)) rfl rfl (Nat.le_of_ble_eq_true rfl) dX4_init_9 (fun H locs hP hD hS => ?_)
  have hP : va_P D vwCl [(h, .inr (4, [.ref q0, .null, .null, .null, .null, .null, .int 0])), (q0, .inl (kc 0, (24, .inl (fun _ => 0))))] H := hP
  have hD : va_D A [(h, .inr (4, [.ref q0, .null, .null, .null, .null, .null, .int 0])), (q0, .inl (kc 0, (24, .inl (fun _ => 0))))] := hD
  refine lv_aload_n hx hb dX4_init_12 rfl (lv_at hl 0 rfl) ?_
  refine lv_bipush (v := 24) hx hb dX4_init_13 (by decide) ?_
  refine va_newa (atype := .int) (ty := .int) (N' := 24) (a0 := (24, .inl (fun _ => 0))) hx hb (hT _ tw_95) rfl hK hP hD hS hA (fun _ => rfl) (by decide) (by decide) (Nat.le_of_ble_eq_true rfl) (Nat.le_of_ble_eq_true rfl) (Nat.le_of_ble_eq_true rfl) dX4_init_15 (fun q1 cA H hK9 hP hD hS => ?_)
  have e9 : cA = kc 0 := Option.some.inj ((hK9.2 4 _ rfl).2.symm.trans (hK.2 0 _ rfl).2)
  subst e9
  have hP : va_P D vwCl [(h, .inr (4, [.ref q0, .null, .null, .null, .null, .null, .int 0])), (q0, .inl (kc 0, (24, .inl (fun _ => 0)))), (q1, .inl (kc 0, (24, .inl (fun _ => 0))))] H := hP
  have hD : va_D A [(h, .inr (4, [.ref q0, .null, .null, .null, .null, .null, .int 0])), (q0, .inl (kc 0, (24, .inl (fun _ => 0)))), (q1, .inl (kc 0, (24, .inl (fun _ => 0))))] := hD
  refine W.widen (k := 2) (n := 48) (Nat.le_of_ble_eq_true rfl) (Nat.le_of_ble_eq_true rfl) ?_
  refine va_putF (D := D) (ci := 4) (v := .ref q1) (ty := tyX4 1) (C := RX4) (T := TX4) (N := 7) hx hb hT inX4 tyX4 tyX4_ok nmX4 hown hK hP hD hS 0 rfl rfl 1 (by decide) (hT _ tw_97) (fun _ h9 => h9) rfl hin rfl (tyX4_ok 1 (by decide)) rfl rfl (Nat.le_of_ble_eq_true rfl) dX4_init_17 (fun H locs hP hD hS => ?_)
  have hP : va_P D vwCl [(h, .inr (4, [.ref q0, .ref q1, .null, .null, .null, .null, .int 0])), (q0, .inl (kc 0, (24, .inl (fun _ => 0)))), (q1, .inl (kc 0, (24, .inl (fun _ => 0))))] H := hP
  have hD : va_D A [(h, .inr (4, [.ref q0, .ref q1, .null, .null, .null, .null, .int 0])), (q0, .inl (kc 0, (24, .inl (fun _ => 0)))), (q1, .inl (kc 0, (24, .inl (fun _ => 0))))] := hD
  refine lv_aload_n hx hb dX4_init_20 rfl (lv_at hl 0 rfl) ?_
  refine lv_bipush (v := 24) hx hb dX4_init_21 (by decide) ?_
  refine va_newa (atype := .int) (ty := .int) (N' := 24) (a0 := (24, .inl (fun _ => 0))) hx hb (hT _ tw_95) rfl hK hP hD hS hA (fun _ => rfl) (by decide) (by decide) (Nat.le_of_ble_eq_true rfl) (Nat.le_of_ble_eq_true rfl) (Nat.le_of_ble_eq_true rfl) dX4_init_23 (fun q2 cA H hK9 hP hD hS => ?_)
  have e9 : cA = kc 0 := Option.some.inj ((hK9.2 4 _ rfl).2.symm.trans (hK.2 0 _ rfl).2)
  subst e9
  have hP : va_P D vwCl [(h, .inr (4, [.ref q0, .ref q1, .null, .null, .null, .null, .int 0])), (q0, .inl (kc 0, (24, .inl (fun _ => 0)))), (q1, .inl (kc 0, (24, .inl (fun _ => 0)))), (q2, .inl (kc 0, (24, .inl (fun _ => 0))))] H := hP
  have hD : va_D A [(h, .inr (4, [.ref q0, .ref q1, .null, .null, .null, .null, .int 0])), (q0, .inl (kc 0, (24, .inl (fun _ => 0)))), (q1, .inl (kc 0, (24, .inl (fun _ => 0)))), (q2, .inl (kc 0, (24, .inl (fun _ => 0))))] := hD
  refine W.widen (k := 3) (n := 72) (Nat.le_of_ble_eq_true rfl) (Nat.le_of_ble_eq_true rfl) ?_
  refine va_putF (D := D) (ci := 4) (v := .ref q2) (ty := tyX4 2) (C := RX4) (T := TX4) (N := 7) hx hb hT inX4 tyX4 tyX4_ok nmX4 hown hK hP hD hS 0 rfl rfl 2 (by decide) (hT _ tw_98) (fun _ h9 => h9) rfl hin rfl (tyX4_ok 2 (by decide)) rfl rfl (Nat.le_of_ble_eq_true rfl) dX4_init_25 (fun H locs hP hD hS => ?_)
  have hP : va_P D vwCl [(h, .inr (4, [.ref q0, .ref q1, .ref q2, .null, .null, .null, .int 0])), (q0, .inl (kc 0, (24, .inl (fun _ => 0)))), (q1, .inl (kc 0, (24, .inl (fun _ => 0)))), (q2, .inl (kc 0, (24, .inl (fun _ => 0))))] H := hP
  have hD : va_D A [(h, .inr (4, [.ref q0, .ref q1, .ref q2, .null, .null, .null, .int 0])), (q0, .inl (kc 0, (24, .inl (fun _ => 0)))), (q1, .inl (kc 0, (24, .inl (fun _ => 0)))), (q2, .inl (kc 0, (24, .inl (fun _ => 0))))] := hD
  refine lv_aload_n hx hb dX4_init_28 rfl (lv_at hl 0 rfl) ?_
  refine lv_bipush (v := 24) hx hb dX4_init_29 (by decide) ?_
  refine va_newa (atype := .int) (ty := .int) (N' := 24) (a0 := (24, .inl (fun _ => 0))) hx hb (hT _ tw_95) rfl hK hP hD hS hA (fun _ => rfl) (by decide) (by decide) (Nat.le_of_ble_eq_true rfl) (Nat.le_of_ble_eq_true rfl) (Nat.le_of_ble_eq_true rfl) dX4_init_31 (fun q3 cA H hK9 hP hD hS => ?_)
  have e9 : cA = kc 0 := Option.some.inj ((hK9.2 4 _ rfl).2.symm.trans (hK.2 0 _ rfl).2)
  subst e9
  have hP : va_P D vwCl [(h, .inr (4, [.ref q0, .ref q1, .ref q2, .null, .null, .null, .int 0])), (q0, .inl (kc 0, (24, .inl (fun _ => 0)))), (q1, .inl (kc 0, (24, .inl (fun _ => 0)))), (q2, .inl (kc 0, (24, .inl (fun _ => 0)))), (q3, .inl (kc 0, (24, .inl (fun _ => 0))))] H := hP
  have hD : va_D A [(h, .inr (4, [.ref q0, .ref q1, .ref q2, .null, .null, .null, .int 0])), (q0, .inl (kc 0, (24, .inl (fun _ => 0)))), (q1, .inl (kc 0, (24, .inl (fun _ => 0)))), (q2, .inl (kc 0, (24, .inl (fun _ => 0)))), (q3, .inl (kc 0, (24, .inl (fun _ => 0))))] := hD
  refine W.widen (k := 4) (n := 96) (Nat.le_of_ble_eq_true rfl) (Nat.le_of_ble_eq_true rfl) ?_
  refine va_putF (D := D) (ci := 4) (v := .ref q3) (ty := tyX4 3) (C := RX4) (T := TX4) (N := 7) hx hb hT inX4 tyX4 tyX4_ok nmX4 hown hK hP hD hS 0 rfl rfl 3 (by decide) (hT _ tw_99) (fun _ h9 => h9) rfl hin rfl (tyX4_ok 3 (by decide)) rfl rfl (Nat.le_of_ble_eq_true rfl) dX4_init_33 (fun H locs hP hD hS => ?_)
  have hP : va_P D vwCl [(h, .inr (4, [.ref q0, .ref q1, .ref q2, .ref q3, .null, .null, .int 0])), (q0, .inl (kc 0, (24, .inl (fun _ => 0)))), (q1, .inl (kc 0, (24, .inl (fun _ => 0)))), (q2, .inl (kc 0, (24, .inl (fun _ => 0)))), (q3, .inl (kc 0, (24, .inl (fun _ => 0))))] H := hP
  have hD : va_D A [(h, .inr (4, [.ref q0, .ref q1, .ref q2, .ref q3, .null, .null, .int 0])), (q0, .inl (kc 0, (24, .inl (fun _ => 0)))), (q1, .inl (kc 0, (24, .inl (fun _ => 0)))), (q2, .inl (kc 0, (24, .inl (fun _ => 0)))), (q3, .inl (kc 0, (24, .inl (fun _ => 0))))] := hD
  refine lv_aload_n hx hb dX4_init_36 rfl (lv_at hl 0 rfl) ?_
  refine lv_bipush (v := 24) hx hb dX4_init_37 (by decide) ?_
  refine va_newa (atype := .int) (ty := .int) (N' := 24) (a0 := (24, .inl (fun _ => 0))) hx hb (hT _ tw_95) rfl hK hP hD hS hA (fun _ => rfl) (by decide) (by decide) (Nat.le_of_ble_eq_true rfl) (Nat.le_of_ble_eq_true rfl) (Nat.le_of_ble_eq_true rfl) dX4_init_39 (fun q4 cA H hK9 hP hD hS => ?_)
  have e9 : cA = kc 0 := Option.some.inj ((hK9.2 4 _ rfl).2.symm.trans (hK.2 0 _ rfl).2)
  subst e9
  have hP : va_P D vwCl [(h, .inr (4, [.ref q0, .ref q1, .ref q2, .ref q3, .null, .null, .int 0])), (q0, .inl (kc 0, (24, .inl (fun _ => 0)))), (q1, .inl (kc 0, (24, .inl (fun _ => 0)))), (q2, .inl (kc 0, (24, .inl (fun _ => 0)))), (q3, .inl (kc 0, (24, .inl (fun _ => 0)))), (q4, .inl (kc 0, (24, .inl (fun _ => 0))))] H := hP
  have hD : va_D A [(h, .inr (4, [.ref q0, .ref q1, .ref q2, .ref q3, .null, .null, .int 0])), (q0, .inl (kc 0, (24, .inl (fun _ => 0)))), (q1, .inl (kc 0, (24, .inl (fun _ => 0)))), (q2, .inl (kc 0, (24, .inl (fun _ => 0)))), (q3, .inl (kc 0, (24, .inl (fun _ => 0)))), (q4, .inl (kc 0, (24, .inl (fun _ => 0))))] := hD
  refine W.widen (k := 5) (n := 120) (Nat.le_of_ble_eq_true rfl) (Nat.le_of_ble_eq_true rfl) ?_
  refine va_putF (D := D) (ci := 4) (v := .ref q4) (ty := tyX4 4) (C := RX4) (T := TX4) (N := 7) hx hb hT inX4 tyX4 tyX4_ok nmX4 hown hK hP hD hS 0 rfl rfl 4 (by decide) (hT _ tw_100) (fun _ h9 => h9) rfl hin rfl (tyX4_ok 4 (by decide)) rfl rfl (Nat.le_of_ble_eq_true rfl) dX4_init_41 (fun H locs hP hD hS => ?_)
  have hP : va_P D vwCl [(h, .inr (4, [.ref q0, .ref q1, .ref q2, .ref q3, .ref q4, .null, .int 0])), (q0, .inl (kc 0, (24, .inl (fun _ => 0)))), (q1, .inl (kc 0, (24, .inl (fun _ => 0)))), (q2, .inl (kc 0, (24, .inl (fun _ => 0)))), (q3, .inl (kc 0, (24, .inl (fun _ => 0)))), (q4, .inl (kc 0, (24, .inl (fun _ => 0))))] H := hP
  have hD : va_D A [(h, .inr (4, [.ref q0, .ref q1, .ref q2, .ref q3, .ref q4, .null, .int 0])), (q0, .inl (kc 0, (24, .inl (fun _ => 0)))), (q1, .inl (kc 0, (24, .inl (fun _ => 0)))), (q2, .inl (kc 0, (24, .inl (fun _ => 0)))), (q3, .inl (kc 0, (24, .inl (fun _ => 0)))), (q4, .inl (kc 0, (24, .inl (fun _ => 0))))] := hD
  refine lv_aload_n hx hb dX4_init_44 rfl (lv_at hl 0 rfl) ?_
  refine va_new (ci := 6) (fs := [.int 0, .int 0, .int 0, .int 0, .int 0]) (C := RX6) (T := TX6) (N := 5) hx hb hT inX6 tyX6 tyX6_ok hown (hT _ tw_72) (hT _ tw_73) (hT _ tw_40) hK hP hD hS hA rfl (df_6) (Nat.le_of_ble_eq_true rfl) (Nat.le_of_ble_eq_true rfl) dX4_init_45 (fun q5 H hP hD hS => ?_)
  have hP : va_P D vwCl [(h, .inr (4, [.ref q0, .ref q1, .ref q2, .ref q3, .ref q4, .null, .int 0])), (q0, .inl (kc 0, (24, .inl (fun _ => 0)))), (q1, .inl (kc 0, (24, .inl (fun _ => 0)))), (q2, .inl (kc 0, (24, .inl (fun _ => 0)))), (q3, .inl (kc 0, (24, .inl (fun _ => 0)))), (q4, .inl (kc 0, (24, .inl (fun _ => 0)))), (q5, .inr (6, [.int 0, .int 0, .int 0, .int 0, .int 0]))] H := hP
  have hD : va_D A [(h, .inr (4, [.ref q0, .ref q1, .ref q2, .ref q3, .ref q4, .null, .int 0])), (q0, .inl (kc 0, (24, .inl (fun _ => 0)))), (q1, .inl (kc 0, (24, .inl (fun _ => 0)))), (q2, .inl (kc 0, (24, .inl (fun _ => 0)))), (q3, .inl (kc 0, (24, .inl (fun _ => 0)))), (q4, .inl (kc 0, (24, .inl (fun _ => 0)))), (q5, .inr (6, [.int 0, .int 0, .int 0, .int 0, .int 0]))] := hD
  refine W.widen (k := 6) (n := 125) (Nat.le_of_ble_eq_true rfl) (Nat.le_of_ble_eq_true rfl) ?_
  refine lv_dup hx hb dX4_init_48 rfl ?_
  have hPc := hP.sub (ws' := [(q5, .inr (6, [.int 0, .int 0, .int 0, .int 0, .int 0]))]) [6] rfl
  have hDc := hD.sub (ws' := [(q5, .inr (6, [.int 0, .int 0, .int 0, .int 0, .int 0]))]) [6] (by decide) rfl
  have hFc := va_free (wc := [(q5, .inr (6, [.int 0, .int 0, .int 0, .int 0, .int 0]))]) hD hS hA [6] rfl
  refine va_callv (va_runIN (As := []) (rest := [.ref q5, .ref h]) ⟨hx, hb, hml, hown, hT⟩ (ci_6 l D kc q5 H.size) ⟨va_cnB 0 hT (gi1 tw_76) rfl rfl rfl (hX.2.1 _ nw_74) (hT _ tw_40) ⟨by decide +kernel, by decide +kernel, by decide +kernel⟩ ⟨Nat.le_of_ble_eq_true rfl, Nat.le_of_ble_eq_true rfl⟩, rfl, hT _ tw_75⟩ ⟨CB.blind, fun U hU hW => ⟨rfl, by rw [hU], by rw [hU]; exact hPc, va_K.moved hW.alike hK, hDc.weaken (fun _ _ _ _ => trivial), hX.warm hW⟩⟩ rfl rfl hl.1 rfl (lv_room (Nat.le_of_ble_eq_true rfl)) dX4_init_49 ⟨Nat.le_of_ble_eq_true rfl, Nat.le_of_ble_eq_true rfl⟩) hS (fun q _ h => hFc q h) hFc (fun u t H1 locs ht hvm hw hB hz1 hk1 hS => ?_)
  obtain ⟨hP1, hD1⟩ := hB
  rw [ht] at hP1
  obtain ⟨hP, hD⟩ := va_join (wr := [(h, .inr (4, [.ref q0, .ref q1, .ref q2, .ref q3, .ref q4, .null, .int 0])), (q0, .inl (kc 0, (24, .inl (fun _ => 0)))), (q1, .inl (kc 0, (24, .inl (fun _ => 0)))), (q2, .inl (kc 0, (24, .inl (fun _ => 0)))), (q3, .inl (kc 0, (24, .inl (fun _ => 0)))), (q4, .inl (kc 0, (24, .inl (fun _ => 0))))]) (w1 := [(q5, .inr (6, [.int ((-1)), .int ((-1)), .int 0, .int ((-1)), .int 0]))]) hP hD [6] [0, 1, 2, 3, 4, 5] rfl rfl (by decide) (by decide) hk1 hFc hP1 hD1
  generalize H1 = H at hP hS ⊢
  have hP : va_P D vwCl [(h, .inr (4, [.ref q0, .ref q1, .ref q2, .ref q3, .ref q4, .null, .int 0])), (q0, .inl (kc 0, (24, .inl (fun _ => 0)))), (q1, .inl (kc 0, (24, .inl (fun _ => 0)))), (q2, .inl (kc 0, (24, .inl (fun _ => 0)))), (q3, .inl (kc 0, (24, .inl (fun _ => 0)))), (q4, .inl (kc 0, (24, .inl (fun _ => 0)))), (q5, .inr (6, [.int ((-1)), .int ((-1)), .int 0, .int ((-1)), .int 0]))] H := hP
  have hD : va_D A [(h, .inr (4, [.ref q0, .ref q1, .ref q2, .ref q3, .ref q4, .null, .int 0])), (q0, .inl (kc 0, (24, .inl (fun _ => 0)))), (q1, .inl (kc 0, (24, .inl (fun _ => 0)))), (q2, .inl (kc 0, (24, .inl (fun _ => 0)))), (q3, .inl (kc 0, (24, .inl (fun _ => 0)))), (q4, .inl (kc 0, (24, .inl (fun _ => 0)))), (q5, .inr (6, [.int ((-1)), .int ((-1)), .int 0, .int ((-1)), .int 0]))] := hD
  refine W.widen (k := 6) (n := 125) (Nat.le_of_ble_eq_true rfl) (Nat.le_of_ble_eq_true rfl) ?_
  refine va_putF (D := D) (ci := 4) (v := .ref q5) (ty := tyX4 5) (C := RX4) (T := TX4) (N := 7) hx hb hT inX4 tyX4 tyX4_ok nmX4 hown hK hP hD hS 0 rfl rfl 5 (by decide) (hT _ tw_101) (fun _ h9 => h9) rfl hin rfl (tyX4_ok 5 (by decide)) rfl rfl (Nat.le_of_ble_eq_true rfl) dX4_init_52 (fun H locs hP hD hS => ?_)
  have hP : va_P D vwCl [(h, .inr (4, [.ref q0, .ref q1, .ref q2, .ref q3, .ref q4, .ref q5, .int 0])), (q0, .inl (kc 0, (24, .inl (fun _ => 0)))), (q1, .inl (kc 0, (24, .inl (fun _ => 0)))), (q2, .inl (kc 0, (24, .inl (fun _ => 0)))), (q3, .inl (kc 0, (24, .inl (fun _ => 0)))), (q4, .inl (kc 0, (24, .inl (fun _ => 0)))), (q5, .inr (6, [.int ((-1)), .int ((-1)), .int 0, .int ((-1)), .int 0]))] H := hP
  have hD : va_D A [(h, .inr (4, [.ref q0, .ref q1, .ref q2, .ref q3, .ref q4, .ref q5, .int 0])), (q0, .inl (kc 0, (24, .inl (fun _ => 0)))), (q1, .inl (kc 0, (24, .inl (fun _ => 0)))), (q2, .inl (kc 0, (24, .inl (fun _ => 0)))), (q3, .inl (kc 0, (24, .inl (fun _ => 0)))), (q4, .inl (kc 0, (24, .inl (fun _ => 0)))), (q5, .inr (6, [.int ((-1)), .int ((-1)), .int 0, .int ((-1)), .int 0]))] := hD
  refine lv_aload_n hx hb dX4_init_55 rfl (lv_at hl 0 rfl) ?_
  refine lv_iconst (v := 0) hx hb dX4_init_56 (by decide) ?_
  refine va_put (D := D) (ci := 4) (v := .int 0) (ty := tyX4 6) (C := RX4) (T := TX4) (N := 7) hx hb hT inX4 tyX4 tyX4_ok nmX4 hown hK hP hD hS 0 rfl rfl 6 (by decide) (hT _ tw_102) (fun _ h9 => h9) rfl (tyX4_ok 6 (by decide)) rfl rfl (Nat.le_of_ble_eq_true rfl) dX4_init_57 (fun H locs hP hD hS => ?_)
  have hP : va_P D vwCl [(h, .inr (4, [.ref q0, .ref q1, .ref q2, .ref q3, .ref q4, .ref q5, .int 0])), (q0, .inl (kc 0, (24, .inl (fun _ => 0)))), (q1, .inl (kc 0, (24, .inl (fun _ => 0)))), (q2, .inl (kc 0, (24, .inl (fun _ => 0)))), (q3, .inl (kc 0, (24, .inl (fun _ => 0)))), (q4, .inl (kc 0, (24, .inl (fun _ => 0)))), (q5, .inr (6, [.int ((-1)), .int ((-1)), .int 0, .int ((-1)), .int 0]))] H := hP
  have hD : va_D A [(h, .inr (4, [.ref q0, .ref q1, .ref q2, .ref q3, .ref q4, .ref q5, .int 0])), (q0, .inl (kc 0, (24, .inl (fun _ => 0)))), (q1, .inl (kc 0, (24, .inl (fun _ => 0)))), (q2, .inl (kc 0, (24, .inl (fun _ => 0)))), (q3, .inl (kc 0, (24, .inl (fun _ => 0)))), (q4, .inl (kc 0, (24, .inl (fun _ => 0)))), (q5, .inr (6, [.int ((-1)), .int ((-1)), .int 0, .int ((-1)), .int 0]))] := hD
  have hP9 := hP.sub (ws' := [(h, .inr (4, [.ref q0, .ref q1, .ref q2, .ref q3, .ref q4, .ref q5, .int 0])), (q0, .inl (kc 0, (24, .inl (fun _ => 0)))), (q1, .inl (kc 0, (24, .inl (fun _ => 0)))), (q2, .inl (kc 0, (24, .inl (fun _ => 0)))), (q3, .inl (kc 0, (24, .inl (fun _ => 0)))), (q4, .inl (kc 0, (24, .inl (fun _ => 0)))), (q5, .inr (6, [.int ((-1)), .int ((-1)), .int 0, .int ((-1)), .int 0]))]) [0, 1, 2, 3, 4, 5, 6] rfl
  have hD9 := hD.sub (ws' := [(h, .inr (4, [.ref q0, .ref q1, .ref q2, .ref q3, .ref q4, .ref q5, .int 0])), (q0, .inl (kc 0, (24, .inl (fun _ => 0)))), (q1, .inl (kc 0, (24, .inl (fun _ => 0)))), (q2, .inl (kc 0, (24, .inl (fun _ => 0)))), (q3, .inl (kc 0, (24, .inl (fun _ => 0)))), (q4, .inl (kc 0, (24, .inl (fun _ => 0)))), (q5, .inr (6, [.int ((-1)), .int ((-1)), .int 0, .int ((-1)), .int 0]))]) [0, 1, 2, 3, 4, 5, 6] (by decide) rfl
  exact W.vret hx hb hr (fun t ht hW => ⟨⟨(), rfl, trivial, q0, q1, q2, q3, q4, q5, by rw [ht]; exact hP9, hD9⟩, hS.F ht⟩) hS.2.2 dX4_init_60
set_option maxRecDepth 100000 in
set_option maxHeartbeats 4000000 in
theorem ci_1 (l : Launch) (D : va_G) (kc : Nat → ClassId) (h sz : Nat) : Met l yX1_init [Cond.code yX1_init cX1_init 1 none] ({ frames := 1, cells := 2, slots := 48, locals := 21 } : Room) (va_Pc [.ref h] (CB D kc [(h, .inr (1, [.null, .null, .int 0]))] sz)) (va_Qv (fun _ : Unit => True) (fun (_ : Unit) t => ∃ q0 q1 : Nat, va_P D vwCl [(h, .inr (1, [.ref q0, .ref q1, .int 0])), (q0, .inl (kc 0, (32, .inl (fun _ => 0)))), (q1, .inl (kc 0, (16, .inl (fun _ => 0))))] t.heap ∧ va_D (va_A [(h, .inr (1, [.null, .null, .int 0]))] sz) [(h, .inr (1, [.ref q0, .ref q1, .int 0])), (q0, .inl (kc 0, (32, .inl (fun _ => 0)))), (q1, .inl (kc 0, (16, .inl (fun _ => 0))))]) (va_A [(h, .inr (1, [.null, .null, .int 0]))] sz)) 2 48 (va_A [(h, .inr (1, [.null, .null, .int 0]))] sz) := by
  refine Met.ofW (cc := cX1_init) (maxL := 1) (ret := none) (by decide) rfl ?_
  intro p e s m args below meth c s₁ B hml hv
  obtain ⟨rfl, hsz, hP, hK, hD0, hX⟩ := hv
  have hx := B.exec
  have hb := B.bytes
  have hr := B.returns
  have hT : ∀ w ∈ TW, w.before ([.ref h] : List Value).toArray s = true := fun w hw => tw_use (List.mem_filter.mp hw).2 (State.WarmedH.refl s) (hX.1 w hw)
  have hown : s.vm.findClass "Phrasehall$Bracket" = some m.cls := findClass_of_methodNamed B.named
  have hlocks := B.notSynchronized
  have hin : meth.name = "<init>" := (name_of_methodNamed B.named B.method).1
  subst hsz
  have hD := hD0.self (sz := s.heap.size)
  generalize hAe : va_A [(h, .inr (1, [.null, .null, .int 0]))] s.heap.size = A at hD ⊢
  have hA : ∀ q : Nat, s.heap.size ≤ q → A q := fun q h => by rw [← hAe]; exact Or.inr h
  have hS : va_S A s.heap s.heap [] := va_S.rf
  have hl := lv_entry ([.ref h]) (n := 1) (Nat.le_of_ble_eq_true rfl)
  rw [lg_entry_eq]
  generalize (lg_sl ([.ref h]) ++ List.replicate (1 - (lg_sl ([.ref h])).length) Slot.unset).toArray = ls at hl ⊢
  have hl : lv_has ls 1 [(0, .ref h)] := hl
  refine lv_aload_n hx hb dX1_init_0 rfl (lv_at hl 0 rfl) ?_
  refine W.objInit hx hb hown (hT _ tw_124) (hT _ tw_60) (hT _ tw_61) rfl (by rw [hml]; exact hl.1) rfl dX1_init_1 (Nat.le_of_ble_eq_true rfl) (Nat.le_of_ble_eq_true rfl) ?_
  refine W.eq (g2 := F0 m 4 ls []) rfl ?_
  refine lv_aload_n hx hb dX1_init_4 rfl (lv_at hl 0 rfl) ?_
  refine lv_bipush (v := 32) hx hb dX1_init_5 (by decide) ?_
  refine va_newa (atype := .int) (ty := .int) (N' := 32) (a0 := (32, .inl (fun _ => 0))) hx hb (hT _ tw_95) rfl hK hP hD hS hA (fun _ => rfl) (by decide) (by decide) (Nat.le_of_ble_eq_true rfl) (Nat.le_of_ble_eq_true rfl) (Nat.le_of_ble_eq_true rfl) dX1_init_7 (fun q0 cA H hK9 hP hD hS => ?_)
  have e9 : cA = kc 0 := Option.some.inj ((hK9.2 4 _ rfl).2.symm.trans (hK.2 0 _ rfl).2)
  subst e9
  have hP : va_P D vwCl [(h, .inr (1, [.null, .null, .int 0])), (q0, .inl (kc 0, (32, .inl (fun _ => 0))))] H := hP
  have hD : va_D A [(h, .inr (1, [.null, .null, .int 0])), (q0, .inl (kc 0, (32, .inl (fun _ => 0))))] := hD
  refine W.widen (k := 1) (n := 32) (Nat.le_of_ble_eq_true rfl) (Nat.le_of_ble_eq_true rfl) ?_
  refine va_putF (D := D) (ci := 1) (v := .ref q0) (ty := tyX1 0) (C := RX1) (T := TX1) (N := 3) hx hb hT inX1 tyX1 tyX1_ok nmX1 hown hK hP hD hS 0 rfl rfl 0 (by decide) (hT _ tw_125) (fun _ h9 => h9) rfl hin rfl (tyX1_ok 0 (by decide)) rfl rfl (Nat.le_of_ble_eq_true rfl) dX1_init_9 (fun H locs hP hD hS => ?_)
  have hP : va_P D vwCl [(h, .inr (1, [.ref q0, .null, .int 0])), (q0, .inl (kc 0, (32, .inl (fun _ => 0))))] H := hP
  have hD : va_D A [(h, .inr (1, [.ref q0, .null, .int 0])), (q0, .inl (kc 0, (32, .inl (fun _ => 0))))] := hD
  refine lv_aload_n hx hb dX1_init_12 rfl (lv_at hl 0 rfl) ?_
  refine lv_bipush (v := 16) hx hb dX1_init_13 (by decide) ?_
  refine va_newa (atype := .int) (ty := .int) (N' := 16) (a0 := (16, .inl (fun _ => 0))) hx hb (hT _ tw_95) rfl hK hP hD hS hA (fun _ => rfl) (by decide) (by decide) (Nat.le_of_ble_eq_true rfl) (Nat.le_of_ble_eq_true rfl) (Nat.le_of_ble_eq_true rfl) dX1_init_15 (fun q1 cA H hK9 hP hD hS => ?_)
  have e9 : cA = kc 0 := Option.some.inj ((hK9.2 4 _ rfl).2.symm.trans (hK.2 0 _ rfl).2)
  subst e9
  have hP : va_P D vwCl [(h, .inr (1, [.ref q0, .null, .int 0])), (q0, .inl (kc 0, (32, .inl (fun _ => 0)))), (q1, .inl (kc 0, (16, .inl (fun _ => 0))))] H := hP
  have hD : va_D A [(h, .inr (1, [.ref q0, .null, .int 0])), (q0, .inl (kc 0, (32, .inl (fun _ => 0)))), (q1, .inl (kc 0, (16, .inl (fun _ => 0))))] := hD
  refine W.widen (k := 2) (n := 48) (Nat.le_of_ble_eq_true rfl) (Nat.le_of_ble_eq_true rfl) ?_
  refine va_putF (D := D) (ci := 1) (v := .ref q1) (ty := tyX1 1) (C := RX1) (T := TX1) (N := 3) hx hb hT inX1 tyX1 tyX1_ok nmX1 hown hK hP hD hS 0 rfl rfl 1 (by decide) (hT _ tw_126) (fun _ h9 => h9) rfl hin rfl (tyX1_ok 1 (by decide)) rfl rfl (Nat.le_of_ble_eq_true rfl) dX1_init_17 (fun H locs hP hD hS => ?_)
  have hP : va_P D vwCl [(h, .inr (1, [.ref q0, .ref q1, .int 0])), (q0, .inl (kc 0, (32, .inl (fun _ => 0)))), (q1, .inl (kc 0, (16, .inl (fun _ => 0))))] H := hP
  have hD : va_D A [(h, .inr (1, [.ref q0, .ref q1, .int 0])), (q0, .inl (kc 0, (32, .inl (fun _ => 0)))), (q1, .inl (kc 0, (16, .inl (fun _ => 0))))] := hD
  refine lv_aload_n hx hb dX1_init_20 rfl (lv_at hl 0 rfl) ?_
  refine lv_iconst (v := 0) hx hb dX1_init_21 (by decide) ?_
  refine va_put (D := D) (ci := 1) (v := .int 0) (ty := tyX1 2) (C := RX1) (T := TX1) (N := 3) hx hb hT inX1 tyX1 tyX1_ok nmX1 hown hK hP hD hS 0 rfl rfl 2 (by decide) (hT _ tw_127) (fun _ h9 => h9) rfl (tyX1_ok 2 (by decide)) rfl rfl (Nat.le_of_ble_eq_true rfl) dX1_init_22 (fun H locs hP hD hS => ?_)
  have hP : va_P D vwCl [(h, .inr (1, [.ref q0, .ref q1, .int 0])), (q0, .inl (kc 0, (32, .inl (fun _ => 0)))), (q1, .inl (kc 0, (16, .inl (fun _ => 0))))] H := hP
  have hD : va_D A [(h, .inr (1, [.ref q0, .ref q1, .int 0])), (q0, .inl (kc 0, (32, .inl (fun _ => 0)))), (q1, .inl (kc 0, (16, .inl (fun _ => 0))))] := hD
  have hP9 := hP.sub (ws' := [(h, .inr (1, [.ref q0, .ref q1, .int 0])), (q0, .inl (kc 0, (32, .inl (fun _ => 0)))), (q1, .inl (kc 0, (16, .inl (fun _ => 0))))]) [0, 1, 2] rfl
  have hD9 := hD.sub (ws' := [(h, .inr (1, [.ref q0, .ref q1, .int 0])), (q0, .inl (kc 0, (32, .inl (fun _ => 0)))), (q1, .inl (kc 0, (16, .inl (fun _ => 0))))]) [0, 1, 2] (by decide) rfl
  exact W.vret hx hb hr (fun t ht hW => ⟨⟨(), rfl, trivial, q0, q1, by rw [ht]; exact hP9, hD9⟩, hS.F ht⟩) hS.2.2 dX1_init_25
set_option maxRecDepth 100000 in
set_option maxHeartbeats 4000000 in
theorem ci_3 (l : Launch) (D : va_G) (kc : Nat → ClassId) (h sz : Nat) : Met l yX3_init [Cond.code yX3_init cX3_init 1 none] ({ frames := 1, cells := 0, slots := 0, locals := 21 } : Room) (va_Pc [.ref h] (CB D kc [(h, .inr (3, [.long 0]))] sz)) (va_Qv (fun _ : Unit => True) (fun (_ : Unit) t => va_P D vwCl [(h, .inr (3, [.long 0]))] t.heap ∧ va_D (va_A [(h, .inr (3, [.long 0]))] sz) [(h, .inr (3, [.long 0]))]) (va_A [(h, .inr (3, [.long 0]))] sz)) 0 0 (va_A [(h, .inr (3, [.long 0]))] sz) := by
  refine Met.ofW (cc := cX3_init) (maxL := 1) (ret := none) (by decide) rfl ?_
  intro p e s m args below meth c s₁ B hml hv
  obtain ⟨rfl, hsz, hP, hK, hD0, hX⟩ := hv
  have hx := B.exec
  have hb := B.bytes
  have hr := B.returns
  have hT : ∀ w ∈ TW, w.before ([.ref h] : List Value).toArray s = true := fun w hw => tw_use (List.mem_filter.mp hw).2 (State.WarmedH.refl s) (hX.1 w hw)
  have hown : s.vm.findClass "Phrasehall$Lot" = some m.cls := findClass_of_methodNamed B.named
  have hlocks := B.notSynchronized
  have hin : meth.name = "<init>" := (name_of_methodNamed B.named B.method).1
  subst hsz
  have hD := hD0.self (sz := s.heap.size)
  generalize hAe : va_A [(h, .inr (3, [.long 0]))] s.heap.size = A at hD ⊢
  have hA : ∀ q : Nat, s.heap.size ≤ q → A q := fun q h => by rw [← hAe]; exact Or.inr h
  have hS : va_S A s.heap s.heap [] := va_S.rf
  have hl := lv_entry ([.ref h]) (n := 1) (Nat.le_of_ble_eq_true rfl)
  rw [lg_entry_eq]
  generalize (lg_sl ([.ref h]) ++ List.replicate (1 - (lg_sl ([.ref h])).length) Slot.unset).toArray = ls at hl ⊢
  have hl : lv_has ls 1 [(0, .ref h)] := hl
  refine lv_aload_n hx hb dX3_init_0 rfl (lv_at hl 0 rfl) ?_
  refine W.objInit hx hb hown (hT _ tw_141) (hT _ tw_60) (hT _ tw_61) rfl (by rw [hml]; exact hl.1) rfl dX3_init_1 (Nat.le_of_ble_eq_true rfl) (Nat.le_of_ble_eq_true rfl) ?_
  refine W.eq (g2 := F0 m 4 ls []) rfl ?_
  refine lv_aload_n hx hb dX3_init_4 rfl (lv_at hl 0 rfl) ?_
  refine lv_lconst (v := 0) hx hb dX3_init_5 (by decide) ?_
  refine va_put (D := D) (ci := 3) (v := .long 0) (ty := tyX3 0) (C := RX3) (T := TX3) (N := 1) hx hb hT inX3 tyX3 tyX3_ok nmX3 hown hK hP hD hS 0 rfl rfl 0 (by decide) (hT _ tw_142) (fun _ h9 => h9) rfl (tyX3_ok 0 (by decide)) rfl rfl (Nat.le_of_ble_eq_true rfl) dX3_init_6 (fun H locs hP hD hS => ?_)
  have hP : va_P D vwCl [(h, .inr (3, [.long 0]))] H := hP
  have hD : va_D A [(h, .inr (3, [.long 0]))] := hD
  have hP9 := hP.sub (ws' := [(h, .inr (3, [.long 0]))]) [0] rfl
  have hD9 := hD.sub (ws' := [(h, .inr (3, [.long 0]))]) [0] (by decide) rfl
  exact W.vret hx hb hr (fun t ht hW => ⟨⟨(), rfl, trivial, by rw [ht]; exact hP9, hD9⟩, hS.F ht⟩) hS.2.2 dX3_init_9
set_option maxRecDepth 100000 in
set_option maxHeartbeats 4000000 in
theorem ci_7 (l : Launch) (D : va_G) (kc : Nat → ClassId) (h sz : Nat) : Met l yX7_init [Cond.code yX7_init cX7_init 1 none] ({ frames := 3, cells := 13, slots := 270, locals := 61 } : Room) (va_Pc [.ref h] (CBO D kc [(h, .inr (7, [.null, .null, .null, .null, .null, .int 0, .int 0, .int 0, .null, .int 0]))] sz)) (va_Qv (fun _ : Unit => True) (fun (_ : Unit) t => ∃ q0 q1 q2 q3 q4 q5 q6 q7 q8 q9 q10 q11 q12 : Nat, va_P D vwCl [(h, .inr (7, [.ref q0, .ref q1, .ref q2, .ref q9, .ref q12, .int 0, .int 0, .int 0, .null, .int ((-1))])), (q0, .inl (kc 2, (80, .inr (.inr (.inr (.inr (fun _ => none))))))), (q1, .inl (kc 3, (6, .inr (.inr (.inr (.inr (fun _ => none))))))), (q2, .inr (4, [.ref q3, .ref q4, .ref q5, .ref q6, .ref q7, .ref q8, .int 0])), (q3, .inl (kc 0, (24, .inl (fun _ => 0)))), (q4, .inl (kc 0, (24, .inl (fun _ => 0)))), (q5, .inl (kc 0, (24, .inl (fun _ => 0)))), (q6, .inl (kc 0, (24, .inl (fun _ => 0)))), (q7, .inl (kc 0, (24, .inl (fun _ => 0)))), (q8, .inr (6, [.int ((-1)), .int ((-1)), .int 0, .int ((-1)), .int 0])), (q9, .inr (1, [.ref q10, .ref q11, .int 0])), (q10, .inl (kc 0, (32, .inl (fun _ => 0)))), (q11, .inl (kc 0, (16, .inl (fun _ => 0)))), (q12, .inr (3, [.long 0]))] t.heap ∧ va_D (va_A [(h, .inr (7, [.null, .null, .null, .null, .null, .int 0, .int 0, .int 0, .null, .int 0]))] sz) [(h, .inr (7, [.ref q0, .ref q1, .ref q2, .ref q9, .ref q12, .int 0, .int 0, .int 0, .null, .int ((-1))])), (q0, .inl (kc 2, (80, .inr (.inr (.inr (.inr (fun _ => none))))))), (q1, .inl (kc 3, (6, .inr (.inr (.inr (.inr (fun _ => none))))))), (q2, .inr (4, [.ref q3, .ref q4, .ref q5, .ref q6, .ref q7, .ref q8, .int 0])), (q3, .inl (kc 0, (24, .inl (fun _ => 0)))), (q4, .inl (kc 0, (24, .inl (fun _ => 0)))), (q5, .inl (kc 0, (24, .inl (fun _ => 0)))), (q6, .inl (kc 0, (24, .inl (fun _ => 0)))), (q7, .inl (kc 0, (24, .inl (fun _ => 0)))), (q8, .inr (6, [.int ((-1)), .int ((-1)), .int 0, .int ((-1)), .int 0])), (q9, .inr (1, [.ref q10, .ref q11, .int 0])), (q10, .inl (kc 0, (32, .inl (fun _ => 0)))), (q11, .inl (kc 0, (16, .inl (fun _ => 0)))), (q12, .inr (3, [.long 0]))]) (va_A [(h, .inr (7, [.null, .null, .null, .null, .null, .int 0, .int 0, .int 0, .null, .int 0]))] sz)) 13 270 (va_A [(h, .inr (7, [.null, .null, .null, .null, .null, .int 0, .int 0, .int 0, .null, .int 0]))] sz) := by
  refine Met.ofW (cc := cX7_init) (maxL := 1) (ret := none) (by decide) rfl ?_
  intro p e s m args below meth c s₁ B hml hv
  obtain ⟨rfl, hsz, hP, hK, hD0, hX, hAO2, hAO3⟩ := hv
  have hx := B.exec
  have hb := B.bytes
  have hr := B.returns
  have hT : ∀ w ∈ TW, w.before ([.ref h] : List Value).toArray s = true := fun w hw => tw_use (List.mem_filter.mp hw).2 (State.WarmedH.refl s) (hX.1 w hw)
  have hown : s.vm.findClass "Phrasehall" = some m.cls := findClass_of_methodNamed B.named
  have hlocks := B.notSynchronized
  have hin : meth.name = "<init>" := (name_of_methodNamed B.named B.method).1
  subst hsz
  have hD := hD0.self (sz := s.heap.size)
  generalize hAe : va_A [(h, .inr (7, [.null, .null, .null, .null, .null, .int 0, .int 0, .int 0, .null, .int 0]))] s.heap.size = A at hD ⊢
  have hA : ∀ q : Nat, s.heap.size ≤ q → A q := fun q h => by rw [← hAe]; exact Or.inr h
  have hS : va_S A s.heap s.heap [] := va_S.rf
  have hl := lv_entry ([.ref h]) (n := 1) (Nat.le_of_ble_eq_true rfl)
  rw [lg_entry_eq]
  generalize (lg_sl ([.ref h]) ++ List.replicate (1 - (lg_sl ([.ref h])).length) Slot.unset).toArray = ls at hl ⊢
  have hl : lv_has ls 1 [(0, .ref h)] := hl
  refine lv_aload_n hx hb dX7_init_0 rfl (lv_at hl 0 rfl) ?_
  refine W.objInit hx hb hown (hT _ tw_59) (hT _ tw_60) (hT _ tw_61) rfl (by rw [hml]; exact hl.1) rfl dX7_init_1 (Nat.le_of_ble_eq_true rfl) (Nat.le_of_ble_eq_true rfl) ?_
  refine W.eq (g2 := F0 m 4 ls []) rfl ?_
  refine lv_aload_n hx hb dX7_init_4 rfl (lv_at hl 0 rfl) ?_
  refine lv_bipush (v := 80) hx hb dX7_init_5 (by decide) ?_
  refine va_newq (N' := 80) hx hb hown (hT _ tw_62) hAO2 hK hP hD hS hA (by decide) (by decide) (Nat.le_of_ble_eq_true rfl) (Nat.le_of_ble_eq_true rfl) (Nat.le_of_ble_eq_true rfl) dX7_init_7 (fun q0 cA H hK9 hP hD hS => ?_)
  have e9 : cA = kc 2 := by
    obtain ⟨_, _, -, -, -, h1⟩ := (hK9.2 4 _ rfl).2
    obtain ⟨_, _, -, -, -, h2⟩ := (hK.2 2 _ rfl).2
    exact Option.some.inj (h1.symm.trans h2)
  subst e9
  have hP : va_P D vwCl [(h, .inr (7, [.null, .null, .null, .null, .null, .int 0, .int 0, .int 0, .null, .int 0])), (q0, .inl (kc 2, (80, .inr (.inr (.inr (.inr (fun _ => none)))))))] H := hP
  have hD : va_D A [(h, .inr (7, [.null, .null, .null, .null, .null, .int 0, .int 0, .int 0, .null, .int 0])), (q0, .inl (kc 2, (80, .inr (.inr (.inr (.inr (fun _ => none)))))))] := hD
  refine W.widen (k := 1) (n := 80) (Nat.le_of_ble_eq_true rfl) (Nat.le_of_ble_eq_true rfl) ?_
  refine va_putF (D := D) (ci := 7) (v := .ref q0) (ty := tyX7 0) (C := RX7) (T := TX7) (N := 10) hx hb hT inX7 tyX7 tyX7_ok nmX7 hown hK hP hD hS 0 rfl rfl 0 (by decide) (hT _ tw_147) (fun _ h9 => h9) rfl hin rfl (tyX7_ok 0 (by decide)) rfl rfl (Nat.le_of_ble_eq_true rfl) dX7_init_10 (fun H locs hP hD hS => ?_)
  have hP : va_P D vwCl [(h, .inr (7, [.ref q0, .null, .null, .null, .null, .int 0, .int 0, .int 0, .null, .int 0])), (q0, .inl (kc 2, (80, .inr (.inr (.inr (.inr (fun _ => none)))))))] H := hP
  have hD : va_D A [(h, .inr (7, [.ref q0, .null, .null, .null, .null, .int 0, .int 0, .int 0, .null, .int 0])), (q0, .inl (kc 2, (80, .inr (.inr (.inr (.inr (fun _ => none)))))))] := hD
  refine lv_aload_n hx hb dX7_init_13 rfl (lv_at hl 0 rfl) ?_
  refine lv_bipush (v := 6) hx hb dX7_init_14 (by decide) ?_
  refine va_newq (N' := 6) hx hb hown (hT _ tw_64) hAO3 hK hP hD hS hA (by decide) (by decide) (Nat.le_of_ble_eq_true rfl) (Nat.le_of_ble_eq_true rfl) (Nat.le_of_ble_eq_true rfl) dX7_init_16 (fun q1 cA H hK9 hP hD hS => ?_)
  have e9 : cA = kc 3 := by
    obtain ⟨_, _, -, -, -, h1⟩ := (hK9.2 4 _ rfl).2
    obtain ⟨_, _, -, -, -, h2⟩ := (hK.2 3 _ rfl).2
    exact Option.some.inj (h1.symm.trans h2)
  subst e9
  have hP : va_P D vwCl [(h, .inr (7, [.ref q0, .null, .null, .null, .null, .int 0, .int 0, .int 0, .null, .int 0])), (q0, .inl (kc 2, (80, .inr (.inr (.inr (.inr (fun _ => none))))))), (q1, .inl (kc 3, (6, .inr (.inr (.inr (.inr (fun _ => none)))))))] H := hP
  have hD : va_D A [(h, .inr (7, [.ref q0, .null, .null, .null, .null, .int 0, .int 0, .int 0, .null, .int 0])), (q0, .inl (kc 2, (80, .inr (.inr (.inr (.inr (fun _ => none))))))), (q1, .inl (kc 3, (6, .inr (.inr (.inr (.inr (fun _ => none)))))))] := hD
  refine W.widen (k := 2) (n := 86) (Nat.le_of_ble_eq_true rfl) (Nat.le_of_ble_eq_true rfl) ?_
  refine va_putF (D := D) (ci := 7) (v := .ref q1) (ty := tyX7 1) (C := RX7) (T := TX7) (N := 10) hx hb hT inX7 tyX7 tyX7_ok nmX7 hown hK hP hD hS 0 rfl rfl 1 (by decide) (hT _ tw_148) (fun _ h9 => h9) rfl hin rfl (tyX7_ok 1 (by decide)) rfl rfl (Nat.le_of_ble_eq_true rfl) dX7_init_19 (fun H locs hP hD hS => ?_)
  have hP : va_P D vwCl [(h, .inr (7, [.ref q0, .ref q1, .null, .null, .null, .int 0, .int 0, .int 0, .null, .int 0])), (q0, .inl (kc 2, (80, .inr (.inr (.inr (.inr (fun _ => none))))))), (q1, .inl (kc 3, (6, .inr (.inr (.inr (.inr (fun _ => none)))))))] H := hP
  have hD : va_D A [(h, .inr (7, [.ref q0, .ref q1, .null, .null, .null, .int 0, .int 0, .int 0, .null, .int 0])), (q0, .inl (kc 2, (80, .inr (.inr (.inr (.inr (fun _ => none))))))), (q1, .inl (kc 3, (6, .inr (.inr (.inr (.inr (fun _ => none)))))))] := hD
  refine lv_aload_n hx hb dX7_init_22 rfl (lv_at hl 0 rfl) ?_
  refine va_new (ci := 4) (fs := [.null, .null, .null, .null, .null, .null, .int 0]) (C := RX4) (T := TX4) (N := 7) hx hb hT inX4 tyX4 tyX4_ok hown (hT _ tw_66) (hT _ tw_67) (hT _ tw_39) hK hP hD hS hA rfl (df_4) (Nat.le_of_ble_eq_true rfl) (Nat.le_of_ble_eq_true rfl) dX7_init_23 (fun q2 H hP hD hS => ?_)
  have hP : va_P D vwCl [(h, .inr (7, [.ref q0, .ref q1, .null, .null, .null, .int 0, .int 0, .int 0, .null, .int 0])), (q0, .inl (kc 2, (80, .inr (.inr (.inr (.inr (fun _ => none))))))), (q1, .inl (kc 3, (6, .inr (.inr (.inr (.inr (fun _ => none))))))), (q2, .inr (4, [.null, .null, .null, .null, .null, .null, .int 0]))] H := hP
  have hD : va_D A [(h, .inr (7, [.ref q0, .ref q1, .null, .null, .null, .int 0, .int 0, .int 0, .null, .int 0])), (q0, .inl (kc 2, (80, .inr (.inr (.inr (.inr (fun _ => none))))))), (q1, .inl (kc 3, (6, .inr (.inr (.inr (.inr (fun _ => none))))))), (q2, .inr (4, [.null, .null, .null, .null, .null, .null, .int 0]))] := hD
  refine W.widen (k := 3) (n := 93) (Nat.le_of_ble_eq_true rfl) (Nat.le_of_ble_eq_true rfl) ?_
  refine lv_dup hx hb dX7_init_26 rfl ?_
  have hPc := hP.sub (ws' := [(q2, .inr (4, [.null, .null, .null, .null, .null, .null, .int 0]))]) [3] rfl
  have hDc := hD.sub (ws' := [(q2, .inr (4, [.null, .null, .null, .null, .null, .null, .int 0]))]) [3] (by decide) rfl
  have hFc := va_free (wc := [(q2, .inr (4, [.null, .null, .null, .null, .null, .null, .int 0]))]) hD hS hA [3] rfl
  refine va_callv (va_runIN (As := []) (rest := [.ref q2, .ref h]) ⟨hx, hb, hml, hown, hT⟩ (ci_4 l D kc q2 H.size) ⟨va_cnB 0 hT (gi1 tw_70) rfl rfl rfl (hX.2.1 _ nw_68) (hT _ tw_39) ⟨by decide +kernel, by decide +kernel, by decide +kernel⟩ ⟨Nat.le_of_ble_eq_true rfl, Nat.le_of_ble_eq_true rfl⟩, rfl, hT _ tw_69⟩ ⟨CB.blind, fun U hU hW => ⟨rfl, by rw [hU], by rw [hU]; exact hPc, va_K.moved hW.alike hK, hDc.weaken (fun _ _ _ _ => trivial), hX.warm hW⟩⟩ rfl rfl hl.1 rfl (lv_room (Nat.le_of_ble_eq_true rfl)) dX7_init_27 ⟨Nat.le_of_ble_eq_true rfl, Nat.le_of_ble_eq_true rfl⟩) hS (fun q _ h => hFc q h) hFc (fun u t H1 locs ht hvm hw hB hz1 hk1 hS => ?_)
  obtain ⟨q3, q4, q5, q6, q7, q8, hP1, hD1⟩ := hB
  rw [ht] at hP1
  obtain ⟨hP, hD⟩ := va_join (wr := [(h, .inr (7, [.ref q0, .ref q1, .null, .null, .null, .int 0, .int 0, .int 0, .null, .int 0])), (q0, .inl (kc 2, (80, .inr (.inr (.inr (.inr (fun _ => none))))))), (q1, .inl (kc 3, (6, .inr (.inr (.inr (.inr (fun _ => none)))))))]) (w1 := [(q2, .inr (4, [.ref q3, .ref q4, .ref q5, .ref q6, .ref q7, .ref q8, .int 0])), (q3, .inl (kc 0, (24, .inl (fun _ => 0)))), (q4, .inl (kc 0, (24, .inl (fun _ => 0)))), (q5, .inl (kc 0, (24, .inl (fun _ => 0)))), (q6, .inl (kc 0, (24, .inl (fun _ => 0)))), (q7, .inl (kc 0, (24, .inl (fun _ => 0)))), (q8, .inr (6, [.int ((-1)), .int ((-1)), .int 0, .int ((-1)), .int 0]))]) hP hD [3] [0, 1, 2] rfl rfl (by decide) (by decide) hk1 hFc hP1 hD1
  generalize H1 = H at hP hS ⊢
  have hP : va_P D vwCl [(h, .inr (7, [.ref q0, .ref q1, .null, .null, .null, .int 0, .int 0, .int 0, .null, .int 0])), (q0, .inl (kc 2, (80, .inr (.inr (.inr (.inr (fun _ => none))))))), (q1, .inl (kc 3, (6, .inr (.inr (.inr (.inr (fun _ => none))))))), (q2, .inr (4, [.ref q3, .ref q4, .ref q5, .ref q6, .ref q7, .ref q8, .int 0])), (q3, .inl (kc 0, (24, .inl (fun _ => 0)))), (q4, .inl (kc 0, (24, .inl (fun _ => 0)))), (q5, .inl (kc 0, (24, .inl (fun _ => 0)))), (q6, .inl (kc 0, (24, .inl (fun _ => 0)))), (q7, .inl (kc 0, (24, .inl (fun _ => 0)))), (q8, .inr (6, [.int ((-1)), .int ((-1)), .int 0, .int ((-1)), .int 0]))] H := hP
  have hD : va_D A [(h, .inr (7, [.ref q0, .ref q1, .null, .null, .null, .int 0, .int 0, .int 0, .null, .int 0])), (q0, .inl (kc 2, (80, .inr (.inr (.inr (.inr (fun _ => none))))))), (q1, .inl (kc 3, (6, .inr (.inr (.inr (.inr (fun _ => none))))))), (q2, .inr (4, [.ref q3, .ref q4, .ref q5, .ref q6, .ref q7, .ref q8, .int 0])), (q3, .inl (kc 0, (24, .inl (fun _ => 0)))), (q4, .inl (kc 0, (24, .inl (fun _ => 0)))), (q5, .inl (kc 0, (24, .inl (fun _ => 0)))), (q6, .inl (kc 0, (24, .inl (fun _ => 0)))), (q7, .inl (kc 0, (24, .inl (fun _ => 0)))), (q8, .inr (6, [.int ((-1)), .int ((-1)), .int 0, .int ((-1)), .int 0]))] := hD
  refine W.widen (k := 9) (n := 218) (Nat.le_of_ble_eq_true rfl) (Nat.le_of_ble_eq_true rfl) ?_
  refine va_putF (D := D) (ci := 7) (v := .ref q2) (ty := tyX7 2) (C := RX7) (T := TX7) (N := 10) hx hb hT inX7 tyX7 tyX7_ok nmX7 hown hK hP hD hS 0 rfl rfl 2 (by decide) (hT _ tw_149) (fun _ h9 => h9) rfl hin rfl (tyX7_ok 2 (by decide)) rfl rfl (Nat.le_of_ble_eq_true rfl) dX7_init_30 (fun H locs hP hD hS => ?_)
  have hP : va_P D vwCl [(h, .inr (7, [.ref q0, .ref q1, .ref q2, .null, .null, .int 0, .int 0, .int 0, .null, .int 0])), (q0, .inl (kc 2, (80, .inr (.inr (.inr (.inr (fun _ => none))))))), (q1, .inl (kc 3, (6, .inr (.inr (.inr (.inr (fun _ => none))))))), (q2, .inr (4, [.ref q3, .ref q4, .ref q5, .ref q6, .ref q7, .ref q8, .int 0])), (q3, .inl (kc 0, (24, .inl (fun _ => 0)))), (q4, .inl (kc 0, (24, .inl (fun _ => 0)))), (q5, .inl (kc 0, (24, .inl (fun _ => 0)))), (q6, .inl (kc 0, (24, .inl (fun _ => 0)))), (q7, .inl (kc 0, (24, .inl (fun _ => 0)))), (q8, .inr (6, [.int ((-1)), .int ((-1)), .int 0, .int ((-1)), .int 0]))] H := hP
  have hD : va_D A [(h, .inr (7, [.ref q0, .ref q1, .ref q2, .null, .null, .int 0, .int 0, .int 0, .null, .int 0])), (q0, .inl (kc 2, (80, .inr (.inr (.inr (.inr (fun _ => none))))))), (q1, .inl (kc 3, (6, .inr (.inr (.inr (.inr (fun _ => none))))))), (q2, .inr (4, [.ref q3, .ref q4, .ref q5, .ref q6, .ref q7, .ref q8, .int 0])), (q3, .inl (kc 0, (24, .inl (fun _ => 0)))), (q4, .inl (kc 0, (24, .inl (fun _ => 0)))), (q5, .inl (kc 0, (24, .inl (fun _ => 0)))), (q6, .inl (kc 0, (24, .inl (fun _ => 0)))), (q7, .inl (kc 0, (24, .inl (fun _ => 0)))), (q8, .inr (6, [.int ((-1)), .int ((-1)), .int 0, .int ((-1)), .int 0]))] := hD
  refine lv_aload_n hx hb dX7_init_33 rfl (lv_at hl 0 rfl) ?_
  refine va_new (ci := 1) (fs := [.null, .null, .int 0]) (C := RX1) (T := TX1) (N := 3) hx hb hT inX1 tyX1 tyX1_ok hown (hT _ tw_119) (hT _ tw_120) (hT _ tw_41) hK hP hD hS hA rfl (df_1) (Nat.le_of_ble_eq_true rfl) (Nat.le_of_ble_eq_true rfl) dX7_init_34 (fun q9 H hP hD hS => ?_)
  have hP : va_P D vwCl [(h, .inr (7, [.ref q0, .ref q1, .ref q2, .null, .null, .int 0, .int 0, .int 0, .null, .int 0])), (q0, .inl (kc 2, (80, .inr (.inr (.inr (.inr (fun _ => none))))))), (q1, .inl (kc 3, (6, .inr (.inr (.inr (.inr (fun _ => none))))))), (q2, .inr (4, [.ref q3, .ref q4, .ref q5, .ref q6, .ref q7, .ref q8, .int 0])), (q3, .inl (kc 0, (24, .inl (fun _ => 0)))), (q4, .inl (kc 0, (24, .inl (fun _ => 0)))), (q5, .inl (kc 0, (24, .inl (fun _ => 0)))), (q6, .inl (kc 0, (24, .inl (fun _ => 0)))), (q7, .inl (kc 0, (24, .inl (fun _ => 0)))), (q8, .inr (6, [.int ((-1)), .int ((-1)), .int 0, .int ((-1)), .int 0])), (q9, .inr (1, [.null, .null, .int 0]))] H := hP
  have hD : va_D A [(h, .inr (7, [.ref q0, .ref q1, .ref q2, .null, .null, .int 0, .int 0, .int 0, .null, .int 0])), (q0, .inl (kc 2, (80, .inr (.inr (.inr (.inr (fun _ => none))))))), (q1, .inl (kc 3, (6, .inr (.inr (.inr (.inr (fun _ => none))))))), (q2, .inr (4, [.ref q3, .ref q4, .ref q5, .ref q6, .ref q7, .ref q8, .int 0])), (q3, .inl (kc 0, (24, .inl (fun _ => 0)))), (q4, .inl (kc 0, (24, .inl (fun _ => 0)))), (q5, .inl (kc 0, (24, .inl (fun _ => 0)))), (q6, .inl (kc 0, (24, .inl (fun _ => 0)))), (q7, .inl (kc 0, (24, .inl (fun _ => 0)))), (q8, .inr (6, [.int ((-1)), .int ((-1)), .int 0, .int ((-1)), .int 0])), (q9, .inr (1, [.null, .null, .int 0]))] := hD
  refine W.widen (k := 10) (n := 221) (Nat.le_of_ble_eq_true rfl) (Nat.le_of_ble_eq_true rfl) ?_
  refine lv_dup hx hb dX7_init_37 rfl ?_
  have hPc := hP.sub (ws' := [(q9, .inr (1, [.null, .null, .int 0]))]) [10] rfl
  have hDc := hD.sub (ws' := [(q9, .inr (1, [.null, .null, .int 0]))]) [10] (by decide) rfl
  have hFc := va_free (wc := [(q9, .inr (1, [.null, .null, .int 0]))]) hD hS hA [10] rfl
  refine va_callv (va_runIN (As := []) (rest := [.ref q9, .ref h]) ⟨hx, hb, hml, hown, hT⟩ (ci_1 l D kc q9 H.size) ⟨va_cnB 0 hT (gi1 tw_123) rfl rfl rfl (hX.2.1 _ nw_121) (hT _ tw_41) ⟨by decide +kernel, by decide +kernel, by decide +kernel⟩ ⟨Nat.le_of_ble_eq_true rfl, Nat.le_of_ble_eq_true rfl⟩, rfl, hT _ tw_122⟩ ⟨CB.blind, fun U hU hW => ⟨rfl, by rw [hU], by rw [hU]; exact hPc, va_K.moved hW.alike hK, hDc.weaken (fun _ _ _ _ => trivial), hX.warm hW⟩⟩ rfl rfl hl.1 rfl (lv_room (Nat.le_of_ble_eq_true rfl)) dX7_init_38 ⟨Nat.le_of_ble_eq_true rfl, Nat.le_of_ble_eq_true rfl⟩) hS (fun q _ h => hFc q h) hFc (fun u t H1 locs ht hvm hw hB hz1 hk1 hS => ?_)
  obtain ⟨q10, q11, hP1, hD1⟩ := hB
  rw [ht] at hP1
  obtain ⟨hP, hD⟩ := va_join (wr := [(h, .inr (7, [.ref q0, .ref q1, .ref q2, .null, .null, .int 0, .int 0, .int 0, .null, .int 0])), (q0, .inl (kc 2, (80, .inr (.inr (.inr (.inr (fun _ => none))))))), (q1, .inl (kc 3, (6, .inr (.inr (.inr (.inr (fun _ => none))))))), (q2, .inr (4, [.ref q3, .ref q4, .ref q5, .ref q6, .ref q7, .ref q8, .int 0])), (q3, .inl (kc 0, (24, .inl (fun _ => 0)))), (q4, .inl (kc 0, (24, .inl (fun _ => 0)))), (q5, .inl (kc 0, (24, .inl (fun _ => 0)))), (q6, .inl (kc 0, (24, .inl (fun _ => 0)))), (q7, .inl (kc 0, (24, .inl (fun _ => 0)))), (q8, .inr (6, [.int ((-1)), .int ((-1)), .int 0, .int ((-1)), .int 0]))]) (w1 := [(q9, .inr (1, [.ref q10, .ref q11, .int 0])), (q10, .inl (kc 0, (32, .inl (fun _ => 0)))), (q11, .inl (kc 0, (16, .inl (fun _ => 0))))]) hP hD [10] [0, 1, 2, 3, 4, 5, 6, 7, 8, 9] rfl rfl (by decide) (by decide) hk1 hFc hP1 hD1
  generalize H1 = H at hP hS ⊢
  have hP : va_P D vwCl [(h, .inr (7, [.ref q0, .ref q1, .ref q2, .null, .null, .int 0, .int 0, .int 0, .null, .int 0])), (q0, .inl (kc 2, (80, .inr (.inr (.inr (.inr (fun _ => none))))))), (q1, .inl (kc 3, (6, .inr (.inr (.inr (.inr (fun _ => none))))))), (q2, .inr (4, [.ref q3, .ref q4, .ref q5, .ref q6, .ref q7, .ref q8, .int 0])), (q3, .inl (kc 0, (24, .inl (fun _ => 0)))), (q4, .inl (kc 0, (24, .inl (fun _ => 0)))), (q5, .inl (kc 0, (24, .inl (fun _ => 0)))), (q6, .inl (kc 0, (24, .inl (fun _ => 0)))), (q7, .inl (kc 0, (24, .inl (fun _ => 0)))), (q8, .inr (6, [.int ((-1)), .int ((-1)), .int 0, .int ((-1)), .int 0])), (q9, .inr (1, [.ref q10, .ref q11, .int 0])), (q10, .inl (kc 0, (32, .inl (fun _ => 0)))), (q11, .inl (kc 0, (16, .inl (fun _ => 0))))] H := hP
  have hD : va_D A [(h, .inr (7, [.ref q0, .ref q1, .ref q2, .null, .null, .int 0, .int 0, .int 0, .null, .int 0])), (q0, .inl (kc 2, (80, .inr (.inr (.inr (.inr (fun _ => none))))))), (q1, .inl (kc 3, (6, .inr (.inr (.inr (.inr (fun _ => none))))))), (q2, .inr (4, [.ref q3, .ref q4, .ref q5, .ref q6, .ref q7, .ref q8, .int 0])), (q3, .inl (kc 0, (24, .inl (fun _ => 0)))), (q4, .inl (kc 0, (24, .inl (fun _ => 0)))), (q5, .inl (kc 0, (24, .inl (fun _ => 0)))), (q6, .inl (kc 0, (24, .inl (fun _ => 0)))), (q7, .inl (kc 0, (24, .inl (fun _ => 0)))), (q8, .inr (6, [.int ((-1)), .int ((-1)), .int 0, .int ((-1)), .int 0])), (q9, .inr (1, [.ref q10, .ref q11, .int 0])), (q10, .inl (kc 0, (32, .inl (fun _ => 0)))), (q11, .inl (kc 0, (16, .inl (fun _ => 0))))] := hD
  refine W.widen (k := 12) (n := 269) (Nat.le_of_ble_eq_true rfl) (Nat.le_of_ble_eq_true rfl) ?_
  refine va_putF (D := D) (ci := 7) (v := .ref q9) (ty := tyX7 3) (C := RX7) (T := TX7) (N := 10) hx hb hT inX7 tyX7 tyX7_ok nmX7 hown hK hP hD hS 0 rfl rfl 3 (by decide) (hT _ tw_150) (fun _ h9 => h9) rfl hin rfl (tyX7_ok 3 (by decide)) rfl rfl (Nat.le_of_ble_eq_true rfl) dX7_init_41 (fun H locs hP hD hS => ?_)
  have hP : va_P D vwCl [(h, .inr (7, [.ref q0, .ref q1, .ref q2, .ref q9, .null, .int 0, .int 0, .int 0, .null, .int 0])), (q0, .inl (kc 2, (80, .inr (.inr (.inr (.inr (fun _ => none))))))), (q1, .inl (kc 3, (6, .inr (.inr (.inr (.inr (fun _ => none))))))), (q2, .inr (4, [.ref q3, .ref q4, .ref q5, .ref q6, .ref q7, .ref q8, .int 0])), (q3, .inl (kc 0, (24, .inl (fun _ => 0)))), (q4, .inl (kc 0, (24, .inl (fun _ => 0)))), (q5, .inl (kc 0, (24, .inl (fun _ => 0)))), (q6, .inl (kc 0, (24, .inl (fun _ => 0)))), (q7, .inl (kc 0, (24, .inl (fun _ => 0)))), (q8, .inr (6, [.int ((-1)), .int ((-1)), .int 0, .int ((-1)), .int 0])), (q9, .inr (1, [.ref q10, .ref q11, .int 0])), (q10, .inl (kc 0, (32, .inl (fun _ => 0)))), (q11, .inl (kc 0, (16, .inl (fun _ => 0))))] H := hP
  have hD : va_D A [(h, .inr (7, [.ref q0, .ref q1, .ref q2, .ref q9, .null, .int 0, .int 0, .int 0, .null, .int 0])), (q0, .inl (kc 2, (80, .inr (.inr (.inr (.inr (fun _ => none))))))), (q1, .inl (kc 3, (6, .inr (.inr (.inr (.inr (fun _ => none))))))), (q2, .inr (4, [.ref q3, .ref q4, .ref q5, .ref q6, .ref q7, .ref q8, .int 0])), (q3, .inl (kc 0, (24, .inl (fun _ => 0)))), (q4, .inl (kc 0, (24, .inl (fun _ => 0)))), (q5, .inl (kc 0, (24, .inl (fun _ => 0)))), (q6, .inl (kc 0, (24, .inl (fun _ => 0)))), (q7, .inl (kc 0, (24, .inl (fun _ => 0)))), (q8, .inr (6, [.int ((-1)), .int ((-1)), .int 0, .int ((-1)), .int 0])), (q9, .inr (1, [.ref q10, .ref q11, .int 0])), (q10, .inl (kc 0, (32, .inl (fun _ => 0)))), (q11, .inl (kc 0, (16, .inl (fun _ => 0))))] := hD
  refine lv_aload_n hx hb dX7_init_44 rfl (lv_at hl 0 rfl) ?_
  refine va_new (ci := 3) (fs := [.long 0]) (C := RX3) (T := TX3) (N := 1) hx hb hT inX3 tyX3 tyX3_ok hown (hT _ tw_136) (hT _ tw_137) (hT _ tw_42) hK hP hD hS hA rfl (df_3) (Nat.le_of_ble_eq_true rfl) (Nat.le_of_ble_eq_true rfl) dX7_init_45 (fun q12 H hP hD hS => ?_)
  have hP : va_P D vwCl [(h, .inr (7, [.ref q0, .ref q1, .ref q2, .ref q9, .null, .int 0, .int 0, .int 0, .null, .int 0])), (q0, .inl (kc 2, (80, .inr (.inr (.inr (.inr (fun _ => none))))))), (q1, .inl (kc 3, (6, .inr (.inr (.inr (.inr (fun _ => none))))))), (q2, .inr (4, [.ref q3, .ref q4, .ref q5, .ref q6, .ref q7, .ref q8, .int 0])), (q3, .inl (kc 0, (24, .inl (fun _ => 0)))), (q4, .inl (kc 0, (24, .inl (fun _ => 0)))), (q5, .inl (kc 0, (24, .inl (fun _ => 0)))), (q6, .inl (kc 0, (24, .inl (fun _ => 0)))), (q7, .inl (kc 0, (24, .inl (fun _ => 0)))), (q8, .inr (6, [.int ((-1)), .int ((-1)), .int 0, .int ((-1)), .int 0])), (q9, .inr (1, [.ref q10, .ref q11, .int 0])), (q10, .inl (kc 0, (32, .inl (fun _ => 0)))), (q11, .inl (kc 0, (16, .inl (fun _ => 0)))), (q12, .inr (3, [.long 0]))] H := hP
  have hD : va_D A [(h, .inr (7, [.ref q0, .ref q1, .ref q2, .ref q9, .null, .int 0, .int 0, .int 0, .null, .int 0])), (q0, .inl (kc 2, (80, .inr (.inr (.inr (.inr (fun _ => none))))))), (q1, .inl (kc 3, (6, .inr (.inr (.inr (.inr (fun _ => none))))))), (q2, .inr (4, [.ref q3, .ref q4, .ref q5, .ref q6, .ref q7, .ref q8, .int 0])), (q3, .inl (kc 0, (24, .inl (fun _ => 0)))), (q4, .inl (kc 0, (24, .inl (fun _ => 0)))), (q5, .inl (kc 0, (24, .inl (fun _ => 0)))), (q6, .inl (kc 0, (24, .inl (fun _ => 0)))), (q7, .inl (kc 0, (24, .inl (fun _ => 0)))), (q8, .inr (6, [.int ((-1)), .int ((-1)), .int 0, .int ((-1)), .int 0])), (q9, .inr (1, [.ref q10, .ref q11, .int 0])), (q10, .inl (kc 0, (32, .inl (fun _ => 0)))), (q11, .inl (kc 0, (16, .inl (fun _ => 0)))), (q12, .inr (3, [.long 0]))] := hD
  refine W.widen (k := 13) (n := 270) (Nat.le_of_ble_eq_true rfl) (Nat.le_of_ble_eq_true rfl) ?_
  refine lv_dup hx hb dX7_init_48 rfl ?_
  have hPc := hP.sub (ws' := [(q12, .inr (3, [.long 0]))]) [13] rfl
  have hDc := hD.sub (ws' := [(q12, .inr (3, [.long 0]))]) [13] (by decide) rfl
  have hFc := va_free (wc := [(q12, .inr (3, [.long 0]))]) hD hS hA [13] rfl
  refine va_callv (va_runIN (As := []) (rest := [.ref q12, .ref h]) ⟨hx, hb, hml, hown, hT⟩ (ci_3 l D kc q12 H.size) ⟨va_cnB 0 hT (gi1 tw_140) rfl rfl rfl (hX.2.1 _ nw_138) (hT _ tw_42) ⟨by decide +kernel, by decide +kernel, by decide +kernel⟩ ⟨Nat.le_of_ble_eq_true rfl, Nat.le_of_ble_eq_true rfl⟩, rfl, hT _ tw_139⟩ ⟨CB.blind, fun U hU hW => ⟨rfl, by rw [hU], by rw [hU]; exact hPc, va_K.moved hW.alike hK, hDc.weaken (fun _ _ _ _ => trivial), hX.warm hW⟩⟩ rfl rfl hl.1 rfl (lv_room (Nat.le_of_ble_eq_true rfl)) dX7_init_49 ⟨Nat.le_of_ble_eq_true rfl, Nat.le_of_ble_eq_true rfl⟩) hS (fun q _ h => hFc q h) hFc (fun u t H1 locs ht hvm hw hB hz1 hk1 hS => ?_)
  obtain ⟨hP1, hD1⟩ := hB
  rw [ht] at hP1
  obtain ⟨hP, hD⟩ := va_join (wr := [(h, .inr (7, [.ref q0, .ref q1, .ref q2, .ref q9, .null, .int 0, .int 0, .int 0, .null, .int 0])), (q0, .inl (kc 2, (80, .inr (.inr (.inr (.inr (fun _ => none))))))), (q1, .inl (kc 3, (6, .inr (.inr (.inr (.inr (fun _ => none))))))), (q2, .inr (4, [.ref q3, .ref q4, .ref q5, .ref q6, .ref q7, .ref q8, .int 0])), (q3, .inl (kc 0, (24, .inl (fun _ => 0)))), (q4, .inl (kc 0, (24, .inl (fun _ => 0)))), (q5, .inl (kc 0, (24, .inl (fun _ => 0)))), (q6, .inl (kc 0, (24, .inl (fun _ => 0)))), (q7, .inl (kc 0, (24, .inl (fun _ => 0)))), (q8, .inr (6, [.int ((-1)), .int ((-1)), .int 0, .int ((-1)), .int 0])), (q9, .inr (1, [.ref q10, .ref q11, .int 0])), (q10, .inl (kc 0, (32, .inl (fun _ => 0)))), (q11, .inl (kc 0, (16, .inl (fun _ => 0))))]) (w1 := [(q12, .inr (3, [.long 0]))]) hP hD [13] [0, 1, 2, 3, 4, 5, 6, 7, 8, 9, 10, 11, 12] rfl rfl (by decide) (by decide) hk1 hFc hP1 hD1
  generalize H1 = H at hP hS ⊢
  have hP : va_P D vwCl [(h, .inr (7, [.ref q0, .ref q1, .ref q2, .ref q9, .null, .int 0, .int 0, .int 0, .null, .int 0])), (q0, .inl (kc 2, (80, .inr (.inr (.inr (.inr (fun _ => none))))))), (q1, .inl (kc 3, (6, .inr (.inr (.inr (.inr (fun _ => none))))))), (q2, .inr (4, [.ref q3, .ref q4, .ref q5, .ref q6, .ref q7, .ref q8, .int 0])), (q3, .inl (kc 0, (24, .inl (fun _ => 0)))), (q4, .inl (kc 0, (24, .inl (fun _ => 0)))), (q5, .inl (kc 0, (24, .inl (fun _ => 0)))), (q6, .inl (kc 0, (24, .inl (fun _ => 0)))), (q7, .inl (kc 0, (24, .inl (fun _ => 0)))), (q8, .inr (6, [.int ((-1)), .int ((-1)), .int 0, .int ((-1)), .int 0])), (q9, .inr (1, [.ref q10, .ref q11, .int 0])), (q10, .inl (kc 0, (32, .inl (fun _ => 0)))), (q11, .inl (kc 0, (16, .inl (fun _ => 0)))), (q12, .inr (3, [.long 0]))] H := hP
  have hD : va_D A [(h, .inr (7, [.ref q0, .ref q1, .ref q2, .ref q9, .null, .int 0, .int 0, .int 0, .null, .int 0])), (q0, .inl (kc 2, (80, .inr (.inr (.inr (.inr (fun _ => none))))))), (q1, .inl (kc 3, (6, .inr (.inr (.inr (.inr (fun _ => none))))))), (q2, .inr (4, [.ref q3, .ref q4, .ref q5, .ref q6, .ref q7, .ref q8, .int 0])), (q3, .inl (kc 0, (24, .inl (fun _ => 0)))), (q4, .inl (kc 0, (24, .inl (fun _ => 0)))), (q5, .inl (kc 0, (24, .inl (fun _ => 0)))), (q6, .inl (kc 0, (24, .inl (fun _ => 0)))), (q7, .inl (kc 0, (24, .inl (fun _ => 0)))), (q8, .inr (6, [.int ((-1)), .int ((-1)), .int 0, .int ((-1)), .int 0])), (q9, .inr (1, [.ref q10, .ref q11, .int 0])), (q10, .inl (kc 0, (32, .inl (fun _ => 0)))), (q11, .inl (kc 0, (16, .inl (fun _ => 0)))), (q12, .inr (3, [.long 0]))] := hD
  refine W.widen (k := 13) (n := 270) (Nat.le_of_ble_eq_true rfl) (Nat.le_of_ble_eq_true rfl) ?_
  refine va_putF (D := D) (ci := 7) (v := .ref q12) (ty := tyX7 4) (C := RX7) (T := TX7) (N := 10) hx hb hT inX7 tyX7 tyX7_ok nmX7 hown hK hP hD hS 0 rfl rfl 4 (by decide) (hT _ tw_151) (fun _ h9 => h9) rfl hin rfl (tyX7_ok 4 (by decide)) rfl rfl (Nat.le_of_ble_eq_true rfl) dX7_init_52 (fun H locs hP hD hS => ?_)
  have hP : va_P D vwCl [(h, .inr (7, [.ref q0, .ref q1, .ref q2, .ref q9, .ref q12, .int 0, .int 0, .int 0, .null, .int 0])), (q0, .inl (kc 2, (80, .inr (.inr (.inr (.inr (fun _ => none))))))), (q1, .inl (kc 3, (6, .inr (.inr (.inr (.inr (fun _ => none))))))), (q2, .inr (4, [.ref q3, .ref q4, .ref q5, .ref q6, .ref q7, .ref q8, .int 0])), (q3, .inl (kc 0, (24, .inl (fun _ => 0)))), (q4, .inl (kc 0, (24, .inl (fun _ => 0)))), (q5, .inl (kc 0, (24, .inl (fun _ => 0)))), (q6, .inl (kc 0, (24, .inl (fun _ => 0)))), (q7, .inl (kc 0, (24, .inl (fun _ => 0)))), (q8, .inr (6, [.int ((-1)), .int ((-1)), .int 0, .int ((-1)), .int 0])), (q9, .inr (1, [.ref q10, .ref q11, .int 0])), (q10, .inl (kc 0, (32, .inl (fun _ => 0)))), (q11, .inl (kc 0, (16, .inl (fun _ => 0)))), (q12, .inr (3, [.long 0]))] H := hP
  have hD : va_D A [(h, .inr (7, [.ref q0, .ref q1, .ref q2, .ref q9, .ref q12, .int 0, .int 0, .int 0, .null, .int 0])), (q0, .inl (kc 2, (80, .inr (.inr (.inr (.inr (fun _ => none))))))), (q1, .inl (kc 3, (6, .inr (.inr (.inr (.inr (fun _ => none))))))), (q2, .inr (4, [.ref q3, .ref q4, .ref q5, .ref q6, .ref q7, .ref q8, .int 0])), (q3, .inl (kc 0, (24, .inl (fun _ => 0)))), (q4, .inl (kc 0, (24, .inl (fun _ => 0)))), (q5, .inl (kc 0, (24, .inl (fun _ => 0)))), (q6, .inl (kc 0, (24, .inl (fun _ => 0)))), (q7, .inl (kc 0, (24, .inl (fun _ => 0)))), (q8, .inr (6, [.int ((-1)), .int ((-1)), .int 0, .int ((-1)), .int 0])), (q9, .inr (1, [.ref q10, .ref q11, .int 0])), (q10, .inl (kc 0, (32, .inl (fun _ => 0)))), (q11, .inl (kc 0, (16, .inl (fun _ => 0)))), (q12, .inr (3, [.long 0]))] := hD
  refine lv_aload_n hx hb dX7_init_55 rfl (lv_at hl 0 rfl) ?_
  refine lv_iconst (v := 0) hx hb dX7_init_56 (by decide) ?_
  refine va_put (D := D) (ci := 7) (v := .int 0) (ty := tyX7 5) (C := RX7) (T := TX7) (N := 10) hx hb hT inX7 tyX7 tyX7_ok nmX7 hown hK hP hD hS 0 rfl rfl 5 (by decide) (hT _ tw_152) (fun _ h9 => h9) rfl (tyX7_ok 5 (by decide)) rfl rfl (Nat.le_of_ble_eq_true rfl) dX7_init_57 (fun H locs hP hD hS => ?_)
  have hP : va_P D vwCl [(h, .inr (7, [.ref q0, .ref q1, .ref q2, .ref q9, .ref q12, .int 0, .int 0, .int 0, .null, .int 0])), (q0, .inl (kc 2, (80, .inr (.inr (.inr (.inr (fun _ => none))))))), (q1, .inl (kc 3, (6, .inr (.inr (.inr (.inr (fun _ => none))))))), (q2, .inr (4, [.ref q3, .ref q4, .ref q5, .ref q6, .ref q7, .ref q8, .int 0])), (q3, .inl (kc 0, (24, .inl (fun _ => 0)))), (q4, .inl (kc 0, (24, .inl (fun _ => 0)))), (q5, .inl (kc 0, (24, .inl (fun _ => 0)))), (q6, .inl (kc 0, (24, .inl (fun _ => 0)))), (q7, .inl (kc 0, (24, .inl (fun _ => 0)))), (q8, .inr (6, [.int ((-1)), .int ((-1)), .int 0, .int ((-1)), .int 0])), (q9, .inr (1, [.ref q10, .ref q11, .int 0])), (q10, .inl (kc 0, (32, .inl (fun _ => 0)))), (q11, .inl (kc 0, (16, .inl (fun _ => 0)))), (q12, .inr (3, [.long 0]))] H := hP
  have hD : va_D A [(h, .inr (7, [.ref q0, .ref q1, .ref q2, .ref q9, .ref q12, .int 0, .int 0, .int 0, .null, .int 0])), (q0, .inl (kc 2, (80, .inr (.inr (.inr (.inr (fun _ => none))))))), (q1, .inl (kc 3, (6, .inr (.inr (.inr (.inr (fun _ => none))))))), (q2, .inr (4, [.ref q3, .ref q4, .ref q5, .ref q6, .ref q7, .ref q8, .int 0])), (q3, .inl (kc 0, (24, .inl (fun _ => 0)))), (q4, .inl (kc 0, (24, .inl (fun _ => 0)))), (q5, .inl (kc 0, (24, .inl (fun _ => 0)))), (q6, .inl (kc 0, (24, .inl (fun _ => 0)))), (q7, .inl (kc 0, (24, .inl (fun _ => 0)))), (q8, .inr (6, [.int ((-1)), .int ((-1)), .int 0, .int ((-1)), .int 0])), (q9, .inr (1, [.ref q10, .ref q11, .int 0])), (q10, .inl (kc 0, (32, .inl (fun _ => 0)))), (q11, .inl (kc 0, (16, .inl (fun _ => 0)))), (q12, .inr (3, [.long 0]))] := hD
  refine lv_aload_n hx hb dX7_init_60 rfl (lv_at hl 0 rfl) ?_
  refine lv_iconst (v := 0) hx hb dX7_init_61 (by decide) ?_
  refine va_put (D := D) (ci := 7) (v := .int 0) (ty := tyX7 6) (C := RX7) (T := TX7) (N := 10) hx hb hT inX7 tyX7 tyX7_ok nmX7 hown hK hP hD hS 0 rfl rfl 6 (by decide) (hT _ tw_153) (fun _ h9 => h9) rfl (tyX7_ok 6 (by decide)) rfl rfl (Nat.le_of_ble_eq_true rfl) dX7_init_62 (fun H locs hP hD hS => ?_)
  have hP : va_P D vwCl [(h, .inr (7, [.ref q0, .ref q1, .ref q2, .ref q9, .ref q12, .int 0, .int 0, .int 0, .null, .int 0])), (q0, .inl (kc 2, (80, .inr (.inr (.inr (.inr (fun _ => none))))))), (q1, .inl (kc 3, (6, .inr (.inr (.inr (.inr (fun _ => none))))))), (q2, .inr (4, [.ref q3, .ref q4, .ref q5, .ref q6, .ref q7, .ref q8, .int 0])), (q3, .inl (kc 0, (24, .inl (fun _ => 0)))), (q4, .inl (kc 0, (24, .inl (fun _ => 0)))), (q5, .inl (kc 0, (24, .inl (fun _ => 0)))), (q6, .inl (kc 0, (24, .inl (fun _ => 0)))), (q7, .inl (kc 0, (24, .inl (fun _ => 0)))), (q8, .inr (6, [.int ((-1)), .int ((-1)), .int 0, .int ((-1)), .int 0])), (q9, .inr (1, [.ref q10, .ref q11, .int 0])), (q10, .inl (kc 0, (32, .inl (fun _ => 0)))), (q11, .inl (kc 0, (16, .inl (fun _ => 0)))), (q12, .inr (3, [.long 0]))] H := hP
  have hD : va_D A [(h, .inr (7, [.ref q0, .ref q1, .ref q2, .ref q9, .ref q12, .int 0, .int 0, .int 0, .null, .int 0])), (q0, .inl (kc 2, (80, .inr (.inr (.inr (.inr (fun _ => none))))))), (q1, .inl (kc 3, (6, .inr (.inr (.inr (.inr (fun _ => none))))))), (q2, .inr (4, [.ref q3, .ref q4, .ref q5, .ref q6, .ref q7, .ref q8, .int 0])), (q3, .inl (kc 0, (24, .inl (fun _ => 0)))), (q4, .inl (kc 0, (24, .inl (fun _ => 0)))), (q5, .inl (kc 0, (24, .inl (fun _ => 0)))), (q6, .inl (kc 0, (24, .inl (fun _ => 0)))), (q7, .inl (kc 0, (24, .inl (fun _ => 0)))), (q8, .inr (6, [.int ((-1)), .int ((-1)), .int 0, .int ((-1)), .int 0])), (q9, .inr (1, [.ref q10, .ref q11, .int 0])), (q10, .inl (kc 0, (32, .inl (fun _ => 0)))), (q11, .inl (kc 0, (16, .inl (fun _ => 0)))), (q12, .inr (3, [.long 0]))] := hD
  refine lv_aload_n hx hb dX7_init_65 rfl (lv_at hl 0 rfl) ?_
  refine lv_iconst (v := 0) hx hb dX7_init_66 (by decide) ?_
  refine va_put (D := D) (ci := 7) (v := .int 0) (ty := tyX7 7) (C := RX7) (T := TX7) (N := 10) hx hb hT inX7 tyX7 tyX7_ok nmX7 hown hK hP hD hS 0 rfl rfl 7 (by decide) (hT _ tw_154) (fun _ h9 => h9) rfl (tyX7_ok 7 (by decide)) rfl rfl (Nat.le_of_ble_eq_true rfl) dX7_init_67 (fun H locs hP hD hS => ?_)
  have hP : va_P D vwCl [(h, .inr (7, [.ref q0, .ref q1, .ref q2, .ref q9, .ref q12, .int 0, .int 0, .int 0, .null, .int 0])), (q0, .inl (kc 2, (80, .inr (.inr (.inr (.inr (fun _ => none))))))), (q1, .inl (kc 3, (6, .inr (.inr (.inr (.inr (fun _ => none))))))), (q2, .inr (4, [.ref q3, .ref q4, .ref q5, .ref q6, .ref q7, .ref q8, .int 0])), (q3, .inl (kc 0, (24, .inl (fun _ => 0)))), (q4, .inl (kc 0, (24, .inl (fun _ => 0)))), (q5, .inl (kc 0, (24, .inl (fun _ => 0)))), (q6, .inl (kc 0, (24, .inl (fun _ => 0)))), (q7, .inl (kc 0, (24, .inl (fun _ => 0)))), (q8, .inr (6, [.int ((-1)), .int ((-1)), .int 0, .int ((-1)), .int 0])), (q9, .inr (1, [.ref q10, .ref q11, .int 0])), (q10, .inl (kc 0, (32, .inl (fun _ => 0)))), (q11, .inl (kc 0, (16, .inl (fun _ => 0)))), (q12, .inr (3, [.long 0]))] H := hP
  have hD : va_D A [(h, .inr (7, [.ref q0, .ref q1, .ref q2, .ref q9, .ref q12, .int 0, .int 0, .int 0, .null, .int 0])), (q0, .inl (kc 2, (80, .inr (.inr (.inr (.inr (fun _ => none))))))), (q1, .inl (kc 3, (6, .inr (.inr (.inr (.inr (fun _ => none))))))), (q2, .inr (4, [.ref q3, .ref q4, .ref q5, .ref q6, .ref q7, .ref q8, .int 0])), (q3, .inl (kc 0, (24, .inl (fun _ => 0)))), (q4, .inl (kc 0, (24, .inl (fun _ => 0)))), (q5, .inl (kc 0, (24, .inl (fun _ => 0)))), (q6, .inl (kc 0, (24, .inl (fun _ => 0)))), (q7, .inl (kc 0, (24, .inl (fun _ => 0)))), (q8, .inr (6, [.int ((-1)), .int ((-1)), .int 0, .int ((-1)), .int 0])), (q9, .inr (1, [.ref q10, .ref q11, .int 0])), (q10, .inl (kc 0, (32, .inl (fun _ => 0)))), (q11, .inl (kc 0, (16, .inl (fun _ => 0)))), (q12, .inr (3, [.long 0]))] := hD
  refine lv_aload_n hx hb dX7_init_70 rfl (lv_at hl 0 rfl) ?_
  refine lv_null hx hb dX7_init_71 ?_
  refine va_put (D := D) (ci := 7) (v := .null) (ty := tyX7 8) (C := RX7) (T := TX7) (N := 10) hx hb hT inX7 tyX7 tyX7_ok nmX7 hown hK hP hD hS 0 rfl rfl 8 (by decide) (hT _ tw_155) (fun _ h9 => h9) rfl (tyX7_ok 8 (by decide)) rfl rfl (Nat.le_of_ble_eq_true rfl) dX7_init_72 (fun H locs hP hD hS => ?_)
  have hP : va_P D vwCl [(h, .inr (7, [.ref q0, .ref q1, .ref q2, .ref q9, .ref q12, .int 0, .int 0, .int 0, .null, .int 0])), (q0, .inl (kc 2, (80, .inr (.inr (.inr (.inr (fun _ => none))))))), (q1, .inl (kc 3, (6, .inr (.inr (.inr (.inr (fun _ => none))))))), (q2, .inr (4, [.ref q3, .ref q4, .ref q5, .ref q6, .ref q7, .ref q8, .int 0])), (q3, .inl (kc 0, (24, .inl (fun _ => 0)))), (q4, .inl (kc 0, (24, .inl (fun _ => 0)))), (q5, .inl (kc 0, (24, .inl (fun _ => 0)))), (q6, .inl (kc 0, (24, .inl (fun _ => 0)))), (q7, .inl (kc 0, (24, .inl (fun _ => 0)))), (q8, .inr (6, [.int ((-1)), .int ((-1)), .int 0, .int ((-1)), .int 0])), (q9, .inr (1, [.ref q10, .ref q11, .int 0])), (q10, .inl (kc 0, (32, .inl (fun _ => 0)))), (q11, .inl (kc 0, (16, .inl (fun _ => 0)))), (q12, .inr (3, [.long 0]))] H := hP
  have hD : va_D A [(h, .inr (7, [.ref q0, .ref q1, .ref q2, .ref q9, .ref q12, .int 0, .int 0, .int 0, .null, .int 0])), (q0, .inl (kc 2, (80, .inr (.inr (.inr (.inr (fun _ => none))))))), (q1, .inl (kc 3, (6, .inr (.inr (.inr (.inr (fun _ => none))))))), (q2, .inr (4, [.ref q3, .ref q4, .ref q5, .ref q6, .ref q7, .ref q8, .int 0])), (q3, .inl (kc 0, (24, .inl (fun _ => 0)))), (q4, .inl (kc 0, (24, .inl (fun _ => 0)))), (q5, .inl (kc 0, (24, .inl (fun _ => 0)))), (q6, .inl (kc 0, (24, .inl (fun _ => 0)))), (q7, .inl (kc 0, (24, .inl (fun _ => 0)))), (q8, .inr (6, [.int ((-1)), .int ((-1)), .int 0, .int ((-1)), .int 0])), (q9, .inr (1, [.ref q10, .ref q11, .int 0])), (q10, .inl (kc 0, (32, .inl (fun _ => 0)))), (q11, .inl (kc 0, (16, .inl (fun _ => 0)))), (q12, .inr (3, [.long 0]))] := hD
  refine lv_aload_n hx hb dX7_init_75 rfl (lv_at hl 0 rfl) ?_
  refine lv_iconst (v := (-1)) hx hb dX7_init_76 (by decide) ?_
  refine va_put (D := D) (ci := 7) (v := .int ((-1))) (ty := tyX7 9) (C := RX7) (T := TX7) (N := 10) hx hb hT inX7 tyX7 tyX7_ok nmX7 hown hK hP hD hS 0 rfl rfl 9 (by decide) (hT _ tw_156) (fun _ h9 => h9) rfl (tyX7_ok 9 (by decide)) rfl rfl (Nat.le_of_ble_eq_true rfl) dX7_init_77 (fun H locs hP hD hS => ?_)
  have hP : va_P D vwCl [(h, .inr (7, [.ref q0, .ref q1, .ref q2, .ref q9, .ref q12, .int 0, .int 0, .int 0, .null, .int ((-1))])), (q0, .inl (kc 2, (80, .inr (.inr (.inr (.inr (fun _ => none))))))), (q1, .inl (kc 3, (6, .inr (.inr (.inr (.inr (fun _ => none))))))), (q2, .inr (4, [.ref q3, .ref q4, .ref q5, .ref q6, .ref q7, .ref q8, .int 0])), (q3, .inl (kc 0, (24, .inl (fun _ => 0)))), (q4, .inl (kc 0, (24, .inl (fun _ => 0)))), (q5, .inl (kc 0, (24, .inl (fun _ => 0)))), (q6, .inl (kc 0, (24, .inl (fun _ => 0)))), (q7, .inl (kc 0, (24, .inl (fun _ => 0)))), (q8, .inr (6, [.int ((-1)), .int ((-1)), .int 0, .int ((-1)), .int 0])), (q9, .inr (1, [.ref q10, .ref q11, .int 0])), (q10, .inl (kc 0, (32, .inl (fun _ => 0)))), (q11, .inl (kc 0, (16, .inl (fun _ => 0)))), (q12, .inr (3, [.long 0]))] H := hP
  have hD : va_D A [(h, .inr (7, [.ref q0, .ref q1, .ref q2, .ref q9, .ref q12, .int 0, .int 0, .int 0, .null, .int ((-1))])), (q0, .inl (kc 2, (80, .inr (.inr (.inr (.inr (fun _ => none))))))), (q1, .inl (kc 3, (6, .inr (.inr (.inr (.inr (fun _ => none))))))), (q2, .inr (4, [.ref q3, .ref q4, .ref q5, .ref q6, .ref q7, .ref q8, .int 0])), (q3, .inl (kc 0, (24, .inl (fun _ => 0)))), (q4, .inl (kc 0, (24, .inl (fun _ => 0)))), (q5, .inl (kc 0, (24, .inl (fun _ => 0)))), (q6, .inl (kc 0, (24, .inl (fun _ => 0)))), (q7, .inl (kc 0, (24, .inl (fun _ => 0)))), (q8, .inr (6, [.int ((-1)), .int ((-1)), .int 0, .int ((-1)), .int 0])), (q9, .inr (1, [.ref q10, .ref q11, .int 0])), (q10, .inl (kc 0, (32, .inl (fun _ => 0)))), (q11, .inl (kc 0, (16, .inl (fun _ => 0)))), (q12, .inr (3, [.long 0]))] := hD
  have hP9 := hP.sub (ws' := [(h, .inr (7, [.ref q0, .ref q1, .ref q2, .ref q9, .ref q12, .int 0, .int 0, .int 0, .null, .int ((-1))])), (q0, .inl (kc 2, (80, .inr (.inr (.inr (.inr (fun _ => none))))))), (q1, .inl (kc 3, (6, .inr (.inr (.inr (.inr (fun _ => none))))))), (q2, .inr (4, [.ref q3, .ref q4, .ref q5, .ref q6, .ref q7, .ref q8, .int 0])), (q3, .inl (kc 0, (24, .inl (fun _ => 0)))), (q4, .inl (kc 0, (24, .inl (fun _ => 0)))), (q5, .inl (kc 0, (24, .inl (fun _ => 0)))), (q6, .inl (kc 0, (24, .inl (fun _ => 0)))), (q7, .inl (kc 0, (24, .inl (fun _ => 0)))), (q8, .inr (6, [.int ((-1)), .int ((-1)), .int 0, .int ((-1)), .int 0])), (q9, .inr (1, [.ref q10, .ref q11, .int 0])), (q10, .inl (kc 0, (32, .inl (fun _ => 0)))), (q11, .inl (kc 0, (16, .inl (fun _ => 0)))), (q12, .inr (3, [.long 0]))]) [0, 1, 2, 3, 4, 5, 6, 7, 8, 9, 10, 11, 12, 13] rfl
  have hD9 := hD.sub (ws' := [(h, .inr (7, [.ref q0, .ref q1, .ref q2, .ref q9, .ref q12, .int 0, .int 0, .int 0, .null, .int ((-1))])), (q0, .inl (kc 2, (80, .inr (.inr (.inr (.inr (fun _ => none))))))), (q1, .inl (kc 3, (6, .inr (.inr (.inr (.inr (fun _ => none))))))), (q2, .inr (4, [.ref q3, .ref q4, .ref q5, .ref q6, .ref q7, .ref q8, .int 0])), (q3, .inl (kc 0, (24, .inl (fun _ => 0)))), (q4, .inl (kc 0, (24, .inl (fun _ => 0)))), (q5, .inl (kc 0, (24, .inl (fun _ => 0)))), (q6, .inl (kc 0, (24, .inl (fun _ => 0)))), (q7, .inl (kc 0, (24, .inl (fun _ => 0)))), (q8, .inr (6, [.int ((-1)), .int ((-1)), .int 0, .int ((-1)), .int 0])), (q9, .inr (1, [.ref q10, .ref q11, .int 0])), (q10, .inl (kc 0, (32, .inl (fun _ => 0)))), (q11, .inl (kc 0, (16, .inl (fun _ => 0)))), (q12, .inr (3, [.long 0]))]) [0, 1, 2, 3, 4, 5, 6, 7, 8, 9, 10, 11, 12, 13] (by decide) rfl
  exact W.vret hx hb hr (fun t ht hW => ⟨⟨(), rfl, trivial, q0, q1, q2, q3, q4, q5, q6, q7, q8, q9, q10, q11, q12, by rw [ht]; exact hP9, hD9⟩, hS.F ht⟩) hS.2.2 dX7_init_80
