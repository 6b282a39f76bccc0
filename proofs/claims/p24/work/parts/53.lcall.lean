theorem nc_in {a b : String} (U : State) (hX : XT U) (i : Nat) (h : NC[i]? = some (a, b)) : va_Nc a b U := hX.2.2.2 _ (List.mem_of_getElem? h)
theorem hd_L_seed : yL_seed.cls ≠ "java/lang/invoke/MethodHandle" ∧ yL_seed.cls ≠ "java/lang/invoke/VarHandle" ∧ (parseMethodDescriptor yL_seed.desc).map (fun d => d.parameters.length) = some 2 := ⟨by decide +kernel, by decide +kernel, by decide +kernel⟩
theorem hd_L_call : yL_call.cls ≠ "java/lang/invoke/MethodHandle" ∧ yL_call.cls ≠ "java/lang/invoke/VarHandle" ∧ (parseMethodDescriptor yL_call.desc).map (fun d => d.parameters.length) = some 7 := ⟨by decide +kernel, by decide +kernel, by decide +kernel⟩
theorem hd_L_refuses : yL_refuses.cls ≠ "java/lang/invoke/MethodHandle" ∧ yL_refuses.cls ≠ "java/lang/invoke/VarHandle" ∧ (parseMethodDescriptor yL_refuses.desc).map (fun d => d.parameters.length) = some 4 := ⟨by decide +kernel, by decide +kernel, by decide +kernel⟩
theorem hd_L_item : yL_item.cls ≠ "java/lang/invoke/MethodHandle" ∧ yL_item.cls ≠ "java/lang/invoke/VarHandle" ∧ (parseMethodDescriptor yL_item.desc).map (fun d => d.parameters.length) = some 3 := ⟨by decide +kernel, by decide +kernel, by decide +kernel⟩
theorem hd_L_phrase : yL_phrase.cls ≠ "java/lang/invoke/MethodHandle" ∧ yL_phrase.cls ≠ "java/lang/invoke/VarHandle" ∧ (parseMethodDescriptor yL_phrase.desc).map (fun d => d.parameters.length) = some 5 := ⟨by decide +kernel, by decide +kernel, by decide +kernel⟩
theorem hd_L_judged : yL_judged.cls ≠ "java/lang/invoke/MethodHandle" ∧ yL_judged.cls ≠ "java/lang/invoke/VarHandle" ∧ (parseMethodDescriptor yL_judged.desc).map (fun d => d.parameters.length) = some 6 := ⟨by decide +kernel, by decide +kernel, by decide +kernel⟩
theorem hd_L_bout : yL_bout.cls ≠ "java/lang/invoke/MethodHandle" ∧ yL_bout.cls ≠ "java/lang/invoke/VarHandle" ∧ (parseMethodDescriptor yL_bout.desc).map (fun d => d.parameters.length) = some 8 := ⟨by decide +kernel, by decide +kernel, by decide +kernel⟩
theorem hd_L_foil : yL_foil.cls ≠ "java/lang/invoke/MethodHandle" ∧ yL_foil.cls ≠ "java/lang/invoke/VarHandle" ∧ (parseMethodDescriptor yL_foil.desc).map (fun d => d.parameters.length) = some 1 := ⟨by decide +kernel, by decide +kernel, by decide +kernel⟩
theorem hd_L_doubles : yL_doubles.cls ≠ "java/lang/invoke/MethodHandle" ∧ yL_doubles.cls ≠ "java/lang/invoke/VarHandle" ∧ (parseMethodDescriptor yL_doubles.desc).map (fun d => d.parameters.length) = some 2 := ⟨by decide +kernel, by decide +kernel, by decide +kernel⟩
theorem hd_L_bouts : yL_bouts.cls ≠ "java/lang/invoke/MethodHandle" ∧ yL_bouts.cls ≠ "java/lang/invoke/VarHandle" ∧ (parseMethodDescriptor yL_bouts.desc).map (fun d => d.parameters.length) = some 1 := ⟨by decide +kernel, by decide +kernel, by decide +kernel⟩
theorem hd_L_quick : yL_quick.cls ≠ "java/lang/invoke/MethodHandle" ∧ yL_quick.cls ≠ "java/lang/invoke/VarHandle" ∧ (parseMethodDescriptor yL_quick.desc).map (fun d => d.parameters.length) = some 5 := ⟨by decide +kernel, by decide +kernel, by decide +kernel⟩
theorem hd_L_table : yL_table.cls ≠ "java/lang/invoke/MethodHandle" ∧ yL_table.cls ≠ "java/lang/invoke/VarHandle" ∧ (parseMethodDescriptor yL_table.desc).map (fun d => d.parameters.length) = some 7 := ⟨by decide +kernel, by decide +kernel, by decide +kernel⟩
theorem hd_L_ranks : yL_ranks.cls ≠ "java/lang/invoke/MethodHandle" ∧ yL_ranks.cls ≠ "java/lang/invoke/VarHandle" ∧ (parseMethodDescriptor yL_ranks.desc).map (fun d => d.parameters.length) = some 6 := ⟨by decide +kernel, by decide +kernel, by decide +kernel⟩
theorem hd_L_match : yL_match.cls ≠ "java/lang/invoke/MethodHandle" ∧ yL_match.cls ≠ "java/lang/invoke/VarHandle" ∧ (parseMethodDescriptor yL_match.desc).map (fun d => d.parameters.length) = some 6 := ⟨by decide +kernel, by decide +kernel, by decide +kernel⟩
theorem hd_L_pools : yL_pools.cls ≠ "java/lang/invoke/MethodHandle" ∧ yL_pools.cls ≠ "java/lang/invoke/VarHandle" ∧ (parseMethodDescriptor yL_pools.desc).map (fun d => d.parameters.length) = some 1 := ⟨by decide +kernel, by decide +kernel, by decide +kernel⟩
theorem hd_L_most : yL_most.cls ≠ "java/lang/invoke/MethodHandle" ∧ yL_most.cls ≠ "java/lang/invoke/VarHandle" ∧ (parseMethodDescriptor yL_most.desc).map (fun d => d.parameters.length) = some 0 := ⟨by decide +kernel, by decide +kernel, by decide +kernel⟩
set_option maxRecDepth 20000 in
set_option maxHeartbeats 4000000 in
theorem c_L_seed (l : Launch) (hfl : l.stackTraces = false) (κ : KP) (γ : St) (y1 : Int32) : vx_Met l yL_seed [Cond.code yL_seed cL_seed 2 (some .int)] ({ frames := 7, cells := 1, slots := 6, locals := 111 } : Room) (va_Pc [.ref (kA κ 7 0), .int y1] (GW κ γ)) (QLX κ (x_X7_seed y1 γ).2 (x_X7_seed y1 γ).1 (some (.int 1))) (XLX κ (x_X7_seed y1 γ).2 (x_X7_seed y1 γ).1) 1 6 (AA κ) := by
  refine vx_ofW (cc := cL_seed) (maxL := 2) (ret := (some .int)) (by decide) rfl ?_
  intro p e s m args below meth c s₁ B hml9 ht hv
  obtain ⟨rfl, hH, hK9, hB9, hX9, hZ9⟩ := hv
  have hC : CX κ cL_seed "PhrasehallLaw" 2 p l s m ([.ref (kA κ 7 0), .int y1] : List Value).toArray meth c := ⟨B.exec, B.bytes, findClass_of_methodNamed B.named, fun w hw => tw_use (List.mem_filter.mp hw).2 (State.WarmedH.refl s) (hX9.1 w hw), hK9, hX9, hZ9, hB9, hml9, B.notSynchronized⟩
  obtain ⟨hx, hb, hown, hT, -, -, -, -, hml, hlk⟩ := id hC
  have hr := B.returns
  have hS : va_S (AA κ) s.heap s.heap [] := va_S.rf
  have hl := lv_entry ([.ref (kA κ 7 0), .int y1]) (n := 2) (Nat.le_of_ble_eq_true rfl)
  rw [lg_entry_eq]
  generalize (lg_sl ([.ref (kA κ 7 0), .int y1]) ++ List.replicate (2 - (lg_sl ([.ref (kA κ 7 0), .int y1])).length) Slot.unset).toArray = ls at hl ⊢
  have hl : lv_has ls 2 [(0, .ref (kA κ 7 0)), (1, .int y1)] := hl
  refine lv_aload_n hx hb dL_seed_0 rfl (lv_at hl 0 rfl) ?_
  refine lv_iload_n hx hb dL_seed_1 rfl (lv_at hl 1 rfl) ?_
  refine e_xcallV (rest := []) hC hl hH hS (co_seed l hfl κ γ y1) tw_738 tw_739 tw_740 tw_38 tw_741 hd_X7_seed ⟨Nat.le_of_ble_eq_true rfl, Nat.le_of_ble_eq_true rfl⟩ rfl rfl rfl rfl (Nat.le_of_ble_eq_true rfl) dL_seed_2 ⟨Nat.le_of_ble_eq_true rfl, Nat.le_of_ble_eq_true rfl⟩ rfl (fun he ce q9 H locs hH hS hce hcv hcl => ?_) (fun he H locs hH hS => ?_)
  · exact vx_out (fun x hx => (ht x hx).elim) hlk hce hcv hcl (fun t ht0 _ => ⟨he, rfl, by rw [ht0]; exact hH, hS.F ht0⟩) hS.2.2 (Nat.le_of_ble_eq_true rfl) (Nat.le_of_ble_eq_true rfl)
  refine lv_iconst (v := 1) hx hb dL_seed_5 (by decide) ?_
  exact W.widen (Nat.le_of_ble_eq_true rfl) (Nat.le_of_ble_eq_true rfl) (vx_ret (W.iret hx hb hr (fun t ht _ => ⟨he, rfl, by rw [ht]; exact hH, hS.F ht⟩) hS.2.2 dL_seed_6 hlk))
set_option maxRecDepth 20000 in
set_option maxHeartbeats 4000000 in
theorem call_x {p : Program} {l : Launch} {e : Env} {s : State} {m : MethodId} {below : List Frame} {meth : Method} {c : Code} {κ : KP} {γ : St} {H : Heap} {locs : List Loc} {cells slots : Nat} {args : Array Value} {ls : Array Slot} {rest : List Value} {R : Room} {v : Int32} {pc en : Nat} {ce : Cell} {q9 : Addr} {y1 : Int32} {y2 : Int32} {y3 : Int32} {y4 : Int32} {y5 : Int32} {y6 : Int32} (hC : CX κ cL_call "PhrasehallLaw" 8 p l s m args meth c) (htab : c.exceptionTable.toList = tableOf [(0, 278, 279, 78), (0, 278, 284, 80), (0, 278, 289, 82)]) (hr : meth.sig.returnType = some .int) (hl : lv_has ls 8 [(0, .ref (kA κ 7 0)), (1, .int y1), (2, .int y2), (3, .int y3), (4, .int y4), (5, .int y5), (6, .int y6)]) (hpc : pc < 278) (hH : HE κ γ H) (hS : va_S (AA κ) s.heap H locs) (he : en ≠ 0) (hce : H[q9]? = some ce) (hcv : ce.vm = .none) (hcl : s.vm.findClass (eNm en) = some ce.cls) (hv : cE en 0 = v) (h1 : cells ≤ 3) (h2 : slots ≤ 65) : vx_W p l e R s m args below meth c H locs cells slots (vx_MQ below (QLX κ γ 0 (some (.int v))) (XLX κ γ 0) args s 3 65 (AA κ)) (F0 m pc ls rest) q9 := by
  obtain ⟨hx, hb, hown, hT, -, hX9, -, -, hml, hlk⟩ := id hC
  have hcov : ∀ (h t : Nat), covers (⟨0, 278, h, t⟩ : ExceptionTableEntry) pc = true := fun h t => by simp [covers]; exact hpc
  subst hv
  by_cases e1 : en = 1
  · subst e1
    refine vx_catch (own := "PhrasehallLaw") (name := "java/lang/IllegalStateException") (E := "java/lang/IllegalStateException") hown [⟨0, 278, 279, 78⟩, ⟨0, 278, 284, 80⟩] ⟨0, 278, 289, 82⟩ [] htab (fun z hz => by
      rcases List.mem_cons.mp hz with rfl | hz
      · exact Or.inr ⟨by decide, _, hT _ tw_433, nc_in s hX9 1 rfl⟩
      · rw [List.mem_singleton.mp hz]; exact Or.inr ⟨by decide, _, hT _ tw_434, nc_in s hX9 0 rfl⟩) (hcov _ _) (by decide) (hT _ tw_435) (nw_use rfl (hX9.2.1 _ nw_184)) hce hcv hcl ?_
    refine lv_astore (lv' := [(7, .ref q9), (0, .ref (kA κ 7 0)), (1, .int y1), (2, .int y2), (3, .int y3), (4, .int y4), (5, .int y5), (6, .int y6)]) hx hb dL_call_289 hl (by decide) rfl (fun ls hl => ?_)
    refine lv_bipush (v := (-73)) hx hb dL_call_291 (by decide) ?_
    exact W.widen h1 h2 (vx_ret (W.iret hx hb hr (fun t ht _ => ⟨rfl, rfl, by rw [ht]; exact hH, hS.F ht⟩) hS.2.2 dL_call_293 hlk))
  by_cases e2 : en = 2
  · subst e2
    refine vx_catch (own := "PhrasehallLaw") (name := "java/lang/IllegalArgumentException") (E := "java/lang/IllegalArgumentException") hown [⟨0, 278, 279, 78⟩] ⟨0, 278, 284, 80⟩ [⟨0, 278, 289, 82⟩] htab (fun z hz => by rw [List.mem_singleton.mp hz]; exact Or.inr ⟨by decide, _, hT _ tw_433, nc_in s hX9 2 rfl⟩) (hcov _ _) (by decide) (hT _ tw_434) (nw_use rfl (hX9.2.1 _ nw_283)) hce hcv hcl ?_
    refine lv_astore (lv' := [(7, .ref q9), (0, .ref (kA κ 7 0)), (1, .int y1), (2, .int y2), (3, .int y3), (4, .int y4), (5, .int y5), (6, .int y6)]) hx hb dL_call_284 hl (by decide) rfl (fun ls hl => ?_)
    refine lv_bipush (v := (-72)) hx hb dL_call_286 (by decide) ?_
    exact W.widen h1 h2 (vx_ret (W.iret hx hb hr (fun t ht _ => ⟨rfl, rfl, by rw [ht]; exact hH, hS.F ht⟩) hS.2.2 dL_call_288 hlk))
  have hE : eNm en = "java/lang/IndexOutOfBoundsException" := by
    match en, he, e1, e2 with
    | 0, he, _, _ => exact absurd rfl he
    | 1, _, e1, _ => exact absurd rfl e1
    | 2, _, _, e2 => exact absurd rfl e2
    | n + 3, _, _, _ => rfl
  have hv3 : cE en 0 = -71 := by unfold cE; rw [if_neg he, if_neg e1, if_neg e2]
  rw [hE] at hcl
  rw [hv3]
  refine vx_catch (own := "PhrasehallLaw") (name := "java/lang/IndexOutOfBoundsException") (E := "java/lang/IndexOutOfBoundsException") hown [] ⟨0, 278, 279, 78⟩ [⟨0, 278, 284, 80⟩, ⟨0, 278, 289, 82⟩] htab (fun z hz => (nomatch hz)) (hcov _ _) (by decide) (hT _ tw_433) (nw_use rfl (hX9.2.1 _ nw_264)) hce hcv hcl ?_
  refine lv_astore (lv' := [(7, .ref q9), (0, .ref (kA κ 7 0)), (1, .int y1), (2, .int y2), (3, .int y3), (4, .int y4), (5, .int y5), (6, .int y6)]) hx hb dL_call_279 hl (by decide) rfl (fun ls hl => ?_)
  refine lv_bipush (v := (-71)) hx hb dL_call_281 (by decide) ?_
  exact W.widen h1 h2 (vx_ret (W.iret hx hb hr (fun t ht _ => ⟨rfl, rfl, by rw [ht]; exact hH, hS.F ht⟩) hS.2.2 dL_call_283 hlk))
theorem call_r {p : Program} {l : Launch} {e : Env} {s : State} {m : MethodId} {below : List Frame} {meth : Method} {c : Code} {κ : KP} {γ : St} {H : Heap} {locs : List Loc} {cells slots : Nat} {args : Array Value} {ls : Array Slot} {R : Room} {v : Int32} {pc : Nat} (hC : CX κ cL_call "PhrasehallLaw" 8 p l s m args meth c) (hr : meth.sig.returnType = some .int) (hH : HE κ γ H) (hS : va_S (AA κ) s.heap H locs) {off : Int} (hd : decode cL_call pc = .ok (.goto off, 3)) (ho : (pc : Int) + off = (278 : Nat)) (h1 : cells ≤ 3) (h2 : slots ≤ 65) : W p l e R s m args below meth c H locs cells slots (vx_MQ below (QLX κ γ 0 (some (.int v))) (XLX κ γ 0) args s 3 65 (AA κ)) (F0 m pc ls [.int v]) := by
  obtain ⟨hx, hb, hown, hT, -, hX9, -, -, hml, hlk⟩ := id hC
  refine lv_goto (tgt := 278) hx hb hd ho ?_
  exact W.widen h1 h2 (vx_ret (W.iret hx hb hr (fun t ht _ => ⟨rfl, rfl, by rw [ht]; exact hH, hS.F ht⟩) hS.2.2 dL_call_278 hlk))
theorem cE_0 {n : Nat} {v : Int32} (h : n = 0) : cE n v = v := by unfold cE; rw [if_pos h]
theorem cE_x {n : Nat} {v : Int32} (h : n ≠ 0) : cE n 0 = cE n v := by unfold cE; rw [if_neg h, if_neg h]
set_option maxRecDepth 20000 in
set_option maxHeartbeats 4000000 in
theorem c_L_call (l : Launch) (hfl : l.stackTraces = false) (κ : KP) (γ : St) (y1 : Int32) (y2 : Int32) (y3 : Int32) (y4 : Int32) (y5 : Int32) (y6 : Int32) : vx_Met l yL_call [Cond.codeWith yL_call cL_call 8 (some .int) [(0, 278, 279, 78), (0, 278, 284, 80), (0, 278, 289, 82)]] ({ frames := 8, cells := 3, slots := 65, locals := 164 } : Room) (va_Pc [.ref (kA κ 7 0), .int y1, .int y2, .int y3, .int y4, .int y5, .int y6] (GW κ γ)) (QLX κ (x_L_call y1 y2 y3 y4 y5 y6 γ).2 0 (some (.int (x_L_call y1 y2 y3 y4 y5 y6 γ).1))) (XLX κ (x_L_call y1 y2 y3 y4 y5 y6 γ).2 0) 3 65 (AA κ) := by
  generalize hq : (x_L_call y1 y2 y3 y4 y5 y6 γ) = res
  refine vx_ofWH (cc := cL_call) (maxL := 8) (ret := (some .int)) (hh := [(0, 278, 279, 78), (0, 278, 284, 80), (0, 278, 289, 82)]) (by decide) rfl ?_
  intro p e s m args below meth c s₁ B hml9 hv
  obtain ⟨rfl, hH, hK9, hB9, hX9, hZ9⟩ := hv
  have hC : CX κ cL_call "PhrasehallLaw" 8 p l s m ([.ref (kA κ 7 0), .int y1, .int y2, .int y3, .int y4, .int y5, .int y6] : List Value).toArray meth c := ⟨B.exec, B.bytes, findClass_of_methodNamed B.named, fun w hw => tw_use (List.mem_filter.mp hw).2 (State.WarmedH.refl s) (hX9.1 w hw), hK9, hX9, hZ9, hB9, hml9, B.notSynchronized⟩
  obtain ⟨hx, hb, hown, hT, -, -, -, -, hml, hlk⟩ := id hC
  have htab : c.exceptionTable.toList = tableOf [(0, 278, 279, 78), (0, 278, 284, 80), (0, 278, 289, 82)] := vx_table (x := yL_call) B (hT _ tw_432)
  have hr := B.returns
  have hS : va_S (AA κ) s.heap s.heap [] := va_S.rf
  have hl := lv_entry ([.ref (kA κ 7 0), .int y1, .int y2, .int y3, .int y4, .int y5, .int y6]) (n := 8) (Nat.le_of_ble_eq_true rfl)
  rw [lg_entry_eq]
  generalize (lg_sl ([.ref (kA κ 7 0), .int y1, .int y2, .int y3, .int y4, .int y5, .int y6]) ++ List.replicate (8 - (lg_sl ([.ref (kA κ 7 0), .int y1, .int y2, .int y3, .int y4, .int y5, .int y6])).length) Slot.unset).toArray = ls at hl ⊢
  have hl : lv_has ls 8 [(0, .ref (kA κ 7 0)), (1, .int y1), (2, .int y2), (3, .int y3), (4, .int y4), (5, .int y5), (6, .int y6)] := hl
  unfold x_L_call at hq
  refine lv_iload_n hx hb dL_call_0 rfl (lv_at hl 1 rfl) ?_
  refine lv_if_ne (tgt := 11) hx hb dL_call_1 (by decide) (fun cc0 => ?_) (fun cc0 => ?_)
  rotate_left
  · have hq := ifpe hq cc0
    refine lv_aload_n hx hb dL_call_4 rfl (lv_at hl 0 rfl) ?_
    refine e_xcallV (rest := []) hC hl hH hS (co_fencer l hfl κ γ) tw_178 tw_179 tw_180 tw_38 tw_181 hd_X7_fencer ⟨Nat.le_of_ble_eq_true rfl, Nat.le_of_ble_eq_true rfl⟩ rfl rfl rfl rfl (Nat.le_of_ble_eq_true rfl) dL_call_5 ⟨Nat.le_of_ble_eq_true rfl, Nat.le_of_ble_eq_true rfl⟩ rfl (fun he ce q9 H locs hH hS hce hcv hcl => ?_) (fun he H locs hH hS => ?_)
    · subst hq
      exact call_x hC htab hr hl (by decide) hH hS he hce hcv hcl (cE_x he) (Nat.le_of_ble_eq_true rfl) (Nat.le_of_ble_eq_true rfl)
    · subst hq
      refine W.eq (g2 := F0 m 8 ls [.int (cE (x_X7_fencer γ).1 ((x_X7_fencer γ).2.1))]) (by rw [cE_0 he]; rfl) ?_
      exact call_r hC hr hH hS dL_call_8 (by decide) (Nat.le_of_ble_eq_true rfl) (Nat.le_of_ble_eq_true rfl)
  have hq := ifne hq cc0
  refine lv_iload_n hx hb dL_call_11 rfl (lv_at hl 1 rfl) ?_
  refine lv_iconst (v := 1) hx hb dL_call_12 (by decide) ?_
  refine lv_icmp_ne (tgt := 31) hx hb dL_call_13 (by decide) (fun cc1 => ?_) (fun cc1 => ?_)
  rotate_left
  · have hq := ifpe hq cc1
    refine lv_aload_n hx hb dL_call_16 rfl (lv_at hl 0 rfl) ?_
    refine lv_iload_n hx hb dL_call_17 rfl (lv_at hl 2 rfl) ?_
    refine lv_iload_n hx hb dL_call_18 rfl (lv_at hl 3 rfl) ?_
    refine lv_iload hx hb dL_call_19 (lv_at hl 4 rfl) ?_
    refine lv_iload hx hb dL_call_21 (lv_at hl 5 rfl) ?_
    refine lv_iload hx hb dL_call_23 (lv_at hl 6 rfl) ?_
    refine e_xcallV (rest := []) hC hl hH hS (co_begin l hfl κ γ y2 y3 y4 y5 y6) tw_436 tw_437 tw_438 tw_38 tw_439 hd_X7_begin ⟨Nat.le_of_ble_eq_true rfl, Nat.le_of_ble_eq_true rfl⟩ rfl rfl rfl rfl (Nat.le_of_ble_eq_true rfl) dL_call_25 ⟨Nat.le_of_ble_eq_true rfl, Nat.le_of_ble_eq_true rfl⟩ rfl (fun he ce q9 H locs hH hS hce hcv hcl => ?_) (fun he H locs hH hS => ?_)
    · subst hq
      exact call_x hC htab hr hl (by decide) hH hS he hce hcv hcl (cE_x he) (Nat.le_of_ble_eq_true rfl) (Nat.le_of_ble_eq_true rfl)
    · subst hq
      refine W.eq (g2 := F0 m 28 ls [.int (cE (x_X7_begin y2 y3 y4 y5 y6 γ).1 ((x_X7_begin y2 y3 y4 y5 y6 γ).2.1))]) (by rw [cE_0 he]; rfl) ?_
      exact call_r hC hr hH hS dL_call_28 (by decide) (Nat.le_of_ble_eq_true rfl) (Nat.le_of_ble_eq_true rfl)
  have hq := ifne hq cc1
  refine lv_iload_n hx hb dL_call_31 rfl (lv_at hl 1 rfl) ?_
  refine lv_iconst (v := 2) hx hb dL_call_32 (by decide) ?_
  refine lv_icmp_ne (tgt := 47) hx hb dL_call_33 (by decide) (fun cc2 => ?_) (fun cc2 => ?_)
  rotate_left
  · have hq := ifpe hq cc2
    refine lv_aload_n hx hb dL_call_36 rfl (lv_at hl 0 rfl) ?_
    refine lv_iload_n hx hb dL_call_37 rfl (lv_at hl 2 rfl) ?_
    refine lv_iload_n hx hb dL_call_38 rfl (lv_at hl 3 rfl) ?_
    refine lv_iload hx hb dL_call_39 (lv_at hl 4 rfl) ?_
    refine e_xcallV (rest := []) hC hl hH hS (co_act l hfl κ γ y2 y3 y4) tw_517 tw_518 tw_519 tw_38 tw_520 hd_X7_act ⟨Nat.le_of_ble_eq_true rfl, Nat.le_of_ble_eq_true rfl⟩ rfl rfl rfl rfl (Nat.le_of_ble_eq_true rfl) dL_call_41 ⟨Nat.le_of_ble_eq_true rfl, Nat.le_of_ble_eq_true rfl⟩ rfl (fun he ce q9 H locs hH hS hce hcv hcl => ?_) (fun he H locs hH hS => ?_)
    · subst hq
      exact call_x hC htab hr hl (by decide) hH hS he hce hcv hcl (cE_x he) (Nat.le_of_ble_eq_true rfl) (Nat.le_of_ble_eq_true rfl)
    · subst hq
      refine W.eq (g2 := F0 m 44 ls [.int (cE (x_X7_act y2 y3 y4 γ).1 ((x_X7_act y2 y3 y4 γ).2.1))]) (by rw [cE_0 he]; rfl) ?_
      exact call_r hC hr hH hS dL_call_44 (by decide) (Nat.le_of_ble_eq_true rfl) (Nat.le_of_ble_eq_true rfl)
  have hq := ifne hq cc2
  refine lv_iload_n hx hb dL_call_47 rfl (lv_at hl 1 rfl) ?_
  refine lv_iconst (v := 3) hx hb dL_call_48 (by decide) ?_
  refine lv_icmp_ne (tgt := 65) hx hb dL_call_49 (by decide) (fun cc3 => ?_) (fun cc3 => ?_)
  rotate_left
  · have hq := ifpe hq cc3
    refine lv_aload_n hx hb dL_call_52 rfl (lv_at hl 0 rfl) ?_
    refine lv_iload_n hx hb dL_call_53 rfl (lv_at hl 2 rfl) ?_
    refine lv_iload_n hx hb dL_call_54 rfl (lv_at hl 3 rfl) ?_
    refine lv_iload hx hb dL_call_55 (lv_at hl 4 rfl) ?_
    refine lv_iload hx hb dL_call_57 (lv_at hl 5 rfl) ?_
    refine e_xcallV (rest := []) hC hl hH hS (co_hit l hfl κ γ y2 y3 y4 y5) tw_555 tw_556 tw_557 tw_38 tw_558 hd_X7_hit ⟨Nat.le_of_ble_eq_true rfl, Nat.le_of_ble_eq_true rfl⟩ rfl rfl rfl rfl (Nat.le_of_ble_eq_true rfl) dL_call_59 ⟨Nat.le_of_ble_eq_true rfl, Nat.le_of_ble_eq_true rfl⟩ rfl (fun he ce q9 H locs hH hS hce hcv hcl => ?_) (fun he H locs hH hS => ?_)
    · subst hq
      exact call_x hC htab hr hl (by decide) hH hS he hce hcv hcl (cE_x he) (Nat.le_of_ble_eq_true rfl) (Nat.le_of_ble_eq_true rfl)
    · subst hq
      refine W.eq (g2 := F0 m 62 ls [.int (cE (x_X7_hit y2 y3 y4 y5 γ).1 ((x_X7_hit y2 y3 y4 y5 γ).2.1))]) (by rw [cE_0 he]; rfl) ?_
      exact call_r hC hr hH hS dL_call_62 (by decide) (Nat.le_of_ble_eq_true rfl) (Nat.le_of_ble_eq_true rfl)
  have hq := ifne hq cc3
  refine lv_iload_n hx hb dL_call_65 rfl (lv_at hl 1 rfl) ?_
  refine lv_iconst (v := 4) hx hb dL_call_66 (by decide) ?_
  refine lv_icmp_ne (tgt := 77) hx hb dL_call_67 (by decide) (fun cc4 => ?_) (fun cc4 => ?_)
  rotate_left
  · have hq := ifpe hq cc4
    refine lv_aload_n hx hb dL_call_70 rfl (lv_at hl 0 rfl) ?_
    refine e_xcallV (rest := []) hC hl hH hS (co_judge l hfl κ γ) tw_565 tw_566 tw_567 tw_38 tw_568 hd_X7_judge ⟨Nat.le_of_ble_eq_true rfl, Nat.le_of_ble_eq_true rfl⟩ rfl rfl rfl rfl (Nat.le_of_ble_eq_true rfl) dL_call_71 ⟨Nat.le_of_ble_eq_true rfl, Nat.le_of_ble_eq_true rfl⟩ rfl (fun he ce q9 H locs hH hS hce hcv hcl => ?_) (fun he H locs hH hS => ?_)
    · subst hq
      exact call_x hC htab hr hl (by decide) hH hS he hce hcv hcl (cE_x he) (Nat.le_of_ble_eq_true rfl) (Nat.le_of_ble_eq_true rfl)
    · subst hq
      refine W.eq (g2 := F0 m 74 ls [.int (cE (x_X7_judge γ).1 ((x_X7_judge γ).2.1))]) (by rw [cE_0 he]; rfl) ?_
      exact call_r hC hr hH hS dL_call_74 (by decide) (Nat.le_of_ble_eq_true rfl) (Nat.le_of_ble_eq_true rfl)
  have hq := ifne hq cc4
  refine lv_iload_n hx hb dL_call_77 rfl (lv_at hl 1 rfl) ?_
  refine lv_iconst (v := 5) hx hb dL_call_78 (by decide) ?_
  refine lv_icmp_ne (tgt := 91) hx hb dL_call_79 (by decide) (fun cc5 => ?_) (fun cc5 => ?_)
  rotate_left
  · have hq := ifpe hq cc5
    refine lv_aload_n hx hb dL_call_82 rfl (lv_at hl 0 rfl) ?_
    refine lv_iload_n hx hb dL_call_83 rfl (lv_at hl 2 rfl) ?_
    refine lv_iload_n hx hb dL_call_84 rfl (lv_at hl 3 rfl) ?_
    refine e_xcallV (rest := []) hC hl hH hS (co_card l hfl κ γ y2 y3) tw_675 tw_676 tw_677 tw_38 tw_678 hd_X7_card ⟨Nat.le_of_ble_eq_true rfl, Nat.le_of_ble_eq_true rfl⟩ rfl rfl rfl rfl (Nat.le_of_ble_eq_true rfl) dL_call_85 ⟨Nat.le_of_ble_eq_true rfl, Nat.le_of_ble_eq_true rfl⟩ rfl (fun he ce q9 H locs hH hS hce hcv hcl => ?_) (fun he H locs hH hS => ?_)
    · subst hq
      exact call_x hC htab hr hl (by decide) hH hS he hce hcv hcl (cE_x he) (Nat.le_of_ble_eq_true rfl) (Nat.le_of_ble_eq_true rfl)
    · subst hq
      refine W.eq (g2 := F0 m 88 ls [.int (cE (x_X7_card y2 y3 γ).1 ((x_X7_card y2 y3 γ).2.1))]) (by rw [cE_0 he]; rfl) ?_
      exact call_r hC hr hH hS dL_call_88 (by decide) (Nat.le_of_ble_eq_true rfl) (Nat.le_of_ble_eq_true rfl)
  have hq := ifne hq cc5
  refine lv_iload_n hx hb dL_call_91 rfl (lv_at hl 1 rfl) ?_
  refine lv_bipush (v := 6) hx hb dL_call_92 (by decide) ?_
  refine lv_icmp_ne (tgt := 105) hx hb dL_call_94 (by decide) (fun cc6 => ?_) (fun cc6 => ?_)
  rotate_left
  · have hq := ifpe hq cc6
    refine lv_aload_n hx hb dL_call_97 rfl (lv_at hl 0 rfl) ?_
    refine lv_iload_n hx hb dL_call_98 rfl (lv_at hl 2 rfl) ?_
    refine e_xcallV (rest := []) hC hl hH hS (co_clock l hfl κ γ y2) tw_694 tw_695 tw_696 tw_38 tw_697 hd_X7_clock ⟨Nat.le_of_ble_eq_true rfl, Nat.le_of_ble_eq_true rfl⟩ rfl rfl rfl rfl (Nat.le_of_ble_eq_true rfl) dL_call_99 ⟨Nat.le_of_ble_eq_true rfl, Nat.le_of_ble_eq_true rfl⟩ rfl (fun he ce q9 H locs hH hS hce hcv hcl => ?_) (fun he H locs hH hS => ?_)
    · subst hq
      exact call_x hC htab hr hl (by decide) hH hS he hce hcv hcl (cE_x he) (Nat.le_of_ble_eq_true rfl) (Nat.le_of_ble_eq_true rfl)
    · subst hq
      refine W.eq (g2 := F0 m 102 ls [.int (cE (x_X7_clock y2 γ).1 ((x_X7_clock y2 γ).2.1))]) (by rw [cE_0 he]; rfl) ?_
      exact call_r hC hr hH hS dL_call_102 (by decide) (Nat.le_of_ble_eq_true rfl) (Nat.le_of_ble_eq_true rfl)
  have hq := ifne hq cc6
  refine lv_iload_n hx hb dL_call_105 rfl (lv_at hl 1 rfl) ?_
  refine lv_bipush (v := 7) hx hb dL_call_106 (by decide) ?_
  refine lv_icmp_ne (tgt := 118) hx hb dL_call_108 (by decide) (fun cc7 => ?_) (fun cc7 => ?_)
  rotate_left
  · have hq := ifpe hq cc7
    refine lv_aload_n hx hb dL_call_111 rfl (lv_at hl 0 rfl) ?_
    refine e_xcallV (rest := []) hC hl hH hS (co_end l hfl κ γ) tw_729 tw_730 tw_731 tw_38 tw_732 hd_X7_end ⟨Nat.le_of_ble_eq_true rfl, Nat.le_of_ble_eq_true rfl⟩ rfl rfl rfl rfl (Nat.le_of_ble_eq_true rfl) dL_call_112 ⟨Nat.le_of_ble_eq_true rfl, Nat.le_of_ble_eq_true rfl⟩ rfl (fun he ce q9 H locs hH hS hce hcv hcl => ?_) (fun he H locs hH hS => ?_)
    · subst hq
      exact call_x hC htab hr hl (by decide) hH hS he hce hcv hcl (cE_x he) (Nat.le_of_ble_eq_true rfl) (Nat.le_of_ble_eq_true rfl)
    · subst hq
      refine W.eq (g2 := F0 m 115 ls [.int (cE (x_X7_end γ).1 ((x_X7_end γ).2.1))]) (by rw [cE_0 he]; rfl) ?_
      exact call_r hC hr hH hS dL_call_115 (by decide) (Nat.le_of_ble_eq_true rfl) (Nat.le_of_ble_eq_true rfl)
  have hq := ifne hq cc7
  refine lv_iload_n hx hb dL_call_118 rfl (lv_at hl 1 rfl) ?_
  refine lv_bipush (v := 8) hx hb dL_call_119 (by decide) ?_
  refine lv_icmp_ne (tgt := 132) hx hb dL_call_121 (by decide) (fun cc8 => ?_) (fun cc8 => ?_)
  rotate_left
  · have hq := ifpe hq cc8
    refine lv_aload_n hx hb dL_call_124 rfl (lv_at hl 0 rfl) ?_
    refine lv_iload_n hx hb dL_call_125 rfl (lv_at hl 2 rfl) ?_
    refine e_xcallS (rest := []) hC hl hH hS (c_L_seed l hfl κ γ y2) tw_735 tw_736 tw_37 tw_737 hd_L_seed ⟨Nat.le_of_ble_eq_true rfl, Nat.le_of_ble_eq_true rfl⟩ rfl rfl rfl rfl (Nat.le_of_ble_eq_true rfl) dL_call_126 ⟨Nat.le_of_ble_eq_true rfl, Nat.le_of_ble_eq_true rfl⟩ rfl (fun he ce q9 H locs hH hS hce hcv hcl => ?_) (fun he H locs hH hS => ?_)
    · subst hq
      exact call_x hC htab hr hl (by decide) hH hS he hce hcv hcl (cE_x he) (Nat.le_of_ble_eq_true rfl) (Nat.le_of_ble_eq_true rfl)
    · subst hq
      refine W.eq (g2 := F0 m 129 ls [.int (cE (x_X7_seed y2 γ).1 1)]) (by rw [cE_0 he]; rfl) ?_
      exact call_r hC hr hH hS dL_call_129 (by decide) (Nat.le_of_ble_eq_true rfl) (Nat.le_of_ble_eq_true rfl)
  have hq := ifne hq cc8
  refine lv_iload_n hx hb dL_call_132 rfl (lv_at hl 1 rfl) ?_
  refine lv_bipush (v := 9) hx hb dL_call_133 (by decide) ?_
  refine lv_icmp_ne (tgt := 146) hx hb dL_call_135 (by decide) (fun cc9 => ?_) (fun cc9 => ?_)
  rotate_left
  · have hq := ifpe hq cc9
    refine lv_aload_n hx hb dL_call_138 rfl (lv_at hl 0 rfl) ?_
    refine lv_iload_n hx hb dL_call_139 rfl (lv_at hl 2 rfl) ?_
    refine e_xcallV (rest := []) hC hl hH hS (co_pool l hfl κ γ y2) tw_743 tw_744 tw_745 tw_38 tw_746 hd_X7_pool ⟨Nat.le_of_ble_eq_true rfl, Nat.le_of_ble_eq_true rfl⟩ rfl rfl rfl rfl (Nat.le_of_ble_eq_true rfl) dL_call_140 ⟨Nat.le_of_ble_eq_true rfl, Nat.le_of_ble_eq_true rfl⟩ rfl (fun he ce q9 H locs hH hS hce hcv hcl => ?_) (fun he H locs hH hS => ?_)
    · subst hq
      exact call_x hC htab hr hl (by decide) hH hS he hce hcv hcl (cE_x he) (Nat.le_of_ble_eq_true rfl) (Nat.le_of_ble_eq_true rfl)
    · subst hq
      refine W.eq (g2 := F0 m 143 ls [.int (cE (x_X7_pool y2 γ).1 ((x_X7_pool y2 γ).2.1))]) (by rw [cE_0 he]; rfl) ?_
      exact call_r hC hr hH hS dL_call_143 (by decide) (Nat.le_of_ble_eq_true rfl) (Nat.le_of_ble_eq_true rfl)
  have hq := ifne hq cc9
  refine lv_iload_n hx hb dL_call_146 rfl (lv_at hl 1 rfl) ?_
  refine lv_bipush (v := 10) hx hb dL_call_147 (by decide) ?_
  refine lv_icmp_ne (tgt := 161) hx hb dL_call_149 (by decide) (fun cc10 => ?_) (fun cc10 => ?_)
  rotate_left
  · have hq := ifpe hq cc10
    refine lv_aload_n hx hb dL_call_152 rfl (lv_at hl 0 rfl) ?_
    refine lv_iload_n hx hb dL_call_153 rfl (lv_at hl 2 rfl) ?_
    refine lv_iload_n hx hb dL_call_154 rfl (lv_at hl 3 rfl) ?_
    refine e_xcallV (rest := []) hC hl hH hS (co_withdraw l hfl κ γ y2 y3) tw_776 tw_777 tw_778 tw_38 tw_779 hd_X7_withdraw ⟨Nat.le_of_ble_eq_true rfl, Nat.le_of_ble_eq_true rfl⟩ rfl rfl rfl rfl (Nat.le_of_ble_eq_true rfl) dL_call_155 ⟨Nat.le_of_ble_eq_true rfl, Nat.le_of_ble_eq_true rfl⟩ rfl (fun he ce q9 H locs hH hS hce hcv hcl => ?_) (fun he H locs hH hS => ?_)
    · subst hq
      exact call_x hC htab hr hl (by decide) hH hS he hce hcv hcl (cE_x he) (Nat.le_of_ble_eq_true rfl) (Nat.le_of_ble_eq_true rfl)
    · subst hq
      refine W.eq (g2 := F0 m 158 ls [.int (cE (x_X7_withdraw y2 y3 γ).1 ((x_X7_withdraw y2 y3 γ).2.1))]) (by rw [cE_0 he]; rfl) ?_
      exact call_r hC hr hH hS dL_call_158 (by decide) (Nat.le_of_ble_eq_true rfl) (Nat.le_of_ble_eq_true rfl)
  have hq := ifne hq cc10
  refine lv_iload_n hx hb dL_call_161 rfl (lv_at hl 1 rfl) ?_
  refine lv_bipush (v := 11) hx hb dL_call_162 (by decide) ?_
  refine lv_icmp_ne (tgt := 175) hx hb dL_call_164 (by decide) (fun cc11 => ?_) (fun cc11 => ?_)
  rotate_left
  · have hq := ifpe hq cc11
    refine lv_aload_n hx hb dL_call_167 rfl (lv_at hl 0 rfl) ?_
    refine lv_iload_n hx hb dL_call_168 rfl (lv_at hl 2 rfl) ?_
    refine e_xcallV (rest := []) hC hl hH hS (co_tableau l hfl κ γ y2) tw_789 tw_790 tw_791 tw_38 tw_792 hd_X7_tableau ⟨Nat.le_of_ble_eq_true rfl, Nat.le_of_ble_eq_true rfl⟩ rfl rfl rfl rfl (Nat.le_of_ble_eq_true rfl) dL_call_169 ⟨Nat.le_of_ble_eq_true rfl, Nat.le_of_ble_eq_true rfl⟩ rfl (fun he ce q9 H locs hH hS hce hcv hcl => ?_) (fun he H locs hH hS => ?_)
    · subst hq
      exact call_x hC htab hr hl (by decide) hH hS he hce hcv hcl (cE_x he) (Nat.le_of_ble_eq_true rfl) (Nat.le_of_ble_eq_true rfl)
    · subst hq
      refine W.eq (g2 := F0 m 172 ls [.int (cE (x_X7_tableau y2 γ).1 ((x_X7_tableau y2 γ).2.1))]) (by rw [cE_0 he]; rfl) ?_
      exact call_r hC hr hH hS dL_call_172 (by decide) (Nat.le_of_ble_eq_true rfl) (Nat.le_of_ble_eq_true rfl)
  have hq := ifne hq cc11
  refine lv_iload_n hx hb dL_call_175 rfl (lv_at hl 1 rfl) ?_
  refine lv_bipush (v := 12) hx hb dL_call_176 (by decide) ?_
  refine lv_icmp_ne (tgt := 192) hx hb dL_call_178 (by decide) (fun cc12 => ?_) (fun cc12 => ?_)
  rotate_left
  · have hq := ifpe hq cc12
    refine lv_aload_n hx hb dL_call_181 rfl (lv_at hl 0 rfl) ?_
    refine lv_iload_n hx hb dL_call_182 rfl (lv_at hl 2 rfl) ?_
    refine lv_iload_n hx hb dL_call_183 rfl (lv_at hl 3 rfl) ?_
    refine lv_iload hx hb dL_call_184 (lv_at hl 4 rfl) ?_
    refine e_xcallV (rest := []) hC hl hH hS (co_wins l hfl κ γ y2 y3 y4) tw_822 tw_823 tw_824 tw_38 tw_825 hd_X7_wins ⟨Nat.le_of_ble_eq_true rfl, Nat.le_of_ble_eq_true rfl⟩ rfl rfl rfl rfl (Nat.le_of_ble_eq_true rfl) dL_call_186 ⟨Nat.le_of_ble_eq_true rfl, Nat.le_of_ble_eq_true rfl⟩ rfl (fun he ce q9 H locs hH hS hce hcv hcl => ?_) (fun he H locs hH hS => ?_)
    · subst hq
      exact call_x hC htab hr hl (by decide) hH hS he hce hcv hcl (cE_x he) (Nat.le_of_ble_eq_true rfl) (Nat.le_of_ble_eq_true rfl)
    · subst hq
      refine W.eq (g2 := F0 m 189 ls [.int (cE (x_X7_wins y2 y3 y4 γ).1 ((x_X7_wins y2 y3 y4 γ).2.1))]) (by rw [cE_0 he]; rfl) ?_
      exact call_r hC hr hH hS dL_call_189 (by decide) (Nat.le_of_ble_eq_true rfl) (Nat.le_of_ble_eq_true rfl)
  have hq := ifne hq cc12
  refine lv_iload_n hx hb dL_call_192 rfl (lv_at hl 1 rfl) ?_
  refine lv_bipush (v := 13) hx hb dL_call_193 (by decide) ?_
  refine lv_icmp_ne (tgt := 206) hx hb dL_call_195 (by decide) (fun cc13 => ?_) (fun cc13 => ?_)
  rotate_left
  · have hq := ifpe hq cc13
    refine lv_aload_n hx hb dL_call_198 rfl (lv_at hl 0 rfl) ?_
    refine lv_iload_n hx hb dL_call_199 rfl (lv_at hl 2 rfl) ?_
    refine e_xcallV (rest := []) hC hl hH hS (co_lamp l hfl κ γ y2) tw_837 tw_838 tw_839 tw_38 tw_840 hd_X7_lamp ⟨Nat.le_of_ble_eq_true rfl, Nat.le_of_ble_eq_true rfl⟩ rfl rfl rfl rfl (Nat.le_of_ble_eq_true rfl) dL_call_200 ⟨Nat.le_of_ble_eq_true rfl, Nat.le_of_ble_eq_true rfl⟩ rfl (fun he ce q9 H locs hH hS hce hcv hcl => ?_) (fun he H locs hH hS => ?_)
    · subst hq
      exact call_x hC htab hr hl (by decide) hH hS he hce hcv hcl (cE_x he) (Nat.le_of_ble_eq_true rfl) (Nat.le_of_ble_eq_true rfl)
    · subst hq
      refine W.eq (g2 := F0 m 203 ls [.int (cE (x_X7_lamp y2 γ).1 ((x_X7_lamp y2 γ).2.1))]) (by rw [cE_0 he]; rfl) ?_
      exact call_r hC hr hH hS dL_call_203 (by decide) (Nat.le_of_ble_eq_true rfl) (Nat.le_of_ble_eq_true rfl)
  have hq := ifne hq cc13
  refine lv_iload_n hx hb dL_call_206 rfl (lv_at hl 1 rfl) ?_
  refine lv_bipush (v := 14) hx hb dL_call_207 (by decide) ?_
  refine lv_icmp_ne (tgt := 221) hx hb dL_call_209 (by decide) (fun cc14 => ?_) (fun cc14 => ?_)
  rotate_left
  · have hq := ifpe hq cc14
    refine lv_aload_n hx hb dL_call_212 rfl (lv_at hl 0 rfl) ?_
    refine lv_iload_n hx hb dL_call_213 rfl (lv_at hl 2 rfl) ?_
    refine lv_iload_n hx hb dL_call_214 rfl (lv_at hl 3 rfl) ?_
    refine e_xcallV (rest := []) hC hl hH hS (co_ofBout l hfl κ γ y2 y3) tw_254 tw_255 tw_256 tw_38 tw_257 hd_X7_ofBout ⟨Nat.le_of_ble_eq_true rfl, Nat.le_of_ble_eq_true rfl⟩ rfl rfl rfl rfl (Nat.le_of_ble_eq_true rfl) dL_call_215 ⟨Nat.le_of_ble_eq_true rfl, Nat.le_of_ble_eq_true rfl⟩ rfl (fun he ce q9 H locs hH hS hce hcv hcl => ?_) (fun he H locs hH hS => ?_)
    · subst hq
      exact call_x hC htab hr hl (by decide) hH hS he hce hcv hcl (cE_x he) (Nat.le_of_ble_eq_true rfl) (Nat.le_of_ble_eq_true rfl)
    · subst hq
      refine W.eq (g2 := F0 m 218 ls [.int (cE (x_X7_ofBout y2 y3 γ).1 ((x_X7_ofBout y2 y3 γ).2.1))]) (by rw [cE_0 he]; rfl) ?_
      exact call_r hC hr hH hS dL_call_218 (by decide) (Nat.le_of_ble_eq_true rfl) (Nat.le_of_ble_eq_true rfl)
  have hq := ifne hq cc14
  refine lv_iload_n hx hb dL_call_221 rfl (lv_at hl 1 rfl) ?_
  refine lv_bipush (v := 15) hx hb dL_call_222 (by decide) ?_
  refine lv_icmp_ne (tgt := 238) hx hb dL_call_224 (by decide) (fun cc15 => ?_) (fun cc15 => ?_)
  rotate_left
  · have hq := ifpe hq cc15
    refine lv_aload_n hx hb dL_call_227 rfl (lv_at hl 0 rfl) ?_
    refine lv_iload_n hx hb dL_call_228 rfl (lv_at hl 2 rfl) ?_
    refine lv_iload_n hx hb dL_call_229 rfl (lv_at hl 3 rfl) ?_
    refine lv_iload hx hb dL_call_230 (lv_at hl 4 rfl) ?_
    refine e_xcallV (rest := []) hC hl hH hS (co_ofPool l hfl κ γ y2 y3 y4) tw_301 tw_302 tw_303 tw_38 tw_304 hd_X7_ofPool ⟨Nat.le_of_ble_eq_true rfl, Nat.le_of_ble_eq_true rfl⟩ rfl rfl rfl rfl (Nat.le_of_ble_eq_true rfl) dL_call_232 ⟨Nat.le_of_ble_eq_true rfl, Nat.le_of_ble_eq_true rfl⟩ rfl (fun he ce q9 H locs hH hS hce hcv hcl => ?_) (fun he H locs hH hS => ?_)
    · subst hq
      exact call_x hC htab hr hl (by decide) hH hS he hce hcv hcl (cE_x he) (Nat.le_of_ble_eq_true rfl) (Nat.le_of_ble_eq_true rfl)
    · subst hq
      refine W.eq (g2 := F0 m 235 ls [.int (cE (x_X7_ofPool y2 y3 y4 γ).1 ((x_X7_ofPool y2 y3 y4 γ).2.1))]) (by rw [cE_0 he]; rfl) ?_
      exact call_r hC hr hH hS dL_call_235 (by decide) (Nat.le_of_ble_eq_true rfl) (Nat.le_of_ble_eq_true rfl)
  have hq := ifne hq cc15
  refine lv_iload_n hx hb dL_call_238 rfl (lv_at hl 1 rfl) ?_
  refine lv_bipush (v := 16) hx hb dL_call_239 (by decide) ?_
  refine lv_icmp_ne (tgt := 255) hx hb dL_call_241 (by decide) (fun cc16 => ?_) (fun cc16 => ?_)
  rotate_left
  · have hq := ifpe hq cc16
    refine lv_aload_n hx hb dL_call_244 rfl (lv_at hl 0 rfl) ?_
    refine lv_iload_n hx hb dL_call_245 rfl (lv_at hl 2 rfl) ?_
    refine lv_iload_n hx hb dL_call_246 rfl (lv_at hl 3 rfl) ?_
    refine lv_iload hx hb dL_call_247 (lv_at hl 4 rfl) ?_
    refine e_xcallV (rest := []) hC hl hH hS (co_ofPoolAnew l hfl κ γ y2 y3 y4) tw_328 tw_329 tw_330 tw_38 tw_331 hd_X7_ofPoolAnew ⟨Nat.le_of_ble_eq_true rfl, Nat.le_of_ble_eq_true rfl⟩ rfl rfl rfl rfl (Nat.le_of_ble_eq_true rfl) dL_call_249 ⟨Nat.le_of_ble_eq_true rfl, Nat.le_of_ble_eq_true rfl⟩ rfl (fun he ce q9 H locs hH hS hce hcv hcl => ?_) (fun he H locs hH hS => ?_)
    · subst hq
      exact call_x hC htab hr hl (by decide) hH hS he hce hcv hcl (cE_x he) (Nat.le_of_ble_eq_true rfl) (Nat.le_of_ble_eq_true rfl)
    · subst hq
      refine W.eq (g2 := F0 m 252 ls [.int (cE (x_X7_ofPoolAnew y2 y3 y4 γ).1 ((x_X7_ofPoolAnew y2 y3 y4 γ).2.1))]) (by rw [cE_0 he]; rfl) ?_
      exact call_r hC hr hH hS dL_call_252 (by decide) (Nat.le_of_ble_eq_true rfl) (Nat.le_of_ble_eq_true rfl)
  have hq := ifne hq cc16
  refine lv_iload_n hx hb dL_call_255 rfl (lv_at hl 1 rfl) ?_
  refine lv_bipush (v := 17) hx hb dL_call_256 (by decide) ?_
  refine lv_icmp_ne (tgt := 270) hx hb dL_call_258 (by decide) (fun cc17 => ?_) (fun cc17 => ?_)
  rotate_left
  · have hq := ifpe hq cc17
    refine lv_aload_n hx hb dL_call_261 rfl (lv_at hl 0 rfl) ?_
    refine lv_iload_n hx hb dL_call_262 rfl (lv_at hl 2 rfl) ?_
    refine lv_iload_n hx hb dL_call_263 rfl (lv_at hl 3 rfl) ?_
    refine e_xcallV (rest := []) hC hl hH hS (co_rank l hfl κ γ y2 y3) tw_361 tw_362 tw_363 tw_38 tw_364 hd_X7_rank ⟨Nat.le_of_ble_eq_true rfl, Nat.le_of_ble_eq_true rfl⟩ rfl rfl rfl rfl (Nat.le_of_ble_eq_true rfl) dL_call_264 ⟨Nat.le_of_ble_eq_true rfl, Nat.le_of_ble_eq_true rfl⟩ rfl (fun he ce q9 H locs hH hS hce hcv hcl => ?_) (fun he H locs hH hS => ?_)
    · subst hq
      exact call_x hC htab hr hl (by decide) hH hS he hce hcv hcl (cE_x he) (Nat.le_of_ble_eq_true rfl) (Nat.le_of_ble_eq_true rfl)
    · subst hq
      refine W.eq (g2 := F0 m 267 ls [.int (cE (x_X7_rank y2 y3 γ).1 ((x_X7_rank y2 y3 γ).2.1))]) (by rw [cE_0 he]; rfl) ?_
      exact call_r hC hr hH hS dL_call_267 (by decide) (Nat.le_of_ble_eq_true rfl) (Nat.le_of_ble_eq_true rfl)
  have hq := ifne hq cc17
  refine lv_aload_n hx hb dL_call_270 rfl (lv_at hl 0 rfl) ?_
  refine lv_iload_n hx hb dL_call_271 rfl (lv_at hl 2 rfl) ?_
  refine lv_iload_n hx hb dL_call_272 rfl (lv_at hl 3 rfl) ?_
  refine lv_iload hx hb dL_call_273 (lv_at hl 4 rfl) ?_
  refine e_xcallV (rest := []) hC hl hH hS (co_meets l hfl κ γ y2 y3 y4) tw_396 tw_397 tw_398 tw_38 tw_399 hd_X7_meets ⟨Nat.le_of_ble_eq_true rfl, Nat.le_of_ble_eq_true rfl⟩ rfl rfl rfl rfl (Nat.le_of_ble_eq_true rfl) dL_call_275 ⟨Nat.le_of_ble_eq_true rfl, Nat.le_of_ble_eq_true rfl⟩ rfl (fun he ce q9 H locs hH hS hce hcv hcl => ?_) (fun he H locs hH hS => ?_)
  · subst hq
    exact call_x hC htab hr hl (by decide) hH hS he hce hcv hcl (cE_x he) (Nat.le_of_ble_eq_true rfl) (Nat.le_of_ble_eq_true rfl)
  · subst hq
    refine W.eq (g2 := F0 m 278 ls [.int (cE (x_X7_meets y2 y3 y4 γ).1 ((x_X7_meets y2 y3 y4 γ).2.1))]) (by rw [cE_0 he]; rfl) ?_
    exact W.widen (Nat.le_of_ble_eq_true rfl) (Nat.le_of_ble_eq_true rfl) (vx_ret (W.iret hx hb hr (fun t ht _ => ⟨rfl, rfl, by rw [ht]; exact hH, hS.F ht⟩) hS.2.2 dL_call_278 hlk))
