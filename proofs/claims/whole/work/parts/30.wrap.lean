def wG (r : Nat × Int32 × St) : St := if r.1 = 0 then sL r.2.2 41 0 r.2.1.toInt64 else r.2.2
def wK (a b c : Int32) (e : Nat) : Int32 := if e = 0 then 0 else if e = 1 then a else if e = 2 then b else c
theorem vp01 : vp_in 0 1 := by unfold vp_in; decide
def eIn (a b c : Int32) (e : Nat) : Prop := e = 0 ∨ (e = 1 ∧ a ≠ 0) ∨ (e = 2 ∧ b ≠ 0) ∨ (e = 3 ∧ c ≠ 0)
theorem CX.ke {κ κ' : KP} {cc : ByteArray} {own : String} {nL : Nat} {p : Program} {l : Launch} {s : State} {m : MethodId} {args : Array Value} {meth : Method} {c : Code} (h : KE κ κ') (C0 : CX κ cc own nL p l s m args meth c) : CX κ' cc own nL p l s m args meth c := by
  obtain ⟨h1, h2, h3, -⟩ := h
  unfold CX at C0 ⊢
  have e1 : tysK κ' = tysK κ := by unfold tysK; rw [h2]
  rw [h1, e1, h3]
  exact C0
section HRL
variable {p : Program} {l : Launch} {e : Env} {R : Room} {s : State} {m : MethodId} {args : Array Value} {below : List Frame} {meth : Method} {c : Code} {H : Heap} {locs : List Loc} {cells slots : Nat} {Q : State → Prop}
variable {cc : ByteArray} {pc : Nat} {ls : Array Slot} {rest : List Value} {κ : KP} {γ : St} {own : String} {nL : Nat}
theorem kxcallE {mc ms n nb np : Nat} {st0 st' : List Value} {v : Option Value} {γ' : St} {a : Array Value} (hr : vx_Run p l e R s m args below meth c H locs cells slots mc ms (F0 m pc ls st0) rest (QE κ γ' n v nb np a) (XX κ γ' n) (AA κ)) (hS : va_S (AA κ) s.heap H locs) (hst : v.toList ++ rest = st')
    (kx : n ≠ 0 → ∀ (ce : Cell) (q9 : Addr) (H : Heap) (locs : List Loc), HR κ γ' H → va_S (AA κ) s.heap H locs → H[q9]? = some ce → ce.vm = .none → s.vm.findClass (eNm n) = some ce.cls → vx_W p l e R s m args below meth c H locs (cells + mc) (slots + ms) Q (F0 m pc ls rest) q9)
    (kk : n = 0 → ∀ (κ' : KP) (H : Heap) (locs : List Loc), KE κ κ' → kN κ' = nb → kO κ' = np → HR κ' γ' H → va_S (AA κ) s.heap H locs → W p l e R s m args below meth c H locs (cells + mc) (slots + ms) Q (F0 m (pc + 3) ls st')) : W p l e R s m args below meth c H locs cells slots Q (F0 m pc ls st0) := by
  subst hst
  intro T hT X
  rcases hr T hT X with ⟨v', st₀, t, T', L, h0, X', hL, e1, e2, ⟨hn, hv, ⟨κ', hke, hnb, hnp, hh⟩, hF⟩, st⟩ | ⟨q, st₀, t, T', L, E, ce, h0, X', hL, e1, e2, ⟨hn, rfl, hh, hF⟩, hce, hcv, hcl, st⟩
  · cases hv
    obtain ⟨k1, k2, k3⟩ := vx_keep h0 e1 hS (fun q _ h => h) (fun q h => h) hL hF
    obtain ⟨t2, a1, b1⟩ := kk hn κ' T'.heap (locs ++ L) hke hnb hnp (by rw [e1]; exact hh) k3 T' rfl X'
    exact ⟨t2, st t2 a1, b1⟩
  · obtain ⟨k1, k2, k3⟩ := vx_keep h0 e1 hS (fun q _ h => h) (fun q h => h) hL hF
    obtain ⟨t2, a1, b1⟩ := kx hn ce q T'.heap (locs ++ L) (by rw [e1]; exact hh) k3 (by rw [e1]; exact hce) hcv hcl T' rfl X'
    exact ⟨t2, st.trans a1, b1⟩
theorem k_xcallVE (C0 : CX κ cc own nL p l s m args meth c) {lvs : List (Nat × Value)} (hl : lv_has ls nL lvs) (hH : HR κ γ H) (hS : va_S (AA κ) s.heap H locs) {y : MethodName} {bytes : ByteArray} {maxL : Nat} {ret : Option FieldType} {rm : Room} {index : Nat} {C : String} {T : u_T} {N ci n k mc ms en nb np : Nat} {fs As st0 st' : List Value} {γ' : St} {v : Option Value}
    (hM : vx_Met l y [.code y bytes maxL ret] rm (va_Pc (.ref (kA κ ci n) :: As) (GG κ γ)) (QE κ γ' en v nb np) (XX κ γ' en) mc ms (AA κ)) (hv : lv κ ci n) (he : cel κ γ ci n = .inr (ci, fs)) (hc : vwCl[ci]? = some (C, T, N))
    (w1 : Cond.methodLink own index y ∈ TW) (w2 : Cond.instanceMethod y ∈ TW) (w3 : Cond.selects C y y ∈ TW) (w4 : Cond.initialized C ∈ TW) (w5 : Cond.code y bytes maxL ret ∈ TW)
    (hd : y.cls = C ∧ y.cls ≠ "java/lang/invoke/MethodHandle" ∧ y.cls ≠ "java/lang/invoke/VarHandle" ∧ (parseMethodDescriptor y.desc).map (fun d => d.parameters.length) = some k) (hR : rm.frames + 1 ≤ R.frames ∧ 8 + (maxL + 11) + rm.locals ≤ R.locals) (hrc : rm.cells = mc) (hrs : rm.slots = ms) (hn : As.length = k)
    (hst0 : st0 = As.reverse ++ .ref (kA κ ci n) :: rest) (hcat : (rest.map fun v => v.category).sum ≤ 8) (hdg : decode cc pc = .ok (.invokevirtual index, 3)) (hf : cells + mc ≤ R.cells ∧ slots + ms ≤ R.slots) (hst : v.toList ++ rest = st')
    (kx : en ≠ 0 → ∀ (ce : Cell) (q9 : Addr) (H : Heap) (locs : List Loc), HR κ γ' H → va_S (AA κ) s.heap H locs → H[q9]? = some ce → ce.vm = .none → s.vm.findClass (eNm en) = some ce.cls → vx_W p l e R s m args below meth c H locs (cells + mc) (slots + ms) Q (F0 m pc ls rest) q9)
    (kk : en = 0 → ∀ (κ' : KP) (H : Heap) (locs : List Loc), KE κ κ' → kN κ' = nb → kO κ' = np → HR κ' γ' H → va_S (AA κ) s.heap H locs → W p l e R s m args below meth c H locs (cells + mc) (slots + ms) Q (F0 m (pc + 3) ls st')) : W p l e R s m args below meth c H locs cells slots Q (F0 m pc ls st0) := by
  obtain ⟨hx, hb, hown, hT, hK, hX, hZ, hB, hml, hlk⟩ := id C0
  exact kxcallE (vx_runV (As := As) (rest := rest) ⟨hx, hb, hml, hown, hT⟩ hM (cwV k hT (gi5 w1 w2 w3 w4 w5) rfl hrc hrs hd hR) ⟨GG.blind, hp_recv C0 hH hv he hc, fun U hU hW => ⟨rfl, gg_of C0 hH hS hU hW⟩⟩ rfl hn hl.1 hst0 (lv_room hcat) hdg hf) hS hst kx kk
/-- a call of one of the law's helpers -/
theorem k_xcallW (C0 : CX κ cc own nL p l s m args meth c) {lvs : List (Nat × Value)} (hl : lv_has ls nL lvs) (hH : HR κ γ H) (hS : va_S (AA κ) s.heap H locs) {y : MethodName} {bytes : ByteArray} {maxL : Nat} {ret : Option FieldType} {hh : List (Nat × Nat × Nat × Nat)} {rm : Room} {index k mc ms nb np : Nat} {As st0 st' : List Value} {γ' : St} {v : Option Value}
    (hM : vx_Met l y [.codeWith y bytes maxL ret hh] rm (va_Pc As (GG κ γ)) (QE κ γ' 0 v nb np) (XX κ γ' 0) mc ms (AA κ))
    (w1 : Cond.methodLink own index y ∈ TW) (w2 : Cond.static y ∈ TW) (w4 : Cond.initialized y.cls ∈ TW) (w5 : Cond.codeWith y bytes maxL ret hh ∈ TW)
    (hd : y.cls ≠ "java/lang/invoke/MethodHandle" ∧ y.cls ≠ "java/lang/invoke/VarHandle" ∧ (parseMethodDescriptor y.desc).map (fun d => d.parameters.length) = some k) (hR : rm.frames + 1 ≤ R.frames ∧ 8 + (maxL + 11) + rm.locals ≤ R.locals) (hrc : rm.cells = mc) (hrs : rm.slots = ms) (hn : As.length = k)
    (hst0 : st0 = As.reverse ++ rest) (hcat : (rest.map fun v => v.category).sum ≤ 8) (hdg : decode cc pc = .ok (.invokestatic index, 3)) (hf : cells + mc ≤ R.cells ∧ slots + ms ≤ R.slots) (hst : v.toList ++ rest = st')
    (kk : ∀ (κ' : KP) (H : Heap) (locs : List Loc), KE κ κ' → kN κ' = nb → kO κ' = np → HR κ' γ' H → va_S (AA κ) s.heap H locs → W p l e R s m args below meth c H locs (cells + mc) (slots + ms) Q (F0 m (pc + 3) ls st')) : W p l e R s m args below meth c H locs cells slots Q (F0 m pc ls st0) := by
  obtain ⟨hx, hb, hown, hT, hK, hX, hZ, hB, hml, hlk⟩ := id C0
  exact kxcallE (vx_runSX (As := As) (rest := rest) ⟨hx, hb, hml, hown, hT⟩ hM (vx_cwSW k hT (gi4 w1 w2 w4 w5) rfl hrc hrs hd hR) ⟨GG.blind, fun U hU hW => ⟨rfl, gg_of C0 hH hS hU hW⟩⟩ rfl hn hl.1 hst0 (lv_room hcat) hdg hf) hS hst (fun h => absurd rfl h) (fun _ => kk)
theorem nc_in {a b : String} (U : State) (hX : XT U) (i : Nat) (h : NC[i]? = some (a, b)) : va_Nc a b U := hX.2.2.2 _ (List.mem_of_getElem? h)
/-- an end of a helper: its answer, the state behind it -/
theorem kw_end {v x : Int32} {γ' : St} {κ' : KP} {nb np mc ms : Nat} (hx : p.tables.exec = Jvm.exec) (hb : c.code = cc) (hlk : meth.locks = false) (hr : meth.sig.returnType = some .int) (hke : KE κ κ') (hnb : kN κ' = nb) (hnp : kO κ' = np) (hH : HR κ' γ H) (hS : va_S (AA κ) s.heap H locs) (hg : γ = γ') (hv : x = v) (h1 : cells ≤ mc) (h2 : slots ≤ ms) (hdg : decode cc pc = .ok (.ireturn, 1)) :
    W p l e R s m args below meth c H locs cells slots (vx_MQ below (QE κ γ' 0 (some (.int v)) nb np) (XX κ γ' 0) args s mc ms (AA κ)) (F0 m pc ls [.int x]) := by
  subst hg; subst hv
  exact W.widen h1 h2 (vx_ret (W.iret hx hb hr (fun t ht _ => ⟨rfl, rfl, ⟨κ', hke, hnb, hnp, by rw [ht]; exact hH⟩, hS.F ht⟩) hS.2.2 hdg hlk))
theorem KE.rf {κ : KP} : KE κ κ := ⟨rfl, rfl, rfl, fun _ _ h => ⟨h, rfl⟩⟩
end HRL

set_option maxRecDepth 20000 in
set_option maxHeartbeats 4000000 in
theorem cw_fencer (l : Launch) (hfl : l.stackTraces = false) (κ : KP) (γ : St) (hE : eIn 1 0 0 (x_X7_fencer γ).1) : vx_Met l yL_fencer [Cond.codeWith yL_fencer cL_fencer 3 (some .int) [(0, 8, 11, 13)]] ({ frames := 7, cells := 1, slots := 6, locals := 111 } : Room) (va_Pc [.ref (kA κ 7 0), .ref (kA κ 41 0)] (GG κ γ)) (QE κ (wG (x_X7_fencer γ)) 0 (some (.int (wK 1 0 0 (x_X7_fencer γ).1))) (kN κ) (kO κ)) (XX κ (wG (x_X7_fencer γ)) 0) 1 6 (AA κ) := by
  refine vx_ofWH (cc := cL_fencer) (maxL := 3) (ret := (some .int)) (hh := [(0, 8, 11, 13)]) (by decide) rfl ?_
  intro p e s m args below meth c s₁ B hml9 hv
  obtain ⟨rfl, hH, hK9, hB9, hX9, hZ9⟩ := hv
  have hC : CX κ cL_fencer "PhrasehallLaw" 3 p l s m ([.ref (kA κ 7 0), .ref (kA κ 41 0)] : List Value).toArray meth c := ⟨B.exec, B.bytes, findClass_of_methodNamed B.named, fun w hw => tw_use (List.mem_filter.mp hw).2 (State.WarmedH.refl s) (hX9.1 w hw), hK9, hX9, hZ9, hB9, hml9, B.notSynchronized⟩
  obtain ⟨hx, hb, hown, hT, -, -, -, -, hml, hlk⟩ := id hC
  have htab : c.exceptionTable.toList = tableOf [(0, 8, 11, 13)] := vx_table (x := yL_fencer) B (hT _ tw_236)
  have hr := B.returns
  have hS : va_S (AA κ) s.heap s.heap [] := va_S.rf
  have hl := lv_entry ([.ref (kA κ 7 0), .ref (kA κ 41 0)]) (n := 3) (Nat.le_of_ble_eq_true rfl)
  rw [lg_entry_eq]
  generalize (lg_sl ([.ref (kA κ 7 0), .ref (kA κ 41 0)]) ++ List.replicate (3 - (lg_sl ([.ref (kA κ 7 0), .ref (kA κ 41 0)])).length) Slot.unset).toArray = ls at hl ⊢
  have hl : lv_has ls 3 [(0, .ref (kA κ 7 0)), (1, .ref (kA κ 41 0))] := hl
  refine lv_aload_n hx hb dL_fencer_0 rfl (lv_at hl 1 rfl) ?_
  refine lv_iconst (v := 0) hx hb dL_fencer_1 (by decide) ?_
  refine lv_aload_n hx hb dL_fencer_2 rfl (lv_at hl 0 rfl) ?_
  refine k_xcallV (C := RX7) (T := TX7) (N := 10) (rest := [.int 0, .ref (kA κ 41 0)]) hC hl hH hS (c_X7_fencer l hfl κ γ) lv_7 rfl rfl tw_238 tw_239 tw_240 tw_57 tw_241 hd_X7_fencer ⟨Nat.le_of_ble_eq_true rfl, Nat.le_of_ble_eq_true rfl⟩ rfl rfl rfl rfl (Nat.le_of_ble_eq_true rfl) dL_fencer_3 ⟨Nat.le_of_ble_eq_true rfl, Nat.le_of_ble_eq_true rfl⟩ rfl (fun he ce q9 H locs hH hS hce hcv hcl => ?_) (fun he H locs hH hS => ?_)
  · rcases hE with h0 | ⟨h1, hn1⟩ | ⟨h1, hn1⟩ | ⟨h1, hn1⟩
    · exact absurd h0 he
    · have e1 : eNm (x_X7_fencer γ).1 = "java/lang/IllegalStateException" := by rw [h1]; rfl
      rw [e1] at hcl
      refine vx_catch (own := "PhrasehallLaw") (name := "java/lang/IllegalStateException") (E := "java/lang/IllegalStateException") hown [] ⟨0, 8, 11, 13⟩ [] htab (fun z hz => (nomatch hz)) rfl (by decide) (hT _ tw_237) (nw_use rfl (hX9.2.1 _ nw_244)) hce hcv hcl ?_
      refine lv_astore_n (lv' := [(2, .ref q9), (0, .ref (kA κ 7 0)), (1, .ref (kA κ 41 0))]) hx hb dL_fencer_11 rfl hl (by decide) rfl (fun ls hl => ?_)
      refine lv_iconst (v := 1) hx hb dL_fencer_12 (by decide) ?_
      exact kw_end hx hb hlk hr KE.rf rfl rfl hH hS (by unfold wG; rw [if_neg (by rw [h1]; decide)]) (by rw [h1]; rfl) (Nat.le_of_ble_eq_true rfl) (Nat.le_of_ble_eq_true rfl) dL_fencer_13
    · exact absurd rfl hn1
    · exact absurd rfl hn1
  · refine lv_i2l (v := (x_X7_fencer γ).2.1.toInt64) hx hb dL_fencer_6 rfl ?_
    refine hp_lst hC hH lv_41 lv_u41 (fun _ => rfl) hS vp01 dL_fencer_7 (fun H locs hH hS => ?_)
    refine lv_goto (tgt := 14) hx hb dL_fencer_8 (by decide) ?_
    refine lv_iconst (v := 0) hx hb dL_fencer_14 (by decide) ?_
    exact kw_end hx hb hlk hr KE.rf rfl rfl hH hS (by unfold wG; rw [if_pos he]; rfl) (by unfold wK; rw [if_pos he]) (Nat.le_of_ble_eq_true rfl) (Nat.le_of_ble_eq_true rfl) dL_fencer_15
set_option maxRecDepth 20000 in
set_option maxHeartbeats 4000000 in
theorem cw_begin (l : Launch) (hfl : l.stackTraces = false) (κ : KP) (γ : St) (y1 : Int32) (y2 : Int32) (y3 : Int32) (y4 : Int32) (y5 : Int32) (hnb : kN κ = (gV γ 7 0 6).toNatClampNeg) (hk : ok_X7_begin y1 y2 y3 y4 y5 γ) (hE : eIn 3 2 1 (x_X7_begin y1 y2 y3 y4 y5 γ).1) : vx_Met l yL_begin [Cond.codeWith yL_begin cL_begin 8 (some .int) [(0, 16, 19, 19), (0, 16, 23, 21), (0, 16, 27, 13)]] ({ frames := 7, cells := 3, slots := 18, locals := 116 } : Room) (va_Pc [.ref (kA κ 7 0), .int y1, .int y2, .int y3, .int y4, .int y5, .ref (kA κ 41 0)] (GG κ γ)) (QE κ (wG (x_X7_begin y1 y2 y3 y4 y5 γ)) 0 (some (.int (wK 3 2 1 (x_X7_begin y1 y2 y3 y4 y5 γ).1))) (if (x_X7_begin y1 y2 y3 y4 y5 γ).1 = 0 then kN κ + 1 else kN κ) (kO κ)) (XX κ (wG (x_X7_begin y1 y2 y3 y4 y5 γ)) 0) 3 18 (AA κ) := by
  refine vx_ofWH (cc := cL_begin) (maxL := 8) (ret := (some .int)) (hh := [(0, 16, 19, 19), (0, 16, 23, 21), (0, 16, 27, 13)]) (by decide) rfl ?_
  intro p e s m args below meth c s₁ B hml9 hv
  obtain ⟨rfl, hH, hK9, hB9, hX9, hZ9⟩ := hv
  have hC : CX κ cL_begin "PhrasehallLaw" 8 p l s m ([.ref (kA κ 7 0), .int y1, .int y2, .int y3, .int y4, .int y5, .ref (kA κ 41 0)] : List Value).toArray meth c := ⟨B.exec, B.bytes, findClass_of_methodNamed B.named, fun w hw => tw_use (List.mem_filter.mp hw).2 (State.WarmedH.refl s) (hX9.1 w hw), hK9, hX9, hZ9, hB9, hml9, B.notSynchronized⟩
  obtain ⟨hx, hb, hown, hT, -, -, -, -, hml, hlk⟩ := id hC
  have htab : c.exceptionTable.toList = tableOf [(0, 16, 19, 19), (0, 16, 23, 21), (0, 16, 27, 13)] := vx_table (x := yL_begin) B (hT _ tw_312)
  have hr := B.returns
  have hS : va_S (AA κ) s.heap s.heap [] := va_S.rf
  have hl := lv_entry ([.ref (kA κ 7 0), .int y1, .int y2, .int y3, .int y4, .int y5, .ref (kA κ 41 0)]) (n := 8) (Nat.le_of_ble_eq_true rfl)
  rw [lg_entry_eq]
  generalize (lg_sl ([.ref (kA κ 7 0), .int y1, .int y2, .int y3, .int y4, .int y5, .ref (kA κ 41 0)]) ++ List.replicate (8 - (lg_sl ([.ref (kA κ 7 0), .int y1, .int y2, .int y3, .int y4, .int y5, .ref (kA κ 41 0)])).length) Slot.unset).toArray = ls at hl ⊢
  have hl : lv_has ls 8 [(0, .ref (kA κ 7 0)), (1, .int y1), (2, .int y2), (3, .int y3), (4, .int y4), (5, .int y5), (6, .ref (kA κ 41 0))] := hl
  refine lv_aload hx hb dL_begin_0 (lv_at hl 6 rfl) ?_
  refine lv_iconst (v := 0) hx hb dL_begin_2 (by decide) ?_
  refine lv_aload_n hx hb dL_begin_3 rfl (lv_at hl 0 rfl) ?_
  refine lv_iload_n hx hb dL_begin_4 rfl (lv_at hl 1 rfl) ?_
  refine lv_iload_n hx hb dL_begin_5 rfl (lv_at hl 2 rfl) ?_
  refine lv_iload_n hx hb dL_begin_6 rfl (lv_at hl 3 rfl) ?_
  refine lv_iload hx hb dL_begin_7 (lv_at hl 4 rfl) ?_
  refine lv_iload hx hb dL_begin_9 (lv_at hl 5 rfl) ?_
  refine k_xcallVE (C := RX7) (T := TX7) (N := 10) (rest := [.int 0, .ref (kA κ 41 0)]) hC hl hH hS (c_X7_begin l hfl κ γ y1 y2 y3 y4 y5 hnb hk) lv_7 rfl rfl tw_315 tw_316 tw_317 tw_57 tw_318 hd_X7_begin ⟨Nat.le_of_ble_eq_true rfl, Nat.le_of_ble_eq_true rfl⟩ rfl rfl rfl rfl (Nat.le_of_ble_eq_true rfl) dL_begin_11 ⟨Nat.le_of_ble_eq_true rfl, Nat.le_of_ble_eq_true rfl⟩ rfl (fun he ce q9 H locs hH hS hce hcv hcl => ?_) (fun he κ9 H locs hke hnb9 hnp9 hH hS => ?_)
  · rcases hE with h0 | ⟨h1, hn1⟩ | ⟨h1, hn1⟩ | ⟨h1, hn1⟩
    · exact absurd h0 he
    · have e1 : eNm (x_X7_begin y1 y2 y3 y4 y5 γ).1 = "java/lang/IllegalStateException" := by rw [h1]; rfl
      rw [e1] at hcl
      refine vx_catch (own := "PhrasehallLaw") (name := "java/lang/IllegalStateException") (E := "java/lang/IllegalStateException") hown [⟨0, 16, 19, 19⟩, ⟨0, 16, 23, 21⟩] ⟨0, 16, 27, 13⟩ [] htab (fun z hz => by
        rcases List.mem_cons.mp hz with rfl | hz
        · exact Or.inr ⟨by decide, _, hT _ tw_313, nc_in s hX9 1 rfl⟩
        · rw [List.mem_singleton.mp hz]; exact Or.inr ⟨by decide, _, hT _ tw_314, nc_in s hX9 0 rfl⟩) rfl (by decide) (hT _ tw_237) (nw_use rfl (hX9.2.1 _ nw_244)) hce hcv hcl ?_
      refine lv_astore (lv' := [(7, .ref q9), (0, .ref (kA κ 7 0)), (1, .int y1), (2, .int y2), (3, .int y3), (4, .int y4), (5, .int y5), (6, .ref (kA κ 41 0))]) hx hb dL_begin_27 hl (by decide) rfl (fun ls hl => ?_)
      refine lv_iconst (v := 3) hx hb dL_begin_29 (by decide) ?_
      exact kw_end hx hb hlk hr KE.rf (by rw [if_neg (by rw [h1]; decide)]) rfl hH hS (by unfold wG; rw [if_neg (by rw [h1]; decide)]) (by rw [h1]; rfl) (Nat.le_of_ble_eq_true rfl) (Nat.le_of_ble_eq_true rfl) dL_begin_30
    · have e1 : eNm (x_X7_begin y1 y2 y3 y4 y5 γ).1 = "java/lang/IllegalArgumentException" := by rw [h1]; rfl
      rw [e1] at hcl
      refine vx_catch (own := "PhrasehallLaw") (name := "java/lang/IllegalArgumentException") (E := "java/lang/IllegalArgumentException") hown [⟨0, 16, 19, 19⟩] ⟨0, 16, 23, 21⟩ [⟨0, 16, 27, 13⟩] htab (fun z hz => by rw [List.mem_singleton.mp hz]; exact Or.inr ⟨by decide, _, hT _ tw_313, nc_in s hX9 2 rfl⟩) rfl (by decide) (hT _ tw_314) (nw_use rfl (hX9.2.1 _ nw_348)) hce hcv hcl ?_
      refine lv_astore (lv' := [(7, .ref q9), (0, .ref (kA κ 7 0)), (1, .int y1), (2, .int y2), (3, .int y3), (4, .int y4), (5, .int y5), (6, .ref (kA κ 41 0))]) hx hb dL_begin_23 hl (by decide) rfl (fun ls hl => ?_)
      refine lv_iconst (v := 2) hx hb dL_begin_25 (by decide) ?_
      exact kw_end hx hb hlk hr KE.rf (by rw [if_neg (by rw [h1]; decide)]) rfl hH hS (by unfold wG; rw [if_neg (by rw [h1]; decide)]) (by rw [h1]; rfl) (Nat.le_of_ble_eq_true rfl) (Nat.le_of_ble_eq_true rfl) dL_begin_26
    · have e1 : eNm (x_X7_begin y1 y2 y3 y4 y5 γ).1 = "java/lang/IndexOutOfBoundsException" := by rw [h1]; rfl
      rw [e1] at hcl
      refine vx_catch (own := "PhrasehallLaw") (name := "java/lang/IndexOutOfBoundsException") (E := "java/lang/IndexOutOfBoundsException") hown [] ⟨0, 16, 19, 19⟩ [⟨0, 16, 23, 21⟩, ⟨0, 16, 27, 13⟩] htab (fun z hz => (nomatch hz)) rfl (by decide) (hT _ tw_313) (nw_use rfl (hX9.2.1 _ nw_329)) hce hcv hcl ?_
      refine lv_astore (lv' := [(7, .ref q9), (0, .ref (kA κ 7 0)), (1, .int y1), (2, .int y2), (3, .int y3), (4, .int y4), (5, .int y5), (6, .ref (kA κ 41 0))]) hx hb dL_begin_19 hl (by decide) rfl (fun ls hl => ?_)
      refine lv_iconst (v := 1) hx hb dL_begin_21 (by decide) ?_
      exact kw_end hx hb hlk hr KE.rf (by rw [if_neg (by rw [h1]; decide)]) rfl hH hS (by unfold wG; rw [if_neg (by rw [h1]; decide)]) (by rw [h1]; rfl) (Nat.le_of_ble_eq_true rfl) (Nat.le_of_ble_eq_true rfl) dL_begin_22
  · have hC9 := hC.ke hke
    have eAA : AA κ9 = AA κ := by have h3 := hke.2.2.1; unfold AA; rw [h3]
    have e41 : kA κ9 41 0 = kA κ 41 0 := (hke.2.2.2 41 0 lv_41).2
    refine lv_i2l (v := (x_X7_begin y1 y2 y3 y4 y5 γ).2.1.toInt64) hx hb dL_begin_14 rfl ?_
    rw [← eAA] at hS
    refine W.eq (g2 := F0 m 15 ls [.long (x_X7_begin y1 y2 y3 y4 y5 γ).2.1.toInt64, .int 0, .ref (kA κ9 41 0)]) (by rw [e41]; rfl) ?_
    refine hp_lst hC9 hH lv_41 lv_u41 (fun _ => rfl) hS vp01 dL_begin_15 (fun H locs hH hS => ?_)
    rw [eAA] at hS
    refine lv_goto (tgt := 31) hx hb dL_begin_16 (by decide) ?_
    refine lv_iconst (v := 0) hx hb dL_begin_31 (by decide) ?_
    exact kw_end hx hb hlk hr hke (by rw [if_pos he]; exact hnb9) hnp9 hH hS (by unfold wG; rw [if_pos he]; rfl) (by unfold wK; rw [if_pos he]) (Nat.le_of_ble_eq_true rfl) (Nat.le_of_ble_eq_true rfl) dL_begin_32
set_option maxRecDepth 20000 in
set_option maxHeartbeats 4000000 in
theorem cw_act (l : Launch) (hfl : l.stackTraces = false) (κ : KP) (γ : St) (y1 : Int32) (y2 : Int32) (y3 : Int32) (hk : ok_X7_act y1 y2 y3 γ) (hE : eIn 2 1 0 (x_X7_act y1 y2 y3 γ).1) : vx_Met l yL_act [Cond.codeWith yL_act cL_act 6 (some .int) [(0, 12, 15, 21), (0, 12, 19, 13)]] ({ frames := 8, cells := 1, slots := 6, locals := 134 } : Room) (va_Pc [.ref (kA κ 7 0), .int y1, .int y2, .int y3, .ref (kA κ 41 0)] (GG κ γ)) (QE κ (wG (x_X7_act y1 y2 y3 γ)) 0 (some (.int (wK 2 1 0 (x_X7_act y1 y2 y3 γ).1))) (kN κ) (kO κ)) (XX κ (wG (x_X7_act y1 y2 y3 γ)) 0) 1 6 (AA κ) := by
  refine vx_ofWH (cc := cL_act) (maxL := 6) (ret := (some .int)) (hh := [(0, 12, 15, 21), (0, 12, 19, 13)]) (by decide) rfl ?_
  intro p e s m args below meth c s₁ B hml9 hv
  obtain ⟨rfl, hH, hK9, hB9, hX9, hZ9⟩ := hv
  have hC : CX κ cL_act "PhrasehallLaw" 6 p l s m ([.ref (kA κ 7 0), .int y1, .int y2, .int y3, .ref (kA κ 41 0)] : List Value).toArray meth c := ⟨B.exec, B.bytes, findClass_of_methodNamed B.named, fun w hw => tw_use (List.mem_filter.mp hw).2 (State.WarmedH.refl s) (hX9.1 w hw), hK9, hX9, hZ9, hB9, hml9, B.notSynchronized⟩
  obtain ⟨hx, hb, hown, hT, -, -, -, -, hml, hlk⟩ := id hC
  have htab : c.exceptionTable.toList = tableOf [(0, 12, 15, 21), (0, 12, 19, 13)] := vx_table (x := yL_act) B (hT _ tw_446)
  have hr := B.returns
  have hS : va_S (AA κ) s.heap s.heap [] := va_S.rf
  have hl := lv_entry ([.ref (kA κ 7 0), .int y1, .int y2, .int y3, .ref (kA κ 41 0)]) (n := 6) (Nat.le_of_ble_eq_true rfl)
  rw [lg_entry_eq]
  generalize (lg_sl ([.ref (kA κ 7 0), .int y1, .int y2, .int y3, .ref (kA κ 41 0)]) ++ List.replicate (6 - (lg_sl ([.ref (kA κ 7 0), .int y1, .int y2, .int y3, .ref (kA κ 41 0)])).length) Slot.unset).toArray = ls at hl ⊢
  have hl : lv_has ls 6 [(0, .ref (kA κ 7 0)), (1, .int y1), (2, .int y2), (3, .int y3), (4, .ref (kA κ 41 0))] := hl
  refine lv_aload hx hb dL_act_0 (lv_at hl 4 rfl) ?_
  refine lv_iconst (v := 0) hx hb dL_act_2 (by decide) ?_
  refine lv_aload_n hx hb dL_act_3 rfl (lv_at hl 0 rfl) ?_
  refine lv_iload_n hx hb dL_act_4 rfl (lv_at hl 1 rfl) ?_
  refine lv_iload_n hx hb dL_act_5 rfl (lv_at hl 2 rfl) ?_
  refine lv_iload_n hx hb dL_act_6 rfl (lv_at hl 3 rfl) ?_
  refine k_xcallV (C := RX7) (T := TX7) (N := 10) (rest := [.int 0, .ref (kA κ 41 0)]) hC hl hH hS (c_X7_act l hfl κ γ y1 y2 y3 hk) lv_7 rfl rfl tw_447 tw_448 tw_449 tw_57 tw_450 hd_X7_act ⟨Nat.le_of_ble_eq_true rfl, Nat.le_of_ble_eq_true rfl⟩ rfl rfl rfl rfl (Nat.le_of_ble_eq_true rfl) dL_act_7 ⟨Nat.le_of_ble_eq_true rfl, Nat.le_of_ble_eq_true rfl⟩ rfl (fun he ce q9 H locs hH hS hce hcv hcl => ?_) (fun he H locs hH hS => ?_)
  · rcases hE with h0 | ⟨h1, hn1⟩ | ⟨h1, hn1⟩ | ⟨h1, hn1⟩
    · exact absurd h0 he
    · have e1 : eNm (x_X7_act y1 y2 y3 γ).1 = "java/lang/IllegalStateException" := by rw [h1]; rfl
      rw [e1] at hcl
      refine vx_catch (own := "PhrasehallLaw") (name := "java/lang/IllegalStateException") (E := "java/lang/IllegalStateException") hown [⟨0, 12, 15, 21⟩] ⟨0, 12, 19, 13⟩ [] htab (fun z hz => by rw [List.mem_singleton.mp hz]; exact Or.inr ⟨by decide, _, hT _ tw_314, nc_in s hX9 0 rfl⟩) rfl (by decide) (hT _ tw_237) (nw_use rfl (hX9.2.1 _ nw_244)) hce hcv hcl ?_
      refine lv_astore (lv' := [(5, .ref q9), (0, .ref (kA κ 7 0)), (1, .int y1), (2, .int y2), (3, .int y3), (4, .ref (kA κ 41 0))]) hx hb dL_act_19 hl (by decide) rfl (fun ls hl => ?_)
      refine lv_iconst (v := 2) hx hb dL_act_21 (by decide) ?_
      exact kw_end hx hb hlk hr KE.rf rfl rfl hH hS (by unfold wG; rw [if_neg (by rw [h1]; decide)]) (by rw [h1]; rfl) (Nat.le_of_ble_eq_true rfl) (Nat.le_of_ble_eq_true rfl) dL_act_22
    · have e1 : eNm (x_X7_act y1 y2 y3 γ).1 = "java/lang/IllegalArgumentException" := by rw [h1]; rfl
      rw [e1] at hcl
      refine vx_catch (own := "PhrasehallLaw") (name := "java/lang/IllegalArgumentException") (E := "java/lang/IllegalArgumentException") hown [] ⟨0, 12, 15, 21⟩ [⟨0, 12, 19, 13⟩] htab (fun z hz => (nomatch hz)) rfl (by decide) (hT _ tw_314) (nw_use rfl (hX9.2.1 _ nw_348)) hce hcv hcl ?_
      refine lv_astore (lv' := [(5, .ref q9), (0, .ref (kA κ 7 0)), (1, .int y1), (2, .int y2), (3, .int y3), (4, .ref (kA κ 41 0))]) hx hb dL_act_15 hl (by decide) rfl (fun ls hl => ?_)
      refine lv_iconst (v := 1) hx hb dL_act_17 (by decide) ?_
      exact kw_end hx hb hlk hr KE.rf rfl rfl hH hS (by unfold wG; rw [if_neg (by rw [h1]; decide)]) (by rw [h1]; rfl) (Nat.le_of_ble_eq_true rfl) (Nat.le_of_ble_eq_true rfl) dL_act_18
    · exact absurd rfl hn1
  · refine lv_i2l (v := (x_X7_act y1 y2 y3 γ).2.1.toInt64) hx hb dL_act_10 rfl ?_
    refine hp_lst hC hH lv_41 lv_u41 (fun _ => rfl) hS vp01 dL_act_11 (fun H locs hH hS => ?_)
    refine lv_goto (tgt := 23) hx hb dL_act_12 (by decide) ?_
    refine lv_iconst (v := 0) hx hb dL_act_23 (by decide) ?_
    exact kw_end hx hb hlk hr KE.rf rfl rfl hH hS (by unfold wG; rw [if_pos he]; rfl) (by unfold wK; rw [if_pos he]) (Nat.le_of_ble_eq_true rfl) (Nat.le_of_ble_eq_true rfl) dL_act_24
set_option maxRecDepth 20000 in
set_option maxHeartbeats 4000000 in
theorem cw_hit (l : Launch) (hfl : l.stackTraces = false) (κ : KP) (γ : St) (y1 : Int32) (y2 : Int32) (y3 : Int32) (y4 : Int32) (hk : ok_X7_hit y1 y2 y3 y4 γ) (hE : eIn 2 1 0 (x_X7_hit y1 y2 y3 y4 γ).1) : vx_Met l yL_hit [Cond.codeWith yL_hit cL_hit 7 (some .int) [(0, 14, 17, 21), (0, 14, 21, 13)]] ({ frames := 8, cells := 1, slots := 6, locals := 135 } : Room) (va_Pc [.ref (kA κ 7 0), .int y1, .int y2, .int y3, .int y4, .ref (kA κ 41 0)] (GG κ γ)) (QE κ (wG (x_X7_hit y1 y2 y3 y4 γ)) 0 (some (.int (wK 2 1 0 (x_X7_hit y1 y2 y3 y4 γ).1))) (kN κ) (kO κ)) (XX κ (wG (x_X7_hit y1 y2 y3 y4 γ)) 0) 1 6 (AA κ) := by
  refine vx_ofWH (cc := cL_hit) (maxL := 7) (ret := (some .int)) (hh := [(0, 14, 17, 21), (0, 14, 21, 13)]) (by decide) rfl ?_
  intro p e s m args below meth c s₁ B hml9 hv
  obtain ⟨rfl, hH, hK9, hB9, hX9, hZ9⟩ := hv
  have hC : CX κ cL_hit "PhrasehallLaw" 7 p l s m ([.ref (kA κ 7 0), .int y1, .int y2, .int y3, .int y4, .ref (kA κ 41 0)] : List Value).toArray meth c := ⟨B.exec, B.bytes, findClass_of_methodNamed B.named, fun w hw => tw_use (List.mem_filter.mp hw).2 (State.WarmedH.refl s) (hX9.1 w hw), hK9, hX9, hZ9, hB9, hml9, B.notSynchronized⟩
  obtain ⟨hx, hb, hown, hT, -, -, -, -, hml, hlk⟩ := id hC
  have htab : c.exceptionTable.toList = tableOf [(0, 14, 17, 21), (0, 14, 21, 13)] := vx_table (x := yL_hit) B (hT _ tw_483)
  have hr := B.returns
  have hS : va_S (AA κ) s.heap s.heap [] := va_S.rf
  have hl := lv_entry ([.ref (kA κ 7 0), .int y1, .int y2, .int y3, .int y4, .ref (kA κ 41 0)]) (n := 7) (Nat.le_of_ble_eq_true rfl)
  rw [lg_entry_eq]
  generalize (lg_sl ([.ref (kA κ 7 0), .int y1, .int y2, .int y3, .int y4, .ref (kA κ 41 0)]) ++ List.replicate (7 - (lg_sl ([.ref (kA κ 7 0), .int y1, .int y2, .int y3, .int y4, .ref (kA κ 41 0)])).length) Slot.unset).toArray = ls at hl ⊢
  have hl : lv_has ls 7 [(0, .ref (kA κ 7 0)), (1, .int y1), (2, .int y2), (3, .int y3), (4, .int y4), (5, .ref (kA κ 41 0))] := hl
  refine lv_aload hx hb dL_hit_0 (lv_at hl 5 rfl) ?_
  refine lv_iconst (v := 0) hx hb dL_hit_2 (by decide) ?_
  refine lv_aload_n hx hb dL_hit_3 rfl (lv_at hl 0 rfl) ?_
  refine lv_iload_n hx hb dL_hit_4 rfl (lv_at hl 1 rfl) ?_
  refine lv_iload_n hx hb dL_hit_5 rfl (lv_at hl 2 rfl) ?_
  refine lv_iload_n hx hb dL_hit_6 rfl (lv_at hl 3 rfl) ?_
  refine lv_iload hx hb dL_hit_7 (lv_at hl 4 rfl) ?_
  refine k_xcallV (C := RX7) (T := TX7) (N := 10) (rest := [.int 0, .ref (kA κ 41 0)]) hC hl hH hS (c_X7_hit l hfl κ γ y1 y2 y3 y4 hk) lv_7 rfl rfl tw_484 tw_485 tw_486 tw_57 tw_487 hd_X7_hit ⟨Nat.le_of_ble_eq_true rfl, Nat.le_of_ble_eq_true rfl⟩ rfl rfl rfl rfl (Nat.le_of_ble_eq_true rfl) dL_hit_9 ⟨Nat.le_of_ble_eq_true rfl, Nat.le_of_ble_eq_true rfl⟩ rfl (fun he ce q9 H locs hH hS hce hcv hcl => ?_) (fun he H locs hH hS => ?_)
  · rcases hE with h0 | ⟨h1, hn1⟩ | ⟨h1, hn1⟩ | ⟨h1, hn1⟩
    · exact absurd h0 he
    · have e1 : eNm (x_X7_hit y1 y2 y3 y4 γ).1 = "java/lang/IllegalStateException" := by rw [h1]; rfl
      rw [e1] at hcl
      refine vx_catch (own := "PhrasehallLaw") (name := "java/lang/IllegalStateException") (E := "java/lang/IllegalStateException") hown [⟨0, 14, 17, 21⟩] ⟨0, 14, 21, 13⟩ [] htab (fun z hz => by rw [List.mem_singleton.mp hz]; exact Or.inr ⟨by decide, _, hT _ tw_314, nc_in s hX9 0 rfl⟩) rfl (by decide) (hT _ tw_237) (nw_use rfl (hX9.2.1 _ nw_244)) hce hcv hcl ?_
      refine lv_astore (lv' := [(6, .ref q9), (0, .ref (kA κ 7 0)), (1, .int y1), (2, .int y2), (3, .int y3), (4, .int y4), (5, .ref (kA κ 41 0))]) hx hb dL_hit_21 hl (by decide) rfl (fun ls hl => ?_)
      refine lv_iconst (v := 2) hx hb dL_hit_23 (by decide) ?_
      exact kw_end hx hb hlk hr KE.rf rfl rfl hH hS (by unfold wG; rw [if_neg (by rw [h1]; decide)]) (by rw [h1]; rfl) (Nat.le_of_ble_eq_true rfl) (Nat.le_of_ble_eq_true rfl) dL_hit_24
    · have e1 : eNm (x_X7_hit y1 y2 y3 y4 γ).1 = "java/lang/IllegalArgumentException" := by rw [h1]; rfl
      rw [e1] at hcl
      refine vx_catch (own := "PhrasehallLaw") (name := "java/lang/IllegalArgumentException") (E := "java/lang/IllegalArgumentException") hown [] ⟨0, 14, 17, 21⟩ [⟨0, 14, 21, 13⟩] htab (fun z hz => (nomatch hz)) rfl (by decide) (hT _ tw_314) (nw_use rfl (hX9.2.1 _ nw_348)) hce hcv hcl ?_
      refine lv_astore (lv' := [(6, .ref q9), (0, .ref (kA κ 7 0)), (1, .int y1), (2, .int y2), (3, .int y3), (4, .int y4), (5, .ref (kA κ 41 0))]) hx hb dL_hit_17 hl (by decide) rfl (fun ls hl => ?_)
      refine lv_iconst (v := 1) hx hb dL_hit_19 (by decide) ?_
      exact kw_end hx hb hlk hr KE.rf rfl rfl hH hS (by unfold wG; rw [if_neg (by rw [h1]; decide)]) (by rw [h1]; rfl) (Nat.le_of_ble_eq_true rfl) (Nat.le_of_ble_eq_true rfl) dL_hit_20
    · exact absurd rfl hn1
  · refine lv_i2l (v := (x_X7_hit y1 y2 y3 y4 γ).2.1.toInt64) hx hb dL_hit_12 rfl ?_
    refine hp_lst hC hH lv_41 lv_u41 (fun _ => rfl) hS vp01 dL_hit_13 (fun H locs hH hS => ?_)
    refine lv_goto (tgt := 25) hx hb dL_hit_14 (by decide) ?_
    refine lv_iconst (v := 0) hx hb dL_hit_25 (by decide) ?_
    exact kw_end hx hb hlk hr KE.rf rfl rfl hH hS (by unfold wG; rw [if_pos he]; rfl) (by unfold wK; rw [if_pos he]) (Nat.le_of_ble_eq_true rfl) (Nat.le_of_ble_eq_true rfl) dL_hit_26
set_option maxRecDepth 20000 in
set_option maxHeartbeats 4000000 in
theorem cw_judge (l : Launch) (hfl : l.stackTraces = false) (κ : KP) (γ : St) (hk : ok_X7_judge γ) (hE : eIn 1 0 0 (x_X7_judge γ).1) : vx_Met l yL_judge [Cond.codeWith yL_judge cL_judge 3 (some .int) [(0, 8, 11, 13)]] ({ frames := 8, cells := 1, slots := 6, locals := 164 } : Room) (va_Pc [.ref (kA κ 7 0), .ref (kA κ 41 0)] (GG κ γ)) (QE κ (wG (x_X7_judge γ)) 0 (some (.int (wK 1 0 0 (x_X7_judge γ).1))) (kN κ) (kO κ)) (XX κ (wG (x_X7_judge γ)) 0) 1 6 (AA κ) := by
  refine vx_ofWH (cc := cL_judge) (maxL := 3) (ret := (some .int)) (hh := [(0, 8, 11, 13)]) (by decide) rfl ?_
  intro p e s m args below meth c s₁ B hml9 hv
  obtain ⟨rfl, hH, hK9, hB9, hX9, hZ9⟩ := hv
  have hC : CX κ cL_judge "PhrasehallLaw" 3 p l s m ([.ref (kA κ 7 0), .ref (kA κ 41 0)] : List Value).toArray meth c := ⟨B.exec, B.bytes, findClass_of_methodNamed B.named, fun w hw => tw_use (List.mem_filter.mp hw).2 (State.WarmedH.refl s) (hX9.1 w hw), hK9, hX9, hZ9, hB9, hml9, B.notSynchronized⟩
  obtain ⟨hx, hb, hown, hT, -, -, -, -, hml, hlk⟩ := id hC
  have htab : c.exceptionTable.toList = tableOf [(0, 8, 11, 13)] := vx_table (x := yL_judge) B (hT _ tw_496)
  have hr := B.returns
  have hS : va_S (AA κ) s.heap s.heap [] := va_S.rf
  have hl := lv_entry ([.ref (kA κ 7 0), .ref (kA κ 41 0)]) (n := 3) (Nat.le_of_ble_eq_true rfl)
  rw [lg_entry_eq]
  generalize (lg_sl ([.ref (kA κ 7 0), .ref (kA κ 41 0)]) ++ List.replicate (3 - (lg_sl ([.ref (kA κ 7 0), .ref (kA κ 41 0)])).length) Slot.unset).toArray = ls at hl ⊢
  have hl : lv_has ls 3 [(0, .ref (kA κ 7 0)), (1, .ref (kA κ 41 0))] := hl
  refine lv_aload_n hx hb dL_judge_0 rfl (lv_at hl 1 rfl) ?_
  refine lv_iconst (v := 0) hx hb dL_judge_1 (by decide) ?_
  refine lv_aload_n hx hb dL_judge_2 rfl (lv_at hl 0 rfl) ?_
  refine k_xcallV (C := RX7) (T := TX7) (N := 10) (rest := [.int 0, .ref (kA κ 41 0)]) hC hl hH hS (c_X7_judge l hfl κ γ hk) lv_7 rfl rfl tw_497 tw_498 tw_499 tw_57 tw_500 hd_X7_judge ⟨Nat.le_of_ble_eq_true rfl, Nat.le_of_ble_eq_true rfl⟩ rfl rfl rfl rfl (Nat.le_of_ble_eq_true rfl) dL_judge_3 ⟨Nat.le_of_ble_eq_true rfl, Nat.le_of_ble_eq_true rfl⟩ rfl (fun he ce q9 H locs hH hS hce hcv hcl => ?_) (fun he H locs hH hS => ?_)
  · rcases hE with h0 | ⟨h1, hn1⟩ | ⟨h1, hn1⟩ | ⟨h1, hn1⟩
    · exact absurd h0 he
    · have e1 : eNm (x_X7_judge γ).1 = "java/lang/IllegalStateException" := by rw [h1]; rfl
      rw [e1] at hcl
      refine vx_catch (own := "PhrasehallLaw") (name := "java/lang/IllegalStateException") (E := "java/lang/IllegalStateException") hown [] ⟨0, 8, 11, 13⟩ [] htab (fun z hz => (nomatch hz)) rfl (by decide) (hT _ tw_237) (nw_use rfl (hX9.2.1 _ nw_244)) hce hcv hcl ?_
      refine lv_astore_n (lv' := [(2, .ref q9), (0, .ref (kA κ 7 0)), (1, .ref (kA κ 41 0))]) hx hb dL_judge_11 rfl hl (by decide) rfl (fun ls hl => ?_)
      refine lv_iconst (v := 1) hx hb dL_judge_12 (by decide) ?_
      exact kw_end hx hb hlk hr KE.rf rfl rfl hH hS (by unfold wG; rw [if_neg (by rw [h1]; decide)]) (by rw [h1]; rfl) (Nat.le_of_ble_eq_true rfl) (Nat.le_of_ble_eq_true rfl) dL_judge_13
    · exact absurd rfl hn1
    · exact absurd rfl hn1
  · refine lv_i2l (v := (x_X7_judge γ).2.1.toInt64) hx hb dL_judge_6 rfl ?_
    refine hp_lst hC hH lv_41 lv_u41 (fun _ => rfl) hS vp01 dL_judge_7 (fun H locs hH hS => ?_)
    refine lv_goto (tgt := 14) hx hb dL_judge_8 (by decide) ?_
    refine lv_iconst (v := 0) hx hb dL_judge_14 (by decide) ?_
    exact kw_end hx hb hlk hr KE.rf rfl rfl hH hS (by unfold wG; rw [if_pos he]; rfl) (by unfold wK; rw [if_pos he]) (Nat.le_of_ble_eq_true rfl) (Nat.le_of_ble_eq_true rfl) dL_judge_15
set_option maxRecDepth 20000 in
set_option maxHeartbeats 4000000 in
theorem cw_card (l : Launch) (hfl : l.stackTraces = false) (κ : KP) (γ : St) (y1 : Int32) (y2 : Int32) (hk : ok_X7_card y1 y2 γ) (hE : eIn 2 1 0 (x_X7_card y1 y2 γ).1) : vx_Met l yL_card [Cond.codeWith yL_card cL_card 5 (some .int) [(0, 10, 13, 21), (0, 10, 17, 13)]] ({ frames := 8, cells := 1, slots := 6, locals := 134 } : Room) (va_Pc [.ref (kA κ 7 0), .int y1, .int y2, .ref (kA κ 41 0)] (GG κ γ)) (QE κ (wG (x_X7_card y1 y2 γ)) 0 (some (.int (wK 2 1 0 (x_X7_card y1 y2 γ).1))) (kN κ) (kO κ)) (XX κ (wG (x_X7_card y1 y2 γ)) 0) 1 6 (AA κ) := by
  refine vx_ofWH (cc := cL_card) (maxL := 5) (ret := (some .int)) (hh := [(0, 10, 13, 21), (0, 10, 17, 13)]) (by decide) rfl ?_
  intro p e s m args below meth c s₁ B hml9 hv
  obtain ⟨rfl, hH, hK9, hB9, hX9, hZ9⟩ := hv
  have hC : CX κ cL_card "PhrasehallLaw" 5 p l s m ([.ref (kA κ 7 0), .int y1, .int y2, .ref (kA κ 41 0)] : List Value).toArray meth c := ⟨B.exec, B.bytes, findClass_of_methodNamed B.named, fun w hw => tw_use (List.mem_filter.mp hw).2 (State.WarmedH.refl s) (hX9.1 w hw), hK9, hX9, hZ9, hB9, hml9, B.notSynchronized⟩
  obtain ⟨hx, hb, hown, hT, -, -, -, -, hml, hlk⟩ := id hC
  have htab : c.exceptionTable.toList = tableOf [(0, 10, 13, 21), (0, 10, 17, 13)] := vx_table (x := yL_card) B (hT _ tw_598)
  have hr := B.returns
  have hS : va_S (AA κ) s.heap s.heap [] := va_S.rf
  have hl := lv_entry ([.ref (kA κ 7 0), .int y1, .int y2, .ref (kA κ 41 0)]) (n := 5) (Nat.le_of_ble_eq_true rfl)
  rw [lg_entry_eq]
  generalize (lg_sl ([.ref (kA κ 7 0), .int y1, .int y2, .ref (kA κ 41 0)]) ++ List.replicate (5 - (lg_sl ([.ref (kA κ 7 0), .int y1, .int y2, .ref (kA κ 41 0)])).length) Slot.unset).toArray = ls at hl ⊢
  have hl : lv_has ls 5 [(0, .ref (kA κ 7 0)), (1, .int y1), (2, .int y2), (3, .ref (kA κ 41 0))] := hl
  refine lv_aload_n hx hb dL_card_0 rfl (lv_at hl 3 rfl) ?_
  refine lv_iconst (v := 0) hx hb dL_card_1 (by decide) ?_
  refine lv_aload_n hx hb dL_card_2 rfl (lv_at hl 0 rfl) ?_
  refine lv_iload_n hx hb dL_card_3 rfl (lv_at hl 1 rfl) ?_
  refine lv_iload_n hx hb dL_card_4 rfl (lv_at hl 2 rfl) ?_
  refine k_xcallV (C := RX7) (T := TX7) (N := 10) (rest := [.int 0, .ref (kA κ 41 0)]) hC hl hH hS (c_X7_card l hfl κ γ y1 y2 hk) lv_7 rfl rfl tw_599 tw_600 tw_601 tw_57 tw_602 hd_X7_card ⟨Nat.le_of_ble_eq_true rfl, Nat.le_of_ble_eq_true rfl⟩ rfl rfl rfl rfl (Nat.le_of_ble_eq_true rfl) dL_card_5 ⟨Nat.le_of_ble_eq_true rfl, Nat.le_of_ble_eq_true rfl⟩ rfl (fun he ce q9 H locs hH hS hce hcv hcl => ?_) (fun he H locs hH hS => ?_)
  · rcases hE with h0 | ⟨h1, hn1⟩ | ⟨h1, hn1⟩ | ⟨h1, hn1⟩
    · exact absurd h0 he
    · have e1 : eNm (x_X7_card y1 y2 γ).1 = "java/lang/IllegalStateException" := by rw [h1]; rfl
      rw [e1] at hcl
      refine vx_catch (own := "PhrasehallLaw") (name := "java/lang/IllegalStateException") (E := "java/lang/IllegalStateException") hown [⟨0, 10, 13, 21⟩] ⟨0, 10, 17, 13⟩ [] htab (fun z hz => by rw [List.mem_singleton.mp hz]; exact Or.inr ⟨by decide, _, hT _ tw_314, nc_in s hX9 0 rfl⟩) rfl (by decide) (hT _ tw_237) (nw_use rfl (hX9.2.1 _ nw_244)) hce hcv hcl ?_
      refine lv_astore (lv' := [(4, .ref q9), (0, .ref (kA κ 7 0)), (1, .int y1), (2, .int y2), (3, .ref (kA κ 41 0))]) hx hb dL_card_17 hl (by decide) rfl (fun ls hl => ?_)
      refine lv_iconst (v := 2) hx hb dL_card_19 (by decide) ?_
      exact kw_end hx hb hlk hr KE.rf rfl rfl hH hS (by unfold wG; rw [if_neg (by rw [h1]; decide)]) (by rw [h1]; rfl) (Nat.le_of_ble_eq_true rfl) (Nat.le_of_ble_eq_true rfl) dL_card_20
    · have e1 : eNm (x_X7_card y1 y2 γ).1 = "java/lang/IllegalArgumentException" := by rw [h1]; rfl
      rw [e1] at hcl
      refine vx_catch (own := "PhrasehallLaw") (name := "java/lang/IllegalArgumentException") (E := "java/lang/IllegalArgumentException") hown [] ⟨0, 10, 13, 21⟩ [⟨0, 10, 17, 13⟩] htab (fun z hz => (nomatch hz)) rfl (by decide) (hT _ tw_314) (nw_use rfl (hX9.2.1 _ nw_348)) hce hcv hcl ?_
      refine lv_astore (lv' := [(4, .ref q9), (0, .ref (kA κ 7 0)), (1, .int y1), (2, .int y2), (3, .ref (kA κ 41 0))]) hx hb dL_card_13 hl (by decide) rfl (fun ls hl => ?_)
      refine lv_iconst (v := 1) hx hb dL_card_15 (by decide) ?_
      exact kw_end hx hb hlk hr KE.rf rfl rfl hH hS (by unfold wG; rw [if_neg (by rw [h1]; decide)]) (by rw [h1]; rfl) (Nat.le_of_ble_eq_true rfl) (Nat.le_of_ble_eq_true rfl) dL_card_16
    · exact absurd rfl hn1
  · refine lv_i2l (v := (x_X7_card y1 y2 γ).2.1.toInt64) hx hb dL_card_8 rfl ?_
    refine hp_lst hC hH lv_41 lv_u41 (fun _ => rfl) hS vp01 dL_card_9 (fun H locs hH hS => ?_)
    refine lv_goto (tgt := 21) hx hb dL_card_10 (by decide) ?_
    refine lv_iconst (v := 0) hx hb dL_card_21 (by decide) ?_
    exact kw_end hx hb hlk hr KE.rf rfl rfl hH hS (by unfold wG; rw [if_pos he]; rfl) (by unfold wK; rw [if_pos he]) (Nat.le_of_ble_eq_true rfl) (Nat.le_of_ble_eq_true rfl) dL_card_22
set_option maxRecDepth 20000 in
set_option maxHeartbeats 4000000 in
theorem cw_clock (l : Launch) (hfl : l.stackTraces = false) (κ : KP) (γ : St) (y1 : Int32) (hk : ok_X7_clock y1 γ) (hE : eIn 2 1 0 (x_X7_clock y1 γ).1) : vx_Met l yL_clock [Cond.codeWith yL_clock cL_clock 4 (some .int) [(0, 9, 12, 21), (0, 9, 15, 13)]] ({ frames := 8, cells := 1, slots := 6, locals := 133 } : Room) (va_Pc [.ref (kA κ 7 0), .int y1, .ref (kA κ 41 0)] (GG κ γ)) (QE κ (wG (x_X7_clock y1 γ)) 0 (some (.int (wK 2 1 0 (x_X7_clock y1 γ).1))) (kN κ) (kO κ)) (XX κ (wG (x_X7_clock y1 γ)) 0) 1 6 (AA κ) := by
  refine vx_ofWH (cc := cL_clock) (maxL := 4) (ret := (some .int)) (hh := [(0, 9, 12, 21), (0, 9, 15, 13)]) (by decide) rfl ?_
  intro p e s m args below meth c s₁ B hml9 hv
  obtain ⟨rfl, hH, hK9, hB9, hX9, hZ9⟩ := hv
  have hC : CX κ cL_clock "PhrasehallLaw" 4 p l s m ([.ref (kA κ 7 0), .int y1, .ref (kA κ 41 0)] : List Value).toArray meth c := ⟨B.exec, B.bytes, findClass_of_methodNamed B.named, fun w hw => tw_use (List.mem_filter.mp hw).2 (State.WarmedH.refl s) (hX9.1 w hw), hK9, hX9, hZ9, hB9, hml9, B.notSynchronized⟩
  obtain ⟨hx, hb, hown, hT, -, -, -, -, hml, hlk⟩ := id hC
  have htab : c.exceptionTable.toList = tableOf [(0, 9, 12, 21), (0, 9, 15, 13)] := vx_table (x := yL_clock) B (hT _ tw_620)
  have hr := B.returns
  have hS : va_S (AA κ) s.heap s.heap [] := va_S.rf
  have hl := lv_entry ([.ref (kA κ 7 0), .int y1, .ref (kA κ 41 0)]) (n := 4) (Nat.le_of_ble_eq_true rfl)
  rw [lg_entry_eq]
  generalize (lg_sl ([.ref (kA κ 7 0), .int y1, .ref (kA κ 41 0)]) ++ List.replicate (4 - (lg_sl ([.ref (kA κ 7 0), .int y1, .ref (kA κ 41 0)])).length) Slot.unset).toArray = ls at hl ⊢
  have hl : lv_has ls 4 [(0, .ref (kA κ 7 0)), (1, .int y1), (2, .ref (kA κ 41 0))] := hl
  refine lv_aload_n hx hb dL_clock_0 rfl (lv_at hl 2 rfl) ?_
  refine lv_iconst (v := 0) hx hb dL_clock_1 (by decide) ?_
  refine lv_aload_n hx hb dL_clock_2 rfl (lv_at hl 0 rfl) ?_
  refine lv_iload_n hx hb dL_clock_3 rfl (lv_at hl 1 rfl) ?_
  refine k_xcallV (C := RX7) (T := TX7) (N := 10) (rest := [.int 0, .ref (kA κ 41 0)]) hC hl hH hS (c_X7_clock l hfl κ γ y1 hk) lv_7 rfl rfl tw_621 tw_622 tw_623 tw_57 tw_624 hd_X7_clock ⟨Nat.le_of_ble_eq_true rfl, Nat.le_of_ble_eq_true rfl⟩ rfl rfl rfl rfl (Nat.le_of_ble_eq_true rfl) dL_clock_4 ⟨Nat.le_of_ble_eq_true rfl, Nat.le_of_ble_eq_true rfl⟩ rfl (fun he ce q9 H locs hH hS hce hcv hcl => ?_) (fun he H locs hH hS => ?_)
  · rcases hE with h0 | ⟨h1, hn1⟩ | ⟨h1, hn1⟩ | ⟨h1, hn1⟩
    · exact absurd h0 he
    · have e1 : eNm (x_X7_clock y1 γ).1 = "java/lang/IllegalStateException" := by rw [h1]; rfl
      rw [e1] at hcl
      refine vx_catch (own := "PhrasehallLaw") (name := "java/lang/IllegalStateException") (E := "java/lang/IllegalStateException") hown [⟨0, 9, 12, 21⟩] ⟨0, 9, 15, 13⟩ [] htab (fun z hz => by rw [List.mem_singleton.mp hz]; exact Or.inr ⟨by decide, _, hT _ tw_314, nc_in s hX9 0 rfl⟩) rfl (by decide) (hT _ tw_237) (nw_use rfl (hX9.2.1 _ nw_244)) hce hcv hcl ?_
      refine lv_astore_n (lv' := [(3, .ref q9), (0, .ref (kA κ 7 0)), (1, .int y1), (2, .ref (kA κ 41 0))]) hx hb dL_clock_15 rfl hl (by decide) rfl (fun ls hl => ?_)
      refine lv_iconst (v := 2) hx hb dL_clock_16 (by decide) ?_
      exact kw_end hx hb hlk hr KE.rf rfl rfl hH hS (by unfold wG; rw [if_neg (by rw [h1]; decide)]) (by rw [h1]; rfl) (Nat.le_of_ble_eq_true rfl) (Nat.le_of_ble_eq_true rfl) dL_clock_17
    · have e1 : eNm (x_X7_clock y1 γ).1 = "java/lang/IllegalArgumentException" := by rw [h1]; rfl
      rw [e1] at hcl
      refine vx_catch (own := "PhrasehallLaw") (name := "java/lang/IllegalArgumentException") (E := "java/lang/IllegalArgumentException") hown [] ⟨0, 9, 12, 21⟩ [⟨0, 9, 15, 13⟩] htab (fun z hz => (nomatch hz)) rfl (by decide) (hT _ tw_314) (nw_use rfl (hX9.2.1 _ nw_348)) hce hcv hcl ?_
      refine lv_astore_n (lv' := [(3, .ref q9), (0, .ref (kA κ 7 0)), (1, .int y1), (2, .ref (kA κ 41 0))]) hx hb dL_clock_12 rfl hl (by decide) rfl (fun ls hl => ?_)
      refine lv_iconst (v := 1) hx hb dL_clock_13 (by decide) ?_
      exact kw_end hx hb hlk hr KE.rf rfl rfl hH hS (by unfold wG; rw [if_neg (by rw [h1]; decide)]) (by rw [h1]; rfl) (Nat.le_of_ble_eq_true rfl) (Nat.le_of_ble_eq_true rfl) dL_clock_14
    · exact absurd rfl hn1
  · refine lv_i2l (v := (x_X7_clock y1 γ).2.1.toInt64) hx hb dL_clock_7 rfl ?_
    refine hp_lst hC hH lv_41 lv_u41 (fun _ => rfl) hS vp01 dL_clock_8 (fun H locs hH hS => ?_)
    refine lv_goto (tgt := 18) hx hb dL_clock_9 (by decide) ?_
    refine lv_iconst (v := 0) hx hb dL_clock_18 (by decide) ?_
    exact kw_end hx hb hlk hr KE.rf rfl rfl hH hS (by unfold wG; rw [if_pos he]; rfl) (by unfold wK; rw [if_pos he]) (Nat.le_of_ble_eq_true rfl) (Nat.le_of_ble_eq_true rfl) dL_clock_19
set_option maxRecDepth 20000 in
set_option maxHeartbeats 4000000 in
theorem cw_end (l : Launch) (hfl : l.stackTraces = false) (κ : KP) (γ : St) (hk : ok_X7_end γ) (hE : eIn 1 0 0 (x_X7_end γ).1) : vx_Met l yL_end [Cond.codeWith yL_end cL_end 3 (some .int) [(0, 8, 11, 13)]] ({ frames := 8, cells := 1, slots := 6, locals := 131 } : Room) (va_Pc [.ref (kA κ 7 0), .ref (kA κ 41 0)] (GG κ γ)) (QE κ (wG (x_X7_end γ)) 0 (some (.int (wK 1 0 0 (x_X7_end γ).1))) (kN κ) (kO κ)) (XX κ (wG (x_X7_end γ)) 0) 1 6 (AA κ) := by
  refine vx_ofWH (cc := cL_end) (maxL := 3) (ret := (some .int)) (hh := [(0, 8, 11, 13)]) (by decide) rfl ?_
  intro p e s m args below meth c s₁ B hml9 hv
  obtain ⟨rfl, hH, hK9, hB9, hX9, hZ9⟩ := hv
  have hC : CX κ cL_end "PhrasehallLaw" 3 p l s m ([.ref (kA κ 7 0), .ref (kA κ 41 0)] : List Value).toArray meth c := ⟨B.exec, B.bytes, findClass_of_methodNamed B.named, fun w hw => tw_use (List.mem_filter.mp hw).2 (State.WarmedH.refl s) (hX9.1 w hw), hK9, hX9, hZ9, hB9, hml9, B.notSynchronized⟩
  obtain ⟨hx, hb, hown, hT, -, -, -, -, hml, hlk⟩ := id hC
  have htab : c.exceptionTable.toList = tableOf [(0, 8, 11, 13)] := vx_table (x := yL_end) B (hT _ tw_658)
  have hr := B.returns
  have hS : va_S (AA κ) s.heap s.heap [] := va_S.rf
  have hl := lv_entry ([.ref (kA κ 7 0), .ref (kA κ 41 0)]) (n := 3) (Nat.le_of_ble_eq_true rfl)
  rw [lg_entry_eq]
  generalize (lg_sl ([.ref (kA κ 7 0), .ref (kA κ 41 0)]) ++ List.replicate (3 - (lg_sl ([.ref (kA κ 7 0), .ref (kA κ 41 0)])).length) Slot.unset).toArray = ls at hl ⊢
  have hl : lv_has ls 3 [(0, .ref (kA κ 7 0)), (1, .ref (kA κ 41 0))] := hl
  refine lv_aload_n hx hb dL_end_0 rfl (lv_at hl 1 rfl) ?_
  refine lv_iconst (v := 0) hx hb dL_end_1 (by decide) ?_
  refine lv_aload_n hx hb dL_end_2 rfl (lv_at hl 0 rfl) ?_
  refine k_xcallV (C := RX7) (T := TX7) (N := 10) (rest := [.int 0, .ref (kA κ 41 0)]) hC hl hH hS (c_X7_end l hfl κ γ hk) lv_7 rfl rfl tw_659 tw_660 tw_661 tw_57 tw_662 hd_X7_end ⟨Nat.le_of_ble_eq_true rfl, Nat.le_of_ble_eq_true rfl⟩ rfl rfl rfl rfl (Nat.le_of_ble_eq_true rfl) dL_end_3 ⟨Nat.le_of_ble_eq_true rfl, Nat.le_of_ble_eq_true rfl⟩ rfl (fun he ce q9 H locs hH hS hce hcv hcl => ?_) (fun he H locs hH hS => ?_)
  · rcases hE with h0 | ⟨h1, hn1⟩ | ⟨h1, hn1⟩ | ⟨h1, hn1⟩
    · exact absurd h0 he
    · have e1 : eNm (x_X7_end γ).1 = "java/lang/IllegalStateException" := by rw [h1]; rfl
      rw [e1] at hcl
      refine vx_catch (own := "PhrasehallLaw") (name := "java/lang/IllegalStateException") (E := "java/lang/IllegalStateException") hown [] ⟨0, 8, 11, 13⟩ [] htab (fun z hz => (nomatch hz)) rfl (by decide) (hT _ tw_237) (nw_use rfl (hX9.2.1 _ nw_244)) hce hcv hcl ?_
      refine lv_astore_n (lv' := [(2, .ref q9), (0, .ref (kA κ 7 0)), (1, .ref (kA κ 41 0))]) hx hb dL_end_11 rfl hl (by decide) rfl (fun ls hl => ?_)
      refine lv_iconst (v := 1) hx hb dL_end_12 (by decide) ?_
      exact kw_end hx hb hlk hr KE.rf rfl rfl hH hS (by unfold wG; rw [if_neg (by rw [h1]; decide)]) (by rw [h1]; rfl) (Nat.le_of_ble_eq_true rfl) (Nat.le_of_ble_eq_true rfl) dL_end_13
    · exact absurd rfl hn1
    · exact absurd rfl hn1
  · refine lv_i2l (v := (x_X7_end γ).2.1.toInt64) hx hb dL_end_6 rfl ?_
    refine hp_lst hC hH lv_41 lv_u41 (fun _ => rfl) hS vp01 dL_end_7 (fun H locs hH hS => ?_)
    refine lv_goto (tgt := 14) hx hb dL_end_8 (by decide) ?_
    refine lv_iconst (v := 0) hx hb dL_end_14 (by decide) ?_
    exact kw_end hx hb hlk hr KE.rf rfl rfl hH hS (by unfold wG; rw [if_pos he]; rfl) (by unfold wK; rw [if_pos he]) (Nat.le_of_ble_eq_true rfl) (Nat.le_of_ble_eq_true rfl) dL_end_15
set_option maxRecDepth 20000 in
set_option maxHeartbeats 4000000 in
theorem cw_seed (l : Launch) (hfl : l.stackTraces = false) (κ : KP) (γ : St) (y1 : Int32) (hE : eIn 0 1 0 (x_X7_seed y1 γ).1) : vx_Met l yL_seed [Cond.codeWith yL_seed cL_seed 3 (some .int) [(0, 5, 8, 21)]] ({ frames := 7, cells := 1, slots := 6, locals := 111 } : Room) (va_Pc [.ref (kA κ 7 0), .int y1] (GG κ γ)) (QE κ (x_X7_seed y1 γ).2 0 (some (.int (wK 0 1 0 (x_X7_seed y1 γ).1))) (kN κ) (kO κ)) (XX κ (x_X7_seed y1 γ).2 0) 1 6 (AA κ) := by
  refine vx_ofWH (cc := cL_seed) (maxL := 3) (ret := (some .int)) (hh := [(0, 5, 8, 21)]) (by decide) rfl ?_
  intro p e s m args below meth c s₁ B hml9 hv
  obtain ⟨rfl, hH, hK9, hB9, hX9, hZ9⟩ := hv
  have hC : CX κ cL_seed "PhrasehallLaw" 3 p l s m ([.ref (kA κ 7 0), .int y1] : List Value).toArray meth c := ⟨B.exec, B.bytes, findClass_of_methodNamed B.named, fun w hw => tw_use (List.mem_filter.mp hw).2 (State.WarmedH.refl s) (hX9.1 w hw), hK9, hX9, hZ9, hB9, hml9, B.notSynchronized⟩
  obtain ⟨hx, hb, hown, hT, -, -, -, -, hml, hlk⟩ := id hC
  have htab : c.exceptionTable.toList = tableOf [(0, 5, 8, 21)] := vx_table (x := yL_seed) B (hT _ tw_667)
  have hr := B.returns
  have hS : va_S (AA κ) s.heap s.heap [] := va_S.rf
  have hl := lv_entry ([.ref (kA κ 7 0), .int y1]) (n := 3) (Nat.le_of_ble_eq_true rfl)
  rw [lg_entry_eq]
  generalize (lg_sl ([.ref (kA κ 7 0), .int y1]) ++ List.replicate (3 - (lg_sl ([.ref (kA κ 7 0), .int y1])).length) Slot.unset).toArray = ls at hl ⊢
  have hl : lv_has ls 3 [(0, .ref (kA κ 7 0)), (1, .int y1)] := hl
  refine lv_aload_n hx hb dL_seed_0 rfl (lv_at hl 0 rfl) ?_
  refine lv_iload_n hx hb dL_seed_1 rfl (lv_at hl 1 rfl) ?_
  refine k_xcallV (C := RX7) (T := TX7) (N := 10) (rest := []) hC hl hH hS (c_X7_seed l hfl κ γ y1) lv_7 rfl rfl tw_668 tw_669 tw_670 tw_57 tw_671 hd_X7_seed ⟨Nat.le_of_ble_eq_true rfl, Nat.le_of_ble_eq_true rfl⟩ rfl rfl rfl rfl (Nat.le_of_ble_eq_true rfl) dL_seed_2 ⟨Nat.le_of_ble_eq_true rfl, Nat.le_of_ble_eq_true rfl⟩ rfl (fun he ce q9 H locs hH hS hce hcv hcl => ?_) (fun he H locs hH hS => ?_)
  · rcases hE with h0 | ⟨h1, hn1⟩ | ⟨h1, hn1⟩ | ⟨h1, hn1⟩
    · exact absurd h0 he
    · exact absurd rfl hn1
    · have e1 : eNm (x_X7_seed y1 γ).1 = "java/lang/IllegalArgumentException" := by rw [h1]; rfl
      rw [e1] at hcl
      refine vx_catch (own := "PhrasehallLaw") (name := "java/lang/IllegalArgumentException") (E := "java/lang/IllegalArgumentException") hown [] ⟨0, 5, 8, 21⟩ [] htab (fun z hz => (nomatch hz)) rfl (by decide) (hT _ tw_314) (nw_use rfl (hX9.2.1 _ nw_348)) hce hcv hcl ?_
      refine lv_astore_n (lv' := [(2, .ref q9), (0, .ref (kA κ 7 0)), (1, .int y1)]) hx hb dL_seed_8 rfl hl (by decide) rfl (fun ls hl => ?_)
      refine lv_iconst (v := 1) hx hb dL_seed_9 (by decide) ?_
      exact kw_end hx hb hlk hr KE.rf rfl rfl hH hS rfl (by rw [h1]; rfl) (Nat.le_of_ble_eq_true rfl) (Nat.le_of_ble_eq_true rfl) dL_seed_10
    · exact absurd rfl hn1
  · refine lv_goto (tgt := 11) hx hb dL_seed_5 (by decide) ?_
    refine lv_iconst (v := 0) hx hb dL_seed_11 (by decide) ?_
    exact kw_end hx hb hlk hr KE.rf rfl rfl hH hS rfl (by unfold wK; rw [if_pos he]) (Nat.le_of_ble_eq_true rfl) (Nat.le_of_ble_eq_true rfl) dL_seed_12
set_option maxRecDepth 20000 in
set_option maxHeartbeats 4000000 in
theorem cw_pool (l : Launch) (hfl : l.stackTraces = false) (κ : KP) (γ : St) (y1 : Int32) (hnb : kO κ = (gV γ 7 0 7).toNatClampNeg) (hk : ok_X7_pool y1 γ) (hE : eIn 2 1 0 (x_X7_pool y1 γ).1) : vx_Met l yL_pool [Cond.codeWith yL_pool cL_pool 4 (some .int) [(0, 9, 12, 21), (0, 9, 15, 13)]] ({ frames := 7, cells := 3, slots := 65, locals := 113 } : Room) (va_Pc [.ref (kA κ 7 0), .int y1, .ref (kA κ 41 0)] (GG κ γ)) (QE κ (wG (x_X7_pool y1 γ)) 0 (some (.int (wK 2 1 0 (x_X7_pool y1 γ).1))) (kN κ) (if (x_X7_pool y1 γ).1 = 0 then kO κ + 1 else kO κ)) (XX κ (wG (x_X7_pool y1 γ)) 0) 3 65 (AA κ) := by
  refine vx_ofWH (cc := cL_pool) (maxL := 4) (ret := (some .int)) (hh := [(0, 9, 12, 21), (0, 9, 15, 13)]) (by decide) rfl ?_
  intro p e s m args below meth c s₁ B hml9 hv
  obtain ⟨rfl, hH, hK9, hB9, hX9, hZ9⟩ := hv
  have hC : CX κ cL_pool "PhrasehallLaw" 4 p l s m ([.ref (kA κ 7 0), .int y1, .ref (kA κ 41 0)] : List Value).toArray meth c := ⟨B.exec, B.bytes, findClass_of_methodNamed B.named, fun w hw => tw_use (List.mem_filter.mp hw).2 (State.WarmedH.refl s) (hX9.1 w hw), hK9, hX9, hZ9, hB9, hml9, B.notSynchronized⟩
  obtain ⟨hx, hb, hown, hT, -, -, -, -, hml, hlk⟩ := id hC
  have htab : c.exceptionTable.toList = tableOf [(0, 9, 12, 21), (0, 9, 15, 13)] := vx_table (x := yL_pool) B (hT _ tw_675)
  have hr := B.returns
  have hS : va_S (AA κ) s.heap s.heap [] := va_S.rf
  have hl := lv_entry ([.ref (kA κ 7 0), .int y1, .ref (kA κ 41 0)]) (n := 4) (Nat.le_of_ble_eq_true rfl)
  rw [lg_entry_eq]
  generalize (lg_sl ([.ref (kA κ 7 0), .int y1, .ref (kA κ 41 0)]) ++ List.replicate (4 - (lg_sl ([.ref (kA κ 7 0), .int y1, .ref (kA κ 41 0)])).length) Slot.unset).toArray = ls at hl ⊢
  have hl : lv_has ls 4 [(0, .ref (kA κ 7 0)), (1, .int y1), (2, .ref (kA κ 41 0))] := hl
  refine lv_aload_n hx hb dL_pool_0 rfl (lv_at hl 2 rfl) ?_
  refine lv_iconst (v := 0) hx hb dL_pool_1 (by decide) ?_
  refine lv_aload_n hx hb dL_pool_2 rfl (lv_at hl 0 rfl) ?_
  refine lv_iload_n hx hb dL_pool_3 rfl (lv_at hl 1 rfl) ?_
  refine k_xcallVE (C := RX7) (T := TX7) (N := 10) (rest := [.int 0, .ref (kA κ 41 0)]) hC hl hH hS (c_X7_pool l hfl κ γ y1 hnb hk) lv_7 rfl rfl tw_676 tw_677 tw_678 tw_57 tw_679 hd_X7_pool ⟨Nat.le_of_ble_eq_true rfl, Nat.le_of_ble_eq_true rfl⟩ rfl rfl rfl rfl (Nat.le_of_ble_eq_true rfl) dL_pool_4 ⟨Nat.le_of_ble_eq_true rfl, Nat.le_of_ble_eq_true rfl⟩ rfl (fun he ce q9 H locs hH hS hce hcv hcl => ?_) (fun he κ9 H locs hke hnb9 hnp9 hH hS => ?_)
  · rcases hE with h0 | ⟨h1, hn1⟩ | ⟨h1, hn1⟩ | ⟨h1, hn1⟩
    · exact absurd h0 he
    · have e1 : eNm (x_X7_pool y1 γ).1 = "java/lang/IllegalStateException" := by rw [h1]; rfl
      rw [e1] at hcl
      refine vx_catch (own := "PhrasehallLaw") (name := "java/lang/IllegalStateException") (E := "java/lang/IllegalStateException") hown [⟨0, 9, 12, 21⟩] ⟨0, 9, 15, 13⟩ [] htab (fun z hz => by rw [List.mem_singleton.mp hz]; exact Or.inr ⟨by decide, _, hT _ tw_314, nc_in s hX9 0 rfl⟩) rfl (by decide) (hT _ tw_237) (nw_use rfl (hX9.2.1 _ nw_244)) hce hcv hcl ?_
      refine lv_astore_n (lv' := [(3, .ref q9), (0, .ref (kA κ 7 0)), (1, .int y1), (2, .ref (kA κ 41 0))]) hx hb dL_pool_15 rfl hl (by decide) rfl (fun ls hl => ?_)
      refine lv_iconst (v := 2) hx hb dL_pool_16 (by decide) ?_
      exact kw_end hx hb hlk hr KE.rf rfl (by rw [if_neg (by rw [h1]; decide)]) hH hS (by unfold wG; rw [if_neg (by rw [h1]; decide)]) (by rw [h1]; rfl) (Nat.le_of_ble_eq_true rfl) (Nat.le_of_ble_eq_true rfl) dL_pool_17
    · have e1 : eNm (x_X7_pool y1 γ).1 = "java/lang/IllegalArgumentException" := by rw [h1]; rfl
      rw [e1] at hcl
      refine vx_catch (own := "PhrasehallLaw") (name := "java/lang/IllegalArgumentException") (E := "java/lang/IllegalArgumentException") hown [] ⟨0, 9, 12, 21⟩ [⟨0, 9, 15, 13⟩] htab (fun z hz => (nomatch hz)) rfl (by decide) (hT _ tw_314) (nw_use rfl (hX9.2.1 _ nw_348)) hce hcv hcl ?_
      refine lv_astore_n (lv' := [(3, .ref q9), (0, .ref (kA κ 7 0)), (1, .int y1), (2, .ref (kA κ 41 0))]) hx hb dL_pool_12 rfl hl (by decide) rfl (fun ls hl => ?_)
      refine lv_iconst (v := 1) hx hb dL_pool_13 (by decide) ?_
      exact kw_end hx hb hlk hr KE.rf rfl (by rw [if_neg (by rw [h1]; decide)]) hH hS (by unfold wG; rw [if_neg (by rw [h1]; decide)]) (by rw [h1]; rfl) (Nat.le_of_ble_eq_true rfl) (Nat.le_of_ble_eq_true rfl) dL_pool_14
    · exact absurd rfl hn1
  · have hC9 := hC.ke hke
    have eAA : AA κ9 = AA κ := by have h3 := hke.2.2.1; unfold AA; rw [h3]
    have e41 : kA κ9 41 0 = kA κ 41 0 := (hke.2.2.2 41 0 lv_41).2
    refine lv_i2l (v := (x_X7_pool y1 γ).2.1.toInt64) hx hb dL_pool_7 rfl ?_
    rw [← eAA] at hS
    refine W.eq (g2 := F0 m 8 ls [.long (x_X7_pool y1 γ).2.1.toInt64, .int 0, .ref (kA κ9 41 0)]) (by rw [e41]; rfl) ?_
    refine hp_lst hC9 hH lv_41 lv_u41 (fun _ => rfl) hS vp01 dL_pool_8 (fun H locs hH hS => ?_)
    rw [eAA] at hS
    refine lv_goto (tgt := 18) hx hb dL_pool_9 (by decide) ?_
    refine lv_iconst (v := 0) hx hb dL_pool_18 (by decide) ?_
    exact kw_end hx hb hlk hr hke hnb9 (by rw [if_pos he]; exact hnp9) hH hS (by unfold wG; rw [if_pos he]; rfl) (by unfold wK; rw [if_pos he]) (Nat.le_of_ble_eq_true rfl) (Nat.le_of_ble_eq_true rfl) dL_pool_19
set_option maxRecDepth 20000 in
set_option maxHeartbeats 4000000 in
theorem cw_withdraw (l : Launch) (hfl : l.stackTraces = false) (κ : KP) (γ : St) (y1 : Int32) (y2 : Int32) (hk : ok_X7_withdraw y1 y2 γ) (hE : eIn 2 0 1 (x_X7_withdraw y1 y2 γ).1) : vx_Met l yL_withdraw [Cond.codeWith yL_withdraw cL_withdraw 5 (some .int) [(0, 10, 13, 19), (0, 10, 17, 13)]] ({ frames := 8, cells := 2, slots := 12, locals := 139 } : Room) (va_Pc [.ref (kA κ 7 0), .int y1, .int y2, .ref (kA κ 41 0)] (GG κ γ)) (QE κ (wG (x_X7_withdraw y1 y2 γ)) 0 (some (.int (wK 2 0 1 (x_X7_withdraw y1 y2 γ).1))) (kN κ) (kO κ)) (XX κ (wG (x_X7_withdraw y1 y2 γ)) 0) 2 12 (AA κ) := by
  refine vx_ofWH (cc := cL_withdraw) (maxL := 5) (ret := (some .int)) (hh := [(0, 10, 13, 19), (0, 10, 17, 13)]) (by decide) rfl ?_
  intro p e s m args below meth c s₁ B hml9 hv
  obtain ⟨rfl, hH, hK9, hB9, hX9, hZ9⟩ := hv
  have hC : CX κ cL_withdraw "PhrasehallLaw" 5 p l s m ([.ref (kA κ 7 0), .int y1, .int y2, .ref (kA κ 41 0)] : List Value).toArray meth c := ⟨B.exec, B.bytes, findClass_of_methodNamed B.named, fun w hw => tw_use (List.mem_filter.mp hw).2 (State.WarmedH.refl s) (hX9.1 w hw), hK9, hX9, hZ9, hB9, hml9, B.notSynchronized⟩
  obtain ⟨hx, hb, hown, hT, -, -, -, -, hml, hlk⟩ := id hC
  have htab : c.exceptionTable.toList = tableOf [(0, 10, 13, 19), (0, 10, 17, 13)] := vx_table (x := yL_withdraw) B (hT _ tw_711)
  have hr := B.returns
  have hS : va_S (AA κ) s.heap s.heap [] := va_S.rf
  have hl := lv_entry ([.ref (kA κ 7 0), .int y1, .int y2, .ref (kA κ 41 0)]) (n := 5) (Nat.le_of_ble_eq_true rfl)
  rw [lg_entry_eq]
  generalize (lg_sl ([.ref (kA κ 7 0), .int y1, .int y2, .ref (kA κ 41 0)]) ++ List.replicate (5 - (lg_sl ([.ref (kA κ 7 0), .int y1, .int y2, .ref (kA κ 41 0)])).length) Slot.unset).toArray = ls at hl ⊢
  have hl : lv_has ls 5 [(0, .ref (kA κ 7 0)), (1, .int y1), (2, .int y2), (3, .ref (kA κ 41 0))] := hl
  refine lv_aload_n hx hb dL_withdraw_0 rfl (lv_at hl 3 rfl) ?_
  refine lv_iconst (v := 0) hx hb dL_withdraw_1 (by decide) ?_
  refine lv_aload_n hx hb dL_withdraw_2 rfl (lv_at hl 0 rfl) ?_
  refine lv_iload_n hx hb dL_withdraw_3 rfl (lv_at hl 1 rfl) ?_
  refine lv_iload_n hx hb dL_withdraw_4 rfl (lv_at hl 2 rfl) ?_
  refine k_xcallV (C := RX7) (T := TX7) (N := 10) (rest := [.int 0, .ref (kA κ 41 0)]) hC hl hH hS (c_X7_withdraw l hfl κ γ y1 y2 hk) lv_7 rfl rfl tw_712 tw_713 tw_714 tw_57 tw_715 hd_X7_withdraw ⟨Nat.le_of_ble_eq_true rfl, Nat.le_of_ble_eq_true rfl⟩ rfl rfl rfl rfl (Nat.le_of_ble_eq_true rfl) dL_withdraw_5 ⟨Nat.le_of_ble_eq_true rfl, Nat.le_of_ble_eq_true rfl⟩ rfl (fun he ce q9 H locs hH hS hce hcv hcl => ?_) (fun he H locs hH hS => ?_)
  · rcases hE with h0 | ⟨h1, hn1⟩ | ⟨h1, hn1⟩ | ⟨h1, hn1⟩
    · exact absurd h0 he
    · have e1 : eNm (x_X7_withdraw y1 y2 γ).1 = "java/lang/IllegalStateException" := by rw [h1]; rfl
      rw [e1] at hcl
      refine vx_catch (own := "PhrasehallLaw") (name := "java/lang/IllegalStateException") (E := "java/lang/IllegalStateException") hown [⟨0, 10, 13, 19⟩] ⟨0, 10, 17, 13⟩ [] htab (fun z hz => by rw [List.mem_singleton.mp hz]; exact Or.inr ⟨by decide, _, hT _ tw_313, nc_in s hX9 1 rfl⟩) rfl (by decide) (hT _ tw_237) (nw_use rfl (hX9.2.1 _ nw_244)) hce hcv hcl ?_
      refine lv_astore (lv' := [(4, .ref q9), (0, .ref (kA κ 7 0)), (1, .int y1), (2, .int y2), (3, .ref (kA κ 41 0))]) hx hb dL_withdraw_17 hl (by decide) rfl (fun ls hl => ?_)
      refine lv_iconst (v := 2) hx hb dL_withdraw_19 (by decide) ?_
      exact kw_end hx hb hlk hr KE.rf rfl rfl hH hS (by unfold wG; rw [if_neg (by rw [h1]; decide)]) (by rw [h1]; rfl) (Nat.le_of_ble_eq_true rfl) (Nat.le_of_ble_eq_true rfl) dL_withdraw_20
    · exact absurd rfl hn1
    · have e1 : eNm (x_X7_withdraw y1 y2 γ).1 = "java/lang/IndexOutOfBoundsException" := by rw [h1]; rfl
      rw [e1] at hcl
      refine vx_catch (own := "PhrasehallLaw") (name := "java/lang/IndexOutOfBoundsException") (E := "java/lang/IndexOutOfBoundsException") hown [] ⟨0, 10, 13, 19⟩ [⟨0, 10, 17, 13⟩] htab (fun z hz => (nomatch hz)) rfl (by decide) (hT _ tw_313) (nw_use rfl (hX9.2.1 _ nw_329)) hce hcv hcl ?_
      refine lv_astore (lv' := [(4, .ref q9), (0, .ref (kA κ 7 0)), (1, .int y1), (2, .int y2), (3, .ref (kA κ 41 0))]) hx hb dL_withdraw_13 hl (by decide) rfl (fun ls hl => ?_)
      refine lv_iconst (v := 1) hx hb dL_withdraw_15 (by decide) ?_
      exact kw_end hx hb hlk hr KE.rf rfl rfl hH hS (by unfold wG; rw [if_neg (by rw [h1]; decide)]) (by rw [h1]; rfl) (Nat.le_of_ble_eq_true rfl) (Nat.le_of_ble_eq_true rfl) dL_withdraw_16
  · refine lv_i2l (v := (x_X7_withdraw y1 y2 γ).2.1.toInt64) hx hb dL_withdraw_8 rfl ?_
    refine hp_lst hC hH lv_41 lv_u41 (fun _ => rfl) hS vp01 dL_withdraw_9 (fun H locs hH hS => ?_)
    refine lv_goto (tgt := 21) hx hb dL_withdraw_10 (by decide) ?_
    refine lv_iconst (v := 0) hx hb dL_withdraw_21 (by decide) ?_
    exact kw_end hx hb hlk hr KE.rf rfl rfl hH hS (by unfold wG; rw [if_pos he]; rfl) (by unfold wK; rw [if_pos he]) (Nat.le_of_ble_eq_true rfl) (Nat.le_of_ble_eq_true rfl) dL_withdraw_22
set_option maxRecDepth 20000 in
set_option maxHeartbeats 4000000 in
theorem cw_tableau (l : Launch) (hfl : l.stackTraces = false) (κ : KP) (γ : St) (y1 : Int32) (hk : ok_X7_tableau y1 γ) (hE : eIn 2 0 1 (x_X7_tableau y1 γ).1) : vx_Met l yL_tableau [Cond.codeWith yL_tableau cL_tableau 4 (some .int) [(0, 9, 12, 19), (0, 9, 15, 13)]] ({ frames := 7, cells := 1, slots := 6, locals := 157 } : Room) (va_Pc [.ref (kA κ 7 0), .int y1, .ref (kA κ 41 0)] (GG κ γ)) (QE κ (wG (x_X7_tableau y1 γ)) 0 (some (.int (wK 2 0 1 (x_X7_tableau y1 γ).1))) (kN κ) (kO κ)) (XX κ (wG (x_X7_tableau y1 γ)) 0) 1 6 (AA κ) := by
  refine vx_ofWH (cc := cL_tableau) (maxL := 4) (ret := (some .int)) (hh := [(0, 9, 12, 19), (0, 9, 15, 13)]) (by decide) rfl ?_
  intro p e s m args below meth c s₁ B hml9 hv
  obtain ⟨rfl, hH, hK9, hB9, hX9, hZ9⟩ := hv
  have hC : CX κ cL_tableau "PhrasehallLaw" 4 p l s m ([.ref (kA κ 7 0), .int y1, .ref (kA κ 41 0)] : List Value).toArray meth c := ⟨B.exec, B.bytes, findClass_of_methodNamed B.named, fun w hw => tw_use (List.mem_filter.mp hw).2 (State.WarmedH.refl s) (hX9.1 w hw), hK9, hX9, hZ9, hB9, hml9, B.notSynchronized⟩
  obtain ⟨hx, hb, hown, hT, -, -, -, -, hml, hlk⟩ := id hC
  have htab : c.exceptionTable.toList = tableOf [(0, 9, 12, 19), (0, 9, 15, 13)] := vx_table (x := yL_tableau) B (hT _ tw_747)
  have hr := B.returns
  have hS : va_S (AA κ) s.heap s.heap [] := va_S.rf
  have hl := lv_entry ([.ref (kA κ 7 0), .int y1, .ref (kA κ 41 0)]) (n := 4) (Nat.le_of_ble_eq_true rfl)
  rw [lg_entry_eq]
  generalize (lg_sl ([.ref (kA κ 7 0), .int y1, .ref (kA κ 41 0)]) ++ List.replicate (4 - (lg_sl ([.ref (kA κ 7 0), .int y1, .ref (kA κ 41 0)])).length) Slot.unset).toArray = ls at hl ⊢
  have hl : lv_has ls 4 [(0, .ref (kA κ 7 0)), (1, .int y1), (2, .ref (kA κ 41 0))] := hl
  refine lv_aload_n hx hb dL_tableau_0 rfl (lv_at hl 2 rfl) ?_
  refine lv_iconst (v := 0) hx hb dL_tableau_1 (by decide) ?_
  refine lv_aload_n hx hb dL_tableau_2 rfl (lv_at hl 0 rfl) ?_
  refine lv_iload_n hx hb dL_tableau_3 rfl (lv_at hl 1 rfl) ?_
  refine k_xcallV (C := RX7) (T := TX7) (N := 10) (rest := [.int 0, .ref (kA κ 41 0)]) hC hl hH hS (c_X7_tableau l hfl κ γ y1 hk) lv_7 rfl rfl tw_748 tw_749 tw_750 tw_57 tw_751 hd_X7_tableau ⟨Nat.le_of_ble_eq_true rfl, Nat.le_of_ble_eq_true rfl⟩ rfl rfl rfl rfl (Nat.le_of_ble_eq_true rfl) dL_tableau_4 ⟨Nat.le_of_ble_eq_true rfl, Nat.le_of_ble_eq_true rfl⟩ rfl (fun he ce q9 H locs hH hS hce hcv hcl => ?_) (fun he H locs hH hS => ?_)
  · rcases hE with h0 | ⟨h1, hn1⟩ | ⟨h1, hn1⟩ | ⟨h1, hn1⟩
    · exact absurd h0 he
    · have e1 : eNm (x_X7_tableau y1 γ).1 = "java/lang/IllegalStateException" := by rw [h1]; rfl
      rw [e1] at hcl
      refine vx_catch (own := "PhrasehallLaw") (name := "java/lang/IllegalStateException") (E := "java/lang/IllegalStateException") hown [⟨0, 9, 12, 19⟩] ⟨0, 9, 15, 13⟩ [] htab (fun z hz => by rw [List.mem_singleton.mp hz]; exact Or.inr ⟨by decide, _, hT _ tw_313, nc_in s hX9 1 rfl⟩) rfl (by decide) (hT _ tw_237) (nw_use rfl (hX9.2.1 _ nw_244)) hce hcv hcl ?_
      refine lv_astore_n (lv' := [(3, .ref q9), (0, .ref (kA κ 7 0)), (1, .int y1), (2, .ref (kA κ 41 0))]) hx hb dL_tableau_15 rfl hl (by decide) rfl (fun ls hl => ?_)
      refine lv_iconst (v := 2) hx hb dL_tableau_16 (by decide) ?_
      exact kw_end hx hb hlk hr KE.rf rfl rfl hH hS (by unfold wG; rw [if_neg (by rw [h1]; decide)]) (by rw [h1]; rfl) (Nat.le_of_ble_eq_true rfl) (Nat.le_of_ble_eq_true rfl) dL_tableau_17
    · exact absurd rfl hn1
    · have e1 : eNm (x_X7_tableau y1 γ).1 = "java/lang/IndexOutOfBoundsException" := by rw [h1]; rfl
      rw [e1] at hcl
      refine vx_catch (own := "PhrasehallLaw") (name := "java/lang/IndexOutOfBoundsException") (E := "java/lang/IndexOutOfBoundsException") hown [] ⟨0, 9, 12, 19⟩ [⟨0, 9, 15, 13⟩] htab (fun z hz => (nomatch hz)) rfl (by decide) (hT _ tw_313) (nw_use rfl (hX9.2.1 _ nw_329)) hce hcv hcl ?_
      refine lv_astore_n (lv' := [(3, .ref q9), (0, .ref (kA κ 7 0)), (1, .int y1), (2, .ref (kA κ 41 0))]) hx hb dL_tableau_12 rfl hl (by decide) rfl (fun ls hl => ?_)
      refine lv_iconst (v := 1) hx hb dL_tableau_13 (by decide) ?_
      exact kw_end hx hb hlk hr KE.rf rfl rfl hH hS (by unfold wG; rw [if_neg (by rw [h1]; decide)]) (by rw [h1]; rfl) (Nat.le_of_ble_eq_true rfl) (Nat.le_of_ble_eq_true rfl) dL_tableau_14
  · refine lv_i2l (v := (x_X7_tableau y1 γ).2.1.toInt64) hx hb dL_tableau_7 rfl ?_
    refine hp_lst hC hH lv_41 lv_u41 (fun _ => rfl) hS vp01 dL_tableau_8 (fun H locs hH hS => ?_)
    refine lv_goto (tgt := 18) hx hb dL_tableau_9 (by decide) ?_
    refine lv_iconst (v := 0) hx hb dL_tableau_18 (by decide) ?_
    exact kw_end hx hb hlk hr KE.rf rfl rfl hH hS (by unfold wG; rw [if_pos he]; rfl) (by unfold wK; rw [if_pos he]) (Nat.le_of_ble_eq_true rfl) (Nat.le_of_ble_eq_true rfl) dL_tableau_19
set_option maxRecDepth 20000 in
set_option maxHeartbeats 4000000 in
theorem cw_wins (l : Launch) (hfl : l.stackTraces = false) (κ : KP) (γ : St) (y1 : Int32) (y2 : Int32) (y3 : Int32) (hk : ok_X7_wins y1 y2 y3 γ) (hE : eIn 3 2 1 (x_X7_wins y1 y2 y3 γ).1) : vx_Met l yL_wins [Cond.codeWith yL_wins cL_wins 6 (some .int) [(0, 12, 15, 19), (0, 12, 19, 21), (0, 12, 23, 13)]] ({ frames := 8, cells := 2, slots := 12, locals := 135 } : Room) (va_Pc [.ref (kA κ 7 0), .int y1, .int y2, .int y3, .ref (kA κ 41 0)] (GG κ γ)) (QE κ (wG (x_X7_wins y1 y2 y3 γ)) 0 (some (.int (wK 3 2 1 (x_X7_wins y1 y2 y3 γ).1))) (kN κ) (kO κ)) (XX κ (wG (x_X7_wins y1 y2 y3 γ)) 0) 2 12 (AA κ) := by
  refine vx_ofWH (cc := cL_wins) (maxL := 6) (ret := (some .int)) (hh := [(0, 12, 15, 19), (0, 12, 19, 21), (0, 12, 23, 13)]) (by decide) rfl ?_
  intro p e s m args below meth c s₁ B hml9 hv
  obtain ⟨rfl, hH, hK9, hB9, hX9, hZ9⟩ := hv
  have hC : CX κ cL_wins "PhrasehallLaw" 6 p l s m ([.ref (kA κ 7 0), .int y1, .int y2, .int y3, .ref (kA κ 41 0)] : List Value).toArray meth c := ⟨B.exec, B.bytes, findClass_of_methodNamed B.named, fun w hw => tw_use (List.mem_filter.mp hw).2 (State.WarmedH.refl s) (hX9.1 w hw), hK9, hX9, hZ9, hB9, hml9, B.notSynchronized⟩
  obtain ⟨hx, hb, hown, hT, -, -, -, -, hml, hlk⟩ := id hC
  have htab : c.exceptionTable.toList = tableOf [(0, 12, 15, 19), (0, 12, 19, 21), (0, 12, 23, 13)] := vx_table (x := yL_wins) B (hT _ tw_814)
  have hr := B.returns
  have hS : va_S (AA κ) s.heap s.heap [] := va_S.rf
  have hl := lv_entry ([.ref (kA κ 7 0), .int y1, .int y2, .int y3, .ref (kA κ 41 0)]) (n := 6) (Nat.le_of_ble_eq_true rfl)
  rw [lg_entry_eq]
  generalize (lg_sl ([.ref (kA κ 7 0), .int y1, .int y2, .int y3, .ref (kA κ 41 0)]) ++ List.replicate (6 - (lg_sl ([.ref (kA κ 7 0), .int y1, .int y2, .int y3, .ref (kA κ 41 0)])).length) Slot.unset).toArray = ls at hl ⊢
  have hl : lv_has ls 6 [(0, .ref (kA κ 7 0)), (1, .int y1), (2, .int y2), (3, .int y3), (4, .ref (kA κ 41 0))] := hl
  refine lv_aload hx hb dL_wins_0 (lv_at hl 4 rfl) ?_
  refine lv_iconst (v := 0) hx hb dL_wins_2 (by decide) ?_
  refine lv_aload_n hx hb dL_wins_3 rfl (lv_at hl 0 rfl) ?_
  refine lv_iload_n hx hb dL_wins_4 rfl (lv_at hl 1 rfl) ?_
  refine lv_iload_n hx hb dL_wins_5 rfl (lv_at hl 2 rfl) ?_
  refine lv_iload_n hx hb dL_wins_6 rfl (lv_at hl 3 rfl) ?_
  refine k_xcallV (C := RX7) (T := TX7) (N := 10) (rest := [.int 0, .ref (kA κ 41 0)]) hC hl hH hS (c_X7_wins l hfl κ γ y1 y2 y3 hk) lv_7 rfl rfl tw_815 tw_816 tw_817 tw_57 tw_818 hd_X7_wins ⟨Nat.le_of_ble_eq_true rfl, Nat.le_of_ble_eq_true rfl⟩ rfl rfl rfl rfl (Nat.le_of_ble_eq_true rfl) dL_wins_7 ⟨Nat.le_of_ble_eq_true rfl, Nat.le_of_ble_eq_true rfl⟩ rfl (fun he ce q9 H locs hH hS hce hcv hcl => ?_) (fun he H locs hH hS => ?_)
  · rcases hE with h0 | ⟨h1, hn1⟩ | ⟨h1, hn1⟩ | ⟨h1, hn1⟩
    · exact absurd h0 he
    · have e1 : eNm (x_X7_wins y1 y2 y3 γ).1 = "java/lang/IllegalStateException" := by rw [h1]; rfl
      rw [e1] at hcl
      refine vx_catch (own := "PhrasehallLaw") (name := "java/lang/IllegalStateException") (E := "java/lang/IllegalStateException") hown [⟨0, 12, 15, 19⟩, ⟨0, 12, 19, 21⟩] ⟨0, 12, 23, 13⟩ [] htab (fun z hz => by
        rcases List.mem_cons.mp hz with rfl | hz
        · exact Or.inr ⟨by decide, _, hT _ tw_313, nc_in s hX9 1 rfl⟩
        · rw [List.mem_singleton.mp hz]; exact Or.inr ⟨by decide, _, hT _ tw_314, nc_in s hX9 0 rfl⟩) rfl (by decide) (hT _ tw_237) (nw_use rfl (hX9.2.1 _ nw_244)) hce hcv hcl ?_
      refine lv_astore (lv' := [(5, .ref q9), (0, .ref (kA κ 7 0)), (1, .int y1), (2, .int y2), (3, .int y3), (4, .ref (kA κ 41 0))]) hx hb dL_wins_23 hl (by decide) rfl (fun ls hl => ?_)
      refine lv_iconst (v := 3) hx hb dL_wins_25 (by decide) ?_
      exact kw_end hx hb hlk hr KE.rf rfl rfl hH hS (by unfold wG; rw [if_neg (by rw [h1]; decide)]) (by rw [h1]; rfl) (Nat.le_of_ble_eq_true rfl) (Nat.le_of_ble_eq_true rfl) dL_wins_26
    · have e1 : eNm (x_X7_wins y1 y2 y3 γ).1 = "java/lang/IllegalArgumentException" := by rw [h1]; rfl
      rw [e1] at hcl
      refine vx_catch (own := "PhrasehallLaw") (name := "java/lang/IllegalArgumentException") (E := "java/lang/IllegalArgumentException") hown [⟨0, 12, 15, 19⟩] ⟨0, 12, 19, 21⟩ [⟨0, 12, 23, 13⟩] htab (fun z hz => by rw [List.mem_singleton.mp hz]; exact Or.inr ⟨by decide, _, hT _ tw_313, nc_in s hX9 2 rfl⟩) rfl (by decide) (hT _ tw_314) (nw_use rfl (hX9.2.1 _ nw_348)) hce hcv hcl ?_
      refine lv_astore (lv' := [(5, .ref q9), (0, .ref (kA κ 7 0)), (1, .int y1), (2, .int y2), (3, .int y3), (4, .ref (kA κ 41 0))]) hx hb dL_wins_19 hl (by decide) rfl (fun ls hl => ?_)
      refine lv_iconst (v := 2) hx hb dL_wins_21 (by decide) ?_
      exact kw_end hx hb hlk hr KE.rf rfl rfl hH hS (by unfold wG; rw [if_neg (by rw [h1]; decide)]) (by rw [h1]; rfl) (Nat.le_of_ble_eq_true rfl) (Nat.le_of_ble_eq_true rfl) dL_wins_22
    · have e1 : eNm (x_X7_wins y1 y2 y3 γ).1 = "java/lang/IndexOutOfBoundsException" := by rw [h1]; rfl
      rw [e1] at hcl
      refine vx_catch (own := "PhrasehallLaw") (name := "java/lang/IndexOutOfBoundsException") (E := "java/lang/IndexOutOfBoundsException") hown [] ⟨0, 12, 15, 19⟩ [⟨0, 12, 19, 21⟩, ⟨0, 12, 23, 13⟩] htab (fun z hz => (nomatch hz)) rfl (by decide) (hT _ tw_313) (nw_use rfl (hX9.2.1 _ nw_329)) hce hcv hcl ?_
      refine lv_astore (lv' := [(5, .ref q9), (0, .ref (kA κ 7 0)), (1, .int y1), (2, .int y2), (3, .int y3), (4, .ref (kA κ 41 0))]) hx hb dL_wins_15 hl (by decide) rfl (fun ls hl => ?_)
      refine lv_iconst (v := 1) hx hb dL_wins_17 (by decide) ?_
      exact kw_end hx hb hlk hr KE.rf rfl rfl hH hS (by unfold wG; rw [if_neg (by rw [h1]; decide)]) (by rw [h1]; rfl) (Nat.le_of_ble_eq_true rfl) (Nat.le_of_ble_eq_true rfl) dL_wins_18
  · refine lv_i2l (v := (x_X7_wins y1 y2 y3 γ).2.1.toInt64) hx hb dL_wins_10 rfl ?_
    refine hp_lst hC hH lv_41 lv_u41 (fun _ => rfl) hS vp01 dL_wins_11 (fun H locs hH hS => ?_)
    refine lv_goto (tgt := 27) hx hb dL_wins_12 (by decide) ?_
    refine lv_iconst (v := 0) hx hb dL_wins_27 (by decide) ?_
    exact kw_end hx hb hlk hr KE.rf rfl rfl hH hS (by unfold wG; rw [if_pos he]; rfl) (by unfold wK; rw [if_pos he]) (Nat.le_of_ble_eq_true rfl) (Nat.le_of_ble_eq_true rfl) dL_wins_28
set_option maxRecDepth 20000 in
set_option maxHeartbeats 4000000 in
theorem cw_lamp (l : Launch) (hfl : l.stackTraces = false) (κ : KP) (γ : St) (y1 : Int32) (hk : ok_X7_lamp y1 γ) (hE : eIn 0 1 0 (x_X7_lamp y1 γ).1) : vx_Met l yL_lamp [Cond.codeWith yL_lamp cL_lamp 4 (some .int) [(0, 9, 12, 21)]] ({ frames := 7, cells := 1, slots := 6, locals := 111 } : Room) (va_Pc [.ref (kA κ 7 0), .int y1, .ref (kA κ 41 0)] (GG κ γ)) (QE κ (wG (x_X7_lamp y1 γ)) 0 (some (.int (wK 0 1 0 (x_X7_lamp y1 γ).1))) (kN κ) (kO κ)) (XX κ (wG (x_X7_lamp y1 γ)) 0) 1 6 (AA κ) := by
  refine vx_ofWH (cc := cL_lamp) (maxL := 4) (ret := (some .int)) (hh := [(0, 9, 12, 21)]) (by decide) rfl ?_
  intro p e s m args below meth c s₁ B hml9 hv
  obtain ⟨rfl, hH, hK9, hB9, hX9, hZ9⟩ := hv
  have hC : CX κ cL_lamp "PhrasehallLaw" 4 p l s m ([.ref (kA κ 7 0), .int y1, .ref (kA κ 41 0)] : List Value).toArray meth c := ⟨B.exec, B.bytes, findClass_of_methodNamed B.named, fun w hw => tw_use (List.mem_filter.mp hw).2 (State.WarmedH.refl s) (hX9.1 w hw), hK9, hX9, hZ9, hB9, hml9, B.notSynchronized⟩
  obtain ⟨hx, hb, hown, hT, -, -, -, -, hml, hlk⟩ := id hC
  have htab : c.exceptionTable.toList = tableOf [(0, 9, 12, 21)] := vx_table (x := yL_lamp) B (hT _ tw_856)
  have hr := B.returns
  have hS : va_S (AA κ) s.heap s.heap [] := va_S.rf
  have hl := lv_entry ([.ref (kA κ 7 0), .int y1, .ref (kA κ 41 0)]) (n := 4) (Nat.le_of_ble_eq_true rfl)
  rw [lg_entry_eq]
  generalize (lg_sl ([.ref (kA κ 7 0), .int y1, .ref (kA κ 41 0)]) ++ List.replicate (4 - (lg_sl ([.ref (kA κ 7 0), .int y1, .ref (kA κ 41 0)])).length) Slot.unset).toArray = ls at hl ⊢
  have hl : lv_has ls 4 [(0, .ref (kA κ 7 0)), (1, .int y1), (2, .ref (kA κ 41 0))] := hl
  refine lv_aload_n hx hb dL_lamp_0 rfl (lv_at hl 2 rfl) ?_
  refine lv_iconst (v := 0) hx hb dL_lamp_1 (by decide) ?_
  refine lv_aload_n hx hb dL_lamp_2 rfl (lv_at hl 0 rfl) ?_
  refine lv_iload_n hx hb dL_lamp_3 rfl (lv_at hl 1 rfl) ?_
  refine k_xcallV (C := RX7) (T := TX7) (N := 10) (rest := [.int 0, .ref (kA κ 41 0)]) hC hl hH hS (c_X7_lamp l hfl κ γ y1 hk) lv_7 rfl rfl tw_857 tw_858 tw_859 tw_57 tw_860 hd_X7_lamp ⟨Nat.le_of_ble_eq_true rfl, Nat.le_of_ble_eq_true rfl⟩ rfl rfl rfl rfl (Nat.le_of_ble_eq_true rfl) dL_lamp_4 ⟨Nat.le_of_ble_eq_true rfl, Nat.le_of_ble_eq_true rfl⟩ rfl (fun he ce q9 H locs hH hS hce hcv hcl => ?_) (fun he H locs hH hS => ?_)
  · rcases hE with h0 | ⟨h1, hn1⟩ | ⟨h1, hn1⟩ | ⟨h1, hn1⟩
    · exact absurd h0 he
    · exact absurd rfl hn1
    · have e1 : eNm (x_X7_lamp y1 γ).1 = "java/lang/IllegalArgumentException" := by rw [h1]; rfl
      rw [e1] at hcl
      refine vx_catch (own := "PhrasehallLaw") (name := "java/lang/IllegalArgumentException") (E := "java/lang/IllegalArgumentException") hown [] ⟨0, 9, 12, 21⟩ [] htab (fun z hz => (nomatch hz)) rfl (by decide) (hT _ tw_314) (nw_use rfl (hX9.2.1 _ nw_348)) hce hcv hcl ?_
      refine lv_astore_n (lv' := [(3, .ref q9), (0, .ref (kA κ 7 0)), (1, .int y1), (2, .ref (kA κ 41 0))]) hx hb dL_lamp_12 rfl hl (by decide) rfl (fun ls hl => ?_)
      refine lv_iconst (v := 1) hx hb dL_lamp_13 (by decide) ?_
      exact kw_end hx hb hlk hr KE.rf rfl rfl hH hS (by unfold wG; rw [if_neg (by rw [h1]; decide)]) (by rw [h1]; rfl) (Nat.le_of_ble_eq_true rfl) (Nat.le_of_ble_eq_true rfl) dL_lamp_14
    · exact absurd rfl hn1
  · refine lv_i2l (v := (x_X7_lamp y1 γ).2.1.toInt64) hx hb dL_lamp_7 rfl ?_
    refine hp_lst hC hH lv_41 lv_u41 (fun _ => rfl) hS vp01 dL_lamp_8 (fun H locs hH hS => ?_)
    refine lv_goto (tgt := 15) hx hb dL_lamp_9 (by decide) ?_
    refine lv_iconst (v := 0) hx hb dL_lamp_15 (by decide) ?_
    exact kw_end hx hb hlk hr KE.rf rfl rfl hH hS (by unfold wG; rw [if_pos he]; rfl) (by unfold wK; rw [if_pos he]) (Nat.le_of_ble_eq_true rfl) (Nat.le_of_ble_eq_true rfl) dL_lamp_16
set_option maxRecDepth 20000 in
set_option maxHeartbeats 4000000 in
theorem cw_ofBout (l : Launch) (hfl : l.stackTraces = false) (κ : KP) (γ : St) (y1 : Int32) (y2 : Int32) (hk : ok_X7_ofBout y1 y2 γ) (hE : eIn 0 2 1 (x_X7_ofBout y1 y2 γ).1) : vx_Met l yL_ofBout [Cond.codeWith yL_ofBout cL_ofBout 5 (some .int) [(0, 10, 13, 19), (0, 10, 17, 21)]] ({ frames := 7, cells := 1, slots := 6, locals := 113 } : Room) (va_Pc [.ref (kA κ 7 0), .int y1, .int y2, .ref (kA κ 41 0)] (GG κ γ)) (QE κ (wG (x_X7_ofBout y1 y2 γ)) 0 (some (.int (wK 0 2 1 (x_X7_ofBout y1 y2 γ).1))) (kN κ) (kO κ)) (XX κ (wG (x_X7_ofBout y1 y2 γ)) 0) 1 6 (AA κ) := by
  refine vx_ofWH (cc := cL_ofBout) (maxL := 5) (ret := (some .int)) (hh := [(0, 10, 13, 19), (0, 10, 17, 21)]) (by decide) rfl ?_
  intro p e s m args below meth c s₁ B hml9 hv
  obtain ⟨rfl, hH, hK9, hB9, hX9, hZ9⟩ := hv
  have hC : CX κ cL_ofBout "PhrasehallLaw" 5 p l s m ([.ref (kA κ 7 0), .int y1, .int y2, .ref (kA κ 41 0)] : List Value).toArray meth c := ⟨B.exec, B.bytes, findClass_of_methodNamed B.named, fun w hw => tw_use (List.mem_filter.mp hw).2 (State.WarmedH.refl s) (hX9.1 w hw), hK9, hX9, hZ9, hB9, hml9, B.notSynchronized⟩
  obtain ⟨hx, hb, hown, hT, -, -, -, -, hml, hlk⟩ := id hC
  have htab : c.exceptionTable.toList = tableOf [(0, 10, 13, 19), (0, 10, 17, 21)] := vx_table (x := yL_ofBout) B (hT _ tw_863)
  have hr := B.returns
  have hS : va_S (AA κ) s.heap s.heap [] := va_S.rf
  have hl := lv_entry ([.ref (kA κ 7 0), .int y1, .int y2, .ref (kA κ 41 0)]) (n := 5) (Nat.le_of_ble_eq_true rfl)
  rw [lg_entry_eq]
  generalize (lg_sl ([.ref (kA κ 7 0), .int y1, .int y2, .ref (kA κ 41 0)]) ++ List.replicate (5 - (lg_sl ([.ref (kA κ 7 0), .int y1, .int y2, .ref (kA κ 41 0)])).length) Slot.unset).toArray = ls at hl ⊢
  have hl : lv_has ls 5 [(0, .ref (kA κ 7 0)), (1, .int y1), (2, .int y2), (3, .ref (kA κ 41 0))] := hl
  refine lv_aload_n hx hb dL_ofBout_0 rfl (lv_at hl 3 rfl) ?_
  refine lv_iconst (v := 0) hx hb dL_ofBout_1 (by decide) ?_
  refine lv_aload_n hx hb dL_ofBout_2 rfl (lv_at hl 0 rfl) ?_
  refine lv_iload_n hx hb dL_ofBout_3 rfl (lv_at hl 1 rfl) ?_
  refine lv_iload_n hx hb dL_ofBout_4 rfl (lv_at hl 2 rfl) ?_
  refine k_xcallV (C := RX7) (T := TX7) (N := 10) (rest := [.int 0, .ref (kA κ 41 0)]) hC hl hH hS (c_X7_ofBout l hfl κ γ y1 y2 hk) lv_7 rfl rfl tw_864 tw_865 tw_866 tw_57 tw_867 hd_X7_ofBout ⟨Nat.le_of_ble_eq_true rfl, Nat.le_of_ble_eq_true rfl⟩ rfl rfl rfl rfl (Nat.le_of_ble_eq_true rfl) dL_ofBout_5 ⟨Nat.le_of_ble_eq_true rfl, Nat.le_of_ble_eq_true rfl⟩ rfl (fun he ce q9 H locs hH hS hce hcv hcl => ?_) (fun he H locs hH hS => ?_)
  · rcases hE with h0 | ⟨h1, hn1⟩ | ⟨h1, hn1⟩ | ⟨h1, hn1⟩
    · exact absurd h0 he
    · exact absurd rfl hn1
    · have e1 : eNm (x_X7_ofBout y1 y2 γ).1 = "java/lang/IllegalArgumentException" := by rw [h1]; rfl
      rw [e1] at hcl
      refine vx_catch (own := "PhrasehallLaw") (name := "java/lang/IllegalArgumentException") (E := "java/lang/IllegalArgumentException") hown [⟨0, 10, 13, 19⟩] ⟨0, 10, 17, 21⟩ [] htab (fun z hz => by rw [List.mem_singleton.mp hz]; exact Or.inr ⟨by decide, _, hT _ tw_313, nc_in s hX9 2 rfl⟩) rfl (by decide) (hT _ tw_314) (nw_use rfl (hX9.2.1 _ nw_348)) hce hcv hcl ?_
      refine lv_astore (lv' := [(4, .ref q9), (0, .ref (kA κ 7 0)), (1, .int y1), (2, .int y2), (3, .ref (kA κ 41 0))]) hx hb dL_ofBout_17 hl (by decide) rfl (fun ls hl => ?_)
      refine lv_iconst (v := 2) hx hb dL_ofBout_19 (by decide) ?_
      exact kw_end hx hb hlk hr KE.rf rfl rfl hH hS (by unfold wG; rw [if_neg (by rw [h1]; decide)]) (by rw [h1]; rfl) (Nat.le_of_ble_eq_true rfl) (Nat.le_of_ble_eq_true rfl) dL_ofBout_20
    · have e1 : eNm (x_X7_ofBout y1 y2 γ).1 = "java/lang/IndexOutOfBoundsException" := by rw [h1]; rfl
      rw [e1] at hcl
      refine vx_catch (own := "PhrasehallLaw") (name := "java/lang/IndexOutOfBoundsException") (E := "java/lang/IndexOutOfBoundsException") hown [] ⟨0, 10, 13, 19⟩ [⟨0, 10, 17, 21⟩] htab (fun z hz => (nomatch hz)) rfl (by decide) (hT _ tw_313) (nw_use rfl (hX9.2.1 _ nw_329)) hce hcv hcl ?_
      refine lv_astore (lv' := [(4, .ref q9), (0, .ref (kA κ 7 0)), (1, .int y1), (2, .int y2), (3, .ref (kA κ 41 0))]) hx hb dL_ofBout_13 hl (by decide) rfl (fun ls hl => ?_)
      refine lv_iconst (v := 1) hx hb dL_ofBout_15 (by decide) ?_
      exact kw_end hx hb hlk hr KE.rf rfl rfl hH hS (by unfold wG; rw [if_neg (by rw [h1]; decide)]) (by rw [h1]; rfl) (Nat.le_of_ble_eq_true rfl) (Nat.le_of_ble_eq_true rfl) dL_ofBout_16
  · refine lv_i2l (v := (x_X7_ofBout y1 y2 γ).2.1.toInt64) hx hb dL_ofBout_8 rfl ?_
    refine hp_lst hC hH lv_41 lv_u41 (fun _ => rfl) hS vp01 dL_ofBout_9 (fun H locs hH hS => ?_)
    refine lv_goto (tgt := 21) hx hb dL_ofBout_10 (by decide) ?_
    refine lv_iconst (v := 0) hx hb dL_ofBout_21 (by decide) ?_
    exact kw_end hx hb hlk hr KE.rf rfl rfl hH hS (by unfold wG; rw [if_pos he]; rfl) (by unfold wK; rw [if_pos he]) (Nat.le_of_ble_eq_true rfl) (Nat.le_of_ble_eq_true rfl) dL_ofBout_22
set_option maxRecDepth 20000 in
set_option maxHeartbeats 4000000 in
theorem cw_ofPool (l : Launch) (hfl : l.stackTraces = false) (κ : KP) (γ : St) (y1 : Int32) (y2 : Int32) (y3 : Int32) (hk : ok_X7_ofPool y1 y2 y3 γ) (hE : eIn 0 2 1 (x_X7_ofPool y1 y2 y3 γ).1) : vx_Met l yL_ofPool [Cond.codeWith yL_ofPool cL_ofPool 6 (some .int) [(0, 12, 15, 19), (0, 12, 19, 21)]] ({ frames := 8, cells := 2, slots := 12, locals := 137 } : Room) (va_Pc [.ref (kA κ 7 0), .int y1, .int y2, .int y3, .ref (kA κ 41 0)] (GG κ γ)) (QE κ (wG (x_X7_ofPool y1 y2 y3 γ)) 0 (some (.int (wK 0 2 1 (x_X7_ofPool y1 y2 y3 γ).1))) (kN κ) (kO κ)) (XX κ (wG (x_X7_ofPool y1 y2 y3 γ)) 0) 2 12 (AA κ) := by
  refine vx_ofWH (cc := cL_ofPool) (maxL := 6) (ret := (some .int)) (hh := [(0, 12, 15, 19), (0, 12, 19, 21)]) (by decide) rfl ?_
  intro p e s m args below meth c s₁ B hml9 hv
  obtain ⟨rfl, hH, hK9, hB9, hX9, hZ9⟩ := hv
  have hC : CX κ cL_ofPool "PhrasehallLaw" 6 p l s m ([.ref (kA κ 7 0), .int y1, .int y2, .int y3, .ref (kA κ 41 0)] : List Value).toArray meth c := ⟨B.exec, B.bytes, findClass_of_methodNamed B.named, fun w hw => tw_use (List.mem_filter.mp hw).2 (State.WarmedH.refl s) (hX9.1 w hw), hK9, hX9, hZ9, hB9, hml9, B.notSynchronized⟩
  obtain ⟨hx, hb, hown, hT, -, -, -, -, hml, hlk⟩ := id hC
  have htab : c.exceptionTable.toList = tableOf [(0, 12, 15, 19), (0, 12, 19, 21)] := vx_table (x := yL_ofPool) B (hT _ tw_876)
  have hr := B.returns
  have hS : va_S (AA κ) s.heap s.heap [] := va_S.rf
  have hl := lv_entry ([.ref (kA κ 7 0), .int y1, .int y2, .int y3, .ref (kA κ 41 0)]) (n := 6) (Nat.le_of_ble_eq_true rfl)
  rw [lg_entry_eq]
  generalize (lg_sl ([.ref (kA κ 7 0), .int y1, .int y2, .int y3, .ref (kA κ 41 0)]) ++ List.replicate (6 - (lg_sl ([.ref (kA κ 7 0), .int y1, .int y2, .int y3, .ref (kA κ 41 0)])).length) Slot.unset).toArray = ls at hl ⊢
  have hl : lv_has ls 6 [(0, .ref (kA κ 7 0)), (1, .int y1), (2, .int y2), (3, .int y3), (4, .ref (kA κ 41 0))] := hl
  refine lv_aload hx hb dL_ofPool_0 (lv_at hl 4 rfl) ?_
  refine lv_iconst (v := 0) hx hb dL_ofPool_2 (by decide) ?_
  refine lv_aload_n hx hb dL_ofPool_3 rfl (lv_at hl 0 rfl) ?_
  refine lv_iload_n hx hb dL_ofPool_4 rfl (lv_at hl 1 rfl) ?_
  refine lv_iload_n hx hb dL_ofPool_5 rfl (lv_at hl 2 rfl) ?_
  refine lv_iload_n hx hb dL_ofPool_6 rfl (lv_at hl 3 rfl) ?_
  refine k_xcallV (C := RX7) (T := TX7) (N := 10) (rest := [.int 0, .ref (kA κ 41 0)]) hC hl hH hS (c_X7_ofPool l hfl κ γ y1 y2 y3 hk) lv_7 rfl rfl tw_877 tw_878 tw_879 tw_57 tw_880 hd_X7_ofPool ⟨Nat.le_of_ble_eq_true rfl, Nat.le_of_ble_eq_true rfl⟩ rfl rfl rfl rfl (Nat.le_of_ble_eq_true rfl) dL_ofPool_7 ⟨Nat.le_of_ble_eq_true rfl, Nat.le_of_ble_eq_true rfl⟩ rfl (fun he ce q9 H locs hH hS hce hcv hcl => ?_) (fun he H locs hH hS => ?_)
  · rcases hE with h0 | ⟨h1, hn1⟩ | ⟨h1, hn1⟩ | ⟨h1, hn1⟩
    · exact absurd h0 he
    · exact absurd rfl hn1
    · have e1 : eNm (x_X7_ofPool y1 y2 y3 γ).1 = "java/lang/IllegalArgumentException" := by rw [h1]; rfl
      rw [e1] at hcl
      refine vx_catch (own := "PhrasehallLaw") (name := "java/lang/IllegalArgumentException") (E := "java/lang/IllegalArgumentException") hown [⟨0, 12, 15, 19⟩] ⟨0, 12, 19, 21⟩ [] htab (fun z hz => by rw [List.mem_singleton.mp hz]; exact Or.inr ⟨by decide, _, hT _ tw_313, nc_in s hX9 2 rfl⟩) rfl (by decide) (hT _ tw_314) (nw_use rfl (hX9.2.1 _ nw_348)) hce hcv hcl ?_
      refine lv_astore (lv' := [(5, .ref q9), (0, .ref (kA κ 7 0)), (1, .int y1), (2, .int y2), (3, .int y3), (4, .ref (kA κ 41 0))]) hx hb dL_ofPool_19 hl (by decide) rfl (fun ls hl => ?_)
      refine lv_iconst (v := 2) hx hb dL_ofPool_21 (by decide) ?_
      exact kw_end hx hb hlk hr KE.rf rfl rfl hH hS (by unfold wG; rw [if_neg (by rw [h1]; decide)]) (by rw [h1]; rfl) (Nat.le_of_ble_eq_true rfl) (Nat.le_of_ble_eq_true rfl) dL_ofPool_22
    · have e1 : eNm (x_X7_ofPool y1 y2 y3 γ).1 = "java/lang/IndexOutOfBoundsException" := by rw [h1]; rfl
      rw [e1] at hcl
      refine vx_catch (own := "PhrasehallLaw") (name := "java/lang/IndexOutOfBoundsException") (E := "java/lang/IndexOutOfBoundsException") hown [] ⟨0, 12, 15, 19⟩ [⟨0, 12, 19, 21⟩] htab (fun z hz => (nomatch hz)) rfl (by decide) (hT _ tw_313) (nw_use rfl (hX9.2.1 _ nw_329)) hce hcv hcl ?_
      refine lv_astore (lv' := [(5, .ref q9), (0, .ref (kA κ 7 0)), (1, .int y1), (2, .int y2), (3, .int y3), (4, .ref (kA κ 41 0))]) hx hb dL_ofPool_15 hl (by decide) rfl (fun ls hl => ?_)
      refine lv_iconst (v := 1) hx hb dL_ofPool_17 (by decide) ?_
      exact kw_end hx hb hlk hr KE.rf rfl rfl hH hS (by unfold wG; rw [if_neg (by rw [h1]; decide)]) (by rw [h1]; rfl) (Nat.le_of_ble_eq_true rfl) (Nat.le_of_ble_eq_true rfl) dL_ofPool_18
  · refine lv_i2l (v := (x_X7_ofPool y1 y2 y3 γ).2.1.toInt64) hx hb dL_ofPool_10 rfl ?_
    refine hp_lst hC hH lv_41 lv_u41 (fun _ => rfl) hS vp01 dL_ofPool_11 (fun H locs hH hS => ?_)
    refine lv_goto (tgt := 23) hx hb dL_ofPool_12 (by decide) ?_
    refine lv_iconst (v := 0) hx hb dL_ofPool_23 (by decide) ?_
    exact kw_end hx hb hlk hr KE.rf rfl rfl hH hS (by unfold wG; rw [if_pos he]; rfl) (by unfold wK; rw [if_pos he]) (Nat.le_of_ble_eq_true rfl) (Nat.le_of_ble_eq_true rfl) dL_ofPool_24
set_option maxRecDepth 20000 in
set_option maxHeartbeats 4000000 in
theorem cw_ofPoolAnew (l : Launch) (hfl : l.stackTraces = false) (κ : KP) (γ : St) (y1 : Int32) (y2 : Int32) (y3 : Int32) (hk : ok_X7_ofPoolAnew y1 y2 y3 γ) (hE : eIn 0 2 1 (x_X7_ofPoolAnew y1 y2 y3 γ).1) : vx_Met l yL_ofPoolAnew [Cond.codeWith yL_ofPoolAnew cL_ofPoolAnew 6 (some .int) [(0, 12, 15, 19), (0, 12, 19, 21)]] ({ frames := 8, cells := 2, slots := 12, locals := 140 } : Room) (va_Pc [.ref (kA κ 7 0), .int y1, .int y2, .int y3, .ref (kA κ 41 0)] (GG κ γ)) (QE κ (wG (x_X7_ofPoolAnew y1 y2 y3 γ)) 0 (some (.int (wK 0 2 1 (x_X7_ofPoolAnew y1 y2 y3 γ).1))) (kN κ) (kO κ)) (XX κ (wG (x_X7_ofPoolAnew y1 y2 y3 γ)) 0) 2 12 (AA κ) := by
  refine vx_ofWH (cc := cL_ofPoolAnew) (maxL := 6) (ret := (some .int)) (hh := [(0, 12, 15, 19), (0, 12, 19, 21)]) (by decide) rfl ?_
  intro p e s m args below meth c s₁ B hml9 hv
  obtain ⟨rfl, hH, hK9, hB9, hX9, hZ9⟩ := hv
  have hC : CX κ cL_ofPoolAnew "PhrasehallLaw" 6 p l s m ([.ref (kA κ 7 0), .int y1, .int y2, .int y3, .ref (kA κ 41 0)] : List Value).toArray meth c := ⟨B.exec, B.bytes, findClass_of_methodNamed B.named, fun w hw => tw_use (List.mem_filter.mp hw).2 (State.WarmedH.refl s) (hX9.1 w hw), hK9, hX9, hZ9, hB9, hml9, B.notSynchronized⟩
  obtain ⟨hx, hb, hown, hT, -, -, -, -, hml, hlk⟩ := id hC
  have htab : c.exceptionTable.toList = tableOf [(0, 12, 15, 19), (0, 12, 19, 21)] := vx_table (x := yL_ofPoolAnew) B (hT _ tw_887)
  have hr := B.returns
  have hS : va_S (AA κ) s.heap s.heap [] := va_S.rf
  have hl := lv_entry ([.ref (kA κ 7 0), .int y1, .int y2, .int y3, .ref (kA κ 41 0)]) (n := 6) (Nat.le_of_ble_eq_true rfl)
  rw [lg_entry_eq]
  generalize (lg_sl ([.ref (kA κ 7 0), .int y1, .int y2, .int y3, .ref (kA κ 41 0)]) ++ List.replicate (6 - (lg_sl ([.ref (kA κ 7 0), .int y1, .int y2, .int y3, .ref (kA κ 41 0)])).length) Slot.unset).toArray = ls at hl ⊢
  have hl : lv_has ls 6 [(0, .ref (kA κ 7 0)), (1, .int y1), (2, .int y2), (3, .int y3), (4, .ref (kA κ 41 0))] := hl
  refine lv_aload hx hb dL_ofPoolAnew_0 (lv_at hl 4 rfl) ?_
  refine lv_iconst (v := 0) hx hb dL_ofPoolAnew_2 (by decide) ?_
  refine lv_aload_n hx hb dL_ofPoolAnew_3 rfl (lv_at hl 0 rfl) ?_
  refine lv_iload_n hx hb dL_ofPoolAnew_4 rfl (lv_at hl 1 rfl) ?_
  refine lv_iload_n hx hb dL_ofPoolAnew_5 rfl (lv_at hl 2 rfl) ?_
  refine lv_iload_n hx hb dL_ofPoolAnew_6 rfl (lv_at hl 3 rfl) ?_
  refine k_xcallV (C := RX7) (T := TX7) (N := 10) (rest := [.int 0, .ref (kA κ 41 0)]) hC hl hH hS (c_X7_ofPoolAnew l hfl κ γ y1 y2 y3 hk) lv_7 rfl rfl tw_888 tw_889 tw_890 tw_57 tw_891 hd_X7_ofPoolAnew ⟨Nat.le_of_ble_eq_true rfl, Nat.le_of_ble_eq_true rfl⟩ rfl rfl rfl rfl (Nat.le_of_ble_eq_true rfl) dL_ofPoolAnew_7 ⟨Nat.le_of_ble_eq_true rfl, Nat.le_of_ble_eq_true rfl⟩ rfl (fun he ce q9 H locs hH hS hce hcv hcl => ?_) (fun he H locs hH hS => ?_)
  · rcases hE with h0 | ⟨h1, hn1⟩ | ⟨h1, hn1⟩ | ⟨h1, hn1⟩
    · exact absurd h0 he
    · exact absurd rfl hn1
    · have e1 : eNm (x_X7_ofPoolAnew y1 y2 y3 γ).1 = "java/lang/IllegalArgumentException" := by rw [h1]; rfl
      rw [e1] at hcl
      refine vx_catch (own := "PhrasehallLaw") (name := "java/lang/IllegalArgumentException") (E := "java/lang/IllegalArgumentException") hown [⟨0, 12, 15, 19⟩] ⟨0, 12, 19, 21⟩ [] htab (fun z hz => by rw [List.mem_singleton.mp hz]; exact Or.inr ⟨by decide, _, hT _ tw_313, nc_in s hX9 2 rfl⟩) rfl (by decide) (hT _ tw_314) (nw_use rfl (hX9.2.1 _ nw_348)) hce hcv hcl ?_
      refine lv_astore (lv' := [(5, .ref q9), (0, .ref (kA κ 7 0)), (1, .int y1), (2, .int y2), (3, .int y3), (4, .ref (kA κ 41 0))]) hx hb dL_ofPoolAnew_19 hl (by decide) rfl (fun ls hl => ?_)
      refine lv_iconst (v := 2) hx hb dL_ofPoolAnew_21 (by decide) ?_
      exact kw_end hx hb hlk hr KE.rf rfl rfl hH hS (by unfold wG; rw [if_neg (by rw [h1]; decide)]) (by rw [h1]; rfl) (Nat.le_of_ble_eq_true rfl) (Nat.le_of_ble_eq_true rfl) dL_ofPoolAnew_22
    · have e1 : eNm (x_X7_ofPoolAnew y1 y2 y3 γ).1 = "java/lang/IndexOutOfBoundsException" := by rw [h1]; rfl
      rw [e1] at hcl
      refine vx_catch (own := "PhrasehallLaw") (name := "java/lang/IndexOutOfBoundsException") (E := "java/lang/IndexOutOfBoundsException") hown [] ⟨0, 12, 15, 19⟩ [⟨0, 12, 19, 21⟩] htab (fun z hz => (nomatch hz)) rfl (by decide) (hT _ tw_313) (nw_use rfl (hX9.2.1 _ nw_329)) hce hcv hcl ?_
      refine lv_astore (lv' := [(5, .ref q9), (0, .ref (kA κ 7 0)), (1, .int y1), (2, .int y2), (3, .int y3), (4, .ref (kA κ 41 0))]) hx hb dL_ofPoolAnew_15 hl (by decide) rfl (fun ls hl => ?_)
      refine lv_iconst (v := 1) hx hb dL_ofPoolAnew_17 (by decide) ?_
      exact kw_end hx hb hlk hr KE.rf rfl rfl hH hS (by unfold wG; rw [if_neg (by rw [h1]; decide)]) (by rw [h1]; rfl) (Nat.le_of_ble_eq_true rfl) (Nat.le_of_ble_eq_true rfl) dL_ofPoolAnew_18
  · refine lv_i2l (v := (x_X7_ofPoolAnew y1 y2 y3 γ).2.1.toInt64) hx hb dL_ofPoolAnew_10 rfl ?_
    refine hp_lst hC hH lv_41 lv_u41 (fun _ => rfl) hS vp01 dL_ofPoolAnew_11 (fun H locs hH hS => ?_)
    refine lv_goto (tgt := 23) hx hb dL_ofPoolAnew_12 (by decide) ?_
    refine lv_iconst (v := 0) hx hb dL_ofPoolAnew_23 (by decide) ?_
    exact kw_end hx hb hlk hr KE.rf rfl rfl hH hS (by unfold wG; rw [if_pos he]; rfl) (by unfold wK; rw [if_pos he]) (Nat.le_of_ble_eq_true rfl) (Nat.le_of_ble_eq_true rfl) dL_ofPoolAnew_24
set_option maxRecDepth 20000 in
set_option maxHeartbeats 4000000 in
theorem cw_rank (l : Launch) (hfl : l.stackTraces = false) (κ : KP) (γ : St) (y1 : Int32) (y2 : Int32) (hk : ok_X7_rank y1 y2 γ) (hE : eIn 0 0 1 (x_X7_rank y1 y2 γ).1) : vx_Met l yL_rank [Cond.codeWith yL_rank cL_rank 5 (some .int) [(0, 10, 13, 19)]] ({ frames := 7, cells := 1, slots := 6, locals := 136 } : Room) (va_Pc [.ref (kA κ 7 0), .int y1, .int y2, .ref (kA κ 41 0)] (GG κ γ)) (QE κ (wG (x_X7_rank y1 y2 γ)) 0 (some (.int (wK 0 0 1 (x_X7_rank y1 y2 γ).1))) (kN κ) (kO κ)) (XX κ (wG (x_X7_rank y1 y2 γ)) 0) 1 6 (AA κ) := by
  refine vx_ofWH (cc := cL_rank) (maxL := 5) (ret := (some .int)) (hh := [(0, 10, 13, 19)]) (by decide) rfl ?_
  intro p e s m args below meth c s₁ B hml9 hv
  obtain ⟨rfl, hH, hK9, hB9, hX9, hZ9⟩ := hv
  have hC : CX κ cL_rank "PhrasehallLaw" 5 p l s m ([.ref (kA κ 7 0), .int y1, .int y2, .ref (kA κ 41 0)] : List Value).toArray meth c := ⟨B.exec, B.bytes, findClass_of_methodNamed B.named, fun w hw => tw_use (List.mem_filter.mp hw).2 (State.WarmedH.refl s) (hX9.1 w hw), hK9, hX9, hZ9, hB9, hml9, B.notSynchronized⟩
  obtain ⟨hx, hb, hown, hT, -, -, -, -, hml, hlk⟩ := id hC
  have htab : c.exceptionTable.toList = tableOf [(0, 10, 13, 19)] := vx_table (x := yL_rank) B (hT _ tw_899)
  have hr := B.returns
  have hS : va_S (AA κ) s.heap s.heap [] := va_S.rf
  have hl := lv_entry ([.ref (kA κ 7 0), .int y1, .int y2, .ref (kA κ 41 0)]) (n := 5) (Nat.le_of_ble_eq_true rfl)
  rw [lg_entry_eq]
  generalize (lg_sl ([.ref (kA κ 7 0), .int y1, .int y2, .ref (kA κ 41 0)]) ++ List.replicate (5 - (lg_sl ([.ref (kA κ 7 0), .int y1, .int y2, .ref (kA κ 41 0)])).length) Slot.unset).toArray = ls at hl ⊢
  have hl : lv_has ls 5 [(0, .ref (kA κ 7 0)), (1, .int y1), (2, .int y2), (3, .ref (kA κ 41 0))] := hl
  refine lv_aload_n hx hb dL_rank_0 rfl (lv_at hl 3 rfl) ?_
  refine lv_iconst (v := 0) hx hb dL_rank_1 (by decide) ?_
  refine lv_aload_n hx hb dL_rank_2 rfl (lv_at hl 0 rfl) ?_
  refine lv_iload_n hx hb dL_rank_3 rfl (lv_at hl 1 rfl) ?_
  refine lv_iload_n hx hb dL_rank_4 rfl (lv_at hl 2 rfl) ?_
  refine k_xcallV (C := RX7) (T := TX7) (N := 10) (rest := [.int 0, .ref (kA κ 41 0)]) hC hl hH hS (c_X7_rank l hfl κ γ y1 y2 hk) lv_7 rfl rfl tw_900 tw_901 tw_902 tw_57 tw_903 hd_X7_rank ⟨Nat.le_of_ble_eq_true rfl, Nat.le_of_ble_eq_true rfl⟩ rfl rfl rfl rfl (Nat.le_of_ble_eq_true rfl) dL_rank_5 ⟨Nat.le_of_ble_eq_true rfl, Nat.le_of_ble_eq_true rfl⟩ rfl (fun he ce q9 H locs hH hS hce hcv hcl => ?_) (fun he H locs hH hS => ?_)
  · rcases hE with h0 | ⟨h1, hn1⟩ | ⟨h1, hn1⟩ | ⟨h1, hn1⟩
    · exact absurd h0 he
    · exact absurd rfl hn1
    · exact absurd rfl hn1
    · have e1 : eNm (x_X7_rank y1 y2 γ).1 = "java/lang/IndexOutOfBoundsException" := by rw [h1]; rfl
      rw [e1] at hcl
      refine vx_catch (own := "PhrasehallLaw") (name := "java/lang/IndexOutOfBoundsException") (E := "java/lang/IndexOutOfBoundsException") hown [] ⟨0, 10, 13, 19⟩ [] htab (fun z hz => (nomatch hz)) rfl (by decide) (hT _ tw_313) (nw_use rfl (hX9.2.1 _ nw_329)) hce hcv hcl ?_
      refine lv_astore (lv' := [(4, .ref q9), (0, .ref (kA κ 7 0)), (1, .int y1), (2, .int y2), (3, .ref (kA κ 41 0))]) hx hb dL_rank_13 hl (by decide) rfl (fun ls hl => ?_)
      refine lv_iconst (v := 1) hx hb dL_rank_15 (by decide) ?_
      exact kw_end hx hb hlk hr KE.rf rfl rfl hH hS (by unfold wG; rw [if_neg (by rw [h1]; decide)]) (by rw [h1]; rfl) (Nat.le_of_ble_eq_true rfl) (Nat.le_of_ble_eq_true rfl) dL_rank_16
  · refine lv_i2l (v := (x_X7_rank y1 y2 γ).2.1.toInt64) hx hb dL_rank_8 rfl ?_
    refine hp_lst hC hH lv_41 lv_u41 (fun _ => rfl) hS vp01 dL_rank_9 (fun H locs hH hS => ?_)
    refine lv_goto (tgt := 17) hx hb dL_rank_10 (by decide) ?_
    refine lv_iconst (v := 0) hx hb dL_rank_17 (by decide) ?_
    exact kw_end hx hb hlk hr KE.rf rfl rfl hH hS (by unfold wG; rw [if_pos he]; rfl) (by unfold wK; rw [if_pos he]) (Nat.le_of_ble_eq_true rfl) (Nat.le_of_ble_eq_true rfl) dL_rank_18
set_option maxRecDepth 20000 in
set_option maxHeartbeats 4000000 in
theorem cw_meets (l : Launch) (hfl : l.stackTraces = false) (κ : KP) (γ : St) (y1 : Int32) (y2 : Int32) (y3 : Int32) (hk : ok_X7_meets y1 y2 y3 γ) (hE : eIn 0 2 1 (x_X7_meets y1 y2 y3 γ).1) : vx_Met l yL_meets [Cond.codeWith yL_meets cL_meets 6 (some .int) [(0, 12, 15, 19), (0, 12, 19, 21)]] ({ frames := 8, cells := 2, slots := 12, locals := 135 } : Room) (va_Pc [.ref (kA κ 7 0), .int y1, .int y2, .int y3, .ref (kA κ 41 0)] (GG κ γ)) (QE κ (wG (x_X7_meets y1 y2 y3 γ)) 0 (some (.int (wK 0 2 1 (x_X7_meets y1 y2 y3 γ).1))) (kN κ) (kO κ)) (XX κ (wG (x_X7_meets y1 y2 y3 γ)) 0) 2 12 (AA κ) := by
  refine vx_ofWH (cc := cL_meets) (maxL := 6) (ret := (some .int)) (hh := [(0, 12, 15, 19), (0, 12, 19, 21)]) (by decide) rfl ?_
  intro p e s m args below meth c s₁ B hml9 hv
  obtain ⟨rfl, hH, hK9, hB9, hX9, hZ9⟩ := hv
  have hC : CX κ cL_meets "PhrasehallLaw" 6 p l s m ([.ref (kA κ 7 0), .int y1, .int y2, .int y3, .ref (kA κ 41 0)] : List Value).toArray meth c := ⟨B.exec, B.bytes, findClass_of_methodNamed B.named, fun w hw => tw_use (List.mem_filter.mp hw).2 (State.WarmedH.refl s) (hX9.1 w hw), hK9, hX9, hZ9, hB9, hml9, B.notSynchronized⟩
  obtain ⟨hx, hb, hown, hT, -, -, -, -, hml, hlk⟩ := id hC
  have htab : c.exceptionTable.toList = tableOf [(0, 12, 15, 19), (0, 12, 19, 21)] := vx_table (x := yL_meets) B (hT _ tw_909)
  have hr := B.returns
  have hS : va_S (AA κ) s.heap s.heap [] := va_S.rf
  have hl := lv_entry ([.ref (kA κ 7 0), .int y1, .int y2, .int y3, .ref (kA κ 41 0)]) (n := 6) (Nat.le_of_ble_eq_true rfl)
  rw [lg_entry_eq]
  generalize (lg_sl ([.ref (kA κ 7 0), .int y1, .int y2, .int y3, .ref (kA κ 41 0)]) ++ List.replicate (6 - (lg_sl ([.ref (kA κ 7 0), .int y1, .int y2, .int y3, .ref (kA κ 41 0)])).length) Slot.unset).toArray = ls at hl ⊢
  have hl : lv_has ls 6 [(0, .ref (kA κ 7 0)), (1, .int y1), (2, .int y2), (3, .int y3), (4, .ref (kA κ 41 0))] := hl
  refine lv_aload hx hb dL_meets_0 (lv_at hl 4 rfl) ?_
  refine lv_iconst (v := 0) hx hb dL_meets_2 (by decide) ?_
  refine lv_aload_n hx hb dL_meets_3 rfl (lv_at hl 0 rfl) ?_
  refine lv_iload_n hx hb dL_meets_4 rfl (lv_at hl 1 rfl) ?_
  refine lv_iload_n hx hb dL_meets_5 rfl (lv_at hl 2 rfl) ?_
  refine lv_iload_n hx hb dL_meets_6 rfl (lv_at hl 3 rfl) ?_
  refine k_xcallV (C := RX7) (T := TX7) (N := 10) (rest := [.int 0, .ref (kA κ 41 0)]) hC hl hH hS (c_X7_meets l hfl κ γ y1 y2 y3 hk) lv_7 rfl rfl tw_910 tw_911 tw_912 tw_57 tw_913 hd_X7_meets ⟨Nat.le_of_ble_eq_true rfl, Nat.le_of_ble_eq_true rfl⟩ rfl rfl rfl rfl (Nat.le_of_ble_eq_true rfl) dL_meets_7 ⟨Nat.le_of_ble_eq_true rfl, Nat.le_of_ble_eq_true rfl⟩ rfl (fun he ce q9 H locs hH hS hce hcv hcl => ?_) (fun he H locs hH hS => ?_)
  · rcases hE with h0 | ⟨h1, hn1⟩ | ⟨h1, hn1⟩ | ⟨h1, hn1⟩
    · exact absurd h0 he
    · exact absurd rfl hn1
    · have e1 : eNm (x_X7_meets y1 y2 y3 γ).1 = "java/lang/IllegalArgumentException" := by rw [h1]; rfl
      rw [e1] at hcl
      refine vx_catch (own := "PhrasehallLaw") (name := "java/lang/IllegalArgumentException") (E := "java/lang/IllegalArgumentException") hown [⟨0, 12, 15, 19⟩] ⟨0, 12, 19, 21⟩ [] htab (fun z hz => by rw [List.mem_singleton.mp hz]; exact Or.inr ⟨by decide, _, hT _ tw_313, nc_in s hX9 2 rfl⟩) rfl (by decide) (hT _ tw_314) (nw_use rfl (hX9.2.1 _ nw_348)) hce hcv hcl ?_
      refine lv_astore (lv' := [(5, .ref q9), (0, .ref (kA κ 7 0)), (1, .int y1), (2, .int y2), (3, .int y3), (4, .ref (kA κ 41 0))]) hx hb dL_meets_19 hl (by decide) rfl (fun ls hl => ?_)
      refine lv_iconst (v := 2) hx hb dL_meets_21 (by decide) ?_
      exact kw_end hx hb hlk hr KE.rf rfl rfl hH hS (by unfold wG; rw [if_neg (by rw [h1]; decide)]) (by rw [h1]; rfl) (Nat.le_of_ble_eq_true rfl) (Nat.le_of_ble_eq_true rfl) dL_meets_22
    · have e1 : eNm (x_X7_meets y1 y2 y3 γ).1 = "java/lang/IndexOutOfBoundsException" := by rw [h1]; rfl
      rw [e1] at hcl
      refine vx_catch (own := "PhrasehallLaw") (name := "java/lang/IndexOutOfBoundsException") (E := "java/lang/IndexOutOfBoundsException") hown [] ⟨0, 12, 15, 19⟩ [⟨0, 12, 19, 21⟩] htab (fun z hz => (nomatch hz)) rfl (by decide) (hT _ tw_313) (nw_use rfl (hX9.2.1 _ nw_329)) hce hcv hcl ?_
      refine lv_astore (lv' := [(5, .ref q9), (0, .ref (kA κ 7 0)), (1, .int y1), (2, .int y2), (3, .int y3), (4, .ref (kA κ 41 0))]) hx hb dL_meets_15 hl (by decide) rfl (fun ls hl => ?_)
      refine lv_iconst (v := 1) hx hb dL_meets_17 (by decide) ?_
      exact kw_end hx hb hlk hr KE.rf rfl rfl hH hS (by unfold wG; rw [if_neg (by rw [h1]; decide)]) (by rw [h1]; rfl) (Nat.le_of_ble_eq_true rfl) (Nat.le_of_ble_eq_true rfl) dL_meets_18
  · refine lv_i2l (v := (x_X7_meets y1 y2 y3 γ).2.1.toInt64) hx hb dL_meets_10 rfl ?_
    refine hp_lst hC hH lv_41 lv_u41 (fun _ => rfl) hS vp01 dL_meets_11 (fun H locs hH hS => ?_)
    refine lv_goto (tgt := 23) hx hb dL_meets_12 (by decide) ?_
    refine lv_iconst (v := 0) hx hb dL_meets_23 (by decide) ?_
    exact kw_end hx hb hlk hr KE.rf rfl rfl hH hS (by unfold wG; rw [if_pos he]; rfl) (by unfold wK; rw [if_pos he]) (Nat.le_of_ble_eq_true rfl) (Nat.le_of_ble_eq_true rfl) dL_meets_24
