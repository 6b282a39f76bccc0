/-! ===== calls, ends, throws ===== -/
section HRC
variable {p : Program} {l : Launch} {e : Env} {R : Room} {s : State} {m : MethodId} {args : Array Value} {below : List Frame} {meth : Method} {c : Code} {H : Heap} {locs : List Loc} {cells slots : Nat} {Q : State → Prop}
variable {cc : ByteArray} {pc : Nat} {ls : Array Slot} {rest : List Value} {κ : KP} {γ : St} {own : String} {nL : Nat}
theorem hp_recv (C0 : CX κ cc own nL p l s m args meth c) (hH : HR κ γ H) {ci n : Nat} (hv : lv κ ci n) {fs : List Value} (he : cel κ γ ci n = .inr (ci, fs)) {C : String} {T : u_T} {N : Nat} (hc : vwCl[ci]? = some (C, T, N)) : ∃ cell : Cell, H[kA κ ci n]? = some cell ∧ cell.vm.isStatics = false ∧ s.vm.findClass C = some cell.cls := by
  obtain ⟨-, -, -, -, hK, -⟩ := C0
  have hP := hH.at hv
  rw [he] at hP
  exact va_recv hK hP hc (q0 := 0) rfl
theorem k_callV (C0 : CX κ cc own nL p l s m args meth c) {lvs : List (Nat × Value)} (hl : lv_has ls nL lvs) (hH : HR κ γ H) (hS : va_S (AA κ) s.heap H locs) {y : MethodName} {bytes : ByteArray} {maxL : Nat} {ret : Option FieldType} {rm : Room} {index : Nat} {C : String} {T : u_T} {N ci n k : Nat} {fs As st0 st' : List Value} {γ' : St} {v : Option Value}
    (hM : Met l y [.code y bytes maxL ret] rm (va_Pc (.ref (kA κ ci n) :: As) (GG κ γ)) (QQ κ γ' v) 0 0 (AA κ)) (hv : lv κ ci n) (he : cel κ γ ci n = .inr (ci, fs)) (hc : vwCl[ci]? = some (C, T, N))
    (w1 : Cond.methodLink own index y ∈ TW) (w2 : Cond.instanceMethod y ∈ TW) (w3 : Cond.selects C y y ∈ TW) (w4 : Cond.initialized C ∈ TW) (w5 : Cond.code y bytes maxL ret ∈ TW)
    (hd : y.cls = C ∧ y.cls ≠ "java/lang/invoke/MethodHandle" ∧ y.cls ≠ "java/lang/invoke/VarHandle" ∧ (parseMethodDescriptor y.desc).map (fun d => d.parameters.length) = some k) (hR : rm.frames + 1 ≤ R.frames ∧ 8 + (maxL + 11) + rm.locals ≤ R.locals) (hrc : rm.cells = 0) (hrs : rm.slots = 0) (hn : As.length = k)
    (hst0 : st0 = As.reverse ++ .ref (kA κ ci n) :: rest) (hcat : (rest.map fun v => v.category).sum ≤ 8) (hdg : decode cc pc = .ok (.invokevirtual index, 3)) (hf : cells ≤ R.cells ∧ slots ≤ R.slots) (hst : v.toList ++ rest = st')
    (kk : ∀ (H : Heap) (locs : List Loc), HR κ γ' H → va_S (AA κ) s.heap H locs → W p l e R s m args below meth c H locs cells slots Q (F0 m (pc + 3) ls st')) : W p l e R s m args below meth c H locs cells slots Q (F0 m pc ls st0) := by
  obtain ⟨hx, hb, hown, hT, hK, hX, hZ, hB, hml, hlk⟩ := id C0
  exact kcall (va_runV (As := As) (rest := rest) ⟨hx, hb, hml, hown, hT⟩ hM (cwV k hT (gi5 w1 w2 w3 w4 w5) rfl hrc hrs hd hR) ⟨GG.blind, hp_recv C0 hH hv he hc, fun U hU hW => ⟨rfl, gg_of C0 hH hS hU hW⟩⟩ rfl hn hl.1 hst0 (lv_room hcat) hdg hf) hS hst kk
theorem k_callS (C0 : CX κ cc own nL p l s m args meth c) {lvs : List (Nat × Value)} (hl : lv_has ls nL lvs) (hH : HR κ γ H) (hS : va_S (AA κ) s.heap H locs) {y : MethodName} {bytes : ByteArray} {maxL : Nat} {ret : Option FieldType} {rm : Room} {index k : Nat} {As st0 st' : List Value} {γ' : St} {v : Option Value}
    (hM : Met l y [.code y bytes maxL ret] rm (va_Pc As (GG κ γ)) (QQ κ γ' v) 0 0 (AA κ))
    (w1 : Cond.methodLink own index y ∈ TW) (w2 : Cond.static y ∈ TW) (w4 : Cond.initialized y.cls ∈ TW) (w5 : Cond.code y bytes maxL ret ∈ TW)
    (hd : y.cls ≠ "java/lang/invoke/MethodHandle" ∧ y.cls ≠ "java/lang/invoke/VarHandle" ∧ (parseMethodDescriptor y.desc).map (fun d => d.parameters.length) = some k) (hR : rm.frames + 1 ≤ R.frames ∧ 8 + (maxL + 11) + rm.locals ≤ R.locals) (hrc : rm.cells = 0) (hrs : rm.slots = 0) (hn : As.length = k)
    (hst0 : st0 = As.reverse ++ rest) (hcat : (rest.map fun v => v.category).sum ≤ 8) (hdg : decode cc pc = .ok (.invokestatic index, 3)) (hf : cells ≤ R.cells ∧ slots ≤ R.slots) (hst : v.toList ++ rest = st')
    (kk : ∀ (H : Heap) (locs : List Loc), HR κ γ' H → va_S (AA κ) s.heap H locs → W p l e R s m args below meth c H locs cells slots Q (F0 m (pc + 3) ls st')) : W p l e R s m args below meth c H locs cells slots Q (F0 m pc ls st0) := by
  obtain ⟨hx, hb, hown, hT, hK, hX, hZ, hB, hml, hlk⟩ := id C0
  exact kcall (va_runS (As := As) (rest := rest) ⟨hx, hb, hml, hown, hT⟩ hM ⟨callB_of k hT (gi1 w5) rfl hrc hrs (hT _ w4) (hT _ w1) hd hR, hT _ w2⟩ ⟨GG.blind, fun U hU hW => ⟨rfl, gg_of C0 hH hS hU hW⟩⟩ rfl hn hl.1 hst0 (lv_room hcat) hdg hf) hS hst kk
theorem k_callSN (C0 : CX κ cc own nL p l s m args meth c) {lvs : List (Nat × Value)} (hl : lv_has ls nL lvs) (hH : HR κ γ H) (hS : va_S (AA κ) s.heap H locs) {y : MethodName} {host : String} {bytes : ByteArray} {maxL : Nat} {ret : Option FieldType} {rm : Room} {index k : Nat} {As st0 st' : List Value} {γ' : St} {v : Option Value}
    (hM : Met l y [.code y bytes maxL ret] rm (va_Pc As (GG κ γ)) (QQ κ γ' v) 0 0 (AA κ))
    (w1 : Cond.methodLinkNest own index y host ∈ NW) (w2 : Cond.static y ∈ TW) (w4 : Cond.initialized y.cls ∈ TW) (w5 : Cond.code y bytes maxL ret ∈ TW)
    (hd : y.cls ≠ "java/lang/invoke/MethodHandle" ∧ y.cls ≠ "java/lang/invoke/VarHandle" ∧ (parseMethodDescriptor y.desc).map (fun d => d.parameters.length) = some k) (hR : rm.frames + 1 ≤ R.frames ∧ 8 + (maxL + 11) + rm.locals ≤ R.locals) (hrc : rm.cells = 0) (hrs : rm.slots = 0) (hn : As.length = k)
    (hst0 : st0 = As.reverse ++ rest) (hcat : (rest.map fun v => v.category).sum ≤ 8) (hdg : decode cc pc = .ok (.invokestatic index, 3)) (hf : cells ≤ R.cells ∧ slots ≤ R.slots) (hst : v.toList ++ rest = st')
    (kk : ∀ (H : Heap) (locs : List Loc), HR κ γ' H → va_S (AA κ) s.heap H locs → W p l e R s m args below meth c H locs cells slots Q (F0 m (pc + 3) ls st')) : W p l e R s m args below meth c H locs cells slots Q (F0 m pc ls st0) := by
  obtain ⟨hx, hb, hown, hT, hK, hX, hZ, hB, hml, hlk⟩ := id C0
  exact kcall (va_runSN (As := As) (rest := rest) ⟨hx, hb, hml, hown, hT⟩ hM ⟨va_cnB k hT (gi1 w5) rfl hrc hrs (hX.2.1 _ w1) (hT _ w4) hd hR, hT _ w2, trivial⟩ ⟨GG.blind, fun U hU hW => ⟨rfl, gg_of C0 hH hS hU hW⟩⟩ rfl hn hl.1 hst0 (lv_room hcat) hdg hf) hS hst kk
theorem k_xcallV (C0 : CX κ cc own nL p l s m args meth c) {lvs : List (Nat × Value)} (hl : lv_has ls nL lvs) (hH : HR κ γ H) (hS : va_S (AA κ) s.heap H locs) {y : MethodName} {bytes : ByteArray} {maxL : Nat} {ret : Option FieldType} {rm : Room} {index : Nat} {C : String} {T : u_T} {N ci n k mc ms en : Nat} {fs As st0 st' : List Value} {γ' : St} {v : Option Value}
    (hM : vx_Met l y [.code y bytes maxL ret] rm (va_Pc (.ref (kA κ ci n) :: As) (GG κ γ)) (QX κ γ' en v) (XX κ γ' en) mc ms (AA κ)) (hv : lv κ ci n) (he : cel κ γ ci n = .inr (ci, fs)) (hc : vwCl[ci]? = some (C, T, N))
    (w1 : Cond.methodLink own index y ∈ TW) (w2 : Cond.instanceMethod y ∈ TW) (w3 : Cond.selects C y y ∈ TW) (w4 : Cond.initialized C ∈ TW) (w5 : Cond.code y bytes maxL ret ∈ TW)
    (hd : y.cls = C ∧ y.cls ≠ "java/lang/invoke/MethodHandle" ∧ y.cls ≠ "java/lang/invoke/VarHandle" ∧ (parseMethodDescriptor y.desc).map (fun d => d.parameters.length) = some k) (hR : rm.frames + 1 ≤ R.frames ∧ 8 + (maxL + 11) + rm.locals ≤ R.locals) (hrc : rm.cells = mc) (hrs : rm.slots = ms) (hn : As.length = k)
    (hst0 : st0 = As.reverse ++ .ref (kA κ ci n) :: rest) (hcat : (rest.map fun v => v.category).sum ≤ 8) (hdg : decode cc pc = .ok (.invokevirtual index, 3)) (hf : cells + mc ≤ R.cells ∧ slots + ms ≤ R.slots) (hst : v.toList ++ rest = st')
    (kx : en ≠ 0 → ∀ (ce : Cell) (q9 : Addr) (H : Heap) (locs : List Loc), HR κ γ' H → va_S (AA κ) s.heap H locs → H[q9]? = some ce → ce.vm = .none → s.vm.findClass (eNm en) = some ce.cls → vx_W p l e R s m args below meth c H locs (cells + mc) (slots + ms) Q (F0 m pc ls rest) q9)
    (kk : en = 0 → ∀ (H : Heap) (locs : List Loc), HR κ γ' H → va_S (AA κ) s.heap H locs → W p l e R s m args below meth c H locs (cells + mc) (slots + ms) Q (F0 m (pc + 3) ls st')) : W p l e R s m args below meth c H locs cells slots Q (F0 m pc ls st0) := by
  obtain ⟨hx, hb, hown, hT, hK, hX, hZ, hB, hml, hlk⟩ := id C0
  exact kxcall (vx_runV (As := As) (rest := rest) ⟨hx, hb, hml, hown, hT⟩ hM (cwV k hT (gi5 w1 w2 w3 w4 w5) rfl hrc hrs hd hR) ⟨GG.blind, hp_recv C0 hH hv he hc, fun U hU hW => ⟨rfl, gg_of C0 hH hS hU hW⟩⟩ rfl hn hl.1 hst0 (lv_room hcat) hdg hf) hS hst kx kk
theorem k_xcallS (C0 : CX κ cc own nL p l s m args meth c) {lvs : List (Nat × Value)} (hl : lv_has ls nL lvs) (hH : HR κ γ H) (hS : va_S (AA κ) s.heap H locs) {y : MethodName} {bytes : ByteArray} {maxL : Nat} {ret : Option FieldType} {rm : Room} {index k mc ms en : Nat} {As st0 st' : List Value} {γ' : St} {v : Option Value}
    (hM : vx_Met l y [.code y bytes maxL ret] rm (va_Pc As (GG κ γ)) (QX κ γ' en v) (XX κ γ' en) mc ms (AA κ))
    (w1 : Cond.methodLink own index y ∈ TW) (w2 : Cond.static y ∈ TW) (w4 : Cond.initialized y.cls ∈ TW) (w5 : Cond.code y bytes maxL ret ∈ TW)
    (hd : y.cls ≠ "java/lang/invoke/MethodHandle" ∧ y.cls ≠ "java/lang/invoke/VarHandle" ∧ (parseMethodDescriptor y.desc).map (fun d => d.parameters.length) = some k) (hR : rm.frames + 1 ≤ R.frames ∧ 8 + (maxL + 11) + rm.locals ≤ R.locals) (hrc : rm.cells = mc) (hrs : rm.slots = ms) (hn : As.length = k)
    (hst0 : st0 = As.reverse ++ rest) (hcat : (rest.map fun v => v.category).sum ≤ 8) (hdg : decode cc pc = .ok (.invokestatic index, 3)) (hf : cells + mc ≤ R.cells ∧ slots + ms ≤ R.slots) (hst : v.toList ++ rest = st')
    (kx : en ≠ 0 → ∀ (ce : Cell) (q9 : Addr) (H : Heap) (locs : List Loc), HR κ γ' H → va_S (AA κ) s.heap H locs → H[q9]? = some ce → ce.vm = .none → s.vm.findClass (eNm en) = some ce.cls → vx_W p l e R s m args below meth c H locs (cells + mc) (slots + ms) Q (F0 m pc ls rest) q9)
    (kk : en = 0 → ∀ (H : Heap) (locs : List Loc), HR κ γ' H → va_S (AA κ) s.heap H locs → W p l e R s m args below meth c H locs (cells + mc) (slots + ms) Q (F0 m (pc + 3) ls st')) : W p l e R s m args below meth c H locs cells slots Q (F0 m pc ls st0) := by
  obtain ⟨hx, hb, hown, hT, hK, hX, hZ, hB, hml, hlk⟩ := id C0
  exact kxcall (vx_runS (As := As) (rest := rest) ⟨hx, hb, hml, hown, hT⟩ hM ⟨callB_of k hT (gi1 w5) rfl hrc hrs (hT _ w4) (hT _ w1) hd hR, hT _ w2⟩ ⟨GG.blind, fun U hU hW => ⟨rfl, gg_of C0 hH hS hU hW⟩⟩ rfl hn hl.1 hst0 (lv_room hcat) hdg hf) hS hst kx kk
/-- the thrown goes on to the caller -/
theorem k_out {mc ms en : Nat} {γ' : St} {Qc : Array Value → State → Outcome → State → Prop} {ce : Cell} {q9 : Addr} (C0 : CX κ cc own nL p l s m args meth c) (ht : ∀ x ∈ c.exceptionTable.toList, False) (hn : en ≠ 0) (hH : HR κ γ' H) (hS : va_S (AA κ) s.heap H locs) (hce : H[q9]? = some ce) (hcv : ce.vm = .none) (hcl : s.vm.findClass (eNm en) = some ce.cls) (hc : cells ≤ mc) (hs : slots ≤ ms) :
    vx_W p l e R s m args below meth c H locs cells slots (vx_MQ below Qc (XX κ γ' en) args s mc ms (AA κ)) (F0 m pc ls rest) q9 := by
  obtain ⟨-, -, -, -, -, -, -, -, -, hlk⟩ := C0
  exact vx_out (fun x hx => (ht x hx).elim) hlk hce hcv hcl (fun t ht0 _ => ⟨hn, rfl, by rw [ht0]; exact hH, hS.F ht0⟩) hS.2.2 hc hs
/-- ends -/
theorem kr_i {v x : Int32} {γ' : St} (C0 : CX κ cc own nL p l s m args meth c) (hr : meth.sig.returnType = some .int) (hH : HR κ γ H) (hS : va_S (AA κ) s.heap H locs) (hg : γ = γ') (hv : x = v) (hdg : decode cc pc = .ok (.ireturn, 1)) : W p l e R s m args below meth c H locs cells slots (MQ below (QQ κ γ' (some (.int v))) args s cells slots (AA κ)) (F0 m pc ls [.int x]) := by
  obtain ⟨hx, hb, -, -, -, -, -, -, -, hlk⟩ := C0
  subst hg; subst hv
  exact W.iret hx hb hr (fun t ht _ => ⟨rfl, by rw [ht]; exact hH, hS.F ht⟩) hS.2.2 hdg hlk
theorem kr_z {v x x' : Int32} {γ' : St} (C0 : CX κ cc own nL p l s m args meth c) (hr : meth.sig.returnType = some .boolean) (hn : narrow .boolean (.int x) = .int x') (hH : HR κ γ H) (hS : va_S (AA κ) s.heap H locs) (hg : γ = γ') (hv : x' = v) (hdg : decode cc pc = .ok (.ireturn, 1)) : W p l e R s m args below meth c H locs cells slots (MQ below (QQ κ γ' (some (.int v))) args s cells slots (AA κ)) (F0 m pc ls [.int x]) := by
  obtain ⟨hexec, hb, -, -, -, -, -, -, -, hlk⟩ := C0
  subst hg; subst hv
  intro T hT X
  have hlocks : meth.locks = false := hlk
  obtain ⟨fs, hret, hrun, hended, hW, hframe⟩ := X.leave (v := some (.int x')) (fun h => by rw [hr] at h; cases h)
  have hmeth' : T.vm.method? m = some meth := X.method'
  refine ⟨T.setFrames fs, ?_, .returned (some (.int x')), hrun, hended, ⟨rfl, by show HR κ γ T.heap; rw [hT]; exact hH, va_S.F (t := T.setFrames fs) hS hT⟩, locs, ⟨⟨_, rfl⟩, hW, hframe⟩, hS.2.2⟩
  jvm_step X.here [X.here.top, hexec, hb, hdg, hmeth', hr, hn]
  (try refine ⟨rfl, ?_⟩); (try refine ⟨rfl, ?_⟩)
  first | (intro acts; rw [hret _ acts rfl rfl rfl]) | rw [hret _ _ rfl rfl rfl]
  exact Steps.refl _
theorem kr_v {γ' : St} (C0 : CX κ cc own nL p l s m args meth c) (hr : meth.sig.returnType = none) (hH : HR κ γ H) (hS : va_S (AA κ) s.heap H locs) (hg : γ = γ') (hdg : decode cc pc = .ok (.return_, 1)) : W p l e R s m args below meth c H locs cells slots (MQ below (QQ κ γ' none) args s cells slots (AA κ)) (F0 m pc ls []) := by
  obtain ⟨hx, hb, -, -, -, -, -, -, -, hlk⟩ := C0
  subst hg
  exact W.vret hx hb hr (fun t ht _ => ⟨rfl, by rw [ht]; exact hH, hS.F ht⟩) hS.2.2 hdg hlk
theorem kr_l {v x : Int64} {γ' : St} (C0 : CX κ cc own nL p l s m args meth c) (hr : meth.sig.returnType = some .long) (hH : HR κ γ H) (hS : va_S (AA κ) s.heap H locs) (hg : γ = γ') (hv : x = v) (hdg : decode cc pc = .ok (.lreturn, 1)) : W p l e R s m args below meth c H locs cells slots (MQ below (QQ κ γ' (some (.long v))) args s cells slots (AA κ)) (F0 m pc ls [.long x]) := by
  obtain ⟨hx, hb, -, -, -, -, -, -, -, hlk⟩ := C0
  subst hg; subst hv
  exact W.lret hx hb hr (fun t ht _ => ⟨rfl, by rw [ht]; exact hH, hS.F ht⟩) hS.2.2 hdg hlk
theorem kr_a {v x : Value} {γ' : St} {C : String} (C0 : CX κ cc own nL p l s m args meth c) (hr : meth.sig.returnType = some (.object C)) (hxv : x = .null ∨ ∃ a, x = .ref a) (hH : HR κ γ H) (hS : va_S (AA κ) s.heap H locs) (hg : γ = γ') (hv : x = v) (hdg : decode cc pc = .ok (.areturn, 1)) : W p l e R s m args below meth c H locs cells slots (MQ below (QQ κ γ' (some v)) args s cells slots (AA κ)) (F0 m pc ls [x]) := by
  obtain ⟨hx, hb, -, -, -, -, -, -, -, hlk⟩ := C0
  subst hg; subst hv
  exact W.aret hx hb hr (Or.inl ⟨_, rfl⟩) hxv (fun t ht _ => ⟨rfl, by rw [ht]; exact hH, hS.F ht⟩) hS.2.2 hdg hlk
/-- from a body's end that cannot throw to one that can -/
theorem kx_of {γ' : St} {n : Nat} {v : Option Value} {g : JFrame} {mc ms : Nat} (hn : n = 0) (h1 : cells ≤ mc) (h2 : slots ≤ ms) (k : W p l e R s m args below meth c H locs mc ms (MQ below (QQ κ γ' v) args s mc ms (AA κ)) g) : W p l e R s m args below meth c H locs cells slots (vx_MQ below (QX κ γ' n v) (XX κ γ' n) args s mc ms (AA κ)) g := by
  refine W.widen h1 h2 (vx_ret ?_)
  intro T hT X
  obtain ⟨t, a1, o, b1, b2, b3, b4⟩ := k T hT X
  exact ⟨t, a1, o, b1, b2, ⟨hn, b3⟩, b4⟩
/-- the words of a throw in Phrasehall -/
theorem hat_of {A : Array Value} {U : State} (hX : XT U) {L : List Cond} (h : ∀ w ∈ L, w ∈ lw_tbl ∧ (goodWord w || kwd w) = true) : ∀ w ∈ L, w.before A U = true := by
  intro w hw
  obtain ⟨h1, h2⟩ := h w hw
  cases hg : goodWord w with
  | true => exact tw_use hg (State.WarmedH.refl U) (hX.1 w (List.mem_filter.mpr ⟨h1, hg⟩))
  | false =>
    rw [hg] at h2
    have hk : kwd w = true := by simpa using h2
    exact nw_use hk (hX.2.1 w (List.mem_filter.mpr ⟨h1, hk⟩))
/-- 'throw new E("text")' -/
theorem k_throw {lvs : List (Nat × Value)} (C0 : CX κ cc "Phrasehall" nL p l s m args meth c) (hfl : l.stackTraces = false) (ht : ∀ x ∈ c.exceptionTable.toList, False) (hl : lv_has ls nL lvs) (hH : HR κ γ H) (hS : va_S (AA κ) s.heap H locs) {ik is ic mc ms en : Nat} {text : String} {γ' : St} {Qc : Array Value → State → Outcome → State → Prop} (hg : γ = γ') (hen : en ≠ 0)
    (hk : Cond.classLink "Phrasehall" ik (eNm en) ∈ TW) (hini : Cond.initialized (eNm en) ∈ TW) (hsr : (is, text) ∈ SR) (hat : ∀ w ∈ vx_atS "Phrasehall" ic (eNm en) exNames, w ∈ lw_tbl ∧ (goodWord w || kwd w) = true)
    (hgood : ∀ w ∈ Cond.classLink "Phrasehall" ik (eNm en) :: Cond.initialized (eNm en) :: vx_atS "Phrasehall" ic (eNm en) exNames, vx_ot w = true) (hfit : Bundle.fit (eNm en) = true)
    (d0 : decode cc pc = .ok (.new ik, 3)) (d3 : decode cc (pc + 3) = .ok (.dup, 1)) (d4 : decode cc (pc + 4) = .ok (.ldc is, 2)) (d6 : decode cc (pc + 6) = .ok (.invokespecial ic, 3)) (d9 : decode cc (pc + 9) = .ok (.athrow, 1))
    (hRf : 5 < R.frames) (hRl : (rest.map fun v => v.category).sum + 82 ≤ R.locals) (hRc : cells + 1 ≤ R.cells) (hRs : slots + 6 ≤ R.slots) (hc : cells + 1 ≤ mc) (hs : slots + 6 ≤ ms) :
    W p l e R s m args below meth c H locs cells slots (vx_MQ below Qc (XX κ γ' en) args s mc ms (AA κ)) (F0 m pc ls rest) := by
  obtain ⟨hx, hb, hown, hT, hK, hX, hZ, hB, hml, hlk⟩ := id C0
  obtain ⟨sa, hsa⟩ := hX.2.2.1 _ hsr
  subst hg
  refine vx_throwS (names := exNames) (A := AA κ) hx hb hfl hown hfit (by decide +kernel) (hT _ hk) (hT _ hini) hsa (hat_of hX hat) hgood hZ.1 hZ.2 hS (by rw [hml]; exact hl.1) d0 d3 d4 d6 d9 (fun x hx => (ht x hx).elim) hRf hRl hRc hRs hlk (fun t hal h1 h2 => ⟨hen, rfl, ?_, ?_⟩) hS.2.2 hc hs
  · exact ⟨fun c' n' hv' => ⟨(hH.1 c' n' hv').1.kept (h2 _ (hH.lt hv')), (hH.1 c' n' hv').2⟩, hH.2⟩
  · exact ⟨Nat.le_trans hS.1 h1, fun q hq hn => by rw [h2 q (Nat.lt_of_lt_of_le hq hS.1)]; exact hS.2.1 q hq hn⟩
theorem k_throwW {lvs : List (Nat × Value)} (C0 : CX κ cc "Phrasehall" nL p l s m args meth c) (hfl : l.stackTraces = false) (ht : ∀ x ∈ c.exceptionTable.toList, False) (hl : lv_has ls nL lvs) (hH : HR κ γ H) (hS : va_S (AA κ) s.heap H locs) {ik is ic mc ms en : Nat} {text : String} {γ' : St} {Qc : Array Value → State → Outcome → State → Prop} (hg : γ = γ') (hen : en ≠ 0)
    (hk : Cond.classLink "Phrasehall" ik (eNm en) ∈ TW) (hini : Cond.initialized (eNm en) ∈ TW) (hsr : (is, text) ∈ SR) (hat : ∀ w ∈ vx_atS "Phrasehall" ic (eNm en) exNames, w ∈ lw_tbl ∧ (goodWord w || kwd w) = true)
    (hgood : ∀ w ∈ Cond.classLink "Phrasehall" ik (eNm en) :: Cond.initialized (eNm en) :: vx_atS "Phrasehall" ic (eNm en) exNames, vx_ot w = true) (hfit : Bundle.fit (eNm en) = true)
    (d0 : decode cc pc = .ok (.new ik, 3)) (d3 : decode cc (pc + 3) = .ok (.dup, 1)) (d4 : decode cc (pc + 4) = .ok (.ldc_w is, 3)) (d6 : decode cc (pc + 7) = .ok (.invokespecial ic, 3)) (d9 : decode cc (pc + 10) = .ok (.athrow, 1))
    (hRf : 5 < R.frames) (hRl : (rest.map fun v => v.category).sum + 82 ≤ R.locals) (hRc : cells + 1 ≤ R.cells) (hRs : slots + 6 ≤ R.slots) (hc : cells + 1 ≤ mc) (hs : slots + 6 ≤ ms) :
    W p l e R s m args below meth c H locs cells slots (vx_MQ below Qc (XX κ γ' en) args s mc ms (AA κ)) (F0 m pc ls rest) := by
  obtain ⟨hx, hb, hown, hT, hK, hX, hZ, hB, hml, hlk⟩ := id C0
  obtain ⟨sa, hsa⟩ := hX.2.2.1 _ hsr
  subst hg
  refine vx_throwSW (names := exNames) (A := AA κ) hx hb hfl hown hfit (by decide +kernel) (hT _ hk) (hT _ hini) hsa (hat_of hX hat) hgood hZ.1 hZ.2 hS (by rw [hml]; exact hl.1) d0 d3 d4 d6 d9 (fun x hx => (ht x hx).elim) hRf hRl hRc hRs hlk (fun t hal h1 h2 => ⟨hen, rfl, ?_, ?_⟩) hS.2.2 hc hs
  · exact ⟨fun c' n' hv' => ⟨(hH.1 c' n' hv').1.kept (h2 _ (hH.lt hv')), (hH.1 c' n' hv').2⟩, hH.2⟩
  · exact ⟨Nat.le_trans hS.1 h1, fun q hq hn => by rw [h2 q (Nat.lt_of_lt_of_le hq hS.1)]; exact hS.2.1 q hq hn⟩
end HRC
set_option maxRecDepth 100000 in
theorem at_ISE : ∀ w ∈ vx_atS "Phrasehall" 63 (eNm 1) exNames, w ∈ lw_tbl ∧ (goodWord w || kwd w) = true := by decide +kernel
set_option maxRecDepth 100000 in
theorem at_IAE : ∀ w ∈ vx_atS "Phrasehall" 87 (eNm 2) exNames, w ∈ lw_tbl ∧ (goodWord w || kwd w) = true := by decide +kernel
set_option maxRecDepth 100000 in
theorem at_IOB : ∀ w ∈ vx_atS "Phrasehall" 78 (eNm 3) exNames, w ∈ lw_tbl ∧ (goodWord w || kwd w) = true := by decide +kernel
theorem ot_ISE : ∀ w ∈ Cond.classLink "Phrasehall" 59 (eNm 1) :: Cond.initialized (eNm 1) :: vx_atS "Phrasehall" 63 (eNm 1) exNames, vx_ot w = true := by decide +kernel
theorem ot_IAE : ∀ w ∈ Cond.classLink "Phrasehall" 83 (eNm 2) :: Cond.initialized (eNm 2) :: vx_atS "Phrasehall" 87 (eNm 2) exNames, vx_ot w = true := by decide +kernel
theorem ot_IOB : ∀ w ∈ Cond.classLink "Phrasehall" 74 (eNm 3) :: Cond.initialized (eNm 3) :: vx_atS "Phrasehall" 78 (eNm 3) exNames, vx_ot w = true := by decide +kernel
theorem fit_1 : Bundle.fit (eNm 1) = true := by decide +kernel
theorem fit_2 : Bundle.fit (eNm 2) = true := by decide +kernel
theorem fit_3 : Bundle.fit (eNm 3) = true := by decide +kernel
