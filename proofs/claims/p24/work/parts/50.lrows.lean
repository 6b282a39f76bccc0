/-! ===== the law's own methods: a world in which a hall grows ===== -/
/-- what is known of a hall whose cells read γ: it is tied to some state of the reference -/
def GI (nb np : Nat) (γ : St) : Prop := ∃ M : St, I2 1 nb np γ M
def HE (κ : KP) (γ : St) (H : Heap) : Prop := ∃ κ1 : KP, KE κ κ1 ∧ GI (kN κ1) (kO κ1) γ ∧ HR κ1 γ H
def GW (κ : KP) (γ : St) (U : State) : Prop := HE κ γ U.heap ∧ va_K (kD κ) vwCl (tysK κ) U ∧ kB κ ≤ U.heap.size ∧ XT U ∧ XZ (kB κ) U U.heap
theorem GW.blind {κ : KP} {γ : St} {av : List Value} : FrameBlind (va_Pc av (GW κ γ)) := fun a U g mk q => by
  obtain ⟨h0, h1, h2, h3, h4, h5⟩ := q
  exact ⟨h0, h1, va_K.moved (u := U) (U := U.calling g mk a) (Vm.Alike.refl U.vm) h2, h3, h4.warm (State.WarmedH.refl U), XZ.moved (u := U) (U := U.calling g mk a) (Vm.Alike.refl U.vm) h5⟩
def QL (κ : KP) (γ : St) (v : Option Value) : Array Value → State → Outcome → State → Prop := fun _ st o t => o = .returned v ∧ HE κ γ t.heap ∧ va_F (AA κ) st t
def QLX (κ : KP) (γ : St) (n : Nat) (v : Option Value) : Array Value → State → Outcome → State → Prop := fun _ st o t => n = 0 ∧ o = .returned v ∧ HE κ γ t.heap ∧ va_F (AA κ) st t
def XLX (κ : KP) (γ : St) (n : Nat) : String → State → State → Prop := fun E st t => n ≠ 0 ∧ E = eNm n ∧ HE κ γ t.heap ∧ va_F (AA κ) st t
theorem KE.rf {κ : KP} : KE κ κ := ⟨rfl, rfl, rfl, fun _ _ h => ⟨h, rfl⟩⟩
theorem KE.tr {κ κ' κ'' : KP} (h : KE κ κ') (h' : KE κ' κ'') : KE κ κ'' := ⟨h'.1.trans h.1, h'.2.1.trans h.2.1, h'.2.2.1.trans h.2.2.1, fun c n hl => ⟨(h'.2.2.2 c n (h.2.2.2 c n hl).1).1, ((h'.2.2.2 c n (h.2.2.2 c n hl).1).2).trans (h.2.2.2 c n hl).2⟩⟩
theorem KE.aa {κ κ' : KP} (h : KE κ κ') : AA κ' = AA κ := by have h3 := h.2.2.1; unfold AA; rw [h3]
theorem CX.ke {κ κ' : KP} {cc : ByteArray} {own : String} {nL : Nat} {p : Program} {l : Launch} {s : State} {m : MethodId} {args : Array Value} {meth : Method} {c : Code} (h : KE κ κ') (C0 : CX κ cc own nL p l s m args meth c) : CX κ' cc own nL p l s m args meth c := by
  obtain ⟨h1, h2, h3, -⟩ := h
  unfold CX at C0 ⊢
  have e1 : tysK κ' = tysK κ := by unfold tysK; rw [h2]
  rw [h1, e1, h3]
  exact C0
theorem GW.gg {κ κ1 : KP} {γ : St} {U : State} (h : KE κ κ1) (hR : HR κ1 γ U.heap) (hG : GW κ γ U) : GG κ1 γ U := by
  obtain ⟨-, h2, h3, h4, h5⟩ := hG
  obtain ⟨e1, e2, e3, -⟩ := h
  unfold GG
  have e : tysK κ1 = tysK κ := by unfold tysK; rw [e2]
  rw [e1, e, e3]
  exact ⟨hR, h2, h3, h4, h5⟩
/-- a method's contract, said otherwise -/
theorem vx_conv {l : Launch} {y : MethodName} {ws : List Cond} {rm : Room} {mc ms : Nat} {free : Addr → Prop} {Pc' : Array Value → State → Prop} {Qc' : Array Value → State → Outcome → State → Prop} {XC' : String → State → State → Prop}
    (h : ∀ a s, Pc' a s → ∃ (Pc : Array Value → State → Prop) (Qc : Array Value → State → Outcome → State → Prop) (XC : String → State → State → Prop), vx_Met l y ws rm Pc Qc XC mc ms free ∧ Pc a s ∧ (∀ o t, Qc a s o t → Qc' a s o t) ∧ (∀ E t, XC E s t → XC' E s t)) : vx_Met l y ws rm Pc' Qc' XC' mc ms free := by
  intro p e ha hc hk s m args below hf happ hP hK
  obtain ⟨Pc, Qc, XC, hM, h1, h2, h3⟩ := h args s hP
  obtain ⟨n, o, k1, k2, k3, k4⟩ := hM p e ha hc hk s m args below hf happ h1 trivial
  refine ⟨n, o, k1, k2, k3, ?_⟩
  rcases k4 with ⟨g1, g2⟩ | ⟨q, g1, E, ce, L, g2, g3⟩
  · exact Or.inl ⟨h2 _ _ g1, g2⟩
  · exact Or.inr ⟨q, g1, E, ce, L, h3 _ _ g2, g3⟩
theorem met_conv {l : Launch} {y : MethodName} {ws : List Cond} {rm : Room} {mc ms : Nat} {free : Addr → Prop} {Pc' : Array Value → State → Prop} {Qc' : Array Value → State → Outcome → State → Prop}
    (h : ∀ a s, Pc' a s → ∃ (Pc : Array Value → State → Prop) (Qc : Array Value → State → Outcome → State → Prop), Met l y ws rm Pc Qc mc ms free ∧ Pc a s ∧ (∀ o t, Qc a s o t → Qc' a s o t)) : Met l y ws rm Pc' Qc' mc ms free := by
  intro p e ha hc hk s m args below hf happ hP hK
  obtain ⟨Pc, Qc, hM, h1, h2⟩ := h args s hP
  obtain ⟨n, o, k1, k2, k3, k4⟩ := hM p e ha hc hk s m args below hf happ h1 trivial
  exact ⟨n, o, k1, k2, k3, h2 _ _ k4.1, k4.2⟩
/-- a method of the class, in that world: what may throw -/
theorem co_of {l : Launch} {y : MethodName} {ws : List Cond} {rm : Room} {mc ms : Nat} {κ : KP} {γ γ' : St} {As : List Value} {en : Nat} {v : Option Value}
    (h : ∀ κ1 : KP, KE κ κ1 → GI (kN κ1) (kO κ1) γ → vx_Met l y ws rm (va_Pc (.ref (kA κ1 7 0) :: As) (GG κ1 γ)) (QX κ1 γ' en v) (XX κ1 γ' en) mc ms (AA κ1) ∧ GI (kN κ1) (kO κ1) γ') : vx_Met l y ws rm (va_Pc (.ref (kA κ 7 0) :: As) (GW κ γ)) (QLX κ γ' en v) (XLX κ γ' en) mc ms (AA κ) := by
  refine vx_conv fun a s hP => ?_
  obtain ⟨ha, hG⟩ := hP
  obtain ⟨κ1, hke, hgi, hR⟩ := hG.1
  obtain ⟨hM, hgi'⟩ := h κ1 hke hgi
  rw [(hke.2.2.2 7 0 lv_7).2, hke.aa] at hM
  refine ⟨_, _, _, hM, ⟨ha, hG.gg hke hR⟩, fun o t hq => ?_, fun E t hq => ?_⟩
  · obtain ⟨q1, q2, q3, q4⟩ := hq
    exact ⟨q1, q2, ⟨κ1, hke, hgi', q3⟩, by rw [hke.aa] at q4; exact q4⟩
  · obtain ⟨q1, q2, q3, q4⟩ := hq
    exact ⟨q1, q2, ⟨κ1, hke, hgi', q3⟩, by rw [hke.aa] at q4; exact q4⟩
/-- .. what makes a bout or a pool -/
theorem co_ofE {l : Launch} {y : MethodName} {ws : List Cond} {rm : Room} {mc ms : Nat} {κ : KP} {γ γ' : St} {As : List Value} {en : Nat} {v : Option Value}
    (h : ∀ κ1 : KP, KE κ κ1 → GI (kN κ1) (kO κ1) γ → ∃ nb np : Nat, vx_Met l y ws rm (va_Pc (.ref (kA κ1 7 0) :: As) (GG κ1 γ)) (QE κ1 γ' en v nb np) (XX κ1 γ' en) mc ms (AA κ1) ∧ (en = 0 → GI nb np γ') ∧ (en ≠ 0 → GI (kN κ1) (kO κ1) γ')) : vx_Met l y ws rm (va_Pc (.ref (kA κ 7 0) :: As) (GW κ γ)) (QLX κ γ' en v) (XLX κ γ' en) mc ms (AA κ) := by
  refine vx_conv fun a s hP => ?_
  obtain ⟨ha, hG⟩ := hP
  obtain ⟨κ1, hke, hgi, hR⟩ := hG.1
  obtain ⟨nb, np, hM, hgi', hgi''⟩ := h κ1 hke hgi
  rw [(hke.2.2.2 7 0 lv_7).2, hke.aa] at hM
  refine ⟨_, _, _, hM, ⟨ha, hG.gg hke hR⟩, fun o t hq => ?_, fun E t hq => ?_⟩
  · obtain ⟨q1, q2, ⟨κ2, k1, k2, k3, k4⟩, q4⟩ := hq
    exact ⟨q1, q2, ⟨κ2, hke.tr k1, by rw [k2, k3]; exact hgi' q1, k4⟩, by rw [hke.aa] at q4; exact q4⟩
  · obtain ⟨q1, q2, q3, q4⟩ := hq
    exact ⟨q1, q2, ⟨κ1, hke, hgi'' q1, q3⟩, by rw [hke.aa] at q4; exact q4⟩
/-- .. what cannot throw -/
theorem co_ofM {l : Launch} {y : MethodName} {ws : List Cond} {rm : Room} {κ : KP} {γ γ' : St} {As : List Value} {v : Option Value}
    (h : ∀ κ1 : KP, KE κ κ1 → GI (kN κ1) (kO κ1) γ → Met l y ws rm (va_Pc (.ref (kA κ1 7 0) :: As) (GG κ1 γ)) (QQ κ1 γ' v) 0 0 (AA κ1) ∧ GI (kN κ1) (kO κ1) γ') : Met l y ws rm (va_Pc (.ref (kA κ 7 0) :: As) (GW κ γ)) (QL κ γ' v) 0 0 (AA κ) := by
  refine met_conv fun a s hP => ?_
  obtain ⟨ha, hG⟩ := hP
  obtain ⟨κ1, hke, hgi, hR⟩ := hG.1
  obtain ⟨hM, hgi'⟩ := h κ1 hke hgi
  rw [(hke.2.2.2 7 0 lv_7).2, hke.aa] at hM
  refine ⟨_, _, hM, ⟨ha, hG.gg hke hR⟩, fun o t hq => ?_⟩
  obtain ⟨q2, q3, q4⟩ := hq
  exact ⟨q2, ⟨κ1, hke, hgi', q3⟩, by rw [hke.aa] at q4; exact q4⟩
section HRE
variable {p : Program} {l : Launch} {e : Env} {R : Room} {s : State} {m : MethodId} {args : Array Value} {below : List Frame} {meth : Method} {c : Code} {H : Heap} {locs : List Loc} {cells slots : Nat} {Q : State → Prop}
variable {cc : ByteArray} {pc : Nat} {ls : Array Slot} {rest : List Value} {κ : KP} {γ : St} {own : String} {nL : Nat}
theorem ge_of (C0 : CX κ cc own nL p l s m args meth c) (hH : HE κ γ H) (hS : va_S (AA κ) s.heap H locs) {U : State} (hU : U.heap = H) (hW : s.WarmedH U.vm) : GW κ γ U := by
  obtain ⟨-, -, -, -, hK, hX, hZ, hB, -⟩ := C0
  refine ⟨by rw [hU]; exact hH, va_K.moved hW.alike hK, by rw [hU]; exact Nat.le_trans hB hS.1, hX.warm hW, ?_⟩
  rw [hU]
  exact XZ.moved hW.alike (hZ.kept (fun a ha hn => hS.2.1 a ha hn))
theorem el_recv (C0 : CX κ cc own nL p l s m args meth c) (hH : HE κ γ H) : ∃ cell : Cell, H[kA κ 7 0]? = some cell ∧ cell.vm.isStatics = false ∧ s.vm.findClass RX7 = some cell.cls := by
  obtain ⟨κ1, hke, -, hR⟩ := hH
  have h := hp_recv (C0.ke hke) hR (ci := 7) (n := 0) lv_7 rfl (C := RX7) (T := TX7) (N := 10) rfl
  rw [(hke.2.2.2 7 0 lv_7).2] at h
  exact h
theorem el_call {mc ms : Nat} {st0 st' : List Value} {v : Option Value} {γ' : St} {a : Array Value} (hr : va_Run p l e R s m args below meth c H locs cells slots mc ms (F0 m pc ls st0) rest (QL κ γ' v a) (AA κ)) (hS : va_S (AA κ) s.heap H locs) (hst : v.toList ++ rest = st')
    (kk : ∀ (H : Heap) (locs : List Loc), HE κ γ' H → va_S (AA κ) s.heap H locs → W p l e R s m args below meth c H locs (cells + mc) (slots + ms) Q (F0 m (pc + 3) ls st')) : W p l e R s m args below meth c H locs cells slots Q (F0 m pc ls st0) := by
  subst hst
  intro T hT X
  obtain ⟨v', st₀, t, T', L, h0, X', hL, e1, e2, ⟨hv, hh, hF⟩, st⟩ := hr T hT X
  cases hv
  obtain ⟨k1, k2, k3⟩ := vx_keep h0 e1 hS (fun q _ h => h) (fun q h => h) hL hF
  obtain ⟨t2, a1, b1⟩ := kk T'.heap (locs ++ L) (by rw [e1]; exact hh) k3 T' rfl X'
  exact ⟨t2, st t2 a1, b1⟩
theorem el_xcall {mc ms n : Nat} {st0 st' : List Value} {v : Option Value} {γ' : St} {a : Array Value} (hr : vx_Run p l e R s m args below meth c H locs cells slots mc ms (F0 m pc ls st0) rest (QLX κ γ' n v a) (XLX κ γ' n) (AA κ)) (hS : va_S (AA κ) s.heap H locs) (hst : v.toList ++ rest = st')
    (kx : n ≠ 0 → ∀ (ce : Cell) (q9 : Addr) (H : Heap) (locs : List Loc), HE κ γ' H → va_S (AA κ) s.heap H locs → H[q9]? = some ce → ce.vm = .none → s.vm.findClass (eNm n) = some ce.cls → vx_W p l e R s m args below meth c H locs (cells + mc) (slots + ms) Q (F0 m pc ls rest) q9)
    (kk : n = 0 → ∀ (H : Heap) (locs : List Loc), HE κ γ' H → va_S (AA κ) s.heap H locs → W p l e R s m args below meth c H locs (cells + mc) (slots + ms) Q (F0 m (pc + 3) ls st')) : W p l e R s m args below meth c H locs cells slots Q (F0 m pc ls st0) := by
  subst hst
  intro T hT X
  rcases hr T hT X with ⟨v', st₀, t, T', L, h0, X', hL, e1, e2, ⟨hn, hv, hh, hF⟩, st⟩ | ⟨q, st₀, t, T', L, E, ce, h0, X', hL, e1, e2, ⟨hn, rfl, hh, hF⟩, hce, hcv, hcl, st⟩
  · cases hv
    obtain ⟨k1, k2, k3⟩ := vx_keep h0 e1 hS (fun q _ h => h) (fun q h => h) hL hF
    obtain ⟨t2, a1, b1⟩ := kk hn T'.heap (locs ++ L) (by rw [e1]; exact hh) k3 T' rfl X'
    exact ⟨t2, st t2 a1, b1⟩
  · obtain ⟨k1, k2, k3⟩ := vx_keep h0 e1 hS (fun q _ h => h) (fun q h => h) hL hF
    obtain ⟨t2, a1, b1⟩ := kx hn ce q T'.heap (locs ++ L) (by rw [e1]; exact hh) k3 (by rw [e1]; exact hce) hcv hcl T' rfl X'
    exact ⟨t2, st.trans a1, b1⟩
theorem e_callV (C0 : CX κ cc own nL p l s m args meth c) {lvs : List (Nat × Value)} (hl : lv_has ls nL lvs) (hH : HE κ γ H) (hS : va_S (AA κ) s.heap H locs) {y : MethodName} {bytes : ByteArray} {maxL : Nat} {ret : Option FieldType} {rm : Room} {index : Nat} {k : Nat} {As st0 st' : List Value} {γ' : St} {v : Option Value}
    (hM : Met l y [.code y bytes maxL ret] rm (va_Pc (.ref (kA κ 7 0) :: As) (GW κ γ)) (QL κ γ' v) 0 0 (AA κ))
    (w1 : Cond.methodLink own index y ∈ TW) (w2 : Cond.instanceMethod y ∈ TW) (w3 : Cond.selects RX7 y y ∈ TW) (w4 : Cond.initialized RX7 ∈ TW) (w5 : Cond.code y bytes maxL ret ∈ TW)
    (hd : y.cls = RX7 ∧ y.cls ≠ "java/lang/invoke/MethodHandle" ∧ y.cls ≠ "java/lang/invoke/VarHandle" ∧ (parseMethodDescriptor y.desc).map (fun d => d.parameters.length) = some k) (hR : rm.frames + 1 ≤ R.frames ∧ 8 + (maxL + 11) + rm.locals ≤ R.locals) (hrc : rm.cells = 0) (hrs : rm.slots = 0) (hn : As.length = k)
    (hst0 : st0 = As.reverse ++ .ref (kA κ 7 0) :: rest) (hcat : (rest.map fun v => v.category).sum ≤ 8) (hdg : decode cc pc = .ok (.invokevirtual index, 3)) (hf : cells ≤ R.cells ∧ slots ≤ R.slots) (hst : v.toList ++ rest = st')
    (kk : ∀ (H : Heap) (locs : List Loc), HE κ γ' H → va_S (AA κ) s.heap H locs → W p l e R s m args below meth c H locs cells slots Q (F0 m (pc + 3) ls st')) : W p l e R s m args below meth c H locs cells slots Q (F0 m pc ls st0) := by
  obtain ⟨hx, hb, hown, hT, hK, hX, hZ, hB, hml, hlk⟩ := id C0
  exact el_call (va_runV (As := As) (rest := rest) ⟨hx, hb, hml, hown, hT⟩ hM (cwV k hT (gi5 w1 w2 w3 w4 w5) rfl hrc hrs hd hR) ⟨GW.blind, el_recv C0 hH, fun U hU hW => ⟨rfl, ge_of C0 hH hS hU hW⟩⟩ rfl hn hl.1 hst0 (lv_room hcat) hdg hf) hS hst kk
theorem e_xcallV (C0 : CX κ cc own nL p l s m args meth c) {lvs : List (Nat × Value)} (hl : lv_has ls nL lvs) (hH : HE κ γ H) (hS : va_S (AA κ) s.heap H locs) {y : MethodName} {bytes : ByteArray} {maxL : Nat} {ret : Option FieldType} {rm : Room} {index : Nat} {k mc ms en : Nat} {As st0 st' : List Value} {γ' : St} {v : Option Value}
    (hM : vx_Met l y [.code y bytes maxL ret] rm (va_Pc (.ref (kA κ 7 0) :: As) (GW κ γ)) (QLX κ γ' en v) (XLX κ γ' en) mc ms (AA κ))
    (w1 : Cond.methodLink own index y ∈ TW) (w2 : Cond.instanceMethod y ∈ TW) (w3 : Cond.selects RX7 y y ∈ TW) (w4 : Cond.initialized RX7 ∈ TW) (w5 : Cond.code y bytes maxL ret ∈ TW)
    (hd : y.cls = RX7 ∧ y.cls ≠ "java/lang/invoke/MethodHandle" ∧ y.cls ≠ "java/lang/invoke/VarHandle" ∧ (parseMethodDescriptor y.desc).map (fun d => d.parameters.length) = some k) (hR : rm.frames + 1 ≤ R.frames ∧ 8 + (maxL + 11) + rm.locals ≤ R.locals) (hrc : rm.cells = mc) (hrs : rm.slots = ms) (hn : As.length = k)
    (hst0 : st0 = As.reverse ++ .ref (kA κ 7 0) :: rest) (hcat : (rest.map fun v => v.category).sum ≤ 8) (hdg : decode cc pc = .ok (.invokevirtual index, 3)) (hf : cells + mc ≤ R.cells ∧ slots + ms ≤ R.slots) (hst : v.toList ++ rest = st')
    (kx : en ≠ 0 → ∀ (ce : Cell) (q9 : Addr) (H : Heap) (locs : List Loc), HE κ γ' H → va_S (AA κ) s.heap H locs → H[q9]? = some ce → ce.vm = .none → s.vm.findClass (eNm en) = some ce.cls → vx_W p l e R s m args below meth c H locs (cells + mc) (slots + ms) Q (F0 m pc ls rest) q9)
    (kk : en = 0 → ∀ (H : Heap) (locs : List Loc), HE κ γ' H → va_S (AA κ) s.heap H locs → W p l e R s m args below meth c H locs (cells + mc) (slots + ms) Q (F0 m (pc + 3) ls st')) : W p l e R s m args below meth c H locs cells slots Q (F0 m pc ls st0) := by
  obtain ⟨hx, hb, hown, hT, hK, hX, hZ, hB, hml, hlk⟩ := id C0
  exact el_xcall (vx_runV (As := As) (rest := rest) ⟨hx, hb, hml, hown, hT⟩ hM (cwV k hT (gi5 w1 w2 w3 w4 w5) rfl hrc hrs hd hR) ⟨GW.blind, el_recv C0 hH, fun U hU hW => ⟨rfl, ge_of C0 hH hS hU hW⟩⟩ rfl hn hl.1 hst0 (lv_room hcat) hdg hf) hS hst kx kk
theorem e_callS (C0 : CX κ cc own nL p l s m args meth c) {lvs : List (Nat × Value)} (hl : lv_has ls nL lvs) (hH : HE κ γ H) (hS : va_S (AA κ) s.heap H locs) {y : MethodName} {bytes : ByteArray} {maxL : Nat} {ret : Option FieldType} {rm : Room} {index k mc ms : Nat} {As st0 st' : List Value} {γ' : St} {v : Option Value}
    (hM : Met l y [.code y bytes maxL ret] rm (va_Pc As (GW κ γ)) (QL κ γ' v) mc ms (AA κ))
    (w1 : Cond.methodLink own index y ∈ TW) (w2 : Cond.static y ∈ TW) (w4 : Cond.initialized y.cls ∈ TW) (w5 : Cond.code y bytes maxL ret ∈ TW)
    (hd : y.cls ≠ "java/lang/invoke/MethodHandle" ∧ y.cls ≠ "java/lang/invoke/VarHandle" ∧ (parseMethodDescriptor y.desc).map (fun d => d.parameters.length) = some k) (hR : rm.frames + 1 ≤ R.frames ∧ 8 + (maxL + 11) + rm.locals ≤ R.locals) (hrc : rm.cells = mc) (hrs : rm.slots = ms) (hn : As.length = k)
    (hst0 : st0 = As.reverse ++ rest) (hcat : (rest.map fun v => v.category).sum ≤ 8) (hdg : decode cc pc = .ok (.invokestatic index, 3)) (hf : cells + mc ≤ R.cells ∧ slots + ms ≤ R.slots) (hst : v.toList ++ rest = st')
    (kk : ∀ (H : Heap) (locs : List Loc), HE κ γ' H → va_S (AA κ) s.heap H locs → W p l e R s m args below meth c H locs (cells + mc) (slots + ms) Q (F0 m (pc + 3) ls st')) : W p l e R s m args below meth c H locs cells slots Q (F0 m pc ls st0) := by
  obtain ⟨hx, hb, hown, hT, hK, hX, hZ, hB, hml, hlk⟩ := id C0
  exact el_call (va_runS (As := As) (rest := rest) ⟨hx, hb, hml, hown, hT⟩ hM ⟨callB_of k hT (gi1 w5) rfl hrc hrs (hT _ w4) (hT _ w1) hd hR, hT _ w2⟩ ⟨GW.blind, fun U hU hW => ⟨rfl, ge_of C0 hH hS hU hW⟩⟩ rfl hn hl.1 hst0 (lv_room hcat) hdg hf) hS hst kk
theorem e_xcallS (C0 : CX κ cc own nL p l s m args meth c) {lvs : List (Nat × Value)} (hl : lv_has ls nL lvs) (hH : HE κ γ H) (hS : va_S (AA κ) s.heap H locs) {y : MethodName} {bytes : ByteArray} {maxL : Nat} {ret : Option FieldType} {rm : Room} {index k mc ms en : Nat} {As st0 st' : List Value} {γ' : St} {v : Option Value}
    (hM : vx_Met l y [.code y bytes maxL ret] rm (va_Pc As (GW κ γ)) (QLX κ γ' en v) (XLX κ γ' en) mc ms (AA κ))
    (w1 : Cond.methodLink own index y ∈ TW) (w2 : Cond.static y ∈ TW) (w4 : Cond.initialized y.cls ∈ TW) (w5 : Cond.code y bytes maxL ret ∈ TW)
    (hd : y.cls ≠ "java/lang/invoke/MethodHandle" ∧ y.cls ≠ "java/lang/invoke/VarHandle" ∧ (parseMethodDescriptor y.desc).map (fun d => d.parameters.length) = some k) (hR : rm.frames + 1 ≤ R.frames ∧ 8 + (maxL + 11) + rm.locals ≤ R.locals) (hrc : rm.cells = mc) (hrs : rm.slots = ms) (hn : As.length = k)
    (hst0 : st0 = As.reverse ++ rest) (hcat : (rest.map fun v => v.category).sum ≤ 8) (hdg : decode cc pc = .ok (.invokestatic index, 3)) (hf : cells + mc ≤ R.cells ∧ slots + ms ≤ R.slots) (hst : v.toList ++ rest = st')
    (kx : en ≠ 0 → ∀ (ce : Cell) (q9 : Addr) (H : Heap) (locs : List Loc), HE κ γ' H → va_S (AA κ) s.heap H locs → H[q9]? = some ce → ce.vm = .none → s.vm.findClass (eNm en) = some ce.cls → vx_W p l e R s m args below meth c H locs (cells + mc) (slots + ms) Q (F0 m pc ls rest) q9)
    (kk : en = 0 → ∀ (H : Heap) (locs : List Loc), HE κ γ' H → va_S (AA κ) s.heap H locs → W p l e R s m args below meth c H locs (cells + mc) (slots + ms) Q (F0 m (pc + 3) ls st')) : W p l e R s m args below meth c H locs cells slots Q (F0 m pc ls st0) := by
  obtain ⟨hx, hb, hown, hT, hK, hX, hZ, hB, hml, hlk⟩ := id C0
  exact el_xcall (vx_runS (As := As) (rest := rest) ⟨hx, hb, hml, hown, hT⟩ hM ⟨callB_of k hT (gi1 w5) rfl hrc hrs (hT _ w4) (hT _ w1) hd hR, hT _ w2⟩ ⟨GW.blind, fun U hU hW => ⟨rfl, ge_of C0 hH hS hU hW⟩⟩ rfl hn hl.1 hst0 (lv_room hcat) hdg hf) hS hst kx kk
/-- a call of 'call', which catches -/
theorem e_callW (C0 : CX κ cc own nL p l s m args meth c) {lvs : List (Nat × Value)} (hl : lv_has ls nL lvs) (hH : HE κ γ H) (hS : va_S (AA κ) s.heap H locs) {y : MethodName} {bytes : ByteArray} {maxL : Nat} {ret : Option FieldType} {hh : List (Nat × Nat × Nat × Nat)} {rm : Room} {index k mc ms : Nat} {As st0 st' : List Value} {γ' : St} {v : Option Value}
    (hM : vx_Met l y [.codeWith y bytes maxL ret hh] rm (va_Pc As (GW κ γ)) (QLX κ γ' 0 v) (XLX κ γ' 0) mc ms (AA κ))
    (w1 : Cond.methodLink own index y ∈ TW) (w2 : Cond.static y ∈ TW) (w4 : Cond.initialized y.cls ∈ TW) (w5 : Cond.codeWith y bytes maxL ret hh ∈ TW)
    (hd : y.cls ≠ "java/lang/invoke/MethodHandle" ∧ y.cls ≠ "java/lang/invoke/VarHandle" ∧ (parseMethodDescriptor y.desc).map (fun d => d.parameters.length) = some k) (hR : rm.frames + 1 ≤ R.frames ∧ 8 + (maxL + 11) + rm.locals ≤ R.locals) (hrc : rm.cells = mc) (hrs : rm.slots = ms) (hn : As.length = k)
    (hst0 : st0 = As.reverse ++ rest) (hcat : (rest.map fun v => v.category).sum ≤ 8) (hdg : decode cc pc = .ok (.invokestatic index, 3)) (hf : cells + mc ≤ R.cells ∧ slots + ms ≤ R.slots) (hst : v.toList ++ rest = st')
    (kk : ∀ (H : Heap) (locs : List Loc), HE κ γ' H → va_S (AA κ) s.heap H locs → W p l e R s m args below meth c H locs (cells + mc) (slots + ms) Q (F0 m (pc + 3) ls st')) : W p l e R s m args below meth c H locs cells slots Q (F0 m pc ls st0) := by
  obtain ⟨hx, hb, hown, hT, hK, hX, hZ, hB, hml, hlk⟩ := id C0
  exact el_xcall (vx_runSX (As := As) (rest := rest) ⟨hx, hb, hml, hown, hT⟩ hM (vx_cwSW k hT (gi4 w1 w2 w4 w5) rfl hrc hrs hd hR) ⟨GW.blind, fun U hU hW => ⟨rfl, ge_of C0 hH hS hU hW⟩⟩ rfl hn hl.1 hst0 (lv_room hcat) hdg hf) hS hst (fun h => absurd rfl h) (fun _ => kk)
theorem er_i {v x : Int32} {γ' : St} {mc ms : Nat} (C0 : CX κ cc own nL p l s m args meth c) (hr : meth.sig.returnType = some .int) (hH : HE κ γ H) (hS : va_S (AA κ) s.heap H locs) (hg : γ = γ') (hv : x = v) (h1 : cells ≤ mc) (h2 : slots ≤ ms) (hdg : decode cc pc = .ok (.ireturn, 1)) : W p l e R s m args below meth c H locs cells slots (MQ below (QL κ γ' (some (.int v))) args s mc ms (AA κ)) (F0 m pc ls [.int x]) := by
  obtain ⟨hx, hb, -, -, -, -, -, -, -, hlk⟩ := C0
  subst hg; subst hv
  exact W.widen h1 h2 (W.iret hx hb hr (fun t ht _ => ⟨rfl, by rw [ht]; exact hH, hS.F ht⟩) hS.2.2 hdg hlk)
theorem er_z0 {v x x' : Int32} {γ' : St} (C0 : CX κ cc own nL p l s m args meth c) (hr : meth.sig.returnType = some .boolean) (hn : narrow .boolean (.int x) = .int x') (hH : HE κ γ H) (hS : va_S (AA κ) s.heap H locs) (hg : γ = γ') (hv : x' = v) (hdg : decode cc pc = .ok (.ireturn, 1)) : W p l e R s m args below meth c H locs cells slots (MQ below (QL κ γ' (some (.int v))) args s cells slots (AA κ)) (F0 m pc ls [.int x]) := by
  obtain ⟨hexec, hb, -, -, -, -, -, -, -, hlk⟩ := C0
  subst hg; subst hv
  intro T hT X
  have hlocks : meth.locks = false := hlk
  obtain ⟨fs, hret, hrun, hended, hW, hframe⟩ := X.leave (v := some (.int x')) (fun h => by rw [hr] at h; cases h)
  have hmeth' : T.vm.method? m = some meth := X.method'
  refine ⟨T.setFrames fs, ?_, .returned (some (.int x')), hrun, hended, ⟨rfl, by show HE κ γ T.heap; rw [hT]; exact hH, va_S.F (t := T.setFrames fs) hS hT⟩, locs, ⟨⟨_, rfl⟩, hW, hframe⟩, hS.2.2⟩
  jvm_step X.here [X.here.top, hexec, hb, hdg, hmeth', hr, hn]
  (try refine ⟨rfl, ?_⟩); (try refine ⟨rfl, ?_⟩)
  first | (intro acts; rw [hret _ acts rfl rfl rfl]) | rw [hret _ _ rfl rfl rfl]
  exact Steps.refl _
theorem er_z {v x x' : Int32} {γ' : St} {mc ms : Nat} (C0 : CX κ cc own nL p l s m args meth c) (hr : meth.sig.returnType = some .boolean) (hn : narrow .boolean (.int x) = .int x') (hH : HE κ γ H) (hS : va_S (AA κ) s.heap H locs) (hg : γ = γ') (hv : x' = v) (h1 : cells ≤ mc) (h2 : slots ≤ ms) (hdg : decode cc pc = .ok (.ireturn, 1)) : W p l e R s m args below meth c H locs cells slots (MQ below (QL κ γ' (some (.int v))) args s mc ms (AA κ)) (F0 m pc ls [.int x]) := W.widen h1 h2 (er_z0 C0 hr hn hH hS hg hv hdg)
end HRE
