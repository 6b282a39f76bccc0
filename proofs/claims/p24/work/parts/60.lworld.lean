def κS (D : va_G) (kc : Nat → ClassId) (B0 : Nat) (ad : Nat → Nat) : KP := (D, kc, B0, fun c _ => ad c, 0, 0)
def psS (c : Nat) : Nat := match c with
  | 1 => 10
  | 3 => 13
  | 4 => 3
  | 6 => 9
  | 7 => 0
  | 9 => 1
  | 10 => 2
  | 11 => 4
  | 12 => 5
  | 13 => 6
  | 14 => 7
  | 15 => 8
  | 16 => 11
  | 17 => 12
  | _ => 99
def adS (q0 q1 q2 q3 q4 q5 q6 q7 q8 q9 q10 q11 q12 q13 : Nat) (c : Nat) : Nat := match c with
  | 1 => q10
  | 3 => q13
  | 4 => q3
  | 6 => q9
  | 7 => q0
  | 9 => q1
  | 10 => q2
  | 11 => q4
  | 12 => q5
  | 13 => q6
  | 14 => q7
  | 15 => q8
  | 16 => q11
  | 17 => q12
  | _ => 0
set_option maxHeartbeats 4000000 in
theorem lv_S {D : va_G} {kc : Nat → ClassId} {B0 : Nat} {ad : Nat → Nat} {c n : Nat} (h : lv (κS D kc B0 ad) c n) : n = 0 ∧ (c < 20 ∧ c ≠ 8) ∧ c ≠ 0 ∧ c ≠ 2 ∧ c ≠ 5 ∧ c ≠ 18 ∧ c ≠ 19 := by
  unfold lv at h
  by_cases h0 : c = 0
  · rw [if_pos h0] at h; exact absurd h (Nat.not_lt_zero n)
  · rw [if_neg h0] at h
    by_cases h2 : c = 2
    · rw [if_pos h2] at h; exact absurd h (Nat.not_lt_zero n)
    · rw [if_neg h2] at h
      by_cases h5 : c = 5 ∨ c = 18 ∨ c = 19
      · rw [if_pos h5] at h; exact absurd h (Nat.not_lt_zero n)
      · rw [if_neg h5] at h
        exact ⟨h.2, h.1, h0, h2, fun e => h5 (Or.inl e), fun e => h5 (Or.inr (Or.inl e)), fun e => h5 (Or.inr (Or.inr e))⟩
def WS (kc : Nat → ClassId) (q0 q1 q2 q3 q4 q5 q6 q7 q8 q9 q10 q11 q12 q13 : Nat) : va_W := [(q0, .inr (7, [.ref q1, .ref q2, .ref q3, .ref q10, .ref q13, .int 0, .int 0, .int 0, .null, .int ((-1))])), (q1, .inl (kc 2, (80, .inr (.inr (.inr (.inr (fun _ => none))))))), (q2, .inl (kc 3, (6, .inr (.inr (.inr (.inr (fun _ => none))))))), (q3, .inr (4, [.ref q4, .ref q5, .ref q6, .ref q7, .ref q8, .ref q9, .int 0])), (q4, .inl (kc 0, (24, .inl (fun _ => 0)))), (q5, .inl (kc 0, (24, .inl (fun _ => 0)))), (q6, .inl (kc 0, (24, .inl (fun _ => 0)))), (q7, .inl (kc 0, (24, .inl (fun _ => 0)))), (q8, .inl (kc 0, (24, .inl (fun _ => 0)))), (q9, .inr (6, [.int ((-1)), .int ((-1)), .int 0, .int ((-1)), .int 0])), (q10, .inr (1, [.ref q11, .ref q12, .int 0])), (q11, .inl (kc 0, (32, .inl (fun _ => 0)))), (q12, .inl (kc 0, (16, .inl (fun _ => 0)))), (q13, .inr (3, [.long 0]))]
set_option maxRecDepth 20000 in
set_option maxHeartbeats 4000000 in
theorem WS_at (D : va_G) (kc : Nat → ClassId) (B0 : Nat) (q0 q1 q2 q3 q4 q5 q6 q7 q8 q9 q10 q11 q12 q13 : Nat) {c : Nat} (h : c < 20 ∧ c ≠ 8) (h0 : c ≠ 0) (h2 : c ≠ 2) (h5 : c ≠ 5) (h18 : c ≠ 18) (h19 : c ≠ 19) : (WS kc q0 q1 q2 q3 q4 q5 q6 q7 q8 q9 q10 q11 q12 q13)[psS c]? = some (adS q0 q1 q2 q3 q4 q5 q6 q7 q8 q9 q10 q11 q12 q13 c, cel (κS D kc B0 (adS q0 q1 q2 q3 q4 q5 q6 q7 q8 q9 q10 q11 q12 q13)) γS c 0) := by
  match c, h, h0, h2, h5, h18, h19 with
  | 0, _, hh, _, _, _, _ => exact absurd rfl hh
  | 1, _, _, _, _, _, _ => rfl
  | 2, _, _, hh, _, _, _ => exact absurd rfl hh
  | 3, _, _, _, _, _, _ => rfl
  | 4, _, _, _, _, _, _ => rfl
  | 5, _, _, _, hh, _, _ => exact absurd rfl hh
  | 6, _, _, _, _, _, _ => rfl
  | 7, _, _, _, _, _, _ => rfl
  | 8, h, _, _, _, _, _ => exact absurd rfl h.2
  | 9, _, _, _, _, _, _ => rfl
  | 10, _, _, _, _, _, _ => rfl
  | 11, _, _, _, _, _, _ => rfl
  | 12, _, _, _, _, _, _ => rfl
  | 13, _, _, _, _, _, _ => rfl
  | 14, _, _, _, _, _, _ => rfl
  | 15, _, _, _, _, _, _ => rfl
  | 16, _, _, _, _, _, _ => rfl
  | 17, _, _, _, _, _, _ => rfl
  | 18, _, _, _, _, hh, _ => exact absurd rfl hh
  | 19, _, _, _, _, _, hh => exact absurd rfl hh
  | c + 20, h, _, _, _, _, _ => exact absurd h.1 (by omega)
theorem psS_i0 : ∀ c, c < 20 → ∀ d, d < 20 → (psS c = psS d ∧ psS c ≠ 99) → c = d := by decide +kernel
theorem psS_i1 : ∀ c, c < 20 → psS c = 99 → (c = 0 ∨ c = 2 ∨ c = 5 ∨ c = 18 ∨ c = 19 ∨ c = 8) := by decide +kernel
theorem psS_inj (c : Nat) (hc : c < 20 ∧ c ≠ 8) (d : Nat) (hd : d < 20) (h0 : c ≠ 0) (h2 : c ≠ 2) (h5 : c ≠ 5) (h18 : c ≠ 18) (h19 : c ≠ 19) (e : psS c = psS d) : c = d := psS_i0 c hc.1 d hd ⟨e, fun h => by rcases psS_i1 c hc.1 h with h | h | h | h | h | h; exact h0 h; exact h2 h; exact h5 h; exact h18 h; exact h19 h; exact hc.2 h⟩
theorem HR_S {D : va_G} {kc : Nat → ClassId} {B0 : Nat} {q0 q1 q2 q3 q4 q5 q6 q7 q8 q9 q10 q11 q12 q13 : Nat} {H : Heap} (hP : va_P D vwCl (WS kc q0 q1 q2 q3 q4 q5 q6 q7 q8 q9 q10 q11 q12 q13) H) (hD : va_D (fun q => B0 ≤ q) (WS kc q0 q1 q2 q3 q4 q5 q6 q7 q8 q9 q10 q11 q12 q13)) : HR (κS D kc B0 (adS q0 q1 q2 q3 q4 q5 q6 q7 q8 q9 q10 q11 q12 q13)) γS H := by
  refine ⟨fun c n hl => ?_, fun c n c' n' hl hl' he => ?_, fun c k b hb => ?_⟩
  · obtain ⟨rfl, h, h0, h2, h5, h18, h19⟩ := lv_S hl
    have hw := WS_at D kc B0 q0 q1 q2 q3 q4 q5 q6 q7 q8 q9 q10 q11 q12 q13 h h0 h2 h5 h18 h19
    exact ⟨hP _ _ hw, hD.2 _ _ hw⟩
  · obtain ⟨rfl, h, h0, h2, h5, h18, h19⟩ := lv_S hl
    obtain ⟨rfl, g, g0, g2, g5, g18, g19⟩ := lv_S hl'
    have hw := WS_at D kc B0 q0 q1 q2 q3 q4 q5 q6 q7 q8 q9 q10 q11 q12 q13 h h0 h2 h5 h18 h19
    have gw := WS_at D kc B0 q0 q1 q2 q3 q4 q5 q6 q7 q8 q9 q10 q11 q12 q13 g g0 g2 g5 g18 g19
    exact ⟨psS_inj c h c' g.1 h0 h2 h5 h18 h19 (hD.1 _ _ _ _ hw gw he), rfl⟩
  · have h0 : gR γS c k = none := by
      unfold gR γS
      rfl
    rw [h0] at hb
    exact absurd hb (by simp)
theorem HE_S {D : va_G} {kc : Nat → ClassId} {B0 : Nat} {q0 q1 q2 q3 q4 q5 q6 q7 q8 q9 q10 q11 q12 q13 : Nat} {H : Heap} (hP : va_P D vwCl (WS kc q0 q1 q2 q3 q4 q5 q6 q7 q8 q9 q10 q11 q12 q13) H) (hD : va_D (fun q => B0 ≤ q) (WS kc q0 q1 q2 q3 q4 q5 q6 q7 q8 q9 q10 q11 q12 q13)) : HE (κS D kc B0 (adS q0 q1 q2 q3 q4 q5 q6 q7 q8 q9 q10 q11 q12 q13)) γS H := ⟨_, KE.rf, GI_of Inv_0, HR_S hP hD⟩
/-- what 'most' stands on: no hall yet -/
def GM (κ : KP) (U : State) : Prop := va_K (kD κ) vwCl (tysK κ) U ∧ kB κ ≤ U.heap.size ∧ XT U ∧ XZ (kB κ) U U.heap ∧ va_AO "Phrasehall$Bout" U ∧ va_AO "Phrasehall$Pool" U
theorem GM.blind {κ : KP} {av : List Value} : FrameBlind (va_Pc av (GM κ)) := fun a U g mk q => by
  obtain ⟨h0, h2, h3, h4, h5, h6, h7⟩ := q
  exact ⟨h0, va_K.moved (u := U) (U := U.calling g mk a) (Vm.Alike.refl U.vm) h2, h3, h4.warm (State.WarmedH.refl U), XZ.moved (u := U) (U := U.calling g mk a) (Vm.Alike.refl U.vm) h5, va_AO.moved (u := U) (U := U.calling g mk a) (Vm.Alike.refl U.vm) h6, va_AO.moved (u := U) (U := U.calling g mk a) (Vm.Alike.refl U.vm) h7⟩
def QM (κ : KP) (v : Option Value) : Array Value → State → Outcome → State → Prop := fun _ st o t => o = .returned v ∧ va_F (AA κ) st t
section HRM
variable {p : Program} {l : Launch} {e : Env} {R : Room} {s : State} {m : MethodId} {args : Array Value} {below : List Frame} {meth : Method} {c : Code} {H : Heap} {locs : List Loc} {cells slots : Nat} {Q : State → Prop}
variable {cc : ByteArray} {pc : Nat} {ls : Array Slot} {rest : List Value} {κ : KP} {γ : St} {own : String} {nL : Nat}
theorem el_callM {mc ms : Nat} {st0 st' : List Value} {v : Option Value} {a : Array Value} (hr : va_Run p l e R s m args below meth c H locs cells slots mc ms (F0 m pc ls st0) rest (QM κ v a) (AA κ)) (hS : va_S (AA κ) s.heap H locs) (hst : v.toList ++ rest = st')
    (kk : ∀ (H : Heap) (locs : List Loc), va_S (AA κ) s.heap H locs → W p l e R s m args below meth c H locs (cells + mc) (slots + ms) Q (F0 m (pc + 3) ls st')) : W p l e R s m args below meth c H locs cells slots Q (F0 m pc ls st0) := by
  subst hst
  intro T hT X
  obtain ⟨v', st₀, t, T', L, h0, X', hL, e1, e2, ⟨hv, hF⟩, st⟩ := hr T hT X
  cases hv
  obtain ⟨k1, k2, k3⟩ := vx_keep h0 e1 hS (fun q _ h => h) (fun q h => h) hL hF
  obtain ⟨t2, a1, b1⟩ := kk T'.heap (locs ++ L) k3 T' rfl X'
  exact ⟨t2, st t2 a1, b1⟩
theorem e_callM (C0 : CX κ cc own nL p l s m args meth c) {lvs : List (Nat × Value)} (hl : lv_has ls nL lvs) (hS : va_S (AA κ) s.heap H locs) (hA2 : va_AO "Phrasehall$Bout" s) (hA3 : va_AO "Phrasehall$Pool" s) {y : MethodName} {bytes : ByteArray} {maxL : Nat} {ret : Option FieldType} {rm : Room} {index mc ms : Nat} {st0 st' : List Value} {v : Option Value}
    (hM : Met l y [.code y bytes maxL ret] rm (va_Pc [] (GM κ)) (QM κ v) mc ms (AA κ))
    (w1 : Cond.methodLink own index y ∈ TW) (w2 : Cond.static y ∈ TW) (w4 : Cond.initialized y.cls ∈ TW) (w5 : Cond.code y bytes maxL ret ∈ TW)
    (hd : y.cls ≠ "java/lang/invoke/MethodHandle" ∧ y.cls ≠ "java/lang/invoke/VarHandle" ∧ (parseMethodDescriptor y.desc).map (fun d => d.parameters.length) = some 0) (hR : rm.frames + 1 ≤ R.frames ∧ 8 + (maxL + 11) + rm.locals ≤ R.locals) (hrc : rm.cells = mc) (hrs : rm.slots = ms)
    (hst0 : st0 = rest) (hcat : (rest.map fun v => v.category).sum ≤ 8) (hdg : decode cc pc = .ok (.invokestatic index, 3)) (hf : cells + mc ≤ R.cells ∧ slots + ms ≤ R.slots) (hst : v.toList ++ rest = st')
    (kk : ∀ (H : Heap) (locs : List Loc), va_S (AA κ) s.heap H locs → W p l e R s m args below meth c H locs (cells + mc) (slots + ms) Q (F0 m (pc + 3) ls st')) : W p l e R s m args below meth c H locs cells slots Q (F0 m pc ls st0) := by
  obtain ⟨hx, hb, hown, hT, hK, hX, hZ, hB, hml, hlk⟩ := id C0
  exact el_callM (va_runS (As := []) (rest := rest) ⟨hx, hb, hml, hown, hT⟩ hM ⟨callB_of 0 hT (gi1 w5) rfl hrc hrs (hT _ w4) (hT _ w1) hd hR, hT _ w2⟩ ⟨GM.blind, fun U hU hW => ⟨rfl, va_K.moved hW.alike hK, by rw [hU]; exact Nat.le_trans hB hS.1, hX.warm hW, by rw [hU]; exact XZ.moved hW.alike (hZ.kept (fun a ha hn => hS.2.1 a ha hn)), va_AO.moved hW.alike hA2, va_AO.moved hW.alike hA3⟩⟩ rfl rfl hl.1 hst0 (lv_room hcat) hdg hf) hS hst kk
theorem MQ_M {v : Option Value} {g : JFrame} {mc ms : Nat} {κ' : KP} (hA : AA κ' = AA κ) (k : W p l e R s m args below meth c H locs cells slots (MQ below (QL κ' γ v) args s mc ms (AA κ')) g) : W p l e R s m args below meth c H locs cells slots (MQ below (QM κ v) args s mc ms (AA κ)) g := by
  rw [hA] at k
  intro T hT X
  obtain ⟨t, a1, o, b1, b2, ⟨b3, -, b5⟩, b4⟩ := k T hT X
  rw [hA] at b5
  exact ⟨t, a1, o, b1, b2, ⟨b3, b5⟩, b4⟩
end HRM
