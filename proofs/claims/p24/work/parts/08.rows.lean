/-! ===== rows over that state (hr_put and hp_ast, hp_zst, hp_lst, hp_qst follow va_put, va_iast, va_zast, va_last, va_astq of the kit, with the heap's other cells told) ===== -/
section HRW
variable {p : Program} {l : Launch} {e : Env} {R : Room} {s : State} {m : MethodId} {args : Array Value} {below : List Frame} {meth : Method} {c : Code} {H : Heap} {locs : List Loc} {cells slots : Nat} {Q : State → Prop}
variable {cc : ByteArray} {pc : Nat} {ls : Array Slot} {rest : List Value} {κ : KP} {γ : St}
theorem hr_put {D : va_G} {cl : List vw_C} {tys : List (ClassId × FieldType)} (hexec : p.tables.exec = Jvm.exec) (hb : c.code = cc) {own ref C : String} {T : u_T} {N ci index : Nat} {Ts : List Cond} (hts : ∀ w ∈ Ts, w.before args s = true) (hin : ∀ w ∈ u_ws C T N, w ∈ Ts) (ty0 : Nat → FieldType) (hty : ∀ k, k < N → parseFieldDescriptor (T k).2.2.1 = some (ty0 k)) (hnm : ∀ a, a < N → ∀ b, b < N → a ≠ b → (T a).2.1 ≠ (T b).2.1) (hown : s.vm.findClass own = some m.cls) (hK : va_K D cl tys s) {a : Nat} {fs : List Value} (hat : va_at D cl (a, .inr (ci, fs)) H) {A : Nat → Prop} {H0 : Heap} (hS0 : va_S A H0 H locs) (hAa : A a) (hc : cl[ci]? = some (C, T, N)) (k : Nat) (hk : k < N) (hlink : (Cond.fieldLink own index ref (T k).2.1 (T k).2.2.1).before args s = true) (hsame : ∀ x, s.fieldFound? (T k).1 (T k).2.1 (T k).2.2.1 = some x → s.fieldFound? ref (T k).2.1 (T k).2.2.1 = some x) (hfin : (T k).2.2.2 = false) {ty : FieldType} {v : Value} (hd : parseFieldDescriptor (T k).2.2.1 = some ty) (hn : narrow ty v = v) (hfit : fits ty v = true) (hl : k < fs.length)
    (hdg : decode cc pc = .ok (.putfield index, 3)) (kk : ∀ (H1 : Heap) (locs1 : List Loc), va_at D cl (a, .inr (ci, fs.set k v)) H1 → H1.size = H.size → (∀ q : Nat, q ≠ a → H1[q]? = H[q]?) → va_S A H0 H1 locs1 → W p l e R s m args below meth c H1 locs1 cells slots Q (F0 m (pc + 3) ls rest)) : W p l e R s m args below meth c H locs cells slots Q (F0 m pc ls (v :: .ref a :: rest)) := by
  have hap := va_apart (own := own) hts hin ty0 hty hnm hK hc
  obtain ⟨r, h1, cell, q1, q2, q3, q4⟩ := hat
  have hr : r = (C, T, N) := Option.some.inj (h1.symm.trans hc)
  subst hr
  obtain ⟨hS, hfc, kC, hkC, hkind⟩ := hK.1 ci _ hc
  obtain ⟨cf, kf, fi, f, hi, hsl⟩ := hS k hk
  have hlay := hts _ (hin _ (u_in_lay hk))
  unfold u_lay at hlay
  rw [if_neg (by rw [hfin]; decide)] at hlay
  have hst := (u_facts hfc hkC (u_lays hts hin hk) hi).1
  have h6 := u_store hfc hkC hkind hlay hi hd hn hfit
  refine W.putK hexec hb (f := f) ⟨hown, hlink, ⟨_, _, _, hsame _ hi⟩, hst⟩ (by rw [q2]; exact h6) q1 q3 (by rw [hsl]; exact k2_hasslot (q4 k hk)) rfl rfl hdg fun H' e1 e2 e3 => ?_
  rw [hsl] at e1 ⊢
  exact kk H' _ ⟨_, hc, t_OB.to (V := updV (vp_V fs) k v) ⟨_, e1, q2, q3, t_set q4 hap hk v⟩ (fun j _ => vp_updV_set hl v j)⟩ e2 e3 (hS0.put e2 e3 hAa)
theorem hr_putN {D : va_G} {cl : List vw_C} {tys : List (ClassId × FieldType)} (hexec : p.tables.exec = Jvm.exec) (hb : c.code = cc) {own ref C host : String} {T : u_T} {N ci index : Nat} {Ts : List Cond} (hts : ∀ w ∈ Ts, w.before args s = true) (hin : ∀ w ∈ u_ws C T N, w ∈ Ts) (ty0 : Nat → FieldType) (hty : ∀ k, k < N → parseFieldDescriptor (T k).2.2.1 = some (ty0 k)) (hnm : ∀ a, a < N → ∀ b, b < N → a ≠ b → (T a).2.1 ≠ (T b).2.1) (hown : s.vm.findClass own = some m.cls) (hK : va_K D cl tys s) {a : Nat} {fs : List Value} (hat : va_at D cl (a, .inr (ci, fs)) H) {A : Nat → Prop} {H0 : Heap} (hS0 : va_S A H0 H locs) (hAa : A a) (hc : cl[ci]? = some (C, T, N)) (k : Nat) (hk : k < N) (hlink : (Cond.fieldLinkNest own index ref (T k).2.1 (T k).2.2.1 host).before args s = true) (hsame : ∀ x, s.fieldFound? (T k).1 (T k).2.1 (T k).2.2.1 = some x → s.fieldFound? ref (T k).2.1 (T k).2.2.1 = some x) (hfin : (T k).2.2.2 = false) {ty : FieldType} {v : Value} (hd : parseFieldDescriptor (T k).2.2.1 = some ty) (hn : narrow ty v = v) (hfit : fits ty v = true) (hl : k < fs.length)
    (hdg : decode cc pc = .ok (.putfield index, 3)) (kk : ∀ (H1 : Heap) (locs1 : List Loc), va_at D cl (a, .inr (ci, fs.set k v)) H1 → H1.size = H.size → (∀ q : Nat, q ≠ a → H1[q]? = H[q]?) → va_S A H0 H1 locs1 → W p l e R s m args below meth c H1 locs1 cells slots Q (F0 m (pc + 3) ls rest)) : W p l e R s m args below meth c H locs cells slots Q (F0 m pc ls (v :: .ref a :: rest)) := by
  have hap := va_apart (own := own) hts hin ty0 hty hnm hK hc
  obtain ⟨r, h1, cell, q1, q2, q3, q4⟩ := hat
  have hr : r = (C, T, N) := Option.some.inj (h1.symm.trans hc)
  subst hr
  obtain ⟨hS, hfc, kC, hkC, hkind⟩ := hK.1 ci _ hc
  obtain ⟨cf, kf, fi, f, hi, hsl⟩ := hS k hk
  have hlay := hts _ (hin _ (u_in_lay hk))
  unfold u_lay at hlay
  rw [if_neg (by rw [hfin]; decide)] at hlay
  have hst := (u_facts hfc hkC (u_lays hts hin hk) hi).1
  have h6 := u_store hfc hkC hkind hlay hi hd hn hfit
  refine va_WputK hexec hb (f := f) hown hlink (hsame _ hi) hst (by rw [q2]; exact h6) q1 q3 (by rw [hsl]; exact k2_hasslot (q4 k hk)) rfl rfl hdg fun H' e1 e2 e3 => ?_
  rw [hsl] at e1 ⊢
  exact kk H' _ ⟨_, hc, t_OB.to (V := updV (vp_V fs) k v) ⟨_, e1, q2, q3, t_set q4 hap hk v⟩ (fun j _ => vp_updV_set hl v j)⟩ e2 e3 (hS0.put e2 e3 hAa)
/-- getfield -/
theorem hp_get {own : String} {nL : Nat} (C0 : CX κ cc own nL p l s m args meth c) {ref C : String} {T : u_T} {N ci index n : Nat} (hin : ∀ w ∈ u_ws C T N, w ∈ TW) (hH : HR κ γ H) (hv : lv κ ci n) {fs : List Value} (he : cel κ γ ci n = .inr (ci, fs)) (hc : vwCl[ci]? = some (C, T, N)) (k : Nat) (hk : k < N) (hlink : Cond.fieldLink own index ref (T k).2.1 (T k).2.2.1 ∈ TW) (hrf : (T k).1 = ref) {v : Value} (hvv : fs[k]? = some v) (hdg : decode cc pc = .ok (.getfield index, 3))
    (kk : W p l e R s m args below meth c H locs cells slots Q (F0 m (pc + 3) ls (v :: rest))) : W p l e R s m args below meth c H locs cells slots Q (F0 m pc ls (.ref (kA κ ci n) :: rest)) := by
  obtain ⟨hx, hb, hown, hT, hK, -⟩ := C0
  have hP := hH.at hv
  rw [he] at hP
  exact va_get hx hb hT hin hown hK hP 0 rfl hc k hk (hT _ hlink) (fun x h => by rw [← hrf]; exact h) hvv hdg kk
theorem hp_getN {own : String} {nL : Nat} (C0 : CX κ cc own nL p l s m args meth c) {ref C host : String} {T : u_T} {N ci index n : Nat} (hin : ∀ w ∈ u_ws C T N, w ∈ TW) (hH : HR κ γ H) (hv : lv κ ci n) {fs : List Value} (he : cel κ γ ci n = .inr (ci, fs)) (hc : vwCl[ci]? = some (C, T, N)) (k : Nat) (hk : k < N) (hlink : Cond.fieldLinkNest own index ref (T k).2.1 (T k).2.2.1 host ∈ NW) (hrf : (T k).1 = ref) {v : Value} (hvv : fs[k]? = some v) (hdg : decode cc pc = .ok (.getfield index, 3))
    (kk : W p l e R s m args below meth c H locs cells slots Q (F0 m (pc + 3) ls (v :: rest))) : W p l e R s m args below meth c H locs cells slots Q (F0 m pc ls (.ref (kA κ ci n) :: rest)) := by
  obtain ⟨hx, hb, hown, hT, hK, hX, -⟩ := C0
  have hP := hH.at hv
  rw [he] at hP
  exact va_getN hx hb hT hin hown hK hP 0 rfl hc k hk (nw_use rfl (hX.2.1 _ hlink)) (fun x h => by rw [← hrf]; exact h) hvv hdg kk
/-- putfield -/
theorem hp_put {own : String} {nL : Nat} (C0 : CX κ cc own nL p l s m args meth c) {ref C : String} {T : u_T} {N ci index n : Nat} (hin : ∀ w ∈ u_ws C T N, w ∈ TW) {ty0 : Nat → FieldType} (hty : ∀ k, k < N → parseFieldDescriptor (T k).2.2.1 = some (ty0 k)) (hnm : ∀ a, a < N → ∀ b, b < N → a ≠ b → (T a).2.1 ≠ (T b).2.1) (hH : HR κ γ H) (hv : lv κ ci n) {fs : List Value} (he : cel κ γ ci n = .inr (ci, fs)) (hS : va_S (AA κ) s.heap H locs) (hc : vwCl[ci]? = some (C, T, N)) (k : Nat) (hk : k < N) (hlink : Cond.fieldLink own index ref (T k).2.1 (T k).2.2.1 ∈ TW) (hrf : (T k).1 = ref) (hfin : (T k).2.2.2 = false) {v : Value} (hn : narrow (ty0 k) v = v) (hfit : fits (ty0 k) v = true) (hl : k < fs.length)
    (γ' : St) (he' : cel κ γ' ci n = .inr (ci, fs.set k v)) (ho : ∀ c' n', lv κ c' n' → ¬ (c' = ci ∧ n' = n) → cel κ γ' c' n' = cel κ γ c' n') (hw : WT κ γ') (hdg : decode cc pc = .ok (.putfield index, 3))
    (kk : ∀ (H : Heap) (locs : List Loc), HR κ γ' H → va_S (AA κ) s.heap H locs → W p l e R s m args below meth c H locs cells slots Q (F0 m (pc + 3) ls rest)) : W p l e R s m args below meth c H locs cells slots Q (F0 m pc ls (v :: .ref (kA κ ci n) :: rest)) := by
  obtain ⟨hx, hb, hown, hT, hK, -⟩ := C0
  have hat := (hH.1 ci n hv).1
  rw [he] at hat
  exact hr_put hx hb hT hin ty0 hty hnm hown hK hat hS (hH.1 ci n hv).2 hc k hk (hT _ hlink) (fun x h => by rw [← hrf]; exact h) hfin (hty k hk) hn hfit hl hdg (fun H1 locs1 h1 _ h3 h4 => kk H1 locs1 (hH.put hv (by rw [he']; exact h1) h3 ho hw) h4)
theorem hp_putN {own : String} {nL : Nat} (C0 : CX κ cc own nL p l s m args meth c) {ref C host : String} {T : u_T} {N ci index n : Nat} (hin : ∀ w ∈ u_ws C T N, w ∈ TW) {ty0 : Nat → FieldType} (hty : ∀ k, k < N → parseFieldDescriptor (T k).2.2.1 = some (ty0 k)) (hnm : ∀ a, a < N → ∀ b, b < N → a ≠ b → (T a).2.1 ≠ (T b).2.1) (hH : HR κ γ H) (hv : lv κ ci n) {fs : List Value} (he : cel κ γ ci n = .inr (ci, fs)) (hS : va_S (AA κ) s.heap H locs) (hc : vwCl[ci]? = some (C, T, N)) (k : Nat) (hk : k < N) (hlink : Cond.fieldLinkNest own index ref (T k).2.1 (T k).2.2.1 host ∈ NW) (hrf : (T k).1 = ref) (hfin : (T k).2.2.2 = false) {v : Value} (hn : narrow (ty0 k) v = v) (hfit : fits (ty0 k) v = true) (hl : k < fs.length)
    (γ' : St) (he' : cel κ γ' ci n = .inr (ci, fs.set k v)) (ho : ∀ c' n', lv κ c' n' → ¬ (c' = ci ∧ n' = n) → cel κ γ' c' n' = cel κ γ c' n') (hw : WT κ γ') (hdg : decode cc pc = .ok (.putfield index, 3))
    (kk : ∀ (H : Heap) (locs : List Loc), HR κ γ' H → va_S (AA κ) s.heap H locs → W p l e R s m args below meth c H locs cells slots Q (F0 m (pc + 3) ls rest)) : W p l e R s m args below meth c H locs cells slots Q (F0 m pc ls (v :: .ref (kA κ ci n) :: rest)) := by
  obtain ⟨hx, hb, hown, hT, hK, hX, -⟩ := C0
  have hat := (hH.1 ci n hv).1
  rw [he] at hat
  exact hr_putN hx hb hT hin ty0 hty hnm hown hK hat hS (hH.1 ci n hv).2 hc k hk (nw_use rfl (hX.2.1 _ hlink)) (fun x h => by rw [← hrf]; exact h) hfin (hty k hk) hn hfit hl hdg (fun H1 locs1 h1 _ h3 h4 => kk H1 locs1 (hH.put hv (by rw [he']; exact h1) h3 ho hw) h4)
/-- reads of arrays -/
theorem hp_ald {own : String} {nL : Nat} (C0 : CX κ cc own nL p l s m args meth c) {ca n len : Nat} (hH : HR κ γ H) (hv : lv κ ca n) (he : cel κ γ ca n = .inl (kC κ 0, (len, .inl (gV γ ca n)))) {i v : Int32} (hin : vp_in i len) (hvv : gV γ ca n i.toNatClampNeg = v) (hdg : decode cc pc = .ok (.iaload, 1))
    (kk : W p l e R s m args below meth c H locs cells slots Q (F0 m (pc + 1) ls (.int v :: rest))) : W p l e R s m args below meth c H locs cells slots Q (F0 m pc ls (.int i :: .ref (kA κ ca n) :: rest)) := by
  subst hvv
  obtain ⟨hx, hb, hown, hT, hK, -⟩ := C0
  have hP := hH.at hv
  rw [he] at hP
  exact va_iald hx hb hK hP 0 0 rfl rfl hin hdg kk
theorem hp_qld {own : String} {nL : Nat} (C0 : CX κ cc own nL p l s m args meth c) {ca n len t0 cb : Nat} {C : String} {kk0 : Nat} (ht : (tysK κ)[t0]? = some (kC κ kk0, .object C)) (hH : HR κ γ H) (hv : lv κ ca n) (he : cel κ γ ca n = .inl (kC κ kk0, (len, .inr (.inr (.inr (.inr (fun j => (gR γ ca j).map (kA κ cb)))))))) {i : Int32} {v : Value} (hvv : va_rf ((gR γ ca i.toNatClampNeg).map (kA κ cb)) = v) (hin : vp_in i len) (hdg : decode cc pc = .ok (.aaload, 1))
    (kk : W p l e R s m args below meth c H locs cells slots Q (F0 m (pc + 1) ls (v :: rest))) : W p l e R s m args below meth c H locs cells slots Q (F0 m pc ls (.int i :: .ref (kA κ ca n) :: rest)) := by
  subst hvv
  obtain ⟨hx, hb, hown, hT, hK, -⟩ := C0
  have hP := hH.at hv
  rw [he] at hP
  exact va_aldq hx hb hK hP 0 t0 rfl ht hin hdg kk
theorem hp_alen {own : String} {nL : Nat} (C0 : CX κ cc own nL p l s m args meth c) {ca n t0 kk0 : Nat} {x : vp_A} {ty : FieldType} (ht : (tysK κ)[t0]? = some (kC κ kk0, ty)) (hH : HR κ γ H) (hv : lv κ ca n) (he : cel κ γ ca n = .inl (kC κ kk0, x)) {v : Int32} (hvv : Int32.ofNat x.1 = v) (hdg : decode cc pc = .ok (.arraylength, 1))
    (kk : W p l e R s m args below meth c H locs cells slots Q (F0 m (pc + 1) ls (.int v :: rest))) : W p l e R s m args below meth c H locs cells slots Q (F0 m pc ls (.ref (kA κ ca n) :: rest)) := by
  obtain ⟨hx, hb, hown, hT, hK, -⟩ := C0
  have hP := hH.at hv
  rw [he] at hP
  exact va_alen hx hb hK hP 0 t0 rfl ht hvv hdg kk
/-- writes to arrays -/
theorem hp_ast {own : String} {nL : Nat} (C0 : CX κ cc own nL p l s m args meth c) {ca n len : Nat} (hH : HR κ γ H) (hv : lv κ ca n) (he : ∀ γ : St, cel κ γ ca n = .inl (kC κ 0, (len, .inl (gV γ ca n)))) (hS : va_S (AA κ) s.heap H locs) {i x : Int32} (hin : vp_in i len) (hdg : decode cc pc = .ok (.iastore, 1))
    (kk : ∀ (H : Heap) (locs : List Loc), HR κ (sV γ ca n i.toNatClampNeg x) H → va_S (AA κ) s.heap H locs → W p l e R s m args below meth c H locs cells slots Q (F0 m (pc + 1) ls rest)) : W p l e R s m args below meth c H locs cells slots Q (F0 m pc ls (.int x :: .int i :: .ref (kA κ ca n) :: rest)) := by
  obtain ⟨hx, hb, hown, hT, hK, -⟩ := C0
  have hat := (hH.1 ca n hv).1
  rw [he γ] at hat
  have ht : (tysK κ)[0]? = some (kC κ 0, .int) := rfl
  refine W.iast (cell := vp_cell (kC κ 0) (len, .inl (gV γ ca n))) hx hb hat ((hK.2 0 _ ht).1 len (fun j => .int (gV γ ca n j))) (fun q => by cases q) (by show ¬ (i < 0 ∨ (arrV _ _ _).slots.size ≤ _); rw [arrV_size]; exact hin) rfl rfl hdg fun H1 e z oq => ?_
  refine kk H1 _ (hH.put hv ?_ oq (fun _ _ _ h => cel_sV h) (WT_sV hH.wt)) (hS.put z oq (hH.1 _ _ hv).2)
  rw [he, upd_sV]
  show H1[kA κ ca n]? = some (vp_cell _ _)
  rw [e]
  rw [vp_cell_i, vp_cell_i, arrV_store]
  congr 2
  funext q
  by_cases hq : q = i.toNatClampNeg
  · subst hq
    simp [updV, upd]
  · simp [updV, upd, hq]
theorem hp_qst {own : String} {nL : Nat} (C0 : CX κ cc own nL p l s m args meth c) {ca n len t0 cb nv kk0 : Nat} {r : vw_C} (ht : (tysK κ)[t0]? = some (kC κ kk0, .object r.1)) (hcb : vwCl[cb]? = some r) {vs : List Value} (hH : HR κ γ H) (hv : lv κ ca n) (hn1 : ∀ n' : Nat, lv κ ca n' → n' = n) (hvb : lv κ cb nv) (hcv : cel κ γ cb nv = .inr (cb, vs)) (hwt : nv < (if ca = 10 then kO κ else kN κ)) (he : ∀ γ : St, cel κ γ ca n = .inl (kC κ kk0, (len, .inr (.inr (.inr (.inr (fun j => (gR γ ca j).map (kA κ cb)))))))) (hS : va_S (AA κ) s.heap H locs) {i : Int32} (hin : vp_in i len) (hdg : decode cc pc = .ok (.aastore, 1))
    (kk : ∀ (H : Heap) (locs : List Loc), HR κ (sR γ ca i.toNatClampNeg (some nv)) H → va_S (AA κ) s.heap H locs → W p l e R s m args below meth c H locs cells slots Q (F0 m (pc + 1) ls rest)) : W p l e R s m args below meth c H locs cells slots Q (F0 m pc ls (.ref (kA κ cb nv) :: .int i :: .ref (kA κ ca n) :: rest)) := by
  obtain ⟨hx, hb, hown, hT, hK, -⟩ := C0
  have hat := (hH.1 ca n hv).1
  rw [he γ] at hat
  have hlt : i.toNatClampNeg < len := Nat.not_le.mp fun q => hin (Or.inr q)
  have h0 : ¬ i < 0 := fun q => hin (Or.inl q)
  have hbt := (hH.1 cb nv hvb).1
  rw [hcv] at hbt
  obtain ⟨r', hr', cellV, g1, g2, g3, -⟩ := hbt
  have hcls := (hK.1 cb r hcb).2
  obtain ⟨kA0, comp, k1, k2, k3, -⟩ := (hK.2 t0 _ ht).2
  have hcomp : comp = (kD κ).1 cb := Option.some.inj (k3.symm.trans hcls.1)
  subst hcomp
  obtain ⟨kC0, hkC, -⟩ := hcls.2
  refine W.aast (cell := vp_cell (kC κ kk0) (len, .inr (.inr (.inr (.inr (fun j => (gR γ ca j).map (kA κ cb))))))) hx hb hat (fun q h => by cases h) (fun h => by cases h) k1 k2 rfl hkC ⟨h0, by show _ < (arrV _ _ _).slots.size; rw [arrV_size]; exact hlt⟩ g1 (fun q h => by rw [g3] at h; cases h) (by rw [g2]; exact hkC) (by rw [g2]; exact va_assign hcls) rfl rfl hdg fun H1 e z oq => ?_
  refine kk H1 _ (hH.put hv ?_ oq (fun c' n' hl h => cel_sR (fun q => h ⟨q, hn1 n' (by rw [← q]; exact hl)⟩)) (WT_sR hH.wt (fun b hb9 => by cases hb9; exact hwt))) (hS.put z oq (hH.1 _ _ hv).2)
  rw [he]
  show H1[kA κ ca n]? = some (vp_cell _ _)
  rw [e]
  rw [vp_cell_q, vp_cell_q, arrV_store]
  congr 2
  funext q
  by_cases hq : q = i.toNatClampNeg
  · subst hq
    simp [updV, va_rf, gR_sR]
  · simp [updV, gR_sR, hq]
/-- what a callee must have of the words -/
theorem gi5 {a b c d e : Cond} (ha : a ∈ TW) (hb : b ∈ TW) (hc : c ∈ TW) (hd : d ∈ TW) (he : e ∈ TW) : GoodIn TW ([a, b, c, d] ++ [e]) := by
  have h : ∀ w ∈ [a, b, c, d] ++ [e], w ∈ TW := by
    intro w hw
    simp only [List.cons_append, List.nil_append, List.mem_cons, List.not_mem_nil, or_false] at hw
    rcases hw with rfl | rfl | rfl | rfl | rfl <;> assumption
  exact fun w hw => ⟨h w hw, good_of_word (List.mem_filter.mp (h w hw)).2⟩
theorem gi4 {a b c e : Cond} (ha : a ∈ TW) (hb : b ∈ TW) (hc : c ∈ TW) (he : e ∈ TW) : GoodIn TW ([a, b, c] ++ [e]) := by
  have h : ∀ w ∈ [a, b, c] ++ [e], w ∈ TW := by
    intro w hw
    simp only [List.cons_append, List.nil_append, List.mem_cons, List.not_mem_nil, or_false] at hw
    rcases hw with rfl | rfl | rfl | rfl <;> assumption
  exact fun w hw => ⟨h w hw, good_of_word (List.mem_filter.mp (h w hw)).2⟩
theorem gi1 {e : Cond} (he : e ∈ TW) : GoodIn TW [e] := by
  intro w hw
  rw [List.mem_singleton.mp hw]
  exact ⟨he, good_of_word (List.mem_filter.mp he).2⟩
/-- a callee's start, seen from here -/
theorem gg_of {own : String} {nL : Nat} (C0 : CX κ cc own nL p l s m args meth c) (hH : HR κ γ H) (hS : va_S (AA κ) s.heap H locs) {U : State} (hU : U.heap = H) (hW : s.WarmedH U.vm) : GG κ γ U := by
  obtain ⟨-, -, -, -, hK, hX, hZ, hB, -⟩ := C0
  refine ⟨by rw [hU]; exact hH, va_K.moved hW.alike hK, by rw [hU]; exact Nat.le_trans hB hS.1, hX.warm hW, ?_⟩
  rw [hU]
  exact XZ.moved hW.alike (hZ.kept (fun a ha hn => hS.2.1 a ha hn))
theorem kcall {mc ms : Nat} {st0 st' : List Value} {v : Option Value} {γ' : St} {a : Array Value} (hr : va_Run p l e R s m args below meth c H locs cells slots mc ms (F0 m pc ls st0) rest (QQ κ γ' v a) (AA κ)) (hS : va_S (AA κ) s.heap H locs) (hst : v.toList ++ rest = st')
    (kk : ∀ (H : Heap) (locs : List Loc), HR κ γ' H → va_S (AA κ) s.heap H locs → W p l e R s m args below meth c H locs (cells + mc) (slots + ms) Q (F0 m (pc + 3) ls st')) : W p l e R s m args below meth c H locs cells slots Q (F0 m pc ls st0) := by
  subst hst
  intro T hT X
  obtain ⟨v', st₀, t, T', L, h0, X', hL, e1, e2, ⟨hv, hh, hF⟩, st⟩ := hr T hT X
  cases hv
  obtain ⟨k1, k2, k3⟩ := vx_keep h0 e1 hS (fun q _ h => h) (fun q h => h) hL hF
  obtain ⟨t2, a1, b1⟩ := kk T'.heap (locs ++ L) (by rw [e1]; exact hh) k3 T' rfl X'
  exact ⟨t2, st t2 a1, b1⟩
theorem kxcall {mc ms n : Nat} {st0 st' : List Value} {v : Option Value} {γ' : St} {a : Array Value} (hr : vx_Run p l e R s m args below meth c H locs cells slots mc ms (F0 m pc ls st0) rest (QX κ γ' n v a) (XX κ γ' n) (AA κ)) (hS : va_S (AA κ) s.heap H locs) (hst : v.toList ++ rest = st')
    (kx : n ≠ 0 → ∀ (ce : Cell) (q9 : Addr) (H : Heap) (locs : List Loc), HR κ γ' H → va_S (AA κ) s.heap H locs → H[q9]? = some ce → ce.vm = .none → s.vm.findClass (eNm n) = some ce.cls → vx_W p l e R s m args below meth c H locs (cells + mc) (slots + ms) Q (F0 m pc ls rest) q9)
    (kk : n = 0 → ∀ (H : Heap) (locs : List Loc), HR κ γ' H → va_S (AA κ) s.heap H locs → W p l e R s m args below meth c H locs (cells + mc) (slots + ms) Q (F0 m (pc + 3) ls st')) : W p l e R s m args below meth c H locs cells slots Q (F0 m pc ls st0) := by
  subst hst
  intro T hT X
  rcases hr T hT X with ⟨v', st₀, t, T', L, h0, X', hL, e1, e2, ⟨hn, hv, hh, hF⟩, st⟩ | ⟨q, st₀, t, T', L, E, ce, h0, X', hL, e1, e2, ⟨hn, rfl, hh, hF⟩, hce, hcv, hcl, st⟩
  · cases hv
    obtain ⟨k1, k2, k3⟩ := vx_keep h0 e1 hS (fun q _ h => h) (fun q h => h) hL hF
    obtain ⟨t2, a1, b1⟩ := kk hn T'.heap (locs ++ L) (by rw [e1]; exact hh) k3 T' rfl X'
    exact ⟨t2, st t2 a1, b1⟩
  · obtain ⟨k1, k2, k3⟩ := vx_keep h0 e1 hS (fun q _ h => h) (fun q h => h) hL hF
    obtain ⟨t2, a1, b1⟩ := kx hn ce q T'.heap (locs ++ L) (by rw [e1]; exact hh) k3 (by rw [e1]; exact hce) hcv hcl T' rfl X'
    exact ⟨t2, st.trans a1, b1⟩
end HRW
