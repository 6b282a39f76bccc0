/-! ===== small helps of the walks ===== -/
def fu : Nat := 400
def oc {α : Sort _} (o : Option Nat) (a : α) (f : Nat → α) : α := match o with
  | none => a
  | some b => f b
theorem oc_n {o : Option Nat} {a : Prop} {f : Nat → Prop} (h : oc o a f) (ho : o = none) : a := by subst ho; exact h
theorem oc_s {o : Option Nat} {a : Prop} {f : Nat → Prop} {b : Nat} (h : oc o a f) (ho : o = some b) : f b := by subst ho; exact h
theorem oc_ne {α : Sort _} {o : Option Nat} {a r : α} {f : Nat → α} (h : oc o a f = r) (ho : o = none) : a = r := by subst ho; exact h
theorem oc_se {α : Sort _} {o : Option Nat} {a r : α} {f : Nat → α} {b : Nat} (h : oc o a f = r) (ho : o = some b) : f b = r := by subst ho; exact h
theorem ifp {c : Prop} [Decidable c] {a b : Prop} (h : if c then a else b) (hc : c) : a := by rw [if_pos hc] at h; exact h
theorem ifn {c : Prop} [Decidable c] {a b : Prop} (h : if c then a else b) (hc : ¬ c) : b := by rw [if_neg hc] at h; exact h
theorem ifpe {α : Sort _} {c : Prop} [Decidable c] {a b r : α} (h : (if c then a else b) = r) (hc : c) : a = r := by rw [if_pos hc] at h; exact h
theorem ifne {α : Sort _} {c : Prop} [Decidable c] {a b r : α} (h : (if c then a else b) = r) (hc : ¬ c) : b = r := by rw [if_neg hc] at h; exact h
def zN (x : Int32) : Int32 := vp_nar .boolean x
theorem zN_eq (x : Int32) : narrow .boolean (.int x) = .int (zN x) := rfl
theorem zN_0 : zN 0 = 0 := by decide
theorem zN_1 : zN 1 = 1 := by decide
theorem i32_ne {x : Int32} {j : Int32} {n : Int} (hj : j.toInt = n) (h : ¬ x = j) : x.toInt ≠ n := fun e => h (Int32.toInt_inj.mp (e.trans hj.symm))
theorem lv_s {κ : KP} {c : Nat} (h0 : ¬ c = 0) (h2 : ¬ c = 2) (h5 : ¬ (c = 5 ∨ c = 18 ∨ c = 19)) (h : c < 20 ∧ c ≠ 8) : lv κ c 0 := by unfold lv; rw [if_neg h0, if_neg h2, if_neg h5]; exact ⟨h, rfl⟩
theorem lv_u {κ : KP} {c : Nat} (h0 : ¬ c = 0) (h2 : ¬ c = 2) (h5 : ¬ (c = 5 ∨ c = 18 ∨ c = 19)) (n : Nat) (h : lv κ c n) : n = 0 := by unfold lv at h; rw [if_neg h0, if_neg h2, if_neg h5] at h; exact h.2
theorem lv_c0 {κ : KP} {n : Nat} (h : lv κ 0 n) : lv κ 2 (2 * n) := by
  have h : n < kN κ := h
  show 2 * n < 2 * kN κ
  omega
theorem lv_c1 {κ : KP} {n : Nat} (h : lv κ 0 n) : lv κ 2 (2 * n + 1) := by
  have h : n < kN κ := h
  show 2 * n + 1 < 2 * kN κ
  omega
section HLP
variable {p : Program} {l : Launch} {e : Env} {R : Room} {s : State} {m : MethodId} {args : Array Value} {below : List Frame} {meth : Method} {c : Code} {H : Heap} {locs : List Loc} {cells slots : Nat} {Q : State → Prop}
variable {cc : ByteArray} {pc : Nat} {ls : Array Slot} {rest : List Value}
theorem k_tabI {x : Int32} {j : Int32} (hj : x = j) (hexec : p.tables.exec = Jvm.exec) (hb : c.code = cc) {dflt lo hi : Int} {offs : Array Int} {len : Nat} {off : Int} {tgt : Nat} (hdg : decode cc pc = .ok (.tableswitch dflt lo hi offs, len)) (h1 : ¬ j.toInt < lo) (h2 : ¬ hi < j.toInt) (ho : offs[(j.toInt - lo).toNat]? = some off) (ht : (pc : Int) + off = (tgt : Int))
    (k : W p l e R s m args below meth c H locs cells slots Q (F0 m tgt ls rest)) : W p l e R s m args below meth c H locs cells slots Q (F0 m pc ls (.int x :: rest)) := by
  subst hj
  exact lv_tableIn hexec hb hdg h1 h2 ho ht k
theorem lv_aloadq_n (hexec : p.tables.exec = Jvm.exec) (hb : c.code = cc) {k : Fin 4} {i : Nat} {r : Option Nat} (hdg : decode cc pc = .ok (.aload_n k, 1)) (hi : (k : Nat) = i) (hl : ls[i]? = some (.val (va_rf r)))
    (k : W p l e R s m args below meth c H locs cells slots Q (F0 m (pc + 1) ls (va_rf r :: rest))) : W p l e R s m args below meth c H locs cells slots Q (F0 m pc ls rest) := by
  cases r with
  | none => exact lv_aload_nN hexec hb hdg hi hl k
  | some a => exact lv_aload_n hexec hb hdg hi hl k
theorem lv_aloadq (hexec : p.tables.exec = Jvm.exec) (hb : c.code = cc) {i : Nat} {r : Option Nat} (hdg : decode cc pc = .ok (.aload i, 2)) (hl : ls[i]? = some (.val (va_rf r)))
    (k : W p l e R s m args below meth c H locs cells slots Q (F0 m (pc + 2) ls (va_rf r :: rest))) : W p l e R s m args below meth c H locs cells slots Q (F0 m pc ls rest) := by
  cases r with
  | none => exact lv_aloadN hexec hb hdg hl k
  | some a => exact lv_aload hexec hb hdg hl k
theorem lv_astoreq_n (hexec : p.tables.exec = Jvm.exec) (hb : c.code = cc) {k : Fin 4} {i nL : Nat} {r : Option Nat} {lv lv' : List (Nat × Value)} (hdg : decode cc pc = .ok (.astore_n k, 1)) (hi : (k : Nat) = i) (h : lv_has ls nL lv) (hn : i < nL) (hl : (i, va_rf r) :: lv.filter (fun q => !(q.1 == i) && !(q.1 + 1 == i && q.2.category == 2)) = lv')
    (kk : ∀ ls' : Array Slot, lv_has ls' nL lv' → W p l e R s m args below meth c H locs cells slots Q (F0 m (pc + 1) ls' rest)) : W p l e R s m args below meth c H locs cells slots Q (F0 m pc ls (va_rf r :: rest)) := by
  cases r with
  | none => exact lv_astore_nN hexec hb hdg hi h hn hl kk
  | some a => exact lv_astore_n hexec hb hdg hi h hn hl kk
theorem lv_astoreq (hexec : p.tables.exec = Jvm.exec) (hb : c.code = cc) {i nL : Nat} {r : Option Nat} {lv lv' : List (Nat × Value)} (hdg : decode cc pc = .ok (.astore i, 2)) (h : lv_has ls nL lv) (hn : i < nL) (hl : (i, va_rf r) :: lv.filter (fun q => !(q.1 == i) && !(q.1 + 1 == i && q.2.category == 2)) = lv')
    (kk : ∀ ls' : Array Slot, lv_has ls' nL lv' → W p l e R s m args below meth c H locs cells slots Q (F0 m (pc + 2) ls' rest)) : W p l e R s m args below meth c H locs cells slots Q (F0 m pc ls (va_rf r :: rest)) := by
  cases r with
  | none => exact lv_astoreN hexec hb hdg h hn hl kk
  | some a => exact lv_astore hexec hb hdg h hn hl kk
end HLP
