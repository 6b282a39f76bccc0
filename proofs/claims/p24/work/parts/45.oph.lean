noncomputable section
theorem nI_bit (a i : Nat) (h : i < 32) : (nI a).toBitVec.getLsbD i = a.testBit i := by
  have e : (nI a).toBitVec = BitVec.ofNat 32 a := rfl
  rw [e, BitVec.getLsbD_ofNat]; simp [h]
theorem andn_eq {a g : Nat} (ha : a < 4096) : (nI a &&& (nI g ^^^ (-1))) = nI (a &&& (4095 ^^^ g)) := by
  apply Int32.toBitVec_inj.mp
  apply BitVec.eq_of_getLsbD_eq
  intro i hi
  rw [Int32.toBitVec_and, Int32.toBitVec_xor, BitVec.getLsbD_and, BitVec.getLsbD_xor, nI_bit _ _ hi, nI_bit _ _ hi, nI_bit _ _ hi, Nat.testBit_and, Nat.testBit_xor]
  have e1 : ((-1 : Int32)).toBitVec = BitVec.allOnes 32 := by decide
  rw [e1, BitVec.getLsbD_allOnes, show (4095 : Nat) = 2 ^ 12 - 1 from rfl, Nat.testBit_two_pow_sub_one]
  by_cases c : i < 12
  · simp [hi, c]
  · have : a.testBit i = false := Nat.testBit_lt_two_pow (Nat.lt_of_lt_of_le ha (show 2 ^ 12 ≤ 2 ^ i from Nat.pow_le_pow_right (by omega) (by omega)))
    simp [this]
def mk (a g : Nat) : Nat := a &&& (4095 ^^^ g)
theorem mk_lt {a g : Nat} (ha : a < 4096) : mk a g < 4096 := by unfold mk; exact Nat.lt_of_le_of_lt Nat.and_le_left ha
theorem mk_bit {a g f : Nat} (hf : f < 12) : (mk a g / 2 ^ f % 2 = 1) ↔ (a / 2 ^ f % 2 = 1 ∧ ¬ g / 2 ^ f % 2 = 1) := by
  have h1 := Nat.testBit_eq_decide_div_mod_eq (x := mk a g) (i := f)
  have h2 := Nat.testBit_eq_decide_div_mod_eq (x := a) (i := f)
  have h3 := Nat.testBit_eq_decide_div_mod_eq (x := g) (i := f)
  have e : (mk a g).testBit f = (a.testBit f && !g.testBit f) := by
    unfold mk
    rw [Nat.testBit_and, Nat.testBit_xor, show (4095 : Nat) = 2 ^ 12 - 1 from rfl, Nat.testBit_two_pow_sub_one]
    simp [hf]
  rw [e, h2, h3] at h1
  have := h1.symm
  by_cases c1 : a / 2 ^ f % 2 = 1 <;> by_cases c2 : g / 2 ^ f % 2 = 1 <;> simp [c1, c2] at this ⊢ <;> exact this
/-- what one bout adds is small -/
theorem ct_bd {M : St} {C : St} {np i j : Nat} {f w : Int32} (hB : qB C M np i) (hi : i < 80) : ∃ a : Nat, a ≤ 45 ∧ ct M j f w i = nI a := by
  obtain ⟨b1, b2, b3, b4, b5, b6, b7, ⟨t0, ht0, b8⟩, ⟨t1, ht1, b9⟩, -⟩ := hB
  have a0 : (2 * nI i + 0 : Int32).toNatClampNeg = 2 * i := by rw [Int32.add_zero]; exact clamp2 hi
  have a1 : (2 * nI i + 1 : Int32).toNatClampNeg = 2 * i + 1 := clamp21 hi
  have s0 : (1 : Int32) - 0 = 1 := by decide
  have s1 : (1 : Int32) - 1 = 0 := by decide
  have hs : x_X8_sideIn (nI i) (nI j) f M = -1 ∨ x_X8_sideIn (nI i) (nI j) f M = 0 ∨ x_X8_sideIn (nI i) (nI j) f M = 1 := by
    unfold x_X8_sideIn x_X8_sideIn_74 x_X8_sideIn_75
    repeat' split
    all_goals simp
  have z : ¬ (0 : Int32) = -1 := by decide
  have z' : ¬ (1 : Int32) = -1 := by decide
  unfold ct
  rcases hs with h | h | h <;> rw [h]
  · exact ⟨0, by omega, if_pos rfl⟩
  · rw [if_neg z]
    by_cases c0 : w = 0
    · rw [if_pos c0]; exact ⟨1, by omega, rfl⟩
    · rw [if_neg c0]
      by_cases c1 : w = 1
      · rw [if_pos c1]; split
        · exact ⟨1, by omega, rfl⟩
        · exact ⟨0, by omega, rfl⟩
      · rw [if_neg c1, s0, a0, a1, b8, b9]
        split
        · exact ⟨t0, ht0, rfl⟩
        · exact ⟨t1, ht1, rfl⟩
  · rw [if_neg z']
    by_cases c0 : w = 0
    · rw [if_pos c0]; exact ⟨1, by omega, rfl⟩
    · rw [if_neg c0]
      by_cases c1 : w = 1
      · rw [if_pos c1]; split
        · exact ⟨1, by omega, rfl⟩
        · exact ⟨0, by omega, rfl⟩
      · rw [if_neg c1, s1, a0, a1, b8, b9]
        split
        · exact ⟨t1, ht1, rfl⟩
        · exact ⟨t0, ht0, rfl⟩
theorem TS_bd {M : St} {j nb : Nat} {f w : Int32} (h : ∀ i, i < nb → ∃ a : Nat, a ≤ 45 ∧ ct M j f w i = nI a) : ∀ r i : Nat, i + r ≤ nb → ∃ s : Nat, s ≤ 45 * r ∧ TS M j f w i r = nI s
  | 0, i, _ => ⟨0, by omega, rfl⟩
  | r + 1, i, hr => by
    obtain ⟨a, ha, ea⟩ := h i (by omega)
    obtain ⟨s, hs, es⟩ := TS_bd h r (i + 1) (by omega)
    refine ⟨a + s, by omega, ?_⟩
    unfold TS; rw [ea, es, nI_add]
/-- the values of a pool's table -/
def tV (C : St) (j f w : Nat) : Nat := (gV C 18 j (4 * f + w)).toNatClampNeg
theorem tV_eq {n nb np j f w : Nat} {C M : St} (hI : I2 n nb np C M) (hj : j < np) (hf : f < 12) (hw : w < 4) : tV C j f w ≤ 3600 ∧ gV C 18 j (4 * f + w) = nI (tV C j f w) ∧ TS M j (nI f) (nI w) 0 nb = nI (tV C j f w) := by
  obtain ⟨hA, hB, hZ, hP, hF, hO, hG, hK⟩ := hI
  have hnb := hA.2.2.1
  have h := (hO j hj).2.2.2.2.2 f w hf hw
  obtain ⟨s, hs, es⟩ := TS_bd (M := M) (j := j) (f := nI f) (w := nI w) (fun i hi => ct_bd (hB i hi) (by omega)) nb 0 (by omega)
  have e : tV C j f w = s := by unfold tV; rw [h, es, nI_clamp (by omega)]
  rw [e, h, es]
  exact ⟨by omega, rfl, rfl⟩
theorem bal_int {a b c d : Nat} (ha : a ≤ 3600) (hb : b ≤ 3600) (hc : c ≤ 3600) (hd : d ≤ 3600) : ((nI a - nI b) - nI c + nI d).toInt = (a : Int) - b - c + d := by
  rw [Int32.toInt_add, Int32.toInt_sub, Int32.toInt_sub, nI_toInt (by omega), nI_toInt (by omega), nI_toInt (by omega), nI_toInt (by omega)]
  simp only [Int.bmod_def]
  omega
theorem kept_k {C : St} {j f w : Nat} (hf : f < 12) (hw : w < 4) : x_X5_kept j (nI f) (nI w) C = gV C 18 j (4 * f + w) ∧ ok_X5_kept j (nI f) (nI w) C := by
  have e48 : (48 : Int32) = nI 48 := by decide
  have e4' : (4 : Int32) = nI 4 := by decide
  have ecell : (nI f * 4 + nI w : Int32) = nI (4 * f + w) := by rw [e4', pk_mul, nI_add, Nat.mul_comm]
  unfold x_X5_kept ok_X5_kept
  rw [ecell, if_neg (nI_pos (by omega)), if_neg (nI_pos (by omega)), e48, if_neg (nI_ge (by omega) (by omega)), if_neg (nI_ge (by omega) (by omega)), nI_clamp (by omega)]
  exact ⟨rfl, vp_in_nI (by omega) (by omega), trivial⟩
theorem ite_b {c : Prop} [Decidable c] {A B : Prop} (a : A) (b : B) : if c then A else B := by split <;> assumption
theorem ahead_eq {j nb f o : Nat} {C M : St} {T : Nat → Nat → Nat} (hnb : nb ≤ 80) (hj : j < 6) (h3 : gV M 8 0 3 = nI nb) (hf : f < 12) (ho : o < 12) (hT : ∀ f w, f < 12 → w < 4 → T f w ≤ 3600 ∧ gV C 18 j (4 * f + w) = nI (T f w) ∧ TS M j (nI f) (nI w) 0 nb = nI (T f w)) :
    x_X5_isAhead j (nI f) (nI o) C = x_X8_isBetter (nI j) (nI f) (nI o) M ∧ ok_X5_isAhead j (nI f) (nI o) C ∧ ok_X8_isBetter (nI j) (nI f) (nI o) M := by
  have kk : ∀ g w, g < 12 → w < 4 → x_X5_kept j (nI g) (nI w) C = nI (T g w) ∧ ok_X5_kept j (nI g) (nI w) C := fun g w hg hw => ⟨(kept_k hg hw).1.trans (hT g w hg hw).2.1, (kept_k hg hw).2⟩
  have tt : ∀ g w, g < 12 → w < 4 → x_X8_tells (nI j) (nI g) (nI w) M = nI (T g w) ∧ ok_X8_tells (nI j) (nI g) (nI w) M := fun g w hg hw => by
    obtain ⟨t1, t2⟩ := tells_eq (M := M) (nI g) (nI w) hnb hj h3
    exact ⟨t1.trans (hT g w hg hw).2.2, t2⟩
  have kb : ∀ g, g < 12 → (x_X5_kept j (nI g) 0 C = nI (T g 0) ∧ x_X5_kept j (nI g) 1 C = nI (T g 1) ∧ x_X5_kept j (nI g) 2 C = nI (T g 2) ∧ x_X5_kept j (nI g) 3 C = nI (T g 3)) ∧ (ok_X5_kept j (nI g) 0 C ∧ ok_X5_kept j (nI g) 1 C ∧ ok_X5_kept j (nI g) 2 C ∧ ok_X5_kept j (nI g) 3 C) := fun g hg =>
    ⟨⟨(kk g 0 hg (by omega)).1, (kk g 1 hg (by omega)).1, (kk g 2 hg (by omega)).1, (kk g 3 hg (by omega)).1⟩, ⟨(kk g 0 hg (by omega)).2, (kk g 1 hg (by omega)).2, (kk g 2 hg (by omega)).2, (kk g 3 hg (by omega)).2⟩⟩
  have tb : ∀ g, g < 12 → (x_X8_tells (nI j) (nI g) 0 M = nI (T g 0) ∧ x_X8_tells (nI j) (nI g) 1 M = nI (T g 1) ∧ x_X8_tells (nI j) (nI g) 2 M = nI (T g 2) ∧ x_X8_tells (nI j) (nI g) 3 M = nI (T g 3)) ∧ (ok_X8_tells (nI j) (nI g) 0 M ∧ ok_X8_tells (nI j) (nI g) 1 M ∧ ok_X8_tells (nI j) (nI g) 2 M ∧ ok_X8_tells (nI j) (nI g) 3 M) := fun g hg =>
    ⟨⟨(tt g 0 hg (by omega)).1, (tt g 1 hg (by omega)).1, (tt g 2 hg (by omega)).1, (tt g 3 hg (by omega)).1⟩, ⟨(tt g 0 hg (by omega)).2, (tt g 1 hg (by omega)).2, (tt g 2 hg (by omega)).2, (tt g 3 hg (by omega)).2⟩⟩
  obtain ⟨⟨f0, f1, f2, f3⟩, ⟨fo0, fo1, fo2, fo3⟩⟩ := kb f hf
  obtain ⟨⟨g0, g1, g2, g3⟩, ⟨go0, go1, go2, go3⟩⟩ := kb o ho
  obtain ⟨⟨u0, u1, u2, u3⟩, ⟨uo0, uo1, uo2, uo3⟩⟩ := tb f hf
  obtain ⟨⟨v0, v1, v2, v3⟩, ⟨vo0, vo1, vo2, vo3⟩⟩ := tb o ho
  have bf0 := (hT f 0 hf (by omega)).1
  have bf1 := (hT f 1 hf (by omega)).1
  have bf2 := (hT f 2 hf (by omega)).1
  have bf3 := (hT f 3 hf (by omega)).1
  have bo0 := (hT o 0 ho (by omega)).1
  have bo1 := (hT o 1 ho (by omega)).1
  have bo2 := (hT o 2 ho (by omega)).1
  have bo3 := (hT o 3 ho (by omega)).1
  refine ⟨?_, ?_, ?_⟩
  · unfold x_X5_isAhead x_X8_isBetter x_X8_isBetter_36 x_X8_isBetter_55 x_X5_balance
    rw [f0, f1, f2, f3, g0, g1, g2, g3, u0, u1, u2, u3, v0, v1, v2, v3]
    generalize T f 0 = a0 at *
    generalize T f 1 = a1 at *
    generalize T f 2 = a2 at *
    generalize T f 3 = a3 at *
    generalize T o 0 = c0 at *
    generalize T o 1 = c1 at *
    generalize T o 2 = c2 at *
    generalize T o 3 = c3 at *
    have e0 : (0 : Int32) = nI 0 := rfl
    have e1 : (1 : Int32) = nI 1 := by decide
    have m1 : ∀ c : Nat, c ≤ 3600 → (if (1 : Int32) < nI c then nI c else 1) = nI (max 1 c) := by
      intro c hc
      by_cases h : 1 < c
      · rw [e1, if_pos (nI_lt h (by omega)), Nat.max_eq_right (by omega)]
      · rw [e1, if_neg (nI_nlt (by omega) (by omega)), Nat.max_eq_left (by omega)]
    have q0 : ∀ c : Nat, c ≤ 3600 → ((nI c = 0) ↔ c = 0) := fun c hc => by rw [e0]; exact nI_eq (by omega) (by omega)
    have nz : nI 0 = 0 := rfl
    rw [m1 c0 bo0, m1 a0 bf0]
    have key : ∀ p q : Nat, 1 ≤ p → p ≤ 3600 → 1 ≤ q → q ≤ 3600 →
        (if nI a1 * nI q = nI c1 * nI p then (if nI a2 - nI a3 = nI c2 - nI c3 then (if nI a2 = nI c2 then (if nI o ≤ nI f then (0 : Int32) else 1) else (if nI a2 ≤ nI c2 then 0 else 1)) else (if nI a2 - nI a3 ≤ nI c2 - nI c3 then 0 else 1)) else (if nI a1 * nI q ≤ nI c1 * nI p then 0 else 1)) =
        (if nI a1 * nI q - nI c1 * nI p = 0 then (if nI a2 - nI a3 - nI c2 + nI c3 = 0 then (if nI a2 = nI c2 then (if nI o ≤ nI f then 0 else 1) else (if nI a2 ≤ nI c2 then 0 else 1)) else (if nI a2 - nI a3 - nI c2 + nI c3 ≤ 0 then 0 else 1)) else (if nI a1 * nI q - nI c1 * nI p ≤ 0 then 0 else 1)) := by
      intro p q hp1 hp2 hq1 hq2
      have x1 : a1 * q ≤ 3600 * 3600 := Nat.mul_le_mul bf1 hq2
      have x2 : c1 * p ≤ 3600 * 3600 := Nat.mul_le_mul bo1 hp2
      rw [pk_mul, pk_mul]
      generalize a1 * q = A at *
      generalize c1 * p = B at *
      have d := pk_sub_toInt (a := A) (b := B) (by omega) (by omega)
      have i0 : (nI A = nI B) ↔ A = B := nI_eq (by omega) (by omega)
      have i1 : (nI A ≤ nI B) ↔ A ≤ B := nI_leI (by omega) (by omega)
      have z : ((0 : Int32)).toInt = 0 := by decide
      have i2 : (nI A - nI B = 0) ↔ A = B := by rw [← Int32.toInt_inj, d, z]; omega
      have i3 : (nI A - nI B ≤ 0) ↔ A ≤ B := by rw [Int32.le_iff_toInt_le, d, z]; omega
      have b := bal_int bf2 bf3 bo2 bo3
      have d1 := pk_sub_toInt (a := a2) (b := a3) (by omega) (by omega)
      have d2 := pk_sub_toInt (a := c2) (b := c3) (by omega) (by omega)
      have i4 : (nI a2 - nI a3 = nI c2 - nI c3) ↔ (a2 : Int) - a3 - c2 + c3 = 0 := by rw [← Int32.toInt_inj, d1, d2]; omega
      have i5 : (nI a2 - nI a3 ≤ nI c2 - nI c3) ↔ (a2 : Int) - a3 - c2 + c3 ≤ 0 := by rw [Int32.le_iff_toInt_le, d1, d2]; omega
      have i6 : (nI a2 - nI a3 - nI c2 + nI c3 = 0) ↔ (a2 : Int) - a3 - c2 + c3 = 0 := by rw [← Int32.toInt_inj, b, z]
      have i7 : (nI a2 - nI a3 - nI c2 + nI c3 ≤ 0) ↔ (a2 : Int) - a3 - c2 + c3 ≤ 0 := by rw [Int32.le_iff_toInt_le, b, z]
      simp only [i0, i1, i2, i3, i4, i5, i6, i7]
    rw [key (max 1 a0) (max 1 c0) (by omega) (by omega) (by omega) (by omega)]
    by_cases hc : c0 = 0
    · subst hc
      rw [if_pos nz]
      by_cases ha : a0 = 0
      · subst ha; rw [if_pos nz]; rfl
      · rw [if_neg (fun e => ha ((q0 a0 bf0).mp e)), Nat.max_eq_right (show 1 ≤ a0 by omega)]; rfl
    · rw [if_neg (fun e => hc ((q0 c0 bo0).mp e)), Nat.max_eq_right (show 1 ≤ c0 by omega)]
      by_cases ha : a0 = 0
      · subst ha; rw [if_pos nz]; rfl
      · rw [if_neg (fun e => ha ((q0 a0 bf0).mp e)), Nat.max_eq_right (show 1 ≤ a0 by omega)]
  · unfold ok_X5_isAhead ok_X5_balance
    exact ⟨fo1, go0, go1, fo0, ite_b ⟨⟨fo2, fo3, trivial⟩, ⟨go2, go3, trivial⟩, ite_b ⟨fo2, go2, ite_b (ite_b trivial trivial) ⟨fo2, go2, ite_b trivial trivial⟩⟩ ⟨⟨fo2, fo3, trivial⟩, ⟨go2, go3, trivial⟩, ite_b trivial trivial⟩⟩ (ite_b trivial trivial)⟩
  · have h55 : ∀ s0 s1 s2, ok_X8_isBetter_55 (nI j) (nI f) (nI o) s0 s1 s2 M := by
      intro s0 s1 s2
      unfold ok_X8_isBetter_55
      exact ite_b ⟨uo2, vo2, uo3, vo3, ite_b (ite_b (ite_b trivial trivial) (ite_b trivial trivial)) (ite_b trivial trivial)⟩ (ite_b trivial trivial)
    unfold ok_X8_isBetter ok_X8_isBetter_36
    exact ⟨uo0, vo0, uo1, ite_b ⟨vo1, ite_b (h55 _ _ _) (h55 _ _ _)⟩ ⟨vo1, ite_b (h55 _ _ _) (h55 _ _ _)⟩⟩
def k19 : Nat → Nat → Bool := fun c _ => !(c == 19)
def k38 : Nat → Nat → Bool := fun c _ => !(c == 38)
/-- the two orders while one is put in: place p is free -/
def RK (C M : St) (j r p : Nat) : Prop := ∀ x, x ≤ r → x ≠ p → gV C 19 j x = gV M 38 0 x ∧ ∃ v : Nat, v < 12 ∧ gV M 38 0 x = nI v
theorem insert_run {j nb f r : Nat} {C0 M0 : St} {T : Nat → Nat → Nat} {D : Nat → Int32} {K : Int32 → Int32 → Int32 → St → Int32 × St} {J : Int32 → Int32 → Int32 → St → Prop} (hnb : nb ≤ 80) (hj : j < 6) (hf : f < 12) (hr : r < 12) (h3 : gV M0 8 0 3 = nI nb)
    (hT : ∀ f w, f < 12 → w < 4 → T f w ≤ 3600 ∧ gV C0 18 j (4 * f + w) = nI (T f w) ∧ TS M0 j (nI f) (nI w) 0 nb = nI (T f w)) : ∀ (k p : Nat) (C M : St), p < k → p ≤ r → Ag k19 C0 C → C.2 = C0.2 → Ag k38 M0 M → M.2 = M0.2 → RK C M j r p → (∀ x, r < x → gV C 19 j x = D x) →
    ∃ C' M', x_X5_insert_2 j k (nI f) (nI p) C = C' ∧ x_X8_ranks_37 K k (nI j) (nI r) (nI f) (nI p) M = K (nI j) (nI (r + 1)) (nI (f + 1)) M' ∧ ok_X5_insert_2 j k (nI f) (nI p) C ∧ (J (nI j) (nI (r + 1)) (nI (f + 1)) M' → ok_X8_ranks_37 J k (nI j) (nI r) (nI f) (nI p) M) ∧ Ag k19 C0 C' ∧ C'.2 = C0.2 ∧ Ag k38 M0 M' ∧ M'.2 = M0.2 ∧ RK C' M' j r 12 ∧ (∀ x, r < x → gV C' 19 j x = D x)
  | 0, p, C, M, hk, _, _, _, _, _, _, _ => absurd hk (Nat.not_lt_zero _)
  | k + 1, p, C, M, hk, hp, hC, hC2, hM, hM2, hRK, hx => by
    have ih := insert_run (K := K) (J := J) (D := D) hnb hj hf hr h3 hT k
    have e12 : (12 : Int32) = nI 12 := by decide
    have vp : vp_in (nI p) 12 := vp_in_nI (by omega) (by omega)
    have fin : ∃ C' M', x_X5_insert_48 j (nI f) (nI p) C = C' ∧ x_X8_ranks_82 K (nI j) (nI r) (nI f) (nI p) M = K (nI j) (nI (r + 1)) (nI (f + 1)) M' ∧ ok_X5_insert_48 j (nI f) (nI p) C ∧ (J (nI j) (nI (r + 1)) (nI (f + 1)) M' → ok_X8_ranks_82 J (nI j) (nI r) (nI f) (nI p) M) ∧ Ag k19 C0 C' ∧ C'.2 = C0.2 ∧ Ag k38 M0 M' ∧ M'.2 = M0.2 ∧ RK C' M' j r 12 ∧ (∀ x, r < x → gV C' 19 j x = D x) := by
      refine ⟨sV C 19 j p (nI f), sV M 38 0 p (nI f), ?_, ?_, ?_, ?_, Ag_sV _ _ _ _ rfl hC, hC2, Ag_sV _ _ _ _ rfl hM, hM2, ?_, ?_⟩
      · unfold x_X5_insert_48
        rw [if_neg (nI_pos (by omega)), e12, if_neg (nI_ge (by omega) (by omega)), nI_clamp (by omega)]
      · unfold x_X8_ranks_82 x_X8_ranks_93
        rw [nI_1, nI_1, nI_clamp (by omega)]
      · unfold ok_X5_insert_48
        rw [if_neg (nI_pos (by omega)), e12, if_neg (nI_ge (by omega) (by omega))]
        exact ⟨vp, trivial⟩
      · intro h
        unfold ok_X8_ranks_82 ok_X8_ranks_93
        rw [nI_1, nI_1, nI_clamp (by omega)]
        exact ⟨vp, h⟩
      · intro x hx1 hx2
        rw [gV_sV, gV_sV]
        by_cases c : x = p
        · subst c; rw [if_pos ⟨rfl, rfl, rfl⟩, if_pos ⟨rfl, rfl, rfl⟩]; exact ⟨rfl, f, hf, rfl⟩
        · rw [if_neg (fun e => c e.2.1), if_neg (fun e => c e.2.1)]; exact hRK x hx1 c
      · intro x hx1
        rw [gV_sV, if_neg (by omega)]; exact hx x hx1
    unfold x_X5_insert_2 ok_X5_insert_2 x_X8_ranks_37 ok_X8_ranks_37
    by_cases c0 : p = 0
    · have hle : nI p ≤ 0 := by rw [c0]; decide
      simp only [hle, ↓reduceIte]; exact fin
    · obtain ⟨q, rfl⟩ : ∃ q, p = q + 1 := ⟨p - 1, by omega⟩
      have hle : ¬ nI (q + 1) ≤ 0 := nI_nle (by omega) (by omega)
      have h12 : ¬ (12 : Int32) ≤ nI (q + 1) := by rw [e12]; exact nI_ge (by omega) (by omega)
      obtain ⟨e1, v, hv, e2⟩ := hRK q (by omega) (by omega)
      have vq : vp_in (nI q) 12 := vp_in_nI (by omega) (by omega)
      have hTM : ∀ f w, TS M j (nI f) (nI w) 0 nb = TS M0 j (nI f) (nI w) 0 nb := fun f w => TS_t hM (by simp [k38]) j (nI f) (nI w) nb 0
      obtain ⟨a1, a2, a3⟩ := ahead_eq (C := C) (M := M) (o := v) (T := T) hnb hj (by rw [hM 8 0 3 rfl]; exact h3) hf hv (fun f w hf hw => ⟨(hT f w hf hw).1, by rw [hC 18 j _ rfl]; exact (hT f w hf hw).2.1, by rw [hTM]; exact (hT f w hf hw).2.2⟩)
      simp only [hle, h12, ↓reduceIte]
      rw [nI_pred, nI_clamp (show q < 2 ^ 31 by omega), e1, e2, a1, pk_m1]
      by_cases cb : x_X8_isBetter (nI j) (nI f) (nI v) M = 0
      · simp only [cb, ↓reduceIte]
        obtain ⟨C', M', f1, f2, f3, f4, fr⟩ := fin
        exact ⟨C', M', f1, f2, ⟨vq, a2, f3⟩, fun h => ⟨vq, a3, f4 h⟩, fr⟩
      · simp only [cb, ↓reduceIte]
        rw [nI_clamp (show q + 1 < 2 ^ 31 by omega)]
        obtain ⟨C', M', f1, f2, f3, f4, fr⟩ := ih q (sV C 19 j (q + 1) (nI v)) (sV M 38 0 (q + 1) (nI v)) (by omega) (by omega) (Ag_sV _ _ _ _ rfl hC) hC2 (Ag_sV _ _ _ _ rfl hM) hM2 (by
          intro x hx1 hx2
          rw [gV_sV, gV_sV]
          by_cases c : x = q + 1
          · subst c; rw [if_pos ⟨rfl, rfl, rfl⟩, if_pos ⟨rfl, rfl, rfl⟩]; exact ⟨rfl, v, hv, rfl⟩
          · rw [if_neg (fun e => c e.2.1), if_neg (fun e => c e.2.1)]; exact hRK x hx1 c) (by
          intro x hx1
          rw [gV_sV, if_neg (by omega)]; exact hx x hx1)
        exact ⟨C', M', f1, f2, ⟨vq, a2, vq, vp, f3⟩, fun h => ⟨vq, a3, vq, vp, f4 h⟩, fr⟩
/-- the two orders: r are in it -/
def RO (C M : St) (j r i : Nat) : Prop := (∀ x, x < r → gV C 19 j x = gV M 38 0 x ∧ ∃ v : Nat, v < 12 ∧ gV M 38 0 x = nI v) ∧ (∀ x, r ≤ x → x < i → gV C 19 j x = -1)
theorem ranked_k {j f a g : Nat} {C M : St} (hf : f < 12) (ha : a < 4096) (hg : g < 4096) (h1 : gV C 5 j 1 = nI a) (h4 : gV C 5 j 4 = nI g) : x_X5_isRanked j (nI f) C = (if mk a g / 2 ^ f % 2 = 1 then 1 else 0) ∧ x_X8_has (nI a &&& (nI g ^^^ (-1))) (nI f) M = (if mk a g / 2 ^ f % 2 = 1 then 1 else 0) := by
  have z1 : ¬ (1 : Int32) = 0 := by decide
  constructor
  · unfold x_X5_isRanked x_X5_isRanked_20
    rw [has_k hf ha h1, gone_k hf hg h4]
    have hb := mk_bit (a := a) (g := g) hf
    by_cases c1 : a / 2 ^ f % 2 = 1
    · by_cases c2 : g / 2 ^ f % 2 = 1
      · have n : ¬ mk a g / 2 ^ f % 2 = 1 := fun e => (hb.mp e).2 c2
        simp only [c1, c2, n, z1, ↓reduceIte]
      · have n : mk a g / 2 ^ f % 2 = 1 := hb.mpr ⟨c1, c2⟩
        simp only [c1, c2, n, z1, ↓reduceIte]
    · have n : ¬ mk a g / 2 ^ f % 2 = 1 := fun e => c1 (hb.mp e).1
      simp only [c1, n, ↓reduceIte]
  · rw [andn_eq ha]; exact bit_m hf (mk_lt ha) M
/-- the program's order behind the last fencer -/
theorem order_tail {j a g nf r : Nat} {C0 : St} (hnf : nf ≤ 12) (ha : a < 2 ^ nf) (hg : g < 4096) (h1 : gV C0 5 j 1 = nI a) (h4 : gV C0 5 j 4 = nI g) (hr : r ≤ nf) : ∀ (k i : Nat) (C : St), 12 - i < k → nf ≤ i → i ≤ 12 → Ag k19 C0 C → C.2 = C0.2 →
    ∃ C', x_X5_orderRanked_4 j k (nI r) (nI i) C = C' ∧ ok_X5_orderRanked_4 j k (nI r) (nI i) C ∧ Ag k19 C0 C' ∧ C'.2 = C0.2 ∧ (∀ x, x < i → gV C' 19 j x = gV C 19 j x) ∧ (∀ x, i ≤ x → x < 12 → gV C' 19 j x = -1)
  | 0, i, C, hk, _, _, _, _ => absurd hk (Nat.not_lt_zero _)
  | k + 1, i, C, hk, hi, hi2, hC, hC2 => by
    have ih := order_tail (r := r) hnf ha hg h1 h4 hr k
    have e12 : (12 : Int32) = nI 12 := by decide
    unfold x_X5_orderRanked_4 ok_X5_orderRanked_4
    rw [e12]
    by_cases c : 12 ≤ i
    · have hl := nI_le c (show i < 2 ^ 31 by omega)
      simp only [hl, ↓reduceIte]
      exact ⟨C, rfl, trivial, hC, hC2, fun _ _ => rfl, fun x h1 h2 => absurd h2 (by omega)⟩
    · have hge := nI_ge (show i < 12 by omega) (show 12 < 2 ^ 31 by omega)
      have hC' : Ag k19 C0 (sV C 19 j i (-1)) := Ag_sV _ _ _ _ rfl hC
      have ha' := pow12 hnf ha
      have hn : ¬ mk a g / 2 ^ i % 2 = 1 := by
        intro e
        have := bit_lt ha ((mk_bit (show i < 12 by omega)).mp e).1
        omega
      have hrk := (ranked_k (C := sV C 19 j i (-1)) (M := C) (j := j) (show i < 12 by omega) ha' hg (by rw [hC' 5 j 1 rfl]; exact h1) (by rw [hC' 5 j 4 rfl]; exact h4)).1
      rw [if_neg hn] at hrk
      simp only [hge, ↓reduceIte]
      rw [nI_clamp (show i < 2 ^ 31 by omega), hrk]
      simp only [↓reduceIte]
      unfold x_X5_orderRanked_34 ok_X5_orderRanked_34
      rw [nI_1]
      obtain ⟨C', f1, f2, f3, f4, f5, f6⟩ := ih (i + 1) (sV C 19 j i (-1)) (by omega) (by omega) (by omega) hC' hC2
      refine ⟨C', f1, ⟨vp_in_nI (by omega) (by omega), f2⟩, f3, f4, fun x hx => ?_, fun x hx1 hx2 => ?_⟩
      · rw [f5 x (by omega), gV_sV, if_neg (by omega)]
      · by_cases cx : x = i
        · subst cx; rw [f5 x (by omega), gV_sV, if_pos ⟨rfl, rfl, rfl⟩]
        · exact f6 x (by omega) hx2
theorem pcn_le (x : Nat) : ∀ k, pcn x k ≤ k
  | 0 => Nat.le_refl _
  | k + 1 => by show pcn x k + x / 2 ^ k % 2 ≤ k + 1; have := pcn_le x k; have := Nat.mod_lt (x / 2 ^ k) (show 0 < 2 by omega); omega
theorem order_run {j nb a g nf : Nat} {C0 M0 : St} {T : Nat → Nat → Nat} (hnb : nb ≤ 80) (hj : j < 6) (h3 : gV M0 8 0 3 = nI nb) (hnf : nf ≤ 12) (h0 : gV M0 8 0 0 = nI nf) (ha : a < 2 ^ nf) (hg : g < 4096) (h1 : gV C0 5 j 1 = nI a) (h4 : gV C0 5 j 4 = nI g) (h36 : gV M0 36 0 j = nI a) (h37 : gV M0 37 0 j = nI g)
    (hT : ∀ f w, f < 12 → w < 4 → T f w ≤ 3600 ∧ gV C0 18 j (4 * f + w) = nI (T f w) ∧ TS M0 j (nI f) (nI w) 0 nb = nI (T f w)) : ∀ (k i : Nat) (C M : St), 12 - i < k → i ≤ nf → Ag k19 C0 C → C.2 = C0.2 → Ag k38 M0 M → M.2 = M0.2 → RO C M j (pcn (mk a g) i) i →
    ∃ C' M', x_X5_orderRanked_4 j k (nI (pcn (mk a g) i)) (nI i) C = C' ∧ x_X8_ranks_4 k (nI j) (nI (pcn (mk a g) i)) (nI i) M = (nI (pcn (mk a g) nf), M') ∧ ok_X5_orderRanked_4 j k (nI (pcn (mk a g) i)) (nI i) C ∧ ok_X8_ranks_4 k (nI j) (nI (pcn (mk a g) i)) (nI i) M ∧ Ag k19 C0 C' ∧ C'.2 = C0.2 ∧ Ag k38 M0 M' ∧ M'.2 = M0.2 ∧ RO C' M' j (pcn (mk a g) nf) 12
  | 0, i, C, M, hk, _, _, _, _, _, _ => absurd hk (Nat.not_lt_zero _)
  | k + 1, i, C, M, hk, hi, hC, hC2, hM, hM2, hRO => by
    have ih := order_run hnb hj h3 hnf h0 ha hg h1 h4 h36 h37 hT k
    have e12 : (12 : Int32) = nI 12 := by decide
    have ha' := pow12 hnf ha
    have hpc := pcn_le (mk a g) i
    have vj : vp_in (nI j) 6 := vp_in_nI hj (by omega)
    by_cases ci : nf ≤ i
    · have e : i = nf := by omega
      subst e
      obtain ⟨C', f1, f2, f3, f4, f5, f6⟩ := order_tail (r := pcn (mk a g) i) hnf ha hg h1 h4 hpc (k + 1) i C hk (Nat.le_refl _) hnf hC hC2
      unfold x_X8_ranks_4 ok_X8_ranks_4
      rw [hM 8 0 0 rfl, h0, if_pos (nI_le (Nat.le_refl _) (by omega)), if_pos (nI_le (Nat.le_refl _) (by omega))]
      refine ⟨C', M, f1, rfl, f2, trivial, f3, f4, hM, hM2, fun x hx => ?_, fun x hx1 hx2 => ?_⟩
      · rw [f5 x (by omega)]; exact hRO.1 x hx
      · by_cases cx : x < i
        · rw [f5 x cx]; exact hRO.2 x hx1 cx
        · exact f6 x (by omega) hx2
    have hi' : i < nf := by omega
    have i12 : i < 12 := by omega
    unfold x_X5_orderRanked_4 ok_X5_orderRanked_4 x_X8_ranks_4 ok_X8_ranks_4
    have hge := nI_ge (show i < 12 by omega) (show 12 < 2 ^ 31 by omega)
    have hge2 := nI_ge hi' (show nf < 2 ^ 31 by omega)
    have hC' : Ag k19 C0 (sV C 19 j i (-1)) := Ag_sV _ _ _ _ rfl hC
    obtain ⟨rk1, rk2⟩ := ranked_k (C := sV C 19 j i (-1)) (M := M) (j := j) i12 ha' hg (by rw [hC' 5 j 1 rfl]; exact h1) (by rw [hC' 5 j 4 rfl]; exact h4)
    rw [e12, hM 8 0 0 rfl, h0, nI_clamp (show j < 2 ^ 31 by omega), hM 36 0 j rfl, hM 37 0 j rfl, h36, h37, rk2, nI_clamp (show i < 2 ^ 31 by omega), rk1]
    simp only [hge, hge2, ↓reduceIte, vj, true_and]
    have z1 : ¬ (1 : Int32) = 0 := by decide
    have vi : vp_in (nI i) 12 := vp_in_nI i12 (by omega)
    have hpn : pcn (mk a g) (i + 1) = pcn (mk a g) i + mk a g / 2 ^ i % 2 := rfl
    by_cases cb : mk a g / 2 ^ i % 2 = 1
    · simp only [cb, z1, ↓reduceIte]
      rw [cb] at hpn
      generalize pcn (mk a g) i = r at *
      obtain ⟨C1, M1, f1, f2, f3, f4, f5, f6, f7, f8, f9, f10⟩ := insert_run (D := fun x => gV (sV C 19 j i (-1)) 19 j x) (K := x_X8_ranks_4 k) (J := ok_X8_ranks_4 k) hnb hj i12 (show r < 12 by omega) (show gV M0 8 0 3 = nI nb from h3) hT fu r (sV C 19 j i (-1)) M (by rw [fuE]; omega) (Nat.le_refl _) hC' hC2 hM hM2 (by
        intro x hx1 hx2
        have hlt : x < r := by omega
        rw [gV_sV, if_neg (by omega)]; exact hRO.1 x hlt) (fun x _ => rfl)
      unfold x_X5_orderRanked_31 ok_X5_orderRanked_31 x_X5_orderRanked_34 ok_X5_orderRanked_34 x_X5_insert ok_X5_insert
      have f1' : x_X5_insert_2 j fu (nI i) (nI r) (sV C 19 j i (-1)) = C1 := f1
      rw [f1', f2, nI_1, nI_1, ← hpn]
      obtain ⟨C', M', g1, g2, g3, g4, g5⟩ := ih (i + 1) C1 M1 (by omega) (by omega) f5 f6 f7 f8 ⟨fun x hx => by
          rw [hpn] at hx
          exact f9 x (by omega) (by omega), fun x hx1 hx2 => by
          rw [hpn] at hx1
          rw [f10 x (by omega), gV_sV]
          by_cases cx : x = i
          · rw [if_pos ⟨rfl, cx, rfl⟩]
          · rw [if_neg (fun e => cx e.2.1)]; exact hRO.2 x (by omega) (by omega)⟩
      refine ⟨C', M', g1, g2, ⟨vi, f3, g3⟩, f4 (by rw [← hpn]; exact g4), g5⟩
    · have hz : mk a g / 2 ^ i % 2 = 0 := by have := Nat.mod_lt (mk a g / 2 ^ i) (show 0 < 2 by omega); omega
      replace hpn : pcn (mk a g) (i + 1) = pcn (mk a g) i := by omega
      simp only [hz, Nat.zero_ne_one, ↓reduceIte]
      unfold x_X5_orderRanked_34 ok_X5_orderRanked_34 x_X8_ranks_93 ok_X8_ranks_93
      rw [nI_1, ← hpn]
      obtain ⟨C', M', f1, f2, f3, f4, f5⟩ := ih (i + 1) (sV C 19 j i (-1)) M (by omega) (by omega) hC' hC2 hM hM2 ⟨fun x hx => by
          rw [hpn] at hx
          rw [gV_sV, if_neg (by omega)]; exact hRO.1 x hx, fun x hx1 hx2 => by
          rw [hpn] at hx1
          rw [gV_sV]
          by_cases cx : x = i
          · rw [if_pos ⟨rfl, cx, rfl⟩]
          · rw [if_neg (fun e => cx e.2.1)]; exact hRO.2 x hx1 (by omega)⟩
      exact ⟨C', M', f1, f2, ⟨vi, f3⟩, f4, f5⟩
/-- who has a rank in pool j -/
theorem order_eq {n nb np j : Nat} {C M : St} (hI : I2 n nb np C M) (hj : j < np) : ∃ (a g nf r : Nat) (C' M' : St), nf ≤ 12 ∧ gV M 8 0 0 = nI nf ∧ a < 2 ^ nf ∧ g < 4096 ∧ gV M 36 0 j = nI a ∧ gV M 37 0 j = nI g ∧ gV C 5 j 1 = nI a ∧ gV C 5 j 4 = nI g ∧ r = pcn (mk a g) 12 ∧ r ≤ 12 ∧
    x_X5_orderRanked j C = C' ∧ x_X8_ranks (nI j) M = (nI r, M') ∧ ok_X5_orderRanked j C ∧ ok_X8_ranks (nI j) M ∧ Ag k19 C C' ∧ C'.2 = C.2 ∧ Ag k38 M M' ∧ M'.2 = M.2 ∧ RO C' M' j r 12 := by
  obtain ⟨hA, hB, hZ, hP, hF, hO, hG, hK⟩ := id hI
  obtain ⟨A1, ⟨nf, hnf, A2⟩, A3, A4, A5, A6, A7, A8, A9, A10, A11, A12, A13, A14⟩ := id hA
  obtain ⟨o1, o2, ⟨a, nf2, b1, b2, b3, b4⟩, o4, ⟨g, hg, o5⟩, o6⟩ := hO j hj
  have en : nf = nf2 := (nI_eq (by omega) (by omega)).mp (A2.symm.trans b2)
  subst en
  have h := order_run (j := j) (C0 := C) (M0 := M) (T := tV C j) A3 (by omega) A5 hnf A2 b3 hg (o2.trans b4) (o4.trans o5) b4 o5 (fun f w hf hw => tV_eq hI hj hf hw) fu 0 C M (by rw [fuE]; omega) (by omega) (Ag.rf _ _) rfl (Ag.rf _ _) rfl ⟨fun x hx => absurd hx (Nat.not_lt_zero x), fun x _ hx => absurd hx (Nat.not_lt_zero x)⟩
  obtain ⟨C', M', f1, f2, f3, f4, f5, f6, f7, f8, f9⟩ := h
  have hi : ∀ k, nf ≤ k → k ≤ 12 → pcn (mk a g) k = pcn (mk a g) nf := by
    intro k; induction k with
    | zero => intro h1 _; have : nf = 0 := by omega
              rw [this]
    | succ k ih =>
      intro h1 h2
      by_cases c : nf = k + 1
      · rw [c]
      · have hb : ¬ mk a g / 2 ^ k % 2 = 1 := by
          intro e
          have := bit_lt b3 ((mk_bit (show k < 12 by omega)).mp e).1
          omega
        have := Nat.mod_lt (mk a g / 2 ^ k) (show 0 < 2 by omega)
        show pcn (mk a g) k + mk a g / 2 ^ k % 2 = _
        rw [ih (by omega) (by omega)]; omega
  have hr := hi 12 hnf (Nat.le_refl _)
  refine ⟨a, g, nf, pcn (mk a g) nf, C', M', hnf, A2, b3, hg, b4, o5, o2.trans b4, o4.trans o5, hr.symm, by have := pcn_le (mk a g) nf; omega, f1, f2, f3, f4, f5, f6, f7, f8, f9⟩
/-- an order made: nothing else changed -/
theorem I2_ord {n nb np : Nat} {C M C' M' : St} (hI : I2 n nb np C M) (hC : Ag k19 C C') (hC2 : C'.2 = C.2) (hM : Ag k38 M M') (hM2 : M'.2 = M.2) : I2 n nb np C' M' := by
  have hR : ∀ a k, gR C' a k = gR C a k := fun a k => by unfold gR; rw [hC2]
  have hL : gL C' 3 0 = gL C 3 0 := by unfold gL; rw [hC2]
  have hLM : gL M' 8 1 = gL M 8 1 := by unfold gL; rw [hM2]
  obtain ⟨hA, hB, hZ, hP, hF, hO, hG, hK⟩ := hI
  refine ⟨?_, fun i hi => qB_t hC hM (by simp [k19, k38]) np i (hB i hi), fun i hi => qZ_t hC hM (by simp [k38]) i (hZ i hi), qP_t hC hM (hR 7 8) (by simp [k19, k38]) n nb np hP, qF_t hC hM (by simp [k19, k38]) hF, fun j hj => qO_t hC hM (by simp [k19, k38]) nb j (hO j hj), fun j hj => by rw [hM 37 0 j rfl]; exact hG j hj, qK_t hC hM (by simp [k19, k38]) hK⟩
  unfold qA at hA ⊢
  rw [hC 7 0 5 rfl, hC 7 0 6 rfl, hC 7 0 7 rfl, hC 7 0 9 rfl, hM 8 0 0 rfl, hM 8 0 3 rfl, hM 8 0 23 rfl, hM 8 0 2 rfl, hL, hLM]
  simp only [hR]
  exact hA
theorem cr_rank : CR_rank := by
  intro n nb np C M a1 a2 hn hI
  obtain ⟨hA, hB, hZ, hP, hF, hO, hG, hK⟩ := id hI
  obtain ⟨A1, A2, A3, A4, A5, A6, A7, A8, A9, A10, A11, A12, A13, A14⟩ := id hA
  have z0 : (0 : Int32) ≤ 0 := by decide
  have z1 : ¬ (1 : Int32) = 0 := by decide
  have z1' : ¬ (1 : Int32) ≤ 0 := by decide
  have n3 : ¬ (3 : Nat) = 0 := by decide
  have bad : ∀ okc : Prop, okc → okc ∧ eIn 0 0 1 (3, (0 : Int32), C).1 ∧ ok_X8_rank_17 a1 a2 M ∧ gV (x_X8_rank_17 a1 a2 M).2 8 0 31 = wK 0 0 1 (3, (0 : Int32), C).1 ∧ ((3, (0 : Int32), C).1 = 0 → (3, (0 : Int32), C).2.1 = (x_X8_rank_17 a1 a2 M).1) ∧ I2 (n + 1) nb np (3, (0 : Int32), C).2.2 (x_X8_rank_17 a1 a2 M).2 := by
    intro okc h
    unfold x_X8_rank_17 ok_X8_rank_17 x_X8_rank_18 ok_X8_rank_18
    rw [if_neg z1', if_neg z1']
    obtain ⟨k1, k2, k3, k4, k5⟩ := failS (v8 := (0 : Int32)) hI (e := 3) (by decide) (Or.inr (Or.inr (Or.inr ⟨rfl, by decide⟩))) (s0 := 1) (a := 0) (b := 0) (d := 1) (okm := True) rfl trivial rfl
    exact ⟨h, k1, trivial, k3, fun h => absurd h n3, k5⟩
  unfold x_X7_rank ok_X7_rank x_X8_rank ok_X8_rank x_X8_thrown x_X7_rank_14 ok_X7_rank_14
  rcases ix3 a1 np (by omega) with h | ⟨j, hj, rfl⟩
  · obtain ⟨e1, e2⟩ := poolOf_out (C := C) A7 h
    rw [e1, isPool_out (by omega) A8 h]
    simp only [oc, ↓reduceIte, and_true]
    exact bad _ e2
  obtain ⟨e1, e2⟩ := poolOf_in (C := C) A6 A7 A14 hj
  rw [e1, isPool_in (by omega) A8 hj]
  simp only [oc, z1, ↓reduceIte]
  by_cases c2 : a2 < 0
  · have c2' : ¬ 0 ≤ a2 := by
      intro h; rw [Int32.le_iff_toInt_le] at h; rw [Int32.lt_iff_toInt_lt] at c2; omega
    simp only [c2, c2', ↓reduceIte, and_true]
    exact bad _ e2
  obtain ⟨y, hy, rfl⟩ := nI_of c2
  have c2' : 0 ≤ nI y := nI_pos' (by omega)
  simp only [c2, c2', ↓reduceIte]
  have hI0 : I2 n nb np C (sV M 8 0 31 0) := I2_th 0 hI
  have h31 : gV (sV M 8 0 31 0) 8 0 31 = 0 := by rw [gV_sV, if_pos ⟨rfl, rfl, rfl⟩]
  obtain ⟨a, g, nf, r, C', M', d1, d2, d3, d4, d5, d6, d7, d8, d9, d10, f1, f2, f3, f4, f5, f6, f7, f8, f9⟩ := order_eq hI0 hj
  have e12 : (12 : Int32) = nI 12 := by decide
  unfold x_X8_rank_18 ok_X8_rank_18 x_X8_rank_35 ok_X8_rank_35 x_X7_rank_29 ok_X7_rank_29 x_X5_rankedAt ok_X5_rankedAt x_X5_rankedAt_19 ok_X5_rankedAt_19
  rw [if_pos z0, if_pos z0, f1, f2, e12]
  simp only [c2, ↓reduceIte]
  rw [nI_clamp (show y < 2 ^ 31 by omega)]
  have hfin : I2 (n + 1) nb np C' M' := I2_up (I2_ord hI0 f5 f6 f7 f8)
  have h31' : gV M' 8 0 31 = 0 := by rw [f7 8 0 31 rfl]; exact h31
  by_cases cr : r ≤ y
  · have l1 : nI r ≤ nI y := nI_le cr (by omega)
    simp only [l1, ↓reduceIte]
    by_cases c12 : 12 ≤ y
    · have l2 : nI 12 ≤ nI y := nI_le c12 (by omega)
      simp only [l2, ↓reduceIte]
      exact ⟨⟨e2, f3, trivial, trivial⟩, Or.inl rfl, ⟨f4, trivial⟩, h31', fun _ => trivial, hfin⟩
    · have l2 : ¬ nI 12 ≤ nI y := nI_ge (by omega) (by omega)
      simp only [l2, ↓reduceIte]
      exact ⟨⟨e2, f3, ⟨vp_in_nI (by omega) (by omega), trivial⟩, trivial⟩, Or.inl rfl, ⟨f4, trivial⟩, h31', fun _ => f9.2 y cr (by omega), hfin⟩
  · have l1 : ¬ nI r ≤ nI y := nI_ge (by omega) (by omega)
    have l2 : ¬ nI 12 ≤ nI y := nI_ge (by omega) (by omega)
    simp only [l1, l2, ↓reduceIte]
    exact ⟨⟨e2, f3, ⟨vp_in_nI (by omega) (by omega), trivial⟩, trivial⟩, Or.inl rfl, ⟨f4, vp_in_nI (by omega) (by omega), trivial⟩, h31', fun _ => (f9.1 y (by omega)).1, hfin⟩
end
