noncomputable section
section RANKS
theorem RS_add {A B : Int32 → Int32} {x : Nat} : ∀ k, RS (fun v => A v + B v) x k = RS A x k + RS B x k
  | 0 => rfl
  | k + 1 => by
    show RS (fun v => A v + B v) x k + (if x / 2 ^ k % 2 = 1 then A (nI k) + B (nI k) else 0) = (RS A x k + (if x / 2 ^ k % 2 = 1 then A (nI k) else 0)) + (RS B x k + (if x / 2 ^ k % 2 = 1 then B (nI k) else 0))
    rw [RS_add k]
    split
    · rw [Int32.add_assoc, Int32.add_assoc, ← Int32.add_assoc (RS B x k), Int32.add_comm (RS B x k) (A (nI k)), Int32.add_assoc (A (nI k))]
    · rw [Int32.add_zero, Int32.add_zero, Int32.add_zero]
theorem RS_zero {G : Int32 → Int32} {x : Nat} (h : ∀ k, k < 12 → G (nI k) = 0) : ∀ k, k ≤ 12 → RS G x k = 0
  | 0, _ => rfl
  | k + 1, hk => by
    show RS G x k + (if x / 2 ^ k % 2 = 1 then G (nI k) else 0) = 0
    rw [RS_zero h k (by omega), h k (by omega), ite_self]; rfl
/-- two are named, l and r -/
theorem RS_two {G : Int32 → Int32} {x l r : Nat} (hne : l ≠ r) (bl : x / 2 ^ l % 2 = 1) (br : x / 2 ^ r % 2 = 1) (h : ∀ k, k < 12 → k ≠ l → k ≠ r → G (nI k) = 0) : ∀ k, k ≤ 12 → RS G x k = (if l < k then G (nI l) else 0) + (if r < k then G (nI r) else 0)
  | 0, _ => rfl
  | k + 1, hk => by
    show RS G x k + (if x / 2 ^ k % 2 = 1 then G (nI k) else 0) = _
    rw [RS_two hne bl br h k (by omega)]
    by_cases c1 : k = l
    · subst c1
      have e : (r < k + 1) = (r < k) := by apply propext; omega
      rw [if_pos bl, if_neg (Nat.lt_irrefl k), if_pos (Nat.lt_succ_self k), Int32.zero_add, Int32.add_comm]
      simp only [e]
    · by_cases c2 : k = r
      · subst c2
        have e : (l < k + 1) = (l < k) := by apply propext; omega
        rw [if_pos br, if_neg (Nat.lt_irrefl k), if_pos (Nat.lt_succ_self k), Int32.add_zero]
        simp only [e]
      · have e : (l < k + 1) = (l < k) := by apply propext; omega
        have e' : (r < k + 1) = (r < k) := by apply propext; omega
        rw [h k (by omega) c1 c2, ite_self, Int32.add_zero]
        simp only [e, e']
theorem VS_eq {G : Int32 → Int32} {C : St} {j : Nat} {V : Nat → Nat} : ∀ r, (∀ x, x < r → gV C 19 j x = nI (V x)) → VS G V r = SU G C j r
  | 0, _ => rfl
  | r + 1, h => by
    show VS G V r + G (nI (V r)) = SU G C j r + G (gV C 19 j r)
    rw [VS_eq r (fun x hx => h x (by omega)), h r (by omega)]
/-- the ranks of pool j: who stands where -/
theorem rank_run {nb np j nf : Nat} {γ M : St} (hI : I2 1 nb np γ M) (hj : j < np) (hnf : gV γ 7 0 5 = nI nf) (h12 : nf ≤ 12) : ∃ (a g r : Nat) (V : Nat → Nat), a < 2 ^ nf ∧ g < 4096 ∧ gV M 37 0 j = nI g ∧ gV γ 5 j 1 = nI a ∧ gV γ 5 j 4 = nI g ∧ r = pcn (mk a g) 12 ∧ r ≤ nf ∧
    (∀ t, t < r → V t < 12 ∧ mk a g / 2 ^ V t % 2 = 1) ∧ (∀ C, Ag k19 γ C → C.2 = γ.2 → Ag k19 γ (x_X5_orderRanked j C) ∧ (x_X5_orderRanked j C).2 = γ.2 ∧ (∀ t, t < r → gV (x_X5_orderRanked j C) 19 j t = nI (V t)) ∧ (∀ t, r ≤ t → t < 12 → gV (x_X5_orderRanked j C) 19 j t = -1) ∧ ∀ t, t < 2 ^ 31 → x_X7_rank (nI j) (nI t) C = (0, if t < r then nI (V t) else -1, x_X5_orderRanked j C)) ∧ (∀ G, VS G V r = RS G (mk a g) 12) := by
  obtain ⟨A1, A2, A3, A4, A5, A6, A7, A8, A9, A10, A11, A12, A13, A14⟩ := hI.1
  obtain ⟨a, g, nf', r, C', M', d1, d2, d3, d4, d5, d6, d7, d8, d9, d10, f1, f2, f3, f4, f5, f6, f7, f8, f9⟩ := order_eq hI hj
  have en : nf' = nf := (nI_eq (by omega) (by omega)).mp (d2.symm.trans (A1.symm.trans hnf))
  subst en
  have ha := pow12 d1 d3
  have hmk : mk a g < 2 ^ nf' := Nat.lt_of_le_of_lt Nat.and_le_left d3
  have hrn : r ≤ nf' := by
    have h1 := pcn_nf hmk (12 - nf')
    rw [show nf' + (12 - nf') = 12 by omega] at h1
    have h2 := pcn_le (mk a g) nf'
    omega
  have hbit : ∀ f, f < 12 → mk a g / 2 ^ f % 2 = 1 → ∃ v : Nat, v < 12 ∧ mk a g / 2 ^ v % 2 = 1 ∧ nI f = nI v := fun f hf hb => ⟨f, hf, hb, rfl⟩
  have hsum : ∀ G : Int32 → Int32, SU G (x_X5_orderRanked j γ) j r = RS G (mk a g) 12 ∧ ∀ x, x < r → ∃ v : Nat, v < 12 ∧ mk a g / 2 ^ v % 2 = 1 ∧ gV (x_X5_orderRanked j γ) 19 j x = nI v := by
    intro G
    have h := ord_sum (G := G) (Q := fun y => ∃ v : Nat, v < 12 ∧ mk a g / 2 ^ v % 2 = 1 ∧ y = nI v) (j := j) ha d4 d7 d8 hbit fu 0 γ (by rw [fuE]; omega) (by omega) (Ag.rf _ _) rfl (fun x hx => absurd hx (Nat.not_lt_zero x))
    rw [← d9] at h
    exact h
  have hV : ∀ x, x < r → gV (x_X5_orderRanked j γ) 19 j x = nI (gV (x_X8_ranks (nI j) M).2 38 0 x).toNatClampNeg ∧ (gV (x_X8_ranks (nI j) M).2 38 0 x).toNatClampNeg < 12 ∧ mk a g / 2 ^ (gV (x_X8_ranks (nI j) M).2 38 0 x).toNatClampNeg % 2 = 1 := by
    intro x hx
    obtain ⟨v, v1, v2, v3⟩ := (hsum (fun _ => 0)).2 x hx
    have e := (f9.1 x hx).1
    rw [← f1, v3] at e
    rw [f2, v3]
    dsimp only
    rw [← e, nI_clamp (by omega)]
    exact ⟨rfl, v1, v2⟩
  refine ⟨a, g, r, fun x => (gV (x_X8_ranks (nI j) M).2 38 0 x).toNatClampNeg, d3, d4, d6, d7, d8, d9, hrn, fun t ht => (hV t ht).2, fun C hC hC2 => ?_, fun G => ?_⟩
  · have hI2 := I2_ord hI hC hC2 (Ag.rf _ _) rfl
    obtain ⟨a', g', nf2, r', C2, M2, q1, q2, q3, q4, q5, q6, q7, q8, q9, q10, p1, p2, p3, p4, p5, p6, p7, p8, p9⟩ := order_eq hI2 hj
    have er : r' = r := by
      rw [f2] at p2
      have h1 := congrArg Prod.fst p2
      exact ((nI_eq (by omega) (by omega)).mp h1).symm
    subst er
    have eM : M2 = (x_X8_ranks (nI j) M).2 := by rw [p2]
    subst eM
    have hord : ∀ t, t < r' → gV C2 19 j t = nI (gV (x_X8_ranks (nI j) M).2 38 0 t).toNatClampNeg := by
      intro t ht
      obtain ⟨k1, v, k2, k3⟩ := p9.1 t ht
      rw [k1, k3, nI_clamp (by omega)]
    rw [p1]
    refine ⟨Ag_tr hC p5, p6.trans hC2, hord, fun t h1 h2 => p9.2 t h1 h2, fun t ht => ?_⟩
    unfold x_X7_rank
    rw [(poolOf_in (C := C) A6 ((hC 7 0 7 rfl).trans A7) (fun j hj => by unfold gR; rw [hC2]; exact A14 j hj) hj).1]
    simp only [oc]
    rw [if_pos (nI_pos' ht), p1]
    unfold x_X7_rank_29 x_X5_rankedAt x_X5_rankedAt_19
    rw [if_neg (nI_pos ht)]
    by_cases c : 12 ≤ t
    · rw [if_pos (by rw [show (12 : Int32) = nI 12 by decide]; exact nI_le c (by omega)), if_neg (show ¬ t < r' by omega)]
    · rw [if_neg (by rw [show (12 : Int32) = nI 12 by decide]; exact nI_ge (by omega) (by omega)), nI_clamp ht]
      by_cases c2 : t < r'
      · rw [if_pos c2, hord t c2]
      · rw [if_neg c2, p9.2 t (by omega) (by omega)]
  · rw [← (hsum G).1]
    exact VS_eq r (fun x hx => (hV x hx).1)
end RANKS
end
