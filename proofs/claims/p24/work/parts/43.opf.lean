noncomputable section
theorem TS_snoc {M : St} {j : Nat} {f w : Int32} : ∀ (r i : Nat), TS M j f w i (r + 1) = TS M j f w i r + ct M j f w (i + r)
  | 0, i => by unfold TS; unfold TS; rw [Int32.zero_add, Int32.add_zero]; rfl
  | r + 1, i => by
    have e : TS M j f w i (r + 1 + 1) = ct M j f w i + TS M j f w (i + 1) (r + 1) := rfl
    have e' : TS M j f w i (r + 1) = ct M j f w i + TS M j f w (i + 1) r := rfl
    rw [e, TS_snoc r (i + 1), e', Int32.add_assoc, show i + 1 + r = i + (r + 1) by omega]
def bX (X : St) : St := sV (sV (sV (sV X 29 0 0 0) 30 0 0 0) 29 0 1 0) 30 0 1 0
theorem begin_loop (X : St) : x_X8_begin_299 fu 0 X = (gV X 8 0 4, sV (sV (bX X) 8 0 17 0) 8 0 3 (gV X 8 0 3 + 1)) ∧ ok_X8_begin_299 fu 0 X := by
  have z0 : ¬ (2 : Int32) ≤ 0 := by decide
  have z1 : ¬ (2 : Int32) ≤ 0 + 1 := by decide
  have z2 : (2 : Int32) ≤ 0 + 1 + 1 := by decide
  have c0 : ((0 : Int32)).toNatClampNeg = 0 := by decide
  have c1 : ((0 : Int32) + 1).toNatClampNeg = 1 := by decide
  have v0 : vp_in (0 : Int32) 2 := by unfold vp_in; decide
  have v1 : vp_in ((0 : Int32) + 1) 2 := by unfold vp_in; decide
  have nb0 : vp_nar .boolean (0 : Int32) = 0 := by decide
  have hf : fu = 397 + 1 + 1 + 1 := rfl
  rw [hf]
  constructor
  · show (if (2 : Int32) ≤ 0 then _ else _) = _
    rw [if_neg z0]
    show (if (2 : Int32) ≤ 0 + 1 then _ else _) = _
    rw [if_neg z1]
    show (if (2 : Int32) ≤ 0 + 1 + 1 then _ else _) = _
    rw [if_pos z2, c0, c1, nb0]
    show (gV (bX X) 8 0 4, sV (sV (bX X) 8 0 17 0) 8 0 3 (gV (bX X) 8 0 3 + 1)) = _
    rw [show gV (bX X) 8 0 4 = gV X 8 0 4 from by simp [bX, gV_sV], show gV (bX X) 8 0 3 = gV X 8 0 3 from by simp [bX, gV_sV]]
  · show (if (2 : Int32) ≤ 0 then _ else _)
    rw [if_neg z0]
    refine ⟨v0, v0, ?_⟩
    show (if (2 : Int32) ≤ 0 + 1 then _ else _)
    rw [if_neg z1]
    refine ⟨v1, v1, ?_⟩
    show (if (2 : Int32) ≤ 0 + 1 + 1 then _ else _)
    rw [if_pos z2]; trivial
def bC (C : St) (b : Nat) (a1 a2 a3 a4 a5 : Int32) : St := sR (sV (sR (nB C b a1 a2 a3 a4 a5) 9 b (some b)) 7 0 6 (nI (b + 1))) 7 8 (some b)
def bM (M : St) (b : Nat) (a1 a2 a3 a4 a5 : Int32) : St := sV (sV (bX (sV (sV (sV (sV (sV (sV (sV (sV (sV (sV M 8 0 31 0) 20 0 (2 * b) a1) 20 0 (2 * b + 1) a2) 22 0 b a3) 23 0 b a4) 24 0 b a5) 25 0 b (-1)) 28 0 b (-1)) 8 0 4 (nI b)) 8 0 14 0)) 8 0 17 0) 8 0 3 (nI (b + 1))
theorem begin_new {n nb np f1 f2 t : Nat} {C M : St} {a3 a5 : Int32} (hI : I2 n nb np C M) (hlt : nb < 80) (hR : gR C 7 8 = none) (hf1 : f1 < 12) (hf2 : f2 < 12) (hne : f1 ≠ f2) (ht : t ≤ 45) (ht1 : 1 ≤ t)
    (ha5 : a5 = -1 ∨ ∃ j : Nat, j < np ∧ a5 = nI j ∧ x_X8_has (gV M 37 0 j) (nI f1) M = 0 ∧ x_X8_has (gV M 37 0 j) (nI f2) M = 0) :
    I2 (n + 1) (nb + 1) np (bC C nb (nI f1) (nI f2) a3 (nI t) a5) (bM M nb (nI f1) (nI f2) a3 (nI t) a5) := by
  obtain ⟨hA, hB, hZ, ⟨p1, p2⟩, ⟨c, h24, hc1, hc2, hE⟩, hO, hG, hK⟩ := hI
  obtain ⟨A1, A2, A3, A4, A5, A6, A7, A8, A9, A10, A11, A12, A13, A14⟩ := id hA
  have hc0 : c = 0 := by
    rcases p2 with ⟨-, -, h⟩ | ⟨b', hb', g1, -⟩
    · rw [hc2] at h; exact (nI_eq (by omega) (by omega)).mp (h.trans rfl)
    · rw [hR] at g1; exact absurd g1 (by simp)
  subst hc0
  generalize hC' : bC C nb (nI f1) (nI f2) a3 (nI t) a5 = C'
  generalize hM' : bM M nb (nI f1) (nI f2) a3 (nI t) a5 = M'
  have hC : Ag (fun c k => !(c == 0 || c == 2 || (c == 7 && k == 6))) C C' := by
    rw [← hC']; unfold bC nB
    refine Ag_sR _ _ _ (Ag_sV _ _ _ _ rfl (Ag_sR _ _ _ ?_))
    repeat first | exact Ag.rf _ _ | refine Ag_sV _ _ _ _ rfl ?_
  have hM : Ag (fun c k => !((c == 8 && (k == 31 || k == 4 || k == 14 || k == 17 || k == 3)) || c == 20 || c == 22 || c == 23 || c == 24 || c == 25 || c == 28 || c == 29 || c == 30)) M M' := by
    rw [← hM']; unfold bM bX
    repeat first | exact Ag.rf _ _ | refine Ag_sV _ _ _ _ rfl ?_
  have cI : ∀ i k, i ≠ nb → gV C' 0 i k = gV C 0 i k := by
    intro i k h; rw [← hC']; simp [bC, nB, gV_sV, gV_sR, h]
  have cI2 : ∀ m k, m ≠ 2 * nb → m ≠ 2 * nb + 1 → gV C' 2 m k = gV C 2 m k := by
    intro m k h h'; rw [← hC']; simp [bC, nB, gV_sV, gV_sR, h, h']
  have d2 : gV C' 0 nb 2 = a3 := by rw [← hC']; simp [bC, nB, gV_sV, gV_sR]
  have d3 : gV C' 0 nb 3 = nI t := by rw [← hC']; simp [bC, nB, gV_sV, gV_sR]
  have d4 : gV C' 0 nb 4 = a5 := by rw [← hC']; simp [bC, nB, gV_sV, gV_sR]
  have d5 : gV C' 0 nb 5 = -1 := by rw [← hC']; simp [bC, nB, gV_sV, gV_sR]
  have d6 : gV C' 0 nb 6 = -1 := by rw [← hC']; simp [bC, nB, gV_sV, gV_sR]
  have d7 : gV C' 0 nb 7 = 0 := by rw [← hC']; simp [bC, nB, gV_sV, gV_sR]
  have d8 : gV C' 0 nb 8 = 0 := by rw [← hC']; simp [bC, nB, gV_sV, gV_sR]
  have d9 : gV C' 0 nb 9 = 0 := by rw [← hC']; simp [bC, nB, gV_sV, gV_sR]
  have g0 : gV C' 2 (2 * nb) 0 = nI f1 := by rw [← hC']; simp [bC, nB, gV_sV, gV_sR]
  have g1 : gV C' 2 (2 * nb + 1) 0 = nI f2 := by rw [← hC']; simp [bC, nB, gV_sV, gV_sR]
  have gt : ∀ s k, s = 0 ∨ s = 1 → k = 1 ∨ k = 2 ∨ k = 3 → gV C' 2 (2 * nb + s) k = 0 := by
    rintro s k (rfl | rfl) (rfl | rfl | rfl) <;> (rw [← hC']; simp [bC, nB, gV_sV, gV_sR])
  have c76 : gV C' 7 0 6 = nI (nb + 1) := by rw [← hC']; simp [bC, nB, gV_sV, gV_sR]
  have r78 : gR C' 7 8 = some nb := by rw [← hC']; simp [bC, gR_sV, gR_sR]
  have r9 : ∀ i, gR C' 9 i = if i = nb then some nb else gR C 9 i := by intro i; rw [← hC']; simp [bC, nB, gR_sV, gR_sR]; try rfl
  have r10 : ∀ i, gR C' 10 i = gR C 10 i := by intro i; rw [← hC']; simp [bC, nB, gR_sV, gR_sR]; try rfl
  have lc : gL C' 3 0 = gL C 3 0 := by rw [← hC']; rfl
  have lm : gL M' 8 1 = gL M 8 1 := by rw [← hM']; rfl
  have m20 : ∀ m, gV M' 20 0 m = if m = 2 * nb + 1 then nI f2 else if m = 2 * nb then nI f1 else gV M 20 0 m := by intro m; rw [← hM']; simp [bM, bX, gV_sV]
  have m22 : ∀ m, gV M' 22 0 m = if m = nb then a3 else gV M 22 0 m := by intro m; rw [← hM']; simp [bM, bX, gV_sV]
  have m23 : ∀ m, gV M' 23 0 m = if m = nb then nI t else gV M 23 0 m := by intro m; rw [← hM']; simp [bM, bX, gV_sV]
  have m24 : ∀ m, gV M' 24 0 m = if m = nb then a5 else gV M 24 0 m := by intro m; rw [← hM']; simp [bM, bX, gV_sV]
  have m25 : ∀ m, gV M' 25 0 m = if m = nb then -1 else gV M 25 0 m := by intro m; rw [← hM']; simp [bM, bX, gV_sV]
  have m28 : ∀ m, gV M' 28 0 m = if m = nb then -1 else gV M 28 0 m := by intro m; rw [← hM']; simp [bM, bX, gV_sV]
  have m4 : gV M' 8 0 4 = nI nb := by rw [← hM']; simp [bM, bX, gV_sV]
  have m14 : gV M' 8 0 14 = 0 := by rw [← hM']; simp [bM, bX, gV_sV]
  have m17 : gV M' 8 0 17 = 0 := by rw [← hM']; simp [bM, bX, gV_sV]
  have m3 : gV M' 8 0 3 = nI (nb + 1) := by rw [← hM']; simp [bM, bX, gV_sV]
  have m29 : ∀ s, s = 0 ∨ s = 1 → gV M' 29 0 s = 0 := by rintro s (rfl | rfl) <;> (rw [← hM']; simp [bM, bX, gV_sV])
  have m30 : ∀ s, s = 0 ∨ s = 1 → gV M' 30 0 s = 0 := by rintro s (rfl | rfl) <;> (rw [← hM']; simp [bM, bX, gV_sV])
  obtain ⟨z1, z2, z3, z4⟩ := hZ nb (Nat.le_refl _)
  have hct : ∀ j f w k, k < nb → ct M' j f w k = ct M j f w k := by
    intro j f w k hk
    have e24 : gV M' 24 0 k = gV M 24 0 k := by rw [m24, if_neg (by omega)]
    have e25 : gV M' 25 0 k = gV M 25 0 k := by rw [m25, if_neg (by omega)]
    have e20 : gV M' 20 0 (2 * k) = gV M 20 0 (2 * k) := by rw [m20, if_neg (by omega), if_neg (by omega)]
    have e21 : gV M' 20 0 (2 * k + 1) = gV M 20 0 (2 * k + 1) := by rw [m20, if_neg (by omega), if_neg (by omega)]
    have hs : x_X8_sideIn (nI k) (nI j) f M' = x_X8_sideIn (nI k) (nI j) f M := by
      unfold x_X8_sideIn
      rw [nI_clamp (show k < 2 ^ 31 by omega), clamp2 (by omega), clamp21 (by omega), e24, e25, e20, e21, hM 37 0 _ rfl]
      rfl
    unfold ct
    rw [hs, e25, hM 21 0 _ rfl, hM 21 0 _ rfl]
  have hcn : ∀ j f w, ct M' j f w nb = 0 := fun j f w => ct_run hlt (by rw [m25, if_pos rfl])
  refine ⟨?_, fun i hi => ?_, fun i hi => ?_, ⟨fun i hi => ?_, Or.inr ⟨nb, by omega, r78, m4, ?_, ?_, ?_, ?_⟩⟩, ⟨0, by omega, by rw [hC 4 0 6 rfl]; exact hc1, m17, fun k hk => absurd hk (Nat.not_lt_zero k)⟩, fun j hj => ?_, fun j hj => by rw [hM 37 0 j rfl]; exact hG j hj, qK_t hC hM (by simp) hK⟩
  · unfold qA
    rw [hC 7 0 5 rfl, hC 7 0 7 rfl, hC 7 0 9 rfl, hM 8 0 0 rfl, hM 8 0 23 rfl, hM 8 0 2 rfl, c76, m3, lc, lm]
    refine ⟨A1, A2, by omega, rfl, rfl, A6, A7, A8, A9, A10, A11, A12, fun i hi => ?_, fun j hj => by rw [r10]; exact A14 j hj⟩
    rw [r9]
    by_cases ci : i = nb
    · rw [if_pos ci, ci]
    · rw [if_neg ci]; exact A13 i (by omega)
  · unfold qB
    rw [hM 21 0 _ rfl, hM 21 0 _ rfl, hM 26 0 _ rfl, hM 27 0 _ rfl, m20, m20, m22, m23, m24, m25, m28]
    by_cases ci : i = nb
    · subst ci
      rw [if_neg (by omega), if_pos rfl, if_pos rfl, if_pos rfl, if_pos rfl, if_pos rfl, if_pos rfl, if_pos rfl, d2, d3, d4, d5, d6, d7, d9, g0, g1, show gV C' 2 (2 * i) 1 = 0 from gt 0 1 (Or.inl rfl) (Or.inl rfl), gt 1 1 (Or.inr rfl) (Or.inl rfl), z1, z2, z3, z4]
      refine ⟨rfl, rfl, ⟨f1, hf1, rfl⟩, ⟨f2, hf2, rfl⟩, fun e => hne ((nI_eq (by omega) (by omega)).mp e), rfl, rfl, ⟨0, by omega, rfl⟩, ⟨0, by omega, rfl⟩, rfl, rfl, ⟨t, ht, rfl⟩, rfl, ?_, rfl, Or.inl rfl, rfl, rfl, rfl⟩
      rcases ha5 with h | ⟨j, hj, h, -⟩
      · exact Or.inl h
      · exact Or.inr ⟨j, hj, h⟩
    · rw [if_neg (by omega), if_neg (by omega), if_neg (by omega), if_neg (by omega), if_neg ci, if_neg ci, if_neg ci, if_neg ci, if_neg ci, cI i _ ci, cI i _ ci, cI i _ ci, cI i _ ci, cI i _ ci, cI i _ ci, cI i _ ci, cI2 _ _ (by omega) (by omega), cI2 _ _ (by omega) (by omega), cI2 _ _ (by omega) (by omega), cI2 _ _ (by omega) (by omega)]
      exact hB i (by omega)
  · unfold qZ
    rw [hM 21 0 _ rfl, hM 21 0 _ rfl, hM 26 0 _ rfl, hM 27 0 _ rfl]
    exact hZ i (by omega)
  · rw [m25, r78]
    by_cases ci : i = nb
    · rw [if_pos ci, ci]; exact ⟨fun _ => rfl, fun _ => rfl⟩
    · rw [if_neg ci]
      refine ⟨fun h => ?_, fun h => absurd (Option.some.inj h).symm ci⟩
      have := (p1 i (by omega)).mp h
      rw [hR] at this; exact absurd this (by simp)
  · unfold qC
    rw [m29 0 (Or.inl rfl), m30 0 (Or.inl rfl), gt 0 2 (Or.inl rfl) (Or.inr (Or.inl rfl)), gt 0 3 (Or.inl rfl) (Or.inr (Or.inr rfl))]
    exact ⟨⟨0, by omega, rfl⟩, Iff.rfl, rfl, Or.inl rfl⟩
  · unfold qC
    rw [m29 1 (Or.inr rfl), m30 1 (Or.inr rfl), gt 1 2 (Or.inr rfl) (Or.inr (Or.inl rfl)), gt 1 3 (Or.inr rfl) (Or.inr (Or.inr rfl))]
    exact ⟨⟨0, by omega, rfl⟩, Iff.rfl, rfl, Or.inl rfl⟩
  · unfold qT
    rw [d8, m14, hM 27 0 _ rfl, hM 26 0 _ rfl, hM 21 0 _ rfl, hM 21 0 _ rfl, m28, m23, if_pos rfl, if_pos rfl, z1, z2, z3, z4]
    have hpos : (0 : Int32) < nI t := nI_lt (a := 0) (by omega) (by omega)
    exact ⟨rfl, ⟨0, by omega, rfl⟩, ⟨0, by omega, rfl⟩, ⟨0, rfl, Or.inl ⟨rfl, by omega⟩⟩, hpos, hpos⟩
  · intro j hj he
    rw [m24, if_pos rfl] at he
    rw [m20, m20, if_neg (by omega), if_pos rfl, if_pos rfl, hM 37 0 _ rfl]
    rcases ha5 with h | ⟨j', hj', h, h1, h2⟩
    · rw [h] at he; exact absurd he.symm (nI_m1 (by omega))
    · rw [h] at he
      have := (nI_eq (by omega) (by omega)).mp he
      subst this
      exact ⟨h1, h2⟩
  · obtain ⟨o1, o2, o3, o4, o5, o6⟩ := hO j hj
    unfold qO
    rw [hC 5 j 0 rfl, hC 5 j 1 rfl, hC 5 j 4 rfl, hM 36 0 j rfl, hM 37 0 j rfl, hM 8 0 0 rfl]
    refine ⟨o1, o2, o3, o4, o5, fun f w hf hw => ?_⟩
    rw [TS_snoc, Nat.zero_add, hcn, Int32.add_zero, TS_same (M := M) nb 0 (fun k hk => hct j (nI f) (nI w) k (by omega)), hC 18 j _ rfl]
    exact o6 f w hf hw
theorem isF_eq {C M : St} {nf : Nat} (hnf : nf ≤ 12) (h : gV C 7 0 5 = nI nf) (h8 : gV M 8 0 0 = nI nf) (y : Int32) : (x_X7_isFencer y C = 0 ∧ x_X8_isFencer y M = 0) ∨ (∃ f : Nat, f < nf ∧ y = nI f ∧ x_X7_isFencer y C = 1 ∧ x_X8_isFencer y M = 1) := by
  rcases pk_ix y (show nf < 2 ^ 31 by omega) with c | c | ⟨f, hf, rfl⟩
  · left
    refine ⟨?_, isFencer_out (by omega) h8 (Or.inl c)⟩
    unfold x_X7_isFencer x_X7_isFencer_16; rw [if_pos c]
  · left
    refine ⟨?_, isFencer_out (by omega) h8 (Or.inr c)⟩
    unfold x_X7_isFencer x_X7_isFencer_16; rw [h, if_pos c]; split <;> rfl
  · right
    refine ⟨f, hf, rfl, ?_, isFencer_in (by omega) h8 hf⟩
    unfold x_X7_isFencer; rw [h, if_neg (nI_pos (by omega)), if_neg (nI_ge hf (by omega))]
theorem in_145 {y : Int32} {C : St} (h : ¬ x_X8_isIn y 1 45 C = 0) : ∃ t : Nat, 1 ≤ t ∧ t ≤ 45 ∧ y = nI t := by
  obtain ⟨y1, y2⟩ := in_of h
  have hlt : ¬ y < 0 := by
    intro h; apply y1
    rw [Int32.lt_iff_toInt_lt] at h ⊢
    have e0 : ((0 : Int32)).toInt = 0 := by decide
    have e1 : ((1 : Int32)).toInt = 1 := by decide
    omega
  obtain ⟨j, hj, rfl⟩ := nI_of hlt
  have e : (45 : Int32) = nI 45 := by decide
  have e1 : (1 : Int32) = nI 1 := by decide
  rw [e] at y2; rw [e1] at y1
  exact ⟨j, by have := mt (nI_ltI (a := j) (b := 1) (by omega) (by omega)).mpr y1; omega, by have := mt (nI_ltI (a := 45) (b := j) (by omega) (by omega)).mpr y2; omega, rfl⟩
/-- the tests behind the fencers and the pool -/
theorem begin_45 {n nb np f1 f2 : Nat} {C M : St} {a3 a4 a5 : Int32} {q : Option Nat} (hI : I2 n nb np C M) (hf1 : f1 < 12) (hf2 : f2 < 12)
    (hq : (q = none ∧ a5 = -1) ∨ ∃ j : Nat, j < np ∧ q = some j ∧ a5 = nI j) :
    ok_X7_begin_45 (nI f1) (nI f2) a3 a4 a5 q C ∧ eIn 3 2 1 (x_X7_begin_45 (nI f1) (nI f2) a3 a4 a5 q C).1 ∧ ok_X8_begin_36 (nI f1) (nI f2) a3 a4 a5 M ∧ gV (x_X8_begin_36 (nI f1) (nI f2) a3 a4 a5 M).2 8 0 31 = wK 3 2 1 (x_X7_begin_45 (nI f1) (nI f2) a3 a4 a5 q C).1 ∧ ((x_X7_begin_45 (nI f1) (nI f2) a3 a4 a5 q C).1 = 0 → (x_X7_begin_45 (nI f1) (nI f2) a3 a4 a5 q C).2.1 = (x_X8_begin_36 (nI f1) (nI f2) a3 a4 a5 M).1) ∧ I2 (n + 1) (if (x_X7_begin_45 (nI f1) (nI f2) a3 a4 a5 q C).1 = 0 then nb + 1 else nb) np (x_X7_begin_45 (nI f1) (nI f2) a3 a4 a5 q C).2.2 (x_X8_begin_36 (nI f1) (nI f2) a3 a4 a5 M).2 := by
  obtain ⟨hA, hB, hZ, ⟨hP1, hP2⟩, hF, hO, hG, hK⟩ := id hI
  obtain ⟨A1, ⟨nf, hnf, A2⟩, A3, A4, A5, A6, A7, A8, A9, A10, A11, A12, A13, A14⟩ := id hA
  have z0 : (0 : Int32) ≤ 0 := by decide
  have z1 : ¬ (1 : Int32) = 0 := by decide
  have z2 : ¬ (2 : Int32) ≤ 0 := by decide
  have z3 : ¬ (3 : Int32) ≤ 0 := by decide
  have n2 : ¬ (2 : Nat) = 0 := by decide
  have n1 : ¬ (1 : Nat) = 0 := by decide
  -- the state with the thrown set to none, in which the model tests
  generalize hM0 : sV M 8 0 31 0 = M0
  have hM0v : ∀ c x k, ¬ (c = 8 ∧ k = 31) → gV M0 c x k = gV M c x k := by
    intro c x k h; rw [← hM0, gV_sV, if_neg (by rintro ⟨e1, e2, -⟩; exact h ⟨e1, e2⟩)]
  have hI0 : I2 n nb np C M0 := by rw [← hM0]; exact I2_th 0 hI
  have hx31 : ∀ v, sV M0 8 0 31 v = sV M 8 0 31 v := by intro v; rw [← hM0]; exact sV_sV _ _ _ _ _ _
  -- the failing ends
  have bad2 : ∀ (okc okm : Prop), okc → okm → okc ∧ eIn 3 2 1 (2, (0 : Int32), C).1 ∧ okm ∧ gV (x_X8_begin_193 (nI f1) (nI f2) a3 a4 a5 2 M0).2 8 0 31 = wK 3 2 1 (2, (0 : Int32), C).1 ∧ ((2, (0 : Int32), C).1 = 0 → (2, (0 : Int32), C).2.1 = (x_X8_begin_193 (nI f1) (nI f2) a3 a4 a5 2 M0).1) ∧ I2 (n + 1) (if (2, (0 : Int32), C).1 = 0 then nb + 1 else nb) np (2, (0 : Int32), C).2.2 (x_X8_begin_193 (nI f1) (nI f2) a3 a4 a5 2 M0).2 := by
    intro okc okm h h'
    unfold x_X8_begin_193
    rw [if_neg z2]
    obtain ⟨k1, k2, k3, k4, k5⟩ := failS (v8 := (0 : Int32)) hI (e := 2) (by decide) (Or.inr (Or.inr (Or.inl ⟨rfl, by decide⟩))) (s0 := 2) (a := 3) (b := 2) (d := 1) (okm := okm) rfl h' (hx31 2)
    exact ⟨h, k1, h', k3, fun h => absurd h n2, by rw [if_neg n2]; exact k5⟩
  have bad1 : ∀ (okc okm : Prop), okc → okm → okc ∧ eIn 3 2 1 (1, (0 : Int32), C).1 ∧ okm ∧ gV (x_X8_begin_193 (nI f1) (nI f2) a3 a4 a5 3 M0).2 8 0 31 = wK 3 2 1 (1, (0 : Int32), C).1 ∧ ((1, (0 : Int32), C).1 = 0 → (1, (0 : Int32), C).2.1 = (x_X8_begin_193 (nI f1) (nI f2) a3 a4 a5 3 M0).1) ∧ I2 (n + 1) (if (1, (0 : Int32), C).1 = 0 then nb + 1 else nb) np (1, (0 : Int32), C).2.2 (x_X8_begin_193 (nI f1) (nI f2) a3 a4 a5 3 M0).2 := by
    intro okc okm h h'
    unfold x_X8_begin_193
    rw [if_neg z3]
    obtain ⟨k1, k2, k3, k4, k5⟩ := failS (v8 := (0 : Int32)) hI (e := 1) (by decide) (Or.inr (Or.inl ⟨rfl, by decide⟩)) (s0 := 3) (a := 3) (b := 2) (d := 1) (okm := okm) rfl h' (hx31 3)
    exact ⟨h, k1, h', k3, fun h => absurd h n1, by rw [if_neg n1]; exact k5⟩
  have o2 : ok_X8_begin_193 (nI f1) (nI f2) a3 a4 a5 2 M0 := by unfold ok_X8_begin_193; rw [if_neg z2]; trivial
  have o3 : ok_X8_begin_193 (nI f1) (nI f2) a3 a4 a5 3 M0 := by unfold ok_X8_begin_193; rw [if_neg z3]; trivial
  -- the new bout
  have good : ∀ (okc okm : Prop), nI f1 ≠ nI f2 → ¬ x_X8_isIn a4 1 45 M = 0 → gR C 7 8 = none → nb < 80 → (a5 = -1 ∨ ∃ j : Nat, j < np ∧ a5 = nI j ∧ x_X8_has (gV M 37 0 j) (nI f1) M = 0 ∧ x_X8_has (gV M 37 0 j) (nI f2) M = 0) → okc → (ok_X8_begin_193 (nI f1) (nI f2) a3 a4 a5 0 M0 → okm) →
      okc ∧ eIn 3 2 1 (xn_X7_begin (nI f1) (nI f2) a3 a4 a5 C).1 ∧ okm ∧ gV (x_X8_begin_193 (nI f1) (nI f2) a3 a4 a5 0 M0).2 8 0 31 = wK 3 2 1 (xn_X7_begin (nI f1) (nI f2) a3 a4 a5 C).1 ∧ ((xn_X7_begin (nI f1) (nI f2) a3 a4 a5 C).1 = 0 → (xn_X7_begin (nI f1) (nI f2) a3 a4 a5 C).2.1 = (x_X8_begin_193 (nI f1) (nI f2) a3 a4 a5 0 M0).1) ∧ I2 (n + 1) (if (xn_X7_begin (nI f1) (nI f2) a3 a4 a5 C).1 = 0 then nb + 1 else nb) np (xn_X7_begin (nI f1) (nI f2) a3 a4 a5 C).2.2 (x_X8_begin_193 (nI f1) (nI f2) a3 a4 a5 0 M0).2 := by
    intro okc okm hne ht hR hlt h5 hk hk'
    obtain ⟨t, ht1, ht2, rfl⟩ := in_145 ht
    have hne' : f1 ≠ f2 := fun e => hne (by rw [e])
    have e80 : (80 : Int32) = nI 80 := by decide
    have xe : xn_X7_begin (nI f1) (nI f2) a3 (nI t) a5 C = (0, nI nb, bC C nb (nI f1) (nI f2) a3 (nI t) a5) := by
      unfold xn_X7_begin x_X7_putOnPiste x_X7_putOnPiste_36
      have e6 : gV (nB C nb (nI f1) (nI f2) a3 (nI t) a5) 7 0 6 = nI nb := by unfold nB; simp [gV_sV]; exact A4
      rw [A4, nI_clamp (by omega), e6, e80, if_neg (nI_ge hlt (by omega)), nI_clamp (by omega)]
      have e6' : gV (sR (nB C nb (nI f1) (nI f2) a3 (nI t) a5) 9 nb (some nb)) 7 0 6 = nI nb := by rw [gV_sR]; exact e6
      rw [show bC C nb (nI f1) (nI f2) a3 (nI t) a5 = sR (sV (sR (nB C nb (nI f1) (nI f2) a3 (nI t) a5) 9 nb (some nb)) 7 0 6 (nI (nb + 1))) 7 8 (some nb) from rfl, nI_1]
    have x8 : x_X8_begin_193 (nI f1) (nI f2) a3 (nI t) a5 0 M0 = (nI nb, bM M nb (nI f1) (nI f2) a3 (nI t) a5) := by
      unfold x_X8_begin_193
      rw [if_pos z0, (begin_loop _).1, hx31 0, show gV M0 8 0 3 = nI nb by rw [hM0v 8 0 3 (by decide)]; exact A5, clamp2 (by omega), clamp21 (by omega), nI_clamp (by omega)]
      have q4 : gV (sV (sV (sV (sV (sV (sV (sV (sV (sV (sV M 8 0 31 0) 20 0 (2 * nb) (nI f1)) 20 0 (2 * nb + 1) (nI f2)) 22 0 nb a3) 23 0 nb (nI t)) 24 0 nb a5) 25 0 nb (-1)) 28 0 nb (-1)) 8 0 4 (nI nb)) 8 0 14 0) 8 0 4 = nI nb := by simp [gV_sV]
      have q3 : gV (sV (sV (sV (sV (sV (sV (sV (sV (sV (sV M 8 0 31 0) 20 0 (2 * nb) (nI f1)) 20 0 (2 * nb + 1) (nI f2)) 22 0 nb a3) 23 0 nb (nI t)) 24 0 nb a5) 25 0 nb (-1)) 28 0 nb (-1)) 8 0 4 (nI nb)) 8 0 14 0) 8 0 3 = nI nb := by simp [gV_sV]; exact A5
      rw [q4, q3, nI_1]; rfl
    have o8 : ok_X8_begin_193 (nI f1) (nI f2) a3 (nI t) a5 0 M0 := by
      have v0 : vp_in (2 * nI nb) 160 := by rw [show (2 : Int32) = nI 2 by decide, pk_mul]; exact vp_in_nI (by omega) (by omega)
      have v1 : vp_in (2 * nI nb + 1) 160 := by rw [show (2 : Int32) = nI 2 by decide, pk_mul, nI_1]; exact vp_in_nI (by omega) (by omega)
      have v2 : vp_in (nI nb) 80 := vp_in_nI (by omega) (by omega)
      unfold ok_X8_begin_193
      rw [if_pos z0, show gV M0 8 0 3 = nI nb by rw [hM0v 8 0 3 (by decide)]; exact A5]
      exact ⟨v0, v1, v2, v2, v2, v2, v2, (begin_loop _).2⟩
    rw [xe, x8]
    refine ⟨hk, Or.inl rfl, hk' o8, by simp [bM, bX, gV_sV]; rfl, fun _ => rfl, ?_⟩
    rw [if_pos rfl]
    exact begin_new hI hlt hR hf1 hf2 hne' ht2 ht1 h5
  -- the piste and the count
  have e80 : (80 : Int32) = nI 80 := by decide
  have m4 : gV M0 8 0 4 = gV M 8 0 4 := hM0v 8 0 4 (by decide)
  have m3 : gV M0 8 0 3 = nI nb := by rw [hM0v 8 0 3 (by decide)]; exact A5
  have tail : ∀ (okm : Prop), nI f1 ≠ nI f2 → ¬ x_X8_isIn a4 1 45 M = 0 → (a5 = -1 ∨ ∃ j : Nat, j < np ∧ a5 = nI j ∧ x_X8_has (gV M 37 0 j) (nI f1) M = 0 ∧ x_X8_has (gV M 37 0 j) (nI f2) M = 0) →
      ok_X7_begin_146 (nI f1) (nI f2) a3 a4 a5 C ∧ eIn 3 2 1 (x_X7_begin_146 (nI f1) (nI f2) a3 a4 a5 C).1 ∧
      (if gV M0 8 0 4 = -1 then (if (1 : Int32) = 0 then ok_X8_begin_188 (nI f1) (nI f2) a3 a4 a5 M0 else if gV M0 8 0 3 = 80 then ok_X8_begin_188 (nI f1) (nI f2) a3 a4 a5 M0 else ok_X8_begin_193 (nI f1) (nI f2) a3 a4 a5 0 M0) else ok_X8_begin_188 (nI f1) (nI f2) a3 a4 a5 M0) ∧
      gV (if gV M0 8 0 4 = -1 then (if (1 : Int32) = 0 then x_X8_begin_188 (nI f1) (nI f2) a3 a4 a5 M0 else if gV M0 8 0 3 = 80 then x_X8_begin_188 (nI f1) (nI f2) a3 a4 a5 M0 else x_X8_begin_193 (nI f1) (nI f2) a3 a4 a5 0 M0) else x_X8_begin_188 (nI f1) (nI f2) a3 a4 a5 M0).2 8 0 31 = wK 3 2 1 (x_X7_begin_146 (nI f1) (nI f2) a3 a4 a5 C).1 ∧
      ((x_X7_begin_146 (nI f1) (nI f2) a3 a4 a5 C).1 = 0 → (x_X7_begin_146 (nI f1) (nI f2) a3 a4 a5 C).2.1 = (if gV M0 8 0 4 = -1 then (if (1 : Int32) = 0 then x_X8_begin_188 (nI f1) (nI f2) a3 a4 a5 M0 else if gV M0 8 0 3 = 80 then x_X8_begin_188 (nI f1) (nI f2) a3 a4 a5 M0 else x_X8_begin_193 (nI f1) (nI f2) a3 a4 a5 0 M0) else x_X8_begin_188 (nI f1) (nI f2) a3 a4 a5 M0).1) ∧
      I2 (n + 1) (if (x_X7_begin_146 (nI f1) (nI f2) a3 a4 a5 C).1 = 0 then nb + 1 else nb) np (x_X7_begin_146 (nI f1) (nI f2) a3 a4 a5 C).2.2 (if gV M0 8 0 4 = -1 then (if (1 : Int32) = 0 then x_X8_begin_188 (nI f1) (nI f2) a3 a4 a5 M0 else if gV M0 8 0 3 = 80 then x_X8_begin_188 (nI f1) (nI f2) a3 a4 a5 M0 else x_X8_begin_193 (nI f1) (nI f2) a3 a4 a5 0 M0) else x_X8_begin_188 (nI f1) (nI f2) a3 a4 a5 M0).2 := by
    intro _ hne ht h5
    unfold ok_X7_begin_146 x_X7_begin_146 x_X7_begin_162 ok_X7_begin_162 x_X8_begin_188 ok_X8_begin_188
    rw [m4, m3, A4, e80]
    rcases hP2 with ⟨g1, g2, g3⟩ | ⟨b, hb, g1, g2, -⟩
    · rw [g1, g2]
      simp only [oc, ↓reduceIte, z1]
      by_cases c80 : nb = 80
      · have q1 : ¬ nI nb < nI 80 := nI_nlt (by omega) (by omega)
        have q2 : nI nb = nI 80 := by rw [c80]
        simp only [q1, q2, ↓reduceIte]
        have q1' : ¬ nI 80 < nI 80 := nI_nlt (by omega) (by omega)
        simp only [q1', ↓reduceIte]
        exact bad1 _ _ trivial o3
      · have q1 : nI nb < nI 80 := nI_lt (by omega) (by omega)
        have q2 : ¬ nI nb = nI 80 := fun h => c80 ((nI_eq (by omega) (by omega)).mp h)
        simp only [q1, q2, ↓reduceIte]
        refine good _ _ hne ht g1 (by omega) h5 ?_ id
        unfold okn_X7_begin ok_X7_putOnPiste
        have e6 : gV (nB C nb (nI f1) (nI f2) a3 a4 a5) 7 0 6 = nI nb := by unfold nB; simp [gV_sV]; exact A4
        rw [A4, nI_clamp (by omega), e6, e80, if_neg (nI_ge (by omega) (by omega))]
        exact ⟨nI_pos' (by omega), vp_in_nI (by omega) (by omega), trivial⟩
    · have gb : ¬ nI b = -1 := nI_m1 (by omega)
      rw [g1, g2]
      simp only [oc, gb, ↓reduceIte]
      exact bad1 _ _ trivial o3
  have e36 : ∀ k, gV M 36 0 k = gV M0 36 0 k := fun k => (hM0v 36 0 k (fun e => absurd e.1 (by decide))).symm
  have e37 : ∀ k, gV M0 37 0 k = gV M 37 0 k := fun k => hM0v 37 0 k (fun e => absurd e.1 (by decide))
  have hhas : ∀ x y, x_X8_has x y M0 = x_X8_has x y M := fun _ _ => rfl
  have hin : ∀ x y z, x_X8_isIn x y z M0 = x_X8_isIn x y z M := fun _ _ _ => rfl
  have heq : (nI f1 = nI f2) ↔ f1 = f2 := nI_eq (by omega) (by omega)
  unfold x_X8_begin_36 ok_X8_begin_36 x_X8_begin_37 ok_X8_begin_37
  rw [if_pos z0, if_pos z0, hM0]
  unfold x_X7_begin_45 ok_X7_begin_45 x_X7_begin_70 ok_X7_begin_70 x_X7_begin_103 ok_X7_begin_103 x_X7_begin_113 ok_X7_begin_113 x_X7_begin_136 ok_X7_begin_136
  rcases hq with ⟨rfl, rfl⟩ | ⟨j, hj, rfl, rfl⟩
  · unfold x_X8_begin_83 ok_X8_begin_83 x_X8_begin_88 ok_X8_begin_88 x_X8_begin_124 ok_X8_begin_124 x_X8_begin_129 ok_X8_begin_129 x_X8_begin_162 ok_X8_begin_162
    simp only [↓reduceIte, oc]
    have hw3 : x_X7_isWithin a3 0 2 C = x_X8_isIn a3 0 2 M := rfl
    have hw4 : x_X7_isWithin a4 1 45 C = x_X8_isIn a4 1 45 M := rfl
    simp only [hin, hw3, hw4]
    by_cases c1 : nI f1 = nI f2
    · have ce := heq.mp c1; subst ce; simp only [↓reduceIte]; exact bad2 _ _ trivial o2
    by_cases c2 : x_X8_isIn a3 0 2 M = 0
    · simp only [c1, c2, ↓reduceIte]; exact bad2 _ _ trivial o2
    by_cases c3 : x_X8_isIn a4 1 45 M = 0
    · simp only [c1, c2, c3, ↓reduceIte]; exact bad2 _ _ trivial o2
    simp only [c1, c2, c3, z1, ↓reduceIte]
    have := tail True c1 c3 (Or.inl rfl)
    simp only [z1, ↓reduceIte] at this
    exact this
  · obtain ⟨o1, o2', ⟨a, nf2, b1, b2, b3, b4⟩, o4, ⟨g, hg, o5⟩, o6⟩ := hO j hj
    have ha := pow12 b1 b3
    have gb : ¬ nI j = -1 := nI_m1 (by omega)
    have hv : vp_in (nI j) 6 := vp_in_nI (by omega) (by omega)
    have h1 : x_X5_has j (nI f1) C = x_X8_has (nI a) (nI f1) M := by rw [has_k hf1 ha (o2'.trans b4), bit_m hf1 ha]
    have h2 : x_X5_has j (nI f2) C = x_X8_has (nI a) (nI f2) M := by rw [has_k hf2 ha (o2'.trans b4), bit_m hf2 ha]
    have w1 := wd_eq (hO j hj) hf1
    have w2 := wd_eq (hO j hj) hf2
    unfold x_X8_begin_83 ok_X8_begin_83 x_X8_begin_87 ok_X8_begin_87 x_X8_begin_88 ok_X8_begin_88 x_X8_begin_124 ok_X8_begin_124 x_X8_begin_128 ok_X8_begin_128 x_X8_begin_129 ok_X8_begin_129 x_X8_begin_162 ok_X8_begin_162
    simp only [gb, ↓reduceIte, oc, hv, true_and]
    have hw3 : x_X7_isWithin a3 0 2 C = x_X8_isIn a3 0 2 M := rfl
    have hw4 : x_X7_isWithin a4 1 45 C = x_X8_isIn a4 1 45 M := rfl
    have hcl : (nI j).toNatClampNeg = j := nI_clamp (show j < 2 ^ 31 by omega)
    simp only [hin, hhas, hw3, hw4, hcl, b4, h1, h2, w1, w2, e37]
    by_cases c1 : nI f1 = nI f2
    · have ce := heq.mp c1; subst ce; simp only [↓reduceIte, ite_self]; exact bad2 _ _ trivial o2
    by_cases c2 : x_X8_isIn a3 0 2 M = 0
    · simp only [c1, c2, ↓reduceIte, ite_self]; exact bad2 _ _ trivial o2
    by_cases c3 : x_X8_isIn a4 1 45 M = 0
    · simp only [c1, c2, c3, ↓reduceIte, ite_self]; exact bad2 _ _ trivial o2
    by_cases c4 : x_X8_has (nI a) (nI f1) M = 0
    · simp only [c1, c2, c3, c4, ↓reduceIte, ite_self]; exact bad2 _ _ trivial o2
    by_cases c5 : x_X8_has (nI a) (nI f2) M = 0
    · simp only [c1, c2, c3, c4, c5, ↓reduceIte, ite_self]; exact bad2 _ _ trivial o2
    by_cases c6 : x_X8_has (gV M 37 0 j) (nI f1) M = 0
    · by_cases c7 : x_X8_has (gV M 37 0 j) (nI f2) M = 0
      · simp only [c1, c2, c3, c4, c5, c6, c7, z1, ↓reduceIte]
        have := tail True c1 c3 (Or.inr ⟨j, hj, rfl, c6, c7⟩)
        simp only [z1, ↓reduceIte] at this
        exact this
      · simp only [c1, c2, c3, c4, c5, c6, c7, z1, ↓reduceIte]
        unfold x_X8_begin_188 ok_X8_begin_188
        simp only [ite_self]
        exact bad1 _ _ trivial o3
    · simp only [c1, c2, c3, c4, c5, c6, z1, ↓reduceIte]
      unfold x_X8_begin_188 ok_X8_begin_188
      simp only [ite_self]
      exact bad1 _ _ trivial o3
theorem cr_begin : CR_begin := by
  intro n nb np C M a1 a2 a3 a4 a5 hn hI
  obtain ⟨hA, hB, hZ, hP, hF, hO, hG, hK⟩ := id hI
  obtain ⟨A1, ⟨nf, hnf, A2⟩, A3, A4, A5, A6, A7, A8, A9, A10, A11, A12, A13, A14⟩ := id hA
  have enb : nb = (gV C 7 0 6).toNatClampNeg := by rw [A4, nI_clamp (by omega)]
  have z1 : ¬ (1 : Int32) = 0 := by decide
  have z1' : ¬ (1 : Int32) ≤ 0 := by decide
  have n3 : ¬ (3 : Nat) = 0 := by decide
  have bad3 : ∀ okc : Prop, okc → okc ∧ eIn 3 2 1 (3, (0 : Int32), C).1 ∧ ok_X8_begin_32 a1 a2 a3 a4 a5 M ∧ gV (x_X8_begin_32 a1 a2 a3 a4 a5 M).2 8 0 31 = wK 3 2 1 (3, (0 : Int32), C).1 ∧ ((3, (0 : Int32), C).1 = 0 → (3, (0 : Int32), C).2.1 = (x_X8_begin_32 a1 a2 a3 a4 a5 M).1) ∧ nb = (gV C 7 0 6).toNatClampNeg ∧ I2 (n + 1) (if (3, (0 : Int32), C).1 = 0 then nb + 1 else nb) np (3, (0 : Int32), C).2.2 (x_X8_begin_32 a1 a2 a3 a4 a5 M).2 := by
    intro okc h
    unfold x_X8_begin_32 ok_X8_begin_32 x_X8_begin_37 ok_X8_begin_37
    rw [if_neg z1', if_neg z1']
    obtain ⟨k1, k2, k3, k4, k5⟩ := failS (v8 := (0 : Int32)) hI (e := 3) (by decide) (Or.inr (Or.inr (Or.inr ⟨rfl, by decide⟩))) (s0 := 1) (a := 3) (b := 2) (d := 1) (okm := True) rfl trivial rfl
    exact ⟨h, k1, trivial, k3, fun h => absurd h n3, enb, by rw [if_neg n3]; exact k5⟩
  unfold x_X7_begin ok_X7_begin x_X8_begin ok_X8_begin x_X8_thrown x_X7_begin_35 ok_X7_begin_35
  have hop : ok_X7_poolOf a5 C ∧ ((x_X7_poolOf a5 C = none ∧ x_X8_isPool a5 M = 0) ∨ ∃ j : Nat, j < np ∧ a5 = nI j ∧ x_X7_poolOf a5 C = some j ∧ x_X8_isPool a5 M = 1) := by
    rcases ix3 a5 np (by omega) with h | ⟨j, hj, rfl⟩
    · obtain ⟨e1, e2⟩ := poolOf_out (C := C) A7 h
      exact ⟨e2, Or.inl ⟨e1, isPool_out (by omega) A8 h⟩⟩
    · obtain ⟨e1, e2⟩ := poolOf_in (C := C) A6 A7 A14 hj
      exact ⟨e2, Or.inr ⟨j, hj, rfl, e1, isPool_in (by omega) A8 hj⟩⟩
  obtain ⟨op, hop⟩ := hop
  rcases isF_eq hnf (A1.trans A2) A2 a1 with ⟨h1, h1'⟩ | ⟨f1, hf1, rfl, h1, h1'⟩
  · simp only [h1, h1', ↓reduceIte, and_true]
    exact bad3 _ op
  rcases isF_eq hnf (A1.trans A2) A2 a2 with ⟨h2, h2'⟩ | ⟨f2, hf2, rfl, h2, h2'⟩
  · simp only [h1, h1', h2, h2', z1, ↓reduceIte, and_true]
    exact bad3 _ op
  simp only [h1, h1', h2, h2', z1, ↓reduceIte]
  rcases hop with ⟨e1, e2⟩ | ⟨j, hj, rfl, e1, e2⟩
  · rw [e1, e2]
    simp only [oc, ↓reduceIte]
    by_cases c : a5 = -1
    · simp only [c, ↓reduceIte]
      obtain ⟨k1, k2, k3, k4, k5, k6⟩ := begin_45 (a3 := a3) (a4 := a4) (q := none) hI (show f1 < 12 by omega) (show f2 < 12 by omega) (Or.inl ⟨rfl, rfl⟩)
      exact ⟨⟨by rw [← c]; exact op, k1⟩, k2, k3, k4, k5, enb, k6⟩
    · simp only [c, ↓reduceIte, and_true]
      exact bad3 _ op
  · have gb : ¬ nI j = -1 := nI_m1 (by omega)
    rw [e1, e2]
    simp only [oc, gb, z1, ↓reduceIte]
    obtain ⟨k1, k2, k3, k4, k5, k6⟩ := begin_45 (a3 := a3) (a4 := a4) (q := some j) hI (show f1 < 12 by omega) (show f2 < 12 by omega) (Or.inr ⟨j, hj, rfl, rfl⟩)
    exact ⟨⟨op, k1⟩, k2, k3, k4, k5, enb, k6⟩
end
