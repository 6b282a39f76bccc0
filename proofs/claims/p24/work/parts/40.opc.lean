noncomputable section
theorem addTo_k {C : St} {j f w : Nat} (v : Int32) (hf : f < 12) (hw : w < 4) : x_X5_addTo j (nI f) (nI w) v C = sV C 18 j (4 * f + w) (gV C 18 j (4 * f + w) + v) ∧ ok_X5_addTo j (nI f) (nI w) v C := by
  have e48 : (48 : Int32) = nI 48 := by decide
  have e4 : (4 : Int32) = nI 4 := by decide
  have ecell : (nI f * 4 + nI w : Int32) = nI (4 * f + w) := by rw [e4, pk_mul, nI_add, Nat.mul_comm]
  have hv : vp_in (nI (4 * f + w)) 48 := vp_in_nI (by omega) (by omega)
  unfold x_X5_addTo ok_X5_addTo
  rw [ecell, if_neg (nI_pos (by omega)), if_neg (nI_pos (by omega)), e48, if_neg (nI_ge (by omega) (by omega)), if_neg (nI_ge (by omega) (by omega)), nI_clamp (by omega)]
  exact ⟨rfl, hv, hv, trivial⟩
/-- the table of pool j after columns below w0 were entered -/
def EP (C C1 : St) (j l r : Nat) (s : Int32) (b w0 : Nat) : Prop :=
  (∀ c n k, ¬ (c = 18 ∧ n = j) → gV C1 c n k = gV C c n k) ∧ C1.2 = C.2 ∧
  ∀ f w, f < 12 → w < 4 → gV C1 18 j (4 * f + w) = gV C 18 j (4 * f + w) + (if w < w0 then (if f = l then s * x_X0_share b 0 (nI w) C else if f = r then s * x_X0_share b 1 (nI w) C else 0) else 0)
theorem share_same {C C1 : St} {j : Nat} (h : ∀ c n k, ¬ (c = 18 ∧ n = j) → gV C1 c n k = gV C c n k) (b : Nat) (s w : Int32) : x_X0_share b s w C1 = x_X0_share b s w C := by
  unfold x_X0_share x_X0_corner
  have h0 : ∀ n k, gV C1 0 n k = gV C 0 n k := fun n k => h 0 n k (by rintro ⟨e, -⟩; exact absurd e (by decide))
  have h2 : ∀ n k, gV C1 2 n k = gV C 2 n k := fun n k => h 2 n k (by rintro ⟨e, -⟩; exact absurd e (by decide))
  simp only [h0, h2]
theorem enter_run {C : St} {j l r b : Nat} {s : Int32} (hl : l < 12) (hr : r < 12) (hlr : l ≠ r) (e1 : gV C 2 (2 * b) 0 = nI l) (e2 : gV C 2 (2 * b + 1) 0 = nI r) : ∀ (k w0 : Nat) (C1 : St), 4 - w0 < k → w0 ≤ 4 → EP C C1 j l r s b w0 →
    EP C (x_X5_enter_2 j k b s (nI w0) C1) j l r s b 4 ∧ ok_X5_enter_2 j k b s (nI w0) C1
  | 0, w0, C1, hk, _, _ => absurd hk (Nat.not_lt_zero _)
  | k + 1, w0, C1, hk, hw, hE => by
    have e4 : (4 : Int32) = nI 4 := by decide
    unfold x_X5_enter_2 ok_X5_enter_2
    rw [e4]
    by_cases c : 4 ≤ w0
    · have : w0 = 4 := by omega
      subst this
      rw [if_pos (nI_le (by omega) (by omega)), if_pos (nI_le (by omega) (by omega))]
      exact ⟨hE, trivial⟩
    have hw4 : w0 < 4 := by omega
    obtain ⟨h1, h2, h3⟩ := hE
    have k2 : ∀ n k, gV C1 2 n k = gV C 2 n k := fun n k => h1 2 n k (by rintro ⟨e, -⟩; exact absurd e (by decide))
    rw [if_neg (nI_ge hw4 (by omega)), if_neg (nI_ge hw4 (by omega))]
    unfold x_X5_enter_27 ok_X5_enter_27 x_X5_enter_47 ok_X5_enter_47
    rw [k2, e1, share_same h1]
    obtain ⟨a1, a2⟩ := addTo_k (C := C1) (j := j) (s * x_X0_share b 0 (nI w0) C) hl hw4
    rw [a1]
    have k2' : gV (sV C1 18 j (4 * l + w0) (gV C1 18 j (4 * l + w0) + s * x_X0_share b 0 (nI w0) C)) 2 (2 * b + 1) 0 = nI r := by
      rw [gV_sV, if_neg (by rintro ⟨e, -⟩; exact absurd e (by decide)), k2, e2]
    have h1' : ∀ c n k, ¬ (c = 18 ∧ n = j) → gV (sV C1 18 j (4 * l + w0) (gV C1 18 j (4 * l + w0) + s * x_X0_share b 0 (nI w0) C)) c n k = gV C c n k := by
      intro c n k h
      rw [gV_sV, if_neg (by rintro ⟨e, -, e'⟩; exact h ⟨e, e'⟩)]
      exact h1 c n k h
    rw [k2', share_same h1']
    obtain ⟨d1, d2⟩ := addTo_k (C := sV C1 18 j (4 * l + w0) (gV C1 18 j (4 * l + w0) + s * x_X0_share b 0 (nI w0) C)) (j := j) (s * x_X0_share b 1 (nI w0) C) hr hw4
    rw [d1, nI_1]
    have ih := enter_run (C := C) (j := j) (b := b) (s := s) hl hr hlr e1 e2 k (w0 + 1) (sV (sV C1 18 j (4 * l + w0) (gV C1 18 j (4 * l + w0) + s * x_X0_share b 0 (nI w0) C)) 18 j (4 * r + w0) (gV (sV C1 18 j (4 * l + w0) (gV C1 18 j (4 * l + w0) + s * x_X0_share b 0 (nI w0) C)) 18 j (4 * r + w0) + s * x_X0_share b 1 (nI w0) C)) (by omega) (by omega) ?_
    · exact ⟨ih.1, a2, d2, ih.2⟩
    · refine ⟨?_, h2, ?_⟩
      · intro c n k h
        rw [gV_sV, if_neg (by rintro ⟨e, -, e'⟩; exact h ⟨e, e'⟩)]
        exact h1' c n k h
      · intro f w hf hw
        have h := h3 f w hf hw
        simp only [gV_sV, true_and, and_true]
        have x1 : (4 * r + w0 = 4 * l + w0) = False := by simp; omega
        by_cases cw : w = w0
        · subst cw
          rw [if_neg (by omega), Int32.add_zero] at h
          by_cases cl : f = l
          · subst cl
            have x2 : ¬ (4 * f + w = 4 * r + w) := by omega
            simp only [x2, ↓reduceIte, h, Nat.lt_succ_self]
          · by_cases cr : f = r
            · subst cr
              have x3 : ¬ (4 * f + w = 4 * l + w) := by omega
              simp only [x3, ↓reduceIte, h, cl, Nat.lt_succ_self]
            · have x2 : ¬ (4 * f + w = 4 * r + w) := by omega
              have x3 : ¬ (4 * f + w = 4 * l + w) := by omega
              simp only [x2, x3, ↓reduceIte, h, cl, cr, Nat.lt_succ_self, Int32.add_zero]
        · have x2 : ¬ (4 * f + w = 4 * r + w0) := by omega
          have x3 : ¬ (4 * f + w = 4 * l + w0) := by omega
          simp only [x2, x3, ↓reduceIte, h]
          by_cases cc : w < w0
          · simp only [cc, show w < w0 + 1 by omega, ↓reduceIte]
          · simp only [cc, show ¬ w < w0 + 1 by omega, ↓reduceIte]
theorem enter_eq {C : St} {j l r b : Nat} (s : Int32) (hl : l < 12) (hr : r < 12) (hlr : l ≠ r) (e1 : gV C 2 (2 * b) 0 = nI l) (e2 : gV C 2 (2 * b + 1) 0 = nI r) : EP C (x_X5_enter j b s C) j l r s b 4 ∧ ok_X5_enter j b s C := by
  unfold x_X5_enter ok_X5_enter
  refine enter_run hl hr hlr e1 e2 fu 0 C (by rw [fuE]; omega) (by omega) ⟨fun _ _ _ _ => rfl, rfl, fun f w _ _ => ?_⟩
  rw [if_neg (by omega), Int32.add_zero]
/-- pool j, while bout b is not yet in its table -/
def qO2 (C M : St) (nb j b : Nat) : Prop :=
  gV C 5 j 0 = nI j ∧ gV C 5 j 1 = gV M 36 0 j ∧ (∃ a nf : Nat, nf ≤ 12 ∧ gV M 8 0 0 = nI nf ∧ a < 2 ^ nf ∧ gV M 36 0 j = nI a) ∧ gV C 5 j 4 = gV M 37 0 j ∧ (∃ a : Nat, a < 4096 ∧ gV M 37 0 j = nI a) ∧
  (∀ f w : Nat, f < 12 → w < 4 → gV C 18 j (4 * f + w) + ct M j (nI f) (nI w) b = TS M j (nI f) (nI w) 0 nb)
/-- in the middle of a call about the bout b, that is on the program's piste -/
def Mid (n nb np b : Nat) (C M : St) : Prop :=
  qA C M nb np ∧ (∀ i, i < nb → qB C M np i) ∧ (∀ i, nb ≤ i → qZ M i) ∧ b < nb ∧ (∀ i, i < nb → i ≠ b → ¬ gV M 25 0 i = -1) ∧ gR C 7 8 = some b ∧ qC C M n b 0 ∧ qC C M n b 1 ∧ qG M np b ∧ (∀ j, j < np → qO2 C M nb j b) ∧ (∀ j, np ≤ j → gV M 37 0 j = 0) ∧ qK C M ∧
  ((gV M 25 0 b = -1 ∧ gV M 8 0 4 = nI b ∧ qT C M b ∧ qF C M) ∨ (¬ gV M 25 0 b = -1 ∧ gV M 8 0 4 = -1 ∧ gV M 8 0 17 = 0))
theorem ct_run {M : St} {j b : Nat} {f w : Int32} (hb : b < 80) (h : gV M 25 0 b = -1) : ct M j f w b = 0 := by
  have hs : x_X8_sideIn (nI b) (nI j) f M = -1 := by
    unfold x_X8_sideIn x_X8_sideIn_74 x_X8_sideIn_75
    rw [nI_clamp (show b < 2 ^ 31 by omega), h]
    simp only [↓reduceIte, ite_self]
  unfold ct; rw [hs, if_pos rfl]
theorem mid_of {n nb np b : Nat} {C M : St} (hI : I2 n nb np C M) (hb : b < nb) (hR : gR C 7 8 = some b) : Mid n nb np b C M := by
  obtain ⟨hA, hB, hZ, ⟨p1, p2⟩, hF, hO, hG, hK⟩ := hI
  have hnb := hA.2.2.1
  rcases p2 with ⟨g1, -⟩ | ⟨b', hb', g1, g2, g3, g4, g5, g6⟩
  · rw [hR] at g1; exact absurd g1 (by simp)
  · have e : b = b' := by rw [hR] at g1; exact Option.some.inj g1
    subst e
    have hw : gV M 25 0 b = -1 := (p1 b hb).mpr hR
    refine ⟨hA, hB, hZ, hb, fun i hi hne h => ?_, hR, g3, g4, g6, fun j hj => ?_, hG, hK, Or.inl ⟨hw, g2, g5, hF⟩⟩
    · have := (p1 i hi).mp h
      rw [hR] at this; exact hne (Option.some.inj this).symm
    · obtain ⟨o1, o2, o3, o4, o5, o6⟩ := hO j hj
      refine ⟨o1, o2, o3, o4, o5, fun f w hf hw' => ?_⟩
      rw [ct_run (by omega) hw, Int32.add_zero]; exact o6 f w hf hw'
/-- the end of a call that is still on -/
theorem mid_on {n nb np b : Nat} {C M : St} (h : Mid n nb np b C M) (hw : gV M 25 0 b = -1) : I2 n nb np C M := by
  obtain ⟨hA, hB, hZ, hb, hO1, hR, c0, c1, hGb, hO, hG, hK, hs⟩ := h
  have hnb := hA.2.2.1
  rcases hs with ⟨-, s2, s3, s4⟩ | ⟨s1, -⟩
  · refine ⟨hA, hB, hZ, ⟨fun i hi => ?_, Or.inr ⟨b, hb, hR, s2, c0, c1, s3, hGb⟩⟩, s4, fun j hj => ?_, hG, hK⟩
    · by_cases c : i = b
      · subst c; exact ⟨fun _ => hR, fun _ => hw⟩
      · refine ⟨fun h => absurd h (hO1 i hi c), fun h => ?_⟩
        rw [hR] at h; exact absurd (Option.some.inj h).symm c
    · obtain ⟨o1, o2, o3, o4, o5, o6⟩ := hO j hj
      refine ⟨o1, o2, o3, o4, o5, fun f w hf hw' => ?_⟩
      have := o6 f w hf hw'
      rw [ct_run (by omega) hw, Int32.add_zero] at this; exact this
  · exact absurd hw s1
/-- what an ended bout adds in its pool -/
theorem ct_end {C M : St} {np b j l r f w : Nat} (hB : qB C M np b) (hb : b < 80) (hj : j < 6) (hl : l < 12) (hr : r < 12) (hf : f < 12) (hw : w < 4) (e1 : gV M 20 0 (2 * b) = nI l) (e2 : gV M 20 0 (2 * b + 1) = nI r) (hp : gV M 24 0 b = nI j) (hwin : ¬ gV M 25 0 b = -1)
    (hg : x_X8_has (gV M 37 0 j) (gV M 20 0 (2 * b)) M = 0 ∧ x_X8_has (gV M 37 0 j) (gV M 20 0 (2 * b + 1)) M = 0) :
    ct M j (nI f) (nI w) b = if f = l then x_X0_share b 0 (nI w) C else if f = r then x_X0_share b 1 (nI w) C else 0 := by
  obtain ⟨b1, b2, -, -, b5, b6, b7, b8, b9, b10, b11, b12, b13, b14, b15, b16, b17, b18, b19⟩ := hB
  have z1 : ¬ (1 : Int32) = 0 := by decide
  have z2 : ¬ (2 : Int32) = 0 := by decide
  have z3 : ¬ (2 : Int32) = 1 := by decide
  have z4 : ¬ (3 : Int32) = 0 := by decide
  have z5 : ¬ (3 : Int32) = 1 := by decide
  have z6 : ¬ (3 : Int32) = 2 := by decide
  have z7 : ¬ (0 : Int32) = -1 := by decide
  have z8 : ¬ (1 : Int32) = -1 := by decide
  have s0 : (1 : Int32) - 0 = 1 := by decide
  have s1 : (1 : Int32) - 1 = 0 := by decide
  have hs : x_X8_sideIn (nI b) (nI j) (nI f) M = if f = l then 0 else if f = r then 1 else -1 := by
    unfold x_X8_sideIn x_X8_sideIn_74 x_X8_sideIn_75
    rw [nI_clamp (show b < 2 ^ 31 by omega), nI_clamp (show j < 2 ^ 31 by omega), clamp2 hb, clamp21 hb, if_pos hp, if_neg hwin, if_pos hg.1, if_pos hg.2, if_neg z1, e1, e2]
    by_cases c1 : f = l
    · subst c1; simp only [↓reduceIte]
    · have n1 : ¬ nI l = nI f := fun h => c1 ((nI_eq (by omega) (by omega)).mp h).symm
      rw [if_neg n1, if_neg c1]
      by_cases c2 : f = r
      · subst c2; simp only [↓reduceIte]
      · have n2 : ¬ nI r = nI f := fun h => c2 ((nI_eq (by omega) (by omega)).mp h).symm
        rw [if_neg n2, if_neg c2]
  have cl0 : (2 * nI b + 0 : Int32).toNatClampNeg = 2 * b := by rw [Int32.add_zero]; exact clamp2 hb
  unfold ct
  rw [hs]
  by_cases c1 : f = l
  · simp only [c1, z7, ↓reduceIte]
    unfold x_X0_share x_X0_corner
    rcases a3_small (w := nI w) ⟨w, hw, rfl⟩ with h | h | h | h <;> rw [h]
    · simp only [↓reduceIte]
    · simp only [z1, ↓reduceIte, b15]
    · simp only [z2, z3, ↓reduceIte, cl0, b6]
    · simp only [z1, z4, z5, z6, s0, ↓reduceIte, clamp21 hb, b7]
  · by_cases c2 : f = r
    · have c1' : ¬ r = l := by rw [← c2]; exact c1
      simp only [c2, c1', z8, ↓reduceIte]
      unfold x_X0_share x_X0_corner
      rcases a3_small (w := nI w) ⟨w, hw, rfl⟩ with h | h | h | h <;> rw [h]
      · simp only [↓reduceIte]
      · simp only [z1, ↓reduceIte, b15]
      · simp only [z1, z2, z3, ↓reduceIte, clamp21 hb, b7]
      · simp only [z1, z4, z5, z6, s1, ↓reduceIte, cl0, b6]
    · simp only [c1, c2, ↓reduceIte]
theorem ct_other {M : St} {b j : Nat} {f w : Int32} (hb : b < 80) (hp : ¬ gV M 24 0 b = nI j) : ct M j f w b = 0 := by
  have hs : x_X8_sideIn (nI b) (nI j) f M = -1 := by
    unfold x_X8_sideIn x_X8_sideIn_74 x_X8_sideIn_75
    rw [nI_clamp (show b < 2 ^ 31 by omega), if_neg hp]; rfl
  unfold ct; rw [hs, if_pos rfl]
/-- the end of a call about the bout b -/
theorem mid_end {n nb np b : Nat} {C M : St} (h : Mid n nb np b C M) : I2 n nb np (x_X7_clearPisteIfOver b C) M ∧ ok_X7_clearPisteIfOver b C := by
  have h' := h
  obtain ⟨hA, hB, hZ, hb, hO1, hR, c0, c1, hGb, hO, hG, hK, hs⟩ := h'
  obtain ⟨A1, A2, A3, A4, A5, A6, A7, A8, A9, A10, A11, A12, A13, A14⟩ := id hA
  have hbB := hB b hb
  have hwc : gV C 0 b 5 = gV M 25 0 b := hbB.2.2.2.2.2.2.2.2.2.2.2.2.2.2.1
  have hpc : gV C 0 b 4 = gV M 24 0 b := hbB.2.2.2.2.2.2.2.2.2.2.2.2.1
  have z1 : ¬ (1 : Int32) = 0 := by decide
  unfold x_X7_clearPisteIfOver ok_X7_clearPisteIfOver x_X0_isOver
  rw [hwc]
  by_cases hw : gV M 25 0 b = -1
  · rw [if_pos hw, if_pos rfl, if_pos rfl]
    exact ⟨mid_on h hw, trivial⟩
  rw [if_neg hw, if_neg z1, if_neg z1]
  rcases hs with ⟨s1, -⟩ | ⟨-, s2, s3⟩
  · exact absurd s1 hw
  unfold x_X7_clearPisteIfOver_20 ok_X7_clearPisteIfOver_20 x_X4_empty
  -- the state before the pool
  have key : ∀ C', (∀ c n k, c ≠ 4 → c ≠ 18 → gV C' c n k = gV C c n k) → gV C' 4 0 6 = 0 → gR C' 7 8 = none → (∀ i, gR C' 9 i = gR C 9 i) → (∀ i, gR C' 10 i = gR C 10 i) → gL C' 3 0 = gL C 3 0 →
      (∀ j, j < np → ∀ f w : Nat, f < 12 → w < 4 → gV C' 18 j (4 * f + w) = gV C 18 j (4 * f + w) + ct M j (nI f) (nI w) b) → I2 n nb np C' M := by
    intro C' f1 f2 f3 f4 f5 f6 f7
    have hC : Ag (fun c _ => !(c == 4 || c == 18)) C C' := by
      intro c n k hc
      simp at hc
      exact f1 c n k hc.1 hc.2
    have hM : Ag (fun _ _ => true) M M := Ag.rf _ _
    refine ⟨?_, fun i hi => qB_t hC hM (by simp) np i (hB i hi), hZ, ⟨fun i hi => ?_, Or.inl ⟨f3, s2, s3⟩⟩, ⟨0, by omega, f2, s3, fun k hk => absurd hk (Nat.not_lt_zero k)⟩, fun j hj => ?_, hG, qK_t hC hM (by simp) hK⟩
    · unfold qA at hA ⊢
      rw [f1 7 0 5 (by decide) (by decide), f1 7 0 6 (by decide) (by decide), f1 7 0 7 (by decide) (by decide), f1 7 0 9 (by decide) (by decide), f6]
      simp only [f4, f5]
      exact hA
    · rw [f3]
      by_cases c : i = b
      · subst c; exact ⟨fun h => absurd h hw, fun h => by simp at h⟩
      · exact ⟨fun h => absurd h (hO1 i hi c), fun h => by simp at h⟩
    · obtain ⟨o1, o2, o3, o4, o5, o6⟩ := hO j hj
      refine ⟨by rw [f1 5 j 0 (by decide) (by decide)]; exact o1, by rw [f1 5 j 1 (by decide) (by decide)]; exact o2, o3, by rw [f1 5 j 4 (by decide) (by decide)]; exact o4, o5, fun f w hf hw' => ?_⟩
      rw [f7 j hj f w hf hw']; exact o6 f w hf hw'
  have hb80 : b < 80 := by omega
  have e0 : gV (sV (sR C 7 8 none) 4 0 6 0) 0 b 4 = gV M 24 0 b := by rw [gV_sV, if_neg (fun q => absurd q.1 (by decide))]; exact hpc
  have q7 : gV (sV (sR C 7 8 none) 4 0 6 0) 7 0 7 = nI np := by rw [gV_sV, if_neg (by decide)]; exact A7
  have q10 : ∀ j, j < np → gR (sV (sR C 7 8 none) 4 0 6 0) 10 j = some j := by intro j hj; rw [gR_sV, gR_sR, if_neg (by omega)]; exact A14 j hj
  have g1 : ∀ c n k, c ≠ 4 → gV (sV (sR C 7 8 none) 4 0 6 0) c n k = gV C c n k := by
    intro c n k hc; rw [gV_sV, if_neg (by rintro ⟨e, -⟩; exact hc e)]; rfl
  rw [e0]
  rcases hbB.2.2.2.2.2.2.2.2.2.2.2.2.2.1 with hp | ⟨j, hj, hp⟩
  · obtain ⟨p1, p2⟩ := poolOf_out (C := sV (sR C 7 8 none) 4 0 6 0) (y := -1) q7 (Or.inl (by decide))
    rw [hp, p1]
    refine ⟨key (sV (sR C 7 8 none) 4 0 6 0) (fun c n k h4 _ => g1 c n k h4) (by rw [gV_sV, if_pos ⟨rfl, rfl, rfl⟩]) (by rw [gR_sV, gR_sR, if_pos ⟨rfl, rfl⟩]) (fun i => by rw [gR_sV, gR_sR, if_neg (by omega)]) (fun i => by rw [gR_sV, gR_sR, if_neg (by omega)]) rfl (fun j hj f w hf hw' => ?_), p2, trivial⟩
    rw [ct_other hb80 (by rw [hp]; exact fun h => nI_m1 (by omega) h.symm), Int32.add_zero]
    exact g1 18 j _ (by decide)
  · obtain ⟨p1, p2⟩ := poolOf_in (C := sV (sR C 7 8 none) 4 0 6 0) A6 q7 q10 hj
    rw [hp, p1]
    obtain ⟨b1, b2, ⟨l, hl, b3⟩, ⟨r, hr, b4⟩, b5, -⟩ := id hbB
    have hlr : l ≠ r := by intro e; apply b5; rw [b3, b4, e]
    obtain ⟨⟨E1, E2, E3⟩, E4⟩ := enter_eq (C := sV (sR C 7 8 none) 4 0 6 0) (j := j) (b := b) 1 hl hr hlr (by rw [g1 _ _ _ (by decide), b1, b3]) (by rw [g1 _ _ _ (by decide), b2, b4])
    simp only [oc]
    generalize x_X5_enter j b 1 (sV (sR C 7 8 none) 4 0 6 0) = X at E1 E2 E3 ⊢
    refine ⟨key X (fun c n k h4 h18 => ?_) ?_ ?_ (fun i => ?_) (fun i => ?_) ?_ (fun j' hj' f w hf hw' => ?_), p2, E4, trivial⟩
    · rw [E1 c n k (by rintro ⟨e, -⟩; exact h18 e)]; exact g1 c n k h4
    · rw [E1 4 0 6 (by rintro ⟨e, -⟩; exact absurd e (by decide)), gV_sV, if_pos ⟨rfl, rfl, rfl⟩]
    · unfold gR; rw [E2]; rfl
    · unfold gR; rw [E2]; exact (gR_sR C 7 8 none 9 i).trans (if_neg (by omega))
    · unfold gR; rw [E2]; exact (gR_sR C 7 8 none 10 i).trans (if_neg (by omega))
    · unfold gL; rw [E2]; rfl
    · by_cases c : j' = j
      · subst c
        rw [E3 f w hf hw', if_pos hw', Int32.one_mul, Int32.one_mul, ct_end hbB hb80 (by omega) hl hr hf hw' b3 b4 hp hw (hGb j' hj hp), g1 18 _ _ (by decide)]
        have hsh : ∀ s w, x_X0_share b s w (sV (sR C 7 8 none) 4 0 6 0) = x_X0_share b s w C := by
          intro s w
          have e : ∀ c n k, c ≠ 4 → gV (sV (sR C 7 8 none) 4 0 6 0) c n k = gV C c n k := g1
          unfold x_X0_share x_X0_corner
          simp (disch := decide) only [e]
        rw [hsh, hsh]
      · rw [E1 18 j' _ (by rintro ⟨-, e⟩; exact c e), g1 18 _ _ (by decide), ct_other hb80 (by rw [hp]; intro e; exact c ((nI_eq (by omega) (by omega)).mp e).symm), Int32.add_zero]
theorem nI_toI {t : Nat} (h : t ≤ 45) : (nI t).toInt = (t : Int) := nI_toInt (by omega)
/-- who leads -/
theorem leader_eq {np b nb : Nat} {C M : St} (hB : qB C M np b) (hb : b < nb) (hnb : nb ≤ 80) (h4 : gV M 8 0 4 = nI b) : x_X0_leader b C = x_X8_ahead M ∧ ok_X8_ahead M ∧ (x_X8_ahead M = 0 ∨ x_X8_ahead M = 1) := by
  obtain ⟨b1, b2, ⟨l, hl, b3⟩, ⟨r, hr, b4⟩, b5, b6, b7, ⟨t0, ht0, b8⟩, ⟨t1, ht1, b9⟩, -⟩ := hB
  have e2 : (2 : Int32) = nI 2 := by decide
  have v0 : vp_in (2 * nI b) 160 := by rw [e2, pk_mul]; exact vp_in_nI (by omega) (by omega)
  have v1 : vp_in (2 * nI b + 1) 160 := by rw [e2, pk_mul, nI_1]; exact vp_in_nI (by omega) (by omega)
  unfold x_X0_leader x_X0_isLike x_X8_ahead ok_X8_ahead
  rw [h4, clamp2 (by omega), clamp21 (by omega), b1, b2, b6, b7, b8, b9]
  have z1 : ¬ (1 : Int32) = 0 := by decide
  have d := pk_sub_toInt (a := t0) (b := t1) (by omega) (by omega)
  have le0 : (nI t0 - nI t1 ≤ 0) ↔ t0 ≤ t1 := by rw [Int32.le_iff_toInt_le, d]; show (t0 : Int) - t1 ≤ 0 ↔ _; omega
  have ge0 : (0 ≤ nI t0 - nI t1) ↔ t1 ≤ t0 := by rw [Int32.le_iff_toInt_le, d]; show (0 : Int) ≤ t0 - t1 ↔ _; omega
  have eq0 : (nI t0 = nI t1) ↔ t0 = t1 := nI_eq (by omega) (by omega)
  have le1 : (nI t0 ≤ nI t1) ↔ t0 ≤ t1 := nI_leI (by omega) (by omega)
  simp only [le0, ge0, eq0, le1, v0, v1, true_and]
  by_cases c : t0 = t1
  · simp only [c, Nat.le_refl, ↓reduceIte, z1]
    refine ⟨by first | trivial | rfl, by first | trivial | (split <;> trivial), ?_⟩
    split
    · exact Or.inr rfl
    · exact Or.inl rfl
  · by_cases c1 : t0 ≤ t1
    · have c2 : ¬ t1 ≤ t0 := by omega
      simp only [c, c1, c2, ↓reduceIte]
      first | done | exact ⟨trivial, trivial, Or.inr trivial⟩ | simp
    · simp only [c, c1, ↓reduceIte]
      first | done | exact ⟨trivial, trivial, Or.inl trivial⟩ | simp
/-- as Mid, while the bout is on, but its clock and touches left free -/
def MidR (n nb np b : Nat) (C M : St) : Prop :=
  qA C M nb np ∧ (∀ i, i < nb → qB C M np i) ∧ (∀ i, nb ≤ i → qZ M i) ∧ b < nb ∧ (∀ i, i < nb → i ≠ b → ¬ gV M 25 0 i = -1) ∧ gR C 7 8 = some b ∧ qC C M n b 0 ∧ qC C M n b 1 ∧ qG M np b ∧ (∀ j, j < np → qO2 C M nb j b) ∧ (∀ j, np ≤ j → gV M 37 0 j = 0) ∧ qK C M ∧ gV M 25 0 b = -1 ∧ gV M 8 0 4 = nI b
theorem midR_of {n nb np b : Nat} {C M : St} (h : Mid n nb np b C M) (hw : gV M 25 0 b = -1) : MidR n nb np b C M := by
  obtain ⟨hA, hB, hZ, hb, hO1, hR, c0, c1, hGb, hO, hG, hK, hs⟩ := h
  rcases hs with ⟨s1, s2, s3, s4⟩ | ⟨s1, -⟩
  · exact ⟨hA, hB, hZ, hb, hO1, hR, c0, c1, hGb, hO, hG, hK, s1, s2⟩
  · exact absurd hw s1
theorem mid_ofR {n nb np b : Nat} {C M : St} (h : MidR n nb np b C M) (hT : qT C M b) (hF : qF C M) : Mid n nb np b C M := by
  obtain ⟨hA, hB, hZ, hb, hO1, hR, c0, c1, hGb, hO, hG, hK, s1, s2⟩ := h
  exact ⟨hA, hB, hZ, hb, hO1, hR, c0, c1, hGb, hO, hG, hK, Or.inl ⟨s1, s2, hT, hF⟩⟩
/-- the bout ends -/
theorem mid_win {n nb np b : Nat} {C M : St} {v : Int32} (h : MidR n nb np b C M) (hv : v = 0 ∨ v = 1) : Mid n nb np b (x_X0_finish b v C) (x_X8_ends v M) ∧ ok_X8_ends v M := by
  obtain ⟨hA, hB, hZ, hb, hO1, hR, c0, c1, hGb, hO, hG, hK, hw, s2⟩ := h
  have hnb := hA.2.2.1
  unfold x_X0_finish x_X8_ends ok_X8_ends
  rw [s2, nI_clamp (by omega)]
  refine ⟨?_, vp_in_nI (by omega) (by omega), trivial⟩
  have hvm : ¬ v = -1 := by rcases hv with rfl | rfl <;> decide
  have hC : Ag (fun c k => !(c == 0 && k == 5)) C (sV C 0 b 5 v) := Ag_sV _ _ _ _ rfl (Ag.rf _ _)
  generalize hM' : sV (sV (sV M 25 0 b v) 8 0 4 (-1)) 8 0 17 0 = M'
  have hM : Ag (fun c k => !(c == 25 || (c == 8 && (k == 4 || k == 17)))) M M' := by
    rw [← hM']; repeat first | exact Ag.rf _ _ | refine Ag_sV _ _ _ _ rfl ?_
  have m25 : ∀ i, gV M' 25 0 i = if i = b then v else gV M 25 0 i := by intro i; rw [← hM']; simp [gV_sV]
  have hct : ∀ j f w k, k ≠ b → k < 80 → ct M' j f w k = ct M j f w k := by
    intro j f w k hk hk80
    have hs : x_X8_sideIn (nI k) (nI j) f M' = x_X8_sideIn (nI k) (nI j) f M := by
      unfold x_X8_sideIn
      rw [nI_clamp (show k < 2 ^ 31 by omega), hM 24 0 k rfl, m25 k, if_neg hk, hM 20 0 _ rfl, hM 20 0 _ rfl, hM 37 0 _ rfl]
      rfl
    unfold ct
    rw [hs, m25 k, if_neg hk, hM 21 0 _ rfl, hM 21 0 _ rfl]
  refine ⟨?_, fun i hi => ?_, fun i hi => qZ_t (C := C) (C' := C) (Ag.rf (fun _ _ => true) C) hM (by simp) i (hZ i hi), hb, fun i hi hne => by rw [m25 i, if_neg hne]; exact hO1 i hi hne, hR, qC_t hC hM (by simp) n b 0 c0, qC_t hC hM (by simp) n b 1 c1, qG_t (C := C) (C' := C) (Ag.rf (fun _ _ => true) C) hM (by simp) np b hGb, fun j hj => ?_, fun j hj => by rw [hM 37 0 j rfl]; exact hG j hj, qK_t hC hM (by simp) hK, Or.inr ⟨by rw [m25 b, if_pos rfl]; exact hvm, by rw [← hM']; simp [gV_sV], by rw [← hM']; simp [gV_sV]⟩⟩
  · unfold qA at hA ⊢
    rw [hC 7 0 5 rfl, hC 7 0 6 rfl, hC 7 0 7 rfl, hC 7 0 9 rfl, hM 8 0 0 rfl, hM 8 0 3 rfl, hM 8 0 23 rfl, hM 8 0 2 rfl, show gL M' 8 1 = gL M 8 1 by rw [← hM']; rfl]
    exact hA
  · obtain ⟨b1, b2, b3, b4, b5, b6, b7, b8, b9, b10, b11, b12, b13, b14, b15, b16, b17, b18, b19⟩ := hB i hi
    unfold qB
    rw [hC 2 _ 0 rfl, hC 2 _ 0 rfl, hC 2 _ 1 rfl, hC 2 _ 1 rfl, hC 0 i 2 rfl, hC 0 i 3 rfl, hC 0 i 4 rfl, hC 0 i 6 rfl, hC 0 i 7 rfl, hC 0 i 9 rfl, hM 20 0 _ rfl, hM 20 0 _ rfl, hM 21 0 _ rfl, hM 21 0 _ rfl, hM 22 0 _ rfl, hM 23 0 _ rfl, hM 24 0 _ rfl, hM 26 0 _ rfl, hM 27 0 _ rfl, hM 28 0 _ rfl]
    refine ⟨b1, b2, b3, b4, b5, b6, b7, b8, b9, b10, b11, b12, b13, b14, ?_, ?_, b17, b18, b19⟩
    · rw [m25 i, gV_sV]
      by_cases c : i = b
      · rw [if_pos ⟨rfl, rfl, c⟩, if_pos c]
      · rw [if_neg (fun e => c e.2.2), if_neg c]; exact b15
    · rw [m25 i]
      by_cases c : i = b
      · rw [if_pos c]; exact Or.inr hv
      · rw [if_neg c]; exact b16
  · obtain ⟨o1, o2, o3, o4, o5, o6⟩ := hO j hj
    unfold qO2
    rw [hC 5 j 0 rfl, hC 5 j 1 rfl, hC 5 j 4 rfl, hM 36 0 j rfl, hM 37 0 j rfl, hM 8 0 0 rfl]
    refine ⟨o1, o2, o3, o4, o5, fun f w hf hw' => ?_⟩
    have h6 := o6 f w hf hw'
    have h1 := TS_one (M := M) (M' := M') (j := j) (b := b) (f := nI f) (w := nI w) nb 0 (Nat.zero_le b) (by omega) (fun k hk hne => hct j (nI f) (nI w) k hne (by omega))
    rw [ct_run (by omega) hw, Int32.add_zero] at h6 h1
    rw [h1, ← h6, hC 18 j _ rfl]
theorem cr_end : CR_end := by
  intro n nb np C M hn hI
  obtain ⟨hA, hB, hZ, ⟨hP1, hP2⟩, hF, hO, hG, hK⟩ := id hI
  have hnb := hA.2.2.1
  have z1 : ¬ (1 : Int32) ≤ 0 := by decide
  have z0 : (0 : Int32) ≤ 0 := by decide
  have n1 : ¬ (1 : Nat) = 0 := by decide
  unfold x_X7_end ok_X7_end x_X8_end ok_X8_end x_X8_thrown x_X7_boutOnPiste
  rcases hP2 with ⟨g1, g2, g3⟩ | ⟨b, hb, g1, g2, g3, g4, g5, g6⟩
  · rw [g1, g2]
    simp only [oc, ↓reduceIte, n1]
    unfold x_X8_end_14 ok_X8_end_14
    rw [if_neg z1, if_neg z1]
    obtain ⟨k1, k2, k3, k4, k5⟩ := failS (v8 := (0 : Int32)) hI (e := 1) (by decide) (Or.inr (Or.inl ⟨rfl, by decide⟩)) (s0 := 1) (a := 1) (b := 0) (d := 0) rfl trivial rfl
    exact ⟨trivial, k1, trivial, k3, fun h => h.elim, k5⟩
  · have gb : ¬ nI b = -1 := nI_m1 (by omega)
    rw [g1, g2, if_neg gb, if_neg gb]
    simp only [oc, ↓reduceIte]
    have hI1 : I2 n nb np C (sV M 8 0 31 0) := I2_th 0 hI
    have hw : gV (sV M 8 0 31 0) 25 0 b = -1 := gth ((hP1 b hb).mpr g1) (by omega)
    have hm := mid_of hI1 hb g1
    obtain ⟨l1, l2, l3⟩ := leader_eq (hI1.2.1 b hb) hb hnb (show gV (sV M 8 0 31 0) 8 0 4 = nI b from gth g2 (by decide))
    obtain ⟨w1, w2⟩ := mid_win (midR_of hm hw) l3
    obtain ⟨e1, e2⟩ := mid_end w1
    unfold x_X7_end_13 x_X7_end_18 ok_X7_end_13 ok_X7_end_18 x_X8_end_14 ok_X8_end_14 x_X8_end_36 ok_X8_end_36
    rw [if_pos z0, if_pos z0, l1]
    have hwin := (e1.2.1 b hb).2.2.2.2.2.2.2.2.2.2.2.2.2.2.1
    refine ⟨⟨e2, trivial⟩, Or.inl rfl, ⟨l2, w2, trivial⟩, ?_, fun _ => ?_, I2_up e1⟩
    · show gV (x_X8_ends (x_X8_ahead (sV M 8 0 31 0)) (sV M 8 0 31 0)) 8 0 31 = 0
      unfold x_X8_ends; simp [gV_sV]
    · rw [hwin]
      unfold x_X8_ends
      have e : gV (sV M 8 0 31 0) 8 0 4 = nI b := gth g2 (by decide)
      rw [e, nI_clamp (by omega)]
      simp [gV_sV]
theorem bit01 : ((1 : Int32) &&& 1 = 0) = False ∧ ((1 : Int32) &&& 2 = 0) = True ∧ ((2 : Int32) &&& 1 = 0) = True ∧ ((2 : Int32) &&& 2 = 0) = False ∧ ((3 : Int32) &&& 1 = 0) = False ∧ ((3 : Int32) &&& 2 = 0) = False := by
  refine ⟨?_, ?_, ?_, ?_, ?_, ?_⟩ <;> first | exact eq_false (by decide) | exact eq_true (by decide)
/-- touches were added: u and v more -/
def tU (b : Nat) (u v : Int32) (C : St) : St :=
  if u = 0 then (if v = 0 then C else sV C 2 (2 * b + 1) 1 (gV C 2 (2 * b + 1) 1 + v)) else (if v = 0 then sV C 2 (2 * b) 1 (gV C 2 (2 * b) 1 + u) else sV (sV C 2 (2 * b) 1 (gV C 2 (2 * b) 1 + u)) 2 (2 * b + 1) 1 (gV C 2 (2 * b + 1) 1 + v))
theorem tU_V (b : Nat) (u v : Int32) (C : St) (c n k : Nat) : gV (tU b u v C) c n k = if c = 2 ∧ k = 1 ∧ n = 2 * b then gV C 2 (2 * b) 1 + u else if c = 2 ∧ k = 1 ∧ n = 2 * b + 1 then gV C 2 (2 * b + 1) 1 + v else gV C c n k := by
  unfold tU
  by_cases hu : u = 0
  · by_cases hv : v = 0
    · rw [if_pos hu, if_pos hv, hu, hv, Int32.add_zero, Int32.add_zero]
      split
      · rename_i h; obtain ⟨rfl, rfl, rfl⟩ := h; rfl
      · split
        · rename_i h; obtain ⟨rfl, rfl, rfl⟩ := h; rfl
        · rfl
    · rw [if_pos hu, if_neg hv, hu, Int32.add_zero, gV_sV]
      by_cases h : c = 2 ∧ k = 1 ∧ n = 2 * b
      · obtain ⟨rfl, rfl, rfl⟩ := h; rw [if_neg (by omega), if_pos ⟨rfl, rfl, rfl⟩]
      · rw [if_neg h]
  · by_cases hv : v = 0
    · rw [if_neg hu, if_pos hv, hv, Int32.add_zero, gV_sV]
      by_cases h : c = 2 ∧ k = 1 ∧ n = 2 * b
      · rw [if_pos h, if_pos h]
      · rw [if_neg h, if_neg h]
        split
        · rename_i h; obtain ⟨rfl, rfl, rfl⟩ := h; rfl
        · rfl
    · rw [if_neg hu, if_neg hv, gV_sV, gV_sV]
      by_cases h : c = 2 ∧ k = 1 ∧ n = 2 * b
      · obtain ⟨rfl, rfl, rfl⟩ := h; rw [if_neg (by omega), if_pos ⟨rfl, rfl, rfl⟩, if_pos ⟨rfl, rfl, rfl⟩]
      · rw [if_neg h]
        split
        · rfl
        · rfl
/-- the program's addTouches, after its additions -/
theorem add_c (b : Nat) (s : Int32) (hs : s = 1 ∨ s = 2 ∨ s = 3) (C : St) : x_X0_addTouches b s C = x_X0_addTouches_38 b (tU b (s &&& 1) (s >>> (1 &&& 31)) C) := by
  obtain ⟨t1, t2, t3, t4, t5, t6⟩ := bit01
  unfold x_X0_addTouches x_X0_addTouches_19 tU
  rcases hs with rfl | rfl | rfl
  · simp only [t1, t2, ↓reduceIte]
    rw [if_pos (by decide)]; rfl
  · simp only [t3, t4, ↓reduceIte]
    rw [if_neg (by decide)]; rfl
  · simp only [t5, t6, ↓reduceIte]
    rw [if_neg (by decide), gV_sV, if_neg (by omega)]; rfl
end
