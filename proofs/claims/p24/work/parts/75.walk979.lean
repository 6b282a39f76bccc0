noncomputable section
section W979
theorem iv_19 {nf np nb : Nat} {γ C : St} (h : IV nf np nb γ) (hC : Ag k19 γ C) (hC2 : C.2 = γ.2) : IV nf np nb C := by
  obtain ⟨h1, ⟨M, hM⟩, h3, h4, h5⟩ := h
  have hR : gR C 7 8 = gR γ 7 8 := by unfold gR; rw [hC2]
  refine ⟨h1, ⟨M, I2_ord hM hC hC2 (Ag.rf _ _) rfl⟩, (hC 7 0 5 rfl).trans h3, by rw [hR]; exact h4, fun i j hi hj e => ?_⟩
  rw [hC 5 j 1 rfl, hC 2 (2 * i) 0 rfl, hC 2 (2 * i + 1) 0 rfl]
  exact h5 i j hi hj ((hC 0 i 4 rfl).symm.trans e)
theorem op_k {n nb np j f w a : Nat} {C M : St} {m : Int32} (hI : I2 n nb np C M) (hj : j < np) (hf : f < 12) (ha : a < 4096) (h1 : gV C 5 j 1 = nI a) (hm : a / 2 ^ f % 2 = 1) (hw : w < 4) (em : m = nI w) :
    x_X7_ofPool (nI j) (nI f) m C = (0, TS M j (nI f) m 0 nb, C) ∧ x_X7_ofPoolAnew (nI j) (nI f) m C = (0, TS M j (nI f) m 0 nb, C) := by
  subst em
  obtain ⟨⟨A1, A2, A3, A4, A5, A6, A7, A8, A9, A10, A11, A12, A13, A14⟩, hB, hZ, hP, hF, hO, hG, hK⟩ := id hI
  have z1 : ¬ (1 : Int32) = 0 := by decide
  have ep : x_X7_poolWith (nI j) (nI f) C = (0, j, C) := by
    unfold x_X7_poolWith
    rw [(poolOf_in A6 A7 A14 hj).1]
    simp only [oc]
    rw [has_k hf ha h1, if_pos hm, if_neg z1]
  have ew : x_X7_isWithin (nI w) 0 3 C = 1 := by
    have h : ∀ w, w < 4 → x_X7_isWithin (nI w) 0 3 γS = 1 := by decide
    exact h w hw
  have ec : x_X7_checkOfPool (nI w) C = (0, C) := by
    unfold x_X7_checkOfPool
    rw [ew, if_neg z1]
  constructor
  · unfold x_X7_ofPool
    rw [ep]
    dsimp only
    rw [ec]
    dsimp only
    rw [if_pos rfl, if_pos rfl, (kept_k hf hw).1, (hO j hj).2.2.2.2.2 f w hf hw]
  · unfold x_X7_ofPoolAnew
    rw [ep]
    dsimp only
    rw [ec]
    dsimp only
    rw [if_pos rfl, if_pos rfl]
    have h := (anew_run (f := f) hI hj hw fu 0 0 (by rw [fuE]; omega) (by omega)).1
    have h : x_X7_ofPoolAnew_18 fu (nI f) (nI w) j 0 0 C = (0, 0 + TS M j (nI f) (nI w) 0 nb, C) := h
    rw [h, Int32.zero_add]
/-- what a bout gives to all that have a rank -/
theorem bout_sum {n nb np i j a g : Nat} {γ M : St} (hI : I2 n nb np γ M) (hMB : MB nb np γ) (hi : i < nb) (hj : j < np) (ha : a < 4096) (hg : g < 4096) (h1 : gV γ 5 j 1 = nI a) (hM : gV M 37 0 j = nI g) :
    RS (fun v => ct M j v 0 i) (mk a g) 12 = 2 * RS (fun v => ct M j v 1 i) (mk a g) 12 ∧ RS (fun v => ct M j v 2 i) (mk a g) 12 = RS (fun v => ct M j v 3 i) (mk a g) 12 := by
  obtain ⟨⟨A1, A2, A3, A4, A5, A6, A7, A8, A9, A10, A11, A12, A13, A14⟩, hB, hZ, hP, hF, hO, hG, hK⟩ := id hI
  obtain ⟨b1, b2, ⟨l, hl, b3⟩, ⟨r, hr, b4⟩, b5, b6, b7, b8, b9, b10, b11, b12, b13, b14, b15, b16, -⟩ := hB i hi
  have hlr : l ≠ r := by intro e; subst e; exact b5 (b3.trans b4.symm)
  have i80 : i < 80 := by omega
  have j6 : j < 6 := by omega
  by_cases c : cdP M j i l r
  · obtain ⟨c1, c2, c3, c4⟩ := c
    obtain ⟨m1, m2⟩ := hMB i j hi hj (b13.trans c1)
    rw [b1, b3, h1, isIn_k hl ha] at m1
    rw [b2, b4, h1, isIn_k hr ha] at m2
    have al : a / 2 ^ l % 2 = 1 := by
      apply Classical.byContradiction; intro q; rw [if_neg q] at m1; exact absurd m1 (by decide)
    have ar : a / 2 ^ r % 2 = 1 := by
      apply Classical.byContradiction; intro q; rw [if_neg q] at m2; exact absurd m2 (by decide)
    have c3' := c3
    have c4' := c4
    rw [hM, bit_m hl hg] at c3'
    rw [hM, bit_m hr hg] at c4'
    have gl : ¬ g / 2 ^ l % 2 = 1 := by intro q; rw [if_pos q] at c3'; exact absurd c3' (by decide)
    have gr : ¬ g / 2 ^ r % 2 = 1 := by intro q; rw [if_pos q] at c4'; exact absurd c4' (by decide)
    have ml : mk a g / 2 ^ l % 2 = 1 := (mk_bit hl).mpr ⟨al, gl⟩
    have mr : mk a g / 2 ^ r % 2 = 1 := (mk_bit hr).mpr ⟨ar, gr⟩
    have z1 : ¬ (1 : Int32) = 0 := by decide
    have hs : ∀ f : Nat, x_X8_sideIn (nI i) (nI j) (nI f) M = if nI l = nI f then 0 else if nI r = nI f then 1 else -1 := by
      intro f
      unfold x_X8_sideIn x_X8_sideIn_75
      rw [nI_clamp (show i < 2 ^ 31 by omega), nI_clamp (show j < 2 ^ 31 by omega), clamp2 i80, clamp21 i80, b3, b4, if_pos c1, if_neg c2, if_pos c3, if_pos c4, if_neg z1]
    have hsl : x_X8_sideIn (nI i) (nI j) (nI l) M = 0 := by rw [hs, if_pos rfl]
    have hsr : x_X8_sideIn (nI i) (nI j) (nI r) M = 1 := by rw [hs, if_neg (fun q => hlr ((nI_eq (by omega) (by omega)).mp q)), if_pos rfl]
    have h0 : ∀ (w : Int32) (k : Nat), k < 12 → k ≠ l → k ≠ r → ct M j (nI k) w i = 0 := by
      intro w k hk k1 k2
      unfold ct
      rw [hs, if_neg (fun q => k1 ((nI_eq (by omega) (by omega)).mp q).symm), if_neg (fun q => k2 ((nI_eq (by omega) (by omega)).mp q).symm), if_pos rfl]
    have two : ∀ w, RS (fun v => ct M j v w i) (mk a g) 12 = ct M j (nI l) w i + ct M j (nI r) w i := by
      intro w
      rw [RS_two (G := fun v => ct M j v w i) hlr ml mr (h0 w) 12 (Nat.le_refl _), if_pos hl, if_pos hr]
    rw [two, two, two, two]
    have n0 : ¬ (0 : Int32) = -1 := by decide
    have n1 : ¬ (1 : Int32) = -1 := by decide
    have n20 : ¬ (2 : Int32) = 0 := by decide
    have n21 : ¬ (2 : Int32) = 1 := by decide
    have n30 : ¬ (3 : Int32) = 0 := by decide
    have n31 : ¬ (3 : Int32) = 1 := by decide
    have n32 : ¬ (3 : Int32) = 2 := by decide
    have s0 : (1 : Int32) - 0 = 1 := by decide
    have s1 : (1 : Int32) - 1 = 0 := by decide
    have n01 : ¬ (0 : Int32) = 1 := by decide
    unfold ct
    rw [hsl, hsr]
    simp only [n0, n1, z1, n20, n21, n30, n31, n32, s0, s1, ↓reduceIte]
    refine ⟨?_, Int32.add_comm _ _⟩
    rcases b16 with q | q | q
    · exact absurd q c2
    · rw [q, if_pos rfl, if_neg n01]; rfl
    · rw [q, if_pos rfl, if_neg z1]; rfl
  · have z : ∀ w, RS (fun v => ct M j v w i) (mk a g) 12 = 0 := fun w => RS_zero (fun k _ => ct_not i80 j6 b3 b4 c) 12 (Nat.le_refl _)
    rw [z, z, z, z]
    exact ⟨rfl, rfl⟩
theorem all_sum {n nb np j a g : Nat} {γ M : St} (hI : I2 n nb np γ M) (hMB : MB nb np γ) (hj : j < np) (ha : a < 4096) (hg : g < 4096) (h1 : gV γ 5 j 1 = nI a) (hM : gV M 37 0 j = nI g) : ∀ r i, i + r ≤ nb →
    RS (fun v => TS M j v 0 i r) (mk a g) 12 = 2 * RS (fun v => TS M j v 1 i r) (mk a g) 12 ∧ RS (fun v => TS M j v 2 i r) (mk a g) 12 = RS (fun v => TS M j v 3 i r) (mk a g) 12
  | 0, i, _ => by
    have z : ∀ w, RS (fun v => TS M j v w i 0) (mk a g) 12 = 0 := fun w => RS_zero (fun k _ => rfl) 12 (Nat.le_refl _)
    rw [z, z, z, z]
    exact ⟨rfl, rfl⟩
  | r + 1, i, hr => by
    obtain ⟨k1, k2⟩ := all_sum hI hMB hj ha hg h1 hM r (i + 1) (by omega)
    obtain ⟨k3, k4⟩ := bout_sum hI hMB (show i < nb by omega) hj ha hg h1 hM
    have e : ∀ w, RS (fun v => TS M j v w i (r + 1)) (mk a g) 12 = RS (fun v => ct M j v w i) (mk a g) 12 + RS (fun v => TS M j v w (i + 1) r) (mk a g) 12 := fun w => RS_add (A := fun v => ct M j v w i) (B := fun v => TS M j v w (i + 1) r) 12
    rw [e, e, e, e, k1, k2, k3, k4, Int32.mul_add]
    exact ⟨rfl, rfl⟩
variable {K91 : Int32 → Int32 → Int32 → Int32 → St → Nat × Int32 × St} {xs : Nat → Int32} {Ln : Nat}
theorem s1031 {K982 : Int32 → Int32 → Int32 → Int32 → Int32 → St → Nat × Int32 × St} {K1004 : Int32 → Int32 → Int32 → Int32 → Int32 → Int32 → Int32 → Int32 → Int32 → Int32 → St → Nat × Int32 × St} {a3 a4 a5 a6 a12 a17 a18 m g : Int32} {γ : St} (hm : m = 0 ∨ m = 1 ∨ m = 2 ∨ m = 3) (hP : x_X7_ofPool a12 a18 m γ = (0, g, γ)) (hA : x_X7_ofPoolAnew a12 a18 m γ = (0, g, γ)) (k : Nat) (a13 a14 a15 a16 : Int32) :
    x_LB_1031 K91 K982 K1004 xs Ln (k + 1) a3 a4 a5 a6 a12 a13 a14 a15 a16 a17 a18 m γ = x_LB_1031 K91 K982 K1004 xs Ln k a3 a4 a5 a6 a12 (a13 + if m = 2 then g else 0) (a14 + if m = 3 then g else 0) (a15 + if m = 0 then g else 0) (a16 + if m = 1 then g else 0) a17 a18 (m + 1) γ := by
  have h4 : ¬ 4 ≤ m := by rcases hm with e | e | e | e <;> subst e <;> decide
  have e0 : x_LB_1031 K91 K982 K1004 xs Ln (k + 1) a3 a4 a5 a6 a12 a13 a14 a15 a16 a17 a18 m γ = (if 4 ≤ m then (K1004 a3 a4 a5 a6 a12 a13 a14 a15 a16 (a17 + 1) γ) else (if (x_X7_ofPool a12 a18 m γ).1 = 0 then (if (x_X7_ofPoolAnew a12 a18 m (x_X7_ofPool a12 a18 m γ).2.2).1 = 0 then (if ((x_X7_ofPool a12 a18 m γ).2.1) = ((x_X7_ofPoolAnew a12 a18 m (x_X7_ofPool a12 a18 m γ).2.2).2.1) then (if m = 0 then (x_LB_1079 K91 K982 K1004 (x_LB_1031 K91 K982 K1004 xs Ln k) xs Ln a3 a4 a5 a6 a12 a13 a14 a16 a17 a18 m ((x_X7_ofPool a12 a18 m γ).2.1) ((x_X7_ofPool a12 a18 m γ).2.1) a15 (x_X7_ofPoolAnew a12 a18 m (x_X7_ofPool a12 a18 m γ).2.2).2.2) else (x_LB_1079 K91 K982 K1004 (x_LB_1031 K91 K982 K1004 xs Ln k) xs Ln a3 a4 a5 a6 a12 a13 a14 a16 a17 a18 m ((x_X7_ofPool a12 a18 m γ).2.1) 0 a15 (x_X7_ofPoolAnew a12 a18 m (x_X7_ofPool a12 a18 m γ).2.2).2.2)) else ((0, 0, (x_X7_ofPoolAnew a12 a18 m (x_X7_ofPool a12 a18 m γ).2.2).2.2))) else (1, 0, (x_X7_ofPool a12 a18 m γ).2.2)) else (1, 0, γ))) := rfl
  rw [e0, if_neg h4, hP]
  dsimp only
  rw [hA]
  dsimp only
  rw [if_pos rfl, if_pos rfl, if_pos rfl]
  unfold x_LB_1079 x_LB_1096 x_LB_1113 x_LB_1130
  have n10 : ¬ (1 : Int32) = 0 := by decide
  have n01 : ¬ (0 : Int32) = 1 := by decide
  have n02 : ¬ (0 : Int32) = 2 := by decide
  have n03 : ¬ (0 : Int32) = 3 := by decide
  have n12 : ¬ (1 : Int32) = 2 := by decide
  have n13 : ¬ (1 : Int32) = 3 := by decide
  have n20 : ¬ (2 : Int32) = 0 := by decide
  have n21 : ¬ (2 : Int32) = 1 := by decide
  have n23 : ¬ (2 : Int32) = 3 := by decide
  have n30 : ¬ (3 : Int32) = 0 := by decide
  have n31 : ¬ (3 : Int32) = 1 := by decide
  have n32 : ¬ (3 : Int32) = 2 := by decide
  rcases hm with e | e | e | e <;> subst e <;> simp only [n10, n01, n02, n03, n12, n13, n20, n21, n23, n30, n31, n32, ↓reduceIte]
theorem r1031 {K982 : Int32 → Int32 → Int32 → Int32 → Int32 → St → Nat × Int32 × St} {K1004 : Int32 → Int32 → Int32 → Int32 → Int32 → Int32 → Int32 → Int32 → Int32 → Int32 → St → Nat × Int32 × St} {a3 a4 a5 a6 a12 a17 a18 : Int32} {g : Int32 → Int32} {γ : St} (h : ∀ m, (m = 0 ∨ m = 1 ∨ m = 2 ∨ m = 3) → x_X7_ofPool a12 a18 m γ = (0, g m, γ) ∧ x_X7_ofPoolAnew a12 a18 m γ = (0, g m, γ)) (a13 a14 a15 a16 : Int32) :
    x_LB_1031 K91 K982 K1004 xs Ln 5 a3 a4 a5 a6 a12 a13 a14 a15 a16 a17 a18 0 γ = K1004 a3 a4 a5 a6 a12 (a13 + g 2) (a14 + g 3) (a15 + g 0) (a16 + g 1) (a17 + 1) γ := by
  have n10 : ¬ (1 : Int32) = 0 := by decide
  have n01 : ¬ (0 : Int32) = 1 := by decide
  have n02 : ¬ (0 : Int32) = 2 := by decide
  have n03 : ¬ (0 : Int32) = 3 := by decide
  have n12 : ¬ (1 : Int32) = 2 := by decide
  have n13 : ¬ (1 : Int32) = 3 := by decide
  have n20 : ¬ (2 : Int32) = 0 := by decide
  have n21 : ¬ (2 : Int32) = 1 := by decide
  have n23 : ¬ (2 : Int32) = 3 := by decide
  have n30 : ¬ (3 : Int32) = 0 := by decide
  have n31 : ¬ (3 : Int32) = 1 := by decide
  have n32 : ¬ (3 : Int32) = 2 := by decide
  have p0 : (0 : Int32) + 1 = 1 := by decide
  have p1 : (1 : Int32) + 1 = 2 := by decide
  have p2 : (2 : Int32) + 1 = 3 := by decide
  have p3 : (3 : Int32) + 1 = 4 := by decide
  rw [s1031 (Or.inl rfl) (h 0 (Or.inl rfl)).1 (h 0 (Or.inl rfl)).2 4, p0]
  rw [s1031 (Or.inr (Or.inl rfl)) (h 1 (Or.inr (Or.inl rfl))).1 (h 1 (Or.inr (Or.inl rfl))).2 3, p1]
  rw [s1031 (Or.inr (Or.inr (Or.inl rfl))) (h 2 (Or.inr (Or.inr (Or.inl rfl)))).1 (h 2 (Or.inr (Or.inr (Or.inl rfl)))).2 2, p2]
  rw [s1031 (Or.inr (Or.inr (Or.inr rfl))) (h 3 (Or.inr (Or.inr (Or.inr rfl)))).1 (h 3 (Or.inr (Or.inr (Or.inr rfl)))).2 1, p3]
  simp only [n10, n01, n02, n03, n12, n13, n20, n21, n23, n30, n31, n32, ↓reduceIte, Int32.add_zero]
  show (if (4 : Int32) ≤ 4 then _ else _) = _
  rw [if_pos (Int32.le_refl _)]
end W979
end
