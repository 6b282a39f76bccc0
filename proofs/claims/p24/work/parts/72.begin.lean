noncomputable section
theorem has_1 {j : Nat} {y : Int32} {γ : St} (h : ¬ x_X5_has j y γ = 0) : x_X5_isIn (gV γ 5 j 1) y γS = 1 := by
  have e : x_X5_isIn (gV γ 5 j 1) y γ = x_X5_isIn (gV γ 5 j 1) y γS := rfl
  unfold x_X5_has at h
  rw [e] at h
  have k : x_X5_isIn (gV γ 5 j 1) y γS = 0 ∨ x_X5_isIn (gV γ 5 j 1) y γS = 1 := by
    unfold x_X5_isIn x_X5_isIn_22
    repeat' split
    all_goals first | exact Or.inl rfl | exact Or.inr rfl
  rcases k with k | k
  · rw [k] at h; exact absurd zN_0 h
  · exact k
theorem begin_c {nf np nb l r : Nat} {w t p : Int32} {γ : St} (h : IV nf np nb γ) (hl : l < nf) (hr : r < nf) (hp : p = -1 ∨ ∃ j, j < np ∧ p = nI j) :
    x_X7_begin (nI l) (nI r) w t p γ = (1, 0, γ) ∨ x_X7_begin (nI l) (nI r) w t p γ = (2, 0, γ) ∨ (x_X7_begin (nI l) (nI r) w t p γ = xn_X7_begin (nI l) (nI r) w t p γ ∧ gR γ 7 8 = none ∧ nb < 80 ∧ ∀ j, j < np → p = nI j → x_X5_isIn (gV γ 5 j 1) (nI l) γS = 1 ∧ x_X5_isIn (gV γ 5 j 1) (nI r) γS = 1) := by
  obtain ⟨i1, i2, i3, i4, i5⟩ := id h
  obtain ⟨g1, g2, g3, g4, g5, g6⟩ := gi_b i2
  have z1 : ¬ (1 : Int32) = 0 := by decide
  have e146 : x_X7_begin_146 (nI l) (nI r) w t p γ = (1, 0, γ) ∨ (x_X7_begin_146 (nI l) (nI r) w t p γ = xn_X7_begin (nI l) (nI r) w t p γ ∧ gR γ 7 8 = none ∧ nb < 80) := by
    unfold x_X7_begin_146 x_X7_begin_162
    cases e : gR γ 7 8 with
    | some b => exact Or.inl rfl
    | none =>
      show (if gV γ 7 0 6 < 80 then _ else _) = _ ∨ (if gV γ 7 0 6 < 80 then _ else _) = _ ∧ _
      rw [g3]
      by_cases c : nb < 80
      · have c1 : nI nb < 80 := by rw [show (80 : Int32) = nI 80 by decide]; exact nI_lt c (by omega)
        rw [if_pos c1]; exact Or.inr ⟨rfl, rfl, c⟩
      · have c1 : ¬ nI nb < 80 := by rw [show (80 : Int32) = nI 80 by decide]; exact nI_nlt (by omega) (by omega)
        rw [if_neg c1]; exact Or.inl rfl
  unfold x_X7_begin
  rw [fe_1 i3 hl i1, if_neg z1, fe_1 i3 hr i1, if_neg z1]
  rcases hp with e | ⟨j, hj, e⟩
  · subst e
    have hq : x_X7_poolOf (-1) γ = none := by unfold x_X7_poolOf x_X7_poolOf_30; rw [if_pos (by decide)]
    rw [hq]
    show (if (-1 : Int32) = -1 then x_X7_begin_45 (nI l) (nI r) w t (-1) none γ else x_X7_begin_35 γ) = _ ∨ (if (-1 : Int32) = -1 then x_X7_begin_45 (nI l) (nI r) w t (-1) none γ else x_X7_begin_35 γ) = _ ∨ ((if (-1 : Int32) = -1 then x_X7_begin_45 (nI l) (nI r) w t (-1) none γ else x_X7_begin_35 γ) = _ ∧ _)
    rw [if_pos rfl]
    unfold x_X7_begin_45 x_X7_begin_70
    by_cases c1 : nI l = nI r
    · rw [if_pos c1]; exact Or.inr (Or.inl rfl)
    · rw [if_neg c1]
      by_cases c2 : x_X7_isWithin w 0 2 γ = 0
      · rw [if_pos c2]; exact Or.inr (Or.inl rfl)
      · rw [if_neg c2]
        by_cases c3 : x_X7_isWithin t 1 45 γ = 0
        · rw [if_pos c3]; exact Or.inr (Or.inl rfl)
        · rw [if_neg c3]
          show x_X7_begin_113 (nI l) (nI r) w t (-1) none γ = _ ∨ x_X7_begin_113 (nI l) (nI r) w t (-1) none γ = _ ∨ (x_X7_begin_113 (nI l) (nI r) w t (-1) none γ = _ ∧ _)
          have e113 : x_X7_begin_113 (nI l) (nI r) w t (-1) none γ = x_X7_begin_146 (nI l) (nI r) w t (-1) γ := rfl
          rw [e113]
          rcases e146 with q | ⟨q1, q2, q3⟩
          · exact Or.inl q
          · exact Or.inr (Or.inr ⟨q1, q2, q3, fun j hj q => absurd q.symm (nI_m1 (by omega))⟩)
  · subst e
    rw [(poolOf_in g2 g4 g6 hj).1]
    show x_X7_begin_45 (nI l) (nI r) w t (nI j) (some j) γ = _ ∨ x_X7_begin_45 (nI l) (nI r) w t (nI j) (some j) γ = _ ∨ (x_X7_begin_45 (nI l) (nI r) w t (nI j) (some j) γ = _ ∧ _)
    unfold x_X7_begin_45 x_X7_begin_70
    by_cases c1 : nI l = nI r
    · rw [if_pos c1]; exact Or.inr (Or.inl rfl)
    · rw [if_neg c1]
      by_cases c2 : x_X7_isWithin w 0 2 γ = 0
      · rw [if_pos c2]; exact Or.inr (Or.inl rfl)
      · rw [if_neg c2]
        by_cases c3 : x_X7_isWithin t 1 45 γ = 0
        · rw [if_pos c3]; exact Or.inr (Or.inl rfl)
        · rw [if_neg c3]
          simp only [oc]
          unfold x_X7_begin_103
          by_cases c4 : x_X5_has j (nI l) γ = 0
          · rw [if_pos c4]; exact Or.inr (Or.inl rfl)
          · rw [if_neg c4]
            by_cases c5 : x_X5_has j (nI r) γ = 0
            · rw [if_pos c5]; exact Or.inr (Or.inl rfl)
            · rw [if_neg c5]
              unfold x_X7_begin_113 x_X7_begin_136
              simp only [oc]
              by_cases c6 : x_X5_isWithdrawn j (nI l) γ = 0
              · rw [if_pos c6]
                by_cases c7 : x_X5_isWithdrawn j (nI r) γ = 0
                · rw [if_pos c7]
                  rcases e146 with q | ⟨q1, q2, q3⟩
                  · exact Or.inl q
                  · refine Or.inr (Or.inr ⟨q1, q2, q3, fun j' hj' q => ?_⟩)
                    have := (nI_eq (by omega) (by omega)).mp q
                    subst this
                    exact ⟨has_1 c4, has_1 c5⟩
                · rw [if_neg c7]; exact Or.inl rfl
              · rw [if_neg c6]; exact Or.inl rfl
theorem begin_v {nf np nb l r : Nat} {w t p : Int32} {γ : St} (h : IV nf np nb γ) (hl : l < nf) (hr : r < nf) (hp : p = -1 ∨ ∃ j, j < np ∧ p = nI j) :
    (((x_X7_begin (nI l) (nI r) w t p γ).1 = 1 ∨ (x_X7_begin (nI l) (nI r) w t p γ).1 = 2) ∧ (x_X7_begin (nI l) (nI r) w t p γ).2.2 = γ) ∨ ((x_X7_begin (nI l) (nI r) w t p γ).1 = 0 ∧ (x_X7_begin (nI l) (nI r) w t p γ).2.1 = nI nb ∧ gR γ 7 8 = none ∧ IV nf np (nb + 1) (x_X7_begin (nI l) (nI r) w t p γ).2.2) := by
  have k9 := (gi_begin (nI l) (nI r) w t p h.2.1).2.2
  obtain ⟨i1, i2, i3, i4, i5⟩ := id h
  obtain ⟨g1, g2, g3, g4, g5, g6⟩ := gi_b i2
  rcases begin_c h hl hr hp with e | e | ⟨e, e1, e2, e3⟩
  · rw [e]; exact Or.inl ⟨Or.inl rfl, rfl⟩
  · rw [e]; exact Or.inl ⟨Or.inr rfl, rfl⟩
  · refine Or.inr ?_
    rw [e] at k9 ⊢
    have hx : xn_X7_begin (nI l) (nI r) w t p γ = (0, nI nb, sR (sV (sR (nB γ nb (nI l) (nI r) w t p) 9 nb (some nb)) 7 0 6 (nI nb + 1)) 7 8 (some nb)) := by
      unfold xn_X7_begin x_X7_putOnPiste x_X7_putOnPiste_36
      have e6 : gV (nB γ nb (nI l) (nI r) w t p) 7 0 6 = nI nb := by rw [nB_old (by omega) (by omega) (by omega)]; exact g3
      rw [g3, nI_clamp (by omega), e6, if_neg (by rw [show (80 : Int32) = nI 80 by decide]; exact nI_ge e2 (by omega)), nI_clamp (by omega)]
    rw [hx] at k9 ⊢
    dsimp only at k9 ⊢
    rw [if_pos rfl] at k9
    have old : ∀ c n k, ¬ (c = 0 ∧ n = nb) → ¬ (c = 2 ∧ n = 2 * nb) → ¬ (c = 2 ∧ n = 2 * nb + 1) → c ≠ 7 ∨ k ≠ 6 → gV (sR (sV (sR (nB γ nb (nI l) (nI r) w t p) 9 nb (some nb)) 7 0 6 (nI nb + 1)) 7 8 (some nb)) c n k = gV γ c n k := by
      intro c n k a1 a2 a3 a4
      rw [gV_sR, gV_sV, if_neg (by omega), gV_sR, nB_old a1 a2 a3]
    have n4 : gV (sR (sV (sR (nB γ nb (nI l) (nI r) w t p) 9 nb (some nb)) 7 0 6 (nI nb + 1)) 7 8 (some nb)) 0 nb 4 = p := by
      rw [gV_sR, gV_sV, if_neg (by omega), gV_sR]; unfold nB; rw [gV_sV, if_pos ⟨rfl, rfl, rfl⟩]
    have nl : gV (sR (sV (sR (nB γ nb (nI l) (nI r) w t p) 9 nb (some nb)) 7 0 6 (nI nb + 1)) 7 8 (some nb)) 2 (2 * nb) 0 = nI l := by
      have q : ¬ 2 * nb = 2 * nb + 1 := by omega
      rw [gV_sR, gV_sV, if_neg (by omega), gV_sR]; simp [nB, gV_sV, q]
    have nr : gV (sR (sV (sR (nB γ nb (nI l) (nI r) w t p) 9 nb (some nb)) 7 0 6 (nI nb + 1)) 7 8 (some nb)) 2 (2 * nb + 1) 0 = nI r := by
      have q : ¬ 2 * nb + 1 = 2 * nb := by omega
      rw [gV_sR, gV_sV, if_neg (by omega), gV_sR]; simp [nB, gV_sV, q]
    refine ⟨rfl, rfl, e1, i1, k9, ?_, Or.inr ⟨by omega, ?_⟩, fun i j hi hj q => ?_⟩
    · rw [old 7 0 5 (by omega) (by omega) (by omega) (by omega)]; exact i3
    · rw [gR_sR, if_pos ⟨rfl, rfl⟩]; rfl
    · rw [old 5 j 1 (by omega) (by omega) (by omega) (by omega)]
      by_cases c : i = nb
      · subst c
        rw [n4] at q
        rw [nl, nr]
        exact e3 j hj q
      · rw [old 0 i 4 (by omega) (by omega) (by omega) (by omega)] at q
        rw [old 2 (2 * i) 0 (by omega) (by omega) (by omega) (by omega), old 2 (2 * i + 1) 0 (by omega) (by omega) (by omega) (by omega)]
        exact i5 i j (by omega) hj q
section BR5
variable {K91 : Int32 → Int32 → Int32 → Int32 → St → Nat × Int32 × St} {xs : Nat → Int32} {Ln : Nat} {a6 : Int32}
theorem b_begin {nf np nb Y Z : Nat} {p : Int32} {γ : St} (h979 : H9 K91 xs Ln a6) (h : IV nf np nb γ) (hn : 0 < nf) (hY : Y < 2 ^ 31) (hZ : Z < 2 ^ 31) (hp : p = -1 ∨ ∃ j, j < np ∧ p = nI j) : OKr (x_LB_362 K91 xs Ln (nI nf) (nI np) (nI nb) a6 (nI Y) (nI Z) (bz γ) p γ) := by
  have hle := h.1
  have n0 : ¬ nI nf = 0 := nI_ne0 hn (by omega)
  unfold x_LB_362
  rw [if_neg n0, if_neg n0, pk_rem hZ hn (by omega), pk_rem hY hn (by omega), lc_1]
  have hv := begin_v (w := nI Y - nI Y / 3 * 3) (t := 1 + (nI Z - nI Z / 7 * 7)) h (Nat.mod_lt Z hn) (Nat.mod_lt Y hn) hp
  generalize x_X7_begin (nI (Z % nf)) (nI (Y % nf)) (nI Y - nI Y / 3 * 3) (1 + (nI Z - nI Z / 7 * 7)) p γ = q at hv
  unfold x_LB_390 x_LB_409 x_LB_430
  have hnb := (gi_b h.2.1).1
  rcases hv with ⟨e, e2⟩ | ⟨e1, e2, e3, e4⟩
  · have e5 : (cL q).2 = γ := e2
    have e6 : (cL q).1 < 0 ∧ ¬ (cL q).1 = -71 ∧ ¬ 0 ≤ (cL q).1 := by
      show cE q.1 q.2.1 < 0 ∧ ¬ cE q.1 q.2.1 = -71 ∧ ¬ 0 ≤ cE q.1 q.2.1
      rcases e with e | e
      · rw [cE_1 e]; decide
      · rw [cE_2 e]; decide
    rw [if_pos e6.1, if_neg e6.2.1, if_neg e6.2.2, e5, Int32.add_zero]
    exact h979 _ _ _ _ h
  · have e5 : (cL q).2 = q.2.2 := rfl
    have e6 : (cL q).1 = nI nb := by show cE _ _ = _; rw [cE_0 e1, e2]
    rw [e6, e5, if_neg (nI_pos (by omega)), if_pos rfl, bz_0 e3, if_pos rfl, if_neg (fun w => by
      have := nI_toInt (n := nb) (by omega)
      rw [w] at this
      have h2 : ((-71 : Int32)).toInt = -71 := by decide
      omega), if_pos (nI_pos' (by omega)), nI_1]
    exact h979 _ _ _ _ e4
end BR5
end
