noncomputable section
section X979
variable {K91 : Int32 → Int32 → Int32 → Int32 → St → Nat × Int32 × St} {xs : Nat → Int32} {Ln : Nat}
theorem l1004 {K982 : Int32 → Int32 → Int32 → Int32 → Int32 → St → Nat × Int32 × St} {nf np nb j : Nat} {a6 : Int32} {γ : St} (h : IV nf np nb γ) (hj : j < np) (hK : ∀ C, IV nf np nb C → OKr (K982 (nI nf) (nI np) (nI nb) a6 (nI j + 1) C)) : OKr (x_LB_1004 K91 K982 xs Ln 13 (nI nf) (nI np) (nI nb) a6 (nI j) 0 0 0 0 0 γ) := by
  obtain ⟨i1, ⟨M, hM⟩, i3, i4, i5⟩ := id h
  obtain ⟨a, g, r, V, ha, hg, hgM, h1, h4, hr, hrn, hV, hR, hS⟩ := rank_run hM hj i3 i1
  have ha' := pow12 i1 ha
  have fin : ∀ C, Ag k19 γ C → C.2 = γ.2 → ∀ t, t = r → OKr (x_LB_1145 K91 K982 xs Ln (nI nf) (nI np) (nI nb) a6 (nI j) (VS (fun v => TS M j v 2 0 nb) V t) (VS (fun v => TS M j v 3 0 nb) V t) (VS (fun v => TS M j v 0 0 nb) V t) (VS (fun v => TS M j v 1 0 nb) V t) C) := by
    intro C hC hC2 t ht
    subst ht
    obtain ⟨k1, k2⟩ := all_sum hM i5 hj ha' hg h1 hgM nb 0 (by omega)
    unfold x_LB_1145
    rw [hS, hS, hS, hS, if_pos k1, if_pos k2]
    exact hK C (iv_19 h hC hC2)
  have run : ∀ (k t : Nat) (C : St), nf - t < k → t ≤ r → Ag k19 γ C → C.2 = γ.2 → OKr (x_LB_1004 K91 K982 xs Ln k (nI nf) (nI np) (nI nb) a6 (nI j) (VS (fun v => TS M j v 2 0 nb) V t) (VS (fun v => TS M j v 3 0 nb) V t) (VS (fun v => TS M j v 0 0 nb) V t) (VS (fun v => TS M j v 1 0 nb) V t) (nI t) C) := by
    intro k
    induction k with
    | zero => intro t C hk; exact absurd hk (Nat.not_lt_zero _)
    | succ k ih =>
      intro t C hk ht hC hC2
      unfold x_LB_1004
      by_cases c : nf ≤ t
      · rw [if_pos (nI_le c (by omega))]
        exact fin C hC hC2 t (by omega)
      · rw [if_neg (nI_ge (by omega) (by omega))]
        obtain ⟨r1, r2, r3, r4, r5⟩ := hR C hC hC2
        rw [r5 t (by omega)]
        dsimp only
        rw [if_pos rfl]
        unfold x_LB_1018
        by_cases c2 : t < r
        · obtain ⟨v1, v2⟩ := hV t c2
          rw [if_pos c2, if_pos (nI_pos' (by omega))]
          have hI1 := I2_ord hM r1 r2 (Ag.rf _ _) rfl
          have hop : ∀ m : Int32, (m = 0 ∨ m = 1 ∨ m = 2 ∨ m = 3) → x_X7_ofPool (nI j) (nI (V t)) m (x_X5_orderRanked j C) = (0, TS M j (nI (V t)) m 0 nb, x_X5_orderRanked j C) ∧ x_X7_ofPoolAnew (nI j) (nI (V t)) m (x_X5_orderRanked j C) = (0, TS M j (nI (V t)) m 0 nb, x_X5_orderRanked j C) := by
            intro m hm
            have hb := ((mk_bit v1).mp v2).1
            have e1 := (r1 5 j 1 rfl).trans h1
            rcases hm with e | e | e | e
            · exact op_k (w := 0) hI1 hj v1 ha' e1 hb (by omega) (by rw [e]; decide)
            · exact op_k (w := 1) hI1 hj v1 ha' e1 hb (by omega) (by rw [e]; decide)
            · exact op_k (w := 2) hI1 hj v1 ha' e1 hb (by omega) (by rw [e]; decide)
            · exact op_k (w := 3) hI1 hj v1 ha' e1 hb (by omega) (by rw [e]; decide)
          rw [r1031 (g := fun m => TS M j (nI (V t)) m 0 nb) hop, nI_1]
          exact ih (t + 1) _ (by omega) (by omega) r1 r2
        · rw [if_neg c2, if_neg (show ¬ (0 : Int32) ≤ -1 by decide)]
          exact fin _ r1 r2 t (by omega)
  exact run 13 0 γ (by omega) (by omega) (Ag.rf _ _) rfl
theorem x979 {a6 : Int32} (hK : ∀ nf np nb C, IV nf np nb C → OKr (K91 (nI nf) (nI np) (nI nb) (a6 + 1) C)) : H9 K91 xs Ln a6 := by
  intro nf np nb γ h
  have hnp := (gi_b h.2.1).2.1
  have run : ∀ (k j : Nat) (C : St), np - j < k → j ≤ np → IV nf np nb C → OKr (x_LB_982 K91 xs Ln k (nI nf) (nI np) (nI nb) a6 (nI j) C) := by
    intro k
    induction k with
    | zero => intro j C hk; exact absurd hk (Nat.not_lt_zero _)
    | succ k ih =>
      intro j C hk hj hC
      unfold x_LB_982
      by_cases c : np ≤ j
      · rw [if_pos (nI_le c (by omega))]
        unfold x_LB_1186 x_LB_1191
        split
        · obtain ⟨C', e1, e2⟩ := refuses_eq hC
          rw [e1]
          dsimp only
          rw [if_pos rfl, if_neg (show ¬ (1 : Int32) = 0 by decide)]
          exact hK _ _ _ _ e2
        · exact hK _ _ _ _ hC
      · rw [if_neg (nI_ge (by omega) (by omega))]
        refine l1004 hC (by omega) (fun C' hC' => ?_)
        rw [nI_1]
        exact ih (j + 1) C' (by omega) (by omega) hC'
  exact run 7 0 γ (by omega) (by omega) h
end X979
end
