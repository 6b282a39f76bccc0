noncomputable section
section WDR
theorem wd_v {n nb np j f : Nat} {γ M : St} (hI : I2 n nb np γ M) (hj : j < np) (hf : f < 12) :
    x_X7_withdraw (nI j) (nI f) γ = (1, 0, γ) ∨ x_X7_withdraw (nI j) (nI f) γ = (3, 0, γ) ∨ ((x_X7_withdraw (nI j) (nI f) γ).1 = 0 ∧ ∃ g a, g < 4096 ∧ a < 4096 ∧ gV (x_X7_withdraw (nI j) (nI f) γ).2.2 5 j 4 = nI g ∧ g / 2 ^ f % 2 = 1 ∧ gV (x_X7_withdraw (nI j) (nI f) γ).2.2 5 j 1 = nI a ∧ a / 2 ^ f % 2 = 1) := by
  obtain ⟨⟨A1, A2, A3, A4, A5, A6, A7, A8, A9, A10, A11, A12, A13, A14⟩, hB, hZ, hP, hF, hO, hG, hK⟩ := id hI
  obtain ⟨o1, o2, ⟨a, nf2, b1, b2, b3, b4⟩, o4, ⟨g, hg, o5⟩, o6⟩ := hO j hj
  have ha := pow12 b1 b3
  have z1 : ¬ (1 : Int32) = 0 := by decide
  have h1 : gV γ 5 j 1 = nI a := o2.trans b4
  by_cases c : a / 2 ^ f % 2 = 1
  · have ep : x_X7_poolWith (nI j) (nI f) γ = (0, j, γ) := by
      unfold x_X7_poolWith
      rw [(poolOf_in A6 A7 A14 hj).1]
      simp only [oc]
      rw [has_k hf ha h1, if_pos c, if_neg z1]
    unfold x_X7_withdraw
    rw [ep]
    dsimp only
    rw [if_pos rfl]
    unfold x_X7_withdraw_24
    by_cases c2 : x_X5_isWithdrawn j (nI f) γ = 0
    · rw [if_pos c2]
      by_cases c3 : x_X7_isBusyFor j (nI f) γ = 0
      · rw [if_pos c3]
        obtain ⟨C2, r1, r2, r3⟩ := withdraw_run hI hj hf hg o5 fu 0 γ (by rw [fuE]; omega) (by omega) ⟨fun _ _ _ _ => rfl, rfl, fun f w _ _ => by unfold TS; rw [Int32.add_zero, Int32.zero_add]⟩
        have r1 : x_X7_withdraw_40 fu (nI f) j 0 0 γ = (0, TS M j (nI f) 0 0 nb, x_X5_markWithdrawn j (nI f) C2) := r1
        have q5 : ∀ k, gV C2 5 j k = gV γ 5 j k := fun k => r3.1 5 j k (fun e => absurd e.1 (by decide))
        have hmark : x_X5_markWithdrawn j (nI f) C2 = sV C2 5 j 4 (nI (g ||| 2 ^ f)) := by
          unfold x_X5_markWithdrawn
          rw [has_k hf ha ((q5 1).trans h1), if_pos c, if_neg z1, q5, o4, o5, or_eq hf hg]
        rw [r1, hmark]
        refine Or.inr (Or.inr ⟨rfl, g ||| 2 ^ f, a, or_lt hf hg, ha, ?_, or_bit.mpr (Or.inr rfl), ?_, c⟩)
        · show gV (sV C2 5 j 4 (nI (g ||| 2 ^ f))) 5 j 4 = _
          rw [gV_sV, if_pos ⟨rfl, rfl, rfl⟩]
        · show gV (sV C2 5 j 4 (nI (g ||| 2 ^ f))) 5 j 1 = _
          rw [gV_sV, if_neg (by omega), q5, h1]
      · rw [if_neg c3]; exact Or.inl rfl
    · rw [if_neg c2]; exact Or.inl rfl
  · have ep : x_X7_poolWith (nI j) (nI f) γ = (3, 0, γ) := by
      unfold x_X7_poolWith x_X7_poolWith_18
      rw [(poolOf_in A6 A7 A14 hj).1]
      simp only [oc]
      rw [has_k hf ha h1, if_neg c, if_pos rfl]
    unfold x_X7_withdraw
    rw [ep]
    exact Or.inr (Or.inl rfl)
theorem TSz {M : St} {j : Nat} {f w : Int32} : ∀ r i, (∀ k, i ≤ k → k < i + r → ct M j f w k = 0) → TS M j f w i r = 0
  | 0, i, _ => rfl
  | r + 1, i, h => by
    unfold TS
    rw [h i (by omega) (by omega), TSz r (i + 1) (fun k h1 h2 => h k (by omega) (by omega))]
    rfl
/-- one that has left has nothing -/
theorem gone_0 {n nb np j f g : Nat} {γ M : St} (hI : I2 n nb np γ M) (hj : j < np) (hf : f < 12) (hg : g < 4096) (h4 : gV γ 5 j 4 = nI g) (hb : g / 2 ^ f % 2 = 1) (w : Int32) : TS M j (nI f) w 0 nb = 0 := by
  obtain ⟨⟨A1, A2, A3, A4, A5, A6, A7, A8, A9, A10, A11, A12, A13, A14⟩, hB, hZ, hP, hF, hO, hG, hK⟩ := id hI
  have hM : gV M 37 0 j = nI g := ((hO j hj).2.2.2.1).symm.trans h4
  refine TSz nb 0 (fun i _ hi => ?_)
  have hi : i < nb := by omega
  obtain ⟨b1, b2, ⟨l, hl, b3⟩, ⟨r, hr, b4⟩, -⟩ := hB i hi
  have i80 : i < 80 := by omega
  have j6 : j < 6 := by omega
  by_cases c : cdP M j i l r
  · obtain ⟨c1, c2, c3, c4⟩ := id c
    have c3' := c3
    have c4' := c4
    rw [hM, bit_m hl hg] at c3'
    rw [hM, bit_m hr hg] at c4'
    have gl : ¬ g / 2 ^ l % 2 = 1 := by intro q; rw [if_pos q] at c3'; exact absurd c3' (by decide)
    have gr : ¬ g / 2 ^ r % 2 = 1 := by intro q; rw [if_pos q] at c4'; exact absurd c4' (by decide)
    have nl : ¬ nI l = nI f := fun q => gl (by rw [(nI_eq (by omega) (by omega)).mp q]; exact hb)
    have nr : ¬ nI r = nI f := fun q => gr (by rw [(nI_eq (by omega) (by omega)).mp q]; exact hb)
    have z1 : ¬ (1 : Int32) = 0 := by decide
    have hs : x_X8_sideIn (nI i) (nI j) (nI f) M = -1 := by
      unfold x_X8_sideIn x_X8_sideIn_75
      rw [nI_clamp (show i < 2 ^ 31 by omega), nI_clamp (show j < 2 ^ 31 by omega), clamp2 i80, clamp21 i80, b3, b4, if_pos c1, if_neg c2, if_pos c3, if_pos c4, if_neg z1, if_neg nl, if_neg nr]
    unfold ct
    rw [hs, if_pos rfl]
  · exact ct_not i80 j6 b3 b4 c
variable {K91 : Int32 → Int32 → Int32 → Int32 → St → Nat × Int32 × St} {xs : Nat → Int32} {Ln : Nat} {a6 : Int32}
theorem b_withdraw {nf np nb j f : Nat} {a10 : Int32} {γ : St} (h979 : H9 K91 xs Ln a6) (h : IV nf np nb γ) (hj : j < np) (hf : f < nf) (h2 : 2 ≤ nf) (e10 : a10 - a10 / nI nf * nI nf = nI f) :
    OKr (x_LB_845 K91 xs Ln (nI nf) (nI np) (nI nb) a6 a10 (nI j) (x_L_call 10 (nI j) (nI f) 0 0 0 γ).1 (x_L_call 10 (nI j) (nI f) 0 0 0 γ).2) := by
  have hle := h.1
  have nz : ¬ nI nf = 0 := by rw [show (0 : Int32) = nI 0 by decide]; intro q; have := (nI_eq (by omega) (by omega)).mp q; omega
  rw [lc_10]
  have hiv : IV nf np nb (x_X7_withdraw (nI j) (nI f) γ).2.2 := iv_of h (fw_X7_withdraw (FR.rf γ)) (gi_withdraw (nI j) (nI f) h.2.1).2
  have e2 : (cL (x_X7_withdraw (nI j) (nI f) γ)).2 = (x_X7_withdraw (nI j) (nI f) γ).2.2 := rfl
  rw [e2]
  unfold x_LB_845 x_LB_888
  by_cases c : (cL (x_X7_withdraw (nI j) (nI f) γ)).1 < 0
  · rw [if_pos c]; exact h979 _ _ _ _ hiv
  · rw [if_neg c, if_neg nz, e10]
    obtain ⟨M0, hM0⟩ := h.2.1
    rcases wd_v hM0 hj (show f < 12 by omega) with e | e | ⟨-, g, a, hg, ha, h4, hb, h1, hm⟩
    · rw [e, cL_1 rfl] at c; exact absurd (show (-73 : Int32) < 0 by decide) c
    · rw [e, cL_3 rfl] at c; exact absurd (show (-71 : Int32) < 0 by decide) c
    · obtain ⟨M, hM⟩ := hiv.2.1
      have hop := (op_k (m := 0) (w := 0) hM hj (show f < 12 by omega) ha h1 hm (by omega) (by decide)).1
      rw [gone_0 hM hj (show f < 12 by omega) hg h4 hb 0] at hop
      rw [hop]
      dsimp only
      rw [if_pos rfl, if_pos rfl, if_neg nz, lc_10]
      have ew : x_X7_withdraw (nI j) (nI f) (x_X7_withdraw (nI j) (nI f) γ).2.2 = (1, 0, (x_X7_withdraw (nI j) (nI f) γ).2.2) := by
        obtain ⟨⟨A1, A2, A3, A4, A5, A6, A7, A8, A9, A10, A11, A12, A13, A14⟩, -⟩ := id hM
        generalize (x_X7_withdraw (nI j) (nI f) γ).2.2 = γ' at *
        have z1 : ¬ (1 : Int32) = 0 := by decide
        have ep : x_X7_poolWith (nI j) (nI f) γ' = (0, j, γ') := by
          unfold x_X7_poolWith
          rw [(poolOf_in A6 A7 A14 hj).1]
          simp only [oc]
          rw [has_k (show f < 12 by omega) ha h1, if_pos hm, if_neg z1]
        unfold x_X7_withdraw
        rw [ep]
        dsimp only
        rw [if_pos rfl, gone_k (show f < 12 by omega) hg h4, if_pos hb, if_neg z1]
        rfl
      rw [ew, cL_1 rfl]
      unfold x_LB_881 x_LB_888
      dsimp only
      rw [if_pos rfl]
      exact h979 _ _ _ _ hiv
end WDR
end
