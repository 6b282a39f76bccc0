
theorem rf_begin3 {a b c d e : Int32} {γ : St} (h : x_X7_isFencer a γ = 0 ∨ x_X7_isFencer b γ = 0 ∨ (x_X7_poolOf e γ = none ∧ ¬ e = -1)) : x_X7_begin a b c d e γ = (3, 0, γ) := by
  unfold x_X7_begin x_X7_begin_35
  by_cases h1 : x_X7_isFencer a γ = 0
  · rw [if_pos h1]
  · rw [if_neg h1]
    by_cases h2 : x_X7_isFencer b γ = 0
    · rw [if_pos h2]
    · rw [if_neg h2]
      rcases h with h | h | ⟨h3, h4⟩
      · exact absurd h h1
      · exact absurd h h2
      · rw [h3]; simp only [oc]; rw [if_neg h4]
theorem rf_begin2 {a b c d : Int32} {γ : St} (h1 : ¬ x_X7_isFencer a γ = 0) (h2 : ¬ x_X7_isFencer b γ = 0) (h : a = b ∨ x_X7_isWithin c 0 2 γ = 0 ∨ x_X7_isWithin d 1 45 γ = 0) : x_X7_begin a b c d (-1) γ = (2, 0, γ) := by
  have hp : x_X7_poolOf (-1) γ = none := by unfold x_X7_poolOf x_X7_poolOf_30; rw [if_pos (by decide)]
  unfold x_X7_begin
  rw [if_neg h1, if_neg h2, hp]
  show (if (-1 : Int32) = -1 then x_X7_begin_45 a b c d (-1) none γ else x_X7_begin_35 γ) = _
  rw [if_pos rfl]
  unfold x_X7_begin_45 x_X7_begin_70
  by_cases c1 : a = b
  · rw [if_pos c1]
  · rw [if_neg c1]
    by_cases c2 : x_X7_isWithin c 0 2 γ = 0
    · rw [if_pos c2]
    · rw [if_neg c2]
      rcases h with h | h | h
      · exact absurd h c1
      · exact absurd h c2
      · rw [if_pos h]
theorem rf_act2 {a b c : Int32} {γ : St} (h : x_X7_isSide a γ = 0 ∨ x_X7_isWithin b 0 6 γ = 0 ∨ x_X7_isWithin c 0 1000000 γ = 0) : x_X7_act a b c γ = (2, 0, γ) := by
  unfold x_X7_act x_X7_act_27
  by_cases c1 : x_X7_isSide a γ = 0
  · rw [if_pos c1]
  · rw [if_neg c1]
    by_cases c2 : x_X7_isWithin b 0 6 γ = 0
    · rw [if_pos c2]
    · rw [if_neg c2]
      rcases h with h | h | h
      · exact absurd h c1
      · exact absurd h c2
      · rw [if_pos h]
theorem rf_hit2 {a b c d : Int32} {γ : St} (h : x_X7_isSide a γ = 0 ∨ x_X7_isWithin b 0 1000000 γ = 0 ∨ x_X7_isWithin c 0 1000 γ = 0 ∨ x_X7_isWithin d 0 2 γ = 0) : x_X7_hit a b c d γ = (2, 0, γ) := by
  unfold x_X7_hit x_X7_hit_17 x_X7_hit_48
  by_cases c1 : x_X7_isSide a γ = 0
  · rw [if_pos c1]
  · rw [if_neg c1]
    by_cases c2 : x_X7_isWithin b 0 1000000 γ = 0
    · rw [if_pos c2]
    · rw [if_neg c2]
      by_cases c3 : x_X7_isWithin c 0 1000 γ = 0
      · rw [if_pos c3]
      · rw [if_neg c3]
        rcases h with h | h | h | h
        · exact absurd h c1
        · exact absurd h c2
        · exact absurd h c3
        · rw [if_pos h]
theorem rf_card2 {a b : Int32} {γ : St} (h : x_X7_isSide a γ = 0 ∨ x_X7_isWithin b 1 3 γ = 0) : x_X7_card a b γ = (2, 0, γ) := by
  unfold x_X7_card x_X7_card_16
  by_cases c1 : x_X7_isSide a γ = 0
  · rw [if_pos c1]
  · rw [if_neg c1]
    rcases h with h | h
    · exact absurd h c1
    · rw [if_pos h]
theorem rf_clock2 {a : Int32} {γ : St} (h : x_X7_isWithin a 1 240 γ = 0) : x_X7_clock a γ = (2, 0, γ) := by unfold x_X7_clock; rw [if_pos h]
theorem rf_seed2 {a : Int32} {γ : St} (h : ¬ 0 ≤ a) : x_X7_seed a γ = (2, γ) := by unfold x_X7_seed; rw [if_neg h]
theorem rf_pool2 {a : Int32} {γ : St} (h : ¬ (a &&& (-(1 <<< (gV γ 7 0 5 &&& 31)))) = 0 ∨ ¬ 2 ≤ x_J6_bitCount_0f7a4 a γ) : x_X7_pool a γ = (2, 0, γ) := by
  unfold x_X7_pool x_X7_pool_22
  by_cases c : (a &&& (-(1 <<< (gV γ 7 0 5 &&& 31)))) = 0
  · rw [if_pos c]
    rcases h with h | h
    · exact absurd c h
    · rw [if_neg h]
  · rw [if_neg c]
theorem pw_out {a b : Int32} {γ : St} (h : x_X7_poolOf a γ = none) : x_X7_poolWith a b γ = (3, 0, γ) := by unfold x_X7_poolWith x_X7_poolWith_18; rw [h]; rfl
theorem pw_not {a b : Int32} {j : Nat} {γ : St} (h : x_X7_poolOf a γ = some j) (h2 : x_X5_has j b γ = 0) : x_X7_poolWith a b γ = (3, 0, γ) := by unfold x_X7_poolWith x_X7_poolWith_18; rw [h]; simp only [oc]; rw [if_pos h2]
theorem rf_withdraw3 {a b : Int32} {γ : St} (h : x_X7_poolWith a b γ = (3, 0, γ)) : x_X7_withdraw a b γ = (3, 0, γ) := by unfold x_X7_withdraw; rw [h]; exact if_neg (show ¬ (3 : Nat) = 0 by decide)
theorem rf_ofPool3 {a b c : Int32} {γ : St} (h : x_X7_poolWith a b γ = (3, 0, γ)) : x_X7_ofPool a b c γ = (3, 0, γ) := by unfold x_X7_ofPool; rw [h]; exact if_neg (show ¬ (3 : Nat) = 0 by decide)
theorem rf_ofPoolAnew3 {a b c : Int32} {γ : St} (h : x_X7_poolWith a b γ = (3, 0, γ)) : x_X7_ofPoolAnew a b c γ = (3, 0, γ) := by unfold x_X7_ofPoolAnew; rw [h]; exact if_neg (show ¬ (3 : Nat) = 0 by decide)
theorem rf_tableau3 {a : Int32} {γ : St} (h : x_X7_poolOf a γ = none) : x_X7_tableau a γ = (3, 0, γ) := by unfold x_X7_tableau; rw [h]; rfl
theorem rf_wins3 {a b c : Int32} {γ : St} (h : x_X1_hasMatch a b γ = 0) : x_X7_wins a b c γ = (3, 0, γ) := by
  have e : x_X7_checkMatch a b γ = (3, γ) := by unfold x_X7_checkMatch; rw [if_pos h]
  unfold x_X7_wins; rw [e]; exact if_neg (show ¬ (3 : Nat) = 0 by decide)
theorem rf_meets3 {a b c : Int32} {γ : St} (h : x_X1_hasMatch a b γ = 0) : x_X7_meets a b c γ = (3, 0, γ) := by
  have e : x_X7_checkMatch a b γ = (3, γ) := by unfold x_X7_checkMatch; rw [if_pos h]
  unfold x_X7_meets; rw [e]; exact if_neg (show ¬ (3 : Nat) = 0 by decide)
theorem rf_lamp2 {a : Int32} {γ : St} (h : x_X7_isSide a γ = 0) : x_X7_lamp a γ = (2, 0, γ) := by unfold x_X7_lamp; rw [if_pos h]
theorem rf_ofBout3 {a b : Int32} {γ : St} (h : x_X7_boutAt a γ = none) : x_X7_ofBout a b γ = (3, 0, γ) := by unfold x_X7_ofBout; rw [h]; rfl
theorem rf_ofBout2 {a b : Int32} {i : Nat} {γ : St} (h : x_X7_boutAt a γ = some i) (h2 : x_X7_isWithin b 0 5 γ = 0) : x_X7_ofBout a b γ = (2, 0, γ) := by unfold x_X7_ofBout; rw [h]; simp only [oc]; rw [if_pos h2]
theorem rf_rank3 {a b : Int32} {γ : St} (h : x_X7_poolOf a γ = none ∨ ¬ 0 ≤ b) : x_X7_rank a b γ = (3, 0, γ) := by
  unfold x_X7_rank x_X7_rank_14
  cases e : x_X7_poolOf a γ with
  | none => rfl
  | some j =>
    simp only [oc]
    rcases h with h | h
    · rw [e] at h; exact absurd h (by simp)
    · rw [if_neg h]
theorem si_0 {a : Int32} (h : ¬ a = 0 ∧ ¬ a = 1) (γ : St) : x_X7_isSide a γ = 0 := by unfold x_X7_isSide; rw [if_neg h.1, if_neg h.2]
theorem wi_0 {a l m : Int32} (h : a < l ∨ m < a) (γ : St) : x_X7_isWithin a l m γ = 0 := by
  unfold x_X7_isWithin x_X7_isWithin_14
  by_cases c : a < l
  · rw [if_pos c]
  · rw [if_neg c]
    rcases h with h | h
    · exact absurd h c
    · rw [if_pos h]
theorem fe_0 {a : Int32} {nf : Nat} {γ : St} (hf : gV γ 7 0 5 = nI nf) (h : a < 0 ∨ nI nf ≤ a) : x_X7_isFencer a γ = 0 := by
  unfold x_X7_isFencer x_X7_isFencer_16
  by_cases c : a < 0
  · rw [if_pos c]
  · rw [if_neg c, hf]
    rcases h with h | h
    · exact absurd h c
    · rw [if_pos h]
theorem fe_1 {a nf : Nat} {γ : St} (hf : gV γ 7 0 5 = nI nf) (h : a < nf) (h12 : nf ≤ 12) : x_X7_isFencer (nI a) γ = 1 := by
  unfold x_X7_isFencer
  rw [if_neg (nI_pos (by omega)), hf, if_neg (nI_ge h (by omega))]
theorem ma_0 {P : Nat} {γ : St} (hP : gV γ 1 0 2 = nI P) (hP16 : P ≤ 16) {m : Int32} (h : m < 0 ∨ 8 ≤ m) : x_X1_hasMatch 0 m γ = 0 := by
  unfold x_X1_hasMatch x_X1_hasMatch_17
  by_cases c : m < 0
  · rw [if_pos c]
  · rw [if_neg c]
    have e : x_X1_matchesIn 0 γ = nI (P / 2) := by
      unfold x_X1_matchesIn
      rw [if_neg (by decide), if_neg (by decide), hP]
      exact shr_tab P (by omega) 0 (by omega)
    rw [e]
    rcases h with h | h
    · exact absurd h c
    · have e8 : (8 : Int32) = nI 8 := by decide
      rw [e8] at h
      rw [if_pos (Int32.le_trans (nI_le (show P / 2 ≤ 8 by omega) (by omega)) h)]
theorem ma_r {r : Int32} {γ : St} (h : r < 0 ∨ 3 < r) : x_X1_hasMatch r 0 γ = 0 := by
  unfold x_X1_hasMatch x_X1_hasMatch_17
  rw [if_neg (by decide)]
  have e : x_X1_matchesIn r γ = 0 := by
    unfold x_X1_matchesIn x_X1_matchesIn_20
    by_cases c : r < 0
    · rw [if_pos c]
    · rw [if_neg c]
      rcases h with h | h
      · exact absurd h c
      · rw [if_pos h]
  rw [e, if_pos (by decide)]
theorem mx_le {n : Nat} (h : n ≤ 100) : nI n ≤ 2147483647 := by
  have e : (2147483647 : Int32) = nI 2147483647 := by decide
  rw [e]; exact nI_le (by omega) (by omega)
/-- what the refusals stand on -/
def RQ (nf np nb : Nat) (γ : St) : Prop := nf ≤ 12 ∧ np ≤ 6 ∧ nb ≤ 80 ∧ gV γ 7 0 5 = nI nf ∧ gV γ 7 0 6 = nI nb ∧ gV γ 7 0 7 = nI np ∧ (∀ i, i < nb → gR γ 9 i = some i) ∧ (∀ j, j < np → gR γ 10 j = some j) ∧ (∃ P, P ≤ 16 ∧ gV γ 1 0 2 = nI P) ∧ (0 < np → ∃ a, a < 2 ^ nf ∧ gV γ 5 0 1 = nI a)
theorem rq_of {nf np nb : Nat} {γ : St} (h : IV nf np nb γ) : RQ nf np nb γ := by
  obtain ⟨h1, h2, h3, -, -⟩ := h
  obtain ⟨g1, g2, g3, g4, g5, g6⟩ := gi_b h2
  obtain ⟨M, hA, hB, hZ, hP, hF, hO, hG, hK⟩ := h2
  refine ⟨h1, g2, g1, h3, g3, g4, g5, g6, ?_, fun h0 => ?_⟩
  · obtain ⟨R, P, hRP, k1, -⟩ := hK
    have := RP_le (show RP R P from hRP)
    exact ⟨P, this.2, k1⟩
  · obtain ⟨o1, o2, ⟨a, nf', q1, q2, q3, q4⟩, -⟩ := hO 0 h0
    have e : nI nf = nI nf' := by rw [← h3, hA.1, q2]
    have : nf = nf' := (nI_eq (by omega) (by omega)).mp e
    subst this
    exact ⟨a, q3, o2.trans q4⟩
theorem has_no {nf np nb : Nat} {γ : St} {f : Int32} (h : RQ nf np nb γ) (h0 : 0 < np) (hf : f < 0 ∨ nI nf ≤ f) : x_X5_has 0 f γ = 0 := by
  obtain ⟨h1, h2, h3, h4, h5, h6, h7, h8, h9, h10⟩ := h
  obtain ⟨a, ha, e⟩ := h10 h0
  have ha' := pow12 h1 ha
  by_cases c : f < 0 ∨ nI 12 ≤ f
  · unfold x_X5_has; rw [isIn_out _ c]; rfl
  · have c1 : ¬ f < 0 := fun q => c (Or.inl q)
    obtain ⟨k, hk, rfl⟩ := nI_of c1
    have k12 : k < 12 := by
      by_cases q : k < 12
      · exact q
      · exact absurd (Or.inr (nI_le (by omega) hk)) c
    rw [has_k k12 ha' e, if_neg]
    intro q
    have := bit_lt ha q
    rcases hf with hf | hf
    · exact c1 hf
    · exact (nI_ge this (by omega)) hf

theorem pm_x {nf x : Nat} (h : nf ≤ 12) (hx : x < 2 ^ 32) (hb : ¬ x < 2 ^ nf) (y : Int32) (hy : y.toBitVec.toNat = x) : ¬ (y &&& (-(1 <<< (nI nf &&& 31)))) = 0 := by
  intro q
  obtain ⟨z, hz, e⟩ := (mask_eq h y).mp q
  have h2 : 2 ^ nf ≤ 2 ^ 12 := Nat.pow_le_pow_right (by omega) h
  rw [e, pk_tn (by omega)] at hy
  omega
theorem pm_1 {nf : Nat} (h : nf ≤ 12) : ¬ ((1 <<< (nI nf &&& 31)) &&& (-(1 <<< (nI nf &&& 31)))) = 0 := by
  have t := shl_tab nf (by omega)
  simp only [Bool.and_eq_true, beq_iff_eq] at t
  have h2 : 2 ^ nf ≤ 2 ^ 12 := Nat.pow_le_pow_right (by omega) h
  exact pm_x h (x := 2 ^ nf) (by omega) (by omega) _ (by rw [t.1]; exact pk_tn (by omega))
theorem pm_2 {nf : Nat} (h : nf ≤ 12) : ¬ ((2147483647 : Int32) &&& (-(1 <<< (nI nf &&& 31)))) = 0 := by
  have h2 : 2 ^ nf ≤ 2 ^ 12 := Nat.pow_le_pow_right (by omega) h
  exact pm_x h (x := 2147483647) (by omega) (by omega) _ (by decide)
theorem pm_3 {nf : Nat} (h : nf ≤ 12) : ¬ ((-1 : Int32) &&& (-(1 <<< (nI nf &&& 31)))) = 0 := by
  have h2 : 2 ^ nf ≤ 2 ^ 12 := Nat.pow_le_pow_right (by omega) h
  exact pm_x h (x := 4294967295) (by omega) (by omega) _ (by decide)
set_option maxRecDepth 20000 in
set_option maxHeartbeats 4000000 in
theorem rp_0 {nf np nb : Nat} {γ : St} {q : Nat} (hR : RQ nf np nb γ) (K : Int32 → Int32 → Int32 → Int32 → Int32 → Int32 → Int32 → Int32 → Int32 → St → Nat × Int32 × St) (n a5 a6 a7 a8 : Int32) (hn : n = -1) (hK : K = x_L_refuses_33 q) : x_L_refuses_33 (q + 1) (nI nf) (nI np) (nI nb) 2147483647 a5 a6 a7 a8 0 γ = K (nI nf) (nI np) (nI nb) 2147483647 a5 a6 a7 a8 (0 + 1) γ := by
  obtain ⟨h1, h2, h3, h4, h5, h6, h7, h8, ⟨P, hP16, hP⟩, h10⟩ := id hR
  have e0 : x_L_call 1 (-1) 0 0 0 (-1) γ = (-71, γ) := by rw [lc_1]; exact cL_3 (rf_begin3 (Or.inl (fe_0 h4 (Or.inl (by decide)))))
  have e1 : x_L_call 1 0 (-1) 0 0 (-1) γ = (-71, γ) := by rw [lc_1]; exact cL_3 (rf_begin3 (Or.inr (Or.inl (fe_0 h4 (Or.inl (by decide))))))
  have e2 : x_L_call 1 0 0 0 0 (-2) γ = (-71, γ) := by rw [lc_1]; exact cL_3 (rf_begin3 (Or.inr (Or.inr ⟨(poolOf_out h6 (Or.inl (by decide))).1, (by decide)⟩)))
  have e3 : x_L_call 2 (-1) 0 0 0 0 γ = (-72, γ) := by rw [lc_2]; exact cL_2 (rf_act2 (Or.inl (si_0 (by decide) γ)))
  have e4 : x_L_call 2 0 (-1) 0 0 0 γ = (-72, γ) := by rw [lc_2]; exact cL_2 (rf_act2 (Or.inr (Or.inl (wi_0 (by decide) γ))))
  have e5 : x_L_call 2 0 0 (-1) 0 0 γ = (-72, γ) := by rw [lc_2]; exact cL_2 (rf_act2 (Or.inr (Or.inr (wi_0 (by decide) γ))))
  have e6 : x_L_call 3 (-1) 0 0 0 0 γ = (-72, γ) := by rw [lc_3]; exact cL_2 (rf_hit2 (Or.inl (si_0 (by decide) γ)))
  have e7 : x_L_call 3 0 (-1) 0 0 0 γ = (-72, γ) := by rw [lc_3]; exact cL_2 (rf_hit2 (Or.inr (Or.inl (wi_0 (by decide) γ))))
  have e8 : x_L_call 3 0 0 (-1) 0 0 γ = (-72, γ) := by rw [lc_3]; exact cL_2 (rf_hit2 (Or.inr (Or.inr (Or.inl (wi_0 (by decide) γ)))))
  have e9 : x_L_call 3 0 0 0 (-1) 0 γ = (-72, γ) := by rw [lc_3]; exact cL_2 (rf_hit2 (Or.inr (Or.inr (Or.inr (wi_0 (by decide) γ)))))
  have e10 : x_L_call 5 (-1) 1 0 0 0 γ = (-72, γ) := by rw [lc_5]; exact cL_2 (rf_card2 (Or.inl (si_0 (by decide) γ)))
  have e11 : x_L_call 5 0 0 0 0 0 γ = (-72, γ) := by rw [lc_5]; exact cL_2 (rf_card2 (Or.inr (wi_0 (by decide) γ)))
  have e12 : x_L_call 6 0 0 0 0 0 γ = (-72, γ) := by rw [lc_6]; exact cL_2 (rf_clock2 (wi_0 (by decide) γ))
  have e13 : x_L_call 8 (-2147483647 - 1) 0 0 0 0 γ = (-72, γ) := by rw [lc_8, rf_seed2 (by decide)]; rfl
  have e14 : x_L_call 9 0 0 0 0 0 γ = (-72, γ) := by rw [lc_9]; exact cL_2 (rf_pool2 (Or.inr (show ¬ 2 ≤ x_J6_bitCount_0f7a4 0 γS by decide)))
  have e15 : x_L_call 10 (-1) 0 0 0 0 γ = (-71, γ) := by rw [lc_10]; exact cL_3 (rf_withdraw3 (pw_out (poolOf_out h6 (Or.inl (by decide))).1))
  have e16 : x_L_call 11 (-1) 0 0 0 0 γ = (-71, γ) := by rw [lc_11]; exact cL_3 (rf_tableau3 (poolOf_out h6 (Or.inl (by decide))).1)
  have e17 : x_L_call 12 (-1) 0 9 0 0 γ = (-71, γ) := by rw [lc_12]; exact cL_3 (rf_wins3 (ma_r (by decide)))
  have e18 : x_L_call 12 0 (-1) 9 0 0 γ = (-71, γ) := by rw [lc_12]; exact cL_3 (rf_wins3 (ma_0 hP hP16 (by decide)))
  have e19 : x_L_call 13 (-1) 0 0 0 0 γ = (-72, γ) := by rw [lc_13]; exact cL_2 (rf_lamp2 (si_0 (by decide) γ))
  have e20 : x_L_call 14 (-1) 9 0 0 0 γ = (-71, γ) := by rw [lc_14]; exact cL_3 (rf_ofBout3 (boutAt_out h5 (Or.inl (by decide))).1)
  have e21 : x_L_call 15 (-1) 0 9 0 0 γ = (-71, γ) := by rw [lc_15]; exact cL_3 (rf_ofPool3 (pw_out (poolOf_out h6 (Or.inl (by decide))).1))
  have e22 : x_L_call 16 (-1) 0 9 0 0 γ = (-71, γ) := by rw [lc_16]; exact cL_3 (rf_ofPoolAnew3 (pw_out (poolOf_out h6 (Or.inl (by decide))).1))
  have e23 : x_L_call 17 (-1) 0 0 0 0 γ = (-71, γ) := by rw [lc_17]; exact cL_3 (rf_rank3 (Or.inl (poolOf_out h6 (Or.inl (by decide))).1))
  have e24 : x_L_call 17 0 (-2147483647 - 1) 0 0 0 γ = (-71, γ) := by rw [lc_17]; exact cL_3 (rf_rank3 (Or.inr (by decide)))
  have e25 : x_L_call 18 (-1) 0 9 0 0 γ = (-71, γ) := by rw [lc_18]; exact cL_3 (rf_meets3 (ma_r (by decide)))
  have e26 : x_L_call 18 0 (-1) 9 0 0 γ = (-71, γ) := by rw [lc_18]; exact cL_3 (rf_meets3 (ma_0 hP hP16 (by decide)))
  have g0 : ¬ nI nf < 2 → x_L_call 1 0 0 0 5 (-1) γ = (-72, γ) := fun hc => by
    have e2 : (2 : Int32) = nI 2 := by decide
    have hc : 2 ≤ nf := by rw [e2] at hc; exact Nat.not_lt.mp (fun q => hc (nI_lt q (by omega)))
    rw [lc_1]; exact cL_2 (rf_begin2 (by rw [show (0 : Int32) = nI 0 from rfl, fe_1 h4 (by omega) h1]; decide) (by rw [show (0 : Int32) = nI 0 from rfl, fe_1 h4 (by omega) h1]; decide) (Or.inl rfl))
  have g1 : ¬ nI nf < 2 → x_L_call 1 0 1 (-1) 5 (-1) γ = (-72, γ) := fun hc => by
    have e2 : (2 : Int32) = nI 2 := by decide
    have hc : 2 ≤ nf := by rw [e2] at hc; exact Nat.not_lt.mp (fun q => hc (nI_lt q (by omega)))
    rw [lc_1]; exact cL_2 (rf_begin2 (by rw [show (0 : Int32) = nI 0 from rfl, fe_1 h4 (by omega) h1]; decide) (by rw [show (1 : Int32) = nI 1 by decide, fe_1 h4 (by omega) h1]; decide) (Or.inr (Or.inl (wi_0 (by decide) γ))))
  have g2 : ¬ nI nf < 2 → x_L_call 1 0 1 0 0 (-1) γ = (-72, γ) := fun hc => by
    have e2 : (2 : Int32) = nI 2 := by decide
    have hc : 2 ≤ nf := by rw [e2] at hc; exact Nat.not_lt.mp (fun q => hc (nI_lt q (by omega)))
    rw [lc_1]; exact cL_2 (rf_begin2 (by rw [show (0 : Int32) = nI 0 from rfl, fe_1 h4 (by omega) h1]; decide) (by rw [show (1 : Int32) = nI 1 by decide, fe_1 h4 (by omega) h1]; decide) (Or.inr (Or.inr (wi_0 (by decide) γ))))
  have g3 : ¬ nI np = 0 → x_L_call 10 0 (-1) 0 0 0 γ = (-71, γ) := fun hc => by
    have hc : 0 < np := by rcases Nat.eq_zero_or_pos np with q | q; exact absurd (by rw [q]; rfl) hc; exact q
    rw [lc_10]; exact cL_3 (rf_withdraw3 (pw_not (by rw [show (0 : Int32) = nI 0 from rfl]; exact (poolOf_in h2 h6 h8 (by omega)).1) (has_no hR (by omega) (Or.inl (by decide)))))
  have g4 : ¬ nI np = 0 → x_L_call 15 0 (-1) 9 0 0 γ = (-71, γ) := fun hc => by
    have hc : 0 < np := by rcases Nat.eq_zero_or_pos np with q | q; exact absurd (by rw [q]; rfl) hc; exact q
    rw [lc_15]; exact cL_3 (rf_ofPool3 (pw_not (by rw [show (0 : Int32) = nI 0 from rfl]; exact (poolOf_in h2 h6 h8 (by omega)).1) (has_no hR (by omega) (Or.inl (by decide)))))
  have g5 : ¬ nI np = 0 → x_L_call 16 0 (-1) 9 0 0 γ = (-71, γ) := fun hc => by
    have hc : 0 < np := by rcases Nat.eq_zero_or_pos np with q | q; exact absurd (by rw [q]; rfl) hc; exact q
    rw [lc_16]; exact cL_3 (rf_ofPoolAnew3 (pw_not (by rw [show (0 : Int32) = nI 0 from rfl]; exact (poolOf_in h2 h6 h8 (by omega)).1) (has_no hR (by omega) (Or.inl (by decide)))))
  have g6 : ¬ nI nb = 0 → x_L_call 14 0 (-1) 0 0 0 γ = (-72, γ) := fun hc => by
    have hc : 0 < nb := by rcases Nat.eq_zero_or_pos nb with q | q; exact absurd (by rw [q]; rfl) hc; exact q
    rw [lc_14]; exact cL_2 (rf_ofBout2 (i := 0) (by rw [show (0 : Int32) = nI 0 from rfl]; exact (boutAt_in h3 h5 h7 (by omega)).1) (wi_0 (by decide) γ))
  have k1 : ((0 : Int32) = 1) = False := by decide
  have k2 : ((0 : Int32) = 2) = False := by decide
  have k4 : ((4 : Int32) ≤ 0) = False := by decide
  have z0 : ((1 : Int32) = 0) = False := by decide
  rw [hK]
  conv => lhs; unfold x_L_refuses_33
  by_cases cf : nI nf < 2 <;> by_cases cp : nI np = 0 <;> by_cases cb : nI nb = 0
  · simp only [eq_true cf, eq_true cp, eq_true cb, x_L_refuses_64, x_L_refuses_78, x_L_refuses_92, x_L_refuses_106, x_L_refuses_121, x_L_refuses_149, x_L_refuses_162, x_L_refuses_178, x_L_refuses_201, x_L_refuses_204, x_L_refuses_220, x_L_refuses_241, x_L_refuses_247, x_L_refuses_263, x_L_refuses_279, x_L_refuses_295, x_L_refuses_318, x_L_refuses_323, x_L_refuses_345, x_L_refuses_349, x_L_refuses_365, x_L_refuses_394, x_L_refuses_400, x_L_refuses_431, x_L_refuses_438, x_L_refuses_455, x_L_refuses_496, x_L_refuses_503, x_L_refuses_520, x_L_refuses_529, x_L_refuses_530, x_L_refuses_549, x_L_refuses_569, x_L_refuses_577, x_L_refuses_599, x_L_refuses_606, x_L_refuses_623, x_L_refuses_643, x_L_refuses_651, x_L_refuses_669, x_L_refuses_687, x_L_refuses_704, x_L_refuses_721, x_L_refuses_741, x_L_refuses_749, x_L_refuses_771, x_L_refuses_778, x_L_refuses_787, x_L_refuses_788, x_L_refuses_810, x_L_refuses_831, x_L_refuses_836, x_L_refuses_868, x_L_refuses_872, x_L_refuses_877, x_L_refuses_893, x_L_refuses_911, x_L_refuses_929, x_L_refuses_934, x_L_refuses_955, x_L_refuses_961, x_L_refuses_966, x_L_refuses_970, x_L_refuses_971, x_L_refuses_1028, e0, e1, e2, e3, e4, e5, e6, e7, e8, e9, e10, e11, e12, e13, e14, e15, e16, e17, e18, e19, e20, e21, e22, e23, e24, e25, e26, k1, k2, k4, z0, ↓reduceIte]
  · simp only [eq_true cf, eq_true cp, eq_false cb, g6 cb, x_L_refuses_64, x_L_refuses_78, x_L_refuses_92, x_L_refuses_106, x_L_refuses_121, x_L_refuses_149, x_L_refuses_162, x_L_refuses_178, x_L_refuses_201, x_L_refuses_204, x_L_refuses_220, x_L_refuses_241, x_L_refuses_247, x_L_refuses_263, x_L_refuses_279, x_L_refuses_295, x_L_refuses_318, x_L_refuses_323, x_L_refuses_345, x_L_refuses_349, x_L_refuses_365, x_L_refuses_394, x_L_refuses_400, x_L_refuses_431, x_L_refuses_438, x_L_refuses_455, x_L_refuses_496, x_L_refuses_503, x_L_refuses_520, x_L_refuses_529, x_L_refuses_530, x_L_refuses_549, x_L_refuses_569, x_L_refuses_577, x_L_refuses_599, x_L_refuses_606, x_L_refuses_623, x_L_refuses_643, x_L_refuses_651, x_L_refuses_669, x_L_refuses_687, x_L_refuses_704, x_L_refuses_721, x_L_refuses_741, x_L_refuses_749, x_L_refuses_771, x_L_refuses_778, x_L_refuses_787, x_L_refuses_788, x_L_refuses_810, x_L_refuses_831, x_L_refuses_836, x_L_refuses_868, x_L_refuses_872, x_L_refuses_877, x_L_refuses_893, x_L_refuses_911, x_L_refuses_929, x_L_refuses_934, x_L_refuses_955, x_L_refuses_961, x_L_refuses_966, x_L_refuses_970, x_L_refuses_971, x_L_refuses_1028, e0, e1, e2, e3, e4, e5, e6, e7, e8, e9, e10, e11, e12, e13, e14, e15, e16, e17, e18, e19, e20, e21, e22, e23, e24, e25, e26, k1, k2, k4, z0, ↓reduceIte]
  · simp only [eq_true cf, eq_false cp, eq_true cb, g3 cp, g4 cp, g5 cp, x_L_refuses_64, x_L_refuses_78, x_L_refuses_92, x_L_refuses_106, x_L_refuses_121, x_L_refuses_149, x_L_refuses_162, x_L_refuses_178, x_L_refuses_201, x_L_refuses_204, x_L_refuses_220, x_L_refuses_241, x_L_refuses_247, x_L_refuses_263, x_L_refuses_279, x_L_refuses_295, x_L_refuses_318, x_L_refuses_323, x_L_refuses_345, x_L_refuses_349, x_L_refuses_365, x_L_refuses_394, x_L_refuses_400, x_L_refuses_431, x_L_refuses_438, x_L_refuses_455, x_L_refuses_496, x_L_refuses_503, x_L_refuses_520, x_L_refuses_529, x_L_refuses_530, x_L_refuses_549, x_L_refuses_569, x_L_refuses_577, x_L_refuses_599, x_L_refuses_606, x_L_refuses_623, x_L_refuses_643, x_L_refuses_651, x_L_refuses_669, x_L_refuses_687, x_L_refuses_704, x_L_refuses_721, x_L_refuses_741, x_L_refuses_749, x_L_refuses_771, x_L_refuses_778, x_L_refuses_787, x_L_refuses_788, x_L_refuses_810, x_L_refuses_831, x_L_refuses_836, x_L_refuses_868, x_L_refuses_872, x_L_refuses_877, x_L_refuses_893, x_L_refuses_911, x_L_refuses_929, x_L_refuses_934, x_L_refuses_955, x_L_refuses_961, x_L_refuses_966, x_L_refuses_970, x_L_refuses_971, x_L_refuses_1028, e0, e1, e2, e3, e4, e5, e6, e7, e8, e9, e10, e11, e12, e13, e14, e15, e16, e17, e18, e19, e20, e21, e22, e23, e24, e25, e26, k1, k2, k4, z0, ↓reduceIte]
  · simp only [eq_true cf, eq_false cp, eq_false cb, g3 cp, g4 cp, g5 cp, g6 cb, x_L_refuses_64, x_L_refuses_78, x_L_refuses_92, x_L_refuses_106, x_L_refuses_121, x_L_refuses_149, x_L_refuses_162, x_L_refuses_178, x_L_refuses_201, x_L_refuses_204, x_L_refuses_220, x_L_refuses_241, x_L_refuses_247, x_L_refuses_263, x_L_refuses_279, x_L_refuses_295, x_L_refuses_318, x_L_refuses_323, x_L_refuses_345, x_L_refuses_349, x_L_refuses_365, x_L_refuses_394, x_L_refuses_400, x_L_refuses_431, x_L_refuses_438, x_L_refuses_455, x_L_refuses_496, x_L_refuses_503, x_L_refuses_520, x_L_refuses_529, x_L_refuses_530, x_L_refuses_549, x_L_refuses_569, x_L_refuses_577, x_L_refuses_599, x_L_refuses_606, x_L_refuses_623, x_L_refuses_643, x_L_refuses_651, x_L_refuses_669, x_L_refuses_687, x_L_refuses_704, x_L_refuses_721, x_L_refuses_741, x_L_refuses_749, x_L_refuses_771, x_L_refuses_778, x_L_refuses_787, x_L_refuses_788, x_L_refuses_810, x_L_refuses_831, x_L_refuses_836, x_L_refuses_868, x_L_refuses_872, x_L_refuses_877, x_L_refuses_893, x_L_refuses_911, x_L_refuses_929, x_L_refuses_934, x_L_refuses_955, x_L_refuses_961, x_L_refuses_966, x_L_refuses_970, x_L_refuses_971, x_L_refuses_1028, e0, e1, e2, e3, e4, e5, e6, e7, e8, e9, e10, e11, e12, e13, e14, e15, e16, e17, e18, e19, e20, e21, e22, e23, e24, e25, e26, k1, k2, k4, z0, ↓reduceIte]
  · simp only [eq_false cf, eq_true cp, eq_true cb, g0 cf, g1 cf, g2 cf, x_L_refuses_64, x_L_refuses_78, x_L_refuses_92, x_L_refuses_106, x_L_refuses_121, x_L_refuses_149, x_L_refuses_162, x_L_refuses_178, x_L_refuses_201, x_L_refuses_204, x_L_refuses_220, x_L_refuses_241, x_L_refuses_247, x_L_refuses_263, x_L_refuses_279, x_L_refuses_295, x_L_refuses_318, x_L_refuses_323, x_L_refuses_345, x_L_refuses_349, x_L_refuses_365, x_L_refuses_394, x_L_refuses_400, x_L_refuses_431, x_L_refuses_438, x_L_refuses_455, x_L_refuses_496, x_L_refuses_503, x_L_refuses_520, x_L_refuses_529, x_L_refuses_530, x_L_refuses_549, x_L_refuses_569, x_L_refuses_577, x_L_refuses_599, x_L_refuses_606, x_L_refuses_623, x_L_refuses_643, x_L_refuses_651, x_L_refuses_669, x_L_refuses_687, x_L_refuses_704, x_L_refuses_721, x_L_refuses_741, x_L_refuses_749, x_L_refuses_771, x_L_refuses_778, x_L_refuses_787, x_L_refuses_788, x_L_refuses_810, x_L_refuses_831, x_L_refuses_836, x_L_refuses_868, x_L_refuses_872, x_L_refuses_877, x_L_refuses_893, x_L_refuses_911, x_L_refuses_929, x_L_refuses_934, x_L_refuses_955, x_L_refuses_961, x_L_refuses_966, x_L_refuses_970, x_L_refuses_971, x_L_refuses_1028, e0, e1, e2, e3, e4, e5, e6, e7, e8, e9, e10, e11, e12, e13, e14, e15, e16, e17, e18, e19, e20, e21, e22, e23, e24, e25, e26, k1, k2, k4, z0, ↓reduceIte]
  · simp only [eq_false cf, eq_true cp, eq_false cb, g0 cf, g1 cf, g2 cf, g6 cb, x_L_refuses_64, x_L_refuses_78, x_L_refuses_92, x_L_refuses_106, x_L_refuses_121, x_L_refuses_149, x_L_refuses_162, x_L_refuses_178, x_L_refuses_201, x_L_refuses_204, x_L_refuses_220, x_L_refuses_241, x_L_refuses_247, x_L_refuses_263, x_L_refuses_279, x_L_refuses_295, x_L_refuses_318, x_L_refuses_323, x_L_refuses_345, x_L_refuses_349, x_L_refuses_365, x_L_refuses_394, x_L_refuses_400, x_L_refuses_431, x_L_refuses_438, x_L_refuses_455, x_L_refuses_496, x_L_refuses_503, x_L_refuses_520, x_L_refuses_529, x_L_refuses_530, x_L_refuses_549, x_L_refuses_569, x_L_refuses_577, x_L_refuses_599, x_L_refuses_606, x_L_refuses_623, x_L_refuses_643, x_L_refuses_651, x_L_refuses_669, x_L_refuses_687, x_L_refuses_704, x_L_refuses_721, x_L_refuses_741, x_L_refuses_749, x_L_refuses_771, x_L_refuses_778, x_L_refuses_787, x_L_refuses_788, x_L_refuses_810, x_L_refuses_831, x_L_refuses_836, x_L_refuses_868, x_L_refuses_872, x_L_refuses_877, x_L_refuses_893, x_L_refuses_911, x_L_refuses_929, x_L_refuses_934, x_L_refuses_955, x_L_refuses_961, x_L_refuses_966, x_L_refuses_970, x_L_refuses_971, x_L_refuses_1028, e0, e1, e2, e3, e4, e5, e6, e7, e8, e9, e10, e11, e12, e13, e14, e15, e16, e17, e18, e19, e20, e21, e22, e23, e24, e25, e26, k1, k2, k4, z0, ↓reduceIte]
  · simp only [eq_false cf, eq_false cp, eq_true cb, g0 cf, g1 cf, g2 cf, g3 cp, g4 cp, g5 cp, x_L_refuses_64, x_L_refuses_78, x_L_refuses_92, x_L_refuses_106, x_L_refuses_121, x_L_refuses_149, x_L_refuses_162, x_L_refuses_178, x_L_refuses_201, x_L_refuses_204, x_L_refuses_220, x_L_refuses_241, x_L_refuses_247, x_L_refuses_263, x_L_refuses_279, x_L_refuses_295, x_L_refuses_318, x_L_refuses_323, x_L_refuses_345, x_L_refuses_349, x_L_refuses_365, x_L_refuses_394, x_L_refuses_400, x_L_refuses_431, x_L_refuses_438, x_L_refuses_455, x_L_refuses_496, x_L_refuses_503, x_L_refuses_520, x_L_refuses_529, x_L_refuses_530, x_L_refuses_549, x_L_refuses_569, x_L_refuses_577, x_L_refuses_599, x_L_refuses_606, x_L_refuses_623, x_L_refuses_643, x_L_refuses_651, x_L_refuses_669, x_L_refuses_687, x_L_refuses_704, x_L_refuses_721, x_L_refuses_741, x_L_refuses_749, x_L_refuses_771, x_L_refuses_778, x_L_refuses_787, x_L_refuses_788, x_L_refuses_810, x_L_refuses_831, x_L_refuses_836, x_L_refuses_868, x_L_refuses_872, x_L_refuses_877, x_L_refuses_893, x_L_refuses_911, x_L_refuses_929, x_L_refuses_934, x_L_refuses_955, x_L_refuses_961, x_L_refuses_966, x_L_refuses_970, x_L_refuses_971, x_L_refuses_1028, e0, e1, e2, e3, e4, e5, e6, e7, e8, e9, e10, e11, e12, e13, e14, e15, e16, e17, e18, e19, e20, e21, e22, e23, e24, e25, e26, k1, k2, k4, z0, ↓reduceIte]
  · simp only [eq_false cf, eq_false cp, eq_false cb, g0 cf, g1 cf, g2 cf, g3 cp, g4 cp, g5 cp, g6 cb, x_L_refuses_64, x_L_refuses_78, x_L_refuses_92, x_L_refuses_106, x_L_refuses_121, x_L_refuses_149, x_L_refuses_162, x_L_refuses_178, x_L_refuses_201, x_L_refuses_204, x_L_refuses_220, x_L_refuses_241, x_L_refuses_247, x_L_refuses_263, x_L_refuses_279, x_L_refuses_295, x_L_refuses_318, x_L_refuses_323, x_L_refuses_345, x_L_refuses_349, x_L_refuses_365, x_L_refuses_394, x_L_refuses_400, x_L_refuses_431, x_L_refuses_438, x_L_refuses_455, x_L_refuses_496, x_L_refuses_503, x_L_refuses_520, x_L_refuses_529, x_L_refuses_530, x_L_refuses_549, x_L_refuses_569, x_L_refuses_577, x_L_refuses_599, x_L_refuses_606, x_L_refuses_623, x_L_refuses_643, x_L_refuses_651, x_L_refuses_669, x_L_refuses_687, x_L_refuses_704, x_L_refuses_721, x_L_refuses_741, x_L_refuses_749, x_L_refuses_771, x_L_refuses_778, x_L_refuses_787, x_L_refuses_788, x_L_refuses_810, x_L_refuses_831, x_L_refuses_836, x_L_refuses_868, x_L_refuses_872, x_L_refuses_877, x_L_refuses_893, x_L_refuses_911, x_L_refuses_929, x_L_refuses_934, x_L_refuses_955, x_L_refuses_961, x_L_refuses_966, x_L_refuses_970, x_L_refuses_971, x_L_refuses_1028, e0, e1, e2, e3, e4, e5, e6, e7, e8, e9, e10, e11, e12, e13, e14, e15, e16, e17, e18, e19, e20, e21, e22, e23, e24, e25, e26, k1, k2, k4, z0, ↓reduceIte]
set_option maxRecDepth 20000 in
set_option maxHeartbeats 4000000 in
theorem rp_1 {nf np nb : Nat} {γ : St} {q : Nat} (hR : RQ nf np nb γ) (K : Int32 → Int32 → Int32 → Int32 → Int32 → Int32 → Int32 → Int32 → Int32 → St → Nat × Int32 × St) (n a5 a6 a7 a8 : Int32) (hn : n = (-2147483647 - 1)) (hK : K = x_L_refuses_33 q) : x_L_refuses_33 (q + 1) (nI nf) (nI np) (nI nb) 2147483647 a5 a6 a7 a8 1 γ = K (nI nf) (nI np) (nI nb) 2147483647 a5 a6 a7 a8 (1 + 1) γ := by
  obtain ⟨h1, h2, h3, h4, h5, h6, h7, h8, ⟨P, hP16, hP⟩, h10⟩ := id hR
  have e0 : x_L_call 1 (nI nf) 0 0 0 (-1) γ = (-71, γ) := by rw [lc_1]; exact cL_3 (rf_begin3 (Or.inl (fe_0 h4 (Or.inr (Int32.le_refl _)))))
  have e1 : x_L_call 1 0 (nI nf) 0 0 (-1) γ = (-71, γ) := by rw [lc_1]; exact cL_3 (rf_begin3 (Or.inr (Or.inl (fe_0 h4 (Or.inr (Int32.le_refl _))))))
  have e2 : x_L_call 1 0 0 0 0 (nI np) γ = (-71, γ) := by rw [lc_1]; exact cL_3 (rf_begin3 (Or.inr (Or.inr ⟨(poolOf_out h6 (Or.inr (Int32.le_refl _))).1, (nI_m1 (by omega))⟩)))
  have e3 : x_L_call 2 2 0 0 0 0 γ = (-72, γ) := by rw [lc_2]; exact cL_2 (rf_act2 (Or.inl (si_0 (by decide) γ)))
  have e4 : x_L_call 2 0 7 0 0 0 γ = (-72, γ) := by rw [lc_2]; exact cL_2 (rf_act2 (Or.inr (Or.inl (wi_0 (by decide) γ))))
  have e5 : x_L_call 2 0 0 1000001 0 0 γ = (-72, γ) := by rw [lc_2]; exact cL_2 (rf_act2 (Or.inr (Or.inr (wi_0 (by decide) γ))))
  have e6 : x_L_call 3 2 0 0 0 0 γ = (-72, γ) := by rw [lc_3]; exact cL_2 (rf_hit2 (Or.inl (si_0 (by decide) γ)))
  have e7 : x_L_call 3 0 1000001 0 0 0 γ = (-72, γ) := by rw [lc_3]; exact cL_2 (rf_hit2 (Or.inr (Or.inl (wi_0 (by decide) γ))))
  have e8 : x_L_call 3 0 0 1001 0 0 γ = (-72, γ) := by rw [lc_3]; exact cL_2 (rf_hit2 (Or.inr (Or.inr (Or.inl (wi_0 (by decide) γ)))))
  have e9 : x_L_call 3 0 0 0 3 0 γ = (-72, γ) := by rw [lc_3]; exact cL_2 (rf_hit2 (Or.inr (Or.inr (Or.inr (wi_0 (by decide) γ)))))
  have e10 : x_L_call 5 2 1 0 0 0 γ = (-72, γ) := by rw [lc_5]; exact cL_2 (rf_card2 (Or.inl (si_0 (by decide) γ)))
  have e11 : x_L_call 5 0 4 0 0 0 γ = (-72, γ) := by rw [lc_5]; exact cL_2 (rf_card2 (Or.inr (wi_0 (by decide) γ)))
  have e12 : x_L_call 6 241 0 0 0 0 γ = (-72, γ) := by rw [lc_6]; exact cL_2 (rf_clock2 (wi_0 (by decide) γ))
  have e13 : x_L_call 8 (-2) 0 0 0 0 γ = (-72, γ) := by rw [lc_8, rf_seed2 (by decide)]; rfl
  have e14 : x_L_call 9 (1 <<< (nI nf &&& 31)) 0 0 0 0 γ = (-72, γ) := by rw [lc_9]; exact cL_2 (rf_pool2 (Or.inl (by rw [h4]; exact pm_1 h1)))
  have e15 : x_L_call 10 (nI np) 0 0 0 0 γ = (-71, γ) := by rw [lc_10]; exact cL_3 (rf_withdraw3 (pw_out (poolOf_out h6 (Or.inr (Int32.le_refl _))).1))
  have e16 : x_L_call 11 (nI np) 0 0 0 0 γ = (-71, γ) := by rw [lc_11]; exact cL_3 (rf_tableau3 (poolOf_out h6 (Or.inr (Int32.le_refl _))).1)
  have e17 : x_L_call 12 4 0 9 0 0 γ = (-71, γ) := by rw [lc_12]; exact cL_3 (rf_wins3 (ma_r (by decide)))
  have e18 : x_L_call 12 0 8 9 0 0 γ = (-71, γ) := by rw [lc_12]; exact cL_3 (rf_wins3 (ma_0 hP hP16 (by decide)))
  have e19 : x_L_call 13 2 0 0 0 0 γ = (-72, γ) := by rw [lc_13]; exact cL_2 (rf_lamp2 (si_0 (by decide) γ))
  have e20 : x_L_call 14 (nI nb) 9 0 0 0 γ = (-71, γ) := by rw [lc_14]; exact cL_3 (rf_ofBout3 (boutAt_out h5 (Or.inr (Int32.le_refl _))).1)
  have e21 : x_L_call 15 (nI np) 0 9 0 0 γ = (-71, γ) := by rw [lc_15]; exact cL_3 (rf_ofPool3 (pw_out (poolOf_out h6 (Or.inr (Int32.le_refl _))).1))
  have e22 : x_L_call 16 (nI np) 0 9 0 0 γ = (-71, γ) := by rw [lc_16]; exact cL_3 (rf_ofPoolAnew3 (pw_out (poolOf_out h6 (Or.inr (Int32.le_refl _))).1))
  have e23 : x_L_call 17 (nI np) 0 0 0 0 γ = (-71, γ) := by rw [lc_17]; exact cL_3 (rf_rank3 (Or.inl (poolOf_out h6 (Or.inr (Int32.le_refl _))).1))
  have e24 : x_L_call 17 0 (-2) 0 0 0 γ = (-71, γ) := by rw [lc_17]; exact cL_3 (rf_rank3 (Or.inr (by decide)))
  have e25 : x_L_call 18 4 0 9 0 0 γ = (-71, γ) := by rw [lc_18]; exact cL_3 (rf_meets3 (ma_r (by decide)))
  have e26 : x_L_call 18 0 8 9 0 0 γ = (-71, γ) := by rw [lc_18]; exact cL_3 (rf_meets3 (ma_0 hP hP16 (by decide)))
  have g0 : ¬ nI nf < 2 → x_L_call 1 0 0 0 5 (-1) γ = (-72, γ) := fun hc => by
    have e2 : (2 : Int32) = nI 2 := by decide
    have hc : 2 ≤ nf := by rw [e2] at hc; exact Nat.not_lt.mp (fun q => hc (nI_lt q (by omega)))
    rw [lc_1]; exact cL_2 (rf_begin2 (by rw [show (0 : Int32) = nI 0 from rfl, fe_1 h4 (by omega) h1]; decide) (by rw [show (0 : Int32) = nI 0 from rfl, fe_1 h4 (by omega) h1]; decide) (Or.inl rfl))
  have g1 : ¬ nI nf < 2 → x_L_call 1 0 1 3 5 (-1) γ = (-72, γ) := fun hc => by
    have e2 : (2 : Int32) = nI 2 := by decide
    have hc : 2 ≤ nf := by rw [e2] at hc; exact Nat.not_lt.mp (fun q => hc (nI_lt q (by omega)))
    rw [lc_1]; exact cL_2 (rf_begin2 (by rw [show (0 : Int32) = nI 0 from rfl, fe_1 h4 (by omega) h1]; decide) (by rw [show (1 : Int32) = nI 1 by decide, fe_1 h4 (by omega) h1]; decide) (Or.inr (Or.inl (wi_0 (by decide) γ))))
  have g2 : ¬ nI nf < 2 → x_L_call 1 0 1 0 46 (-1) γ = (-72, γ) := fun hc => by
    have e2 : (2 : Int32) = nI 2 := by decide
    have hc : 2 ≤ nf := by rw [e2] at hc; exact Nat.not_lt.mp (fun q => hc (nI_lt q (by omega)))
    rw [lc_1]; exact cL_2 (rf_begin2 (by rw [show (0 : Int32) = nI 0 from rfl, fe_1 h4 (by omega) h1]; decide) (by rw [show (1 : Int32) = nI 1 by decide, fe_1 h4 (by omega) h1]; decide) (Or.inr (Or.inr (wi_0 (by decide) γ))))
  have g3 : ¬ nI np = 0 → x_L_call 10 0 (nI nf) 0 0 0 γ = (-71, γ) := fun hc => by
    have hc : 0 < np := by rcases Nat.eq_zero_or_pos np with q | q; exact absurd (by rw [q]; rfl) hc; exact q
    rw [lc_10]; exact cL_3 (rf_withdraw3 (pw_not (by rw [show (0 : Int32) = nI 0 from rfl]; exact (poolOf_in h2 h6 h8 (by omega)).1) (has_no hR (by omega) (Or.inr (Int32.le_refl _)))))
  have g4 : ¬ nI np = 0 → x_L_call 15 0 (nI nf) 9 0 0 γ = (-71, γ) := fun hc => by
    have hc : 0 < np := by rcases Nat.eq_zero_or_pos np with q | q; exact absurd (by rw [q]; rfl) hc; exact q
    rw [lc_15]; exact cL_3 (rf_ofPool3 (pw_not (by rw [show (0 : Int32) = nI 0 from rfl]; exact (poolOf_in h2 h6 h8 (by omega)).1) (has_no hR (by omega) (Or.inr (Int32.le_refl _)))))
  have g5 : ¬ nI np = 0 → x_L_call 16 0 (nI nf) 9 0 0 γ = (-71, γ) := fun hc => by
    have hc : 0 < np := by rcases Nat.eq_zero_or_pos np with q | q; exact absurd (by rw [q]; rfl) hc; exact q
    rw [lc_16]; exact cL_3 (rf_ofPoolAnew3 (pw_not (by rw [show (0 : Int32) = nI 0 from rfl]; exact (poolOf_in h2 h6 h8 (by omega)).1) (has_no hR (by omega) (Or.inr (Int32.le_refl _)))))
  have g6 : ¬ nI nb = 0 → x_L_call 14 0 6 0 0 0 γ = (-72, γ) := fun hc => by
    have hc : 0 < nb := by rcases Nat.eq_zero_or_pos nb with q | q; exact absurd (by rw [q]; rfl) hc; exact q
    rw [lc_14]; exact cL_2 (rf_ofBout2 (i := 0) (by rw [show (0 : Int32) = nI 0 from rfl]; exact (boutAt_in h3 h5 h7 (by omega)).1) (wi_0 (by decide) γ))
  have k0 : ((1 : Int32) = 0) = False := by decide
  have k2 : ((1 : Int32) = 2) = False := by decide
  have k4 : ((4 : Int32) ≤ 1) = False := by decide
  have z0 : ((1 : Int32) = 0) = False := by decide
  rw [hK]
  conv => lhs; unfold x_L_refuses_33
  by_cases cf : nI nf < 2 <;> by_cases cp : nI np = 0 <;> by_cases cb : nI nb = 0
  · simp only [eq_true cf, eq_true cp, eq_true cb, x_L_refuses_64, x_L_refuses_78, x_L_refuses_92, x_L_refuses_106, x_L_refuses_121, x_L_refuses_149, x_L_refuses_162, x_L_refuses_178, x_L_refuses_201, x_L_refuses_204, x_L_refuses_220, x_L_refuses_241, x_L_refuses_247, x_L_refuses_263, x_L_refuses_279, x_L_refuses_295, x_L_refuses_318, x_L_refuses_323, x_L_refuses_345, x_L_refuses_349, x_L_refuses_365, x_L_refuses_394, x_L_refuses_400, x_L_refuses_431, x_L_refuses_438, x_L_refuses_455, x_L_refuses_496, x_L_refuses_503, x_L_refuses_520, x_L_refuses_529, x_L_refuses_530, x_L_refuses_549, x_L_refuses_569, x_L_refuses_577, x_L_refuses_599, x_L_refuses_606, x_L_refuses_623, x_L_refuses_643, x_L_refuses_651, x_L_refuses_669, x_L_refuses_687, x_L_refuses_704, x_L_refuses_721, x_L_refuses_741, x_L_refuses_749, x_L_refuses_771, x_L_refuses_778, x_L_refuses_787, x_L_refuses_788, x_L_refuses_810, x_L_refuses_831, x_L_refuses_836, x_L_refuses_868, x_L_refuses_872, x_L_refuses_877, x_L_refuses_893, x_L_refuses_911, x_L_refuses_929, x_L_refuses_934, x_L_refuses_955, x_L_refuses_961, x_L_refuses_966, x_L_refuses_970, x_L_refuses_971, x_L_refuses_1028, e0, e1, e2, e3, e4, e5, e6, e7, e8, e9, e10, e11, e12, e13, e14, e15, e16, e17, e18, e19, e20, e21, e22, e23, e24, e25, e26, k0, k2, k4, z0, ↓reduceIte]
  · simp only [eq_true cf, eq_true cp, eq_false cb, g6 cb, x_L_refuses_64, x_L_refuses_78, x_L_refuses_92, x_L_refuses_106, x_L_refuses_121, x_L_refuses_149, x_L_refuses_162, x_L_refuses_178, x_L_refuses_201, x_L_refuses_204, x_L_refuses_220, x_L_refuses_241, x_L_refuses_247, x_L_refuses_263, x_L_refuses_279, x_L_refuses_295, x_L_refuses_318, x_L_refuses_323, x_L_refuses_345, x_L_refuses_349, x_L_refuses_365, x_L_refuses_394, x_L_refuses_400, x_L_refuses_431, x_L_refuses_438, x_L_refuses_455, x_L_refuses_496, x_L_refuses_503, x_L_refuses_520, x_L_refuses_529, x_L_refuses_530, x_L_refuses_549, x_L_refuses_569, x_L_refuses_577, x_L_refuses_599, x_L_refuses_606, x_L_refuses_623, x_L_refuses_643, x_L_refuses_651, x_L_refuses_669, x_L_refuses_687, x_L_refuses_704, x_L_refuses_721, x_L_refuses_741, x_L_refuses_749, x_L_refuses_771, x_L_refuses_778, x_L_refuses_787, x_L_refuses_788, x_L_refuses_810, x_L_refuses_831, x_L_refuses_836, x_L_refuses_868, x_L_refuses_872, x_L_refuses_877, x_L_refuses_893, x_L_refuses_911, x_L_refuses_929, x_L_refuses_934, x_L_refuses_955, x_L_refuses_961, x_L_refuses_966, x_L_refuses_970, x_L_refuses_971, x_L_refuses_1028, e0, e1, e2, e3, e4, e5, e6, e7, e8, e9, e10, e11, e12, e13, e14, e15, e16, e17, e18, e19, e20, e21, e22, e23, e24, e25, e26, k0, k2, k4, z0, ↓reduceIte]
  · simp only [eq_true cf, eq_false cp, eq_true cb, g3 cp, g4 cp, g5 cp, x_L_refuses_64, x_L_refuses_78, x_L_refuses_92, x_L_refuses_106, x_L_refuses_121, x_L_refuses_149, x_L_refuses_162, x_L_refuses_178, x_L_refuses_201, x_L_refuses_204, x_L_refuses_220, x_L_refuses_241, x_L_refuses_247, x_L_refuses_263, x_L_refuses_279, x_L_refuses_295, x_L_refuses_318, x_L_refuses_323, x_L_refuses_345, x_L_refuses_349, x_L_refuses_365, x_L_refuses_394, x_L_refuses_400, x_L_refuses_431, x_L_refuses_438, x_L_refuses_455, x_L_refuses_496, x_L_refuses_503, x_L_refuses_520, x_L_refuses_529, x_L_refuses_530, x_L_refuses_549, x_L_refuses_569, x_L_refuses_577, x_L_refuses_599, x_L_refuses_606, x_L_refuses_623, x_L_refuses_643, x_L_refuses_651, x_L_refuses_669, x_L_refuses_687, x_L_refuses_704, x_L_refuses_721, x_L_refuses_741, x_L_refuses_749, x_L_refuses_771, x_L_refuses_778, x_L_refuses_787, x_L_refuses_788, x_L_refuses_810, x_L_refuses_831, x_L_refuses_836, x_L_refuses_868, x_L_refuses_872, x_L_refuses_877, x_L_refuses_893, x_L_refuses_911, x_L_refuses_929, x_L_refuses_934, x_L_refuses_955, x_L_refuses_961, x_L_refuses_966, x_L_refuses_970, x_L_refuses_971, x_L_refuses_1028, e0, e1, e2, e3, e4, e5, e6, e7, e8, e9, e10, e11, e12, e13, e14, e15, e16, e17, e18, e19, e20, e21, e22, e23, e24, e25, e26, k0, k2, k4, z0, ↓reduceIte]
  · simp only [eq_true cf, eq_false cp, eq_false cb, g3 cp, g4 cp, g5 cp, g6 cb, x_L_refuses_64, x_L_refuses_78, x_L_refuses_92, x_L_refuses_106, x_L_refuses_121, x_L_refuses_149, x_L_refuses_162, x_L_refuses_178, x_L_refuses_201, x_L_refuses_204, x_L_refuses_220, x_L_refuses_241, x_L_refuses_247, x_L_refuses_263, x_L_refuses_279, x_L_refuses_295, x_L_refuses_318, x_L_refuses_323, x_L_refuses_345, x_L_refuses_349, x_L_refuses_365, x_L_refuses_394, x_L_refuses_400, x_L_refuses_431, x_L_refuses_438, x_L_refuses_455, x_L_refuses_496, x_L_refuses_503, x_L_refuses_520, x_L_refuses_529, x_L_refuses_530, x_L_refuses_549, x_L_refuses_569, x_L_refuses_577, x_L_refuses_599, x_L_refuses_606, x_L_refuses_623, x_L_refuses_643, x_L_refuses_651, x_L_refuses_669, x_L_refuses_687, x_L_refuses_704, x_L_refuses_721, x_L_refuses_741, x_L_refuses_749, x_L_refuses_771, x_L_refuses_778, x_L_refuses_787, x_L_refuses_788, x_L_refuses_810, x_L_refuses_831, x_L_refuses_836, x_L_refuses_868, x_L_refuses_872, x_L_refuses_877, x_L_refuses_893, x_L_refuses_911, x_L_refuses_929, x_L_refuses_934, x_L_refuses_955, x_L_refuses_961, x_L_refuses_966, x_L_refuses_970, x_L_refuses_971, x_L_refuses_1028, e0, e1, e2, e3, e4, e5, e6, e7, e8, e9, e10, e11, e12, e13, e14, e15, e16, e17, e18, e19, e20, e21, e22, e23, e24, e25, e26, k0, k2, k4, z0, ↓reduceIte]
  · simp only [eq_false cf, eq_true cp, eq_true cb, g0 cf, g1 cf, g2 cf, x_L_refuses_64, x_L_refuses_78, x_L_refuses_92, x_L_refuses_106, x_L_refuses_121, x_L_refuses_149, x_L_refuses_162, x_L_refuses_178, x_L_refuses_201, x_L_refuses_204, x_L_refuses_220, x_L_refuses_241, x_L_refuses_247, x_L_refuses_263, x_L_refuses_279, x_L_refuses_295, x_L_refuses_318, x_L_refuses_323, x_L_refuses_345, x_L_refuses_349, x_L_refuses_365, x_L_refuses_394, x_L_refuses_400, x_L_refuses_431, x_L_refuses_438, x_L_refuses_455, x_L_refuses_496, x_L_refuses_503, x_L_refuses_520, x_L_refuses_529, x_L_refuses_530, x_L_refuses_549, x_L_refuses_569, x_L_refuses_577, x_L_refuses_599, x_L_refuses_606, x_L_refuses_623, x_L_refuses_643, x_L_refuses_651, x_L_refuses_669, x_L_refuses_687, x_L_refuses_704, x_L_refuses_721, x_L_refuses_741, x_L_refuses_749, x_L_refuses_771, x_L_refuses_778, x_L_refuses_787, x_L_refuses_788, x_L_refuses_810, x_L_refuses_831, x_L_refuses_836, x_L_refuses_868, x_L_refuses_872, x_L_refuses_877, x_L_refuses_893, x_L_refuses_911, x_L_refuses_929, x_L_refuses_934, x_L_refuses_955, x_L_refuses_961, x_L_refuses_966, x_L_refuses_970, x_L_refuses_971, x_L_refuses_1028, e0, e1, e2, e3, e4, e5, e6, e7, e8, e9, e10, e11, e12, e13, e14, e15, e16, e17, e18, e19, e20, e21, e22, e23, e24, e25, e26, k0, k2, k4, z0, ↓reduceIte]
  · simp only [eq_false cf, eq_true cp, eq_false cb, g0 cf, g1 cf, g2 cf, g6 cb, x_L_refuses_64, x_L_refuses_78, x_L_refuses_92, x_L_refuses_106, x_L_refuses_121, x_L_refuses_149, x_L_refuses_162, x_L_refuses_178, x_L_refuses_201, x_L_refuses_204, x_L_refuses_220, x_L_refuses_241, x_L_refuses_247, x_L_refuses_263, x_L_refuses_279, x_L_refuses_295, x_L_refuses_318, x_L_refuses_323, x_L_refuses_345, x_L_refuses_349, x_L_refuses_365, x_L_refuses_394, x_L_refuses_400, x_L_refuses_431, x_L_refuses_438, x_L_refuses_455, x_L_refuses_496, x_L_refuses_503, x_L_refuses_520, x_L_refuses_529, x_L_refuses_530, x_L_refuses_549, x_L_refuses_569, x_L_refuses_577, x_L_refuses_599, x_L_refuses_606, x_L_refuses_623, x_L_refuses_643, x_L_refuses_651, x_L_refuses_669, x_L_refuses_687, x_L_refuses_704, x_L_refuses_721, x_L_refuses_741, x_L_refuses_749, x_L_refuses_771, x_L_refuses_778, x_L_refuses_787, x_L_refuses_788, x_L_refuses_810, x_L_refuses_831, x_L_refuses_836, x_L_refuses_868, x_L_refuses_872, x_L_refuses_877, x_L_refuses_893, x_L_refuses_911, x_L_refuses_929, x_L_refuses_934, x_L_refuses_955, x_L_refuses_961, x_L_refuses_966, x_L_refuses_970, x_L_refuses_971, x_L_refuses_1028, e0, e1, e2, e3, e4, e5, e6, e7, e8, e9, e10, e11, e12, e13, e14, e15, e16, e17, e18, e19, e20, e21, e22, e23, e24, e25, e26, k0, k2, k4, z0, ↓reduceIte]
  · simp only [eq_false cf, eq_false cp, eq_true cb, g0 cf, g1 cf, g2 cf, g3 cp, g4 cp, g5 cp, x_L_refuses_64, x_L_refuses_78, x_L_refuses_92, x_L_refuses_106, x_L_refuses_121, x_L_refuses_149, x_L_refuses_162, x_L_refuses_178, x_L_refuses_201, x_L_refuses_204, x_L_refuses_220, x_L_refuses_241, x_L_refuses_247, x_L_refuses_263, x_L_refuses_279, x_L_refuses_295, x_L_refuses_318, x_L_refuses_323, x_L_refuses_345, x_L_refuses_349, x_L_refuses_365, x_L_refuses_394, x_L_refuses_400, x_L_refuses_431, x_L_refuses_438, x_L_refuses_455, x_L_refuses_496, x_L_refuses_503, x_L_refuses_520, x_L_refuses_529, x_L_refuses_530, x_L_refuses_549, x_L_refuses_569, x_L_refuses_577, x_L_refuses_599, x_L_refuses_606, x_L_refuses_623, x_L_refuses_643, x_L_refuses_651, x_L_refuses_669, x_L_refuses_687, x_L_refuses_704, x_L_refuses_721, x_L_refuses_741, x_L_refuses_749, x_L_refuses_771, x_L_refuses_778, x_L_refuses_787, x_L_refuses_788, x_L_refuses_810, x_L_refuses_831, x_L_refuses_836, x_L_refuses_868, x_L_refuses_872, x_L_refuses_877, x_L_refuses_893, x_L_refuses_911, x_L_refuses_929, x_L_refuses_934, x_L_refuses_955, x_L_refuses_961, x_L_refuses_966, x_L_refuses_970, x_L_refuses_971, x_L_refuses_1028, e0, e1, e2, e3, e4, e5, e6, e7, e8, e9, e10, e11, e12, e13, e14, e15, e16, e17, e18, e19, e20, e21, e22, e23, e24, e25, e26, k0, k2, k4, z0, ↓reduceIte]
  · simp only [eq_false cf, eq_false cp, eq_false cb, g0 cf, g1 cf, g2 cf, g3 cp, g4 cp, g5 cp, g6 cb, x_L_refuses_64, x_L_refuses_78, x_L_refuses_92, x_L_refuses_106, x_L_refuses_121, x_L_refuses_149, x_L_refuses_162, x_L_refuses_178, x_L_refuses_201, x_L_refuses_204, x_L_refuses_220, x_L_refuses_241, x_L_refuses_247, x_L_refuses_263, x_L_refuses_279, x_L_refuses_295, x_L_refuses_318, x_L_refuses_323, x_L_refuses_345, x_L_refuses_349, x_L_refuses_365, x_L_refuses_394, x_L_refuses_400, x_L_refuses_431, x_L_refuses_438, x_L_refuses_455, x_L_refuses_496, x_L_refuses_503, x_L_refuses_520, x_L_refuses_529, x_L_refuses_530, x_L_refuses_549, x_L_refuses_569, x_L_refuses_577, x_L_refuses_599, x_L_refuses_606, x_L_refuses_623, x_L_refuses_643, x_L_refuses_651, x_L_refuses_669, x_L_refuses_687, x_L_refuses_704, x_L_refuses_721, x_L_refuses_741, x_L_refuses_749, x_L_refuses_771, x_L_refuses_778, x_L_refuses_787, x_L_refuses_788, x_L_refuses_810, x_L_refuses_831, x_L_refuses_836, x_L_refuses_868, x_L_refuses_872, x_L_refuses_877, x_L_refuses_893, x_L_refuses_911, x_L_refuses_929, x_L_refuses_934, x_L_refuses_955, x_L_refuses_961, x_L_refuses_966, x_L_refuses_970, x_L_refuses_971, x_L_refuses_1028, e0, e1, e2, e3, e4, e5, e6, e7, e8, e9, e10, e11, e12, e13, e14, e15, e16, e17, e18, e19, e20, e21, e22, e23, e24, e25, e26, k0, k2, k4, z0, ↓reduceIte]
set_option maxRecDepth 20000 in
set_option maxHeartbeats 4000000 in
theorem rp_2 {nf np nb : Nat} {γ : St} {q : Nat} (hR : RQ nf np nb γ) (K : Int32 → Int32 → Int32 → Int32 → Int32 → Int32 → Int32 → Int32 → Int32 → St → Nat × Int32 × St) (n a5 a6 a7 a8 : Int32) (hn : n = 2147483647) (hK : K = x_L_refuses_33 q) : x_L_refuses_33 (q + 1) (nI nf) (nI np) (nI nb) 2147483647 a5 a6 a7 a8 2 γ = K (nI nf) (nI np) (nI nb) 2147483647 a5 a6 a7 a8 (2 + 1) γ := by
  obtain ⟨h1, h2, h3, h4, h5, h6, h7, h8, ⟨P, hP16, hP⟩, h10⟩ := id hR
  have e0 : x_L_call 1 2147483647 0 0 0 (-1) γ = (-71, γ) := by rw [lc_1]; exact cL_3 (rf_begin3 (Or.inl (fe_0 h4 (Or.inr (mx_le (by omega))))))
  have e1 : x_L_call 1 0 2147483647 0 0 (-1) γ = (-71, γ) := by rw [lc_1]; exact cL_3 (rf_begin3 (Or.inr (Or.inl (fe_0 h4 (Or.inr (mx_le (by omega)))))))
  have e2 : x_L_call 1 0 0 0 0 2147483647 γ = (-71, γ) := by rw [lc_1]; exact cL_3 (rf_begin3 (Or.inr (Or.inr ⟨(poolOf_out h6 (Or.inr (mx_le (by omega)))).1, (by decide)⟩)))
  have e3 : x_L_call 2 2147483647 0 0 0 0 γ = (-72, γ) := by rw [lc_2]; exact cL_2 (rf_act2 (Or.inl (si_0 (by decide) γ)))
  have e4 : x_L_call 2 0 2147483647 0 0 0 γ = (-72, γ) := by rw [lc_2]; exact cL_2 (rf_act2 (Or.inr (Or.inl (wi_0 (by decide) γ))))
  have e5 : x_L_call 2 0 0 2147483647 0 0 γ = (-72, γ) := by rw [lc_2]; exact cL_2 (rf_act2 (Or.inr (Or.inr (wi_0 (by decide) γ))))
  have e6 : x_L_call 3 2147483647 0 0 0 0 γ = (-72, γ) := by rw [lc_3]; exact cL_2 (rf_hit2 (Or.inl (si_0 (by decide) γ)))
  have e7 : x_L_call 3 0 2147483647 0 0 0 γ = (-72, γ) := by rw [lc_3]; exact cL_2 (rf_hit2 (Or.inr (Or.inl (wi_0 (by decide) γ))))
  have e8 : x_L_call 3 0 0 2147483647 0 0 γ = (-72, γ) := by rw [lc_3]; exact cL_2 (rf_hit2 (Or.inr (Or.inr (Or.inl (wi_0 (by decide) γ)))))
  have e9 : x_L_call 3 0 0 0 2147483647 0 γ = (-72, γ) := by rw [lc_3]; exact cL_2 (rf_hit2 (Or.inr (Or.inr (Or.inr (wi_0 (by decide) γ)))))
  have e10 : x_L_call 5 2147483647 1 0 0 0 γ = (-72, γ) := by rw [lc_5]; exact cL_2 (rf_card2 (Or.inl (si_0 (by decide) γ)))
  have e11 : x_L_call 5 0 2147483647 0 0 0 γ = (-72, γ) := by rw [lc_5]; exact cL_2 (rf_card2 (Or.inr (wi_0 (by decide) γ)))
  have e12 : x_L_call 6 2147483647 0 0 0 0 γ = (-72, γ) := by rw [lc_6]; exact cL_2 (rf_clock2 (wi_0 (by decide) γ))
  have e13 : x_L_call 8 (-1) 0 0 0 0 γ = (-72, γ) := by rw [lc_8, rf_seed2 (by decide)]; rfl
  have e14 : x_L_call 9 2147483647 0 0 0 0 γ = (-72, γ) := by rw [lc_9]; exact cL_2 (rf_pool2 (Or.inl (by rw [h4]; exact pm_2 h1)))
  have e15 : x_L_call 10 2147483647 0 0 0 0 γ = (-71, γ) := by rw [lc_10]; exact cL_3 (rf_withdraw3 (pw_out (poolOf_out h6 (Or.inr (mx_le (by omega)))).1))
  have e16 : x_L_call 11 2147483647 0 0 0 0 γ = (-71, γ) := by rw [lc_11]; exact cL_3 (rf_tableau3 (poolOf_out h6 (Or.inr (mx_le (by omega)))).1)
  have e17 : x_L_call 12 2147483647 0 9 0 0 γ = (-71, γ) := by rw [lc_12]; exact cL_3 (rf_wins3 (ma_r (by decide)))
  have e18 : x_L_call 12 0 2147483647 9 0 0 γ = (-71, γ) := by rw [lc_12]; exact cL_3 (rf_wins3 (ma_0 hP hP16 (by decide)))
  have e19 : x_L_call 13 2147483647 0 0 0 0 γ = (-72, γ) := by rw [lc_13]; exact cL_2 (rf_lamp2 (si_0 (by decide) γ))
  have e20 : x_L_call 14 2147483647 9 0 0 0 γ = (-71, γ) := by rw [lc_14]; exact cL_3 (rf_ofBout3 (boutAt_out h5 (Or.inr (mx_le (by omega)))).1)
  have e21 : x_L_call 15 2147483647 0 9 0 0 γ = (-71, γ) := by rw [lc_15]; exact cL_3 (rf_ofPool3 (pw_out (poolOf_out h6 (Or.inr (mx_le (by omega)))).1))
  have e22 : x_L_call 16 2147483647 0 9 0 0 γ = (-71, γ) := by rw [lc_16]; exact cL_3 (rf_ofPoolAnew3 (pw_out (poolOf_out h6 (Or.inr (mx_le (by omega)))).1))
  have e23 : x_L_call 17 2147483647 0 0 0 0 γ = (-71, γ) := by rw [lc_17]; exact cL_3 (rf_rank3 (Or.inl (poolOf_out h6 (Or.inr (mx_le (by omega)))).1))
  have e24 : x_L_call 17 0 (-1) 0 0 0 γ = (-71, γ) := by rw [lc_17]; exact cL_3 (rf_rank3 (Or.inr (by decide)))
  have e25 : x_L_call 18 2147483647 0 9 0 0 γ = (-71, γ) := by rw [lc_18]; exact cL_3 (rf_meets3 (ma_r (by decide)))
  have e26 : x_L_call 18 0 2147483647 9 0 0 γ = (-71, γ) := by rw [lc_18]; exact cL_3 (rf_meets3 (ma_0 hP hP16 (by decide)))
  have g0 : ¬ nI nf < 2 → x_L_call 1 0 0 0 5 (-1) γ = (-72, γ) := fun hc => by
    have e2 : (2 : Int32) = nI 2 := by decide
    have hc : 2 ≤ nf := by rw [e2] at hc; exact Nat.not_lt.mp (fun q => hc (nI_lt q (by omega)))
    rw [lc_1]; exact cL_2 (rf_begin2 (by rw [show (0 : Int32) = nI 0 from rfl, fe_1 h4 (by omega) h1]; decide) (by rw [show (0 : Int32) = nI 0 from rfl, fe_1 h4 (by omega) h1]; decide) (Or.inl rfl))
  have g1 : ¬ nI nf < 2 → x_L_call 1 0 1 2147483647 5 (-1) γ = (-72, γ) := fun hc => by
    have e2 : (2 : Int32) = nI 2 := by decide
    have hc : 2 ≤ nf := by rw [e2] at hc; exact Nat.not_lt.mp (fun q => hc (nI_lt q (by omega)))
    rw [lc_1]; exact cL_2 (rf_begin2 (by rw [show (0 : Int32) = nI 0 from rfl, fe_1 h4 (by omega) h1]; decide) (by rw [show (1 : Int32) = nI 1 by decide, fe_1 h4 (by omega) h1]; decide) (Or.inr (Or.inl (wi_0 (by decide) γ))))
  have g2 : ¬ nI nf < 2 → x_L_call 1 0 1 0 2147483647 (-1) γ = (-72, γ) := fun hc => by
    have e2 : (2 : Int32) = nI 2 := by decide
    have hc : 2 ≤ nf := by rw [e2] at hc; exact Nat.not_lt.mp (fun q => hc (nI_lt q (by omega)))
    rw [lc_1]; exact cL_2 (rf_begin2 (by rw [show (0 : Int32) = nI 0 from rfl, fe_1 h4 (by omega) h1]; decide) (by rw [show (1 : Int32) = nI 1 by decide, fe_1 h4 (by omega) h1]; decide) (Or.inr (Or.inr (wi_0 (by decide) γ))))
  have g3 : ¬ nI np = 0 → x_L_call 10 0 2147483647 0 0 0 γ = (-71, γ) := fun hc => by
    have hc : 0 < np := by rcases Nat.eq_zero_or_pos np with q | q; exact absurd (by rw [q]; rfl) hc; exact q
    rw [lc_10]; exact cL_3 (rf_withdraw3 (pw_not (by rw [show (0 : Int32) = nI 0 from rfl]; exact (poolOf_in h2 h6 h8 (by omega)).1) (has_no hR (by omega) (Or.inr (mx_le (by omega))))))
  have g4 : ¬ nI np = 0 → x_L_call 15 0 2147483647 9 0 0 γ = (-71, γ) := fun hc => by
    have hc : 0 < np := by rcases Nat.eq_zero_or_pos np with q | q; exact absurd (by rw [q]; rfl) hc; exact q
    rw [lc_15]; exact cL_3 (rf_ofPool3 (pw_not (by rw [show (0 : Int32) = nI 0 from rfl]; exact (poolOf_in h2 h6 h8 (by omega)).1) (has_no hR (by omega) (Or.inr (mx_le (by omega))))))
  have g5 : ¬ nI np = 0 → x_L_call 16 0 2147483647 9 0 0 γ = (-71, γ) := fun hc => by
    have hc : 0 < np := by rcases Nat.eq_zero_or_pos np with q | q; exact absurd (by rw [q]; rfl) hc; exact q
    rw [lc_16]; exact cL_3 (rf_ofPoolAnew3 (pw_not (by rw [show (0 : Int32) = nI 0 from rfl]; exact (poolOf_in h2 h6 h8 (by omega)).1) (has_no hR (by omega) (Or.inr (mx_le (by omega))))))
  have g6 : ¬ nI nb = 0 → x_L_call 14 0 2147483647 0 0 0 γ = (-72, γ) := fun hc => by
    have hc : 0 < nb := by rcases Nat.eq_zero_or_pos nb with q | q; exact absurd (by rw [q]; rfl) hc; exact q
    rw [lc_14]; exact cL_2 (rf_ofBout2 (i := 0) (by rw [show (0 : Int32) = nI 0 from rfl]; exact (boutAt_in h3 h5 h7 (by omega)).1) (wi_0 (by decide) γ))
  have k0 : ((2 : Int32) = 0) = False := by decide
  have k1 : ((2 : Int32) = 1) = False := by decide
  have k4 : ((4 : Int32) ≤ 2) = False := by decide
  have z0 : ((1 : Int32) = 0) = False := by decide
  rw [hK]
  conv => lhs; unfold x_L_refuses_33
  by_cases cf : nI nf < 2 <;> by_cases cp : nI np = 0 <;> by_cases cb : nI nb = 0
  · simp only [eq_true cf, eq_true cp, eq_true cb, x_L_refuses_64, x_L_refuses_78, x_L_refuses_92, x_L_refuses_106, x_L_refuses_121, x_L_refuses_149, x_L_refuses_162, x_L_refuses_178, x_L_refuses_201, x_L_refuses_204, x_L_refuses_220, x_L_refuses_241, x_L_refuses_247, x_L_refuses_263, x_L_refuses_279, x_L_refuses_295, x_L_refuses_318, x_L_refuses_323, x_L_refuses_345, x_L_refuses_349, x_L_refuses_365, x_L_refuses_394, x_L_refuses_400, x_L_refuses_431, x_L_refuses_438, x_L_refuses_455, x_L_refuses_496, x_L_refuses_503, x_L_refuses_520, x_L_refuses_529, x_L_refuses_530, x_L_refuses_549, x_L_refuses_569, x_L_refuses_577, x_L_refuses_599, x_L_refuses_606, x_L_refuses_623, x_L_refuses_643, x_L_refuses_651, x_L_refuses_669, x_L_refuses_687, x_L_refuses_704, x_L_refuses_721, x_L_refuses_741, x_L_refuses_749, x_L_refuses_771, x_L_refuses_778, x_L_refuses_787, x_L_refuses_788, x_L_refuses_810, x_L_refuses_831, x_L_refuses_836, x_L_refuses_868, x_L_refuses_872, x_L_refuses_877, x_L_refuses_893, x_L_refuses_911, x_L_refuses_929, x_L_refuses_934, x_L_refuses_955, x_L_refuses_961, x_L_refuses_966, x_L_refuses_970, x_L_refuses_971, x_L_refuses_1028, e0, e1, e2, e3, e4, e5, e6, e7, e8, e9, e10, e11, e12, e13, e14, e15, e16, e17, e18, e19, e20, e21, e22, e23, e24, e25, e26, k0, k1, k4, z0, ↓reduceIte]
  · simp only [eq_true cf, eq_true cp, eq_false cb, g6 cb, x_L_refuses_64, x_L_refuses_78, x_L_refuses_92, x_L_refuses_106, x_L_refuses_121, x_L_refuses_149, x_L_refuses_162, x_L_refuses_178, x_L_refuses_201, x_L_refuses_204, x_L_refuses_220, x_L_refuses_241, x_L_refuses_247, x_L_refuses_263, x_L_refuses_279, x_L_refuses_295, x_L_refuses_318, x_L_refuses_323, x_L_refuses_345, x_L_refuses_349, x_L_refuses_365, x_L_refuses_394, x_L_refuses_400, x_L_refuses_431, x_L_refuses_438, x_L_refuses_455, x_L_refuses_496, x_L_refuses_503, x_L_refuses_520, x_L_refuses_529, x_L_refuses_530, x_L_refuses_549, x_L_refuses_569, x_L_refuses_577, x_L_refuses_599, x_L_refuses_606, x_L_refuses_623, x_L_refuses_643, x_L_refuses_651, x_L_refuses_669, x_L_refuses_687, x_L_refuses_704, x_L_refuses_721, x_L_refuses_741, x_L_refuses_749, x_L_refuses_771, x_L_refuses_778, x_L_refuses_787, x_L_refuses_788, x_L_refuses_810, x_L_refuses_831, x_L_refuses_836, x_L_refuses_868, x_L_refuses_872, x_L_refuses_877, x_L_refuses_893, x_L_refuses_911, x_L_refuses_929, x_L_refuses_934, x_L_refuses_955, x_L_refuses_961, x_L_refuses_966, x_L_refuses_970, x_L_refuses_971, x_L_refuses_1028, e0, e1, e2, e3, e4, e5, e6, e7, e8, e9, e10, e11, e12, e13, e14, e15, e16, e17, e18, e19, e20, e21, e22, e23, e24, e25, e26, k0, k1, k4, z0, ↓reduceIte]
  · simp only [eq_true cf, eq_false cp, eq_true cb, g3 cp, g4 cp, g5 cp, x_L_refuses_64, x_L_refuses_78, x_L_refuses_92, x_L_refuses_106, x_L_refuses_121, x_L_refuses_149, x_L_refuses_162, x_L_refuses_178, x_L_refuses_201, x_L_refuses_204, x_L_refuses_220, x_L_refuses_241, x_L_refuses_247, x_L_refuses_263, x_L_refuses_279, x_L_refuses_295, x_L_refuses_318, x_L_refuses_323, x_L_refuses_345, x_L_refuses_349, x_L_refuses_365, x_L_refuses_394, x_L_refuses_400, x_L_refuses_431, x_L_refuses_438, x_L_refuses_455, x_L_refuses_496, x_L_refuses_503, x_L_refuses_520, x_L_refuses_529, x_L_refuses_530, x_L_refuses_549, x_L_refuses_569, x_L_refuses_577, x_L_refuses_599, x_L_refuses_606, x_L_refuses_623, x_L_refuses_643, x_L_refuses_651, x_L_refuses_669, x_L_refuses_687, x_L_refuses_704, x_L_refuses_721, x_L_refuses_741, x_L_refuses_749, x_L_refuses_771, x_L_refuses_778, x_L_refuses_787, x_L_refuses_788, x_L_refuses_810, x_L_refuses_831, x_L_refuses_836, x_L_refuses_868, x_L_refuses_872, x_L_refuses_877, x_L_refuses_893, x_L_refuses_911, x_L_refuses_929, x_L_refuses_934, x_L_refuses_955, x_L_refuses_961, x_L_refuses_966, x_L_refuses_970, x_L_refuses_971, x_L_refuses_1028, e0, e1, e2, e3, e4, e5, e6, e7, e8, e9, e10, e11, e12, e13, e14, e15, e16, e17, e18, e19, e20, e21, e22, e23, e24, e25, e26, k0, k1, k4, z0, ↓reduceIte]
  · simp only [eq_true cf, eq_false cp, eq_false cb, g3 cp, g4 cp, g5 cp, g6 cb, x_L_refuses_64, x_L_refuses_78, x_L_refuses_92, x_L_refuses_106, x_L_refuses_121, x_L_refuses_149, x_L_refuses_162, x_L_refuses_178, x_L_refuses_201, x_L_refuses_204, x_L_refuses_220, x_L_refuses_241, x_L_refuses_247, x_L_refuses_263, x_L_refuses_279, x_L_refuses_295, x_L_refuses_318, x_L_refuses_323, x_L_refuses_345, x_L_refuses_349, x_L_refuses_365, x_L_refuses_394, x_L_refuses_400, x_L_refuses_431, x_L_refuses_438, x_L_refuses_455, x_L_refuses_496, x_L_refuses_503, x_L_refuses_520, x_L_refuses_529, x_L_refuses_530, x_L_refuses_549, x_L_refuses_569, x_L_refuses_577, x_L_refuses_599, x_L_refuses_606, x_L_refuses_623, x_L_refuses_643, x_L_refuses_651, x_L_refuses_669, x_L_refuses_687, x_L_refuses_704, x_L_refuses_721, x_L_refuses_741, x_L_refuses_749, x_L_refuses_771, x_L_refuses_778, x_L_refuses_787, x_L_refuses_788, x_L_refuses_810, x_L_refuses_831, x_L_refuses_836, x_L_refuses_868, x_L_refuses_872, x_L_refuses_877, x_L_refuses_893, x_L_refuses_911, x_L_refuses_929, x_L_refuses_934, x_L_refuses_955, x_L_refuses_961, x_L_refuses_966, x_L_refuses_970, x_L_refuses_971, x_L_refuses_1028, e0, e1, e2, e3, e4, e5, e6, e7, e8, e9, e10, e11, e12, e13, e14, e15, e16, e17, e18, e19, e20, e21, e22, e23, e24, e25, e26, k0, k1, k4, z0, ↓reduceIte]
  · simp only [eq_false cf, eq_true cp, eq_true cb, g0 cf, g1 cf, g2 cf, x_L_refuses_64, x_L_refuses_78, x_L_refuses_92, x_L_refuses_106, x_L_refuses_121, x_L_refuses_149, x_L_refuses_162, x_L_refuses_178, x_L_refuses_201, x_L_refuses_204, x_L_refuses_220, x_L_refuses_241, x_L_refuses_247, x_L_refuses_263, x_L_refuses_279, x_L_refuses_295, x_L_refuses_318, x_L_refuses_323, x_L_refuses_345, x_L_refuses_349, x_L_refuses_365, x_L_refuses_394, x_L_refuses_400, x_L_refuses_431, x_L_refuses_438, x_L_refuses_455, x_L_refuses_496, x_L_refuses_503, x_L_refuses_520, x_L_refuses_529, x_L_refuses_530, x_L_refuses_549, x_L_refuses_569, x_L_refuses_577, x_L_refuses_599, x_L_refuses_606, x_L_refuses_623, x_L_refuses_643, x_L_refuses_651, x_L_refuses_669, x_L_refuses_687, x_L_refuses_704, x_L_refuses_721, x_L_refuses_741, x_L_refuses_749, x_L_refuses_771, x_L_refuses_778, x_L_refuses_787, x_L_refuses_788, x_L_refuses_810, x_L_refuses_831, x_L_refuses_836, x_L_refuses_868, x_L_refuses_872, x_L_refuses_877, x_L_refuses_893, x_L_refuses_911, x_L_refuses_929, x_L_refuses_934, x_L_refuses_955, x_L_refuses_961, x_L_refuses_966, x_L_refuses_970, x_L_refuses_971, x_L_refuses_1028, e0, e1, e2, e3, e4, e5, e6, e7, e8, e9, e10, e11, e12, e13, e14, e15, e16, e17, e18, e19, e20, e21, e22, e23, e24, e25, e26, k0, k1, k4, z0, ↓reduceIte]
  · simp only [eq_false cf, eq_true cp, eq_false cb, g0 cf, g1 cf, g2 cf, g6 cb, x_L_refuses_64, x_L_refuses_78, x_L_refuses_92, x_L_refuses_106, x_L_refuses_121, x_L_refuses_149, x_L_refuses_162, x_L_refuses_178, x_L_refuses_201, x_L_refuses_204, x_L_refuses_220, x_L_refuses_241, x_L_refuses_247, x_L_refuses_263, x_L_refuses_279, x_L_refuses_295, x_L_refuses_318, x_L_refuses_323, x_L_refuses_345, x_L_refuses_349, x_L_refuses_365, x_L_refuses_394, x_L_refuses_400, x_L_refuses_431, x_L_refuses_438, x_L_refuses_455, x_L_refuses_496, x_L_refuses_503, x_L_refuses_520, x_L_refuses_529, x_L_refuses_530, x_L_refuses_549, x_L_refuses_569, x_L_refuses_577, x_L_refuses_599, x_L_refuses_606, x_L_refuses_623, x_L_refuses_643, x_L_refuses_651, x_L_refuses_669, x_L_refuses_687, x_L_refuses_704, x_L_refuses_721, x_L_refuses_741, x_L_refuses_749, x_L_refuses_771, x_L_refuses_778, x_L_refuses_787, x_L_refuses_788, x_L_refuses_810, x_L_refuses_831, x_L_refuses_836, x_L_refuses_868, x_L_refuses_872, x_L_refuses_877, x_L_refuses_893, x_L_refuses_911, x_L_refuses_929, x_L_refuses_934, x_L_refuses_955, x_L_refuses_961, x_L_refuses_966, x_L_refuses_970, x_L_refuses_971, x_L_refuses_1028, e0, e1, e2, e3, e4, e5, e6, e7, e8, e9, e10, e11, e12, e13, e14, e15, e16, e17, e18, e19, e20, e21, e22, e23, e24, e25, e26, k0, k1, k4, z0, ↓reduceIte]
  · simp only [eq_false cf, eq_false cp, eq_true cb, g0 cf, g1 cf, g2 cf, g3 cp, g4 cp, g5 cp, x_L_refuses_64, x_L_refuses_78, x_L_refuses_92, x_L_refuses_106, x_L_refuses_121, x_L_refuses_149, x_L_refuses_162, x_L_refuses_178, x_L_refuses_201, x_L_refuses_204, x_L_refuses_220, x_L_refuses_241, x_L_refuses_247, x_L_refuses_263, x_L_refuses_279, x_L_refuses_295, x_L_refuses_318, x_L_refuses_323, x_L_refuses_345, x_L_refuses_349, x_L_refuses_365, x_L_refuses_394, x_L_refuses_400, x_L_refuses_431, x_L_refuses_438, x_L_refuses_455, x_L_refuses_496, x_L_refuses_503, x_L_refuses_520, x_L_refuses_529, x_L_refuses_530, x_L_refuses_549, x_L_refuses_569, x_L_refuses_577, x_L_refuses_599, x_L_refuses_606, x_L_refuses_623, x_L_refuses_643, x_L_refuses_651, x_L_refuses_669, x_L_refuses_687, x_L_refuses_704, x_L_refuses_721, x_L_refuses_741, x_L_refuses_749, x_L_refuses_771, x_L_refuses_778, x_L_refuses_787, x_L_refuses_788, x_L_refuses_810, x_L_refuses_831, x_L_refuses_836, x_L_refuses_868, x_L_refuses_872, x_L_refuses_877, x_L_refuses_893, x_L_refuses_911, x_L_refuses_929, x_L_refuses_934, x_L_refuses_955, x_L_refuses_961, x_L_refuses_966, x_L_refuses_970, x_L_refuses_971, x_L_refuses_1028, e0, e1, e2, e3, e4, e5, e6, e7, e8, e9, e10, e11, e12, e13, e14, e15, e16, e17, e18, e19, e20, e21, e22, e23, e24, e25, e26, k0, k1, k4, z0, ↓reduceIte]
  · simp only [eq_false cf, eq_false cp, eq_false cb, g0 cf, g1 cf, g2 cf, g3 cp, g4 cp, g5 cp, g6 cb, x_L_refuses_64, x_L_refuses_78, x_L_refuses_92, x_L_refuses_106, x_L_refuses_121, x_L_refuses_149, x_L_refuses_162, x_L_refuses_178, x_L_refuses_201, x_L_refuses_204, x_L_refuses_220, x_L_refuses_241, x_L_refuses_247, x_L_refuses_263, x_L_refuses_279, x_L_refuses_295, x_L_refuses_318, x_L_refuses_323, x_L_refuses_345, x_L_refuses_349, x_L_refuses_365, x_L_refuses_394, x_L_refuses_400, x_L_refuses_431, x_L_refuses_438, x_L_refuses_455, x_L_refuses_496, x_L_refuses_503, x_L_refuses_520, x_L_refuses_529, x_L_refuses_530, x_L_refuses_549, x_L_refuses_569, x_L_refuses_577, x_L_refuses_599, x_L_refuses_606, x_L_refuses_623, x_L_refuses_643, x_L_refuses_651, x_L_refuses_669, x_L_refuses_687, x_L_refuses_704, x_L_refuses_721, x_L_refuses_741, x_L_refuses_749, x_L_refuses_771, x_L_refuses_778, x_L_refuses_787, x_L_refuses_788, x_L_refuses_810, x_L_refuses_831, x_L_refuses_836, x_L_refuses_868, x_L_refuses_872, x_L_refuses_877, x_L_refuses_893, x_L_refuses_911, x_L_refuses_929, x_L_refuses_934, x_L_refuses_955, x_L_refuses_961, x_L_refuses_966, x_L_refuses_970, x_L_refuses_971, x_L_refuses_1028, e0, e1, e2, e3, e4, e5, e6, e7, e8, e9, e10, e11, e12, e13, e14, e15, e16, e17, e18, e19, e20, e21, e22, e23, e24, e25, e26, k0, k1, k4, z0, ↓reduceIte]
set_option maxRecDepth 20000 in
set_option maxHeartbeats 4000000 in
theorem rp_3 {nf np nb : Nat} {γ : St} {q : Nat} (hR : RQ nf np nb γ) (K : Int32 → Int32 → Int32 → Int32 → Int32 → Int32 → Int32 → Int32 → Int32 → St → Nat × Int32 × St) (n a5 a6 a7 a8 : Int32) (hn : n = (-2147483647 - 1)) (hK : K = x_L_refuses_33 q) : x_L_refuses_33 (q + 1) (nI nf) (nI np) (nI nb) 2147483647 a5 a6 a7 a8 3 γ = K (nI nf) (nI np) (nI nb) 2147483647 a5 a6 a7 a8 (3 + 1) γ := by
  obtain ⟨h1, h2, h3, h4, h5, h6, h7, h8, ⟨P, hP16, hP⟩, h10⟩ := id hR
  have e0 : x_L_call 1 (-2147483647 - 1) 0 0 0 (-1) γ = (-71, γ) := by rw [lc_1]; exact cL_3 (rf_begin3 (Or.inl (fe_0 h4 (Or.inl (by decide)))))
  have e1 : x_L_call 1 0 (-2147483647 - 1) 0 0 (-1) γ = (-71, γ) := by rw [lc_1]; exact cL_3 (rf_begin3 (Or.inr (Or.inl (fe_0 h4 (Or.inl (by decide))))))
  have e2 : x_L_call 1 0 0 0 0 (-2147483647 - 1) γ = (-71, γ) := by rw [lc_1]; exact cL_3 (rf_begin3 (Or.inr (Or.inr ⟨(poolOf_out h6 (Or.inl (by decide))).1, (by decide)⟩)))
  have e3 : x_L_call 2 (-2147483647 - 1) 0 0 0 0 γ = (-72, γ) := by rw [lc_2]; exact cL_2 (rf_act2 (Or.inl (si_0 (by decide) γ)))
  have e4 : x_L_call 2 0 (-2147483647 - 1) 0 0 0 γ = (-72, γ) := by rw [lc_2]; exact cL_2 (rf_act2 (Or.inr (Or.inl (wi_0 (by decide) γ))))
  have e5 : x_L_call 2 0 0 (-2147483647 - 1) 0 0 γ = (-72, γ) := by rw [lc_2]; exact cL_2 (rf_act2 (Or.inr (Or.inr (wi_0 (by decide) γ))))
  have e6 : x_L_call 3 (-2147483647 - 1) 0 0 0 0 γ = (-72, γ) := by rw [lc_3]; exact cL_2 (rf_hit2 (Or.inl (si_0 (by decide) γ)))
  have e7 : x_L_call 3 0 (-2147483647 - 1) 0 0 0 γ = (-72, γ) := by rw [lc_3]; exact cL_2 (rf_hit2 (Or.inr (Or.inl (wi_0 (by decide) γ))))
  have e8 : x_L_call 3 0 0 (-2147483647 - 1) 0 0 γ = (-72, γ) := by rw [lc_3]; exact cL_2 (rf_hit2 (Or.inr (Or.inr (Or.inl (wi_0 (by decide) γ)))))
  have e9 : x_L_call 3 0 0 0 (-2147483647 - 1) 0 γ = (-72, γ) := by rw [lc_3]; exact cL_2 (rf_hit2 (Or.inr (Or.inr (Or.inr (wi_0 (by decide) γ)))))
  have e10 : x_L_call 5 (-2147483647 - 1) 1 0 0 0 γ = (-72, γ) := by rw [lc_5]; exact cL_2 (rf_card2 (Or.inl (si_0 (by decide) γ)))
  have e11 : x_L_call 5 0 (-2147483647 - 1) 0 0 0 γ = (-72, γ) := by rw [lc_5]; exact cL_2 (rf_card2 (Or.inr (wi_0 (by decide) γ)))
  have e12 : x_L_call 6 (-2147483647 - 1) 0 0 0 0 γ = (-72, γ) := by rw [lc_6]; exact cL_2 (rf_clock2 (wi_0 (by decide) γ))
  have e13 : x_L_call 8 (-2147483647 - 1) 0 0 0 0 γ = (-72, γ) := by rw [lc_8, rf_seed2 (by decide)]; rfl
  have e14 : x_L_call 9 (-1) 0 0 0 0 γ = (-72, γ) := by rw [lc_9]; exact cL_2 (rf_pool2 (Or.inl (by rw [h4]; exact pm_3 h1)))
  have e15 : x_L_call 10 (-2147483647 - 1) 0 0 0 0 γ = (-71, γ) := by rw [lc_10]; exact cL_3 (rf_withdraw3 (pw_out (poolOf_out h6 (Or.inl (by decide))).1))
  have e16 : x_L_call 11 (-2147483647 - 1) 0 0 0 0 γ = (-71, γ) := by rw [lc_11]; exact cL_3 (rf_tableau3 (poolOf_out h6 (Or.inl (by decide))).1)
  have e17 : x_L_call 12 (-2147483647 - 1) 0 9 0 0 γ = (-71, γ) := by rw [lc_12]; exact cL_3 (rf_wins3 (ma_r (by decide)))
  have e18 : x_L_call 12 0 (-2147483647 - 1) 9 0 0 γ = (-71, γ) := by rw [lc_12]; exact cL_3 (rf_wins3 (ma_0 hP hP16 (by decide)))
  have e19 : x_L_call 13 (-2147483647 - 1) 0 0 0 0 γ = (-72, γ) := by rw [lc_13]; exact cL_2 (rf_lamp2 (si_0 (by decide) γ))
  have e20 : x_L_call 14 (-2147483647 - 1) 9 0 0 0 γ = (-71, γ) := by rw [lc_14]; exact cL_3 (rf_ofBout3 (boutAt_out h5 (Or.inl (by decide))).1)
  have e21 : x_L_call 15 (-2147483647 - 1) 0 9 0 0 γ = (-71, γ) := by rw [lc_15]; exact cL_3 (rf_ofPool3 (pw_out (poolOf_out h6 (Or.inl (by decide))).1))
  have e22 : x_L_call 16 (-2147483647 - 1) 0 9 0 0 γ = (-71, γ) := by rw [lc_16]; exact cL_3 (rf_ofPoolAnew3 (pw_out (poolOf_out h6 (Or.inl (by decide))).1))
  have e23 : x_L_call 17 (-2147483647 - 1) 0 0 0 0 γ = (-71, γ) := by rw [lc_17]; exact cL_3 (rf_rank3 (Or.inl (poolOf_out h6 (Or.inl (by decide))).1))
  have e24 : x_L_call 17 0 (-2147483647 - 1) 0 0 0 γ = (-71, γ) := by rw [lc_17]; exact cL_3 (rf_rank3 (Or.inr (by decide)))
  have e25 : x_L_call 18 (-2147483647 - 1) 0 9 0 0 γ = (-71, γ) := by rw [lc_18]; exact cL_3 (rf_meets3 (ma_r (by decide)))
  have e26 : x_L_call 18 0 (-2147483647 - 1) 9 0 0 γ = (-71, γ) := by rw [lc_18]; exact cL_3 (rf_meets3 (ma_0 hP hP16 (by decide)))
  have g0 : ¬ nI nf < 2 → x_L_call 1 0 0 0 5 (-1) γ = (-72, γ) := fun hc => by
    have e2 : (2 : Int32) = nI 2 := by decide
    have hc : 2 ≤ nf := by rw [e2] at hc; exact Nat.not_lt.mp (fun q => hc (nI_lt q (by omega)))
    rw [lc_1]; exact cL_2 (rf_begin2 (by rw [show (0 : Int32) = nI 0 from rfl, fe_1 h4 (by omega) h1]; decide) (by rw [show (0 : Int32) = nI 0 from rfl, fe_1 h4 (by omega) h1]; decide) (Or.inl rfl))
  have g1 : ¬ nI nf < 2 → x_L_call 1 0 1 (-2147483647 - 1) 5 (-1) γ = (-72, γ) := fun hc => by
    have e2 : (2 : Int32) = nI 2 := by decide
    have hc : 2 ≤ nf := by rw [e2] at hc; exact Nat.not_lt.mp (fun q => hc (nI_lt q (by omega)))
    rw [lc_1]; exact cL_2 (rf_begin2 (by rw [show (0 : Int32) = nI 0 from rfl, fe_1 h4 (by omega) h1]; decide) (by rw [show (1 : Int32) = nI 1 by decide, fe_1 h4 (by omega) h1]; decide) (Or.inr (Or.inl (wi_0 (by decide) γ))))
  have g2 : ¬ nI nf < 2 → x_L_call 1 0 1 0 (-2147483647 - 1) (-1) γ = (-72, γ) := fun hc => by
    have e2 : (2 : Int32) = nI 2 := by decide
    have hc : 2 ≤ nf := by rw [e2] at hc; exact Nat.not_lt.mp (fun q => hc (nI_lt q (by omega)))
    rw [lc_1]; exact cL_2 (rf_begin2 (by rw [show (0 : Int32) = nI 0 from rfl, fe_1 h4 (by omega) h1]; decide) (by rw [show (1 : Int32) = nI 1 by decide, fe_1 h4 (by omega) h1]; decide) (Or.inr (Or.inr (wi_0 (by decide) γ))))
  have g3 : ¬ nI np = 0 → x_L_call 10 0 (-2147483647 - 1) 0 0 0 γ = (-71, γ) := fun hc => by
    have hc : 0 < np := by rcases Nat.eq_zero_or_pos np with q | q; exact absurd (by rw [q]; rfl) hc; exact q
    rw [lc_10]; exact cL_3 (rf_withdraw3 (pw_not (by rw [show (0 : Int32) = nI 0 from rfl]; exact (poolOf_in h2 h6 h8 (by omega)).1) (has_no hR (by omega) (Or.inl (by decide)))))
  have g4 : ¬ nI np = 0 → x_L_call 15 0 (-2147483647 - 1) 9 0 0 γ = (-71, γ) := fun hc => by
    have hc : 0 < np := by rcases Nat.eq_zero_or_pos np with q | q; exact absurd (by rw [q]; rfl) hc; exact q
    rw [lc_15]; exact cL_3 (rf_ofPool3 (pw_not (by rw [show (0 : Int32) = nI 0 from rfl]; exact (poolOf_in h2 h6 h8 (by omega)).1) (has_no hR (by omega) (Or.inl (by decide)))))
  have g5 : ¬ nI np = 0 → x_L_call 16 0 (-2147483647 - 1) 9 0 0 γ = (-71, γ) := fun hc => by
    have hc : 0 < np := by rcases Nat.eq_zero_or_pos np with q | q; exact absurd (by rw [q]; rfl) hc; exact q
    rw [lc_16]; exact cL_3 (rf_ofPoolAnew3 (pw_not (by rw [show (0 : Int32) = nI 0 from rfl]; exact (poolOf_in h2 h6 h8 (by omega)).1) (has_no hR (by omega) (Or.inl (by decide)))))
  have g6 : ¬ nI nb = 0 → x_L_call 14 0 (-2147483647 - 1) 0 0 0 γ = (-72, γ) := fun hc => by
    have hc : 0 < nb := by rcases Nat.eq_zero_or_pos nb with q | q; exact absurd (by rw [q]; rfl) hc; exact q
    rw [lc_14]; exact cL_2 (rf_ofBout2 (i := 0) (by rw [show (0 : Int32) = nI 0 from rfl]; exact (boutAt_in h3 h5 h7 (by omega)).1) (wi_0 (by decide) γ))
  have k0 : ((3 : Int32) = 0) = False := by decide
  have k1 : ((3 : Int32) = 1) = False := by decide
  have k2 : ((3 : Int32) = 2) = False := by decide
  have k4 : ((4 : Int32) ≤ 3) = False := by decide
  have z0 : ((1 : Int32) = 0) = False := by decide
  rw [hK]
  conv => lhs; unfold x_L_refuses_33
  by_cases cf : nI nf < 2 <;> by_cases cp : nI np = 0 <;> by_cases cb : nI nb = 0
  · simp only [eq_true cf, eq_true cp, eq_true cb, x_L_refuses_64, x_L_refuses_78, x_L_refuses_92, x_L_refuses_106, x_L_refuses_121, x_L_refuses_149, x_L_refuses_162, x_L_refuses_178, x_L_refuses_201, x_L_refuses_204, x_L_refuses_220, x_L_refuses_241, x_L_refuses_247, x_L_refuses_263, x_L_refuses_279, x_L_refuses_295, x_L_refuses_318, x_L_refuses_323, x_L_refuses_345, x_L_refuses_349, x_L_refuses_365, x_L_refuses_394, x_L_refuses_400, x_L_refuses_431, x_L_refuses_438, x_L_refuses_455, x_L_refuses_496, x_L_refuses_503, x_L_refuses_520, x_L_refuses_529, x_L_refuses_530, x_L_refuses_549, x_L_refuses_569, x_L_refuses_577, x_L_refuses_599, x_L_refuses_606, x_L_refuses_623, x_L_refuses_643, x_L_refuses_651, x_L_refuses_669, x_L_refuses_687, x_L_refuses_704, x_L_refuses_721, x_L_refuses_741, x_L_refuses_749, x_L_refuses_771, x_L_refuses_778, x_L_refuses_787, x_L_refuses_788, x_L_refuses_810, x_L_refuses_831, x_L_refuses_836, x_L_refuses_868, x_L_refuses_872, x_L_refuses_877, x_L_refuses_893, x_L_refuses_911, x_L_refuses_929, x_L_refuses_934, x_L_refuses_955, x_L_refuses_961, x_L_refuses_966, x_L_refuses_970, x_L_refuses_971, x_L_refuses_1028, e0, e1, e2, e3, e4, e5, e6, e7, e8, e9, e10, e11, e12, e13, e14, e15, e16, e17, e18, e19, e20, e21, e22, e23, e24, e25, e26, k0, k1, k2, k4, z0, ↓reduceIte]
  · simp only [eq_true cf, eq_true cp, eq_false cb, g6 cb, x_L_refuses_64, x_L_refuses_78, x_L_refuses_92, x_L_refuses_106, x_L_refuses_121, x_L_refuses_149, x_L_refuses_162, x_L_refuses_178, x_L_refuses_201, x_L_refuses_204, x_L_refuses_220, x_L_refuses_241, x_L_refuses_247, x_L_refuses_263, x_L_refuses_279, x_L_refuses_295, x_L_refuses_318, x_L_refuses_323, x_L_refuses_345, x_L_refuses_349, x_L_refuses_365, x_L_refuses_394, x_L_refuses_400, x_L_refuses_431, x_L_refuses_438, x_L_refuses_455, x_L_refuses_496, x_L_refuses_503, x_L_refuses_520, x_L_refuses_529, x_L_refuses_530, x_L_refuses_549, x_L_refuses_569, x_L_refuses_577, x_L_refuses_599, x_L_refuses_606, x_L_refuses_623, x_L_refuses_643, x_L_refuses_651, x_L_refuses_669, x_L_refuses_687, x_L_refuses_704, x_L_refuses_721, x_L_refuses_741, x_L_refuses_749, x_L_refuses_771, x_L_refuses_778, x_L_refuses_787, x_L_refuses_788, x_L_refuses_810, x_L_refuses_831, x_L_refuses_836, x_L_refuses_868, x_L_refuses_872, x_L_refuses_877, x_L_refuses_893, x_L_refuses_911, x_L_refuses_929, x_L_refuses_934, x_L_refuses_955, x_L_refuses_961, x_L_refuses_966, x_L_refuses_970, x_L_refuses_971, x_L_refuses_1028, e0, e1, e2, e3, e4, e5, e6, e7, e8, e9, e10, e11, e12, e13, e14, e15, e16, e17, e18, e19, e20, e21, e22, e23, e24, e25, e26, k0, k1, k2, k4, z0, ↓reduceIte]
  · simp only [eq_true cf, eq_false cp, eq_true cb, g3 cp, g4 cp, g5 cp, x_L_refuses_64, x_L_refuses_78, x_L_refuses_92, x_L_refuses_106, x_L_refuses_121, x_L_refuses_149, x_L_refuses_162, x_L_refuses_178, x_L_refuses_201, x_L_refuses_204, x_L_refuses_220, x_L_refuses_241, x_L_refuses_247, x_L_refuses_263, x_L_refuses_279, x_L_refuses_295, x_L_refuses_318, x_L_refuses_323, x_L_refuses_345, x_L_refuses_349, x_L_refuses_365, x_L_refuses_394, x_L_refuses_400, x_L_refuses_431, x_L_refuses_438, x_L_refuses_455, x_L_refuses_496, x_L_refuses_503, x_L_refuses_520, x_L_refuses_529, x_L_refuses_530, x_L_refuses_549, x_L_refuses_569, x_L_refuses_577, x_L_refuses_599, x_L_refuses_606, x_L_refuses_623, x_L_refuses_643, x_L_refuses_651, x_L_refuses_669, x_L_refuses_687, x_L_refuses_704, x_L_refuses_721, x_L_refuses_741, x_L_refuses_749, x_L_refuses_771, x_L_refuses_778, x_L_refuses_787, x_L_refuses_788, x_L_refuses_810, x_L_refuses_831, x_L_refuses_836, x_L_refuses_868, x_L_refuses_872, x_L_refuses_877, x_L_refuses_893, x_L_refuses_911, x_L_refuses_929, x_L_refuses_934, x_L_refuses_955, x_L_refuses_961, x_L_refuses_966, x_L_refuses_970, x_L_refuses_971, x_L_refuses_1028, e0, e1, e2, e3, e4, e5, e6, e7, e8, e9, e10, e11, e12, e13, e14, e15, e16, e17, e18, e19, e20, e21, e22, e23, e24, e25, e26, k0, k1, k2, k4, z0, ↓reduceIte]
  · simp only [eq_true cf, eq_false cp, eq_false cb, g3 cp, g4 cp, g5 cp, g6 cb, x_L_refuses_64, x_L_refuses_78, x_L_refuses_92, x_L_refuses_106, x_L_refuses_121, x_L_refuses_149, x_L_refuses_162, x_L_refuses_178, x_L_refuses_201, x_L_refuses_204, x_L_refuses_220, x_L_refuses_241, x_L_refuses_247, x_L_refuses_263, x_L_refuses_279, x_L_refuses_295, x_L_refuses_318, x_L_refuses_323, x_L_refuses_345, x_L_refuses_349, x_L_refuses_365, x_L_refuses_394, x_L_refuses_400, x_L_refuses_431, x_L_refuses_438, x_L_refuses_455, x_L_refuses_496, x_L_refuses_503, x_L_refuses_520, x_L_refuses_529, x_L_refuses_530, x_L_refuses_549, x_L_refuses_569, x_L_refuses_577, x_L_refuses_599, x_L_refuses_606, x_L_refuses_623, x_L_refuses_643, x_L_refuses_651, x_L_refuses_669, x_L_refuses_687, x_L_refuses_704, x_L_refuses_721, x_L_refuses_741, x_L_refuses_749, x_L_refuses_771, x_L_refuses_778, x_L_refuses_787, x_L_refuses_788, x_L_refuses_810, x_L_refuses_831, x_L_refuses_836, x_L_refuses_868, x_L_refuses_872, x_L_refuses_877, x_L_refuses_893, x_L_refuses_911, x_L_refuses_929, x_L_refuses_934, x_L_refuses_955, x_L_refuses_961, x_L_refuses_966, x_L_refuses_970, x_L_refuses_971, x_L_refuses_1028, e0, e1, e2, e3, e4, e5, e6, e7, e8, e9, e10, e11, e12, e13, e14, e15, e16, e17, e18, e19, e20, e21, e22, e23, e24, e25, e26, k0, k1, k2, k4, z0, ↓reduceIte]
  · simp only [eq_false cf, eq_true cp, eq_true cb, g0 cf, g1 cf, g2 cf, x_L_refuses_64, x_L_refuses_78, x_L_refuses_92, x_L_refuses_106, x_L_refuses_121, x_L_refuses_149, x_L_refuses_162, x_L_refuses_178, x_L_refuses_201, x_L_refuses_204, x_L_refuses_220, x_L_refuses_241, x_L_refuses_247, x_L_refuses_263, x_L_refuses_279, x_L_refuses_295, x_L_refuses_318, x_L_refuses_323, x_L_refuses_345, x_L_refuses_349, x_L_refuses_365, x_L_refuses_394, x_L_refuses_400, x_L_refuses_431, x_L_refuses_438, x_L_refuses_455, x_L_refuses_496, x_L_refuses_503, x_L_refuses_520, x_L_refuses_529, x_L_refuses_530, x_L_refuses_549, x_L_refuses_569, x_L_refuses_577, x_L_refuses_599, x_L_refuses_606, x_L_refuses_623, x_L_refuses_643, x_L_refuses_651, x_L_refuses_669, x_L_refuses_687, x_L_refuses_704, x_L_refuses_721, x_L_refuses_741, x_L_refuses_749, x_L_refuses_771, x_L_refuses_778, x_L_refuses_787, x_L_refuses_788, x_L_refuses_810, x_L_refuses_831, x_L_refuses_836, x_L_refuses_868, x_L_refuses_872, x_L_refuses_877, x_L_refuses_893, x_L_refuses_911, x_L_refuses_929, x_L_refuses_934, x_L_refuses_955, x_L_refuses_961, x_L_refuses_966, x_L_refuses_970, x_L_refuses_971, x_L_refuses_1028, e0, e1, e2, e3, e4, e5, e6, e7, e8, e9, e10, e11, e12, e13, e14, e15, e16, e17, e18, e19, e20, e21, e22, e23, e24, e25, e26, k0, k1, k2, k4, z0, ↓reduceIte]
  · simp only [eq_false cf, eq_true cp, eq_false cb, g0 cf, g1 cf, g2 cf, g6 cb, x_L_refuses_64, x_L_refuses_78, x_L_refuses_92, x_L_refuses_106, x_L_refuses_121, x_L_refuses_149, x_L_refuses_162, x_L_refuses_178, x_L_refuses_201, x_L_refuses_204, x_L_refuses_220, x_L_refuses_241, x_L_refuses_247, x_L_refuses_263, x_L_refuses_279, x_L_refuses_295, x_L_refuses_318, x_L_refuses_323, x_L_refuses_345, x_L_refuses_349, x_L_refuses_365, x_L_refuses_394, x_L_refuses_400, x_L_refuses_431, x_L_refuses_438, x_L_refuses_455, x_L_refuses_496, x_L_refuses_503, x_L_refuses_520, x_L_refuses_529, x_L_refuses_530, x_L_refuses_549, x_L_refuses_569, x_L_refuses_577, x_L_refuses_599, x_L_refuses_606, x_L_refuses_623, x_L_refuses_643, x_L_refuses_651, x_L_refuses_669, x_L_refuses_687, x_L_refuses_704, x_L_refuses_721, x_L_refuses_741, x_L_refuses_749, x_L_refuses_771, x_L_refuses_778, x_L_refuses_787, x_L_refuses_788, x_L_refuses_810, x_L_refuses_831, x_L_refuses_836, x_L_refuses_868, x_L_refuses_872, x_L_refuses_877, x_L_refuses_893, x_L_refuses_911, x_L_refuses_929, x_L_refuses_934, x_L_refuses_955, x_L_refuses_961, x_L_refuses_966, x_L_refuses_970, x_L_refuses_971, x_L_refuses_1028, e0, e1, e2, e3, e4, e5, e6, e7, e8, e9, e10, e11, e12, e13, e14, e15, e16, e17, e18, e19, e20, e21, e22, e23, e24, e25, e26, k0, k1, k2, k4, z0, ↓reduceIte]
  · simp only [eq_false cf, eq_false cp, eq_true cb, g0 cf, g1 cf, g2 cf, g3 cp, g4 cp, g5 cp, x_L_refuses_64, x_L_refuses_78, x_L_refuses_92, x_L_refuses_106, x_L_refuses_121, x_L_refuses_149, x_L_refuses_162, x_L_refuses_178, x_L_refuses_201, x_L_refuses_204, x_L_refuses_220, x_L_refuses_241, x_L_refuses_247, x_L_refuses_263, x_L_refuses_279, x_L_refuses_295, x_L_refuses_318, x_L_refuses_323, x_L_refuses_345, x_L_refuses_349, x_L_refuses_365, x_L_refuses_394, x_L_refuses_400, x_L_refuses_431, x_L_refuses_438, x_L_refuses_455, x_L_refuses_496, x_L_refuses_503, x_L_refuses_520, x_L_refuses_529, x_L_refuses_530, x_L_refuses_549, x_L_refuses_569, x_L_refuses_577, x_L_refuses_599, x_L_refuses_606, x_L_refuses_623, x_L_refuses_643, x_L_refuses_651, x_L_refuses_669, x_L_refuses_687, x_L_refuses_704, x_L_refuses_721, x_L_refuses_741, x_L_refuses_749, x_L_refuses_771, x_L_refuses_778, x_L_refuses_787, x_L_refuses_788, x_L_refuses_810, x_L_refuses_831, x_L_refuses_836, x_L_refuses_868, x_L_refuses_872, x_L_refuses_877, x_L_refuses_893, x_L_refuses_911, x_L_refuses_929, x_L_refuses_934, x_L_refuses_955, x_L_refuses_961, x_L_refuses_966, x_L_refuses_970, x_L_refuses_971, x_L_refuses_1028, e0, e1, e2, e3, e4, e5, e6, e7, e8, e9, e10, e11, e12, e13, e14, e15, e16, e17, e18, e19, e20, e21, e22, e23, e24, e25, e26, k0, k1, k2, k4, z0, ↓reduceIte]
  · simp only [eq_false cf, eq_false cp, eq_false cb, g0 cf, g1 cf, g2 cf, g3 cp, g4 cp, g5 cp, g6 cb, x_L_refuses_64, x_L_refuses_78, x_L_refuses_92, x_L_refuses_106, x_L_refuses_121, x_L_refuses_149, x_L_refuses_162, x_L_refuses_178, x_L_refuses_201, x_L_refuses_204, x_L_refuses_220, x_L_refuses_241, x_L_refuses_247, x_L_refuses_263, x_L_refuses_279, x_L_refuses_295, x_L_refuses_318, x_L_refuses_323, x_L_refuses_345, x_L_refuses_349, x_L_refuses_365, x_L_refuses_394, x_L_refuses_400, x_L_refuses_431, x_L_refuses_438, x_L_refuses_455, x_L_refuses_496, x_L_refuses_503, x_L_refuses_520, x_L_refuses_529, x_L_refuses_530, x_L_refuses_549, x_L_refuses_569, x_L_refuses_577, x_L_refuses_599, x_L_refuses_606, x_L_refuses_623, x_L_refuses_643, x_L_refuses_651, x_L_refuses_669, x_L_refuses_687, x_L_refuses_704, x_L_refuses_721, x_L_refuses_741, x_L_refuses_749, x_L_refuses_771, x_L_refuses_778, x_L_refuses_787, x_L_refuses_788, x_L_refuses_810, x_L_refuses_831, x_L_refuses_836, x_L_refuses_868, x_L_refuses_872, x_L_refuses_877, x_L_refuses_893, x_L_refuses_911, x_L_refuses_929, x_L_refuses_934, x_L_refuses_955, x_L_refuses_961, x_L_refuses_966, x_L_refuses_970, x_L_refuses_971, x_L_refuses_1028, e0, e1, e2, e3, e4, e5, e6, e7, e8, e9, e10, e11, e12, e13, e14, e15, e16, e17, e18, e19, e20, e21, e22, e23, e24, e25, e26, k0, k1, k2, k4, z0, ↓reduceIte]

theorem rea_6 (a : Int32) (γ : St) : gV (x_X4_holderAhead a γ).2 7 0 9 = gV γ 7 0 9 := by
  unfold x_X4_holderAhead x_X4_holderAhead_7
  have hr : ∀ (k : Nat) (a b : Int32) (X : St), gV (x_X4_holderAhead_9 k a b X).2 7 0 9 = gV X 7 0 9 := by
    intro k
    induction k with
    | zero => intro a b X; rfl
    | succ k ih =>
      intro a b X
      unfold x_X4_holderAhead_9 x_X4_holderAhead_71 x_X4_holderAhead_65
      repeat' split
      all_goals first | rfl | exact ih _ _ _ | (rw [ih]; exact take_Ag _ _ _ _ 7 0 9 rfl)
  rw [hr]
  unfold x_X6_forget
  rw [gV_sV, if_neg (by decide), gV_sV, if_neg (by decide)]

theorem lamp_s {s : Int32} {γ : St} (hs : x_X7_isSide s γS = 1) : (x_X7_lamp s γ).1 = 0 ∧ (x_X7_lamp s γ).2.2 = γ := by
  have e : x_X7_isSide s γ = 1 := hs
  unfold x_X7_lamp
  rw [e, if_neg (show ¬ (1 : Int32) = 0 by decide)]
  cases h : gR γ 7 8 with
  | none => exact ⟨rfl, rfl⟩
  | some b => exact ⟨rfl, rfl⟩
theorem hold_2 {nb np : Nat} {γ : St} {M : St} (h : I2 1 nb np γ M) : I2 1 nb np (x_X7_holder γ).2 M ∧ (x_X7_holder (x_X7_holder γ).2).1 = (x_X7_holder γ).1 := by
  have key : ∀ X : St, I2 1 nb np X M → (x_X7_holder X).1 = (x_X8_rights (gV M 8 0 17) M).1 ∧ I2 1 nb np (x_X7_holder X).2 M := by
    intro X hX
    obtain ⟨hA, hB, hZ, hP, ⟨c, h24, hc1, hc2, hE⟩, hO, hG, hK⟩ := id hX
    obtain ⟨r1, r2, r3, r4, r5, r6⟩ := rights_eq h24 (Nat.le_refl c) hc1 hE
    unfold x_X7_holder
    rw [hc1, hc2]
    exact ⟨r1, I2_rw hX r5 (Ag.rf _ M) (holder_rest _ _).1 (holder_rest _ _).2 rfl⟩
  obtain ⟨k1, k2⟩ := key γ h
  exact ⟨k2, ((key _ k2).1).trans k1.symm⟩
theorem lamp_M {nb np : Nat} {γ M : St} (h : I2 1 nb np γ M) (s : Int32) (hs : x_X7_isSide s γS = 1) : (x_X7_lamp s γ).2.1 = (x_X8_lamp s M).1 := (cr_lamp 1 nb np γ M s (by decide) h).2.2.2.2.1 (lamp_s hs).1
theorem reas_h (γ : St) : x_X7_reason (x_X7_holder γ).2 = x_X7_reason γ := by
  unfold x_X7_reason x_X7_holder
  exact rea_6 _ _
theorem refuses_eq {nf np nb : Nat} {γ : St} (h : IV nf np nb γ) : ∃ γ' : St, x_L_refuses (nI nf) (nI np) (nI nb) γ = (0, 1, γ') ∧ IV nf np nb γ' := by
  have hg : GI nb np (x_X7_holder γ).2 := (gi_holder h.2.1).2
  have i1 : IV nf np nb (x_X7_holder γ).2 := iv_of h (fw_X7_holder (FR.rf γ)) hg
  have i2 : IV nf np nb (x_X7_holder (x_X7_holder γ).2).2 := iv_of i1 (fw_X7_holder (FR.rf _)) (gi_holder hg).2
  have hq := rq_of i1
  obtain ⟨M, hM⟩ := id h.2.1
  obtain ⟨m1, m2⟩ := hold_2 hM
  obtain ⟨m3, -⟩ := hold_2 m1
  have r1 := reas_h (x_X7_holder γ).2
  obtain ⟨l1, l2⟩ := lamp_s (s := 0) (γ := (x_X7_holder γ).2) (by decide)
  obtain ⟨l3, l4⟩ := lamp_s (s := 1) (γ := (x_X7_holder γ).2) (by decide)
  obtain ⟨l5, l6⟩ := lamp_s (s := 0) (γ := (x_X7_holder (x_X7_holder γ).2).2) (by decide)
  obtain ⟨l7, l8⟩ := lamp_s (s := 1) (γ := (x_X7_holder (x_X7_holder γ).2).2) (by decide)
  have v0 := (lamp_M m3 0 (by decide)).trans (lamp_M m1 0 (by decide)).symm
  have v1 := (lamp_M m3 1 (by decide)).trans (lamp_M m1 1 (by decide)).symm
  refine ⟨(x_X7_holder (x_X7_holder γ).2).2, ?_, i2⟩
  unfold x_L_refuses x_L_refuses_8
  generalize ha : (x_X7_holder γ).1 = a at *
  generalize hb : (x_X7_holder γ).2 = γ1 at *
  rw [if_pos l1, l2, if_pos l3, l4]
  rw [rp_0 hq _ _ _ _ _ _ rfl rfl, show (0 : Int32) + 1 = 1 from by decide, rp_1 hq _ _ _ _ _ _ rfl rfl, show (1 : Int32) + 1 = 2 from by decide, rp_2 hq _ _ _ _ _ _ rfl rfl, show (2 : Int32) + 1 = 3 from by decide, rp_3 hq _ _ _ _ _ _ rfl rfl, show (3 : Int32) + 1 = 4 from by decide]
  unfold x_L_refuses_33
  rw [if_pos (by decide)]
  unfold x_L_refuses_990
  rw [if_pos m2, if_pos r1, if_pos l5, if_pos v0, l6, if_pos l7, if_pos v1, l8]
