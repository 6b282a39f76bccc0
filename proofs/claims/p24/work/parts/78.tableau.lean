noncomputable section
section TAB
def pq : Nat → Nat → Bool := fun c _ => c == 18 || c == 5
theorem Ag_s2 {C D : St} {j p : Nat} {v w : Int32} (h : Ag pq C D) : Ag pq (sV C 19 j p v) (sV D 19 j p w) := by
  intro c n k hc
  have ne : ¬ c = 19 := by
    intro e; rw [e, show pq 19 k = false from rfl] at hc; cases hc
  rw [gV_sV, gV_sV, if_neg (fun e => ne e.1), if_neg (fun e => ne e.1)]
  exact h c n k hc
theorem kept_d {C D : St} (h : Ag pq C D) (j : Nat) (a b : Int32) : x_X5_kept j a b D = x_X5_kept j a b C := by
  unfold x_X5_kept
  simp only [show ∀ n k, gV D 18 n k = gV C 18 n k from fun n k => h 18 n k rfl]
  rfl
theorem ahead_d {C D : St} (h : Ag pq C D) (j : Nat) (a b : Int32) : x_X5_isAhead j a b D = x_X5_isAhead j a b C := by
  unfold x_X5_isAhead x_X5_balance
  simp only [kept_d h]
theorem ranked_d {C D : St} (h : Ag pq C D) (j : Nat) (a : Int32) : x_X5_isRanked j a D = x_X5_isRanked j a C := by
  unfold x_X5_isRanked x_X5_has x_X5_isWithdrawn
  rw [h 5 j 1 rfl, h 5 j 4 rfl]
  rfl
theorem ins_d {j f i : Nat} (hi : i < 12) : ∀ (k p : Nat) (C D : St), p < k → p ≤ i → Ag pq C D → (∀ x, x ≤ i → x ≠ p → gV D 19 j x = gV C 19 j x) →
    Ag pq (x_X5_insert_2 j k (nI f) (nI p) C) (x_X5_insert_2 j k (nI f) (nI p) D) ∧ ∀ x, x ≤ i → gV (x_X5_insert_2 j k (nI f) (nI p) D) 19 j x = gV (x_X5_insert_2 j k (nI f) (nI p) C) 19 j x
  | 0, p, C, D, hk, _, _, _ => absurd hk (Nat.not_lt_zero _)
  | k + 1, p, C, D, hk, hp, h, hA => by
    have e12 : (12 : Int32) = nI 12 := by decide
    have fin : ∀ C, x_X5_insert_48 j (nI f) (nI p) C = sV C 19 j p (nI f) := by
      intro C
      unfold x_X5_insert_48
      rw [if_neg (nI_pos (by omega)), e12, if_neg (nI_ge (by omega) (by omega)), nI_clamp (by omega)]
    have fin2 : Ag pq (x_X5_insert_48 j (nI f) (nI p) C) (x_X5_insert_48 j (nI f) (nI p) D) ∧ ∀ x, x ≤ i → gV (x_X5_insert_48 j (nI f) (nI p) D) 19 j x = gV (x_X5_insert_48 j (nI f) (nI p) C) 19 j x := by
      rw [fin, fin]
      refine ⟨Ag_s2 h, fun x hx => ?_⟩
      rw [gV_sV, gV_sV]
      by_cases c : x = p
      · rw [if_pos ⟨rfl, c, rfl⟩, if_pos ⟨rfl, c, rfl⟩]
      · rw [if_neg (fun e => c e.2.1), if_neg (fun e => c e.2.1)]; exact hA x hx c
    unfold x_X5_insert_2
    by_cases c0 : p = 0
    · have hle : nI p ≤ 0 := by rw [c0]; decide
      rw [if_pos hle, if_pos hle]; exact fin2
    · obtain ⟨q, rfl⟩ : ∃ q, p = q + 1 := ⟨p - 1, by omega⟩
      have hle : ¬ nI (q + 1) ≤ 0 := nI_nle (by omega) (by omega)
      have h12 : ¬ (12 : Int32) ≤ nI (q + 1) := by rw [e12]; exact nI_ge (by omega) (by omega)
      rw [if_neg hle, if_neg h12, if_neg hle, if_neg h12, nI_pred, nI_clamp (show q < 2 ^ 31 by omega), pk_m1, nI_clamp (show q + 1 < 2 ^ 31 by omega), hA q (by omega) (by omega), ahead_d h]
      by_cases cb : x_X5_isAhead j (nI f) (gV C 19 j q) C = 0
      · rw [if_pos cb, if_pos cb]; exact fin2
      · rw [if_neg cb, if_neg cb]
        refine ins_d hi k q _ _ (by omega) (by omega) (Ag_s2 h) (fun x hx hne => ?_)
        rw [gV_sV, gV_sV]
        by_cases c : x = q + 1
        · rw [if_pos ⟨rfl, c, rfl⟩, if_pos ⟨rfl, c, rfl⟩]
        · rw [if_neg (fun e => c e.2.1), if_neg (fun e => c e.2.1)]; exact hA x hx c
theorem ord_d {j : Nat} : ∀ (k i r : Nat) (C D : St), 12 - i < k → i ≤ 12 → r ≤ i → Ag pq C D → (∀ x, x < i → gV D 19 j x = gV C 19 j x) → ∀ x, x < 12 → gV (x_X5_orderRanked_4 j k (nI r) (nI i) D) 19 j x = gV (x_X5_orderRanked_4 j k (nI r) (nI i) C) 19 j x
  | 0, i, r, C, D, hk, _, _, _, _ => absurd hk (Nat.not_lt_zero _)
  | k + 1, i, r, C, D, hk, hi, hr, h, hA => by
    intro x hx
    have e12 : (12 : Int32) = nI 12 := by decide
    unfold x_X5_orderRanked_4
    rw [e12]
    by_cases c : 12 ≤ i
    · have e : i = 12 := by omega
      subst e
      rw [if_pos (Int32.le_refl _), if_pos (Int32.le_refl _)]
      exact hA x hx
    · have i12 : i < 12 := by omega
      have h1 : Ag pq (sV C 19 j i (-1)) (sV D 19 j i (-1)) := Ag_s2 h
      have hA1 : ∀ x, x < i + 1 → gV (sV D 19 j i (-1)) 19 j x = gV (sV C 19 j i (-1)) 19 j x := fun x hx => by
        rw [gV_sV, gV_sV]
        by_cases c : x = i
        · rw [if_pos ⟨rfl, c, rfl⟩, if_pos ⟨rfl, c, rfl⟩]
        · rw [if_neg (fun e => c e.2.1), if_neg (fun e => c e.2.1)]; exact hA x (by omega)
      rw [if_neg (nI_ge i12 (by omega)), if_neg (nI_ge i12 (by omega)), nI_clamp (show i < 2 ^ 31 by omega), ranked_d h1]
      unfold x_X5_orderRanked_31 x_X5_orderRanked_34
      rw [nI_1, nI_1]
      by_cases cb : x_X5_isRanked j (nI i) (sV C 19 j i (-1)) = 0
      · rw [if_pos cb, if_pos cb]
        exact ord_d k (i + 1) r _ _ (by omega) (by omega) (by omega) h1 hA1 x hx
      · rw [if_neg cb, if_neg cb]
        have ei : ∀ C, x_X5_insert j (nI i) (nI r) C = x_X5_insert_2 j fu (nI i) (nI r) C := fun _ => rfl
        rw [ei, ei]
        obtain ⟨q1, q2⟩ := ins_d (j := j) (f := i) i12 fu r _ _ (by rw [fuE]; omega) hr h1 (fun x hx _ => hA1 x (by omega))
        exact ord_d k (i + 1) (r + 1) _ _ (by omega) (by omega) (by omega) q1 (fun x hx => q2 x (by omega)) x hx
theorem order_d {j : Nat} {C D : St} (h : Ag pq C D) (x : Nat) (hx : x < 12) : gV (x_X5_orderRanked j D) 19 j x = gV (x_X5_orderRanked j C) 19 j x :=
  ord_d (j := j) fu 0 0 C D (by rw [fuE]; omega) (by omega) (by omega) h (fun x hx => absurd hx (Nat.not_lt_zero x)) x hx
theorem od_0 : ∀ t, od t 0 = 0
  | 0 => rfl
  | t + 1 => by unfold od; rw [if_pos rfl]; exact od_0 t
/-- the bracket made anew: what the law asks about it -/
theorem tab_c {n nb np j : Nat} {γ M : St} (hI : I2 n nb np γ M) (hj : j < np) : x_X7_tableau (nI j) γ = (1, 0, γ) ∨ ∃ r t C, 2 ≤ r ∧ TT r t ∧ x_X7_tableau (nI j) γ = (0, nI (2 ^ (t + 1)), C) ∧ gV C 1 0 2 = nI (2 ^ (t + 1)) ∧ gV C 16 0 (2 * (2 ^ t + 0) + 0) = gV (x_X5_orderRanked j γ) 19 j 0 ∧ Ag pq γ C ∧ ∃ a g, a < 4096 ∧ g < 4096 ∧ gV γ 5 j 1 = nI a ∧ gV γ 5 j 4 = nI g ∧ r = pcn (mk a g) 12 := by
  obtain ⟨A1, A2, A3, A4, A5, A6, A7, A8, A9, A10, A11, A12, A13, A14⟩ := hI.1
  obtain ⟨a, g, nf, r, C1, M1, d1, d2, d3, d4, d5, d6, d7, d8, d9, d10, f1, f2, f3, f4, f5, f6, f7, f8, f9⟩ := order_eq hI hj
  have ha4 := pow12 d1 d3
  have hrc : ∀ D, Ag k19 γ D → x_X5_rankedCount j D = nI r := by
    intro D hD
    unfold x_X5_rankedCount
    rw [hD 5 j 1 rfl, hD 5 j 4 rfl, d7, d8, andn_eq ha4]
    have := bc_eq (mk_lt (g := g) ha4) D
    unfold mk at this d9
    rw [this, d9]
  have e2' : (2 : Int32) = nI 2 := by decide
  unfold x_X7_tableau
  rw [(poolOf_in A6 A7 A14 hj).1]
  simp only [oc]
  rw [hrc γ (Ag.rf _ _)]
  by_cases c2 : 2 ≤ r
  · have hl : (2 : Int32) ≤ nI r := by rw [e2']; exact nI_le c2 (by omega)
    rw [if_pos hl]
    obtain ⟨t, hT⟩ := TT_ex c2 d10
    have ht := hT.1
    have hP : 2 ^ (t + 1) = 2 * 2 ^ t := by rw [Nat.pow_succ]; omega
    have hH : 2 ^ t ≤ 8 := by
      have : 2 ^ t ≤ 2 ^ 3 := Nat.pow_le_pow_right (by omega) (by omega)
      omega
    obtain ⟨C2, g1, g2, g3, g4, g5, g6⟩ := order_c ht C1
    obtain ⟨l1, l2⟩ := least_eq d10 hT C1
    have hV : ∀ D, Ag k16 C2 D → ∀ i, i < 2 * 2 ^ t → x_X5_rankedAt j (gV D 17 0 i) D = (fun i => if r ≤ od t i then -1 else gV M1 38 0 (od t i)) i ∧ ok_X5_rankedAt j (gV D 17 0 i) D := by
      intro D hD i hi
      have hod := od_lt t i (by omega)
      have e12 : (12 : Int32) = nI 12 := by decide
      rw [hD 17 0 i rfl, g6 i (by omega)]
      unfold x_X5_rankedAt ok_X5_rankedAt x_X5_rankedAt_19 ok_X5_rankedAt_19
      rw [if_neg (nI_pos (show od t i < 2 ^ 31 by omega)), if_neg (nI_pos (show od t i < 2 ^ 31 by omega)), e12]
      by_cases c12 : 12 ≤ od t i
      · have hl := nI_le c12 (show od t i < 2 ^ 31 by omega)
        rw [if_pos hl, if_pos hl]
        exact ⟨by show _ = if r ≤ od t i then _ else _; rw [if_pos (by omega)], trivial⟩
      · have hg := nI_ge (show od t i < 12 by omega) (show 12 < 2 ^ 31 by omega)
        rw [if_neg hg, if_neg hg, nI_clamp (show od t i < 2 ^ 31 by omega), hD 19 j _ rfl, g4 19 j _ rfl]
        refine ⟨?_, vp_in_nI (by omega) (by omega), trivial⟩
        show _ = if r ≤ od t i then _ else _
        by_cases cr : r ≤ od t i
        · rw [if_pos cr]; exact f9.2 _ cr (by omega)
        · rw [if_neg cr]; exact (f9.1 _ (by omega)).1
    obtain ⟨C3, n1', n2', n3', n4', n5', n6', n7'⟩ := nodes_c (j := j) (C0 := C2) hH (by rw [g3, hP]) hV
    have hmk : x_X1_makeFrom j γ = C3 := by
      unfold x_X1_makeFrom x_X1_makeFrom_4
      rw [f1, hrc C1 f5, l1, g1]
      exact n1'
    have h12 : gV C3 1 0 2 = nI (2 ^ (t + 1)) := by rw [n3' 1 0 2 rfl]; exact g3
    refine Or.inr ⟨r, t, C3, c2, hT, ?_, h12, ?_, ?_, a, g, ha4, d4, d7, d8, d9⟩
    · unfold x_X7_tableau_46
      rw [hmk, h12]
    · have h := n7' 0 (by have := Nat.two_pow_pos t; omega)
      rw [show 2 * (2 ^ t + 0) + 0 = 2 * 2 ^ t + 0 by omega, h]
      show (if r ≤ od t 0 then (-1 : Int32) else gV M1 38 0 (od t 0)) = _
      rw [od_0, if_neg (by omega), f1]
      exact (f9.1 0 (by omega)).1.symm
    · intro c x k hc
      have hc' : c = 18 ∨ c = 5 := by unfold pq at hc; simp at hc; exact hc
      have q16 : k16 c k = true := by rcases hc' with e | e <;> subst e <;> rfl
      have q17 : k17 c k = true := by rcases hc' with e | e <;> subst e <;> rfl
      have q19 : k19 c k = true := by rcases hc' with e | e <;> subst e <;> rfl
      rw [n3' c x k q16, g4 c x k q17, f5 c x k q19]
  · have hl : ¬ (2 : Int32) ≤ nI r := by rw [e2']; exact nI_ge (by omega) (by omega)
    rw [if_neg hl]
    exact Or.inl rfl
variable {K91 : Int32 → Int32 → Int32 → Int32 → St → Nat × Int32 × St} {xs : Nat → Int32} {Ln : Nat} {a6 : Int32}
theorem b_tableau {nf np nb j : Nat} {γ : St} (h979 : H9 K91 xs Ln a6) (h : IV nf np nb γ) (hj : j < np) :
    OKr (x_LB_915 K91 xs Ln (nI nf) (nI np) (nI nb) a6 (nI j) (x_L_call 11 (nI j) 0 0 0 0 γ).1 (x_L_call 11 (nI j) 0 0 0 0 γ).2) := by
  have hle := h.1
  rw [lc_11]
  have hiv : IV nf np nb (x_X7_tableau (nI j) γ).2.2 := iv_of h (fw_X7_tableau (FR.rf γ)) (gi_tableau (nI j) h.2.1).2
  obtain ⟨M0, hM0⟩ := h.2.1
  unfold x_LB_915
  rcases tab_c hM0 hj with e | ⟨r, t, C, c2, hT, e, e1, e2, e3, a, g, ha, hg, h1, h4, hr⟩
  · rw [e, cL_1 rfl]
    dsimp only
    rw [if_pos rfl]
    exact h979 _ _ _ _ h
  · rw [e] at hiv
    have hiv : IV nf np nb C := hiv
    obtain ⟨M, hM⟩ := hiv.2.1
    obtain ⟨ht4, hT1, hT2⟩ := hT
    have p2 : 2 ≤ 2 ^ (t + 1) := by have : 2 ^ 1 ≤ 2 ^ (t + 1) := Nat.pow_le_pow_right (by omega) (by omega); omega
    have p16 := pow4 ht4
    have hpt : 2 ^ (t + 1) = 2 * 2 ^ t := by rw [Nat.pow_succ]; omega
    obtain ⟨a', g', r', V, ha', hg', hgM, h1', h4', hr', hrn, hV, hR, hS⟩ := rank_run hM hj hiv.2.2.1 hiv.1
    have ea : a' = a := (nI_eq (by have := pow12 hle ha'; omega) (by omega)).mp (h1'.symm.trans ((e3 5 j 1 rfl).trans h1))
    have eg : g' = g := (nI_eq (by omega) (by omega)).mp (h4'.symm.trans ((e3 5 j 4 rfl).trans h4))
    subst ea eg
    have er : r' = r := hr'.trans hr.symm
    subst er
    have tb : ∀ t, t < 4 → (nI (2 ^ (t + 1)) >>> (((0 : Int32) + 1) &&& 31) : Int32) = nI (2 ^ t) := by decide
    have em : x_X1_matchesIn (nI 0) C = nI (2 ^ t) := by
      unfold x_X1_matchesIn
      rw [if_neg (by decide), if_neg (by decide), e1]
      exact tb t ht4
    have p8 : 2 ^ t ≤ 8 := by omega
    have pp := Nat.two_pow_pos t
    have emeet : x_X7_meets 0 0 0 C = (0, gV (x_X5_orderRanked j γ) 19 j 0, C) := by
      unfold x_X7_meets x_X7_checkMatch x_X1_hasMatch
      have em' : x_X1_matchesIn 0 C = nI (2 ^ t) := em
      rw [if_neg (show ¬ (0 : Int32) < 0 by decide), em', if_neg (nI_nle pp (by omega)), if_neg (show ¬ (1 : Int32) = 0 by decide)]
      dsimp only
      rw [if_pos rfl]
      have ew : x_X7_isWithin 0 0 2 C = 1 := (show x_X7_isWithin 0 0 2 γS = 1 by decide)
      rw [ew, if_neg (show ¬ (1 : Int32) = 0 by decide), if_neg (show ¬ (0 : Int32) = 2 by decide)]
      have hf := (fencerIn_k (C := C) (W := 2 ^ t) (r := 0) (m := 0) (s := 0) p8 pp (by omega) em).1
      have hf : x_X1_fencerIn 0 0 0 C = gV C 16 0 (2 * (2 ^ t + 0) + 0) := hf
      rw [hf, e2]
    obtain ⟨r1, r2, r3, r4, r5⟩ := hR C (Ag.rf _ _) rfl
    have k0 := r5 0 (by omega)
    have v0 : nI (V 0) = gV (x_X5_orderRanked j γ) 19 j 0 := (r3 0 (by omega)).symm.trans (order_d e3 0 (by omega))
    rw [if_pos (show 0 < r' by omega), v0] at k0
    have k0 : x_X7_rank (nI j) 0 C = (0, gV (x_X5_orderRanked j γ) 19 j 0, x_X5_orderRanked j C) := k0
    rw [e, cL_0 rfl]
    dsimp only
    have n73 : ¬ nI (2 ^ (t + 1)) = -73 := by
      intro q
      have := congrArg Int32.toInt q
      rw [nI_toInt (by omega)] at this
      have e : (-73 : Int32).toInt = -73 := by decide
      omega
    rw [if_neg n73, show (2 : Int32) = nI 2 by decide, if_neg (nI_nlt p2 (by omega)), emeet]
    dsimp only
    rw [if_pos rfl, k0]
    dsimp only
    rw [if_pos rfl]
    unfold x_LB_944
    rw [if_pos rfl, show (2 : Int32) = nI 2 by decide, pk_div (by omega) (by omega) (by omega), show 2 ^ (t + 1) / 2 = 2 ^ t by omega]
    have lt : 2 ^ t < r' := by
      by_cases c : t = 0
      · subst c; omega
      · have h := hT2 (t - 1) (by omega)
        rw [show t - 1 + 1 = t by omega] at h
        exact h
    obtain ⟨s1, s2, s3, s4, s5⟩ := hR (x_X5_orderRanked j C) r1 r2
    rw [s5 (2 ^ t) (by omega), if_pos lt]
    dsimp only
    rw [if_pos rfl]
    unfold x_LB_957
    rw [if_pos (nI_pos' (by have := (hV (2 ^ t) lt).1; omega))]
    unfold x_LB_966
    obtain ⟨q1, q2, q3, q4, q5⟩ := hR (x_X5_orderRanked j (x_X5_orderRanked j C)) s1 s2
    rw [q5 (2 ^ (t + 1)) (by omega), if_neg (show ¬ 2 ^ (t + 1) < r' by omega)]
    dsimp only
    rw [if_pos rfl]
    unfold x_LB_974
    rw [if_pos (show (-1 : Int32) < 0 by decide)]
    exact h979 _ _ _ _ (iv_19 hiv q1 q2)
end TAB
end
