noncomputable section
/-! judging -/
theorem bit12 (y : Int32) (γ : St) : x_X7_bitOf y γ = 1 ∨ x_X7_bitOf y γ = 2 := by
  unfold x_X7_bitOf
  split
  · exact Or.inl rfl
  · exact Or.inr rfl
def JS (s r : Int32) : Prop := s = 0 ∨ s = 1 ∨ s = 2 ∨ (s = 3 ∧ r = 3)
theorem js_b (y : Int32) (γ : St) (r : Int32) : JS (x_X7_bitOf y γ) r := by
  rcases bit12 y γ with h | h
  · exact Or.inr (Or.inl h)
  · exact Or.inr (Or.inr (Or.inl h))
def JR (q : Int32 × St) (γ : St) : Prop := ∃ s r X, q = (s, sV X 7 0 9 r) ∧ JS s r ∧ 0 ≤ r ∧ Ag pc6 γ X
theorem jz {r : Int32} {X γ : St} (hr : 0 ≤ r) (hA : Ag pc6 γ X) : JR (0, sV X 7 0 9 r) γ := ⟨0, r, X, rfl, Or.inl rfl, hr, hA⟩
theorem jb {r y : Int32} {X X0 γ : St} (hr : 0 ≤ r) (hA : Ag pc6 γ X) : JR (x_X7_bitOf y X0, sV X 7 0 9 r) γ := ⟨_, r, X, rfl, js_b y X0 r, hr, hA⟩
theorem j3 {X γ : St} (hA : Ag pc6 γ X) : JR (3, sV X 7 0 9 3) γ := ⟨3, 3, X, rfl, Or.inr (Or.inr (Or.inr ⟨rfl, rfl⟩)), by decide, hA⟩
theorem jr_v (a b : Int32) (γ : St) : JR (x_X7_judgeByRight a b γ) γ := by
  have hA : Ag pc6 γ (x_X4_holderAhead (if a < b then b else a) γ).2 := f6_X4_holderAhead (Ag.rf pc6 γ)
  unfold x_X7_judgeByRight
  generalize (x_X4_holderAhead (if a < b then b else a) γ).2 = X at hA
  generalize (x_X4_holderAhead (if a < b then b else a) γ).1 = h
  unfold x_X7_judgeByRight_12 x_X7_judgeByRight_34 x_X7_judgeByRight_45 x_X7_judgeByRight_100 x_X7_judgeByRight_122 x_X7_because
  repeat' split
  all_goals first
    | with_reducible exact jz (by decide) hA
    | with_reducible exact jb (by decide) hA
theorem jf_v (w d : Int32) (γ : St) : JR (x_X7_judgeFor w d γ) γ := by
  unfold x_X7_judgeFor x_X7_judgeFor_39 x_X7_judgeFor_50 x_X7_judgeFor_61 x_X7_judgeFor_87 x_X7_judgeFor_93 x_X7_judgeFor_119 x_X7_because
  repeat' split
  all_goals first
    | with_reducible exact jz (by decide) (Ag.rf _ _)
    | with_reducible exact jb (by decide) (Ag.rf _ _)
    | with_reducible exact j3 (Ag.rf _ _)
    | with_reducible exact jr_v _ _ γ
theorem add_v (b : Nat) (s r : Int32) (W : St) (hs : JS s r) (h0 : ¬ s = 0) : gV (x_X0_addTouches b s W) 2 (2 * b) 1 = gV W 2 (2 * b) 1 + (s - s / 2 * 2) ∧ gV (x_X0_addTouches b s W) 2 (2 * b + 1) 1 = gV W 2 (2 * b + 1) 1 + s / 2 ∧ gV (x_X0_addTouches b s W) 7 0 9 = gV W 7 0 9 := by
  have key : ∀ X : St, Ag pT X (x_X0_addTouches_38 b X) := fun X => ft_X0_addTouches_38 (Ag.rf pT X)
  have n1 : ¬ 2 * b = 2 * b + 1 := by omega
  have n2 : ¬ 2 * b + 1 = 2 * b := by omega
  unfold x_X0_addTouches x_X0_addTouches_19
  rcases hs with h | h | h | ⟨h, -⟩
  · exact absurd h h0
  · subst h
    rw [if_neg (by decide), if_pos (by decide), key _ 2 _ 1 rfl, key _ 2 _ 1 rfl, key _ 7 _ 9 rfl]
    refine ⟨?_, ?_, ?_⟩
    · rw [gV_sV, if_pos ⟨rfl, rfl, rfl⟩]; rfl
    · rw [gV_sV, if_neg (fun q => n2 q.2.2), show (1 : Int32) / 2 = 0 by decide, Int32.add_zero]
    · rw [gV_sV, if_neg (by omega)]
  · subst h
    rw [if_pos (by decide), if_neg (by decide), key _ 2 _ 1 rfl, key _ 2 _ 1 rfl, key _ 7 _ 9 rfl]
    refine ⟨?_, ?_, ?_⟩
    · rw [gV_sV, if_neg (fun q => n1 q.2.2), show (2 : Int32) - 2 / 2 * 2 = 0 by decide, Int32.add_zero]
    · rw [gV_sV, if_pos ⟨rfl, rfl, rfl⟩]; rfl
    · rw [gV_sV, if_neg (by omega)]
  · subst h
    rw [if_neg (by decide), if_neg (by decide), key _ 2 _ 1 rfl, key _ 2 _ 1 rfl, key _ 7 _ 9 rfl]
    refine ⟨?_, ?_, ?_⟩
    · rw [gV_sV, if_neg (fun q => n1 q.2.2), gV_sV, if_pos ⟨rfl, rfl, rfl⟩]; rfl
    · rw [gV_sV, if_pos ⟨rfl, rfl, rfl⟩, gV_sV, if_neg (fun q => n2 q.2.2)]; rfl
    · rw [gV_sV, if_neg (by omega), gV_sV, if_neg (by omega)]
theorem give_v (b : Nat) (s r : Int32) (W : St) (hs : JS s r) : gV (x_X0_giveTouches b s W) 2 (2 * b) 1 = gV W 2 (2 * b) 1 + (s - s / 2 * 2) ∧ gV (x_X0_giveTouches b s W) 2 (2 * b + 1) 1 = gV W 2 (2 * b + 1) 1 + s / 2 ∧ gV (x_X0_giveTouches b s W) 7 0 9 = gV W 7 0 9 := by
  unfold x_X0_giveTouches
  by_cases c : s = 0
  · subst c
    rw [if_pos rfl, show (0 : Int32) - 0 / 2 * 2 = 0 by decide, show (0 : Int32) / 2 = 0 by decide, Int32.add_zero, Int32.add_zero]
    exact ⟨rfl, rfl, rfl⟩
  · rw [if_neg c]
    obtain ⟨a1, a2, a3⟩ := add_v b s r (sV W 0 b 8 0) hs c
    rw [a1, a2, a3, gV_sV, if_neg (by omega), gV_sV, if_neg (by omega), gV_sV, if_neg (by omega)]
    exact ⟨rfl, rfl, rfl⟩
theorem judge_v {γ : St} {b : Nat} (hp : gR γ 7 8 = some b) : ∃ s r, (x_X7_judge γ).1 = 0 ∧ (x_X7_judge γ).2.1 = s ∧ JS s r ∧ 0 ≤ r ∧ gV (x_X7_judge γ).2.2 2 (2 * b) 1 = gV γ 2 (2 * b) 1 + (s - s / 2 * 2) ∧ gV (x_X7_judge γ).2.2 2 (2 * b + 1) 1 = gV γ 2 (2 * b + 1) 1 + s / 2 ∧ gV (x_X7_judge γ).2.2 7 0 9 = r := by
  unfold x_X7_judge
  rw [on_p hp, if_pos rfl]
  simp only [oc]
  obtain ⟨s, r, X, e, hs, hr, hA⟩ := jf_v (gV γ 0 b 2) (x_X0_isDoubleTooFar b γ) γ
  rw [e]
  unfold x_X7_judge_17 x_X7_judge_23 x_X7_judge_30 x_X7_judge_35
  dsimp only
  obtain ⟨g1, g2, g3⟩ := give_v b s r (sV X 7 0 9 r) hs
  generalize x_X0_giveTouches b s (sV X 7 0 9 r) = Z at g1 g2 g3
  have hZ : Ag pT Z (x_X7_clearPisteIfOver b (x_X4_empty Z)) := ft_X7_clearPisteIfOver (ft_X4_empty (Ag.rf pT Z))
  refine ⟨s, r, rfl, rfl, hs, hr, ?_, ?_, ?_⟩
  · rw [hZ 2 _ 1 rfl, g1, gV_sV, if_neg (by omega), hA 2 _ 1 rfl]
  · rw [hZ 2 _ 1 rfl, g2, gV_sV, if_neg (by omega), hA 2 _ 1 rfl]
  · rw [hZ 7 _ 9 rfl, g3, gV_sV, if_pos ⟨rfl, rfl, rfl⟩]
section BR3
variable {K91 : Int32 → Int32 → Int32 → Int32 → St → Nat × Int32 × St} {xs : Nat → Int32} {Ln : Nat} {a6 : Int32}
theorem b_judge {nf np nb : Nat} {γ : St} (h979 : H9 K91 xs Ln a6) (h : IV nf np nb γ) : OKr (if bz γ = 0 then (x_LB_574 K91 xs Ln (nI nf) (nI np) (nI nb) a6 (bz γ) 0 γ) else (if (x_X7_ofBout (nI nb - 1) 0 γ).1 = 0 then (x_LB_574 K91 xs Ln (nI nf) (nI np) (nI nb) a6 (bz γ) ((x_X7_ofBout (nI nb - 1) 0 γ).2.1) (x_X7_ofBout (nI nb - 1) 0 γ).2.2) else (1, 0, γ))) := by
  have h' : IV nf np nb (x_X7_judge γ).2.2 := iv_of h (fw_X7_judge (FR.rf γ)) (gi_judge h.2.1).2
  rcases h.2.2.2.1 with hp | ⟨hnb, hp⟩
  · rw [bz_0 hp, if_pos rfl]
    unfold x_LB_574 x_LB_594 x_LB_606
    rw [if_pos rfl, lc_4]
    have e : x_X7_judge γ = (1, 0, γ) := by
      unfold x_X7_judge
      rw [no_p hp]; exact if_neg (show ¬ (1 : Nat) = 0 by decide)
    rw [e, cL_1 rfl]
    dsimp only
    rw [if_neg (by decide)]
    unfold x_LB_618 x_LB_689
    rw [if_neg (by decide), if_pos (by decide)]
    exact h979 _ _ _ _ h
  · have n1 : ¬ (1 : Int32) = 0 := by decide
    have hlt : nb - 1 < nb := by omega
    rw [bz_1 (by rw [hp]; simp), if_neg n1, nI_p1 hnb, ofb 0 h.2.1 hlt (by decide)]
    dsimp only
    rw [if_pos rfl]
    unfold x_LB_574
    rw [if_neg n1, nI_p1 hnb, ofb 1 h.2.1 hlt (by decide)]
    dsimp only
    rw [if_pos rfl]
    unfold x_LB_594 x_LB_606
    rw [lc_4, told0, told1]
    obtain ⟨s, r, j1, j2, hs, hr, j3, j4, j5⟩ := judge_v hp
    have e1 : (cL (x_X7_judge γ)).1 = s := by show cE _ _ = s; rw [cE_0 j1, j2]
    have e2 : (cL (x_X7_judge γ)).2 = (x_X7_judge γ).2.2 := rfl
    rw [e1, e2]
    have s0 : (0 : Int32) ≤ s ∧ ¬ s < 0 := by rcases hs with q | q | q | ⟨q, -⟩ <;> subst q <;> decide
    rw [if_pos s0.1]
    unfold x_LB_618 x_LB_689
    rw [if_neg (show ¬ (0 : Int32) = 1 by decide), if_neg s0.2, nI_p1 hnb, ofb 0 h'.2.1 hlt (by decide)]
    dsimp only
    rw [if_pos rfl, told0, j3, if_pos rfl, ofb 1 h'.2.1 hlt (by decide)]
    dsimp only
    rw [if_pos rfl, told1, j4, if_pos rfl]
    have e3 : x_X7_reason (x_X7_judge γ).2.2 = r := j5
    rw [e3, if_neg (Int32.not_lt.mpr hr)]
    by_cases c : s = 3
    · rw [if_pos c]
      rcases hs with q | q | q | ⟨-, q⟩
      · rw [q] at c; exact absurd c (by decide)
      · rw [q] at c; exact absurd c (by decide)
      · rw [q] at c; exact absurd c (by decide)
      · rw [if_pos q]; exact h979 _ _ _ _ h'
    · rw [if_neg c]; exact h979 _ _ _ _ h'
end BR3
/-! a new pool -/
theorem shb {x i : Nat} (hx : x < 4096) (hi : i < 32) : ((nI x >>> (nI i &&& 31)) &&& 1 : Int32) = nI (x / 2 ^ i % 2) := by
  have t := shr1_tab i hi
  simp only [Bool.and_eq_true, beq_iff_eq] at t
  rw [t.1, pk_shrN (by omega) (nI i) i t.2, pk_andN (n := x / 2 ^ i) (Nat.lt_of_le_of_lt (Nat.div_le_self _ _) (by omega)) 1 (by decide)]
theorem pcn_nf {x nf : Nat} (hx : x < 2 ^ nf) : ∀ k, pcn x (nf + k) = pcn x nf
  | 0 => rfl
  | k + 1 => by
    show pcn x (nf + k) + x / 2 ^ (nf + k) % 2 = pcn x nf
    have h : x < 2 ^ (nf + k) := Nat.lt_of_lt_of_le hx (Nat.pow_le_pow_right (by omega) (by omega))
    rw [pcn_nf hx k, Nat.div_eq_of_lt h, Nat.zero_mod, Nat.add_zero]
theorem pcn_up (x : Nat) : ∀ i, pcn x i ≤ i
  | 0 => Nat.le_refl _
  | i + 1 => by
    show pcn x i + x / 2 ^ i % 2 ≤ i + 1
    have := pcn_up x i
    omega
section BR4
variable {K91 : Int32 → Int32 → Int32 → Int32 → St → Nat × Int32 × St} {xs : Nat → Int32} {Ln : Nat} {a6 : Int32}
theorem pool_r {nf np nb x : Nat} {γ : St} (h : IV nf np nb γ) (hx : x < 2 ^ nf) : (2 ≤ pcn x nf → np < 6 → (x_X7_pool (nI x) γ).1 = 0 ∧ (x_X7_pool (nI x) γ).2.1 = nI np ∧ IV nf (np + 1) nb (x_X7_pool (nI x) γ).2.2) ∧ (2 ≤ pcn x nf → np = 6 → x_X7_pool (nI x) γ = (1, 0, γ)) ∧ (pcn x nf < 2 → x_X7_pool (nI x) γ = (2, 0, γ)) := by
  obtain ⟨i1, i2, i3, i4, i5⟩ := id h
  obtain ⟨g1, g2, g3, g4, g5, g6⟩ := gi_b i2
  have hx' := pow12 i1 hx
  obtain ⟨-, -, k9⟩ := gi_pool (nI x) i2
  have e12 : pcn x 12 = pcn x nf := by
    have := pcn_nf hx (12 - nf)
    rw [show nf + (12 - nf) = 12 by omega] at this; exact this
  have hm : (nI x &&& (-(1 <<< (nI nf &&& 31)))) = 0 := (mask_eq i1 _).mpr ⟨x, hx, rfl⟩
  have e2 : (2 : Int32) = nI 2 := by decide
  have e6 : (6 : Int32) = nI 6 := by decide
  have hb := pcn_up x nf
  unfold x_X7_pool at k9 ⊢
  rw [i3, if_pos hm, bc_eq hx', e12, g4] at k9 ⊢
  refine ⟨fun h2 h6 => ?_, fun h2 h6 => ?_, fun h2 => ?_⟩
  · have c1 : (2 : Int32) ≤ nI (pcn x nf) := by rw [e2]; exact nI_le h2 (by omega)
    have c2 : nI np < 6 := by rw [e6]; exact nI_lt h6 (by omega)
    rw [if_pos c1, if_pos c2] at k9 ⊢
    unfold xn_X7_pool at k9 ⊢
    rw [g4, nI_clamp (by omega)] at k9 ⊢
    dsimp only at k9 ⊢
    rw [if_pos rfl] at k9
    refine ⟨rfl, rfl, i1, k9, ?_, by rw [gR_sV, gR_sR, if_neg (by omega)]; exact i4, fun i j hi hj e => ?_⟩
    · rw [gV_sV, if_neg (by decide), gV_sR]
      unfold nP
      rw [gV_sV, if_neg (by omega), gV_sV, if_neg (by omega), gV_sV, if_neg (by omega), gV_sZ, if_neg (by omega), gV_sZ, if_neg (by omega)]
      exact i3
    · have old : ∀ c n k, c ≠ 18 → c ≠ 19 → ¬ (c = 5 ∧ n = np) → c ≠ 7 → gV (sV (sR (nP γ np (nI np) (nI x)) 10 np (some np)) 7 0 7 (nI np + 1)) c n k = gV γ c n k := by
        intro c n k a1 a2 a3 a4
        rw [gV_sV, if_neg (fun q => a4 q.1), gV_sR]
        unfold nP
        rw [gV_sV, if_neg (fun q => a3 ⟨q.1, q.2.2⟩), gV_sV, if_neg (fun q => a3 ⟨q.1, q.2.2⟩), gV_sV, if_neg (fun q => a3 ⟨q.1, q.2.2⟩), gV_sZ, if_neg (fun q => a2 q.1), gV_sZ, if_neg (fun q => a1 q.1)]
      rw [old 0 i 4 (by decide) (by decide) (by omega) (by decide)] at e
      by_cases c : j = np
      · obtain ⟨M, -, hB, -⟩ := i2
        obtain ⟨b1, b2, b3, b4, b5, b6, b7, b8, b9, b10, b11, b12, b13, b14, -⟩ := hB i hi
        rw [b13] at e
        rcases b14 with q | ⟨j', hj', q⟩
        · rw [q] at e; exact absurd e.symm (nI_m1 (by omega))
        · rw [q] at e
          have := (nI_eq (by omega) (by omega)).mp e
          omega
      · rw [old 5 j 1 (by decide) (by decide) (fun q => c q.2) (by decide), old 2 (2 * i) 0 (by decide) (by decide) (by omega) (by decide), old 2 (2 * i + 1) 0 (by decide) (by decide) (by omega) (by decide)]
        exact i5 i j hi (by omega) e
  · have c1 : (2 : Int32) ≤ nI (pcn x nf) := by rw [e2]; exact nI_le h2 (by omega)
    rw [if_pos c1, if_neg (by rw [h6]; decide)]
  · have c1 : ¬ (2 : Int32) ≤ nI (pcn x nf) := by rw [e2]; exact nI_ge h2 (by omega)
    rw [if_neg c1]
    rfl
theorem b_pool {nf np nb x : Nat} {γ : St} (h979 : H9 K91 xs Ln a6) (h : IV nf np nb γ) (hx : x < 2 ^ nf) : ∀ (k i : Nat), nf - i < k → i ≤ nf → OKr (x_LB_242 K91 xs Ln k (nI nf) (nI np) (nI nb) a6 (nI x) (nI (pcn x i)) (nI i) γ)
  | 0, i, hk, _ => absurd hk (Nat.not_lt_zero _)
  | k + 1, i, hk, hi => by
    have hx' := pow12 h.1 hx
    have hle := h.1
    unfold x_LB_242
    by_cases c : i = nf
    · subst c
      rw [if_pos (Int32.le_refl _), lc_9]
      obtain ⟨p1, p2, p3⟩ := pool_r h hx
      have hb := pcn_up x i
      have hnp := (gi_b h.2.1).2.1
      have e6 : (6 : Int32) = nI 6 := by decide
      have e2 : (2 : Int32) = nI 2 := by decide
      have e1 : (1 : Int32) = nI 1 := by decide
      unfold x_LB_278 x_LB_303 x_LB_327 x_LB_328
      by_cases h2 : 2 ≤ pcn x i
      · have c1 : (2 : Int32) ≤ nI (pcn x i) := by rw [e2]; exact nI_le h2 (by omega)
        have c3 : ¬ nI (pcn x i) ≤ 1 := by rw [e1]; exact nI_ge (by omega) (by omega)
        rw [if_pos c1]
        by_cases h6 : np < 6
        · obtain ⟨q1, q2, q3⟩ := p1 h2 h6
          have c2 : ¬ (6 : Int32) ≤ nI np := by rw [e6]; exact nI_ge h6 (by omega)
          have e : (cL (x_X7_pool (nI x) γ)).1 = nI np := by show cE _ _ = _; rw [cE_0 q1, q2]
          have e' : (cL (x_X7_pool (nI x) γ)).2 = (x_X7_pool (nI x) γ).2.2 := rfl
          rw [if_neg c2, e, if_pos rfl, if_neg c3, if_neg c2, nI_1, e']
          exact h979 _ _ _ _ q3
        · have h6' : np = 6 := by omega
          have c2 : (6 : Int32) ≤ nI np := by rw [h6']; decide
          rw [if_pos c2, p2 h2 h6', cL_1 rfl]
          dsimp only
          rw [if_pos rfl, if_neg c3, if_pos c2, Int32.add_zero]
          exact h979 _ _ _ _ h
      · have c1 : ¬ (2 : Int32) ≤ nI (pcn x i) := by rw [e2]; exact nI_ge (by omega) (by omega)
        have c3 : nI (pcn x i) ≤ 1 := by rw [e1]; exact nI_le (by omega) (by omega)
        rw [if_neg c1, p3 (by omega), cL_2 rfl]
        dsimp only
        rw [if_pos rfl, if_pos c3, Int32.add_zero]
        exact h979 _ _ _ _ h
    · rw [if_neg (nI_ge (by omega) (by omega)), shb hx' (by omega), nI_add, nI_1]
      exact b_pool h979 h hx k (i + 1) (by omega) (by omega)
end BR4
end
