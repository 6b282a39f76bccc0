noncomputable section
section LOOP
theorem wi_1 {x l m : Nat} (h1 : l ≤ x) (h2 : x ≤ m) (hm : m < 2 ^ 31) : x_X7_isWithin (nI x) (nI l) (nI m) γS = 1 := by
  unfold x_X7_isWithin
  rw [if_neg (nI_nlt h1 (by omega)), if_neg (nI_nlt h2 (by omega))]
theorem si_1 {x : Nat} (h : x < 2) : x_X7_isSide (nI x) γS = 1 := by
  have t : ∀ x, x < 2 → x_X7_isSide (nI x) γS = 1 := by decide
  exact t x h
variable {K91 : Int32 → Int32 → Int32 → Int32 → St → Nat × Int32 × St} {xs : Nat → Int32} {Ln : Nat}
theorem step {nf np nb X k : Nat} {γ : St} (h979 : H9 K91 xs Ln (nI k)) (h : IV nf np nb γ) (hX : X < 2 ^ 31) (hk : k < 90) : OKr (x_LB_121 K91 xs Ln (nI nf) (nI np) (nI nb) (nI k) (nI X) γ) := by
  have hle := h.1
  have hnp := (gi_b h.2.1).2.1
  rw [b_busy h]
  have e16 : (16 : Int32) = nI 16 := by decide
  have e20 : (20 : Int32) = nI 20 := by decide
  rw [e16, pk_rem hX (by omega) (by omega), pk_div hX (by omega) (by omega), e20, pk_div (by omega) (by omega) (by omega)]
  have hA := Nat.mod_lt X (show 0 < 16 by omega)
  have hY : X / 16 < 2 ^ 31 := by omega
  have hZ : X / 16 / 20 < 2 ^ 31 := by omega
  generalize X % 16 = A at *
  generalize X / 16 / 20 = Z at *
  generalize X / 16 = Y at *
  have c0 : (nI A = 0) ↔ A = 0 := nI_eq (b := 0) (by omega) (by omega)
  have c2 : ((2 : Int32) ≤ nI nf) ↔ 2 ≤ nf := nI_leI (a := 2) (by omega) (by omega)
  have c3 : ((3 : Int32) ≤ nI A) ↔ 3 ≤ A := nI_leI (a := 3) (by omega) (by omega)
  have c6 : ((6 : Int32) ≤ nI A) ↔ 6 ≤ A := nI_leI (a := 6) (by omega) (by omega)
  have c11 : ((11 : Int32) ≤ nI A) ↔ 11 ≤ A := nI_leI (a := 11) (by omega) (by omega)
  have c13 : ((13 : Int32) ≤ nI A) ↔ 13 ≤ A := nI_leI (a := 13) (by omega) (by omega)
  have d13 : (nI A = 13) ↔ A = 13 := nI_eq (b := 13) (by omega) (by omega)
  have d14 : (nI A = 14) ↔ A = 14 := nI_eq (b := 14) (by omega) (by omega)
  have y2 : nI Y - nI Y / 2 * 2 = nI (Y % 2) := pk_rem (d := 2) hY (by omega) (by omega)
  have y3 : nI Y - nI Y / 3 * 3 = nI (Y % 3) := pk_rem (d := 3) hY (by omega) (by omega)
  have y4 : nI Y - nI Y / 4 * 4 = nI (Y % 4) := pk_rem (d := 4) hY (by omega) (by omega)
  have z3 : nI Z - nI Z / 3 * 3 = nI (Z % 3) := pk_rem (d := 3) hZ (by omega) (by omega)
  have z4 : nI Z - nI Z / 4 * 4 = nI (Z % 4) := pk_rem (d := 4) hZ (by omega) (by omega)
  have z7 : nI Z - nI Z / 7 * 7 = nI (Z % 7) := pk_rem (d := 7) hZ (by omega) (by omega)
  have z60 : nI Z - nI Z / 60 * 60 = nI (Z % 60) := pk_rem (d := 60) hZ (by omega) (by omega)
  have z90 : nI Z - nI Z / 90 * 90 = nI (Z % 90) := pk_rem (d := 90) hZ (by omega) (by omega)
  have m2 := Nat.mod_lt Y (show 0 < 2 by omega)
  have m3 := Nat.mod_lt Y (show 0 < 3 by omega)
  have m4 := Nat.mod_lt Y (show 0 < 4 by omega)
  have n3 := Nat.mod_lt Z (show 0 < 3 by omega)
  have n7 := Nat.mod_lt Z (show 0 < 7 by omega)
  have n60 := Nat.mod_lt Z (show 0 < 60 by omega)
  have n90 := Nat.mod_lt Z (show 0 < 90 by omega)
  have ek : nI k * 5 + nI (Y % 4) = nI (k * 5 + Y % 4) := by rw [show (5 : Int32) = nI 5 by decide, pk_mul, nI_add]
  have e13 : (1 : Int32) + nI (Z % 3) = nI (1 + Z % 3) := nI_add 1 (Z % 3)
  have e90 : (1 : Int32) + nI (Z % 90) = nI (1 + Z % 90) := nI_add 1 (Z % 90)
  have ca : x_X7_isSide (nI (Y % 2)) γS = 1 := si_1 m2
  have ck : x_X7_isWithin (nI (k * 5 + Y % 4)) 0 1000000 γS = 1 := wi_1 (l := 0) (m := 1000000) (by omega) (by omega) (by omega)
  unfold x_LB_166
  rw [y2, y3, y4, z3, z4, z7, z60, z90, ek, e13, e90]
  by_cases q0 : A = 0
  · rw [if_pos (c0.mpr q0)]; exact b_fencer h979 h
  rw [if_neg (fun e => q0 (c0.mp e))]
  by_cases q2 : 2 ≤ nf
  case neg => rw [if_neg (fun e => q2 (c2.mp e))]; exact b_fencer h979 h
  rw [if_pos (c2.mpr q2)]
  have nf0 : ¬ nI nf = 0 := nI_ne0 (by omega) (by omega)
  by_cases q3 : 3 ≤ A
  case neg =>
    rw [if_neg (fun e => q3 (c3.mp e))]
    have hs := shl_tab nf (by omega)
    simp only [Bool.and_eq_true, beq_iff_eq] at hs
    have hp : 2 ^ nf ≤ 2 ^ 12 := Nat.pow_le_pow_right (by omega) hle
    have hp0 := Nat.two_pow_pos nf
    rw [hs.1, if_neg (nI_ne0 hp0 (by omega)), pk_rem hY hp0 (by omega)]
    exact b_pool h979 h (Nat.mod_lt Y hp0) 13 0 (by omega) (by omega)
  rw [if_pos (c3.mpr q3)]
  by_cases q6 : 6 ≤ A
  case neg =>
    rw [if_neg (fun e => q6 (c6.mp e))]
    have bm : OKr (x_LB_353 K91 xs Ln (nI nf) (nI np) (nI nb) (nI k) (nI Y) (nI Z) (bz γ) γ) := by
      unfold x_LB_353
      exact b_begin h979 h (by omega) hY hZ (Or.inl rfl)
    by_cases p0 : np = 0
    · rw [if_pos (show nI np = 0 by rw [p0]; rfl)]; exact bm
    · have np0 : ¬ nI np = 0 := nI_ne0 (by omega) (by omega)
      rw [if_neg np0]
      by_cases p4 : nI (Y % 4) = 0
      · rw [if_pos p4]; exact bm
      · rw [if_neg p4, if_neg np0, pk_rem hY (show 0 < np by omega) (by omega)]
        exact b_begin h979 h (by omega) hY hZ (Or.inr ⟨_, Nat.mod_lt Y (by omega), rfl⟩)
  rw [if_pos (c6.mpr q6)]
  by_cases q11 : 11 ≤ A
  case neg =>
    rw [if_neg (fun e => q11 (c11.mp e))]
    split
    · exact b_hit h979 h ca ck (wi_1 (l := 0) (m := 1000) (by omega) (by omega) (by omega)) (wi_1 (l := 0) (m := 2) (by omega) (by omega) (by omega))
    · exact b_act h979 h ca (wi_1 (l := 0) (m := 6) (by omega) (by omega) (by omega)) ck
  rw [if_pos (c11.mpr q11)]
  by_cases q13 : 13 ≤ A
  case neg =>
    rw [if_neg (fun e => q13 (c13.mp e))]
    exact b_judge h979 h
  rw [if_pos (c13.mpr q13)]
  by_cases r13 : A = 13
  · rw [if_pos (d13.mpr r13)]
    unfold x_LB_724 x_LB_752 x_LB_773
    by_cases s0 : nI (Y % 3) = 0
    · rw [if_pos s0, lc_5]
      exact b_cce h979 (card_r ca (wi_1 (l := 1) (m := 3) (by omega) (by omega) (by omega))) (iv_of h (fw_X7_card (FR.rf γ)) (gi_card _ _ h.2.1).2)
    · rw [if_neg s0]
      by_cases s1 : nI (Y % 3) = 1
      · rw [if_pos s1, lc_6]
        exact b_cce h979 (clock_r h.2.1 (wi_1 (l := 1) (m := 240) (by omega) (by omega) (by omega))) (iv_of h (fw_X7_clock (FR.rf γ)) (gi_clock _ h.2.1).2)
      · rw [if_neg s1]
        by_cases s4 : nI (Z % 4) = 0
        · rw [if_pos s4, lc_7]
          exact b_cce h979 (end_r h.2.1) (iv_of h (fw_X7_end (FR.rf γ)) (gi_end h.2.1).2)
        · rw [if_neg s4]
          exact b_cce (r := (0, 0, γ)) h979 (Or.inr ⟨rfl, (show ¬ (0 : Int32) = -72 by decide), (show ¬ (239 : Int32) < 0 by decide), (show ¬ (0 : Int32) = -73 by decide)⟩) h
  rw [if_neg (fun e => r13 (d13.mp e))]
  by_cases p0 : np = 0
  · have pz : nI np ≤ 0 := by rw [p0]; decide
    rw [if_pos pz, if_pos pz, ite_self]
    exact h979 _ _ _ _ h
  · have np0 : ¬ nI np = 0 := nI_ne0 (by omega) (by omega)
    have npl : ¬ nI np ≤ 0 := nI_nle (by omega) (by omega)
    rw [if_neg npl, if_neg npl, if_neg np0, if_neg np0, if_neg nf0, pk_rem hY (show 0 < np by omega) (by omega), pk_rem hZ (show 0 < nf by omega) (by omega)]
    split
    · exact b_withdraw h979 h (Nat.mod_lt Y (by omega)) (Nat.mod_lt Z (by omega)) q2 (pk_rem hZ (by omega) (by omega))
    · exact b_tableau h979 h (Nat.mod_lt Y (by omega))
theorem lb_ok (xs : Nat → Int32) (L : Nat) (hL : L ≤ 260) : (x_LB xs L γS).1 = 0 ∧ (x_LB xs L γS).2.1 = 1 := by
  have run : ∀ (f k nf np nb : Nat) (γ : St), 90 - k < f → k ≤ 90 → IV nf np nb γ → OKr (x_LB_91 xs L f (nI nf) (nI np) (nI nb) (nI k) γ) := by
    intro f
    induction f with
    | zero => intro k nf np nb γ hf; exact absurd hf (Nat.not_lt_zero _)
    | succ f ih =>
      intro k nf np nb γ hf hk h
      unfold x_LB_91
      have c90 : ((90 : Int32) ≤ nI k) ↔ 90 ≤ k := nI_leI (a := 90) (by omega) (by omega)
      by_cases c : 90 ≤ k
      · rw [if_pos (c90.mpr c)]; exact ⟨rfl, rfl⟩
      · rw [if_neg (fun e => c (c90.mp e))]
        have h979 : H9 (x_LB_91 xs L f) xs L (nI k) := x979 (fun nf np nb C hC => by
          rw [nI_1]; exact ih (k + 1) nf np nb C (by omega) (by omega) hC)
        by_cases cL : L = 0
        · rw [if_pos (show nI L = 0 by rw [cL]; rfl), show (103 : Int32) * nI k = nI (103 * k) by rw [show (103 : Int32) = nI 103 by decide, pk_mul]]
          exact step h979 h (by omega) (by omega)
        · have L0 : ¬ nI L = 0 := nI_ne0 (by omega) (by omega)
          have hr := Nat.mod_lt k (show 0 < L by omega)
          rw [if_neg L0, if_neg L0, pk_rem (show k < 2 ^ 31 by omega) (show 0 < L by omega) (by omega), nI_clamp (show k % L < 2 ^ 31 by omega), if_neg (fun e => e.elim (fun q => nI_pos (show k % L < 2 ^ 31 by omega) q) (fun q => by omega))]
          have hu := pk_ushr (xs (k % L)) 8 8 (by decide)
          have hb := (xs (k % L)).toBitVec.isLt
          generalize ((xs (k % L)).toUInt32 >>> ((8 : Int32).toUInt32 &&& Int32.toUInt32 31)).toInt32 = r at hu ⊢
          have er : r = nI ((xs (k % L)).toBitVec.toNat / 2 ^ 8) := by
            apply Int32.toBitVec_inj.mp
            apply BitVec.eq_of_toNat_eq
            rw [hu, pk_tn (by omega)]
          rw [er]
          exact step h979 h (by omega) (by omega)
  have h0 : IV 0 0 0 γS := ⟨by omega, GI_of Inv_0, rfl, Or.inl rfl, fun i j hi => absurd hi (Nat.not_lt_zero i)⟩
  exact run 91 0 0 0 0 γS (by omega) (by omega) h0
end LOOP
end
