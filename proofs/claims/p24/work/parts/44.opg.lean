noncomputable section
theorem or_tab : ∀ F, F < 12 → ∀ h, h < 64 → ∀ l, l < 64 → ((nI (64 * h + l) ||| (1 <<< (nI F &&& 31))) == nI ((64 * h + l) ||| 2 ^ F)) = true := by decide +kernel
theorem or_eq {F g : Nat} (hF : F < 12) (hg : g < 4096) : (nI g ||| (1 <<< (nI F &&& 31))) = nI (g ||| 2 ^ F) := by
  have h := or_tab F hF (g / 64) (by omega) (g % 64) (by omega)
  rw [show 64 * (g / 64) + g % 64 = g by omega, beq_iff_eq] at h
  exact h
theorem or_bit {F g f : Nat} : ((g ||| 2 ^ F) / 2 ^ f % 2 = 1) ↔ (g / 2 ^ f % 2 = 1 ∨ f = F) := by
  have h1 := Nat.testBit_eq_decide_div_mod_eq (x := g ||| 2 ^ F) (i := f)
  have h2 := Nat.testBit_eq_decide_div_mod_eq (x := g) (i := f)
  rw [Nat.testBit_or, Nat.testBit_two_pow, h2] at h1
  by_cases c : f = F
  · subst c; simp at h1 ⊢; exact h1
  · have c' : ¬ F = f := fun e => c e.symm
    simp [c'] at h1
    simp [c, h1]
theorem or_lt {F g : Nat} (hF : F < 12) (hg : g < 4096) : g ||| 2 ^ F < 4096 := by
  have : 2 ^ F < 2 ^ 12 := Nat.pow_lt_pow_right (by omega) hF
  exact Nat.or_lt_two_pow (n := 12) hg this
theorem add_can {a b c : Int32} (h : a + c = b + c) : a = b := by
  have := congrArg (fun x => x - c) h
  simpa using this
/-- bout i counts in pool j -/
def cdP (M : St) (j i l r : Nat) : Prop := gV M 24 0 i = nI j ∧ ¬ gV M 25 0 i = -1 ∧ x_X8_has (gV M 37 0 j) (nI l) M = 0 ∧ x_X8_has (gV M 37 0 j) (nI r) M = 0
theorem counts_eq {C M : St} {nb np j i l r : Nat} (hO : qO C M nb j) (hB : qB C M np i) (hl : l < 12) (hr : r < 12) (e1 : gV M 20 0 (2 * i) = nI l) (e2 : gV M 20 0 (2 * i + 1) = nI r) :
    (cdP M j i l r → x_X5_counts j i C = 1) ∧ (¬ cdP M j i l r → x_X5_counts j i C = 0) := by
  obtain ⟨b1, b2, -, -, b5, b6, b7, b8, b9, b10, b11, b12, b13, b14, b15, b16, b17, b18, b19⟩ := hB
  have wl := wd_eq hO hl
  have wr := wd_eq hO hr
  have z1 : ¬ (1 : Int32) = 0 := by decide
  unfold x_X5_counts x_X5_counts_50 x_X0_isOver cdP
  rw [b13, hO.1, b1, b2, e1, e2, b15, wl, wr]
  constructor
  · rintro ⟨h1, h2, h3, h4⟩
    simp only [h1, h2, h3, h4, z1, ↓reduceIte]
  · intro h
    by_cases c1 : gV M 24 0 i = nI j
    · by_cases c2 : gV M 25 0 i = -1
      · simp only [c1, c2, ↓reduceIte]
      · by_cases c3 : x_X8_has (gV M 37 0 j) (nI l) M = 0
        · by_cases c4 : x_X8_has (gV M 37 0 j) (nI r) M = 0
          · exact absurd ⟨c1, c2, c3, c4⟩ h
          · simp only [c1, c2, c3, c4, z1, ↓reduceIte]
        · simp only [c1, c2, c3, z1, ↓reduceIte]
    · simp only [c1, ↓reduceIte]
theorem ct_not {M : St} {j i l r : Nat} {f w : Int32} (hi : i < 80) (hj : j < 6) (e1 : gV M 20 0 (2 * i) = nI l) (e2 : gV M 20 0 (2 * i + 1) = nI r) (h : ¬ cdP M j i l r) : ct M j f w i = 0 := by
  have hs : x_X8_sideIn (nI i) (nI j) f M = -1 := by
    unfold x_X8_sideIn x_X8_sideIn_74 x_X8_sideIn_75
    rw [nI_clamp (show i < 2 ^ 31 by omega), nI_clamp (show j < 2 ^ 31 by omega), clamp2 hi, clamp21 hi, e1, e2]
    by_cases c1 : gV M 24 0 i = nI j
    · by_cases c2 : gV M 25 0 i = -1
      · simp only [c1, c2, ↓reduceIte]
      · by_cases c3 : x_X8_has (gV M 37 0 j) (nI l) M = 0
        · by_cases c4 : x_X8_has (gV M 37 0 j) (nI r) M = 0
          · exact absurd ⟨c1, c2, c3, c4⟩ h
          · simp only [c1, c2, c3, c4, ↓reduceIte]
        · simp only [c1, c2, c3, ↓reduceIte]
    · simp only [c1, ↓reduceIte]
  unfold ct; rw [hs, if_pos rfl]
theorem has0_eq {C M : St} {np i l r F : Nat} (hB : qB C M np i) (hl : l < 12) (hr : r < 12) (hF : F < 12) (e1 : gV M 20 0 (2 * i) = nI l) (e2 : gV M 20 0 (2 * i + 1) = nI r) :
    (F = l ∨ F = r → x_X0_has i (nI F) C = 1) ∧ (¬ (F = l ∨ F = r) → x_X0_has i (nI F) C = 0) := by
  unfold x_X0_has x_X0_has_22
  rw [hB.1, hB.2.1, e1, e2]
  have q1 : (nI l = nI F) ↔ l = F := nI_eq (by omega) (by omega)
  have q2 : (nI r = nI F) ↔ r = F := nI_eq (by omega) (by omega)
  simp only [q1, q2]
  constructor
  · rintro (rfl | rfl)
    · simp only [↓reduceIte]
    · by_cases c : l = F
      · simp only [c, ↓reduceIte]
      · simp only [c, ↓reduceIte]
  · intro h
    have h1 : ¬ l = F := fun e => h (Or.inl e.symm)
    have h2 : ¬ r = F := fun e => h (Or.inr e.symm)
    simp only [h1, h2, ↓reduceIte]
def WD (C C1 M M' : St) (j i : Nat) : Prop := (∀ c n k, ¬ (c = 18 ∧ n = j) → gV C1 c n k = gV C c n k) ∧ C1.2 = C.2 ∧ ∀ f w : Nat, f < 12 → w < 4 → gV C1 18 j (4 * f + w) + TS M j (nI f) (nI w) 0 i = TS M' j (nI f) (nI w) 0 i + gV C 18 j (4 * f + w)
theorem withdraw_run {n nb np j F g : Nat} {C M : St} (hI : I2 n nb np C M) (hj : j < np) (hF : F < 12) (hg : g < 4096) (hM : gV M 37 0 j = nI g) : ∀ (k i : Nat) (C1 : St), nb - i < k → i ≤ nb → WD C C1 M (sV M 37 0 j (nI (g ||| 2 ^ F))) j i →
    ∃ C2, x_X7_withdraw_40 k (nI F) j (TS M j (nI F) 0 0 i) (nI i) C1 = (0, TS M j (nI F) 0 0 nb, x_X5_markWithdrawn j (nI F) C2) ∧ ok_X7_withdraw_40 k (nI F) j (TS M j (nI F) 0 0 i) (nI i) C1 ∧ WD C C2 M (sV M 37 0 j (nI (g ||| 2 ^ F))) j nb
  | 0, i, _, hk, _, _ => absurd hk (Nat.not_lt_zero _)
  | k + 1, i, C1, hk, hi, hW => by
    have ih := withdraw_run hI hj hF hg hM k
    obtain ⟨hA, hB, hZ, hP, hFF, hO, hG, hK⟩ := hI
    obtain ⟨A1, A2, A3, A4, A5, A6, A7, A8, A9, A10, A11, A12, A13, A14⟩ := id hA
    obtain ⟨w1, w2, w3⟩ := id hW
    have k0 : ∀ n k, gV C1 0 n k = gV C 0 n k := fun n k => w1 0 n k (by rintro ⟨e, -⟩; exact absurd e (by decide))
    have k2 : ∀ n k, gV C1 2 n k = gV C 2 n k := fun n k => w1 2 n k (by rintro ⟨e, -⟩; exact absurd e (by decide))
    have k5 : ∀ n k, gV C1 5 n k = gV C 5 n k := fun n k => w1 5 n k (by rintro ⟨e, -⟩; exact absurd e (by decide))
    have k7 : ∀ n k, gV C1 7 n k = gV C 7 n k := fun n k => w1 7 n k (by rintro ⟨e, -⟩; exact absurd e (by decide))
    have kR : ∀ a x, gR C1 a x = gR C a x := fun a x => by unfold gR; rw [w2]
    unfold x_X7_withdraw_40 ok_X7_withdraw_40
    rw [k7, A4]
    by_cases ci : nb ≤ i
    · have e : i = nb := by omega
      subst e
      rw [if_pos (nI_le (Nat.le_refl _) (by omega)), if_pos (nI_le (Nat.le_refl _) (by omega))]
      exact ⟨C1, rfl, trivial, hW⟩
    have hi' : i < nb := by omega
    obtain ⟨e1, e2⟩ := boutAt_in (C := C1) A3 (by rw [k7]; exact A4) (fun i hi => by rw [kR]; exact A13 i hi) hi'
    rw [if_neg (nI_ge hi' (by omega)), if_neg (nI_ge hi' (by omega)), e1]
    simp only [oc]
    have hbB := hB i hi'
    obtain ⟨b1, b2, ⟨l, hl, b3⟩, ⟨r, hr, b4⟩, b5, -⟩ := id hbB
    have hlr : l ≠ r := by intro e; apply b5; rw [b3, b4, e]
    have i80 : i < 80 := by omega
    have j6 : j < 6 := by omega
    have hh : x_X0_has i (nI F) C1 = x_X0_has i (nI F) C := by unfold x_X0_has x_X0_has_22; rw [k2, k2]
    have hc : x_X5_counts j i C1 = x_X5_counts j i C := by unfold x_X5_counts x_X5_counts_50 x_X0_isOver x_X5_isWithdrawn; simp only [k0, k2, k5]; rfl
    rw [hh, hc]
    obtain ⟨h1, h2⟩ := has0_eq hbB hl hr hF b3 b4
    obtain ⟨c1, c2⟩ := counts_eq (hO j hj) hbB hl hr b3 b4
    have z1 : ¬ (1 : Int32) = 0 := by decide
    -- the model with the new gone
    have hM37 : gV (sV M 37 0 j (nI (g ||| 2 ^ F))) 37 0 j = nI (g ||| 2 ^ F) := by rw [gV_sV, if_pos ⟨rfl, rfl, rfl⟩]
    have hMo : ∀ c n k, c ≠ 37 → gV (sV M 37 0 j (nI (g ||| 2 ^ F))) c n k = gV M c n k := fun c n k h => by rw [gV_sV, if_neg (fun e => h e.1)]
    have hg' := or_lt hF hg
    have hcd : cdP (sV M 37 0 j (nI (g ||| 2 ^ F))) j i l r ↔ (cdP M j i l r ∧ ¬ (F = l ∨ F = r)) := by
      unfold cdP
      rw [hMo 24 _ _ (by decide), hMo 25 _ _ (by decide), hM37, hM, bit_m hl hg', bit_m hr hg', bit_m hl hg, bit_m hr hg]
      simp only [or_bit]
      constructor
      · rintro ⟨x1, x2, x3, x4⟩
        have y3 : ¬ (g / 2 ^ l % 2 = 1 ∨ l = F) := by intro h; rw [if_pos h] at x3; exact z1 x3
        have y4 : ¬ (g / 2 ^ r % 2 = 1 ∨ r = F) := by intro h; rw [if_pos h] at x4; exact z1 x4
        exact ⟨⟨x1, x2, by rw [if_neg (fun h => y3 (Or.inl h))], by rw [if_neg (fun h => y4 (Or.inl h))]⟩, by rintro (e | e); exact y3 (Or.inr e.symm); exact y4 (Or.inr e.symm)⟩
      · rintro ⟨⟨x1, x2, x3, x4⟩, x5⟩
        have y3 : ¬ (g / 2 ^ l % 2 = 1) := by intro h; rw [if_pos h] at x3; exact z1 x3
        have y4 : ¬ (g / 2 ^ r % 2 = 1) := by intro h; rw [if_pos h] at x4; exact z1 x4
        exact ⟨x1, x2, by rw [if_neg (by rintro (h | h); exact y3 h; exact x5 (Or.inl h.symm))], by rw [if_neg (by rintro (h | h); exact y4 h; exact x5 (Or.inr h.symm))]⟩
    have e1' : gV (sV M 37 0 j (nI (g ||| 2 ^ F))) 20 0 (2 * i) = nI l := by rw [hMo 20 _ _ (by decide)]; exact b3
    have e2' : gV (sV M 37 0 j (nI (g ||| 2 ^ F))) 20 0 (2 * i + 1) = nI r := by rw [hMo 20 _ _ (by decide)]; exact b4
    have hB' : qB C (sV M 37 0 j (nI (g ||| 2 ^ F))) np i := qB_t (p := fun _ _ => true) (q := fun c _ => c != 37) (Ag.rf _ _) (fun c n k h => hMo c n k (by simpa using h)) (by simp) np i hbB
    have form : ∀ f w : Nat, f < 12 → w < 4 → cdP M j i l r → ct M j (nI f) (nI w) i = if f = l then x_X0_share i 0 (nI w) C else if f = r then x_X0_share i 1 (nI w) C else 0 := by
      intro f w hf hw h
      exact ct_end hbB i80 j6 hl hr hf hw b3 b4 h.1 h.2.1 ⟨by rw [b3]; exact h.2.2.1, by rw [b4]; exact h.2.2.2⟩
    have form' : ∀ f w : Nat, f < 12 → w < 4 → cdP (sV M 37 0 j (nI (g ||| 2 ^ F))) j i l r → ct (sV M 37 0 j (nI (g ||| 2 ^ F))) j (nI f) (nI w) i = if f = l then x_X0_share i 0 (nI w) C else if f = r then x_X0_share i 1 (nI w) C else 0 := by
      intro f w hf hw h
      exact ct_end hB' i80 j6 hl hr hf hw e1' e2' h.1 h.2.1 ⟨by rw [e1']; exact h.2.2.1, by rw [e2']; exact h.2.2.2⟩
    have skip : (¬ cdP M j i l r ∨ ¬ (F = l ∨ F = r)) → (∀ f w : Nat, f < 12 → w < 4 → ct (sV M 37 0 j (nI (g ||| 2 ^ F))) j (nI f) (nI w) i = ct M j (nI f) (nI w) i) ∧ ct M j (nI F) 0 i = 0 := by
      intro h
      by_cases hcM : cdP M j i l r
      · have hnF : ¬ (F = l ∨ F = r) := by rcases h with h | h; exact absurd hcM h; exact h
        refine ⟨fun f w hf hw => by rw [form f w hf hw hcM, form' f w hf hw (hcd.mpr ⟨hcM, hnF⟩)], ?_⟩
        have := form F 0 hF (by omega) hcM
        rw [if_neg (fun e => hnF (Or.inl e)), if_neg (fun e => hnF (Or.inr e))] at this
        exact this
      · refine ⟨fun f w hf hw => by rw [ct_not i80 j6 b3 b4 hcM, ct_not i80 j6 e1' e2' (fun e => hcM (hcd.mp e).1)], ct_not i80 j6 b3 b4 hcM⟩
    have goSkip : (¬ cdP M j i l r ∨ ¬ (F = l ∨ F = r)) → ∃ C2, x_X7_withdraw_90 (x_X7_withdraw_40 k) (nI F) j (TS M j (nI F) 0 0 i) (nI i) C1 = (0, TS M j (nI F) 0 0 nb, x_X5_markWithdrawn j (nI F) C2) ∧ ok_X7_withdraw_90 (ok_X7_withdraw_40 k) (nI F) j (TS M j (nI F) 0 0 i) (nI i) C1 ∧ WD C C2 M (sV M 37 0 j (nI (g ||| 2 ^ F))) j nb := by
      intro h
      obtain ⟨s1, s2⟩ := skip h
      unfold x_X7_withdraw_90 ok_X7_withdraw_90
      have et : TS M j (nI F) 0 0 i = TS M j (nI F) 0 0 (i + 1) := by rw [TS_snoc, Nat.zero_add, s2, Int32.add_zero]
      rw [nI_1, et]
      refine ih (i + 1) C1 (by omega) (by omega) ⟨w1, w2, fun f w hf hw => ?_⟩
      rw [TS_snoc, TS_snoc, Nat.zero_add, s1 f w hf hw, ← Int32.add_assoc, w3 f w hf hw, Int32.add_assoc, Int32.add_assoc, Int32.add_comm (gV C 18 j (4 * f + w))]
    by_cases cF : F = l ∨ F = r
    · by_cases cc : cdP M j i l r
      · rw [h1 cF, c1 cc]
        simp only [z1, ↓reduceIte]
        obtain ⟨⟨E1, E2, E3⟩, E4⟩ := enter_eq (C := C1) (j := j) (b := i) (-1) hl hr hlr (by rw [k2, b1, b3]) (by rw [k2, b2, b4])
        have hsh : ∀ s w, x_X0_share i s w C1 = x_X0_share i s w C := fun s w => share_same (fun c n k h => w1 c n k h) i s w
        have hncd : ¬ cdP (sV M 37 0 j (nI (g ||| 2 ^ F))) j i l r := fun h => (hcd.mp h).2 cF
        unfold x_X7_withdraw_87 ok_X7_withdraw_87 x_X7_withdraw_90 ok_X7_withdraw_90
        have et : TS M j (nI F) 0 0 i + 1 = TS M j (nI F) 0 0 (i + 1) := by
          have := form F 0 hF (by omega) cc
          have e0 : ∀ s, x_X0_share i s (nI 0) C = 1 := fun s => by unfold x_X0_share; exact if_pos rfl
          rw [e0, e0] at this
          have this : ct M j (nI F) 0 i = 1 := by
            rw [show (0 : Int32) = nI 0 from rfl, this]
            rcases cF with e | e
            · rw [if_pos e]
            · rw [if_pos e]; exact ite_self _
          rw [TS_snoc, Nat.zero_add, this]
        rw [nI_1, et]
        obtain ⟨C2, r1, r2, r3⟩ := ih (i + 1) (x_X5_enter j i (-1) C1) (by omega) (by omega) ⟨fun c n k h => (E1 c n k h).trans (w1 c n k h), E2.trans w2, fun f w hf hw => by
          rw [TS_snoc, TS_snoc, Nat.zero_add, ct_not i80 j6 e1' e2' hncd, Int32.add_zero, E3 f w hf hw, if_pos hw, hsh, hsh, form f w hf hw cc, ← w3 f w hf hw]
          have neg : ∀ x : Int32, -1 * x = -x := fun x => by rw [Int32.neg_mul, Int32.one_mul]
          have key : ∀ a t x : Int32, a + -x + (t + x) = a + t := by
            intro a t x
            rw [Int32.add_comm t x, Int32.add_assoc, ← Int32.add_assoc (-x) x t, Int32.add_comm (-x) x, Int32.add_right_neg, Int32.zero_add]
          by_cases c1 : f = l
          · simp only [c1, ↓reduceIte, neg]; exact key _ _ _
          · by_cases c2 : f = r
            · have c3 : ¬ r = l := fun e => hlr e.symm
              simp only [c2, c3, ↓reduceIte, neg]; exact key _ _ _
            · simp only [c1, c2, ↓reduceIte, Int32.add_zero]⟩
        exact ⟨C2, r1, ⟨e2, E4, r2⟩, r3⟩
      · rw [h1 cF, c2 cc]
        simp only [z1, ↓reduceIte]
        obtain ⟨C2, r1, r2, r3⟩ := goSkip (Or.inl cc)
        exact ⟨C2, r1, ⟨e2, r2⟩, r3⟩
    · rw [h2 cF]
      simp only [↓reduceIte]
      obtain ⟨C2, r1, r2, r3⟩ := goSkip (Or.inr cF)
      exact ⟨C2, r1, ⟨e2, r2⟩, r3⟩
theorem withdraw_new {n nb np j F g : Nat} {C C2 M : St} (hI : I2 n nb np C M) (hj : j < np) (hF : F < 12) (hg : g < 4096) (hM : gV M 37 0 j = nI g) (hW : WD C C2 M (sV M 37 0 j (nI (g ||| 2 ^ F))) j nb)
    (hbusy : ∀ b, gR C 7 8 = some b → b < nb → gV M 24 0 b = nI j → ¬ gV M 20 0 (2 * b) = nI F ∧ ¬ gV M 20 0 (2 * b + 1) = nI F) :
    I2 n nb np (sV C2 5 j 4 (nI (g ||| 2 ^ F))) (sV M 37 0 j (nI (g ||| 2 ^ F))) := by
  obtain ⟨hA, hB, hZ, ⟨p1, p2⟩, hFF, hO, hG, hK⟩ := hI
  obtain ⟨A1, A2, A3, A4, A5, A6, A7, A8, A9, A10, A11, A12, A13, A14⟩ := id hA
  obtain ⟨w1, w2, w3⟩ := hW
  have hg' := or_lt hF hg
  have z1 : ¬ (1 : Int32) = 0 := by decide
  generalize hM' : sV M 37 0 j (nI (g ||| 2 ^ F)) = M' at *
  have m37 : ∀ k, gV M' 37 0 k = if k = j then nI (g ||| 2 ^ F) else gV M 37 0 k := by intro k; rw [← hM']; simp [gV_sV]
  have hMA : Ag (fun c _ => !(c == 37)) M M' := by rw [← hM']; exact Ag_sV _ _ _ _ rfl (Ag.rf _ _)
  have lm : gL M' 8 1 = gL M 8 1 := by rw [← hM']; rfl
  generalize hC' : sV C2 5 j 4 (nI (g ||| 2 ^ F)) = C'
  have hCA : Ag (fun c k => !(c == 18 || (c == 5 && k == 4))) C C' := by
    intro c x k h
    simp at h
    rw [← hC', gV_sV, if_neg (by rintro ⟨e1, e2, -⟩; exact h.2.elim (fun f => f e1) (fun f => f e2))]
    exact w1 c x k (fun e => h.1 e.1)
  have c54 : ∀ x, gV C' 5 x 4 = if x = j then nI (g ||| 2 ^ F) else gV C 5 x 4 := by
    intro x; rw [← hC', gV_sV]
    by_cases c : x = j
    · rw [if_pos ⟨rfl, rfl, c⟩, if_pos c]
    · rw [if_neg (fun e => c e.2.2), if_neg c]; exact w1 5 x 4 (fun e => absurd e.1 (by decide))
  have c18 : ∀ x k, gV C' 18 x k = gV C2 18 x k := by intro x k; rw [← hC', gV_sV, if_neg (fun e => absurd e.1 (by decide))]
  have hRR : ∀ a x, gR C' a x = gR C a x := by intro a x; rw [← hC', gR_sV]; unfold gR; rw [w2]
  have hLL : gL C' 3 0 = gL C 3 0 := by rw [← hC', gL_sV]; unfold gL; rw [w2]
  refine ⟨?_, fun i hi => qB_t hCA hMA (by simp) np i (hB i hi), fun i hi => qZ_t hCA hMA (by simp) i (hZ i hi), ⟨fun i hi => by rw [hMA 25 0 i rfl, hRR]; exact p1 i hi, ?_⟩, qF_t hCA hMA (by simp) hFF, fun j' hj' => ?_, fun j' hj' => by rw [m37, if_neg (by omega)]; exact hG j' hj', qK_t hCA hMA (by simp) hK⟩
  · unfold qA
    rw [hCA 7 0 5 rfl, hCA 7 0 6 rfl, hCA 7 0 7 rfl, hCA 7 0 9 rfl, hMA 8 0 0 rfl, hMA 8 0 3 rfl, hMA 8 0 23 rfl, hMA 8 0 2 rfl, hLL, lm]
    simp only [hRR]
    exact hA
  · rw [hRR, hMA 8 0 4 rfl, hMA 8 0 17 rfl]
    rcases p2 with h | ⟨b, hb, g1, g2, g3, g4, g5, g6⟩
    · exact Or.inl h
    · refine Or.inr ⟨b, hb, g1, g2, qC_t hCA hMA (by simp) n b 0 g3, qC_t hCA hMA (by simp) n b 1 g4, qT_t hCA hMA (by simp) b g5, fun j' hj' he => ?_⟩
      rw [hMA 24 0 b rfl] at he
      have h0 := g6 j' hj' he
      rw [hMA 20 0 _ rfl, hMA 20 0 _ rfl, m37]
      by_cases cj : j' = j
      · subst cj
        rw [if_pos rfl]
        obtain ⟨n1, n2⟩ := hbusy b g1 hb he
        obtain ⟨b1, b2, ⟨l, hl, b3⟩, ⟨r, hr, b4⟩, -⟩ := hB b hb
        rw [b3] at n1 h0 ⊢; rw [b4] at n2 h0 ⊢
        rw [hM] at h0
        rw [bit_m hl hg, bit_m hr hg] at h0
        rw [bit_m hl hg', bit_m hr hg']
        have x1 : ¬ l = F := fun e => n1 (by rw [e])
        have x2 : ¬ r = F := fun e => n2 (by rw [e])
        simp only [or_bit, x1, x2, or_false]
        exact h0
      · rw [if_neg cj]; exact h0
  · by_cases cj : j' = j
    · subst cj
      obtain ⟨o1, o2, o3, o4, o5, o6⟩ := hO j' hj'
      unfold qO
      rw [hCA 5 j' 0 rfl, hCA 5 j' 1 rfl, c54, if_pos rfl, m37, if_pos rfl, hMA 36 0 j' rfl, hMA 8 0 0 rfl]
      refine ⟨o1, o2, o3, rfl, ⟨_, hg', rfl⟩, fun f w hf hw => ?_⟩
      have h3 := w3 f w hf hw
      rw [o6 f w hf hw] at h3
      rw [c18]; exact add_can h3
    · obtain ⟨o1, o2, o3, o4, o5, o6⟩ := hO j' hj'
      unfold qO
      rw [hCA 5 j' 0 rfl, hCA 5 j' 1 rfl, c54, if_neg cj, m37, if_neg cj, hMA 36 0 j' rfl, hMA 8 0 0 rfl]
      refine ⟨o1, o2, o3, o4, o5, fun f w hf hw => ?_⟩
      rw [c18, w1 18 j' _ (fun e => cj e.2), o6 f w hf hw]
      refine (TS_same nb 0 (fun k hk => ?_)).symm
      have hs : x_X8_sideIn (nI k) (nI j') (nI f) M' = x_X8_sideIn (nI k) (nI j') (nI f) M := by
        unfold x_X8_sideIn
        rw [nI_clamp (show j' < 2 ^ 31 by omega), m37, if_neg cj, hMA 24 0 _ rfl, hMA 25 0 _ rfl, hMA 20 0 _ rfl, hMA 20 0 _ rfl]
        rfl
      unfold ct
      rw [hs, hMA 25 0 _ rfl, hMA 21 0 _ rfl, hMA 21 0 _ rfl]
theorem cr_withdraw : CR_withdraw := by
  intro n nb np C M a1 a2 hn hI
  obtain ⟨hA, hB, hZ, ⟨hP1, hP2⟩, hF, hO, hG, hK⟩ := id hI
  obtain ⟨A1, A2, A3, A4, A5, A6, A7, A8, A9, A10, A11, A12, A13, A14⟩ := id hA
  have z0 : (0 : Int32) ≤ 0 := by decide
  have z1 : ¬ (1 : Int32) = 0 := by decide
  have z1' : ¬ (1 : Int32) ≤ 0 := by decide
  have z2 : ¬ (2 : Int32) ≤ 0 := by decide
  have n3 : ¬ (3 : Nat) = 0 := by decide
  have n1 : ¬ (1 : Nat) = 0 := by decide
  unfold x_X7_withdraw ok_X7_withdraw x_X8_withdraw ok_X8_withdraw x_X8_thrown
  rcases isMember_eq hI a1 a2 with ⟨e1, e2, e3, e4⟩ | ⟨j, F, hj, hF', rfl, rfl, e1, e2, e3, e4⟩
  · rw [e1, e2]
    simp only [↓reduceIte, n3]
    unfold x_X8_withdraw_15 ok_X8_withdraw_15
    rw [if_neg z1', if_neg z1']
    obtain ⟨k1, k2, k3, k4, k5⟩ := failS (v8 := (0 : Int32)) hI (e := 3) (by decide) (Or.inr (Or.inr (Or.inr ⟨rfl, by decide⟩))) (s0 := 1) (a := 2) (b := 0) (d := 1) rfl trivial rfl
    exact ⟨⟨e3, trivial⟩, k1, ⟨e4, trivial⟩, k3, fun h => h.elim, k5⟩
  obtain ⟨o1, o2, ⟨a, nf2, b1, b2, b3, b4⟩, o4, ⟨g, hg, o5⟩, o6⟩ := hO j hj
  have ha := pow12 b1 b3
  have hv : vp_in (nI j) 6 := vp_in_nI (by omega) (by omega)
  have hhas : ¬ x_X5_has j (nI F) C = 0 := by
    intro h
    unfold x_X7_poolWith x_X7_poolWith_18 at e1
    rw [(poolOf_in (C := C) A6 A7 A14 hj).1] at e1
    simp only [oc, h, ↓reduceIte] at e1
    exact absurd (congrArg Prod.fst e1) n3
  have wd := wd_eq (hO j hj) hF'
  rw [e1, e2]
  simp only [↓reduceIte, z1]
  have fail1 : ∀ (okc okm : Prop), okc → okm → okc ∧ eIn 2 0 1 1 ∧ okm ∧ gV (sV M 8 0 31 2) 8 0 31 = wK 2 0 1 1 ∧ ((1 : Nat) = 0 → True) ∧ I2 (n + 1) nb np C (sV M 8 0 31 2) := by
    intro okc okm h h'
    obtain ⟨k1, k2, k3, k4, k5⟩ := failS (v8 := (0 : Int32)) hI (e := 1) (by decide) (Or.inr (Or.inl ⟨rfl, by decide⟩)) (s0 := 2) (a := 2) (b := 0) (d := 1) (okm := okm) rfl h' rfl
    exact ⟨h, k1, h', k3, fun _ => trivial, k5⟩
  have hI0 : I2 n nb np C (sV M 8 0 31 0) := I2_th 0 hI
  have h31 : gV (sV M 8 0 31 0) 8 0 31 = 0 := by rw [gV_sV, if_pos ⟨rfl, rfl, rfl⟩]
  have hx31 : ∀ v, sV (sV M 8 0 31 0) 8 0 31 v = sV M 8 0 31 v := fun v => sV_sV _ _ _ _ _ _
  have hM37 : gV (sV M 8 0 31 0) 37 0 j = nI g := gth o5 (by omega)
  have hT0 : ∀ f w r, TS (sV M 8 0 31 0) j f w 0 r = TS M j f w 0 r := fun f w r => TS_t (q := fun c _ => !(c == 8)) (Ag_sV _ _ _ _ rfl (Ag.rf _ _)) (by simp) j f w r 0
  have x85 : ∀ s, x_X8_withdraw_85 (nI j) (nI F) s (sV M 8 0 31 0) = (if s = 0 then (if x_X8_has (nI g) (nI F) M = 0 then x_X8_withdraw_109 (nI j) (nI F) 0 (sV M 8 0 31 0) else (0, sV M 8 0 31 2)) else (0, sV M 8 0 31 2)) := by
    intro s
    unfold x_X8_withdraw_85 x_X8_withdraw_104
    rw [nI_clamp (show j < 2 ^ 31 by omega), hM37]
    have : x_X8_withdraw_109 (nI j) (nI F) 2 (sV M 8 0 31 0) = (0, sV M 8 0 31 2) := by unfold x_X8_withdraw_109; rw [if_neg z2, hx31]
    rw [this]; rfl
  have o85 : ∀ s, (s = 0 → x_X8_has (nI g) (nI F) M = 0 → ok_X8_withdraw_109 (nI j) (nI F) 0 (sV M 8 0 31 0)) → ok_X8_withdraw_85 (nI j) (nI F) s (sV M 8 0 31 0) := by
    intro s h
    have h2 : ok_X8_withdraw_109 (nI j) (nI F) 2 (sV M 8 0 31 0) := by unfold ok_X8_withdraw_109; rw [if_neg z2]; trivial
    unfold ok_X8_withdraw_85 ok_X8_withdraw_104
    rw [nI_clamp (show j < 2 ^ 31 by omega), hM37]
    by_cases c : s = 0
    · rw [if_pos c]
      refine ⟨hv, ?_⟩
      by_cases c2 : x_X8_has (nI g) (nI F) (sV M 8 0 31 0) = 0
      · rw [if_pos c2]; exact h c c2
      · rw [if_neg c2]; exact h2
    · rw [if_neg c]; exact h2
  unfold x_X8_withdraw_15 ok_X8_withdraw_15 x_X8_withdraw_84 ok_X8_withdraw_84 x_X8_withdraw_80 ok_X8_withdraw_80
  rw [if_pos z0, if_pos z0, x85, x85]
  simp only [z1, ↓reduceIte]
  unfold x_X7_withdraw_24 ok_X7_withdraw_24
  rw [wd, o5]
  -- the good end
  have good : ∀ (okc okm : Prop), x_X8_has (nI g) (nI F) M = 0 → (∀ b, gR C 7 8 = some b → b < nb → gV M 24 0 b = nI j → ¬ gV M 20 0 (2 * b) = nI F ∧ ¬ gV M 20 0 (2 * b + 1) = nI F) → (ok_X7_withdraw_40 fu (nI F) j 0 0 C → okc) → (ok_X8_withdraw_109 (nI j) (nI F) 0 (sV M 8 0 31 0) → okm) →
      okc ∧ eIn 2 0 1 (x_X7_withdraw_40 fu (nI F) j 0 0 C).1 ∧ okm ∧ gV (x_X8_withdraw_109 (nI j) (nI F) 0 (sV M 8 0 31 0)).2 8 0 31 = wK 2 0 1 (x_X7_withdraw_40 fu (nI F) j 0 0 C).1 ∧ ((x_X7_withdraw_40 fu (nI F) j 0 0 C).1 = 0 → (x_X7_withdraw_40 fu (nI F) j 0 0 C).2.1 = (x_X8_withdraw_109 (nI j) (nI F) 0 (sV M 8 0 31 0)).1) ∧ I2 (n + 1) nb np (x_X7_withdraw_40 fu (nI F) j 0 0 C).2.2 (x_X8_withdraw_109 (nI j) (nI F) 0 (sV M 8 0 31 0)).2 := by
    intro okc okm h0 hb hk1 hk2
    obtain ⟨C2, r1, r2, r3⟩ := withdraw_run hI0 hj hF' hg hM37 fu 0 C (by rw [fuE]; omega) (by omega) ⟨fun _ _ _ _ => rfl, rfl, fun f w _ _ => by unfold TS; rw [Int32.add_zero, Int32.zero_add]⟩
    have r1 : x_X7_withdraw_40 fu (nI F) j 0 0 C = (0, TS (sV M 8 0 31 0) j (nI F) 0 0 nb, x_X5_markWithdrawn j (nI F) C2) := r1
    have r2 : ok_X7_withdraw_40 fu (nI F) j 0 0 C := r2
    obtain ⟨t1, t2⟩ := tells_eq (M := sV M 8 0 31 0) (nI F) 0 A3 (show j < 6 by omega) (gth A5 (by decide))
    have x109 : x_X8_withdraw_109 (nI j) (nI F) 0 (sV M 8 0 31 0) = (TS (sV M 8 0 31 0) j (nI F) 0 0 nb, sV (sV M 8 0 31 0) 37 0 j (nI (g ||| 2 ^ F))) := by
      unfold x_X8_withdraw_109
      rw [if_pos z0, hx31, t1, nI_clamp (show j < 2 ^ 31 by omega), hM37, or_eq hF' hg]
    have o109 : ok_X8_withdraw_109 (nI j) (nI F) 0 (sV M 8 0 31 0) := by
      unfold ok_X8_withdraw_109
      rw [if_pos z0, hx31]
      exact ⟨t2, hv, hv, trivial⟩
    have hmark : x_X5_markWithdrawn j (nI F) C2 = sV C2 5 j 4 (nI (g ||| 2 ^ F)) := by
      have q5 : ∀ k, gV C2 5 j k = gV C 5 j k := fun k => r3.1 5 j k (fun e => absurd e.1 (by decide))
      have hh : x_X5_has j (nI F) C2 = x_X5_has j (nI F) C := by unfold x_X5_has; rw [q5]; rfl
      unfold x_X5_markWithdrawn
      rw [hh, if_neg hhas, q5, o4, o5, or_eq hF' hg]
    rw [r1, x109, hmark]
    exact ⟨hk1 r2, Or.inl rfl, hk2 o109, by rw [gV_sV, if_neg (fun e => absurd e.1 (by decide))]; exact h31, fun _ => rfl, I2_up (withdraw_new hI0 hj hF' hg hM37 r3 (fun b h1 h2 h3 => by simpa [gV_sV] using hb b h1 h2 (by simpa [gV_sV] using h3)))⟩
  by_cases cw : x_X8_has (nI g) (nI F) M = 0
  · simp only [cw, ↓reduceIte]
    unfold x_X7_isBusyFor ok_X7_isBusyFor x_X7_isBusyFor_36 ok_X7_isBusyFor_36
    rcases hP2 with ⟨g1, g2, g3⟩ | ⟨b, hb, g1, g2, g3, g4, g5, g6⟩
    · rw [g1, g2]
      simp only [oc, ↓reduceIte]
      exact good _ _ cw (fun b h => by rw [g1] at h; exact absurd h (by simp)) (fun h => ⟨e3, trivial, h⟩) (fun h => ⟨e4, o85 0 (fun _ _ => h)⟩)
    · have gb : ¬ nI b = -1 := nI_m1 (by omega)
      have v0 : vp_in (2 * nI b) 160 := by rw [show (2 : Int32) = nI 2 by decide, pk_mul]; exact vp_in_nI (by omega) (by omega)
      have v1 : vp_in (2 * nI b + 1) 160 := by rw [show (2 : Int32) = nI 2 by decide, pk_mul, nI_1]; exact vp_in_nI (by omega) (by omega)
      have v2 : vp_in (nI b) 80 := vp_in_nI (by omega) (by omega)
      obtain ⟨B1, B2, ⟨l, hl, B3⟩, ⟨r, hr, B4⟩, B5, -⟩ := id (hB b hb)
      obtain ⟨H1, H2⟩ := has0_eq (hB b hb) hl hr hF' B3 B4
      have Bp : gV C 0 b 4 = gV M 24 0 b := (hB b hb).2.2.2.2.2.2.2.2.2.2.2.2.1
      have q1 : (nI l = nI F) ↔ l = F := nI_eq (by omega) (by omega)
      have q2 : (nI r = nI F) ↔ r = F := nI_eq (by omega) (by omega)
      rw [g1, g2, nI_clamp (show b < 2 ^ 31 by omega), clamp2 (by omega), clamp21 (by omega), B3, B4]
      simp only [oc, gb, ↓reduceIte, Bp, o1, v0, v1, v2, true_and, q1, q2]
      by_cases c24 : gV M 24 0 b = nI j
      · simp only [c24, ↓reduceIte]
        by_cases cl : l = F
        · have hone := H1 (Or.inl cl.symm)
          simp only [cl, hone, z1, ↓reduceIte]
          exact fail1 _ _ ⟨e3, trivial, trivial⟩ ⟨e4, o85 1 (fun h => absurd h z1)⟩
        · by_cases cr : r = F
          · have hone := H1 (Or.inr cr.symm)
            simp only [cl, cr, hone, z1, ↓reduceIte]
            exact fail1 _ _ ⟨e3, trivial, trivial⟩ ⟨e4, o85 1 (fun h => absurd h z1)⟩
          · have hzero := H2 (by rintro (e | e); exact cl e.symm; exact cr e.symm)
            simp only [cl, cr, hzero, ↓reduceIte]
            refine good _ _ cw (fun b' h hb' he => ?_) (fun h => ⟨e3, trivial, h⟩) (fun h => ⟨e4, o85 0 (fun _ _ => h)⟩)
            rw [g1] at h
            have := Option.some.inj h
            subst this
            rw [B3, B4]
            exact ⟨fun e => cl (q1.mp e), fun e => cr (q2.mp e)⟩
      · simp only [c24, ↓reduceIte]
        refine good _ _ cw (fun b' h hb' he => ?_) (fun h => ⟨e3, trivial, h⟩) (fun h => ⟨e4, o85 0 (fun _ _ => h)⟩)
        rw [g1] at h
        have := Option.some.inj h
        subst this
        exact absurd he c24
  · have hbad : ∀ s, ok_X8_withdraw_85 (nI j) (nI F) s (sV M 8 0 31 0) := fun s => o85 s (fun _ h => absurd h cw)
    simp only [cw, ↓reduceIte, ite_self]
    refine fail1 _ _ ?_ ?_
    · exact ⟨e3, trivial⟩
    refine ⟨e4, ?_⟩
    rcases hP2 with ⟨g1, g2, g3⟩ | ⟨b, hb, g1, g2, g3, g4, g5, g6⟩
    · rw [g2, if_pos rfl]; exact hbad 0
    · have gb : ¬ nI b = -1 := nI_m1 (by omega)
      have v0 : vp_in (2 * nI b) 160 := by rw [show (2 : Int32) = nI 2 by decide, pk_mul]; exact vp_in_nI (by omega) (by omega)
      have v1 : vp_in (2 * nI b + 1) 160 := by rw [show (2 : Int32) = nI 2 by decide, pk_mul, nI_1]; exact vp_in_nI (by omega) (by omega)
      have v2 : vp_in (nI b) 80 := vp_in_nI (by omega) (by omega)
      rw [g2, if_neg gb]
      refine ⟨v2, ?_⟩
      split
      · refine ⟨v0, ?_⟩
        split
        · exact hbad 1
        · refine ⟨v1, ?_⟩
          split
          · exact hbad 1
          · exact hbad 0
      · exact hbad 0
end
