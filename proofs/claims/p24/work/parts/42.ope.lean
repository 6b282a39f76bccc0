noncomputable section
theorem card_fin {n nb np b : Nat} {C M : St} {a1 col : Int32} (ha : a1 = 0 ∨ a1 = 1) (hcol : col = 1 ∨ col = 2 ∨ col = 3) (h : MidR n nb np b C M) (hT : qT C M b) (hF : qF C M) (th : gV M 8 0 31 = 0) :
    (x_X0_giveCard_19 b a1 col C).1 = col ∧ ok_X7_clearPisteIfOver b (x_X0_giveCard_19 b a1 col C).2 ∧ I2 n nb np (x_X7_clearPisteIfOver b (x_X0_giveCard_19 b a1 col C).2) (if col = 2 then x_X8_gives (1 <<< ((1 - a1) &&& 31)) (sV M 8 0 14 0) else if col = 3 then x_X8_ends (1 - a1) M else M) ∧
    gV (if col = 2 then x_X8_gives (1 <<< ((1 - a1) &&& 31)) (sV M 8 0 14 0) else if col = 3 then x_X8_ends (1 - a1) M else M) 8 0 31 = 0 ∧ (if col = 2 then ok_X8_gives (1 <<< ((1 - a1) &&& 31)) (sV M 8 0 14 0) else if col = 3 then ok_X8_ends (1 - a1) M else True) := by
  have z1 : ¬ (1 : Int32) = 2 := by decide
  have z2 : ¬ (1 : Int32) = 3 := by decide
  have z3 : ¬ (3 : Int32) = 2 := by decide
  have hb := h.2.2.2.1
  unfold x_X0_giveCard_19 x_X0_giveCard_34 x_X0_giveCard_49
  rcases hcol with rfl | rfl | rfl
  · simp only [z1, z2, ↓reduceIte]
    have := mid_end (mid_ofR h hT hF)
    exact ⟨trivial, this.2, this.1, th, trivial⟩
  · simp only [↓reduceIte]
    obtain ⟨s1, s2, s3, s4⟩ := shl_s ha C
    have hs4 : x_X7_bitOf (1 - a1) C = 1 <<< ((1 - a1) &&& 31) := s2
    rw [s2]
    generalize (1 : Int32) <<< ((1 - a1) &&& 31) = s at s4 ⊢
    have hz : ¬ s = 0 := by rcases s4 with rfl | rfl <;> decide
    unfold x_X0_giveTouches
    rw [if_neg hz]
    obtain ⟨xA, xB, xZ, xb, xO1, xR, xc0, xc1, -⟩ := id h
    have hC8 : Ag (fun c k => !(c == 0 && k == 8)) C (sV C 0 b 8 0) := Ag_sV _ _ _ _ rfl (Ag.rf _ _)
    have hM14 : Ag (fun c k => !(c == 8 && k == 14)) M (sV M 8 0 14 0) := Ag_sV _ _ _ _ rfl (Ag.rf _ _)
    have hm : MidR n nb np b (sV C 0 b 8 0) (sV M 8 0 14 0) := by
      refine midR_t h (Ag_sV _ _ _ _ rfl (Ag.rf _ _)) (Ag_sV _ _ _ _ rfl (Ag.rf _ _)) ?_ (fun _ _ => rfl) ⟨xA.2.2.2.2.2.2.2.2.2.1, xA.2.2.2.2.2.2.2.2.2.2.1, xA.2.2.2.2.2.2.2.2.2.2.2.1⟩ (fun i hi => ?_) (fun i hi => ?_) ⟨qC_t hC8 hM14 (by simp) n b 0 xc0, qC_t hC8 hM14 (by simp) n b 1 xc1⟩
      · rw [hC8 7 0 9 rfl, hM14 8 0 2 rfl]; exact xA.2.2.2.2.2.2.2.2.1
      · rw [hC8 0 i 6 rfl, hC8 0 i 7 rfl, hC8 0 i 9 rfl, hM14 28 0 i rfl, hM14 26 0 i rfl, hM14 27 0 i rfl]
        exact (xB i hi).2.2.2.2.2.2.2.2.2.2.2.2.2.2.2.2
      · rw [hM14 26 0 i rfl, hM14 27 0 i rfl]; exact (xZ i hi).2.2
    obtain ⟨T1, T2, T3, T4, T5, T6⟩ := hT
    have q14 : gV (sV M 8 0 14 0) 8 0 14 = 0 := by rw [gV_sV, if_pos ⟨rfl, rfl, rfl⟩]
    obtain ⟨m1, m2⟩ := touch_fin (s := s) (by rcases s4 with h | h; exact Or.inr (Or.inl h); exact Or.inr (Or.inr (Or.inl h))) hm ⟨by rw [q14, gV_sV, if_pos ⟨rfl, rfl, rfl⟩], ⟨0, by omega, q14⟩, by simpa [gV_sV] using T3, by simpa [gV_sV] using T4⟩ (by simpa [gV_sV] using And.intro T5 T6)
    simp only [hz, ↓reduceIte] at m2
    have t31 : gV (x_X8_gives s (sV M 8 0 14 0)) 8 0 31 = 0 := by rw [gives_Ag _ _ 8 0 31 rfl, hM14 8 0 31 rfl]; exact th
    have fin : Mid n nb np b (x_X0_addTouches b s (sV C 0 b 8 0)) (x_X8_gives s (sV M 8 0 14 0)) := by
      rcases m2 with ⟨x1, x2, x3, x4⟩ | ⟨x1, x2⟩
      · have kc : Ag (fun c k => !(c == 2 && k == 1) && !(c == 0 && k == 8)) C (x_X0_addTouches b s (sV C 0 b 8 0)) := by
          intro x y z hh
          simp at hh
          exact (x3 x y z (by simp; exact hh.1)).trans (hC8 x y z (by simp; exact hh.2))
        have km : Ag (fun c k => !(c == 21) && !(c == 8 && k == 14)) M (x_X8_gives s (sV M 8 0 14 0)) := by
          intro x y z hh
          simp at hh
          exact (x4 x y z (by simp; exact hh.1)).trans (hM14 x y z (by simp; exact hh.2))
        exact mid_ofR x1 x2 (qF_t kc km (by simp) hF)
      · exact x1
    have := mid_end fin
    exact ⟨trivial, this.2, this.1, t31, m1⟩
  · simp only [z3, ↓reduceIte]
    obtain ⟨w1, w2⟩ := mid_win (v := 1 - a1) h (by rcases ha with rfl | rfl; exact Or.inr (by decide); exact Or.inl (by decide))
    have := mid_end w1
    refine ⟨trivial, this.2, this.1, ?_, w2⟩
    unfold x_X8_ends
    rw [gV_sV, if_neg (by decide), gV_sV, if_neg (by decide), gV_sV, if_neg (by rintro ⟨e, -⟩; exact absurd e (by decide))]; exact th
/-- the card is noted -/
theorem card_note {n nb np b σ : Nat} {C M : St} {v : Int32} {y : Int32} (hn : n < 512) (hσ : σ = 0 ∨ σ = 1) (h : MidR n nb np b C M) (hT : qT C M b) (hF : qF C M) (hv : v = if y = 3 then 1 else gV M 30 0 σ) :
    MidR (n + 1) nb np b (x_X2_note (2 * b + σ) y C) (sV (sV M 29 0 σ (gV M 29 0 σ + 1)) 30 0 σ v) ∧ qT (x_X2_note (2 * b + σ) y C) (sV (sV M 29 0 σ (gV M 29 0 σ + 1)) 30 0 σ v) b ∧ qF (x_X2_note (2 * b + σ) y C) (sV (sV M 29 0 σ (gV M 29 0 σ + 1)) 30 0 σ v) := by
  obtain ⟨xA, xB, xZ, xb, xO1, xR, xc0, xc1, -⟩ := id h
  have kc : Ag (fun c k => !(c == 2 && (k == 2 || k == 3))) C (x_X2_note (2 * b + σ) y C) := by
    unfold x_X2_note; split
    · exact Ag_sV _ _ _ _ rfl (Ag_sV _ _ _ _ rfl (Ag.rf _ _))
    · exact Ag_sV _ _ _ _ rfl (Ag.rf _ _)
  have km : Ag (fun c k => !(c == 29 || c == 30)) M (sV (sV M 29 0 σ (gV M 29 0 σ + 1)) 30 0 σ v) := Ag_sV _ _ _ _ rfl (Ag_sV _ _ _ _ rfl (Ag.rf _ _))
  have c2 : ∀ m, gV (x_X2_note (2 * b + σ) y C) 2 m 2 = if m = 2 * b + σ then 1 else gV C 2 m 2 := by
    intro m; unfold x_X2_note; split <;> simp [gV_sV]
  have c3 : ∀ m, gV (x_X2_note (2 * b + σ) y C) 2 m 3 = if m = 2 * b + σ ∧ y = 3 then 1 else gV C 2 m 3 := by
    intro m; unfold x_X2_note; split <;> rename_i h3 <;> simp [gV_sV, h3]
  have m29 : ∀ m, gV (sV (sV M 29 0 σ (gV M 29 0 σ + 1)) 30 0 σ v) 29 0 m = if m = σ then gV M 29 0 σ + 1 else gV M 29 0 m := by
    intro m; simp [gV_sV]
  have m30 : ∀ m, gV (sV (sV M 29 0 σ (gV M 29 0 σ + 1)) 30 0 σ v) 30 0 m = if m = σ then v else gV M 30 0 m := by
    intro m; simp [gV_sV]
  have hq : ∀ τ, τ = 0 ∨ τ = 1 → qC C M n b τ → qC (x_X2_note (2 * b + σ) y C) (sV (sV M 29 0 σ (gV M 29 0 σ + 1)) 30 0 σ v) (n + 1) b τ := by
    intro τ hτ ⟨⟨a, ha, ea⟩, i1, i2, i3⟩
    unfold qC
    rw [c2, c3, m29, m30]
    by_cases ct : τ = σ
    · subst ct
      simp only [true_and, ↓reduceIte]
      have z1 : ¬ (1 : Int32) = 0 := by decide
      have zn : ¬ nI a + 1 = 0 := by rw [nI_1]; exact nI_ne0 (by omega) (by omega)
      refine ⟨⟨a + 1, by omega, by rw [ea, nI_1]⟩, ?_, ?_, ?_⟩
      · rw [ea]; exact ⟨fun h => absurd h z1, fun h => absurd h zn⟩
      · rw [hv]; by_cases c : y = 3
        · rw [if_pos c, if_pos c]
        · rw [if_neg c, if_neg c]; exact i2
      · rw [hv]; by_cases c : y = 3
        · rw [if_pos c]; exact Or.inr rfl
        · rw [if_neg c]; exact i3
    · have c' : ¬ 2 * b + τ = 2 * b + σ := by omega
      simp only [ct, c', false_and, ↓reduceIte]
      exact ⟨⟨a, by omega, ea⟩, i1, i2, i3⟩
  refine ⟨midR_t h (fun x y z hh => kc x y z (by unfold kR at hh; simp at hh ⊢; exact hh.1.2)) (fun x y z hh => km x y z (by unfold kS at hh; simp at hh ⊢; exact ⟨hh.1.1.1.2, hh.1.1.2⟩)) ?_ (fun a k => ?_) ?_ (fun i hi => ?_) (fun i hi => ?_) ⟨hq 0 (Or.inl rfl) xc0, hq 1 (Or.inr rfl) xc1⟩, qT_t kc km (by simp) b hT, qF_t kc km (by simp) hF⟩
  · rw [kc 7 0 9 rfl, km 8 0 2 rfl]; exact xA.2.2.2.2.2.2.2.2.1
  · unfold x_X2_note; split <;> rfl
  · have : gL (x_X2_note (2 * b + σ) y C) 3 0 = gL C 3 0 := by unfold x_X2_note; split <;> rfl
    rw [this]; exact ⟨xA.2.2.2.2.2.2.2.2.2.1, xA.2.2.2.2.2.2.2.2.2.2.1, xA.2.2.2.2.2.2.2.2.2.2.2.1⟩
  · rw [kc 0 i 6 rfl, kc 0 i 7 rfl, kc 0 i 9 rfl, km 28 0 i rfl, km 26 0 i rfl, km 27 0 i rfl]
    exact (xB i hi).2.2.2.2.2.2.2.2.2.2.2.2.2.2.2.2
  · rw [km 26 0 i rfl, km 27 0 i rfl]; exact (xZ i hi).2.2
theorem in_13 {y : Int32} {C : St} (h : ¬ x_X8_isIn y 1 3 C = 0) : y = 1 ∨ y = 2 ∨ y = 3 := by
  obtain ⟨h1, h2⟩ := in_of h
  have e1 : ((1 : Int32)).toInt = 1 := by decide
  have e2 : ((2 : Int32)).toInt = 2 := by decide
  have e3 : ((3 : Int32)).toInt = 3 := by decide
  simp only [Int32.lt_iff_toInt_lt, ← Int32.toInt_inj, e1, e2, e3] at h1 h2 ⊢
  omega
theorem cr_card : CR_card := by
  intro n nb np C M a1 a2 hn hI
  obtain ⟨hA, hB, hZ, ⟨hP1, hP2⟩, hF, hO, hG, hK⟩ := id hI
  have hnb := hA.2.2.1
  have z1 : ¬ (1 : Int32) ≤ 0 := by decide
  have z2 : ¬ (2 : Int32) ≤ 0 := by decide
  have z0 : (0 : Int32) ≤ 0 := by decide
  have n1 : ¬ (1 : Nat) = 0 := by decide
  unfold x_X7_card ok_X7_card x_X8_card ok_X8_card x_X8_thrown x_X7_boutOnPiste x_X7_card_16 ok_X7_card_16 x_X8_card_17 ok_X8_card_17
  rw [side_eq a1 C M, in_eq a2 1 3 C M]
  have f2 : ok_X8_card_34 a1 a2 1 M ∧ (x_X8_card_34 a1 a2 1 M).2 = sV M 8 0 31 1 := by
    unfold ok_X8_card_34 x_X8_card_34
    rw [if_neg z1, if_neg z1]; exact ⟨trivial, rfl⟩
  have tw : True ∧ eIn 2 1 0 (2, (0 : Int32), C).1 ∧ ok_X8_card_34 a1 a2 1 M ∧ gV (x_X8_card_34 a1 a2 1 M).2 8 0 31 = wK 2 1 0 (2, (0 : Int32), C).1 ∧ ((2, (0 : Int32), C).1 = 0 → (2, (0 : Int32), C).2.1 = (x_X8_card_34 a1 a2 1 M).1) ∧ I2 (n + 1) nb np (2, (0 : Int32), C).2.2 (x_X8_card_34 a1 a2 1 M).2 := by
    obtain ⟨k1, k2, k3, k4, k5⟩ := failS (v8 := (x_X8_card_34 a1 a2 1 M).1) hI (e := 2) (by decide) (Or.inr (Or.inr (Or.inl ⟨rfl, by decide⟩))) (s0 := 1) (a := 2) (b := 1) (d := 0) rfl trivial f2.2
    exact ⟨trivial, k1, f2.1, k3, k4, k5⟩
  by_cases c1 : x_X8_isSide a1 M = 0
  · simp only [c1, ↓reduceIte]; exact tw
  by_cases c2 : x_X8_isIn a2 1 3 M = 0
  · simp only [c1, c2, ↓reduceIte]; exact tw
  have hs := side_01 (C := C) (by rw [side_eq a1 C M]; exact c1)
  have hy := in_13 c2
  simp only [c1, c2, ↓reduceIte]
  rcases hP2 with ⟨g1, g2, g3⟩ | ⟨b, hb, g1, g2, g3, g4, g5, g6⟩
  · rw [g1, g2]
    simp only [oc, ↓reduceIte, n1]
    unfold x_X8_card_34 ok_X8_card_34
    rw [if_neg z2, if_neg z2]
    obtain ⟨k1, k2, k3, k4, k5⟩ := failS (v8 := (0 : Int32)) hI (e := 1) (by decide) (Or.inr (Or.inl ⟨rfl, by decide⟩)) (s0 := 2) (a := 2) (b := 1) (d := 0) rfl trivial rfl
    exact ⟨trivial, k1, trivial, k3, fun h => h.elim, k5⟩
  · have gb : ¬ nI b = -1 := nI_m1 (by omega)
    rw [g1, g2, if_neg gb, if_neg gb]
    simp only [oc, ↓reduceIte]
    have hI1 : I2 n nb np C (sV M 8 0 31 0) := I2_th 0 hI
    have hw : gV (sV M 8 0 31 0) 25 0 b = -1 := gth ((hP1 b hb).mpr g1) (by omega)
    have hm := midR_of (mid_of hI1 hb g1) hw
    have gT : qT C (sV M 8 0 31 0) b := qT_th g5
    have hF0 : qF C (sV M 8 0 31 0) := hI1.2.2.2.2.1
    have g3' : qC C (sV M 8 0 31 0) n b 0 := qC_th g3
    have g4' : qC C (sV M 8 0 31 0) n b 1 := qC_th g4
    have th : gV (sV M 8 0 31 0) 8 0 31 = 0 := by simp [gV_sV]
    have hM29 : gV M 29 = gV (sV M 8 0 31 0) 29 := by funext a b; exact (gth rfl (by omega)).symm
    unfold x_X8_card_34 ok_X8_card_34
    rw [if_pos z0, if_pos z0, hM29]
    generalize sV M 8 0 31 0 = M0 at *
    -- the side as a place
    obtain ⟨σ, hσ, eσ, hcl, hco, hv⟩ : ∃ σ : Nat, (σ = 0 ∨ σ = 1) ∧ qC C M0 n b σ ∧ a1.toNatClampNeg = σ ∧ x_X0_corner b a1 C = 2 * b + σ ∧ vp_in a1 2 := by
      unfold x_X0_corner
      rcases hs with rfl | rfl
      · exact ⟨0, Or.inl rfl, g3', by decide, rfl, by unfold vp_in; decide⟩
      · exact ⟨1, Or.inr rfl, g4', by decide, rfl, by unfold vp_in; decide⟩
    obtain ⟨⟨a, ha, ea⟩, i1, i2, i3⟩ := eσ
    have main : ∀ col v : Int32, (col = 1 ∨ col = 2 ∨ col = 3) → (v = if a2 = 3 then 1 else gV M0 30 0 σ) → x_X2_colourFor (2 * b + σ) a2 C = col →
        (ok_X7_card_37 b (x_X0_giveCard b a1 a2 C).1 (x_X0_giveCard b a1 a2 C).2 ∧ (x_X7_card_37 b (x_X0_giveCard b a1 a2 C).1 (x_X0_giveCard b a1 a2 C).2).1 = 0 ∧ (x_X7_card_37 b (x_X0_giveCard b a1 a2 C).1 (x_X0_giveCard b a1 a2 C).2).2.1 = col ∧
          I2 (n + 1) nb np (x_X7_card_37 b (x_X0_giveCard b a1 a2 C).1 (x_X0_giveCard b a1 a2 C).2).2.2 (if col = 2 then x_X8_gives (1 <<< ((1 - a1) &&& 31)) (sV (sV (sV M0 29 0 σ (gV M0 29 0 σ + 1)) 30 0 σ v) 8 0 14 0) else if col = 3 then x_X8_ends (1 - a1) (sV (sV M0 29 0 σ (gV M0 29 0 σ + 1)) 30 0 σ v) else (sV (sV M0 29 0 σ (gV M0 29 0 σ + 1)) 30 0 σ v)) ∧
          gV (if col = 2 then x_X8_gives (1 <<< ((1 - a1) &&& 31)) (sV (sV (sV M0 29 0 σ (gV M0 29 0 σ + 1)) 30 0 σ v) 8 0 14 0) else if col = 3 then x_X8_ends (1 - a1) (sV (sV M0 29 0 σ (gV M0 29 0 σ + 1)) 30 0 σ v) else (sV (sV M0 29 0 σ (gV M0 29 0 σ + 1)) 30 0 σ v)) 8 0 31 = 0 ∧
          (if col = 2 then ok_X8_gives (1 <<< ((1 - a1) &&& 31)) (sV (sV (sV M0 29 0 σ (gV M0 29 0 σ + 1)) 30 0 σ v) 8 0 14 0) else if col = 3 then ok_X8_ends (1 - a1) (sV (sV M0 29 0 σ (gV M0 29 0 σ + 1)) 30 0 σ v) else True)) := by
      intro col v hcol hvv hcf
      obtain ⟨k1, k2, k3⟩ := card_note hn hσ hm gT hF0 hvv
      have t31 : gV (sV (sV M0 29 0 σ (gV M0 29 0 σ + 1)) 30 0 σ v) 8 0 31 = 0 := by simp [gV_sV]; exact th
      obtain ⟨l1, l2, l3, l4, l5⟩ := card_fin hs hcol k1 k2 k3 t31
      unfold x_X0_giveCard
      rw [hco, hcf]
      unfold ok_X7_card_37 x_X7_card_37 x_X7_card_44 ok_X7_card_44
      exact ⟨⟨l2, trivial⟩, rfl, l1, l3, l4, l5⟩
    -- the model's ending
    have m111 : ∀ (col w : Int32), (col = 1 ∨ col = 2 ∨ col = 3) → (∀ v, v = vp_nar .boolean (gV M0 30 0 σ ||| w) → 
        x_X8_card_111 a1 col w (gV M0 30 0 σ) a1 (sV M0 29 0 σ (gV M0 29 0 σ + 1)) = (col, (if col = 2 then x_X8_gives (1 <<< ((1 - a1) &&& 31)) (sV (sV (sV M0 29 0 σ (gV M0 29 0 σ + 1)) 30 0 σ v) 8 0 14 0) else if col = 3 then x_X8_ends (1 - a1) (sV (sV M0 29 0 σ (gV M0 29 0 σ + 1)) 30 0 σ v) else (sV (sV M0 29 0 σ (gV M0 29 0 σ + 1)) 30 0 σ v))) ∧
        ((if col = 2 then ok_X8_gives (1 <<< ((1 - a1) &&& 31)) (sV (sV (sV M0 29 0 σ (gV M0 29 0 σ + 1)) 30 0 σ v) 8 0 14 0) else if col = 3 then ok_X8_ends (1 - a1) (sV (sV M0 29 0 σ (gV M0 29 0 σ + 1)) 30 0 σ v) else True) → ok_X8_card_111 a1 col w (gV M0 30 0 σ) a1 (sV M0 29 0 σ (gV M0 29 0 σ + 1)))) := by
      intro col w hcol v hvv
      unfold x_X8_card_111 ok_X8_card_111 x_X8_card_132 ok_X8_card_132 x_X8_card_147 ok_X8_card_147
      rw [hcl, ← hvv]
      have y1 : ¬ (1 : Int32) = 2 := by decide
      have y2 : ¬ (1 : Int32) = 3 := by decide
      have y3 : ¬ (3 : Int32) = 2 := by decide
      rcases hcol with rfl | rfl | rfl
      · simp only [y1, y2, ↓reduceIte, hv, and_self, implies_true]
      · simp only [↓reduceIte, hv, and_true, true_and]
        exact fun h => h
      · simp only [y3, ↓reduceIte, hv, and_true, true_and]
        exact fun h => h
    have hor0 : vp_nar .boolean (gV M0 30 0 σ ||| 0) = gV M0 30 0 σ := by rcases i3 with e | e <;> rw [e] <;> decide
    have hor1 : vp_nar .boolean (gV M0 30 0 σ ||| 1) = 1 := by rcases i3 with e | e <;> rw [e] <;> decide
    -- the model's middle
    have m83 : ∀ (col : Int32), (col = 1 ∨ col = 2 ∨ col = 3) → x_X2_colourFor (2 * b + σ) a2 C = col →
        (ok_X7_card_37 b (x_X0_giveCard b a1 a2 C).1 (x_X0_giveCard b a1 a2 C).2 ∧ eIn 2 1 0 (x_X7_card_37 b (x_X0_giveCard b a1 a2 C).1 (x_X0_giveCard b a1 a2 C).2).1 ∧ ok_X8_card_83 a1 a2 col M0 ∧ gV (x_X8_card_83 a1 a2 col M0).2 8 0 31 = wK 2 1 0 (x_X7_card_37 b (x_X0_giveCard b a1 a2 C).1 (x_X0_giveCard b a1 a2 C).2).1 ∧ ((x_X7_card_37 b (x_X0_giveCard b a1 a2 C).1 (x_X0_giveCard b a1 a2 C).2).1 = 0 → (x_X7_card_37 b (x_X0_giveCard b a1 a2 C).1 (x_X0_giveCard b a1 a2 C).2).2.1 = (x_X8_card_83 a1 a2 col M0).1) ∧
          I2 (n + 1) nb np (x_X7_card_37 b (x_X0_giveCard b a1 a2 C).1 (x_X0_giveCard b a1 a2 C).2).2.2 (x_X8_card_83 a1 a2 col M0).2) := by
      intro col hcol hcf
      unfold x_X8_card_83 ok_X8_card_83
      rw [hcl]
      by_cases c3 : a2 = 3
      · obtain ⟨p1, p2, p3, p4, p5, p6⟩ := main col 1 hcol (by rw [if_pos c3]) hcf
        obtain ⟨u1, u2⟩ := m111 col 1 hcol 1 hor1.symm
        rw [if_pos c3, if_pos c3, u1, p2]
        exact ⟨p1, Or.inl rfl, ⟨hv, hv, hv, u2 p6⟩, p5, fun _ => p3, p4⟩
      · obtain ⟨p1, p2, p3, p4, p5, p6⟩ := main col (gV M0 30 0 σ) hcol (by rw [if_neg c3]) hcf
        obtain ⟨u1, u2⟩ := m111 col 0 hcol _ hor0.symm
        rw [if_neg c3, if_neg c3, u1, p2]
        exact ⟨p1, Or.inl rfl, ⟨hv, hv, hv, u2 p6⟩, p5, fun _ => p3, p4⟩
    unfold x_X2_colourFor x_X2_colourFor_34 at m83
    unfold x_X8_card_64 ok_X8_card_64 x_X8_card_82 ok_X8_card_82
    rw [hcl]
    have y1 : ¬ (2 : Int32) = 1 := by decide
    have y2 : ¬ (2 : Int32) = 3 := by decide
    have y3 : ¬ (3 : Int32) = 1 := by decide
    have y4 : ¬ (1 : Int32) = 3 := by decide
    have v1 : vp_in a1 2 := hv
    rcases hy with rfl | rfl | rfl
    · by_cases cc : gV M0 29 0 σ = 0
      · have hk := m83 1 (Or.inl rfl) (by simp only [i1.mpr cc, ↓reduceIte])
        simp only [cc, ↓reduceIte, hv, true_and]
        exact hk
      · have hk := m83 2 (Or.inr (Or.inl rfl)) (by rw [if_pos rfl, if_neg (fun h => cc (i1.mp h))])
        simp only [cc, y4, ↓reduceIte, hv, true_and]
        exact hk
    · have hk := m83 2 (Or.inr (Or.inl rfl)) (by simp only [y1, y2, ↓reduceIte])
      simp only [y1, y2, ↓reduceIte]
      exact hk
    · by_cases cc : gV M0 30 0 σ = 0
      · have hk := m83 2 (Or.inr (Or.inl rfl)) (by simp only [y3, ↓reduceIte, i2, cc])
        simp only [cc, y3, ↓reduceIte, hv, true_and]
        exact hk
      · have hk := m83 3 (Or.inr (Or.inr rfl)) (by simp only [y3, ↓reduceIte, i2, cc])
        simp only [cc, y3, ↓reduceIte, hv, true_and]
        exact hk
theorem next_b {L : Int64} (γ : St) (h0 : 0 ≤ L.toInt) (h1 : L.toInt < 2147483648) : 0 ≤ (x_X8_next L γ).toInt ∧ (x_X8_next L γ).toInt < 2147483648 ∧ (((x_X8_next L γ / 65536) - (x_X8_next L γ / 65536) / 2 * 2 : Int64).toInt32 = 0 ∨ ((x_X8_next L γ / 65536) - (x_X8_next L γ / 65536) / 2 * 2 : Int64).toInt32 = 1) := by
  have hn : ¬ L < 0 := by rw [Int64.lt_iff_toInt_lt]; show ¬ L.toInt < 0; omega
  obtain ⟨k, hk, rfl⟩ := pk_lOf hn
  rw [pk_lT hk] at h1
  have e1 : (1103515245 : Int64) = lN 1103515245 := by decide
  have e2 : (12345 : Int64) = lN 12345 := by decide
  have e3 : (2147483648 : Int64) = lN 2147483648 := by decide
  have e4 : (65536 : Int64) = lN 65536 := by decide
  have e5 : (2 : Int64) = lN 2 := by decide
  have hx : x_X8_next (lN k) γ = lN ((1103515245 * k + 12345) % 2147483648) := by
    unfold x_X8_next
    rw [e1, e2, e3, lN_mul, lN_add]
    exact pk_lRem (by omega) (by omega) (by omega)
  rw [hx]
  generalize hm : (1103515245 * k + 12345) % 2147483648 = m
  have hm' : m < 2147483648 := by rw [← hm]; exact Nat.mod_lt _ (by omega)
  rw [pk_lT (by omega), e4, e5, pk_lDiv (by omega) (by omega) (by omega), pk_lRem (by omega) (by omega) (by omega), lN_i]
  refine ⟨by omega, by omega, ?_⟩
  have : m / 65536 % 2 < 2 := Nat.mod_lt _ (by omega)
  rcases (show m / 65536 % 2 = 0 ∨ m / 65536 % 2 = 1 by omega) with h | h <;> rw [h]
  · exact Or.inl rfl
  · exact Or.inr rfl
theorem look_eq {n nb np b : Nat} {C M : St} (h : MidR n nb np b C M) (hq : gV C 0 b 8 = gV M 8 0 14 ∧ (∃ a : Nat, a < 60 ∧ gV M 8 0 14 = nI a)) (h27 : ∃ a : Nat, a ≤ 2 ∧ gV M 27 0 b = nI a)
    (h26 : ∃ a : Nat, gV M 26 0 b = nI a ∧ ((gV M 28 0 b = -1 ∧ a ≤ 180) ∨ ((gV M 28 0 b = 0 ∨ gV M 28 0 b = 1) ∧ 181 ≤ a ∧ a ≤ 240))) (hl : gV M 21 0 (2 * b) < gV M 23 0 b ∧ gV M 21 0 (2 * b + 1) < gV M 23 0 b) (hF : qF C M) :
    Mid n nb np b (x_X0_passSecond_33 b C) (x_X8_second_85 (nI b) M) ∧ ok_X8_second_85 (nI b) M := by
  obtain ⟨hA, hB, hZ, hb, hO1, hR, c0, c1, hGb, hO, hG, hK, hw, s2⟩ := id h
  have hnb := hA.2.2.1
  have hbB := hB b hb
  obtain ⟨l1, l2, l3⟩ := leader_eq hbB hb hnb s2
  obtain ⟨b1, b2, b3, b4, b5, b6, b7, b8, b9, b10, b11, b12, b13, b14, b15, b16, b17, b18, b19⟩ := hbB
  have gb : ¬ nI b = -1 := nI_m1 (by omega)
  have v0 : vp_in (2 * nI b) 160 := by rw [show (2 : Int32) = nI 2 by decide, pk_mul]; exact vp_in_nI (by omega) (by omega)
  have v1 : vp_in (2 * nI b + 1) 160 := by rw [show (2 : Int32) = nI 2 by decide, pk_mul, nI_1]; exact vp_in_nI (by omega) (by omega)
  have v2 : vp_in (nI b) 80 := vp_in_nI (by omega) (by omega)
  have z1 : ¬ (1 : Int32) = 0 := by decide
  have e180 : (180 : Int32) = nI 180 := by decide
  have e240 : (240 : Int32) = nI 240 := by decide
  obtain ⟨a, ea, ha⟩ := h26
  unfold x_X0_passSecond_33 x_X0_isOver x_X8_second_85 ok_X8_second_85 x_X8_second_135 ok_X8_second_135 x_X0_lookAtTime x_X0_timeLimit x_X0_isLike x_X0_lookAtTime_28 x_X0_lookAtTime_43
  rw [b15, hw, b17, b18, b6, b7, s2, nI_clamp (show b < 2 ^ 31 by omega), clamp2 (by omega), clamp21 (by omega), ea, e180, e240, l1]
  simp only [↓reduceIte, gb, v0, v1, v2, true_and, and_true]
  have k180 : (nI 180 ≤ nI a) ↔ 180 ≤ a := nI_leI (by omega) (by omega)
  have k240 : (nI 240 ≤ nI a) ↔ 240 ≤ a := nI_leI (by omega) (by omega)
  have q180 : (nI a = nI 180) ↔ a = 180 := nI_eq (by omega) (by omega)
  have q240 : (nI a = nI 240) ↔ a = 240 := nI_eq (by omega) (by omega)
  have stay : ((gV M 28 0 b = -1 ∧ a < 180) ∨ ((gV M 28 0 b = 0 ∨ gV M 28 0 b = 1) ∧ 180 ≤ a ∧ a < 240)) → Mid n nb np b C M := by
    intro hh
    exact mid_ofR h ⟨hq.1, hq.2, h27, ⟨a, ea, hh⟩, hl.1, hl.2⟩ hF
  rcases ha with ⟨hd, ha⟩ | ⟨hd, ha1, ha2⟩
  · rw [hd]
    simp only [↓reduceIte]
    by_cases c180 : a = 180
    · subst c180
      simp only [k180, Nat.le_refl, ↓reduceIte]
      by_cases cl : gV M 21 0 (2 * b) = gV M 21 0 (2 * b + 1)
      · simp only [cl, z1, ↓reduceIte, and_true]
        have hL := hA.2.2.2.2.2.2.2.2.2
        obtain ⟨n1, n2, n3⟩ := next_b M hL.2.1 hL.2.2.1
        have hdr : x_X3_draw C = (((x_X8_next (gL M 8 1) M / 65536) - (x_X8_next (gL M 8 1) M / 65536) / 2 * 2 : Int64).toInt32, sL C 3 0 (x_X8_next (gL M 8 1) M)) := by
          unfold x_X3_draw x_X8_next; rw [hL.1]
        rw [hdr]
        generalize hN : x_X8_next (gL M 8 1) M = N at *
        generalize hD : ((N / 65536) - (N / 65536) / 2 * 2 : Int64).toInt32 = D at *
        show Mid n nb np b (sV (sL C 3 0 N) 0 b 6 D) (sV (sL M 8 1 N) 28 0 b D)
        have kc : Ag (fun c k => !(c == 0 && k == 6)) C (sV (sL C 3 0 N) 0 b 6 D) := Ag_sV _ _ _ _ rfl (Ag_sL _ _ _ (Ag.rf _ _))
        have km : Ag (fun c _ => !(c == 28)) M (sV (sL M 8 1 N) 28 0 b D) := Ag_sV _ _ _ _ rfl (Ag_sL _ _ _ (Ag.rf _ _))
        have x28 : ∀ i, gV (sV (sL M 8 1 N) 28 0 b D) 28 0 i = if i = b then D else gV M 28 0 i := by intro i; simp [gV_sV]; rfl
        have x6 : ∀ i, gV (sV (sL C 3 0 N) 0 b 6 D) 0 i 6 = if i = b then D else gV C 0 i 6 := by intro i; simp [gV_sV]; rfl
        have gl1 : gL (sV (sL C 3 0 N) 0 b 6 D) 3 0 = N := by rw [gL_sV, gL_sL, if_pos ⟨rfl, rfl⟩]
        have gl2 : gL (sV (sL M 8 1 N) 28 0 b D) 8 1 = N := by rw [gL_sV, gL_sL, if_pos ⟨rfl, rfl⟩]
        refine mid_ofR (midR_t h (fun x y z hh => kc x y z (by unfold kR at hh; simp at hh ⊢; exact hh.1.1.1.2.imp id (fun g => g.1.1.2))) (fun x y z hh => km x y z (by unfold kS at hh; simp at hh ⊢; exact hh.1.1.1.1.2)) ?_ (fun _ _ => rfl) ?_ (fun i hi => ?_) (fun i hi => ?_) ⟨qC_t kc km (by simp) n b 0 c0, qC_t kc km (by simp) n b 1 c1⟩) ?_ (qF_t kc km (by simp) hF)
        · rw [kc 7 0 9 rfl, km 8 0 2 rfl]; exact hA.2.2.2.2.2.2.2.2.1
        · rw [gl1, gl2]; exact ⟨rfl, n1, n2⟩
        · rw [x28, x6, kc 0 i 7 rfl, kc 0 i 9 rfl, km 26 0 i rfl, km 27 0 i rfl]
          have := (hB i hi).2.2.2.2.2.2.2.2.2.2.2.2.2.2.2.2
          by_cases ci : i = b
          · rw [if_pos ci, if_pos ci]; exact ⟨rfl, this.2⟩
          · rw [if_neg ci, if_neg ci]; exact this
        · rw [km 26 0 i rfl, km 27 0 i rfl]; exact (hZ i hi).2.2
        · unfold qT
          rw [kc 0 b 8 rfl, km 8 0 14 rfl, km 27 0 b rfl, km 26 0 b rfl, km 21 0 _ rfl, km 21 0 _ rfl, km 23 0 _ rfl, x28, if_pos rfl]
          exact ⟨hq.1, hq.2, h27, ⟨180, ea, Or.inr ⟨n3, by omega, by omega⟩⟩, hl.1, hl.2⟩
      · simp only [cl, ↓reduceIte]
        obtain ⟨w1, w2⟩ := mid_win h l3
        exact ⟨w1, l2, w2⟩
    · have n240 : ¬ a = 240 := by omega
      have n180 : ¬ 180 ≤ a := by omega
      simp only [k180, q180, q240, c180, n240, n180, ↓reduceIte, and_true]
      exact stay (Or.inl ⟨hd, by omega⟩)
  · have nd : ¬ gV M 28 0 b = -1 := by rcases hd with e | e <;> rw [e] <;> decide
    have c180 : ¬ a = 180 := by omega
    simp only [nd, q180, c180, ↓reduceIte, k240, q240]
    by_cases c240 : a = 240
    · subst c240
      simp only [Nat.le_refl, ↓reduceIte]
      exact mid_win h hd
    · have n240 : ¬ 240 ≤ a := by omega
      simp only [c240, n240, ↓reduceIte, and_true]
      exact stay (Or.inr ⟨hd, by omega, by omega⟩)
def kT : Nat → Nat → Bool := fun c k => !(c == 0 && (k == 7 || k == 8 || k == 9))
def kU : Nat → Nat → Bool := fun c k => !(c == 26 || c == 27 || (c == 8 && k == 14))
theorem tick_t {n nb np b : Nat} {C C' M M' : St} (h : MidR n nb np b C M) (hF : qF C M) (kc : Ag kT C C') (km : Ag kU M M') (hR : C'.2 = C.2) (hM : M'.2 = M.2) (h7 : gV C' 0 b 7 = gV M' 26 0 b) (h9 : gV C' 0 b 9 = gV M' 27 0 b)
    (o : ∀ i, i ≠ b → gV C' 0 i 7 = gV C 0 i 7 ∧ gV C' 0 i 9 = gV C 0 i 9 ∧ gV M' 26 0 i = gV M 26 0 i ∧ gV M' 27 0 i = gV M 27 0 i) : MidR n nb np b C' M' ∧ qF C' M' := by
  obtain ⟨hA, hB, hZ, hb, hO1, hR', c0, c1, -⟩ := id h
  refine ⟨midR_t h (fun x y z hh => kc x y z (by unfold kR at hh; unfold kT; simp at hh ⊢; exact hh.1.1.1.2.imp id (fun g => ⟨⟨g.1.2, g.1.1.1⟩, g.2⟩))) (fun x y z hh => km x y z (by
      unfold kS at hh; unfold kU; simp at hh ⊢
      exact ⟨⟨hh.1.1.1.1.1.1.2, hh.1.1.1.1.1.2⟩, hh.1.1.1.1.1.1.1.imp id (fun g => g.1.1.1.1)⟩)) ?_ (fun a k => by unfold gR; rw [hR]) ?_ (fun i hi => ?_) (fun i hi => ?_) ⟨qC_t kc km (by simp [kT, kU]) n b 0 c0, qC_t kc km (by simp [kT, kU]) n b 1 c1⟩, qF_t kc km (by simp [kT, kU]) hF⟩
  · rw [kc 7 0 9 rfl, km 8 0 2 rfl]; exact hA.2.2.2.2.2.2.2.2.1
  · have e1 : gL C' 3 0 = gL C 3 0 := by unfold gL; rw [hR]
    have e2 : gL M' 8 1 = gL M 8 1 := by unfold gL; rw [hM]
    rw [e1, e2]; exact ⟨hA.2.2.2.2.2.2.2.2.2.1, hA.2.2.2.2.2.2.2.2.2.2.1, hA.2.2.2.2.2.2.2.2.2.2.2.1⟩
  · rw [kc 0 i 6 rfl, km 28 0 i rfl]
    have := (hB i hi).2.2.2.2.2.2.2.2.2.2.2.2.2.2.2.2
    by_cases ci : i = b
    · subst ci; exact ⟨this.1, h7, h9⟩
    · obtain ⟨o1, o2, o3, o4⟩ := o i ci
      rw [o1, o2, o3, o4]; exact this
  · obtain ⟨o1, o2, o3, o4⟩ := o i (by omega)
    rw [o3, o4]; exact (hZ i hi).2.2
theorem over_33 {n nb np b : Nat} {C M : St} (h : Mid n nb np b C M) (hw : ¬ gV M 25 0 b = -1) : x_X0_passSecond_33 b C = C ∧ x_X8_second_85 (nI b) M = M ∧ ok_X8_second_85 (nI b) M := by
  obtain ⟨hA, hB, hZ, hb, hO1, hR, c0, c1, hGb, hO, hG, hK, hs⟩ := h
  have e : gV C 0 b 5 = gV M 25 0 b := (hB b hb).2.2.2.2.2.2.2.2.2.2.2.2.2.2.1
  have z1 : ¬ (1 : Int32) = 0 := by decide
  rcases hs with ⟨s1, -⟩ | ⟨-, s2, -⟩
  · exact absurd s1 hw
  unfold x_X0_passSecond_33 x_X0_isOver x_X8_second_85 ok_X8_second_85
  rw [e, s2, if_neg hw, if_neg z1, if_pos rfl, if_pos rfl]
  exact ⟨rfl, rfl, trivial⟩
theorem second_eq {n nb np b : Nat} {C M : St} (hm : Mid n nb np b C M) (hw : gV M 25 0 b = -1) : Mid n nb np b (x_X0_passSecond b C) (x_X8_second M) ∧ ok_X8_second M := by
  have h := midR_of hm hw
  obtain ⟨hA, hB, hZ, hb, hO1, hR, c0, c1, hGb, hO, hG, hK, hs⟩ := id hm
  have hnb := hA.2.2.1
  rcases hs with ⟨-, s2, ⟨T1, ⟨q, hq, T2⟩, ⟨p, hp, T3⟩, ⟨a, T4, ha⟩, T5, T6⟩, hF⟩ | ⟨s1, -⟩
  rotate_left
  · exact absurd hw s1
  obtain ⟨b1, b2, b3, b4, b5, b6, b7, b8, b9, b10, b11, b12, b13, b14, b15, b16, b17, b18, b19⟩ := hB b hb
  have e60 : (60 : Int32) = nI 60 := by decide
  have v2 : vp_in (nI b) 80 := vp_in_nI (by omega) (by omega)
  have e2 : (2 : Int32) = nI 2 := by decide
  have e3 : (3 : Int32) = nI 3 := by decide
  have l60 : (nI (q + 1) < nI 60) ↔ q + 1 < 60 := nI_ltI (by omega) (by omega)
  have q60 : (nI (q + 1) = nI 60) ↔ q + 1 = 60 := nI_eq (by omega) (by omega)
  unfold x_X0_passSecond x_X8_second ok_X8_second x_X8_second_64 ok_X8_second_64
  rw [s2, nI_clamp (show b < 2 ^ 31 by omega)]
  have C8 : gV (sV C 0 b 7 (gV C 0 b 7 + 1)) 0 b 8 = gV C 0 b 8 := by rw [gV_sV, if_neg (by rintro ⟨-, e, -⟩; exact absurd e (by decide))]
  have x8 : gV (sV (sV C 0 b 7 (gV C 0 b 7 + 1)) 0 b 8 (gV C 0 b 8 + 1)) 0 b 8 = nI (q + 1) := by
    rw [gV_sV, if_pos ⟨rfl, rfl, rfl⟩, T1, T2, nI_1]
  have x27 : gV (sV (sV (sV (sV M 26 0 b (gV M 26 0 b + 1)) 8 0 14 (gV M 8 0 14 + 1)) 8 0 14 0) 27 0 b (gV M 27 0 b + 1)) 27 0 b = nI (p + 1) := by
    rw [gV_sV, if_pos ⟨rfl, rfl, rfl⟩, T3, nI_1]
  rw [x8, x27, e60, T2, nI_1]
  simp only [l60, q60]
  -- the first state
  have kc1 : Ag kT C (sV (sV C 0 b 7 (gV C 0 b 7 + 1)) 0 b 8 (gV C 0 b 8 + 1)) := Ag_sV _ _ _ _ rfl (Ag_sV _ _ _ _ rfl (Ag.rf _ _))
  have ki : ∀ i, i ≠ b → gV (sV (sV C 0 b 7 (gV C 0 b 7 + 1)) 0 b 8 (gV C 0 b 8 + 1)) 0 i 7 = gV C 0 i 7 ∧ gV (sV (sV C 0 b 7 (gV C 0 b 7 + 1)) 0 b 8 (gV C 0 b 8 + 1)) 0 i 9 = gV C 0 i 9 := by
    intro i hi
    constructor
    · rw [gV_sV, if_neg (fun e => hi e.2.2), gV_sV, if_neg (fun e => hi e.2.2)]
    · rw [gV_sV, if_neg (fun e => hi e.2.2), gV_sV, if_neg (fun e => hi e.2.2)]
  have c17 : gV (sV (sV C 0 b 7 (gV C 0 b 7 + 1)) 0 b 8 (gV C 0 b 8 + 1)) 0 b 7 = nI (a + 1) := by
    rw [gV_sV, if_neg (by rintro ⟨-, e, -⟩; exact absurd e (by decide)), gV_sV, if_pos ⟨rfl, rfl, rfl⟩, b18, T4, nI_1]
  have c19 : gV (sV (sV C 0 b 7 (gV C 0 b 7 + 1)) 0 b 8 (gV C 0 b 8 + 1)) 0 b 9 = nI p := by
    rw [gV_sV, if_neg (by rintro ⟨-, e, -⟩; exact absurd e (by decide)), gV_sV, if_neg (by rintro ⟨-, e, -⟩; exact absurd e (by decide)), b19, T3]
  have hC1r : (sV (sV C 0 b 7 (gV C 0 b 7 + 1)) 0 b 8 (gV C 0 b 8 + 1)).2 = C.2 := rfl
  generalize sV (sV C 0 b 7 (gV C 0 b 7 + 1)) 0 b 8 (gV C 0 b 8 + 1) = C1 at *
  have km0 : Ag kU M (sV M 26 0 b (gV M 26 0 b + 1)) := Ag_sV _ _ _ _ rfl (Ag.rf _ _)
  have m0i : ∀ i, gV (sV M 26 0 b (gV M 26 0 b + 1)) 26 0 i = if i = b then nI (a + 1) else gV M 26 0 i := by
    intro i; rw [gV_sV, T4, nI_1]; simp
  have m027 : ∀ i, gV (sV M 26 0 b (gV M 26 0 b + 1)) 27 0 i = gV M 27 0 i := by intro i; rw [gV_sV, if_neg (by rintro ⟨e, -⟩; exact absurd e (by decide))]
  have hM0r : (sV M 26 0 b (gV M 26 0 b + 1)).2 = M.2 := rfl
  generalize sV M 26 0 b (gV M 26 0 b + 1) = M0 at *
  have h26' : ∀ M', Ag kU M M' → gV M' 26 0 b = nI (a + 1) → ∃ a' : Nat, gV M' 26 0 b = nI a' ∧ ((gV M' 28 0 b = -1 ∧ a' ≤ 180) ∨ ((gV M' 28 0 b = 0 ∨ gV M' 28 0 b = 1) ∧ 181 ≤ a' ∧ a' ≤ 240)) := by
    intro M' hk h1
    refine ⟨a + 1, h1, ?_⟩
    rw [hk 28 0 b rfl]
    rcases ha with ⟨d, e⟩ | ⟨d, e1, e2⟩
    · exact Or.inl ⟨d, by omega⟩
    · exact Or.inr ⟨d, by omega, by omega⟩
  by_cases cq : q + 1 < 60
  · have cq' : ¬ q + 1 = 60 := by omega
    simp only [cq, cq', ↓reduceIte, v2, true_and]
    have km1 : Ag kU M (sV M0 8 0 14 (nI (q + 1))) := Ag_sV _ _ _ _ rfl km0
    have y14 : gV (sV M0 8 0 14 (nI (q + 1))) 8 0 14 = nI (q + 1) := by rw [gV_sV, if_pos ⟨rfl, rfl, rfl⟩]
    have y26 : ∀ i, gV (sV M0 8 0 14 (nI (q + 1))) 26 0 i = gV M0 26 0 i := by intro i; rw [gV_sV, if_neg (by rintro ⟨e, -⟩; exact absurd e (by decide))]
    have y27 : ∀ i, gV (sV M0 8 0 14 (nI (q + 1))) 27 0 i = gV M0 27 0 i := by intro i; rw [gV_sV, if_neg (by rintro ⟨e, -⟩; exact absurd e (by decide))]
    have hr : (sV M0 8 0 14 (nI (q + 1))).2 = M.2 := hM0r
    generalize sV M0 8 0 14 (nI (q + 1)) = M1 at *
    have f26 : gV M1 26 0 b = nI (a + 1) := by rw [y26, m0i, if_pos rfl]
    obtain ⟨t1, t2⟩ := tick_t h hF kc1 km1 hC1r hr (by rw [c17, f26]) (by rw [c19, y27, m027, T3]) (fun i hi => ⟨(ki i hi).1, (ki i hi).2, by rw [y26, m0i, if_neg hi], by rw [y27, m027]⟩)
    exact look_eq t1 ⟨by rw [x8, y14], ⟨q + 1, cq, y14⟩⟩ ⟨p, hp, by rw [y27, m027, T3]⟩ (h26' M1 km1 f26) (by rw [km1 21 0 _ rfl, km1 21 0 _ rfl, km1 23 0 _ rfl]; exact ⟨T5, T6⟩) t2
  · have cq' : q + 1 = 60 := by omega
    rw [if_neg cq, if_pos cq', if_pos cq']
    have km2 : Ag kU M (sV (sV (sV M0 8 0 14 (nI (q + 1))) 8 0 14 0) 27 0 b (gV M 27 0 b + 1)) := Ag_sV _ _ _ _ rfl (Ag_sV _ _ _ _ rfl (Ag_sV _ _ _ _ rfl km0))
    have y14 : gV (sV (sV (sV M0 8 0 14 (nI (q + 1))) 8 0 14 0) 27 0 b (gV M 27 0 b + 1)) 8 0 14 = 0 := by rw [gV_sV, if_neg (by rintro ⟨e, -⟩; exact absurd e (by decide)), gV_sV, if_pos ⟨rfl, rfl, rfl⟩]
    have y26 : ∀ i, gV (sV (sV (sV M0 8 0 14 (nI (q + 1))) 8 0 14 0) 27 0 b (gV M 27 0 b + 1)) 26 0 i = gV M0 26 0 i := by
      intro i; rw [gV_sV, if_neg (by rintro ⟨e, -⟩; exact absurd e (by decide)), gV_sV, if_neg (by rintro ⟨e, -⟩; exact absurd e (by decide)), gV_sV, if_neg (by rintro ⟨e, -⟩; exact absurd e (by decide))]
    have y27 : ∀ i, i ≠ b → gV (sV (sV (sV M0 8 0 14 (nI (q + 1))) 8 0 14 0) 27 0 b (gV M 27 0 b + 1)) 27 0 i = gV M0 27 0 i := by
      intro i hi; rw [gV_sV, if_neg (fun e => hi e.2.1), gV_sV, if_neg (by rintro ⟨e, -⟩; exact absurd e (by decide)), gV_sV, if_neg (by rintro ⟨e, -⟩; exact absurd e (by decide))]
    have y27b : gV (sV (sV (sV M0 8 0 14 (nI (q + 1))) 8 0 14 0) 27 0 b (gV M 27 0 b + 1)) 27 0 b = nI (p + 1) := by rw [gV_sV, if_pos ⟨rfl, rfl, rfl⟩, T3, nI_1]
    have hr : (sV (sV (sV M0 8 0 14 (nI (q + 1))) 8 0 14 0) 27 0 b (gV M 27 0 b + 1)).2 = M.2 := hM0r
    generalize sV (sV (sV M0 8 0 14 (nI (q + 1))) 8 0 14 0) 27 0 b (gV M 27 0 b + 1) = M2 at *
    unfold x_X0_becomePassive x_X0_becomePassive_28
    have kc2 : Ag kT C (sV (sV C1 0 b 8 0) 0 b 9 (gV C1 0 b 9 + 1)) := Ag_sV _ _ _ _ rfl (Ag_sV _ _ _ _ rfl kc1)
    have z9 : gV (sV (sV C1 0 b 8 0) 0 b 9 (gV C1 0 b 9 + 1)) 0 b 9 = nI (p + 1) := by rw [gV_sV, if_pos ⟨rfl, rfl, rfl⟩, c19, nI_1]
    have z8 : gV (sV (sV C1 0 b 8 0) 0 b 9 (gV C1 0 b 9 + 1)) 0 b 8 = 0 := by rw [gV_sV, if_neg (by rintro ⟨-, e, -⟩; exact absurd e (by decide)), gV_sV, if_pos ⟨rfl, rfl, rfl⟩]
    have z7 : gV (sV (sV C1 0 b 8 0) 0 b 9 (gV C1 0 b 9 + 1)) 0 b 7 = nI (a + 1) := by rw [gV_sV, if_neg (by rintro ⟨-, e, -⟩; exact absurd e (by decide)), gV_sV, if_neg (by rintro ⟨-, e, -⟩; exact absurd e (by decide)), c17]
    have zi : ∀ i, i ≠ b → gV (sV (sV C1 0 b 8 0) 0 b 9 (gV C1 0 b 9 + 1)) 0 i 7 = gV C 0 i 7 ∧ gV (sV (sV C1 0 b 8 0) 0 b 9 (gV C1 0 b 9 + 1)) 0 i 9 = gV C 0 i 9 := by
      intro i hi
      constructor
      · rw [gV_sV, if_neg (fun e => hi e.2.2), gV_sV, if_neg (fun e => hi e.2.2)]; exact (ki i hi).1
      · rw [gV_sV, if_neg (fun e => hi e.2.2), gV_sV, if_neg (fun e => hi e.2.2)]; exact (ki i hi).2
    have hC2r : (sV (sV C1 0 b 8 0) 0 b 9 (gV C1 0 b 9 + 1)).2 = C.2 := hC1r
    rw [z9]
    generalize sV (sV C1 0 b 8 0) 0 b 9 (gV C1 0 b 9 + 1) = C2 at *
    have f26 : gV M2 26 0 b = nI (a + 1) := by rw [y26, m0i, if_pos rfl]
    obtain ⟨t1, t2⟩ := tick_t h hF kc2 km2 hC2r hr (by rw [z7, f26]) (by rw [z9, y27b]) (fun i hi => ⟨(zi i hi).1, (zi i hi).2, by rw [y26, m0i, if_neg hi], by rw [y27 i hi, m027]⟩)
    have hl2 : gV M2 21 0 (2 * b) < gV M2 23 0 b ∧ gV M2 21 0 (2 * b + 1) < gV M2 23 0 b := by rw [km2 21 0 _ rfl, km2 21 0 _ rfl, km2 23 0 _ rfl]; exact ⟨T5, T6⟩
    have eq2 : (nI (p + 1) = 2) ↔ p + 1 = 2 := by rw [e2]; exact nI_eq (by omega) (by omega)
    have eq3 : (nI (p + 1) = 3) ↔ p + 1 = 3 := by rw [e3]; exact nI_eq (by omega) (by omega)
    have lt3 : (nI (p + 1) < 3) ↔ p + 1 < 3 := by rw [e3]; exact nI_ltI (by omega) (by omega)
    have hz : gV C2 0 b 8 = gV M2 8 0 14 ∧ (∃ a : Nat, a < 60 ∧ gV M2 8 0 14 = nI a) := ⟨by rw [z8, y14], ⟨0, by omega, y14⟩⟩
    simp only [eq2, eq3, lt3]
    by_cases cp2 : p + 1 = 2
    · simp only [cp2, ↓reduceIte, v2, true_and]
      obtain ⟨_, _, _, _, _, _, _, ⟨t0', l0', e0'⟩, ⟨t1', l1', e1'⟩, _, _, ⟨g', lg', eg'⟩, _⟩ := t1.2.1 b hb
      have g0 : t0' < g' := by have := hl2.1; rw [e0', eg'] at this; exact (nI_ltI (by omega) (by omega)).mp this
      have g1 : t1' < g' := by have := hl2.2; rw [e1', eg'] at this; exact (nI_ltI (by omega) (by omega)).mp this
      obtain ⟨u1, u2⟩ := gives_eq (s := 3) (Or.inr (Or.inr rfl)) t1 e0' e1' eg' g0 g1 lg'
      rcases u2 with ⟨m1, m2, m3, m4, m5⟩ | ⟨m1, m2⟩
      · have := look_eq m1 ⟨by rw [m2 0 b 8 rfl, m3 8 0 14 rfl]; exact hz.1, by rw [m3 8 0 14 rfl]; exact hz.2⟩ ⟨2, by omega, by rw [m3 27 0 b rfl, y27b, cp2]⟩ (by
            obtain ⟨a', r1, r2⟩ := h26' M2 km2 f26
            exact ⟨a', by rw [m3 26 0 b rfl]; exact r1, by rw [m3 28 0 b rfl]; exact r2⟩) (by rw [m3 23 0 b rfl]; exact ⟨m4, m5⟩) (qF_t m2 m3 (by simp) t2)
        exact ⟨this.1, u1, this.2⟩
      · obtain ⟨o1, o2, o3⟩ := over_33 m1 m2
        rw [o1, o2]; exact ⟨m1, u1, o3⟩
    · by_cases cp3 : p + 1 = 3
      · have n3 : ¬ p + 1 < 3 := by omega
        simp only [cp2, cp3, n3, ↓reduceIte, v2, true_and]
        rw [if_neg (show ¬ (3 : Nat) = 2 by decide), if_neg (show ¬ (3 : Nat) < 3 by decide), if_neg (show ¬ (3 : Nat) = 2 by decide), if_neg (show ¬ (3 : Nat) = 2 by decide)]
        obtain ⟨l1, l2, l3⟩ := leader_eq (t1.2.1 b hb) hb hnb t1.2.2.2.2.2.2.2.2.2.2.2.2.2
        obtain ⟨w1, w2⟩ := mid_win t1 l3
        have hov : ¬ gV (x_X8_ends (x_X8_ahead M2) M2) 25 0 b = -1 := by
          have e4 : gV M2 8 0 4 = nI b := t1.2.2.2.2.2.2.2.2.2.2.2.2.2
          unfold x_X8_ends
          rw [e4, nI_clamp (by omega)]
          have : gV (sV (sV (sV M2 25 0 b (x_X8_ahead M2)) 8 0 4 (-1)) 8 0 17 0) 25 0 b = x_X8_ahead M2 := by simp [gV_sV]
          rw [this]
          rcases l3 with e | e <;> rw [e] <;> decide
        rw [l1]
        obtain ⟨o1, o2, o3⟩ := over_33 w1 hov
        rw [o1, o2]; exact ⟨w1, l2, w2, o3⟩
      · have n3 : p + 1 < 3 := by omega
        simp only [cp2, cp3, n3, ↓reduceIte, v2, true_and]
        exact look_eq t1 hz ⟨p + 1, by omega, y27b⟩ (h26' M2 km2 f26) hl2 t2
def kW : Nat → Nat → Bool := fun c k => !(c == 21 || c == 25 || c == 26 || c == 27 || c == 28 || (c == 8 && (k == 4 || k == 17 || k == 14)))
theorem second_Ag (M : St) : Ag kW M (x_X8_second M) := by
  have he : ∀ v X, Ag kW M X → Ag kW M (x_X8_ends v X) := by
    intro v X h; unfold x_X8_ends
    exact Ag_sV _ _ _ _ rfl (Ag_sV _ _ _ _ rfl (Ag_sV _ _ _ _ rfl h))
  have h85 : ∀ a X, Ag kW M X → Ag kW M (x_X8_second_85 a X) := by
    intro a X h
    unfold x_X8_second_85 x_X8_second_135
    repeat' split
    all_goals first | exact h | exact he _ _ h | exact Ag_sV _ _ _ _ rfl (Ag_sL _ _ _ h)
  have hg : ∀ s X, Ag kW M X → Ag kW M (x_X8_gives s X) := by
    intro s X h
    refine Ag_tr h (fun x y z hh => gives_Ag s X x y z ?_)
    unfold kW at hh; unfold kG; simp at hh ⊢
    exact ⟨hh.1.1.1.1, hh.2.imp id (fun g => g.1)⟩
  unfold x_X8_second x_X8_second_64
  have hb : Ag kW M (sV (sV M 26 0 ((gV M 8 0 4 : Int32).toNatClampNeg) ((gV M 26 0 ((gV M 8 0 4 : Int32).toNatClampNeg)) + 1)) 8 0 14 ((gV M 8 0 14) + 1)) := Ag_sV _ _ _ _ rfl (Ag_sV _ _ _ _ rfl (Ag.rf _ _))
  have hb2 : ∀ v, Ag kW M (sV (sV (sV (sV M 26 0 ((gV M 8 0 4 : Int32).toNatClampNeg) ((gV M 26 0 ((gV M 8 0 4 : Int32).toNatClampNeg)) + 1)) 8 0 14 ((gV M 8 0 14) + 1)) 8 0 14 0) 27 0 ((gV M 8 0 4 : Int32).toNatClampNeg) v) := fun v => Ag_sV _ _ _ _ rfl (Ag_sV _ _ _ _ rfl hb)
  split
  · split
    · exact h85 _ _ (hg _ _ (hb2 _))
    · split
      · exact h85 _ _ (he _ _ (hb2 _))
      · exact h85 _ _ (hb2 _)
  · exact h85 _ _ hb
/-- the end of clock -/
theorem clock_fin {n nb np b : Nat} {C M : St} (h : Mid n nb np b C M) :
    (x_X7_clock_54 (some b) C).1 = 0 ∧ (x_X7_clock_54 (some b) C).2.1 = (x_X8_clock_66 M).1 ∧ I2 n nb np (x_X7_clock_54 (some b) C).2.2 (x_X8_clock_66 M).2 ∧ ok_X7_clock_54 (some b) C ∧ ok_X8_clock_66 M ∧ (x_X8_clock_66 M).2 = M := by
  obtain ⟨m1, m2⟩ := mid_end h
  obtain ⟨hA, hB, hZ, hb, hO1, hR, c0, c1, hGb, hO, hG, hK, hs⟩ := h
  have hnb := hA.2.2.1
  have v2 : vp_in (nI b) 80 := vp_in_nI (by omega) (by omega)
  obtain ⟨b1, b2, b3, b4, b5, b6, b7, b8, b9, b10, b11, b12, b13, b14, b15, b16, b17, b18, b19⟩ := m1.2.1 b hb
  have gb : ¬ nI b = -1 := nI_m1 (by omega)
  have z1 : ¬ (1 : Int32) = 0 := by decide
  have hx : (x_X8_clock_66 M).2 = M ∧ ok_X8_clock_66 M ∧ (x_X8_clock_66 M).1 = x_X0_secondsLeft b (x_X7_clearPisteIfOver b C) := by
    unfold x_X8_clock_66 ok_X8_clock_66 x_X8_clock_100 ok_X8_clock_100 x_X0_secondsLeft x_X0_isOver x_X0_timeLimit
    rw [b15, b17, b18]
    rcases hs with ⟨s1, s2, -⟩ | ⟨s1, s2, -⟩
    · rw [s2, nI_clamp (by omega), s1]
      simp only [gb, v2, ↓reduceIte, true_and, and_true, and_self, ite_self]
      by_cases cd : gV M 28 0 b = -1
      · simp only [cd, ↓reduceIte]; exact ⟨trivial, trivial⟩
      · simp only [cd, ↓reduceIte]; exact ⟨trivial, trivial⟩
    · rw [s2]
      simp only [s1, z1, ↓reduceIte]
      exact ⟨trivial, trivial, trivial⟩
  unfold x_X7_clock_54 ok_X7_clock_54 x_X7_clock_59 ok_X7_clock_59
  simp only [oc]
  rw [hx.1, hx.2.2]
  exact ⟨trivial, rfl, m1, ⟨m2, trivial⟩, hx.2.1, rfl⟩
theorem clock_run {n nb np b y : Nat} (hy : y ≤ 240) : ∀ (k i : Nat) (C M : St), y - i < k → i ≤ y → Mid n nb np b C M → gV M 8 0 31 = 0 →
    (x_X7_clock_28 k (nI y) (some b) (nI i) C).1 = 0 ∧ (x_X7_clock_28 k (nI y) (some b) (nI i) C).2.1 = (x_X8_clock_43 k (nI y) (nI i) M).1 ∧ I2 n nb np (x_X7_clock_28 k (nI y) (some b) (nI i) C).2.2 (x_X8_clock_43 k (nI y) (nI i) M).2 ∧ ok_X7_clock_28 k (nI y) (some b) (nI i) C ∧ ok_X8_clock_43 k (nI y) (nI i) M ∧ gV (x_X8_clock_43 k (nI y) (nI i) M).2 8 0 31 = 0
  | 0, i, _, _, hk, _, _, _ => absurd hk (Nat.not_lt_zero _)
  | k + 1, i, C, M, hk, hi, h, th => by
    have ih := clock_run (n := n) (nb := nb) (np := np) (b := b) hy k
    unfold x_X7_clock_28 ok_X7_clock_28 x_X8_clock_43 ok_X8_clock_43
    obtain ⟨f1, f2, f3, f4, f5, f6⟩ := clock_fin h
    by_cases ci : y ≤ i
    · have hl := nI_le ci (show i < 2 ^ 31 by omega)
      simp only [hl, ↓reduceIte]
      exact ⟨f1, f2, f3, f4, f5, by rw [f6]; exact th⟩
    have hge := nI_ge (show i < y by omega) (show y < 2 ^ 31 by omega)
    simp only [hge, ↓reduceIte, oc]
    have hb := h.2.2.2.1
    have hnb := h.1.2.2.1
    have hwc : gV C 0 b 5 = gV M 25 0 b := (h.2.1 b hb).2.2.2.2.2.2.2.2.2.2.2.2.2.2.1
    have z1 : ¬ (1 : Int32) = 0 := by decide
    have gb : ¬ nI b = -1 := nI_m1 (by omega)
    have hs := h.2.2.2.2.2.2.2.2.2.2.2.2
    unfold x_X0_isOver
    rw [hwc]
    by_cases hw : gV M 25 0 b = -1
    · have s2 : gV M 8 0 4 = nI b := by
        rcases hs with ⟨-, s2, -⟩ | ⟨s1, -⟩
        · exact s2
        · exact absurd hw s1
      obtain ⟨w1, w2⟩ := second_eq h hw
      simp only [hw, s2, gb, ↓reduceIte]
      unfold x_X7_clock_48 ok_X7_clock_48 x_X8_clock_60 ok_X8_clock_60
      rw [nI_1]
      obtain ⟨i1, i2, i3, i4, i5, i6⟩ := ih (i + 1) (x_X0_passSecond b C) (x_X8_second M) (by omega) (by omega) w1 (by rw [second_Ag M 8 0 31 rfl]; exact th)
      exact ⟨i1, i2, i3, i4, ⟨w2, i5⟩, i6⟩
    · have s2 : gV M 8 0 4 = -1 := by
        rcases hs with ⟨s1, -⟩ | ⟨-, s2, -⟩
        · exact absurd s1 hw
        · exact s2
      simp only [hw, s2, z1, ↓reduceIte]
      exact ⟨f1, f2, f3, f4, f5, by rw [f6]; exact th⟩
theorem cr_clock : CR_clock := by
  intro n nb np C M a1 hn hI
  obtain ⟨hA, hB, hZ, ⟨hP1, hP2⟩, hF, hO, hG, hK⟩ := id hI
  have hnb := hA.2.2.1
  have z1 : ¬ (1 : Int32) ≤ 0 := by decide
  have z2 : ¬ (2 : Int32) ≤ 0 := by decide
  have z0 : (0 : Int32) ≤ 0 := by decide
  have n1 : ¬ (1 : Nat) = 0 := by decide
  unfold x_X7_clock ok_X7_clock x_X8_clock ok_X8_clock x_X8_thrown x_X7_boutOnPiste
  rw [in_eq a1 1 240 C M]
  by_cases c2 : x_X8_isIn a1 1 240 M = 0
  · simp only [c2, ↓reduceIte]
    unfold x_X8_clock_29 ok_X8_clock_29
    rw [if_neg z1, if_neg z1]
    obtain ⟨k1, k2, k3, k4, k5⟩ := failS (v8 := (0 : Int32)) hI (e := 2) (by decide) (Or.inr (Or.inr (Or.inl ⟨rfl, by decide⟩))) (s0 := 1) (a := 2) (b := 1) (d := 0) rfl trivial rfl
    exact ⟨trivial, k1, trivial, k3, fun h => rfl, k5⟩
  obtain ⟨y1, y2⟩ := in_of c2
  obtain ⟨y, hy, rfl⟩ : ∃ y : Nat, y ≤ 240 ∧ a1 = nI y := by
    have hlt : ¬ a1 < 0 := by
      intro h; apply y1
      rw [Int32.lt_iff_toInt_lt] at h ⊢
      have e0 : ((0 : Int32)).toInt = 0 := by decide
      have e1 : ((1 : Int32)).toInt = 1 := by decide
      omega
    obtain ⟨j, hj, rfl⟩ := nI_of hlt
    have e : (240 : Int32) = nI 240 := by decide
    rw [e] at y2
    exact ⟨j, by have := mt (nI_ltI (a := 240) (b := j) (by omega) (by omega)).mpr y2; omega, rfl⟩
  simp only [c2, ↓reduceIte]
  rcases hP2 with ⟨g1, g2, g3⟩ | ⟨b, hb, g1, g2, g3, g4, g5, g6⟩
  · rw [g1, g2]
    simp only [oc, ↓reduceIte, n1]
    unfold x_X8_clock_29 ok_X8_clock_29
    rw [if_neg z2, if_neg z2]
    obtain ⟨k1, k2, k3, k4, k5⟩ := failS (v8 := (0 : Int32)) hI (e := 1) (by decide) (Or.inr (Or.inl ⟨rfl, by decide⟩)) (s0 := 2) (a := 2) (b := 1) (d := 0) rfl trivial rfl
    exact ⟨trivial, k1, trivial, k3, fun h => h.elim, k5⟩
  · have gb : ¬ nI b = -1 := nI_m1 (by omega)
    rw [g1, g2, if_neg gb, if_neg gb]
    simp only [oc, ↓reduceIte]
    have hI1 : I2 n nb np C (sV M 8 0 31 0) := I2_th 0 hI
    have hm := mid_of hI1 hb g1
    unfold x_X8_clock_29 ok_X8_clock_29
    rw [if_pos z0, if_pos z0]
    obtain ⟨r1, r2, r3, r4, r5, r6⟩ := clock_run hy fu 0 C (sV M 8 0 31 0) (by rw [fuE]; omega) (by omega) hm (by simp [gV_sV])
    have r1 : (x_X7_clock_28 fu (nI y) (some b) 0 C).1 = 0 := r1
    have r2 : (x_X7_clock_28 fu (nI y) (some b) 0 C).2.1 = (x_X8_clock_43 fu (nI y) 0 (sV M 8 0 31 0)).1 := r2
    have r3 : I2 n nb np (x_X7_clock_28 fu (nI y) (some b) 0 C).2.2 (x_X8_clock_43 fu (nI y) 0 (sV M 8 0 31 0)).2 := r3
    have r4 : ok_X7_clock_28 fu (nI y) (some b) 0 C := r4
    have r5 : ok_X8_clock_43 fu (nI y) 0 (sV M 8 0 31 0) := r5
    have r6 : gV (x_X8_clock_43 fu (nI y) 0 (sV M 8 0 31 0)).2 8 0 31 = 0 := r6
    rw [r1]
    exact ⟨r4, Or.inl rfl, r5, r6, fun _ => r2, I2_up r3⟩
end
