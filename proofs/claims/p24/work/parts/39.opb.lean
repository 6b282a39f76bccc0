noncomputable section
def ex6 (e : Nat) : Prop := True
theorem stp {C M : St} {by_ since par pAt t s kd : Int32} {i : Nat} (hi : i < 24) (hR : RW C M by_ since par pAt) (hs : s = 0 ∨ s = 1) (hk : ∃ a : Nat, a ≤ 6 ∧ kd = nI a) (hk2 : gV M 32 0 i = kd) (ht : gV M 33 0 i = t) : StepR C M (x_X6_take s kd t C) by_ since par pAt s i := by
  obtain ⟨a, ha, rfl⟩ := hk
  rcases hs with rfl | rfl
  · match a, ha with
    | 0, _ => exact stp_0_0 hi hR hk2 ht
    | 1, _ => exact stp_1_0 hi hR hk2 ht
    | 2, _ => exact stp_2_0 hi hR hk2 ht
    | 3, _ => exact stp_3_0 hi hR hk2 ht
    | 4, _ => exact stp_4_0 hi hR hk2 ht
    | 5, _ => exact stp_5_0 hi hR hk2 ht
    | 6, _ => exact stp_6_0 hi hR hk2 ht
    | a + 7, h => exact absurd h (by omega)
  · match a, ha with
    | 0, _ => exact stp_0_1 hi hR hk2 ht
    | 1, _ => exact stp_1_1 hi hR hk2 ht
    | 2, _ => exact stp_2_1 hi hR hk2 ht
    | 3, _ => exact stp_3_1 hi hR hk2 ht
    | 4, _ => exact stp_4_1 hi hR hk2 ht
    | 5, _ => exact stp_5_1 hi hR hk2 ht
    | 6, _ => exact stp_6_1 hi hR hk2 ht
    | a + 7, h => exact absurd h (by omega)
theorem stp7 {C M : St} {by_ since par pAt s : Int32} {i : Nat} (hi : i < 24) (hR : RW C M by_ since par pAt) (hk : gV M 32 0 i = 7) : StepR C M C by_ since par pAt s i := by
  have hv : vp_in (nI i) 24 := vp_in_nI hi (by omega)
  have hi2 : i < 2 ^ 31 := by omega
  refine ⟨by_, since, par, pAt, M, fun K a1 => ?_, fun J a1 hj => ?_, hR, Ag.rf _ _⟩
  · simp [RE, x_X8_rights_49, x_X8_rights_64, x_X8_rights_345, hk, nI_clamp hi2]
  · simp [OE, ok_X8_rights_49, ok_X8_rights_64, ok_X8_rights_345, hk, nI_clamp hi2, hv]; exact hj
theorem rights_run {C0 M0 : St} {c e : Nat} (h24 : c ≤ 24) (he : e ≤ c) (hc1 : gV C0 4 0 6 = nI c) (hE : ∀ k, k < c → qE C0 M0 k) : ∀ (k i : Nat) (C M : St) (by_ since par pAt : Int32), e - i < k → i ≤ e → Ag pc6 C0 C → Ag pm30 M0 M → RW C M by_ since par pAt →
    (x_X4_holderAhead_9 k (nI e) (nI i) C).1 = (x_X8_rights_18 k (nI e) by_ since par pAt (nI i) M).1 ∧ ok_X4_holderAhead_9 k (nI e) (nI i) C ∧ ok_X8_rights_18 k (nI e) by_ since par pAt (nI i) M ∧ ((x_X4_holderAhead_9 k (nI e) (nI i) C).1 = -1 ∨ (x_X4_holderAhead_9 k (nI e) (nI i) C).1 = 0 ∨ (x_X4_holderAhead_9 k (nI e) (nI i) C).1 = 1) ∧ Ag pc6 C0 (x_X4_holderAhead_9 k (nI e) (nI i) C).2 ∧ Ag pm30 M0 (x_X8_rights_18 k (nI e) by_ since par pAt (nI i) M).2
  | 0, i, _, _, _, _, _, _, hk, _, _, _, _ => absurd hk (Nat.not_lt_zero _)
  | k + 1, i, C, M, by_, since, par, pAt, hk, hi, hC, hM, hR => by
    have ih := rights_run h24 he hc1 hE k
    unfold x_X4_holderAhead_9 ok_X4_holderAhead_9 x_X8_rights_18 ok_X8_rights_18 x_X4_holderAhead_71 ok_X4_holderAhead_71
    by_cases ci : e ≤ i
    · have hl := nI_le ci (show i < 2 ^ 31 by omega)
      simp only [hl, ↓reduceIte]
      exact ⟨hR.1, trivial, trivial, by rw [hR.1]; exact hR.2.1, hC, hM⟩
    have hi' : i < e := by omega
    have hic : i < c := by omega
    have hv : vp_in (nI i) 24 := vp_in_nI (by omega) (by omega)
    have hge := nI_ge hi' (show e < 2 ^ 31 by omega)
    have hgc := nI_ge hic (show c < 2 ^ 31 by omega)
    have hc1' : gV C 4 0 6 = nI c := by rw [hC 4 0 6 rfl]; exact hc1
    have hent := isEntry_pos hc1' h24 hic
    have z1 : ¬ (1 : Int32) = 0 := by decide
    obtain ⟨q1, q2, q3, q4, q5⟩ := hE i hic
    have e11 : gV C 11 0 i = gV M 31 0 i := by rw [hC 11 0 i rfl, hM 31 0 i rfl]; exact q1
    have e13 : gV C 13 0 i = gV M 33 0 i := by rw [hC 13 0 i rfl, hM 33 0 i rfl]; exact q3
    have es : gV M 31 0 i = 0 ∨ gV M 31 0 i = 1 := by rw [hM 31 0 i rfl]; exact q2
    simp only [hge, hc1', hgc, hent, z1, ↓reduceIte, nI_clamp (show i < 2 ^ 31 by omega), hv, true_and]
    have stepdone : ∀ C1, StepR C M C1 by_ since par pAt (gV M 31 0 i) i → Ag pc6 C0 C1 →
        (x_X4_holderAhead_65 (x_X4_holderAhead_9 k) (nI e) (nI i) C1).1 = (RE (x_X8_rights_18 k) (nI e) by_ since par pAt (nI i) (gV M 31 0 i) M).1 ∧ ok_X4_holderAhead_65 (ok_X4_holderAhead_9 k) (nI e) (nI i) C1 ∧ OE (ok_X8_rights_18 k) (nI e) by_ since par pAt (nI i) (gV M 31 0 i) M ∧ ((x_X4_holderAhead_65 (x_X4_holderAhead_9 k) (nI e) (nI i) C1).1 = -1 ∨ (x_X4_holderAhead_65 (x_X4_holderAhead_9 k) (nI e) (nI i) C1).1 = 0 ∨ (x_X4_holderAhead_65 (x_X4_holderAhead_9 k) (nI e) (nI i) C1).1 = 1) ∧ Ag pc6 C0 (x_X4_holderAhead_65 (x_X4_holderAhead_9 k) (nI e) (nI i) C1).2 ∧ Ag pm30 M0 (RE (x_X8_rights_18 k) (nI e) by_ since par pAt (nI i) (gV M 31 0 i) M).2 := by
      intro C1 hst hC1
      obtain ⟨b', s', p', pa', M1, w1, w2, w3, w4⟩ := hst
      obtain ⟨i1, i2, i3, i4, i5, i6⟩ := ih (i + 1) C1 M1 b' s' p' pa' (by omega) (by omega) hC1 (Ag_tr hM w4) w3
      unfold x_X4_holderAhead_65 ok_X4_holderAhead_65
      rw [w1, nI_1]
      exact ⟨i1, i2, w2 _ _ (by rw [nI_1]; exact i3), i4, i5, i6⟩
    have hRE : (if gV M 8 0 30 = 1 - gV M 31 0 i then x_X8_rights_49 (x_X8_rights_18 k) (nI e) by_ since par pAt (nI i) (gV M 31 0 i) 1 M else x_X8_rights_49 (x_X8_rights_18 k) (nI e) by_ since par pAt (nI i) (gV M 31 0 i) 0 M) = RE (x_X8_rights_18 k) (nI e) by_ since par pAt (nI i) (gV M 31 0 i) M := rfl
    have hOE : (if gV M 8 0 30 = 1 - gV M 31 0 i then ok_X8_rights_49 (ok_X8_rights_18 k) (nI e) by_ since par pAt (nI i) (gV M 31 0 i) 1 M else ok_X8_rights_49 (ok_X8_rights_18 k) (nI e) by_ since par pAt (nI i) (gV M 31 0 i) 0 M) = OE (ok_X8_rights_18 k) (nI e) by_ since par pAt (nI i) (gV M 31 0 i) M := rfl
    rw [hRE, hOE]
    rcases q5 with ⟨x1, x2, -⟩ | ⟨x1, x2⟩
    · have y1 : gV C 12 0 i = -1 := by rw [hC 12 0 i rfl]; exact x1
      have y2 : gV M 32 0 i = 7 := by rw [hM 32 0 i rfl]; exact x2
      simp only [y1, ↓reduceIte]
      exact stepdone C (stp7 (by omega) hR y2) hC
    · have y1 : gV C 12 0 i = gV M 32 0 i := by rw [hC 12 0 i rfl, hM 32 0 i rfl]; exact x1
      have y2 : ∃ a : Nat, a ≤ 6 ∧ gV M 32 0 i = nI a := by rw [hM 32 0 i rfl]; exact x2
      have y3 : ¬ gV C 12 0 i = -1 := by
        obtain ⟨a, ha, e⟩ := y2
        rw [y1, e]; intro e
        have := nI_toInt (n := a) (by omega); rw [e] at this
        have h2 : ((-1 : Int32)).toInt = -1 := by decide
        omega
      simp only [y3, ↓reduceIte]
      rw [e11, e13, y1]
      exact stepdone _ (stp (by omega) hR es y2 rfl rfl) (Ag_tr hC (take_Ag _ _ _ _))
theorem rights_eq {C M : St} {c e : Nat} (h24 : c ≤ 24) (he : e ≤ c) (hc1 : gV C 4 0 6 = nI c) (hE : ∀ k, k < c → qE C M k) :
    (x_X4_holderAhead (nI e) C).1 = (x_X8_rights (nI e) M).1 ∧ ok_X4_holderAhead (nI e) C ∧ ok_X8_rights (nI e) M ∧ ((x_X4_holderAhead (nI e) C).1 = -1 ∨ (x_X4_holderAhead (nI e) C).1 = 0 ∨ (x_X4_holderAhead (nI e) C).1 = 1) ∧ Ag pc6 C (x_X4_holderAhead (nI e) C).2 ∧ Ag pm30 M (x_X8_rights (nI e) M).2 := by
  unfold x_X4_holderAhead ok_X4_holderAhead x_X8_rights ok_X8_rights x_X4_holderAhead_7 ok_X4_holderAhead_7 x_X6_forget
  refine rights_run h24 he hc1 hE fu 0 _ _ (-1) 0 (-1) 0 (by rw [fuE]; omega) (by omega) ?_ ?_ ?_
  · repeat first | exact Ag.rf _ _ | refine Ag_sV _ _ _ _ rfl ?_
  · repeat first | exact Ag.rf _ _ | refine Ag_sV _ _ _ _ rfl ?_
  · simp [RW, gV_sV]
/-- a change of the right of way alone -/
theorem I2_rw {n nb np : Nat} {C M C' M' : St} (hI : I2 n nb np C M) (hC : Ag pc6 C C') (hM : Ag (fun c k => !(c == 8 && (k == 30 || k == 31))) M M') (hR : ∀ a k, gR C' a k = gR C a k) (hL : gL C' 3 0 = gL C 3 0) (hLM : gL M' 8 1 = gL M 8 1) : I2 n nb np C' M' := by
  obtain ⟨hA, hB, hZ, hP, hF, hO, hG, hK⟩ := hI
  refine ⟨?_, fun i hi => qB_t hC hM (by simp [pc6]) np i (hB i hi), fun i hi => qZ_t hC hM (by simp) i (hZ i hi), qP_t hC hM (hR 7 8) (by simp [pc6]) n nb np hP, qF_t hC hM (by simp [pc6]) hF, fun j hj => qO_t hC hM (by simp [pc6]) nb j (hO j hj), fun j hj => by rw [hM 37 0 j rfl]; exact hG j hj, qK_t hC hM (by simp [pc6]) hK⟩
  unfold qA at hA ⊢
  rw [hC 7 0 5 rfl, hC 7 0 6 rfl, hC 7 0 7 rfl, hC 7 0 9 rfl, hM 8 0 0 rfl, hM 8 0 3 rfl, hM 8 0 23 rfl, hM 8 0 2 rfl, hL, hLM]
  simp only [hR]
  exact hA
theorem AgL_R {γ γ' : St} (h : AgL γ γ') (x j : Nat) : gR γ' x j = gR γ x j := by unfold gR; rw [show γ'.2 = γ.2 from h]
theorem AgL_L {γ γ' : St} (h : AgL γ γ') (x j : Nat) : gL γ' x j = gL γ x j := by unfold gL; rw [show γ'.2 = γ.2 from h]
theorem holder_rest (a : Int32) (γ : St) : (∀ x j, gR (x_X4_holderAhead a γ).2 x j = gR γ x j) ∧ gL (x_X4_holderAhead a γ).2 3 0 = gL γ 3 0 := ⟨fun x j => AgL_R (fl_X4_holderAhead (AgL.rfl γ)) x j, AgL_L (fl_X4_holderAhead (AgL.rfl γ)) 3 0⟩
theorem rights_L (y : Int32) (M : St) : gL (x_X8_rights y M).2 8 1 = gL M 8 1 := AgL_L (fl_X8_rights (AgL.rfl M)) 8 1
theorem cr_holder : CR_holder := by
  intro n nb np C M hn hI
  obtain ⟨hA, hB, hZ, hP, ⟨c, h24, hc1, hc2, hE⟩, hO, hG, hK⟩ := id hI
  unfold x_X7_holder ok_X7_holder x_X8_holder ok_X8_holder
  have hM0 : Ag pm30 (sV M 8 0 31 0) (sV M 8 0 31 0) := Ag.rf _ _
  have hE' : ∀ k, k < c → qE C (sV M 8 0 31 0) k := fun k hk => qE_th (hE k hk)
  obtain ⟨r1, r2, r3, r4, r5, r6⟩ := rights_eq (M := sV M 8 0 31 0) h24 (Nat.le_refl c) hc1 hE'
  rw [hc1, hc2]
  refine ⟨⟨r2, trivial⟩, ⟨r3, trivial⟩, r1, I2_up (I2_rw hI r5 ?_ (holder_rest _ _).1 (holder_rest _ _).2 (rights_L _ _))⟩
  intro a b k h
  refine (r6 a b k ?_).trans ?_
  · unfold pm30
    simp at h ⊢
    first | (intro h8; exact (h h8).1) | exact fun h8 => (h h8).1 | (rcases h with h | h; exact Or.inl h; exact Or.inr h.1)
  · rw [gV_sV, if_neg]
    rintro ⟨rfl, rfl, -⟩
    simp at h
theorem reg_prop {C : St} {c : Nat} {s w : Int32} (h24 : c ≤ 24) (hc1 : gV C 4 0 6 = nI c) : ∀ (k i : Nat) (a : Int32), c - i < k → i ≤ c →
    (x_X4_registered_5 k s w a (nI i) C = -1 ∨ ∃ f : Nat, f < c ∧ x_X4_registered_5 k s w a (nI i) C = nI f ∧ ¬ x_X4_couldRegister (nI f) w C = 0 ∧ gV C 11 0 f = s)
  | 0, i, a, hk, _ => absurd hk (Nat.not_lt_zero _)
  | k + 1, i, a, hk, hi => by
    have ih := reg_prop (s := s) (w := w) h24 hc1 k
    unfold x_X4_registered_5
    rw [hc1]
    by_cases ci : c ≤ i
    · rw [if_pos (nI_le ci (by omega))]; exact Or.inl rfl
    have hi' : i < c := by omega
    have z1 : ¬ (1 : Int32) = 0 := by decide
    have nx : ∀ b, x_X4_registered_79 (x_X4_registered_5 k) s w b (nI i) C = x_X4_registered_5 k s w b (nI (i + 1)) C := by
      intro b; unfold x_X4_registered_79; rw [nI_1]
    rw [if_neg (nI_ge hi' (by omega)), isEntry_pos hc1 h24 hi', if_neg z1]
    by_cases cc : x_X4_couldRegister (nI i) w C = 0
    · rw [if_pos cc, nx]; exact ih (i + 1) a (by omega) (by omega)
    rw [if_neg cc]
    have h44 : ∀ b, (x_X4_registered_44 (x_X4_registered_5 k) s w (nI i) b C = -1 ∨ ∃ f : Nat, f < c ∧ x_X4_registered_44 (x_X4_registered_5 k) s w (nI i) b C = nI f ∧ ¬ x_X4_couldRegister (nI f) w C = 0 ∧ gV C 11 0 f = s) := by
      intro b
      unfold x_X4_registered_44
      rw [nI_clamp (by omega), nx]
      by_cases cs : gV C 11 0 i = s
      · rw [if_pos cs]
        split
        · exact ih (i + 1) b (by omega) (by omega)
        · exact Or.inr ⟨i, hi', rfl, cc, cs⟩
      · rw [if_neg cs]; exact ih (i + 1) b (by omega) (by omega)
    split
    · exact h44 _
    · exact h44 _
theorem could_k {C M : St} {c f : Nat} {w : Int32} (h24 : c ≤ 24) (hc1 : gV C 4 0 6 = nI c) (hf : f < c) (hq : qE C M f) (h : ¬ x_X4_couldRegister (nI f) w C = 0) : gV C 15 0 f = gV M 35 0 f := by
  have z1 : ¬ (1 : Int32) = 0 := by decide
  obtain ⟨-, -, -, -, hk⟩ := hq
  rcases hk with ⟨-, -, -, e⟩ | ⟨e1, a, ha, e2⟩
  · exact e
  · exfalso
    have nm : ¬ nI a = -1 := by
      intro e
      have := nI_toInt (n := a) (by omega); rw [e] at this
      have h2 : ((-1 : Int32)).toInt = -1 := by decide
      omega
    apply h
    unfold x_X4_couldRegister x_X4_couldRegister_31
    rw [isEntry_pos hc1 h24 hf, nI_clamp (by omega), e1, e2, if_neg z1, if_neg nm]
/-- what is registered for a side, on the piste b -/
theorem reg_eq {C M : St} {c b nb : Nat} {s : Int32} (hs : s = 0 ∨ s = 1) (h24 : c ≤ 24) (hc1 : gV C 4 0 6 = nI c) (hc2 : gV M 8 0 17 = nI c) (hE : ∀ k, k < c → qE C M k) (hb : b < nb) (hnb : nb ≤ 80) (hp : gV M 8 0 4 = nI b) (hw : gV C 0 b 2 = gV M 22 0 b) :
    x_X4_registered s (gV C 0 b 2) C = x_X8_registered s M ∧ ok_X4_registered s (gV C 0 b 2) C ∧ ok_X8_registered s M ∧ (x_X8_registered s M = -1 ∨ ∃ f : Nat, f < c ∧ x_X8_registered s M = nI f ∧ gV C 15 0 f = gV M 35 0 f ∧ gV M 31 0 f = s) := by
  have gb : ¬ gV M 8 0 4 = -1 := by
    rw [hp]; intro e
    have := nI_toInt (n := b) (by omega); rw [e] at this
    have h2 : ((-1 : Int32)).toInt = -1 := by decide
    omega
  unfold x_X4_registered ok_X4_registered x_X8_registered ok_X8_registered
  rw [if_neg gb, if_neg gb, hp, nI_clamp (by omega), hw]
  have hv : vp_in (nI b) 80 := vp_in_nI (by omega) (by omega)
  have hf : c - 0 < fu := by rw [fuE]; omega
  have fin : (x_X4_registered_5 fu s (gV M 22 0 b) (-1) 0 C = -1 ∨ ∃ f : Nat, f < c ∧ x_X4_registered_5 fu s (gV M 22 0 b) (-1) 0 C = nI f ∧ gV C 15 0 f = gV M 35 0 f ∧ gV M 31 0 f = s) := by
    rcases reg_prop (s := s) (w := gV M 22 0 b) h24 hc1 fu 0 (-1) hf (by omega) with h | ⟨f, h1, h2, h3, h4⟩
    · exact Or.inl h
    · exact Or.inr ⟨f, h1, h2, could_k h24 hc1 h1 (hE f h1) h3, by rw [← (hE f h1).1]; exact h4⟩
  rcases hs with rfl | rfl
  · obtain ⟨⟨r1, r2, r3⟩, -⟩ := reg_run0 (w := gV M 22 0 b) h24 hc1 hc2 hE fu 0 (-1) hf (by omega) (Or.inl rfl)
    have r1 : x_X4_registered_5 fu 0 (gV M 22 0 b) (-1) 0 C = x_X8_registered_28 fu 0 (gV M 22 0 b) (-1) (-1) 0 M := r1
    rw [r1] at fin
    exact ⟨r1, r2, ⟨hv, r3⟩, fin⟩
  · obtain ⟨⟨r1, r2, r3⟩, -⟩ := reg_run1 (w := gV M 22 0 b) h24 hc1 hc2 hE fu 0 (-1) hf (by omega) (Or.inl rfl)
    have r1 : x_X4_registered_5 fu 1 (gV M 22 0 b) (-1) 0 C = x_X8_registered_28 fu 1 (gV M 22 0 b) (-1) (-1) 0 M := r1
    rw [r1] at fin
    exact ⟨r1, r2, ⟨hv, r3⟩, fin⟩
theorem tAt_m1 (C : St) : x_X4_targetAt (-1) C = -1 ∧ ok_X4_targetAt (-1) C := by
  unfold x_X4_targetAt ok_X4_targetAt x_X4_isEntry x_X4_isEntry_22
  have e : (-1 : Int32) < 0 := by decide
  simp only [e, ↓reduceIte, and_self]
theorem nI_m1 {a : Nat} (h : a < 2 ^ 31) : ¬ nI a = -1 := by
  intro e
  have := nI_toInt (n := a) h; rw [e] at this
  have h2 : ((-1 : Int32)).toInt = -1 := by decide
  omega
theorem cr_lamp : CR_lamp := by
  intro n nb np C M a1 hn hI
  obtain ⟨hA, hB, hZ, ⟨hP1, hP2⟩, ⟨c, h24, hc1, hc2, hE⟩, hO, hG, hK⟩ := id hI
  unfold x_X7_lamp ok_X7_lamp x_X8_lamp ok_X8_lamp x_X8_thrown
  rw [side_eq a1 C M]
  by_cases c1 : x_X8_isSide a1 M = 0
  · simp only [c1, ↓reduceIte]
    exact ⟨trivial, failS hI (e := 2) (by decide) (Or.inr (Or.inr (Or.inl ⟨rfl, by decide⟩))) (s0 := 1) rfl trivial rfl⟩
  have hs := side_01 (C := C) (by rw [side_eq a1 C M]; exact c1)
  simp only [c1, ↓reduceIte]
  unfold x_X8_lamp_13 ok_X8_lamp_13
  have z0 : (0 : Int32) ≤ 0 := by decide
  rw [if_pos z0, if_pos z0]
  rcases hP2 with ⟨g1, g2, g3⟩ | ⟨b, hb, g1, g2, g3⟩
  · have e : x_X8_registered a1 (sV M 8 0 31 0) = -1 := by
      unfold x_X8_registered
      rw [if_pos]; exact gth g2 (by decide)
    have o : ok_X8_registered a1 (sV M 8 0 31 0) := by
      unfold ok_X8_registered
      rw [if_pos]; trivial; exact gth g2 (by decide)
    rw [g1, e, if_pos rfl, if_pos rfl]
    exact ⟨trivial, Or.inl rfl, ⟨o, trivial⟩, rfl, fun _ => rfl, I2_up (I2_th 0 hI)⟩
  · have hE' : ∀ k, k < c → qE C (sV M 8 0 31 0) k := fun k hk => qE_th (hE k hk)
    obtain ⟨r1, r2, r3, r4⟩ := reg_eq (M := sV M 8 0 31 0) hs h24 hc1 (gth hc2 (by decide)) hE' hb hA.2.2.1 (gth g2 (by decide)) ((hB b hb).2.2.2.2.2.2.2.2.2.1.trans (gth rfl (by omega)).symm)
    rw [g1]
    show (ok_X4_registered a1 (gV C 0 b 2) C ∧ _ ∧ True) ∧ eIn 0 1 0 ((0 : Nat), x_X4_targetAt (x_X4_registered a1 (gV C 0 b 2) C) C, C).1 ∧ _
    simp only [oc]
    rw [r1]
    rcases r4 with h | ⟨f, hf, h, ht, -⟩
    · rw [h, if_pos rfl, if_pos rfl, (tAt_m1 C).1]
      exact ⟨⟨r2, (tAt_m1 C).2, trivial⟩, Or.inl rfl, ⟨r3, trivial⟩, rfl, fun _ => rfl, I2_up (I2_th 0 hI)⟩
    · rw [h, if_neg (nI_m1 (by omega)), if_neg (nI_m1 (by omega)), targetAt_k hc1 h24 hf, nI_clamp (by omega)]
      exact ⟨⟨r2, ok_targetAt h24 hf, trivial⟩, Or.inl rfl, ⟨r3, vp_in_nI (by omega) (by omega), trivial⟩, rfl, fun _ => ht.trans (gth rfl (by omega)), I2_up (I2_th 0 hI)⟩
theorem sideIn_rng (i j f : Int32) (M : St) : x_X8_sideIn i j f M = -1 ∨ x_X8_sideIn i j f M = 0 ∨ x_X8_sideIn i j f M = 1 := by
  unfold x_X8_sideIn x_X8_sideIn_74 x_X8_sideIn_75
  repeat' split
  all_goals first | exact Or.inl rfl | exact Or.inr (Or.inl rfl) | exact Or.inr (Or.inr rfl)
theorem sideIn_ok {i j : Nat} (hi : i < 80) (hj : j < 6) (f : Int32) (M : St) : ok_X8_sideIn (nI i) (nI j) f M := by
  have e2 : (2 : Int32) = nI 2 := by decide
  have h0 : ∀ a b c s M, ok_X8_sideIn_75 a b c s M := by
    intro a b c s M; unfold ok_X8_sideIn_75; repeat' split
    all_goals trivial
  have h1 : ∀ a b c M, ok_X8_sideIn_74 a b c M := by intro a b c M; exact h0 _ _ _ _ _
  have v1 : vp_in (2 * nI i) 160 := by rw [e2, pk_mul]; exact vp_in_nI (by omega) (by omega)
  have v2 : vp_in (2 * nI i + 1) 160 := by rw [e2, pk_mul, nI_1]; exact vp_in_nI (by omega) (by omega)
  have v3 : vp_in (nI i) 80 := vp_in_nI hi (by omega)
  have v4 : vp_in (nI j) 6 := vp_in_nI hj (by omega)
  unfold ok_X8_sideIn
  simp only [v1, v2, v3, v4, true_and, h0, h1, ite_self]
theorem a3_small {w : Int32} (h : ∃ a : Nat, a < 4 ∧ w = nI a) : w = 0 ∨ w = 1 ∨ w = 2 ∨ w = 3 := by
  obtain ⟨a, ha, rfl⟩ := h
  match a, ha with
  | 0, _ => exact Or.inl rfl
  | 1, _ => exact Or.inr (Or.inl rfl)
  | 2, _ => exact Or.inr (Or.inr (Or.inl rfl))
  | 3, _ => exact Or.inr (Or.inr (Or.inr rfl))
  | a + 4, h => exact absurd h (by omega)
theorem tells_run {M : St} {nb j : Nat} {f w : Int32} (hnb : nb ≤ 80) (hj : j < 6) (h3 : gV M 8 0 3 = nI nb) : ∀ (k i : Nat) (a : Int32), nb - i < k → i ≤ nb →
    x_X8_tells_6 k (nI j) f w a (nI i) M = a + TS M j f w i (nb - i) ∧ ok_X8_tells_6 k (nI j) f w a (nI i) M
  | 0, i, a, hk, _ => absurd hk (Nat.not_lt_zero _)
  | k + 1, i, a, hk, hi => by
    have ih := tells_run (f := f) (w := w) hnb hj h3 k
    unfold x_X8_tells_6 ok_X8_tells_6
    rw [h3]
    by_cases ci : nb ≤ i
    · have e : nb - i = 0 := by omega
      rw [if_pos (nI_le ci (by omega)), if_pos (nI_le ci (by omega)), e]
      exact ⟨(Int32.add_zero a).symm, trivial⟩
    have hi' : i < nb := by omega
    have hv : vp_in (nI i) 80 := vp_in_nI (by omega) (by omega)
    obtain ⟨m, hm⟩ : ∃ m, nb - i = m + 1 := ⟨nb - i - 1, by omega⟩
    have em : m = nb - (i + 1) := by omega
    rw [if_neg (nI_ge hi' (by omega)), if_neg (nI_ge hi' (by omega)), hm]
    have hTS : TS M j f w i (m + 1) = ct M j f w i + TS M j f w (i + 1) (nb - (i + 1)) := by rw [← em]; rfl
    rw [hTS]
    have hok := sideIn_ok (i := i) (j := j) (by omega) hj f M
    have g93 : ∀ b, x_X8_tells_93 (x_X8_tells_6 k) (nI j) f w b (nI i) M = b + TS M j f w (i + 1) (nb - (i + 1)) ∧ ok_X8_tells_93 (ok_X8_tells_6 k) (nI j) f w b (nI i) M := by
      intro b; unfold x_X8_tells_93 ok_X8_tells_93; rw [nI_1]; exact ih (i + 1) b (by omega) (by omega)
    have g90 : ∀ x b, x_X8_tells_90 (x_X8_tells_6 k) (nI j) f w (nI i) x b M = b + (x + TS M j f w (i + 1) (nb - (i + 1))) ∧ ok_X8_tells_90 (ok_X8_tells_6 k) (nI j) f w (nI i) x b M := by
      intro x b; unfold x_X8_tells_90 ok_X8_tells_90
      obtain ⟨g1, g2⟩ := g93 (b + x)
      rw [g1, Int32.add_assoc]; exact ⟨rfl, g2⟩
    have e2 : (2 : Int32) = nI 2 := by decide
    have v0 : vp_in (2 * nI i + 0) 160 := by rw [Int32.add_zero, e2, pk_mul]; exact vp_in_nI (by omega) (by omega)
    have v1 : vp_in (2 * nI i + 1) 160 := by rw [e2, pk_mul, nI_1]; exact vp_in_nI (by omega) (by omega)
    have g88 : ∀ x b, (x = 0 ∨ x = 1) → x_X8_tells_88 (x_X8_tells_6 k) (nI j) f w (nI i) x (2 * nI i) b M = b + (gV M 21 0 (2 * nI i + x : Int32).toNatClampNeg + TS M j f w (i + 1) (nb - (i + 1))) ∧ ok_X8_tells_88 (ok_X8_tells_6 k) (nI j) f w (nI i) x (2 * nI i) b M := by
      intro x b hx
      unfold x_X8_tells_88 ok_X8_tells_88
      obtain ⟨g1, g2⟩ := g90 (gV M 21 0 (2 * nI i + x : Int32).toNatClampNeg) b
      rw [g1]
      refine ⟨rfl, ?_, g2⟩
      rcases hx with rfl | rfl
      · exact v0
      · exact v1
    unfold ct
    rw [nI_clamp (show i < 2 ^ 31 by omega)]
    by_cases cs : x_X8_sideIn (nI i) (nI j) f M = -1
    · simp only [cs, ↓reduceIte, hok, true_and]
      obtain ⟨g1, g2⟩ := g93 a
      rw [g1]
      exact ⟨by rw [Int32.zero_add], g2⟩
    · have hrng : x_X8_sideIn (nI i) (nI j) f M = 0 ∨ x_X8_sideIn (nI i) (nI j) f M = 1 := by
        rcases sideIn_rng (nI i) (nI j) f M with h | h
        · exact absurd h cs
        · exact h
      have hrng1 : (1 - x_X8_sideIn (nI i) (nI j) f M) = 0 ∨ (1 - x_X8_sideIn (nI i) (nI j) f M) = 1 := by
        rcases hrng with h | h
        · rw [h]; exact Or.inr rfl
        · rw [h]; exact Or.inl rfl
      simp only [cs, ↓reduceIte, hok, true_and, hv]
      by_cases w0 : w = 0
      · subst w0; simp only [↓reduceIte]; exact g90 1 a
      by_cases w1 : w = 1
      · subst w1; simp only [w0, ↓reduceIte]
        by_cases cw : gV M 25 0 i = x_X8_sideIn (nI i) (nI j) f M
        · simp only [cw, ↓reduceIte]; exact g90 1 a
        · simp only [cw, ↓reduceIte]; exact g90 0 a
      by_cases w2 : w = 2
      · subst w2; simp only [w0, w1, ↓reduceIte]; exact g88 _ a hrng
      · simp only [w0, w1, w2, ↓reduceIte]; exact g88 _ a hrng1
theorem tells_eq {M : St} {nb j : Nat} (f w : Int32) (hnb : nb ≤ 80) (hj : j < 6) (h3 : gV M 8 0 3 = nI nb) : x_X8_tells (nI j) f w M = TS M j f w 0 nb ∧ ok_X8_tells (nI j) f w M := by
  unfold x_X8_tells ok_X8_tells
  obtain ⟨g1, g2⟩ := tells_run (f := f) (w := w) hnb hj h3 fu 0 0 (by rw [fuE]; omega) (by omega)
  have g1 : x_X8_tells_6 fu (nI j) f w 0 0 M = 0 + TS M j f w 0 nb := g1
  exact ⟨by rw [g1, Int32.zero_add], g2⟩
/-- one bout changed -/
theorem TS_one {M M' : St} {j b : Nat} {f w : Int32} : ∀ (r i : Nat), i ≤ b → b < i + r → (∀ k, k < i + r → k ≠ b → ct M' j f w k = ct M j f w k) → TS M' j f w i r + ct M j f w b = TS M j f w i r + ct M' j f w b
  | 0, i, h1, h2, _ => absurd h2 (by omega)
  | r + 1, i, h1, h2, h => by
    unfold TS
    by_cases c : i = b
    · subst c
      have hr : ∀ (r' i' : Nat), i < i' → i' + r' ≤ i + (r + 1) → TS M' j f w i' r' = TS M j f w i' r' := by
        intro r'
        induction r' with
        | zero => intro i' _ _; rfl
        | succ r' ih => intro i' g1 g2; unfold TS; rw [h i' (by omega) (by omega), ih (i' + 1) (by omega) (by omega)]
      rw [hr r (i + 1) (by omega) (by omega)]
      ac_rfl
    · have ih := TS_one (M := M) (M' := M') (j := j) (b := b) (f := f) (w := w) r (i + 1) (by omega) (by omega) (fun k hk => h k (by omega))
      rw [h i (by omega) c, Int32.add_assoc, ih, ← Int32.add_assoc]
theorem TS_same {M M' : St} {j : Nat} {f w : Int32} : ∀ (r i : Nat), (∀ k, k < i + r → ct M' j f w k = ct M j f w k) → TS M' j f w i r = TS M j f w i r
  | 0, i, _ => rfl
  | r + 1, i, h => by unfold TS; rw [h i (by omega), TS_same r (i + 1) (fun k hk => h k (by omega))]
theorem bit_tab0 : ∀ f, f < 12 → ∀ h, h < 64 → ∀ l, l < 64 → (decide ((nI (64 * h + l) &&& (1 <<< (nI f &&& 31))) = 0) == decide ((64 * h + l) / 2 ^ f % 2 = 0)) = true := by decide +kernel
theorem bit_tab1 : ∀ f, f < 12 → (decide ((nI f &&& 31) = nI f)) = true := by decide +kernel
theorem bit_c {f x : Nat} (hf : f < 12) (hx : x < 4096) : ((nI x &&& (1 <<< (nI f &&& 31))) = 0) ↔ x / 2 ^ f % 2 = 0 := by
  have h := bit_tab0 f hf (x / 64) (by omega) (x % 64) (by omega)
  rw [show 64 * (x / 64) + x % 64 = x by omega] at h
  rw [beq_iff_eq] at h
  exact decide_eq_decide.mp h
theorem bit_m {f x : Nat} (hf : f < 12) (hx : x < 4096) (M : St) : x_X8_has (nI x) (nI f) M = if x / 2 ^ f % 2 = 1 then 1 else 0 := by
  unfold x_X8_has
  have e1 : nI f &&& 31 = nI f := of_decide_eq_true (bit_tab1 f hf)
  have hs : ∀ f, f < 12 → ((nI f).toBitVec.smod 32).toNat = f := by decide +kernel
  rw [e1, pk_shrN (by omega) (nI f) f (hs f hf), pk_andN (n := x / 2 ^ f) (by have := Nat.div_le_self x (2 ^ f); omega) (m := 1) 1 (by decide)]
  have hlt : x / 2 ^ f % 2 < 2 := Nat.mod_lt _ (by omega)
  have e : (1 : Int32) = nI 1 := by decide
  by_cases c : x / 2 ^ f % 2 = 1
  · rw [if_pos c, if_pos]; show nI (x / 2 ^ f % 2) = 1; rw [c]; rfl
  · rw [if_neg c, if_neg]; show ¬ nI (x / 2 ^ f % 2) = 1; rw [show x / 2 ^ f % 2 = 0 by omega]; decide
/-- the program's test of a set -/
theorem isIn_k {f x : Nat} (hf : f < 12) (hx : x < 4096) (C : St) : x_X5_isIn (nI x) (nI f) C = if x / 2 ^ f % 2 = 1 then 1 else 0 := by
  unfold x_X5_isIn x_X5_isIn_22
  have e : (12 : Int32) = nI 12 := by decide
  rw [if_neg (nI_pos (by omega)), e, if_neg (nI_ge hf (by omega))]
  by_cases c : x / 2 ^ f % 2 = 1
  · rw [if_pos c, if_neg]; intro h; have := (bit_c hf hx).mp h; omega
  · rw [if_neg c, if_pos]; exact (bit_c hf hx).mpr (by omega)
theorem isIn_out (x : Int32) {y : Int32} (h : y < 0 ∨ nI 12 ≤ y) (C : St) : x_X5_isIn x y C = 0 := by
  unfold x_X5_isIn x_X5_isIn_22
  have e : (12 : Int32) = nI 12 := by decide
  by_cases c : y < 0
  · rw [if_pos c]
  · rw [if_neg c, e, if_pos]; rcases h with h | h; exact absurd h c; exact h
theorem zN_if (c : Prop) [Decidable c] : zN (if c then 1 else 0) = if c then 1 else 0 := by split <;> rfl
theorem has_k {f x : Nat} (hf : f < 12) (hx : x < 4096) {C : St} {j : Nat} (h : gV C 5 j 1 = nI x) : x_X5_has j (nI f) C = if x / 2 ^ f % 2 = 1 then 1 else 0 := by
  unfold x_X5_has; rw [h, isIn_k hf hx]; exact zN_if _
theorem gone_k {f x : Nat} (hf : f < 12) (hx : x < 4096) {C : St} {j : Nat} (h : gV C 5 j 4 = nI x) : x_X5_isWithdrawn j (nI f) C = if x / 2 ^ f % 2 = 1 then 1 else 0 := by
  unfold x_X5_isWithdrawn; rw [h, isIn_k hf hx]; exact zN_if _
theorem pow12 {nf a : Nat} (h : nf ≤ 12) (ha : a < 2 ^ nf) : a < 4096 := by
  have : 2 ^ nf ≤ 2 ^ 12 := Nat.pow_le_pow_right (by omega) h
  omega
theorem bit_lt {a f nf : Nat} (ha : a < 2 ^ nf) (h : a / 2 ^ f % 2 = 1) : f < nf := by
  by_cases c : f < nf
  · exact c
  · have : 2 ^ nf ≤ 2 ^ f := Nat.pow_le_pow_right (by omega) (by omega)
    rw [Nat.div_eq_of_lt (by omega)] at h
    exact absurd h (by omega)
theorem isPool_out {y : Int32} {k : Nat} (hk : k ≤ 80) {M : St} (h3 : gV M 8 0 23 = nI k) (h : y < 0 ∨ nI k ≤ y) : x_X8_isPool y M = 0 := by
  unfold x_X8_isPool; rw [h3, ix_out hk M h]; rfl
theorem isPool_in {j k : Nat} (hk : k ≤ 80) {M : St} (h3 : gV M 8 0 23 = nI k) (h : j < k) : x_X8_isPool (nI j) M = 1 := by
  unfold x_X8_isPool; rw [h3, ix_in hk M h]; rfl
theorem isFencer_out {y : Int32} {k : Nat} (hk : k ≤ 80) {M : St} (h3 : gV M 8 0 0 = nI k) (h : y < 0 ∨ nI k ≤ y) : x_X8_isFencer y M = 0 := by
  unfold x_X8_isFencer; rw [h3, ix_out hk M h]; rfl
theorem isFencer_in {j k : Nat} (hk : k ≤ 80) {M : St} (h3 : gV M 8 0 0 = nI k) (h : j < k) : x_X8_isFencer (nI j) M = 1 := by
  unfold x_X8_isFencer; rw [h3, ix_in hk M h]; rfl
theorem isMember_eq {n nb np : Nat} {C M : St} (hI : I2 n nb np C M) (y1 y2 : Int32) : (x_X7_poolWith y1 y2 C = (3, 0, C) ∧ x_X8_isMember y1 y2 M = 0 ∧ ok_X7_poolWith y1 y2 C ∧ ok_X8_isMember y1 y2 M) ∨ (∃ j f : Nat, j < np ∧ f < 12 ∧ y1 = nI j ∧ y2 = nI f ∧ x_X7_poolWith y1 y2 C = (0, j, C) ∧ x_X8_isMember y1 y2 M = 1 ∧ ok_X7_poolWith y1 y2 C ∧ ok_X8_isMember y1 y2 M) := by
  obtain ⟨⟨A1, ⟨nf, hnf, A2⟩, A3, A4, A5, A6, A7, A8, A9, A10, A11, A12, A13, A14⟩, hB, hZ, hP, hF, hO, hG, hK⟩ := hI
  have z1 : ¬ (1 : Int32) = 0 := by decide
  unfold x_X7_poolWith x_X7_poolWith_18 ok_X7_poolWith ok_X7_poolWith_18 x_X8_isMember x_X8_isMember_33 ok_X8_isMember ok_X8_isMember_33
  rcases ix3 y1 np (by omega) with h | ⟨j, hj, rfl⟩
  · obtain ⟨e1, e2⟩ := poolOf_out (C := C) A7 h
    rw [e1, isPool_out (by omega) A8 h, if_pos rfl, if_pos rfl]
    exact Or.inl ⟨rfl, rfl, ⟨e2, trivial⟩, trivial⟩
  obtain ⟨e1, e2⟩ := poolOf_in (C := C) A6 A7 A14 hj
  obtain ⟨p1, p2, ⟨a, nf2, b1, b2, b3, b4⟩, p4, p5, p6⟩ := hO j hj
  have en : nf = nf2 := (nI_eq (by omega) (by omega)).mp (A2.symm.trans b2)
  subst en
  have ha := pow12 hnf b3
  rw [e1, isPool_in (by omega) A8 hj, if_neg z1, if_neg z1, nI_clamp (by omega), b4]
  simp only [oc]
  have hvj : vp_in (nI j) 6 := vp_in_nI (by omega) (by omega)
  have hout : x_X5_has j y2 C = 0 → x_X8_isFencer y2 M = 0 ∨ x_X8_has (nI a) y2 M = 0 → ((if x_X5_has j y2 C = 0 then ((3 : Nat), (0 : Nat), C) else (0, j, C)) = (3, 0, C) ∧ (if x_X8_isFencer y2 M = 0 then (0 : Int32) else if x_X8_has (nI a) y2 M = 0 then 0 else 1) = 0 ∧ (ok_X7_poolOf (nI j) C ∧ (if x_X5_has j y2 C = 0 then True else True)) ∧ (if x_X8_isFencer y2 M = 0 then True else vp_in (nI j) 6 ∧ (if x_X8_has (nI a) y2 M = 0 then True else True))) := by
    intro h h'
    refine ⟨by rw [if_pos h], ?_, ⟨e2, by split <;> trivial⟩, ?_⟩
    · rcases h' with h' | h'
      · rw [if_pos h']
      · rw [h', if_pos rfl]; split <;> rfl
    · split
      · trivial
      · exact ⟨hvj, by split <;> trivial⟩
  rcases ix3 y2 12 (by omega) with h | ⟨f, hf, rfl⟩
  · have q1 : x_X5_has j y2 C = 0 := by unfold x_X5_has; rw [isIn_out _ h]; rfl
    refine Or.inl (hout q1 (Or.inl (isFencer_out (by omega) A2 ?_)))
    rcases h with h | h
    · exact Or.inl h
    · refine Or.inr ?_
      have : nI nf ≤ nI 12 := nI_le hnf (by omega)
      exact Int32.le_trans this h
  · have q1 := has_k (C := C) (j := j) hf ha (p2.trans b4)
    have q2 := bit_m hf ha M
    by_cases c : a / 2 ^ f % 2 = 1
    · right
      rw [if_pos c] at q1 q2
      rw [q1, q2, isFencer_in (by omega) A2 (bit_lt b3 c)]
      exact ⟨j, f, hj, hf, rfl, rfl, by rw [if_neg z1], by rw [if_neg z1, if_neg z1], ⟨e2, by rw [if_neg z1]; trivial⟩, by rw [if_neg z1]; exact ⟨hvj, by rw [if_neg z1]; trivial⟩⟩
    · rw [if_neg c] at q1 q2
      exact Or.inl (hout q1 (Or.inr q2))
theorem wd_eq {C M : St} {nb j a : Nat} (hO : qO C M nb j) (ha : a < 12) : x_X5_isWithdrawn j (nI a) C = x_X8_has (gV M 37 0 j) (nI a) M := by
  obtain ⟨p1, p2, p3, p4, ⟨g, hg, p5⟩, p6⟩ := hO
  rw [gone_k ha hg (p4.trans p5), p5, bit_m ha hg]
/-- what the program adds for a bout is what the model adds -/
theorem share_ct {C M : St} {nb np j i : Nat} {f w : Int32} (hO : qO C M nb j) (hB : qB C M np i) (hi : i < 80) (hj : j < 6) (hw : w = 0 ∨ w = 1 ∨ w = 2 ∨ w = 3) :
    (if x_X0_has i f C = 0 then 0 else if x_X5_counts j i C = 0 then 0 else x_X0_share i (x_X0_sideOf i f C) w C) = ct M j f w i := by
  obtain ⟨b1, b2, ⟨l, hl, b3⟩, ⟨r, hr, b4⟩, b5, b6, b7, b8, b9, b10, b11, b12, b13, b14, b15, b16, b17, b18, b19⟩ := hB
  have wl := wd_eq hO hl
  have wr := wd_eq hO hr
  have z1 : ¬ (1 : Int32) = 0 := by decide
  have z2 : ¬ (2 : Int32) = 0 := by decide
  have z3 : ¬ (2 : Int32) = 1 := by decide
  have z4 : ¬ (3 : Int32) = 0 := by decide
  have z5 : ¬ (3 : Int32) = 1 := by decide
  have z6 : ¬ (3 : Int32) = 2 := by decide
  have z7 : ¬ (0 : Int32) = -1 := by decide
  have z8 : ¬ (1 : Int32) = -1 := by decide
  have s0 : (1 : Int32) - 0 = 1 := by decide
  have s1 : (1 : Int32) - 1 = 0 := by decide
  have hs : x_X8_sideIn (nI i) (nI j) f M = if gV M 24 0 i = nI j then (if gV M 25 0 i = -1 then -1 else if x_X8_has (gV M 37 0 j) (nI l) M = 0 then (if x_X8_has (gV M 37 0 j) (nI r) M = 0 then (if nI l = f then 0 else if nI r = f then 1 else -1) else -1) else -1) else -1 := by
    unfold x_X8_sideIn x_X8_sideIn_74 x_X8_sideIn_75
    rw [nI_clamp (show i < 2 ^ 31 by omega), nI_clamp (show j < 2 ^ 31 by omega), clamp2 hi, clamp21 hi, b3, b4]
    simp only [z1, ↓reduceIte]
  have hc : x_X5_counts j i C = if gV M 24 0 i = nI j then (if gV M 25 0 i = -1 then 0 else if x_X8_has (gV M 37 0 j) (nI l) M = 0 then (if x_X8_has (gV M 37 0 j) (nI r) M = 0 then 1 else 0) else 0) else 0 := by
    unfold x_X5_counts x_X5_counts_50 x_X0_isOver
    rw [b13, hO.1, b1, b2, b3, b4, b15, wl, wr]
    by_cases c1 : gV M 24 0 i = nI j
    · by_cases c2 : gV M 25 0 i = -1
      · simp only [c1, c2, ↓reduceIte]
      · simp only [c1, c2, z1, ↓reduceIte]
    · simp only [c1, ↓reduceIte]
  have hh : x_X0_has i f C = if nI l = f then 1 else if nI r = f then 1 else 0 := by
    unfold x_X0_has x_X0_has_22; rw [b1, b2, b3, b4]
  have hd : x_X0_sideOf i f C = if nI l = f then 0 else 1 := by unfold x_X0_sideOf; rw [b1, b3]
  have cl0 : (2 * nI i + 0 : Int32).toNatClampNeg = 2 * i := by rw [Int32.add_zero]; exact clamp2 hi
  unfold ct
  rw [hs, hc, hh, hd]
  by_cases c1 : gV M 24 0 i = nI j
  · by_cases c2 : gV M 25 0 i = -1
    · simp only [c1, c2, ↓reduceIte, ite_self]
    by_cases c3 : x_X8_has (gV M 37 0 j) (nI l) M = 0
    · by_cases c4 : x_X8_has (gV M 37 0 j) (nI r) M = 0
      · by_cases c5 : nI l = f
        · subst c5
          have c5 : nI l = nI l := rfl
          simp only [c1, c2, c3, c4, z1, z7, ↓reduceIte]
          unfold x_X0_share x_X0_corner
          rcases hw with rfl | rfl | rfl | rfl
          · simp only [↓reduceIte]
          · simp only [z1, ↓reduceIte, b15]
          · simp only [z1, z2, z3, ↓reduceIte, cl0, b6]
          · simp only [z1, z2, z3, z4, z5, z6, s0, ↓reduceIte, clamp21 hi, b7]
        · by_cases c6 : nI r = f
          · subst c6
            simp only [c1, c2, c3, c4, c5, z1, z7, z8, ↓reduceIte]
            unfold x_X0_share x_X0_corner
            rcases hw with rfl | rfl | rfl | rfl
            · simp only [↓reduceIte]
            · simp only [z1, ↓reduceIte, b15]
            · simp only [z1, z2, z3, ↓reduceIte, clamp21 hi, b7]
            · simp only [z1, z2, z3, z4, z5, z6, s1, ↓reduceIte, cl0, b6]
          · simp only [c1, c2, c3, c4, c5, c6, ↓reduceIte]
      · simp only [c1, c2, c3, c4, ↓reduceIte, ite_self]
    · simp only [c1, c2, c3, ↓reduceIte, ite_self]
  · simp only [c1, ↓reduceIte, ite_self]
theorem cr_ofPool : CR_ofPool := by
  intro n nb np C M a1 a2 a3 hn hI
  obtain ⟨⟨A1, A2, A3, A4, A5, A6, A7, A8, A9⟩, hB, hZ, hP, hF, hO, hG, hK⟩ := id hI
  unfold x_X7_ofPool ok_X7_ofPool x_X8_ofPool ok_X8_ofPool x_X8_ofPools ok_X8_ofPools x_X8_thrown x_X7_checkOfPool
  have z1 : ¬ (1 : Int32) = 0 := by decide
  rcases isMember_eq hI a1 a2 with ⟨e1, e2, e3, e4⟩ | ⟨j, f, hj, hf, rfl, rfl, e1, e2, e3, e4⟩
  · rw [e1, e2]
    have n3 : ¬ (3 : Nat) = 0 := by decide
    simp only [↓reduceIte, n3]
    obtain ⟨k1, k2, k3, k4, k5⟩ := failS (v8 := (x_X8_ofPools_28 a1 a2 a3 1 M).1) hI (e := 3) (by decide) (Or.inr (Or.inr (Or.inr ⟨rfl, by decide⟩))) (s0 := 1) (a := 0) (b := 2) (d := 1) rfl trivial rfl
    exact ⟨⟨e3, trivial⟩, k1, ⟨⟨e4, trivial⟩, trivial⟩, k3, fun h => h.elim, k5⟩
  rw [e1, e2]
  simp only [↓reduceIte, z1]
  rw [in_eq a3 0 3 C M]
  by_cases c : x_X8_isIn a3 0 3 M = 0
  · have n2 : ¬ (2 : Nat) = 0 := by decide
    simp only [c, ↓reduceIte, n2]
    obtain ⟨k1, k2, k3, k4, k5⟩ := failS (v8 := (x_X8_ofPools_28 (nI j) (nI f) a3 2 M).1) hI (e := 2) (by decide) (Or.inr (Or.inr (Or.inl ⟨rfl, by decide⟩))) (s0 := 2) (a := 0) (b := 2) (d := 1) rfl trivial rfl
    exact ⟨⟨e3, trivial⟩, k1, ⟨⟨e4, trivial⟩, trivial⟩, k3, fun h => h.elim, k5⟩
  simp only [c, ↓reduceIte]
  obtain ⟨w, hw, rfl⟩ := in_nI (b := 3) (by decide) c
  have z0 : (0 : Int32) ≤ 0 := by decide
  obtain ⟨t1, t2⟩ := tells_eq (M := sV M 8 0 31 0) (nI f) (nI w) A3 (show j < 6 by omega) (gth A5 (by decide))
  have e48 : (48 : Int32) = nI 48 := by decide
  have e4' : (4 : Int32) = nI 4 := by decide
  have ecell : (nI f * 4 + nI w : Int32) = nI (4 * f + w) := by rw [e4', pk_mul, nI_add, Nat.mul_comm]
  have kp : x_X5_kept j (nI f) (nI w) C = gV C 18 j (4 * f + w) := by
    unfold x_X5_kept
    rw [ecell, if_neg (nI_pos (by omega)), e48, if_neg (nI_ge (by omega) (by omega)), nI_clamp (by omega)]
  have ko : ok_X5_kept j (nI f) (nI w) C := by
    unfold ok_X5_kept
    rw [ecell, if_neg (nI_pos (by omega)), e48, if_neg (nI_ge (by omega) (by omega))]
    exact ⟨vp_in_nI (by omega) (by omega), trivial⟩
  have eTS : TS (sV M 8 0 31 0) j (nI f) (nI w) 0 nb = TS M j (nI f) (nI w) 0 nb := TS_t (q := fun c _ => !(c == 8)) (Ag_sV _ _ _ _ rfl (Ag.rf _ _)) (by simp) j (nI f) (nI w) nb 0
  unfold x_X8_ofPools_28 ok_X8_ofPools_28
  rw [if_pos z0, if_pos z0, t1, kp, eTS]
  exact ⟨⟨e3, ko, trivial⟩, Or.inl rfl, ⟨⟨e4, t2, trivial⟩, trivial⟩, rfl, fun _ => (hO j hj).2.2.2.2.2 f w hf (by omega), I2_up (I2_th 0 hI)⟩
theorem anew_run {n nb np j f w : Nat} {C M : St} (hI : I2 n nb np C M) (hj : j < np) (hw : w < 4) : ∀ (k i : Nat) (a : Int32), nb - i < k → i ≤ nb →
    x_X7_ofPoolAnew_18 k (nI f) (nI w) j a (nI i) C = (0, a + TS M j (nI f) (nI w) i (nb - i), C) ∧ ok_X7_ofPoolAnew_18 k (nI f) (nI w) j a (nI i) C
  | 0, i, a, hk, _ => absurd hk (Nat.not_lt_zero _)
  | k + 1, i, a, hk, hi => by
    have ih := anew_run (f := f) hI hj hw k
    obtain ⟨⟨A1, A2, A3, A4, A5, A6, A7, A8, A9, A10, A11, A12, A13, A14⟩, hB, hZ, hP, hF, hO, hG, hK⟩ := hI
    unfold x_X7_ofPoolAnew_18 ok_X7_ofPoolAnew_18
    rw [A4]
    by_cases ci : nb ≤ i
    · have e : nb - i = 0 := by omega
      rw [if_pos (nI_le ci (by omega)), if_pos (nI_le ci (by omega)), e]
      exact ⟨by show (0, a, C) = (0, a + 0, C); rw [Int32.add_zero], trivial⟩
    have hi' : i < nb := by omega
    obtain ⟨m, hm⟩ : ∃ m, nb - i = m + 1 := ⟨nb - i - 1, by omega⟩
    have em : m = nb - (i + 1) := by omega
    obtain ⟨e1, e2⟩ := boutAt_in (C := C) A3 A4 A13 hi'
    rw [if_neg (nI_ge hi' (by omega)), if_neg (nI_ge hi' (by omega)), hm, e1]
    have hTS : TS M j (nI f) (nI w) i (m + 1) = ct M j (nI f) (nI w) i + TS M j (nI f) (nI w) (i + 1) (nb - (i + 1)) := by rw [← em]; rfl
    rw [hTS]
    have hsh := share_ct (f := nI f) (w := nI w) (hO j hj) (hB i hi') (by omega) (by omega) (a3_small ⟨w, hw, rfl⟩)
    have g76 : ∀ b, x_X7_ofPoolAnew_76 (x_X7_ofPoolAnew_18 k) (nI f) (nI w) j b (nI i) C = (0, b + TS M j (nI f) (nI w) (i + 1) (nb - (i + 1)), C) ∧ ok_X7_ofPoolAnew_76 (ok_X7_ofPoolAnew_18 k) (nI f) (nI w) j b (nI i) C := by
      intro b; unfold x_X7_ofPoolAnew_76 ok_X7_ofPoolAnew_76; rw [nI_1]; exact ih (i + 1) b (by omega) (by omega)
    obtain ⟨g1, g2⟩ := g76 a
    simp only [oc]
    rw [← hsh]
    by_cases c1 : x_X0_has i (nI f) C = 0
    · simp only [c1, ↓reduceIte, Int32.zero_add]
      exact ⟨g1, e2, g2⟩
    by_cases c2 : x_X5_counts j i C = 0
    · simp only [c1, c2, ↓reduceIte, Int32.zero_add]
      exact ⟨g1, e2, g2⟩
    · simp only [c1, c2, ↓reduceIte]
      obtain ⟨g3, g4⟩ := g76 (a + x_X0_share i (x_X0_sideOf i (nI f) C) (nI w) C)
      rw [g3, Int32.add_assoc]
      exact ⟨rfl, e2, g4⟩
theorem cr_ofPoolAnew : CR_ofPoolAnew := by
  intro n nb np C M a1 a2 a3 hn hI
  obtain ⟨⟨A1, A2, A3, A4, A5, A6, A7, A8, A9⟩, hB, hZ, hP, hF, hO, hG, hK⟩ := id hI
  unfold x_X7_ofPoolAnew ok_X7_ofPoolAnew x_X8_ofPoolAnew ok_X8_ofPoolAnew x_X8_ofPools ok_X8_ofPools x_X8_thrown x_X7_checkOfPool
  have z1 : ¬ (1 : Int32) = 0 := by decide
  rcases isMember_eq hI a1 a2 with ⟨e1, e2, e3, e4⟩ | ⟨j, f, hj, hf, rfl, rfl, e1, e2, e3, e4⟩
  · rw [e1, e2]
    have n3 : ¬ (3 : Nat) = 0 := by decide
    simp only [↓reduceIte, n3]
    obtain ⟨k1, k2, k3, k4, k5⟩ := failS (v8 := (x_X8_ofPools_28 a1 a2 a3 1 M).1) hI (e := 3) (by decide) (Or.inr (Or.inr (Or.inr ⟨rfl, by decide⟩))) (s0 := 1) (a := 0) (b := 2) (d := 1) rfl trivial rfl
    exact ⟨⟨e3, trivial⟩, k1, ⟨⟨e4, trivial⟩, trivial⟩, k3, fun h => h.elim, k5⟩
  rw [e1, e2]
  simp only [↓reduceIte, z1]
  rw [in_eq a3 0 3 C M]
  by_cases c : x_X8_isIn a3 0 3 M = 0
  · have n2 : ¬ (2 : Nat) = 0 := by decide
    simp only [c, ↓reduceIte, n2]
    obtain ⟨k1, k2, k3, k4, k5⟩ := failS (v8 := (x_X8_ofPools_28 (nI j) (nI f) a3 2 M).1) hI (e := 2) (by decide) (Or.inr (Or.inr (Or.inl ⟨rfl, by decide⟩))) (s0 := 2) (a := 0) (b := 2) (d := 1) rfl trivial rfl
    exact ⟨⟨e3, trivial⟩, k1, ⟨⟨e4, trivial⟩, trivial⟩, k3, fun h => h.elim, k5⟩
  simp only [c, ↓reduceIte]
  obtain ⟨w, hw, rfl⟩ := in_nI (b := 3) (by decide) c
  have z0 : (0 : Int32) ≤ 0 := by decide
  obtain ⟨t1, t2⟩ := tells_eq (M := sV M 8 0 31 0) (nI f) (nI w) A3 (show j < 6 by omega) (gth A5 (by decide))
  have eTS : TS (sV M 8 0 31 0) j (nI f) (nI w) 0 nb = TS M j (nI f) (nI w) 0 nb := TS_t (q := fun c _ => !(c == 8)) (Ag_sV _ _ _ _ rfl (Ag.rf _ _)) (by simp) j (nI f) (nI w) nb 0
  obtain ⟨r1, r2⟩ := anew_run (f := f) hI hj (show w < 4 by omega) fu 0 0 (by rw [fuE]; omega) (by omega)
  have r1 : x_X7_ofPoolAnew_18 fu (nI f) (nI w) j 0 0 C = (0, 0 + TS M j (nI f) (nI w) 0 nb, C) := r1
  unfold x_X8_ofPools_28 ok_X8_ofPools_28
  rw [if_pos z0, if_pos z0, t1, r1, eTS, Int32.zero_add]
  exact ⟨⟨e3, r2⟩, Or.inl rfl, ⟨⟨e4, t2, trivial⟩, trivial⟩, rfl, fun _ => rfl, I2_up (I2_th 0 hI)⟩
def pcn (x : Nat) : Nat → Nat
  | 0 => 0
  | k + 1 => pcn x k + x / 2 ^ k % 2
theorem bc_tab : ∀ h, h < 64 → ∀ l, l < 64 → (x_J6_bitCount_0f7a4 (nI (64 * h + l)) γS == nI (pcn (64 * h + l) 12)) = true := by decide +kernel
theorem bc_eq {x : Nat} (hx : x < 4096) (C : St) : x_J6_bitCount_0f7a4 (nI x) C = nI (pcn x 12) := by
  have h := bc_tab (x / 64) (by omega) (x % 64) (by omega)
  rw [show 64 * (x / 64) + x % 64 = x by omega, beq_iff_eq] at h
  exact h
theorem mask_tab : ∀ nf, nf < 13 → ∀ i, i < 32 → ((2 ^ 32 - 2 ^ nf).testBit i == decide (nf ≤ i)) = true := by decide +kernel
theorem shl_tab : ∀ nf, nf < 13 → ((1 <<< (nI nf &&& 31) : Int32) == nI (2 ^ nf) && ((-(1 <<< (nI nf &&& 31)) : Int32).toBitVec.toNat == 2 ^ 32 - 2 ^ nf)) = true := by decide +kernel
theorem mask_nat {nf N : Nat} (hnf : nf < 13) (hN : N < 2 ^ 32) : N &&& (2 ^ 32 - 2 ^ nf) = 0 ↔ N < 2 ^ nf := by
  constructor
  · intro h
    apply Classical.byContradiction
    intro hc
    obtain ⟨i, hi, ht⟩ := Nat.exists_ge_and_testBit_of_ge_two_pow (Nat.le_of_not_lt hc)
    have hi32 : i < 32 := by
      apply Classical.byContradiction
      intro h32
      have : N.testBit i = false := Nat.testBit_lt_two_pow (Nat.lt_of_lt_of_le hN (Nat.pow_le_pow_right (by omega) (by omega)))
      rw [this] at ht; exact absurd ht (by decide)
    have hm := mask_tab nf hnf i hi32
    rw [beq_iff_eq] at hm
    have h0 : (N &&& (2 ^ 32 - 2 ^ nf)).testBit i = false := by rw [h]; exact Nat.zero_testBit i
    rw [Nat.testBit_and, ht, hm] at h0
    simp at h0; omega
  · intro h
    apply Nat.eq_of_testBit_eq
    intro i
    rw [Nat.testBit_and, Nat.zero_testBit]
    by_cases c : i < nf
    · have hm := mask_tab nf hnf i (by omega)
      rw [beq_iff_eq] at hm
      rw [hm]; simp; omega
    · rw [Nat.testBit_lt_two_pow (Nat.lt_of_lt_of_le h (Nat.pow_le_pow_right (by omega) (by omega)))]
      rfl
theorem mask_eq {nf : Nat} (hnf : nf ≤ 12) (y : Int32) : ((y &&& (-(1 <<< (nI nf &&& 31)))) = 0) ↔ ∃ x : Nat, x < 2 ^ nf ∧ y = nI x := by
  have hs := shl_tab nf (by omega)
  simp only [Bool.and_eq_true, beq_iff_eq] at hs
  have hp : 2 ^ nf ≤ 2 ^ 12 := Nat.pow_le_pow_right (by omega) hnf
  have e1 : ((y &&& (-(1 <<< (nI nf &&& 31)))) = 0) ↔ y.toBitVec.toNat &&& (2 ^ 32 - 2 ^ nf) = 0 := by
    rw [← hs.2, ← BitVec.toNat_and, ← Int32.toBitVec_and]
    constructor
    · intro h; rw [h]; rfl
    · intro h
      apply Int32.toBitVec_inj.mp
      apply BitVec.eq_of_toNat_eq
      rw [h]; rfl
  rw [e1, mask_nat (by omega) y.toBitVec.isLt]
  constructor
  · intro h
    refine ⟨y.toBitVec.toNat, h, ?_⟩
    apply Int32.toBitVec_inj.mp
    apply BitVec.eq_of_toNat_eq
    rw [pk_tn (by omega)]
  · rintro ⟨x, hx, rfl⟩
    rw [pk_tn (by omega)]; exact hx
theorem shr1_tab : ∀ i, i < 32 → ((nI i &&& 31 : Int32) == nI i && ((nI i).toBitVec.smod 32).toNat == i) = true := by decide +kernel
theorem many_run {x : Nat} (hx : x < 4096) (M : St) : ∀ (k i : Nat), 32 - i < k → i ≤ 32 → x_X8_many_4 k (nI x) (nI (pcn x i)) (nI i) M = nI (pcn x 32) ∧ ok_X8_many_4 k (nI x) (nI (pcn x i)) (nI i) M
  | 0, i, hk, _ => absurd hk (Nat.not_lt_zero _)
  | k + 1, i, hk, hi => by
    have e32 : (32 : Int32) = nI 32 := by decide
    unfold x_X8_many_4 ok_X8_many_4
    rw [e32]
    by_cases c : 32 ≤ i
    · have : i = 32 := by omega
      subst this
      rw [if_pos (nI_le (by omega) (by omega)), if_pos (nI_le (by omega) (by omega))]
      exact ⟨rfl, trivial⟩
    have hs := shr1_tab i (by omega)
    simp only [Bool.and_eq_true, beq_iff_eq] at hs
    rw [if_neg (nI_ge (by omega) (by omega)), if_neg (nI_ge (by omega) (by omega)), hs.1, pk_shrN (by omega) (nI i) i hs.2, pk_andN (n := x / 2 ^ i) (by have := Nat.div_le_self x (2 ^ i); omega) (m := 1) 1 (by decide), nI_add, nI_1]
    exact many_run hx M k (i + 1) (by omega) (by omega)
theorem pcn_hi {x : Nat} (hx : x < 4096) : ∀ k, pcn x (12 + k) = pcn x 12
  | 0 => rfl
  | k + 1 => by
    show pcn x (12 + k) + x / 2 ^ (12 + k) % 2 = _
    have hp : 2 ^ 12 ≤ 2 ^ (12 + k) := Nat.pow_le_pow_right (by omega) (by omega)
    rw [pcn_hi hx k, Nat.div_eq_of_lt (by omega)]
    rfl
theorem many_eq {x : Nat} (hx : x < 4096) (M : St) : x_X8_many (nI x) M = nI (pcn x 12) ∧ ok_X8_many (nI x) M := by
  unfold x_X8_many ok_X8_many
  obtain ⟨h1, h2⟩ := many_run hx M fu 0 (by rw [fuE]; omega) (by omega)
  have h1 : x_X8_many_4 fu (nI x) 0 0 M = nI (pcn x 32) := h1
  rw [h1, show (32 : Nat) = 12 + 20 from rfl, pcn_hi hx]
  exact ⟨rfl, h2⟩
theorem Ag_sZ {p : Nat → Nat → Bool} {γ0 γ : St} (c n : Nat) (hc : ∀ k, p c k = false) (h : Ag p γ0 γ) : Ag p γ0 (sZ γ c n) := by
  intro c' n' k' h'
  rw [gV_sZ, if_neg]
  · exact h c' n' k' h'
  · rintro ⟨rfl, -⟩; rw [hc] at h'; exact absurd h' (by decide)
theorem TS_0 {M : St} {j : Nat} {f w : Int32} : ∀ (r i : Nat), (∀ k, k < i + r → ct M j f w k = 0) → TS M j f w i r = 0
  | 0, i, _ => rfl
  | r + 1, i, h => by unfold TS; rw [h i (by omega), TS_0 r (i + 1) (fun k hk => h k (by omega))]; rfl
/-- a new pool -/
theorem pool_new {n nb np nf x : Nat} {C M : St} (hI : I2 n nb np C M) (hlt : np < 6) (hnf : nf ≤ 12) (A2 : gV M 8 0 0 = nI nf) (hx : x < 2 ^ nf) :
    I2 (n + 1) nb (np + 1) (sV (sR (nP C np (nI np) (nI x)) 10 np (some np)) 7 0 7 (nI (np + 1))) (sV (sV (sV M 8 0 31 0) 36 0 np (nI x)) 8 0 23 (nI (np + 1))) := by
  obtain ⟨hA, hB, hZ, hP, hF, hO, hG, hK⟩ := hI
  obtain ⟨A1, A2', A3, A4, A5, A6, A7, A8, A9, A10, A11, A12, A13, A14⟩ := id hA
  have hx4 := pow12 hnf hx
  generalize hC' : sV (sR (nP C np (nI np) (nI x)) 10 np (some np)) 7 0 7 (nI (np + 1)) = C'
  generalize hM' : sV (sV (sV M 8 0 31 0) 36 0 np (nI x)) 8 0 23 (nI (np + 1)) = M'
  have hC : Ag (fun c k => !(c == 5 || c == 18 || c == 19 || (c == 7 && k == 7))) C C' := by
    rw [← hC']; unfold nP
    refine Ag_sV _ _ _ _ rfl (Ag_sR _ _ _ (Ag_sV _ _ _ _ rfl (Ag_sV _ _ _ _ rfl (Ag_sV _ _ _ _ rfl (Ag_sZ _ _ (fun _ => rfl) (Ag_sZ _ _ (fun _ => rfl) (Ag.rf _ _)))))))
  have hM : Ag (fun c k => !((c == 8 && (k == 31 || k == 23)) || c == 36)) M M' := by
    rw [← hM']
    repeat first | exact Ag.rf _ _ | refine Ag_sV _ _ _ _ rfl ?_
  have hR9 : ∀ i, gR C' 9 i = gR C 9 i := by intro i; rw [← hC']; unfold nP; simp [gR_sV, gR_sR]; rfl
  have hR7 : gR C' 7 8 = gR C 7 8 := by rw [← hC']; unfold nP; simp [gR_sV, gR_sR]; rfl
  have hR10 : ∀ j, gR C' 10 j = if j = np then some np else gR C 10 j := by intro j; rw [← hC']; unfold nP; simp [gR_sV, gR_sR]; rfl
  have hLc : gL C' 3 0 = gL C 3 0 := by rw [← hC']; rfl
  have hLm : gL M' 8 1 = gL M 8 1 := by rw [← hM']; rfl
  have c7 : gV C' 7 0 7 = nI (np + 1) := by rw [← hC']; simp [gV_sV]
  have m23 : gV M' 8 0 23 = nI (np + 1) := by rw [← hM']; simp [gV_sV]
  have eT : ∀ (j : Nat) (f w : Int32) (i r : Nat), TS M' j f w i r = TS M j f w i r := fun j f w i r => TS_t hM (by simp) j f w r i
  have hB' : ∀ i, i < nb → qB C M (np + 1) i := by
    intro i hi
    obtain ⟨b1, b2, b3, b4, b5, b6, b7, b8, b9, b10, b11, b12, b13, b14, br⟩ := hB i hi
    refine ⟨b1, b2, b3, b4, b5, b6, b7, b8, b9, b10, b11, b12, b13, ?_, br⟩
    rcases b14 with h | ⟨j, hj, h⟩
    · exact Or.inl h
    · exact Or.inr ⟨j, by omega, h⟩
  have hP' : qP C M n nb (np + 1) := by
    obtain ⟨p1, p2⟩ := hP
    refine ⟨p1, ?_⟩
    rcases p2 with h0 | ⟨b, hb, g1, g2, g3, g4, g5, g6⟩
    · exact Or.inl h0
    · refine Or.inr ⟨b, hb, g1, g2, g3, g4, g5, fun j hj he => ?_⟩
      by_cases c : j < np
      · exact g6 j c he
      · obtain ⟨-, -, ⟨a, ha, ha'⟩, ⟨d, hd, hd'⟩, -⟩ := hB b hb
        rw [hG j (by omega), ha', hd', show (0 : Int32) = nI 0 from rfl, bit_m ha (by omega), bit_m hd (by omega), Nat.zero_div, Nat.zero_div]
        exact ⟨rfl, rfl⟩
  refine ⟨?_, fun i hi => qB_t hC hM (by simp) (np + 1) i (hB' i hi), fun i hi => qZ_t hC hM (by simp) i (hZ i hi), qP_up (qP_t hC hM hR7 (by simp) n nb (np + 1) hP'), qF_t hC hM (by simp) hF, fun j hj => ?_, fun j hj => by rw [hM 37 0 j rfl]; exact hG j (by omega), qK_t hC hM (by simp) hK⟩
  · unfold qA
    rw [hC 7 0 5 rfl, hC 7 0 6 rfl, hC 7 0 9 rfl, hM 8 0 0 rfl, hM 8 0 3 rfl, hM 8 0 2 rfl, hLc, hLm, c7, m23]
    refine ⟨A1, A2', A3, A4, A5, by omega, rfl, rfl, A9, A10, A11, A12, fun i hi => by rw [hR9]; exact A13 i hi, fun j hj => ?_⟩
    rw [hR10]
    by_cases c : j = np
    · rw [if_pos c, c]
    · rw [if_neg c]; exact A14 j (by omega)
  · by_cases c : j = np
    · subst c
      have t0 : ∀ f w, TS M j f w 0 nb = 0 := by
        intro f w
        refine TS_0 nb 0 (fun i hi => ?_)
        obtain ⟨b1, b2, b3, b4, b5, b6, b7, b8, b9, b10, b11, b12, b13, b14, br⟩ := hB i (by omega)
        have hne : ¬ gV M 24 0 i = nI j := by
          intro e
          rcases b14 with h | ⟨j', hj', h⟩
          · rw [h] at e; exact nI_m1 (by omega) e.symm
          · rw [h] at e; have := (nI_eq (by omega) (by omega)).mp e; omega
        have hs : x_X8_sideIn (nI i) (nI j) f M = -1 := by
          unfold x_X8_sideIn x_X8_sideIn_74 x_X8_sideIn_75
          rw [nI_clamp (show i < 2 ^ 31 by omega), if_neg hne]; rfl
        unfold ct; rw [hs, if_pos rfl]
      refine ⟨?_, ?_, ⟨x, nf, hnf, ?_, hx, ?_⟩, ?_, ⟨0, by omega, ?_⟩, fun f w hf hw => ?_⟩
      · rw [← hC']; simp [nP, gV_sV, gV_sR]
      · rw [← hC', ← hM']; simp [nP, gV_sV, gV_sR]
      · rw [hM 8 0 0 rfl]; exact A2
      · rw [← hM']; simp [gV_sV]
      · rw [hM 37 0 j rfl, hG j (by omega), ← hC']; simp [nP, gV_sV, gV_sR]
      · rw [hM 37 0 j rfl]; exact hG j (by omega)
      · rw [eT, t0, ← hC']; simp [nP, gV_sV, gV_sR, gV_sZ]
    · have h := hO j (by omega)
      have e0 : ∀ k, gV C' 5 j k = gV C 5 j k := by intro k; rw [← hC']; simp [nP, gV_sV, gV_sR, gV_sZ, c]
      have e1 : ∀ k, gV C' 18 j k = gV C 18 j k := by intro k; rw [← hC']; simp [nP, gV_sV, gV_sR, gV_sZ, c]
      have e2 : gV M' 36 0 j = gV M 36 0 j := by rw [← hM']; simp [gV_sV, c]
      unfold qO at h ⊢
      simp only [e0, e1, e2, eT, hM 8 0 0 rfl, hM 37 0 j rfl]
      exact h
theorem cr_pool : CR_pool := by
  intro n nb np C M a1 hn hI
  obtain ⟨hA, hB, hZ, hP, hF, hO, hG, hK⟩ := id hI
  obtain ⟨A1, ⟨nf, hnf, A2⟩, A3, A4, A5, A6, A7, A8, A9, A10, A11, A12, A13, A14⟩ := id hA
  have hs := shl_tab nf (by omega)
  simp only [Bool.and_eq_true, beq_iff_eq] at hs
  have hp : 2 ^ nf ≤ 2 ^ 12 := Nat.pow_le_pow_right (by omega) hnf
  unfold x_X7_pool ok_X7_pool x_X7_pool_22 ok_X7_pool_22 x_X8_pool ok_X8_pool x_X8_pool_23 ok_X8_pool_23 x_X8_thrown
  rw [A1, A2]
  have z1 : ¬ (1 : Int32) ≤ 0 := by decide
  have z2 : ¬ (2 : Int32) ≤ 0 := by decide
  have z0 : (0 : Int32) ≤ 0 := by decide
  have n2 : ¬ (2 : Nat) = 0 := by decide
  have n1 : ¬ (1 : Nat) = 0 := by decide
  have enp : np = (gV C 7 0 7).toNatClampNeg := by rw [A7, nI_clamp (by omega)]
  have bad1 : ∀ okm : Prop, okm → eIn 2 1 0 ((2 : Nat), (0 : Int32), C).1 ∧ okm ∧ gV (x_X8_pool_41 a1 1 M).2 8 0 31 = wK 2 1 0 ((2 : Nat), (0 : Int32), C).1 ∧ (((2 : Nat), (0 : Int32), C).1 = 0 → ((2 : Nat), (0 : Int32), C).2.1 = (x_X8_pool_41 a1 1 M).1) ∧ np = (gV C 7 0 7).toNatClampNeg ∧ I2 (n + 1) nb (if ((2 : Nat), (0 : Int32), C).1 = 0 then np + 1 else np) ((2 : Nat), (0 : Int32), C).2.2 (x_X8_pool_41 a1 1 M).2 := by
    intro okm h
    unfold x_X8_pool_41
    rw [if_neg z1]
    obtain ⟨k1, k2, k3, k4, k5⟩ := failS (v8 := (0 : Int32)) hI (e := 2) (by decide) (Or.inr (Or.inr (Or.inl ⟨rfl, by decide⟩))) (s0 := 1) (a := 2) (b := 1) (d := 0) rfl h rfl
    exact ⟨k1, k2, k3, k4, enp, k5⟩
  by_cases c1 : (a1 &&& (-(1 <<< (nI nf &&& 31)))) = 0
  · obtain ⟨x, hx, rfl⟩ := (mask_eq hnf a1).mp c1
    have hx4 := pow12 hnf hx
    obtain ⟨m1, m2⟩ := many_eq hx4 M
    have b1 := bc_eq hx4 C
    have lt0 : ¬ nI x < 0 := nI_pos (by omega)
    have nsh : ¬ (1 <<< (nI nf &&& 31) : Int32) ≤ nI x := by rw [hs.1]; exact nI_ge hx (by omega)
    simp only [c1, lt0, nsh, ↓reduceIte, m1, b1]
    have pcb : pcn x 12 ≤ 12 := by
      have : ∀ k, pcn x k ≤ k := by
        intro k; induction k with
        | zero => exact Nat.le_refl _
        | succ k ih => show pcn x k + x / 2 ^ k % 2 ≤ k + 1; have := Nat.mod_lt (x / 2 ^ k) (show 0 < 2 by omega); omega
      exact this 12
    by_cases c2 : (2 : Int32) ≤ nI (pcn x 12)
    · simp only [c2, ↓reduceIte]
      have e6 : (6 : Int32) = nI 6 := by decide
      rw [A7, A8, e6]
      by_cases c3 : np = 6
      · subst c3
        have q1 : ¬ nI 6 < nI 6 := nI_nlt (by omega) (by omega)
        simp only [q1, ↓reduceIte]
        unfold x_X8_pool_41 ok_X8_pool_41
        rw [if_neg z2, if_neg z2]
        obtain ⟨k1, k2, k3, k4, k5⟩ := failS (v8 := (0 : Int32)) hI (e := 1) (by decide) (Or.inr (Or.inl ⟨rfl, by decide⟩)) (s0 := 2) (a := 2) (b := 1) (d := 0) (okm := ok_X8_many (nI x) M ∧ True) rfl ⟨m2, trivial⟩ rfl
        exact ⟨trivial, k1, k2, k3, fun h => absurd h n1, by rw [nI_clamp (by omega)], by rw [if_neg n1]; exact k5⟩
      · have hlt : np < 6 := by omega
        have q1 : nI np < nI 6 := nI_lt hlt (by omega)
        have q2 : ¬ nI np = nI 6 := fun h => c3 ((nI_eq (by omega) (by omega)).mp h)
        simp only [q1, q2, ↓reduceIte]
        have xe : xn_X7_pool (nI x) C = (0, nI np, sV (sR (nP C np (nI np) (nI x)) 10 np (some np)) 7 0 7 (nI (np + 1))) := by
          unfold xn_X7_pool; rw [A7, nI_clamp (by omega), nI_1]
        have oe : okn_X7_pool (nI x) C := by unfold okn_X7_pool; rw [A7]; exact vp_in_nI hlt (by omega)
        have x8 : x_X8_pool_41 (nI x) 0 M = (nI np, sV (sV (sV M 8 0 31 0) 36 0 np (nI x)) 8 0 23 (nI (np + 1))) := by
          unfold x_X8_pool_41
          rw [if_pos z0, A8, nI_clamp (by omega), nI_1]
          rw [nI_pred]
        have o8 : ok_X8_pool_41 (nI x) 0 M := by
          unfold ok_X8_pool_41
          rw [if_pos z0, A8]
          first | exact ⟨vp_in_nI hlt (by omega), trivial⟩ | exact vp_in_nI hlt (by omega)
        rw [xe, x8]
        refine ⟨oe, Or.inl rfl, ⟨m2, o8⟩, rfl, fun _ => rfl, by rw [nI_clamp (by omega)], ?_⟩
        exact pool_new hI hlt hnf A2 hx
    · simp only [c2, ↓reduceIte]
      have h := bad1 (ok_X8_many (nI x) M ∧ ok_X8_pool_41 (nI x) 1 M) ⟨m2, by unfold ok_X8_pool_41; rw [if_neg z1]; trivial⟩
      exact ⟨trivial, h⟩
  · have hbad : a1 < 0 ∨ (1 <<< (nI nf &&& 31) : Int32) ≤ a1 := by
      by_cases c : a1 < 0
      · exact Or.inl c
      · obtain ⟨x, hx, rfl⟩ := nI_of c
        rw [hs.1]
        by_cases c' : x < 2 ^ nf
        · exact absurd ((mask_eq hnf _).mpr ⟨x, c', rfl⟩) c1
        · exact Or.inr (nI_le (by omega) (by omega))
    have e41 : ok_X8_pool_41 a1 1 M := by unfold ok_X8_pool_41; rw [if_neg z1]; trivial
    simp only [c1, ↓reduceIte]
    by_cases c : a1 < 0
    · simp only [c, ↓reduceIte]
      have h := bad1 (ok_X8_pool_41 a1 1 M) e41
      exact ⟨trivial, h⟩
    · have c' : (1 <<< (nI nf &&& 31) : Int32) ≤ a1 := by rcases hbad with h | h; exact absurd h c; exact h
      simp only [c, c', ↓reduceIte]
      have h := bad1 (ok_X8_pool_41 a1 1 M) e41
      exact ⟨trivial, h⟩
end
