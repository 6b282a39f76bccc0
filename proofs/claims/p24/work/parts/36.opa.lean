noncomputable section
theorem nI_12 {a : Nat} (h : a ≤ 12) : (nI a = 12 ↔ a = 12) := by
  have e : (12 : Int32) = nI 12 := by decide
  rw [e]; exact nI_eq (by omega) (by omega)
theorem nI_sub1 {a : Nat} : nI a + 1 - 1 = nI a := by rw [nI_1, nI_pred]
theorem cr_fencer : CR_fencer := by
  intro n nb np C M hn hI
  obtain ⟨⟨a1, ⟨nf, hf, a2⟩, ar⟩, hB, hZ, hP, hF, hO, hG, hK⟩ := hI
  have key : ∀ C' M', Ag (fun c k => !(c == 7)) C C' → Ag (fun c k => !(c == 8 && (k == 0 || k == 31))) M M' → gR C' 7 8 = gR C 7 8 → (∃ nf' : Nat, nf ≤ nf' ∧ nf' ≤ 12 ∧ gV M' 8 0 0 = nI nf') → qA C' M' nb np → I2 (n + 1) nb np C' M' := by
    intro C' M' hC hM hR hfn hA
    obtain ⟨nf', hle, hf', e'⟩ := hfn
    refine ⟨hA, fun i hi => qB_t hC hM (by simp) np i (hB i hi), fun i hi => qZ_t hC hM (by simp) i (hZ i hi), qP_up (qP_t hC hM hR (by simp) n nb np hP), qF_t hC hM (by simp) hF, fun j hj => ?_, fun j hj => ?_, qK_t hC hM (by simp) hK⟩
    · have h := hO j hj
      have eT : ∀ (j : Nat) (f w : Int32) (i r : Nat), TS M' j f w i r = TS M j f w i r := fun j f w i r => TS_t hM (by simp) j f w r i
      have e1 : ∀ k, gV C' 5 j k = gV C 5 j k := fun k => hC 5 j k rfl
      have e4 : ∀ k, gV C' 18 j k = gV C 18 j k := fun k => hC 18 j k rfl
      have e6 : ∀ n k, gV M' 36 n k = gV M 36 n k := fun n k => hM 36 n k rfl
      have e7 : ∀ n k, gV M' 37 n k = gV M 37 n k := fun n k => hM 37 n k rfl
      unfold qO at h ⊢
      simp only [e1, e4, e6, e7, eT]
      obtain ⟨p1, p2, ⟨a, nf2, b1, b2, b3, b4⟩, pr⟩ := h
      refine ⟨p1, p2, ⟨a, nf', hf', e', ?_, b4⟩, pr⟩
      have e3 : nf = nf2 := (nI_eq (by omega) (by omega)).mp (a2.symm.trans b2)
      subst e3
      exact Nat.lt_of_lt_of_le b3 (Nat.pow_le_pow_right (by omega) hle)
    · rw [hM 37 0 j rfl]; exact hG j hj
  unfold x_X7_fencer x_X8_fencer x_X8_fencer_15 x_X8_thrown
  have lt : (nI nf < 12) ↔ nf < 12 := by
    have e : (12 : Int32) = nI 12 := by decide
    rw [e]; exact nI_ltI (by omega) (by omega)
  rw [a1, a2]
  by_cases c : nf = 12
  · rw [if_neg (fun h => by have := lt.mp h; omega), if_pos ((nI_12 hf).mpr c), if_neg (by decide)]
    refine ⟨Or.inr (Or.inl ⟨rfl, by decide⟩), ?_, ?_, ?_⟩
    · simp [gV_sV, wK]
    · intro h; exact absurd h Nat.one_ne_zero
    · refine key _ _ (Ag.rf _ _) (Ag_sV _ _ _ _ rfl (Ag.rf _ _)) rfl ⟨nf, by omega, hf, ?_⟩ ?_
      · simp [gV_sV, a2]
      · unfold qA
        simp only [gV_sV]
        simp only [a1, a2]
        exact ⟨rfl, ⟨nf, hf, rfl⟩, ar⟩
  · rw [if_pos (lt.mpr (by omega)), if_neg (fun h => c ((nI_12 hf).mp h)), if_pos (by decide)]
    refine ⟨Or.inl rfl, ?_, ?_, ?_⟩
    · simp [gV_sV, wK]
    · intro h; exact nI_sub1.symm
    · refine key _ _ (Ag_sV _ _ _ _ rfl (Ag.rf _ _)) (Ag_sV _ _ _ _ rfl (Ag_sV _ _ _ _ rfl (Ag.rf _ _))) rfl ⟨nf + 1, by omega, by omega, ?_⟩ ?_
      · simp [gV_sV, nI_1]
      · unfold qA
        simp only [gV_sV, gL_sV, gR_sV]
        refine ⟨rfl, ⟨nf + 1, by omega, nI_1 nf⟩, ar⟩
theorem cr_reason : CR_reason := by
  intro n nb np C M hn hI
  unfold x_X7_reason x_X8_reason
  exact ⟨hI.1.2.2.2.2.2.2.2.2.1, I2_up (I2_th 0 hI)⟩
theorem cr_seed : CR_seed := by
  intro n nb np C M a1 hn hI
  unfold x_X7_seed x_X8_seed x_X8_seed_10 x_X8_seed_27 x_X8_thrown
  by_cases c : 0 ≤ a1
  · rw [if_pos c, if_pos c, if_pos c]
    refine ⟨Or.inl rfl, rfl, ?_⟩
    obtain ⟨hA, hB, hZ, hP, hF, hO, hG, hK⟩ := hI
    have hC : Ag (fun _ _ => true) C (sL C 3 0 a1.toInt64) := Ag_sL _ _ _ (Ag.rf _ _)
    have hM : Ag (fun c k => !(c == 8 && k == 31)) M (sL (sV M 8 0 31 0) 8 1 a1.toInt64) := Ag_sL _ _ _ (Ag_sV _ _ _ _ rfl (Ag.rf _ _))
    refine ⟨?_, fun i hi => qB_t hC hM (by simp) np i (hB i hi), fun i hi => qZ_t hC hM (by simp) i (hZ i hi), qP_up (qP_t hC hM rfl (by simp) n nb np hP), qF_t hC hM (by simp) hF, fun j hj => qO_t hC hM (by simp) nb j (hO j hj), fun j hj => ?_, qK_t hC hM (by simp) hK⟩
    · unfold qA at hA ⊢
      obtain ⟨b1, b2, b3, b4, b5, b6, b7, b8, b9, b10, b11, b12, b13, b14⟩ := hA
      simp only [gV_sV, gV_sL, gL_sL, gR_sL]
      refine ⟨by simpa using b1, by simpa using b2, b3, b4, by simpa using b5, b6, b7, by simpa using b8, by simpa using b9, by simp, ?_, ?_, b13, b14⟩
      · rw [if_pos (by decide), Int32.toInt_toInt64]
        have := Int32.le_iff_toInt_le.mp c
        simpa using this
      · rw [if_pos (by decide), Int32.toInt_toInt64]
        have := Int32.toInt_lt a1
        omega
    · rw [hM 37 0 j rfl]; exact hG j hj
  · rw [if_neg c, if_neg c, if_neg c]
    refine ⟨Or.inr (Or.inr (Or.inl ⟨rfl, by decide⟩)), rfl, ?_⟩
    have h := I2_up (I2_th 1 hI)
    refine I2_m (M := sV M 8 0 31 1) ⟨fun _ _ _ _ => rfl, ?_⟩ h
    rw [gL_sL, if_pos ⟨rfl, rfl⟩]
    rfl
theorem side_eq (y : Int32) (C M : St) : x_X7_isSide y C = x_X8_isSide y M := by
  unfold x_X7_isSide x_X7_isSide_9 x_X8_isSide x_X8_isIn x_X8_isIn_14
  by_cases h0 : y = 0
  · subst h0; rfl
  · rw [if_neg h0]
    by_cases h1 : y = 1
    · subst h1; rfl
    · rw [if_neg h1]
      by_cases c : y < 0
      · rw [if_pos c]; rfl
      · rw [if_neg c, if_pos]; · rfl
        simp only [Int32.lt_iff_toInt_lt, ← Int32.toInt_inj, Int32.reduceToInt] at *
        omega
theorem side_01 {y : Int32} {C : St} (h : ¬ x_X7_isSide y C = 0) : y = 0 ∨ y = 1 := by
  unfold x_X7_isSide at h
  by_cases h0 : y = 0
  · exact Or.inl h0
  · by_cases h1 : y = 1
    · exact Or.inr h1
    · rw [if_neg h0, if_neg h1] at h; exact absurd rfl h
theorem in_eq (y a b : Int32) (C M : St) : x_X7_isWithin y a b C = x_X8_isIn y a b M := rfl
theorem in_of {y a b : Int32} {C : St} (h : ¬ x_X8_isIn y a b C = 0) : ¬ y < a ∧ ¬ b < y := by
  unfold x_X8_isIn at h
  by_cases h0 : y < a
  · rw [if_pos h0] at h; exact absurd rfl h
  · by_cases h1 : b < y
    · rw [if_neg h0, if_pos h1] at h; exact absurd rfl h
    · exact ⟨h0, h1⟩
theorem in_nI {y : Int32} {b : Nat} {C : St} {B : Int32} (hB : B.toInt = b) (h : ¬ x_X8_isIn y 0 B C = 0) : ∃ a : Nat, a ≤ b ∧ y = nI a := by
  obtain ⟨h0, h1⟩ := in_of h
  refine nI_of2 hB h0 ?_
  rw [Int32.not_lt] at h1; exact h1
theorem isEntry_pos {C : St} {c k : Nat} (hc : gV C 4 0 6 = nI c) (h24 : c ≤ 24) (hk : k < c) : x_X4_isEntry (nI k) C = 1 := by
  unfold x_X4_isEntry
  rw [hc, if_neg (nI_pos (by omega)), if_neg (nI_ge hk (by omega)), if_neg]
  have e : (24 : Int32) = nI 24 := by decide
  rw [e]; exact nI_ge (by omega) (by omega)
theorem timeAt_k {C : St} {c k : Nat} (hc : gV C 4 0 6 = nI c) (h24 : c ≤ 24) (hk : k < c) : x_X4_timeAt (nI k) C = gV C 13 0 k := by
  unfold x_X4_timeAt
  rw [isEntry_pos hc h24 hk, if_neg (by decide), nI_clamp (by omega)]
theorem targetAt_k {C : St} {c k : Nat} (hc : gV C 4 0 6 = nI c) (h24 : c ≤ 24) (hk : k < c) : x_X4_targetAt (nI k) C = gV C 15 0 k := by
  unfold x_X4_targetAt
  rw [isEntry_pos hc h24 hk, if_neg (by decide), nI_clamp (by omega)]
theorem ok_timeAt {C : St} {c k : Nat} (h24 : c ≤ 24) (hk : k < c) : ok_X4_timeAt (nI k) C := by
  unfold ok_X4_timeAt
  split
  · trivial
  · exact ⟨vp_in_nI (by omega) (by omega), trivial⟩
theorem ok_targetAt {C : St} {c k : Nat} (h24 : c ≤ 24) (hk : k < c) : ok_X4_targetAt (nI k) C := by
  unfold ok_X4_targetAt
  split
  · trivial
  · exact ⟨vp_in_nI (by omega) (by omega), trivial⟩
theorem n24 : (24 : Int32) = nI 24 := by decide
theorem room_eq {n nb np : Nat} {C M : St} (y : Int32) (hy : ∃ a : Nat, a ≤ 1000000 ∧ y = nI a) (hP : qP C M n nb np) (hnb : nb ≤ 80) (hF : qF C M) :
    x_X7_checkRoomInPhrase y C = (if x_X8_may y M = 0 then 1 else 0, C) ∧ ok_X7_checkRoomInPhrase y C ∧ ok_X8_may y M ∧ (¬ x_X8_may y M = 0 → ∃ c : Nat, c < 24 ∧ gV C 4 0 6 = nI c ∧ gV M 8 0 17 = nI c ∧ ¬ gR C 7 8 = none) := by
  obtain ⟨hP1, hP2⟩ := hP
  obtain ⟨c, hc, hc1, hc2, hE⟩ := hF
  unfold x_X7_checkRoomInPhrase ok_X7_checkRoomInPhrase x_X8_may ok_X8_may x_X7_checkRoomInPhrase_28 x_X8_may_43 x_X8_may_39
  rcases hP2 with ⟨g1, g2, g3⟩ | ⟨b, hb, g1, g2, g3⟩
  · rw [g1, g2, if_pos rfl, if_pos rfl, if_pos rfl]
    exact ⟨rfl, trivial, trivial, fun h => absurd rfl h⟩
  · have gb : ¬ gV M 8 0 4 = -1 := by
      rw [g2]; intro e
      have := nI_toInt (n := b) (by omega); rw [e] at this
      have h2 : ((-1 : Int32)).toInt = -1 := by decide
      omega
    rw [g1, if_neg gb, if_neg gb, hc2]
    show (if y < x_X4_lastTime C then (1, C) else if x_X4_isFull C = 0 then (0, C) else (1, C)) = _ ∧ (ok_X4_lastTime C ∧ (if y < x_X4_lastTime C then _ else if x_X4_isFull C = 0 then True else _)) ∧ _
    unfold x_X4_isFull
    rw [hc1, n24]
    by_cases c24 : c = 24
    · subst c24
      rw [if_pos (nI_le (by omega) (by omega)), if_neg (nI_nlt (by omega) (by omega)), if_pos rfl]
      refine ⟨by split <;> rfl, ⟨?_, by split <;> trivial⟩, by rw [if_pos (nI_le (by omega) (by omega))]; trivial, fun h => absurd rfl h⟩
      unfold ok_X4_lastTime
      rw [hc1]
      split
      · trivial
      · exact ⟨by rw [show nI 24 - 1 = nI 23 from nI_pred 23]; exact ok_timeAt (by omega) (show 23 < 24 by omega), trivial⟩
    · have hlt : c < 24 := by omega
      rw [if_neg (nI_ge (by omega) (by omega)), if_pos (nI_lt hlt (by omega)), if_pos rfl, if_pos rfl]
      unfold x_X4_lastTime ok_X4_lastTime
      rw [hc1]
      obtain ⟨a, ha, rfl⟩ := hy
      cases c with
      | zero =>
        rw [if_pos nI_0, if_pos nI_0, if_pos nI_0, if_neg (nI_pos (by omega)), if_neg (by decide)]
        refine ⟨rfl, ⟨trivial, by split <;> trivial⟩, by rw [if_neg (by decide), if_pos nI_0]; trivial, fun _ => ⟨0, by omega, rfl, rfl, by simp⟩⟩
      | succ c =>
        have e0 : ¬ nI (c + 1) = 0 := nI_ne0 (by omega) (by omega)
        rw [if_neg e0, if_neg e0, if_neg e0, nI_pred, timeAt_k hc1 (by omega) (show c < c + 1 by omega), nI_clamp (by omega)]
        have et : gV C 13 0 c = gV M 33 0 c := (hE c (by omega)).2.2.1
        rw [et]
        refine ⟨?_, ⟨⟨ok_timeAt (show c + 1 ≤ 24 by omega) (by omega), trivial⟩, by split <;> trivial⟩, ?_, fun _ => ⟨c + 1, by omega, rfl, rfl, by simp⟩⟩
        · split <;> rfl
        · rw [if_neg (nI_ge (by omega) (by omega)), if_neg e0]
          exact ⟨vp_in_nI (by omega) (by omega), by split <;> trivial⟩
theorem phr {n nb np c : Nat} {C M C' M' : St} (hI : I2 n nb np C M) (hc1 : gV C 4 0 6 = nI c) (hc : c < 24) (hn : ¬ gR C 7 8 = none)
    (hC : Ag (fun c k => !(c == 4 || (decide (11 ≤ c) && decide (c ≤ 15)))) C C') (hM : Ag (fun c k => !((c == 8 && (k == 17 || k == 31)) || (decide (31 ≤ c) && decide (c ≤ 35)))) M M') (hR : ∀ a k, gR C' a k = gR C a k) (hL : gL C' 3 0 = gL C 3 0) (hLM : gL M' 8 1 = gL M 8 1)
    (h1 : gV C' 4 0 6 = nI (c + 1)) (h2 : gV M' 8 0 17 = nI (c + 1)) (h3 : ∀ x k, 11 ≤ x → x ≤ 15 → k < c → gV C' x 0 k = gV C x 0 k) (h4 : ∀ x k, 31 ≤ x → x ≤ 35 → k < c → gV M' x 0 k = gV M x 0 k) (h5 : qE C' M' c) : I2 (n + 1) nb np C' M' := by
  obtain ⟨hA, hB, hZ, hP, ⟨c', hc', e1, e2, hE⟩, hO, hG, hK⟩ := hI
  have ec : c = c' := (nI_eq (by omega) (by omega)).mp (hc1.symm.trans e1)
  subst ec
  refine ⟨?_, fun i hi => qB_t hC hM (by simp) np i (hB i hi), fun i hi => qZ_t hC hM (by simp) i (hZ i hi), qP_up ?_, ⟨c + 1, by omega, h1, h2, ?_⟩, fun j hj => qO_t hC hM (by simp) nb j (hO j hj), fun j hj => by rw [hM 37 0 j rfl]; exact hG j hj, qK_t hC hM (by simp) hK⟩
  · unfold qA at hA ⊢
    rw [hC 7 0 5 rfl, hC 7 0 6 rfl, hC 7 0 7 rfl, hC 7 0 9 rfl, hM 8 0 0 rfl, hM 8 0 3 rfl, hM 8 0 23 rfl, hM 8 0 2 rfl, hL, hLM]
    simp only [hR]
    exact hA
  · obtain ⟨p1, p2⟩ := hP
    refine ⟨fun i hi => by rw [hM 25 0 i rfl, hR]; exact p1 i hi, ?_⟩
    rcases p2 with ⟨g1, -⟩ | ⟨b, g1, g2, g3, g4, g5, g6, g7⟩
    · exact absurd g1 hn
    · exact Or.inr ⟨b, g1, by rw [hR]; exact g2, by rw [hM 8 0 4 rfl]; exact g3, qC_t hC hM (by simp) n b 0 g4, qC_t hC hM (by simp) n b 1 g5, qT_t hC hM (by simp) b g6, qG_t hC hM (by simp) np b g7⟩
  · intro k hk
    by_cases ck : k = c
    · subst ck; exact h5
    · have hk' : k < c := by omega
      have h := hE k hk'
      unfold qE at h ⊢
      simp only [h3 11 k (by omega) (by omega) hk', h3 12 k (by omega) (by omega) hk', h3 13 k (by omega) (by omega) hk', h3 14 k (by omega) (by omega) hk', h3 15 k (by omega) (by omega) hk', h4 31 k (by omega) (by omega) hk', h4 32 k (by omega) (by omega) hk', h4 33 k (by omega) (by omega) hk', h4 34 k (by omega) (by omega) hk', h4 35 k (by omega) (by omega) hk']
      exact h
theorem failS {n nb np : Nat} {C M M' : St} {a b d s0 v8 : Int32} {e : Nat} {okm : Prop} (hI : I2 n nb np C M) (he : e ≠ 0) (hE : eIn a b d e) (hw : s0 = wK a b d e) (hok : okm) (hM : M' = sV M 8 0 31 s0) : eIn a b d (e, (0 : Int32), C).1 ∧ okm ∧ gV M' 8 0 31 = wK a b d (e, (0 : Int32), C).1 ∧ ((e, (0 : Int32), C).1 = 0 → (e, (0 : Int32), C).2.1 = v8) ∧ I2 (n + 1) nb np (e, (0 : Int32), C).2.2 M' := by
  subst hM
  exact ⟨hE, hok, by rw [gV_sV, if_pos ⟨rfl, rfl, rfl⟩]; exact hw, fun h => absurd h he, I2_up (I2_th s0 hI)⟩
theorem in_0 {y : Int32} (h : y = 0 ∨ y = 1) : True := trivial
theorem cr_act : CR_act := by
  intro n nb np C M a1 a2 a3 hn hI
  obtain ⟨hA, hB, hZ, hP, hF, hO, hG, hK⟩ := id hI
  unfold x_X7_act ok_X7_act x_X8_act ok_X8_act x_X8_thrown
  rw [side_eq a1 C M, in_eq a2 0 6 C M, in_eq a3 0 1000000 C M]
  by_cases c1 : x_X8_isSide a1 M = 0
  · simp only [c1, ↓reduceIte]
    exact ⟨trivial, failS hI (by decide) (Or.inr (Or.inr (Or.inl ⟨rfl, by decide⟩))) (s0 := 1) rfl trivial rfl⟩
  by_cases c2 : x_X8_isIn a2 0 6 M = 0
  · simp only [c1, c2, ↓reduceIte]
    exact ⟨trivial, failS hI (by decide) (Or.inr (Or.inr (Or.inl ⟨rfl, by decide⟩))) (s0 := 1) rfl trivial rfl⟩
  by_cases c3 : x_X8_isIn a3 0 1000000 M = 0
  · simp only [c1, c2, c3, ↓reduceIte]
    exact ⟨trivial, failS hI (by decide) (Or.inr (Or.inr (Or.inl ⟨rfl, by decide⟩))) (s0 := 1) rfl trivial rfl⟩
  obtain ⟨r1, r2, r3, r4⟩ := room_eq a3 (in_nI (by decide) c3) hP hA.2.2.1 hF
  by_cases c4 : x_X8_may a3 M = 0
  · simp only [c1, c2, c3, c4, r1, ↓reduceIte, Nat.one_ne_zero]
    obtain ⟨k1, k2, k3, k4, k5⟩ := failS (v8 := (x_X8_act_45 a1 a2 a3 2 M).1) hI (by decide) (Or.inr (Or.inl ⟨rfl, by decide⟩)) (s0 := 2) (a := 2) (b := 1) (d := 0) (e := 1) rfl trivial rfl
    exact ⟨⟨r2, trivial⟩, k1, ⟨r3, trivial⟩, k3, fun h => h.elim, k5⟩
  obtain ⟨c, h24, hc1, hc2, hn⟩ := r4 c4
  obtain ⟨s, hs, rfl⟩ := in_nI (b := 1000000) (by decide) c3
  obtain ⟨kd, hkd, rfl⟩ := in_nI (b := 6) (by decide) c2
  have hsd := side_01 (C := C) (by rw [side_eq a1 C M]; exact c1)
  simp only [c1, c2, c3, c4, r1, ↓reduceIte]
  have z : ¬ (2 : Int32) ≤ 0 := by decide
  have z0 : (0 : Int32) ≤ 0 := by decide
  have q1 : x_X4_addAction a1 (nI kd) (nI s) C = (nI (c + 1), sV (sV (sV (sV (sV (sV C 11 0 c a1) 12 0 c (nI kd)) 13 0 c (nI s)) 14 0 c 0) 15 0 c (-1)) 4 0 6 (nI (c + 1))) := by
    unfold x_X4_addAction x_X4_append x_X4_append_78
    rw [hc1, n24, if_neg (nI_pos (by omega)), if_neg (nI_ge h24 (by omega)), nI_clamp (by omega), nI_1]
    simp only [gV_sV, and_self, ↓reduceIte]
  have q2 : ok_X4_addAction a1 (nI kd) (nI s) C := by
    unfold ok_X4_addAction ok_X4_append ok_X4_append_78
    have hv : vp_in (nI c) 24 := vp_in_nI h24 (by omega)
    rw [hc1, n24, if_neg (nI_pos (by omega)), if_neg (nI_ge h24 (by omega))]
    exact ⟨⟨hv, hv, hv, hv, hv, trivial⟩, trivial⟩
  have q3 : x_X8_act_45 a1 (nI kd) (nI s) 0 M = (nI (c + 1), sV (sV (sV (sV (sV M 8 0 31 0) 31 0 c a1) 32 0 c (nI kd)) 33 0 c (nI s)) 8 0 17 (nI (c + 1))) := by
    unfold x_X8_act_45 x_X8_puts
    have e : gV (sV M 8 0 31 0) 8 0 17 = nI c := by rw [gV_sV, if_neg (by decide)]; exact hc2
    rw [if_pos z0, e, nI_clamp (by omega), nI_1]
  have q4 : ok_X8_act_45 a1 (nI kd) (nI s) 0 M := by
    unfold ok_X8_act_45 ok_X8_puts
    have e : gV (sV M 8 0 31 0) 8 0 17 = nI c := by rw [gV_sV, if_neg (by decide)]; exact hc2
    have hv : vp_in (nI c) 24 := vp_in_nI h24 (by omega)
    rw [if_pos z0, e]
    exact ⟨⟨hv, hv, hv, trivial⟩, trivial⟩
  rw [q1, q3]
  refine ⟨⟨r2, q2, trivial⟩, Or.inl rfl, ⟨r3, q4⟩, ?_, fun _ => rfl, ?_⟩
  · simp [gV_sV, wK]
  · refine phr hI hc1 h24 hn ?_ ?_ (fun _ _ => rfl) rfl rfl ?_ ?_ ?_ ?_ ?_
    · repeat first | exact Ag.rf _ _ | refine Ag_sV _ _ _ _ rfl ?_
    · repeat first | exact Ag.rf _ _ | refine Ag_sV _ _ _ _ rfl ?_
    · simp [gV_sV]
    · simp [gV_sV]
    · intro x k h11 h15 hk
      have : ¬ k = c := by omega
      have : ¬ x = 4 := by omega
      simp [gV_sV, *]
    · intro x k h11 h15 hk
      have : ¬ k = c := by omega
      have : ¬ x = 8 := by omega
      simp [gV_sV, *]
    · unfold qE
      simp only [gV_sV]
      simp
      exact ⟨hsd, ⟨s, hs, rfl⟩, Or.inr ⟨kd, hkd, rfl⟩⟩
theorem cr_hit : CR_hit := by
  intro n nb np C M a1 a2 a3 a4 hn hI
  obtain ⟨hA, hB, hZ, hP, hF, hO, hG, hK⟩ := id hI
  unfold x_X7_hit ok_X7_hit x_X8_hit ok_X8_hit x_X8_thrown
  rw [side_eq a1 C M, in_eq a2 0 1000000 C M, in_eq a3 0 1000 C M, in_eq a4 0 2 C M]
  by_cases c1 : x_X8_isSide a1 M = 0
  · simp only [c1, ↓reduceIte]
    exact ⟨trivial, failS hI (by decide) (Or.inr (Or.inr (Or.inl ⟨rfl, by decide⟩))) (s0 := 1) rfl trivial rfl⟩
  by_cases c2 : x_X8_isIn a2 0 1000000 M = 0
  · simp only [c1, c2, ↓reduceIte]
    exact ⟨trivial, failS hI (by decide) (Or.inr (Or.inr (Or.inl ⟨rfl, by decide⟩))) (s0 := 1) rfl trivial rfl⟩
  by_cases c3 : x_X8_isIn a3 0 1000 M = 0
  · simp only [c1, c2, c3, ↓reduceIte]
    exact ⟨trivial, failS hI (by decide) (Or.inr (Or.inr (Or.inl ⟨rfl, by decide⟩))) (s0 := 1) rfl trivial rfl⟩
  by_cases c5 : x_X8_isIn a4 0 2 M = 0
  · simp only [c1, c2, c3, c5, ↓reduceIte]
    exact ⟨trivial, failS hI (by decide) (Or.inr (Or.inr (Or.inl ⟨rfl, by decide⟩))) (s0 := 1) rfl trivial rfl⟩
  obtain ⟨r1, r2, r3, r4⟩ := room_eq a2 (in_nI (by decide) c2) hP hA.2.2.1 hF
  by_cases c4 : x_X8_may a2 M = 0
  · simp only [c1, c2, c3, c4, c5, r1, ↓reduceIte, Nat.one_ne_zero]
    obtain ⟨k1, k2, k3, k4, k5⟩ := failS (v8 := (x_X8_hit_56 a1 a2 a3 a4 2 M).1) hI (by decide) (Or.inr (Or.inl ⟨rfl, by decide⟩)) (s0 := 2) (a := 2) (b := 1) (d := 0) (e := 1) rfl trivial rfl
    exact ⟨⟨r2, trivial⟩, k1, ⟨r3, trivial⟩, k3, fun h => h.elim, k5⟩
  obtain ⟨c, h24, hc1, hc2, hn⟩ := r4 c4
  obtain ⟨s, hs, rfl⟩ := in_nI (b := 1000000) (by decide) c2
  have hsd := side_01 (C := C) (by rw [side_eq a1 C M]; exact c1)
  simp only [c1, c2, c3, c4, c5, r1, ↓reduceIte]
  have z0 : (0 : Int32) ≤ 0 := by decide
  have hv : vp_in (nI c) 24 := vp_in_nI h24 (by omega)
  have q1 : x_X4_addContact a1 (nI s) a3 a4 C = (nI (c + 1), sV (sV (sV (sV (sV (sV C 11 0 c a1) 12 0 c (-1)) 13 0 c (nI s)) 14 0 c a3) 15 0 c a4) 4 0 6 (nI (c + 1))) := by
    unfold x_X4_addContact x_X4_append x_X4_append_78
    rw [hc1, n24, if_neg (nI_pos (by omega)), if_neg (nI_ge h24 (by omega)), nI_clamp (by omega), nI_1]
    simp only [gV_sV, and_self, ↓reduceIte]
  have q2 : ok_X4_addContact a1 (nI s) a3 a4 C := by
    unfold ok_X4_addContact ok_X4_append ok_X4_append_78
    rw [hc1, n24, if_neg (nI_pos (by omega)), if_neg (nI_ge h24 (by omega))]
    exact ⟨⟨hv, hv, hv, hv, hv, trivial⟩, trivial⟩
  have q3 : x_X8_hit_56 a1 (nI s) a3 a4 0 M = (nI (c + 1), sV (sV (sV (sV (sV (sV (sV M 8 0 31 0) 34 0 c a3) 35 0 c a4) 31 0 c a1) 32 0 c 7) 33 0 c (nI s)) 8 0 17 (nI (c + 1))) := by
    unfold x_X8_hit_56 x_X8_puts
    have e : ∀ a b x y, gV (sV (sV (sV M 8 0 31 0) 34 0 a x) 35 0 b y) 8 0 17 = nI c := fun a b x y => by
      simp only [gV_sV]; simp; exact hc2
    rw [if_pos z0, e, hc2, nI_clamp (by omega), nI_1]
  have q4 : ok_X8_hit_56 a1 (nI s) a3 a4 0 M := by
    unfold ok_X8_hit_56 ok_X8_puts
    have e : ∀ a b x y, gV (sV (sV (sV M 8 0 31 0) 34 0 a x) 35 0 b y) 8 0 17 = nI c := fun a b x y => by
      simp only [gV_sV]; simp; exact hc2
    rw [if_pos z0, e, hc2]
    exact ⟨hv, hv, ⟨hv, hv, hv, trivial⟩, trivial⟩
  rw [q1, q3]
  refine ⟨⟨r2, q2, trivial⟩, Or.inl rfl, ⟨r3, q4⟩, ?_, fun _ => rfl, ?_⟩
  · simp [gV_sV, wK]
  · refine phr hI hc1 h24 hn ?_ ?_ (fun _ _ => rfl) rfl rfl ?_ ?_ ?_ ?_ ?_
    · repeat first | exact Ag.rf _ _ | refine Ag_sV _ _ _ _ rfl ?_
    · repeat first | exact Ag.rf _ _ | refine Ag_sV _ _ _ _ rfl ?_
    · simp [gV_sV]
    · simp [gV_sV]
    · intro x k h11 h15 hk
      have : ¬ k = c := by omega
      have : ¬ x = 4 := by omega
      simp [gV_sV, *]
    · intro x k h11 h15 hk
      have : ¬ k = c := by omega
      have : ¬ x = 8 := by omega
      simp [gV_sV, *]
    · unfold qE
      simp only [gV_sV]
      simp
      exact ⟨hsd, ⟨s, hs, rfl⟩⟩
theorem ix_out {y : Int32} {k : Nat} (hk : k ≤ 80) (M : St) (h : y < 0 ∨ nI k ≤ y) : x_X8_isIn y 0 (nI k - 1) M = 0 := by
  unfold x_X8_isIn x_X8_isIn_14
  by_cases c : y < 0
  · rw [if_pos c]
  · rw [if_neg c, if_pos]
    rcases h with h | h
    · exact absurd h c
    · have e := nI_toInt (n := k) (by omega)
      simp only [Int32.le_iff_toInt_le, Int32.lt_iff_toInt_lt, Int32.toInt_sub, Int.bmod, Int32.reduceToInt, e] at *
      omega
theorem ix_in {j k : Nat} (hk : k ≤ 80) (M : St) (h : j < k) : x_X8_isIn (nI j) 0 (nI k - 1) M = 1 := by
  unfold x_X8_isIn x_X8_isIn_14
  rw [if_neg (nI_pos (by omega)), if_neg]
  have e1 : nI k - 1 = nI (k - 1) := by
    obtain ⟨m, rfl⟩ : ∃ m, k = m + 1 := ⟨k - 1, by omega⟩
    exact nI_pred m
  rw [e1]
  exact nI_nlt (by omega) (by omega)
theorem boutAt_in {C : St} {i nb : Nat} (hnb : nb ≤ 80) (h : gV C 7 0 6 = nI nb) (hR : ∀ i, i < nb → gR C 9 i = some i) (hi : i < nb) : x_X7_boutAt (nI i) C = some i ∧ ok_X7_boutAt (nI i) C := by
  unfold x_X7_boutAt ok_X7_boutAt
  have e : (80 : Int32) = nI 80 := by decide
  rw [h, if_neg (nI_pos (by omega)), if_neg (nI_ge hi (by omega)), e, if_neg (nI_ge (by omega) (by omega)), nI_clamp (by omega), if_neg (nI_pos (by omega)), if_neg (nI_ge hi (by omega)), if_neg (nI_ge (by omega) (by omega))]
  exact ⟨hR i hi, vp_in_nI (by omega) (by omega), trivial⟩
theorem boutAt_out {C : St} {y : Int32} {nb : Nat} (h : gV C 7 0 6 = nI nb) (hi : y < 0 ∨ nI nb ≤ y) : x_X7_boutAt y C = none ∧ ok_X7_boutAt y C := by
  unfold x_X7_boutAt ok_X7_boutAt x_X7_boutAt_30 ok_X7_boutAt_30
  rw [h]
  by_cases c : y < 0
  · rw [if_pos c, if_pos c]; exact ⟨rfl, trivial⟩
  · have c2 : nI nb ≤ y := by rcases hi with h | h; exact absurd h c; exact h
    rw [if_neg c, if_neg c, if_pos c2, if_pos c2]; exact ⟨rfl, trivial⟩
theorem poolOf_in {C : St} {j np : Nat} (hnp : np ≤ 6) (h : gV C 7 0 7 = nI np) (hR : ∀ j, j < np → gR C 10 j = some j) (hj : j < np) : x_X7_poolOf (nI j) C = some j ∧ ok_X7_poolOf (nI j) C := by
  unfold x_X7_poolOf ok_X7_poolOf
  have e : (6 : Int32) = nI 6 := by decide
  rw [h, if_neg (nI_pos (by omega)), if_neg (nI_ge hj (by omega)), e, if_neg (nI_ge (by omega) (by omega)), nI_clamp (by omega), if_neg (nI_pos (by omega)), if_neg (nI_ge hj (by omega)), if_neg (nI_ge (by omega) (by omega))]
  exact ⟨hR j hj, vp_in_nI (by omega) (by omega), trivial⟩
theorem poolOf_out {C : St} {y : Int32} {np : Nat} (h : gV C 7 0 7 = nI np) (hi : y < 0 ∨ nI np ≤ y) : x_X7_poolOf y C = none ∧ ok_X7_poolOf y C := by
  unfold x_X7_poolOf ok_X7_poolOf x_X7_poolOf_30 ok_X7_poolOf_30
  rw [h]
  by_cases c : y < 0
  · rw [if_pos c, if_pos c]; exact ⟨rfl, trivial⟩
  · have c2 : nI np ≤ y := by rcases hi with h | h; exact absurd h c; exact h
    rw [if_neg c, if_neg c, if_pos c2, if_pos c2]; exact ⟨rfl, trivial⟩
theorem ix3 (y : Int32) (k : Nat) (hk : k ≤ 80) : (y < 0 ∨ nI k ≤ y) ∨ ∃ j, j < k ∧ y = nI j := by
  rcases pk_ix y (n := k) (by omega) with h | h | h
  · exact Or.inl (Or.inl h)
  · exact Or.inl (Or.inr h)
  · exact Or.inr h
theorem clamp2 {i : Nat} (h : i < 80) : (2 * nI i : Int32).toNatClampNeg = 2 * i := by
  have e : (2 : Int32) = nI 2 := by decide
  rw [e, pk_mul, nI_clamp (by omega)]
theorem clamp21 {i : Nat} (h : i < 80) : (2 * nI i + 1 : Int32).toNatClampNeg = 2 * i + 1 := by
  have e : (2 : Int32) = nI 2 := by decide
  rw [e, pk_mul, nI_1, nI_clamp (by omega)]
theorem cr_ofBout : CR_ofBout := by
  intro n nb np C M a1 a2 hn hI
  obtain ⟨⟨A1, A2, A3, A4, A5, A6, A7, A8, A9, A10, A11, A12, A13, A14⟩, hB, hZ, hP, hF, hO, hG, hK⟩ := id hI
  unfold x_X7_ofBout ok_X7_ofBout x_X8_ofBout ok_X8_ofBout x_X8_thrown
  rw [A5]
  rcases ix3 a1 nb A3 with h | ⟨i, hi, rfl⟩
  · obtain ⟨e1, e2⟩ := boutAt_out (C := C) A4 h
    rw [e1, ix_out A3 M h]
    simp only [↓reduceIte]
    exact ⟨⟨e2, trivial⟩, failS hI (e := 3) (by decide) (Or.inr (Or.inr (Or.inr ⟨rfl, by decide⟩))) (s0 := 1) rfl trivial rfl⟩
  obtain ⟨e1, e2⟩ := boutAt_in (C := C) A3 A4 A13 hi
  rw [e1, ix_in A3 M hi, in_eq a2 0 5 C M]
  have z : ¬ (1 : Int32) = 0 := by decide
  simp only [oc, z, ↓reduceIte]
  by_cases c : x_X8_isIn a2 0 5 M = 0
  · simp only [c, ↓reduceIte]
    exact ⟨⟨e2, trivial⟩, failS hI (e := 2) (by decide) (Or.inr (Or.inr (Or.inl ⟨rfl, by decide⟩))) (s0 := 2) rfl trivial rfl⟩
  simp only [c, ↓reduceIte]
  obtain ⟨w, hw, rfl⟩ := in_nI (b := 5) (by decide) c
  obtain ⟨b1, b2, b3, b4, b5, b6, b7, b8, b9, b10, b11, b12, b13, b14, b15, b16, b17, b18, b19⟩ := hB i hi
  have hv : vp_in (nI i) 80 := vp_in_nI (by omega) (by omega)
  have hv0 : vp_in (2 * nI i + nI 0) 160 := by
    have e : (2 : Int32) = nI 2 := by decide
    rw [e, pk_mul, nI_add]; exact vp_in_nI (by omega) (by omega)
  have hv1 : vp_in (2 * nI i + nI 1) 160 := by
    have e : (2 : Int32) = nI 2 := by decide
    rw [e, pk_mul, nI_add]; exact vp_in_nI (by omega) (by omega)
  have ec0 : (2 * nI i + nI 0 : Int32).toNatClampNeg = 2 * i := by
    have e : (2 : Int32) = nI 2 := by decide
    rw [e, pk_mul, nI_add, nI_clamp (by omega)]; rfl
  have ec1 : (2 * nI i + nI 1 : Int32).toNatClampNeg = 2 * i + 1 := by
    have e : (2 : Int32) = nI 2 := by decide
    rw [e, pk_mul, nI_add, nI_clamp (by omega)]
  unfold x_X0_told x_X8_ofBout_33 ok_X8_ofBout_33
  refine ⟨⟨e2, trivial⟩, Or.inl rfl, ?_⟩
  match w, hw with
  | 0, _ =>
    refine ⟨⟨hv0, trivial⟩, rfl, fun _ => ?_, I2_up (I2_th 0 hI)⟩
    show gV C 2 (2 * i) 1 = gV M 21 0 (2 * nI i + nI 0 : Int32).toNatClampNeg
    rw [ec0]; exact b6
  | 1, _ =>
    refine ⟨⟨hv1, trivial⟩, rfl, fun _ => ?_, I2_up (I2_th 0 hI)⟩
    show gV C 2 (2 * i + 1) 1 = gV M 21 0 (2 * nI i + nI 1 : Int32).toNatClampNeg
    rw [ec1]; exact b7
  | 2, _ =>
    refine ⟨⟨hv, trivial⟩, rfl, fun _ => ?_, I2_up (I2_th 0 hI)⟩
    show gV C 0 i 5 = gV M 25 0 (nI i : Int32).toNatClampNeg
    rw [nI_clamp (by omega)]; exact b15
  | 3, _ =>
    refine ⟨⟨hv, trivial⟩, rfl, fun _ => ?_, I2_up (I2_th 0 hI)⟩
    show gV C 0 i 7 = gV M 26 0 (nI i : Int32).toNatClampNeg
    rw [nI_clamp (by omega)]; exact b18
  | 4, _ =>
    refine ⟨⟨hv, trivial⟩, rfl, fun _ => ?_, I2_up (I2_th 0 hI)⟩
    show gV C 0 i 9 = gV M 27 0 (nI i : Int32).toNatClampNeg
    rw [nI_clamp (by omega)]; exact b19
  | 5, _ =>
    refine ⟨⟨hv, trivial⟩, rfl, fun _ => ?_, I2_up (I2_th 0 hI)⟩
    show gV C 0 i 6 = gV M 28 0 (nI i : Int32).toNatClampNeg
    rw [nI_clamp (by omega)]; exact b17
  | w + 6, h => exact absurd h (by omega)
theorem shr_tab : ∀ P, P < 17 → ∀ r, r < 4 → nI P >>> ((nI r + 1) &&& 31) = nI (P / 2 ^ (r + 1)) := by decide +kernel
theorem rounds_tab (M : St) : x_X8_rounds (nI 0) M = nI 0 ∧ x_X8_rounds (nI 2) M = nI 1 ∧ x_X8_rounds (nI 4) M = nI 2 ∧ x_X8_rounds (nI 8) M = nI 3 ∧ x_X8_rounds (nI 16) M = nI 4 := ⟨rfl, rfl, rfl, rfl, rfl⟩
/-- R rounds, P places -/
def RP (R P : Nat) : Prop := (R = 0 ∧ P = 0) ∨ (1 ≤ R ∧ R ≤ 4 ∧ P = 2 ^ R)
theorem RP_le {R P : Nat} (h : RP R P) : R ≤ 4 ∧ P ≤ 16 := by
  rcases h with ⟨rfl, rfl⟩ | ⟨h1, h2, rfl⟩
  · omega
  · have h : 2 ^ R ≤ 2 ^ 4 := Nat.pow_le_pow_right (by omega) h2
    exact ⟨h2, h⟩
theorem RP_rounds {R P : Nat} (h : RP R P) (M : St) : x_X8_rounds (nI P) M = nI R := by
  obtain ⟨t0, t1, t2, t3, t4⟩ := rounds_tab M
  rcases h with ⟨rfl, rfl⟩ | ⟨h1, h2, rfl⟩
  · exact t0
  · match R, h1, h2 with
    | 1, _, _ => exact t1
    | 2, _, _ => exact t2
    | 3, _, _ => exact t3
    | 4, _, _ => exact t4
    | R + 5, _, h => exact absurd h (by omega)
theorem RP_0 {R P r : Nat} (h : RP R P) (hr : R ≤ r) : P / 2 ^ (r + 1) = 0 := by
  rcases h with ⟨rfl, rfl⟩ | ⟨h1, h2, rfl⟩
  · simp
  · exact Nat.div_eq_of_lt (Nat.pow_lt_pow_right (by omega) (by omega))
theorem RP_8 {R P r : Nat} (h : RP R P) : P / 2 ^ (r + 1) ≤ 8 := by
  have h16 := (RP_le h).2
  have : 2 ^ 1 ≤ 2 ^ (r + 1) := Nat.pow_le_pow_right (by omega) (by omega)
  calc P / 2 ^ (r + 1) ≤ P / 2 := Nat.div_le_div_left this (by omega)
    _ ≤ 8 := by omega
theorem match_eq {C M : St} {R P : Nat} (hRP : RP R P) (h1 : gV C 1 0 2 = nI P) (h2 : gV M 8 0 27 = nI P) (y1 y2 : Int32) :
    (x_X1_hasMatch y1 y2 C = 0 ∧ x_X8_isMatch y1 y2 M = 0) ∨ (∃ r m : Nat, r < R ∧ m < P / 2 ^ (r + 1) ∧ y1 = nI r ∧ y2 = nI m ∧ x_X1_hasMatch y1 y2 C = 1 ∧ x_X8_isMatch y1 y2 M = 1 ∧ x_X1_matchesIn y1 C = nI (P / 2 ^ (r + 1))) := by
  have hle := RP_le hRP
  unfold x_X1_hasMatch x_X1_hasMatch_17 x_X8_isMatch x_X8_isMatch_39
  rw [h2, RP_rounds hRP]
  rcases ix3 y1 R (by omega) with h | ⟨r, hr, rfl⟩
  · left
    refine ⟨?_, by rw [ix_out (by omega) M h]; rfl⟩
    have e : x_X1_matchesIn y1 C = 0 := by
      unfold x_X1_matchesIn x_X1_matchesIn_20
      by_cases c : y1 < 0
      · rw [if_pos c]
      · rw [if_neg c]
        by_cases c3 : 3 < y1
        · rw [if_pos c3]
        · rw [if_neg c3]
          obtain ⟨r, hr, rfl⟩ := nI_of2 (x := y1) (M := 3) (n := 3) (by decide) c (by rw [Int32.not_lt] at c3; exact c3)
          have hRr : R ≤ r := by
            rcases h with h | h
            · exact absurd h c
            · exact (nI_leI (by omega) (by omega)).mp h
          rw [h1, shr_tab P (by omega) r (by omega), RP_0 hRP hRr]; rfl
    rw [e]
    by_cases c : y2 < 0
    · rw [if_pos c]
    · rw [if_neg c, if_pos]; rw [Int32.not_lt] at c; exact c
  · have e : x_X1_matchesIn (nI r) C = nI (P / 2 ^ (r + 1)) := by
      unfold x_X1_matchesIn
      have e3 : (3 : Int32) = nI 3 := by decide
      rw [if_neg (nI_pos (by omega)), e3, if_neg (nI_nlt (by omega) (by omega)), h1, shr_tab P (by omega) r (by omega)]
    have hW := RP_8 (r := r) hRP
    have z1 : ¬ (1 : Int32) = 0 := by decide
    rw [e, ix_in (by omega) M hr, if_neg z1, shr_tab P (by omega) r (by omega)]
    rcases ix3 y2 (P / 2 ^ (r + 1)) (by omega) with h | ⟨m, hm, rfl⟩
    · left
      refine ⟨?_, by rw [ix_out (by omega) M h]; rfl⟩
      by_cases c : y2 < 0
      · rw [if_pos c]
      · rw [if_neg c, if_pos]; rcases h with h | h; exact absurd h c; exact h
    · right
      refine ⟨r, m, hr, hm, rfl, rfl, ?_, ?_, rfl⟩
      · rw [if_neg (nI_pos (by omega)), if_neg (nI_ge hm (by omega))]
      · rw [ix_in (by omega) M hm, if_neg z1]
theorem at_k {C : St} {k : Nat} (h : k < 32) : x_X1_at (nI k) C = gV C 16 0 k ∧ ok_X1_at (nI k) C := by
  unfold x_X1_at ok_X1_at
  have e : (32 : Int32) = nI 32 := by decide
  rw [if_neg (nI_pos (by omega)), if_neg (nI_pos (by omega)), e, if_neg (nI_ge h (by omega)), if_neg (nI_ge h (by omega)), nI_clamp (by omega)]
  exact ⟨rfl, vp_in_nI h (by omega), trivial⟩
theorem winnerOf_k {C : St} {W r m : Nat} (hW : W ≤ 8) (hm : m < W) (e : x_X1_matchesIn (nI r) C = nI W) : x_X1_winnerOf (nI r) (nI m) C = gV C 16 0 (W + m) ∧ ok_X1_winnerOf (nI r) (nI m) C ∧ x_X1_nodeOf (nI r) (nI m) C = nI (W + m) := by
  have en : x_X1_nodeOf (nI r) (nI m) C = nI (W + m) := by unfold x_X1_nodeOf; rw [e, nI_add]
  unfold x_X1_winnerOf ok_X1_winnerOf
  rw [en]
  obtain ⟨a, b⟩ := at_k (C := C) (k := W + m) (by omega)
  exact ⟨a, ⟨b, trivial⟩, rfl⟩
theorem fencerIn_k {C : St} {W r m s : Nat} (hW : W ≤ 8) (hm : m < W) (hs : s < 2) (e : x_X1_matchesIn (nI r) C = nI W) : x_X1_fencerIn (nI r) (nI m) (nI s) C = gV C 16 0 (2 * (W + m) + s) ∧ ok_X1_fencerIn (nI r) (nI m) (nI s) C := by
  have en : x_X1_nodeOf (nI r) (nI m) C = nI (W + m) := by unfold x_X1_nodeOf; rw [e, nI_add]
  have e2 : (2 : Int32) = nI 2 := by decide
  unfold x_X1_fencerIn ok_X1_fencerIn
  rw [en, e2, pk_mul, nI_add]
  obtain ⟨a, b⟩ := at_k (C := C) (k := 2 * (W + m) + s) (by omega)
  exact ⟨a, b, trivial⟩
theorem i16 (r m : Nat) : (16 * nI r) + nI m = nI (16 * r + m) := by
  have e : (16 : Int32) = nI 16 := by decide
  rw [e, pk_mul, nI_add]
theorem i32' (r m : Nat) : (32 * nI r) + (2 * nI m) = nI (32 * r + 2 * m) := by
  have e : (32 : Int32) = nI 32 := by decide
  have e2 : (2 : Int32) = nI 2 := by decide
  rw [e, e2, pk_mul, pk_mul, nI_add]
theorem cr_meets : CR_meets := by
  intro n nb np C M a1 a2 a3 hn hI
  obtain ⟨hA, hB, hZ, hP, hF, hO, hG, ⟨R, P, hRP, k1, k2, k3⟩⟩ := id hI
  have hRP : RP R P := hRP
  have hle := RP_le hRP
  unfold x_X7_meets ok_X7_meets x_X8_meets ok_X8_meets x_X8_thrown x_X7_checkMatch
  rcases match_eq hRP k1 k2 a1 a2 with ⟨e1, e2⟩ | ⟨r, m, hr, hm, rfl, rfl, e1, e2, e3⟩
  · rw [e1, e2]
    simp only [↓reduceIte]
    exact ⟨trivial, failS hI (e := 3) (by decide) (Or.inr (Or.inr (Or.inr ⟨rfl, by decide⟩))) (s0 := 1) rfl trivial rfl⟩
  rw [e1, e2]
  have z : ¬ (1 : Int32) = 0 := by decide
  simp only [z, ↓reduceIte]
  rw [in_eq a3 0 2 C M]
  by_cases c : x_X8_isIn a3 0 2 M = 0
  · simp only [c, ↓reduceIte]
    exact ⟨trivial, failS hI (e := 2) (by decide) (Or.inr (Or.inr (Or.inl ⟨rfl, by decide⟩))) (s0 := 2) rfl trivial rfl⟩
  simp only [c, ↓reduceIte]
  obtain ⟨w, hw, rfl⟩ := in_nI (b := 2) (by decide) c
  have hW := RP_8 (r := r) hRP
  obtain ⟨q1, q2, q3⟩ := k3 r m hr hm
  obtain ⟨w1, w2, w3⟩ := winnerOf_k hW hm e3
  unfold x_X8_meets_28 ok_X8_meets_28
  rw [i16, i32', nI_add]
  match w, hw with
  | 2, _ =>
    refine ⟨⟨w2, trivial⟩, Or.inl rfl, ⟨vp_in_nI (by omega) (by omega), trivial⟩, rfl, fun _ => ?_, I2_up (I2_th 0 hI)⟩
    show x_X1_winnerOf (nI r) (nI m) C = gV M 40 0 (nI (16 * r + m)).toNatClampNeg
    rw [w1, nI_clamp (by omega)]; exact q1
  | 0, _ =>
    obtain ⟨f1, f2⟩ := fencerIn_k (s := 0) hW hm (by omega) e3
    refine ⟨⟨f2, trivial⟩, Or.inl rfl, ⟨vp_in_nI (by omega) (by omega), trivial⟩, rfl, fun _ => ?_, I2_up (I2_th 0 hI)⟩
    show x_X1_fencerIn (nI r) (nI m) (nI 0) C = gV M 39 0 (nI (32 * r + 2 * m + 0)).toNatClampNeg
    rw [f1, nI_clamp (by omega)]; exact q2
  | 1, _ =>
    obtain ⟨f1, f2⟩ := fencerIn_k (s := 1) hW hm (by omega) e3
    refine ⟨⟨f2, trivial⟩, Or.inl rfl, ⟨vp_in_nI (by omega) (by omega), trivial⟩, rfl, fun _ => ?_, I2_up (I2_th 0 hI)⟩
    show x_X1_fencerIn (nI r) (nI m) (nI 1) C = gV M 39 0 (nI (32 * r + 2 * m + 1)).toNatClampNeg
    rw [f1, nI_clamp (by omega)]; exact q3
  | w + 3, h => exact absurd h (by omega)
def brb (R r m r' m' : Nat) : Bool := !(decide (r < R) && decide (r' < R) && decide (m < 2 ^ R / 2 ^ (r + 1)) && decide (m' < 2 ^ R / 2 ^ (r' + 1))) ||
    ((decide (2 ^ R / 2 ^ (r' + 1) + m' = 2 ^ R / 2 ^ (r + 1) + m) == decide (16 * r' + m' = 16 * r + m)) && (decide (2 * (2 ^ R / 2 ^ (r' + 1) + m') = 2 ^ R / 2 ^ (r + 1) + m) == (decide (r + 1 < R) && decide (32 * r' + 2 * m' = 32 * (r + 1) + m))) && (decide (2 * (2 ^ R / 2 ^ (r' + 1) + m') + 1 = 2 ^ R / 2 ^ (r + 1) + m) == (decide (r + 1 < R) && decide (32 * r' + 2 * m' + 1 = 32 * (r + 1) + m))))
theorem br_tab0 : ∀ R, R < 5 → ∀ r, r < 4 → ∀ m, m < 8 → ∀ r', r' < 4 → ∀ m', m' < 8 → brb R r m r' m' = true := by decide +kernel
theorem br_tab (R : Nat) (h1 : R < 5) (r : Nat) (h2 : r < 4) (m : Nat) (h3 : m < 8) (r' : Nat) (h4 : r' < 4) (m' : Nat) (h5 : m' < 8) (h : r < R ∧ r' < R ∧ m < 2 ^ R / 2 ^ (r + 1) ∧ m' < 2 ^ R / 2 ^ (r' + 1)) :
    ((2 ^ R / 2 ^ (r' + 1) + m' = 2 ^ R / 2 ^ (r + 1) + m ↔ 16 * r' + m' = 16 * r + m) ∧ (2 * (2 ^ R / 2 ^ (r' + 1) + m') = 2 ^ R / 2 ^ (r + 1) + m ↔ r + 1 < R ∧ 32 * r' + 2 * m' = 32 * (r + 1) + m) ∧ (2 * (2 ^ R / 2 ^ (r' + 1) + m') + 1 = 2 ^ R / 2 ^ (r + 1) + m ↔ r + 1 < R ∧ 32 * r' + 2 * m' + 1 = 32 * (r + 1) + m)) := by
  have t := br_tab0 R h1 r h2 m h3 r' h4 m' h5
  obtain ⟨g1, g2, g3, g4⟩ := h
  unfold brb at t
  simp only [g1, g2, g3, g4, decide_true, Bool.and_true, Bool.not_true, Bool.false_or, Bool.and_eq_true, beq_iff_eq] at t
  obtain ⟨⟨t1, t2⟩, t3⟩ := t
  refine ⟨decide_eq_decide.mp t1, ?_, ?_⟩
  · rw [← Bool.decide_and] at t2; exact decide_eq_decide.mp t2
  · rw [← Bool.decide_and] at t3; exact decide_eq_decide.mp t3
theorem put_k {C : St} {k : Nat} (f : Int32) (h : k < 32) : x_X1_put (nI k) f C = sV C 16 0 k f ∧ ok_X1_put (nI k) f C := by
  unfold x_X1_put ok_X1_put
  have e : (32 : Int32) = nI 32 := by decide
  rw [if_neg (nI_pos (by omega)), if_neg (nI_pos (by omega)), e, if_neg (nI_ge h (by omega)), if_neg (nI_ge h (by omega)), nI_clamp (by omega)]
  exact ⟨rfl, vp_in_nI h (by omega), trivial⟩
/-- what a won match does -/
theorem br_upd {n nb np R P r m : Nat} {C M C' M' : St} (f : Int32) (hI : I2 n nb np C M) (hRP : RP R P) (k1 : gV C 1 0 2 = nI P) (k2 : gV M 8 0 27 = nI P) (hr : r < R) (hm : m < P / 2 ^ (r + 1))
    (hC : C' = sV C 16 0 (P / 2 ^ (r + 1) + m) f) (hM : M' = if r + 1 < R then sV (sV (sV M 8 0 31 0) 40 0 (16 * r + m) f) 39 0 (32 * (r + 1) + m) f else sV (sV M 8 0 31 0) 40 0 (16 * r + m) f) : I2 (n + 1) nb np C' M' := by
  obtain ⟨hA, hB, hZ, hP, hF, hO, hG, ⟨R2, P2, hRP2, j1, j2, j3⟩⟩ := hI
  have hRP2 : RP R2 P2 := hRP2
  have hle := RP_le hRP
  have hle2 := RP_le hRP2
  have eP : P = P2 := (nI_eq (by omega) (by omega)).mp (k1.symm.trans j1)
  subst eP
  have eR : R = R2 := (nI_eq (by omega) (by omega)).mp ((RP_rounds hRP M).symm.trans (RP_rounds hRP2 M))
  subst eR
  have aC : Ag (fun c k => !(c == 16)) C C' := by rw [hC]; exact Ag_sV _ _ _ _ rfl (Ag.rf _ _)
  have aM : Ag (fun c k => !((c == 8 && k == 31) || c == 39 || c == 40)) M M' := by
    rw [hM]
    split
    · repeat first | exact Ag.rf _ _ | refine Ag_sV _ _ _ _ rfl ?_
    · repeat first | exact Ag.rf _ _ | refine Ag_sV _ _ _ _ rfl ?_
  have hRc : ∀ a k, gR C' a k = gR C a k := by intro a k; rw [hC]; rfl
  have hLc : gL C' 3 0 = gL C 3 0 := by rw [hC]; rfl
  have hLm : gL M' 8 1 = gL M 8 1 := by rw [hM]; split <;> rfl
  refine ⟨?_, fun i hi => qB_t aC aM (by simp) np i (hB i hi), fun i hi => qZ_t aC aM (by simp) i (hZ i hi), qP_up (qP_t aC aM (hRc 7 8) (by simp) n nb np hP), qF_t aC aM (by simp) hF, fun j hj => qO_t aC aM (by simp) nb j (hO j hj), fun j hj => by rw [aM 37 0 j rfl]; exact hG j hj, ⟨R, P, hRP, by rw [aC 1 0 2 rfl]; exact k1, by rw [aM 8 0 27 rfl]; exact k2, ?_⟩⟩
  · unfold qA at hA ⊢
    rw [aC 7 0 5 rfl, aC 7 0 6 rfl, aC 7 0 7 rfl, aC 7 0 9 rfl, aM 8 0 0 rfl, aM 8 0 3 rfl, aM 8 0 23 rfl, aM 8 0 2 rfl, hLc, hLm]
    simp only [hRc]
    exact hA
  · intro r' m' hr' hm'
    obtain ⟨q1, q2, q3⟩ := j3 r' m' hr' hm'
    have hW := RP_8 (r := r) hRP
    have hW' := RP_8 (r := r') hRP
    have hP2 : P = 2 ^ R := by rcases hRP with ⟨h, -⟩ | ⟨-, -, h⟩; omega; exact h
    subst hP2
    obtain ⟨t1, t2, t3⟩ := br_tab R (by omega) r (by omega) m (by omega) r' (by omega) m' (by omega) ⟨hr, hr', hm, hm'⟩
    have g1 : ∀ k, gV C' 16 0 k = if k = 2 ^ R / 2 ^ (r + 1) + m then f else gV C 16 0 k := by intro k; rw [hC, gV_sV]; simp
    have g2 : ∀ k, gV M' 40 0 k = if k = 16 * r + m then f else gV M 40 0 k := by intro k; rw [hM]; split <;> simp [gV_sV]
    have g3 : ∀ k, gV M' 39 0 k = if r + 1 < R ∧ k = 32 * (r + 1) + m then f else gV M 39 0 k := by
      intro k; rw [hM]; split
      · rename_i h; simp [gV_sV, h]
      · rename_i h; simp [gV_sV, h]
    rw [g1, g1, g1, g2, g3, g3, q1, q2, q3]
    simp only [t1, t2, t3]
    exact ⟨trivial, trivial, trivial⟩
theorem isWon_eq {M : St} {R P r m : Nat} (hRP : RP R P) (k2 : gV M 8 0 27 = nI P) (hr : r < R) (hm : m < P / 2 ^ (r + 1)) (f : Int32) :
    x_X8_isWon (nI r) (nI m) f M = (if r + 1 < R then sV (sV M 40 0 (16 * r + m) f) 39 0 (32 * (r + 1) + m) f else sV M 40 0 (16 * r + m) f) ∧ ok_X8_isWon (nI r) (nI m) f M := by
  have hle := RP_le hRP
  have hW := RP_8 (r := r) hRP
  have i2 : (32 * (nI r + 1)) + nI m = nI (32 * (r + 1) + m) := by
    have e : (32 : Int32) = nI 32 := by decide
    rw [e, nI_1, pk_mul, nI_add]
  have hv : vp_in (nI (16 * r + m)) 64 := vp_in_nI (by omega) (by omega)
  unfold x_X8_isWon ok_X8_isWon
  rw [k2, RP_rounds hRP, i16, i2, nI_1, nI_clamp (by omega), nI_clamp (by omega)]
  by_cases c : r + 1 < R
  · rw [if_pos c, if_neg (nI_ge c (by omega)), if_neg (nI_ge c (by omega))]
    exact ⟨rfl, hv, vp_in_nI (by omega) (by omega), trivial⟩
  · rw [if_neg c, if_pos (nI_le (by omega) (by omega)), if_pos (nI_le (by omega) (by omega))]
    exact ⟨rfl, hv, trivial⟩
theorem cr_wins : CR_wins := by
  intro n nb np C M a1 a2 a3 hn hI
  obtain ⟨hA, hB, hZ, hP, hF, hO, hG, ⟨R, P, hRP, k1, k2, k3⟩⟩ := id hI
  have hRP : RP R P := hRP
  have hle := RP_le hRP
  unfold x_X7_wins ok_X7_wins x_X8_wins ok_X8_wins x_X8_thrown x_X7_checkMatch
  rw [side_eq a3 _ M]
  rcases match_eq hRP k1 k2 a1 a2 with ⟨e1, e2⟩ | ⟨r, m, hr, hm, rfl, rfl, e1, e2, e3⟩
  · rw [e1, e2]
    simp only [↓reduceIte]
    exact ⟨trivial, failS hI (e := 3) (by decide) (Or.inr (Or.inr (Or.inr ⟨rfl, by decide⟩))) (s0 := 1) rfl trivial rfl⟩
  rw [e1, e2]
  have z : ¬ (1 : Int32) = 0 := by decide
  simp only [z, ↓reduceIte]
  by_cases c : x_X8_isSide a3 M = 0
  · simp only [c, ↓reduceIte]
    exact ⟨trivial, failS hI (e := 2) (by decide) (Or.inr (Or.inr (Or.inl ⟨rfl, by decide⟩))) (s0 := 2) rfl trivial rfl⟩
  simp only [c, ↓reduceIte]
  have hsd := side_01 (C := C) (by rw [side_eq a3 C M]; exact c)
  have hsd : ∃ s : Nat, s < 2 ∧ a3 = nI s := by
    rcases hsd with h | h
    · exact ⟨0, by omega, h⟩
    · exact ⟨1, by omega, h⟩
  obtain ⟨s, hs, rfl⟩ := hsd
  have hW := RP_8 (r := r) hRP
  obtain ⟨q1, q2, q3⟩ := k3 r m hr hm
  obtain ⟨w1, w2, w3⟩ := winnerOf_k hW hm e3
  obtain ⟨f1, f2⟩ := fencerIn_k (s := 0) hW hm (by omega) e3
  obtain ⟨g1, g2⟩ := fencerIn_k (s := 1) hW hm (by omega) e3
  obtain ⟨h1, h2⟩ := fencerIn_k (s := s) hW hm hs e3
  have n0 : (0 : Int32) = nI 0 := by decide
  have n1 : (1 : Int32) = nI 1 := by decide
  have hf : gV C 16 0 (2 * (P / 2 ^ (r + 1) + m) + s) = gV M 39 0 (32 * r + 2 * m + s) := by
    rcases (show s = 0 ∨ s = 1 by omega) with rfl | rfl
    · exact q2
    · exact q3
  -- whether the match is free
  have ho : x_X1_isOpen (nI r) (nI m) C = (if gV M 39 0 (32 * r + 2 * m) = -1 then 0 else if gV M 39 0 (32 * r + 2 * m + 1) = -1 then 0 else if gV M 40 0 (16 * r + m) = -1 then 1 else 0) := by
    unfold x_X1_isOpen x_X1_isOpen_26 x_X1_isOpen_27 x_X1_isOpen_46
    rw [show x_X1_fencerIn (nI r) (nI m) 0 C = _ from f1, show x_X1_fencerIn (nI r) (nI m) 1 C = _ from g1, w1, q1]
    rw [show gV C 16 0 (2 * (P / 2 ^ (r + 1) + m) + 0) = _ from q2, q3]
    simp only [↓reduceIte, z]
  have hok : ok_X1_isOpen (nI r) (nI m) C := by
    unfold ok_X1_isOpen ok_X1_isOpen_26 ok_X1_isOpen_27 ok_X1_isOpen_46
    refine ⟨f2, ?_⟩
    split
    · first | trivial | simp only [↓reduceIte]
    · refine ⟨g2, ?_⟩
      split
      · first | trivial | simp only [↓reduceIte]
      · exact ⟨w2, by split <;> trivial⟩
  have fin : ∀ okm : Prop, okm → True := fun _ _ => trivial
  have z0 : (0 : Int32) ≤ 0 := by decide
  have z3 : ¬ (3 : Int32) ≤ 0 := by decide
  have v0 : vp_in (nI (32 * r + 2 * m)) 128 := vp_in_nI (by omega) (by omega)
  have v1 : vp_in (nI (32 * r + 2 * m + 1)) 128 := vp_in_nI (by omega) (by omega)
  have v2 : vp_in (nI (16 * r + m)) 64 := vp_in_nI (by omega) (by omega)
  have v3 : vp_in (nI (32 * r + 2 * m + s)) 128 := vp_in_nI (by omega) (by omega)
  unfold x_X8_wins_26 ok_X8_wins_26 x_X8_wins_88 ok_X8_wins_88
  rw [i32', i16, nI_1, nI_clamp (show 32 * r + 2 * m < 2 ^ 31 by omega), nI_clamp (show 32 * r + 2 * m + 1 < 2 ^ 31 by omega), nI_clamp (show 16 * r + m < 2 ^ 31 by omega), ho, if_pos z0, if_pos z0]
  by_cases c1 : gV M 39 0 (32 * r + 2 * m) = -1
  · simp only [c1, ↓reduceIte, v0, true_and]
    unfold x_X8_wins_93 ok_X8_wins_93
    rw [if_neg z3, if_neg z3, sV_sV]
    exact ⟨⟨hok, trivial⟩, failS hI (e := 1) (by decide) (Or.inr (Or.inl ⟨rfl, by decide⟩)) (s0 := 3) rfl trivial rfl⟩
  by_cases c2 : gV M 39 0 (32 * r + 2 * m + 1) = -1
  · simp only [c1, c2, ↓reduceIte, v0, v1, true_and]
    unfold x_X8_wins_93 ok_X8_wins_93
    rw [if_neg z3, if_neg z3, sV_sV]
    exact ⟨⟨hok, trivial⟩, failS hI (e := 1) (by decide) (Or.inr (Or.inl ⟨rfl, by decide⟩)) (s0 := 3) rfl trivial rfl⟩
  by_cases c3 : gV M 40 0 (16 * r + m) = -1
  · simp only [c1, c2, c3, ↓reduceIte, v0, v1, v2, true_and, z]
    unfold x_X8_wins_93 ok_X8_wins_93 x_X8_wins_124 ok_X8_wins_124 x_X1_settle ok_X1_settle x_X1_settle_21 ok_X1_settle_21
    obtain ⟨p1, p2⟩ := put_k (C := C) (k := P / 2 ^ (r + 1) + m) (gV M 39 0 (32 * r + 2 * m + s)) (by omega)
    obtain ⟨d1, d2⟩ := isWon_eq (M := sV M 8 0 31 0) hRP (by rw [gV_sV, if_neg (by decide)]; exact k2) hr hm (gV M 39 0 (32 * r + 2 * m + s))
    rw [if_pos z0, if_pos z0, sV_sV, nI_add, nI_clamp (show 32 * r + 2 * m + s < 2 ^ 31 by omega), w3, h1, hf, p1, show gV (sV M 8 0 31 0) 39 0 (32 * r + 2 * m + s) = gV M 39 0 (32 * r + 2 * m + s) from by rw [gV_sV, if_neg (fun q => absurd q.1 (by decide))], d1]
    refine ⟨⟨hok, ⟨h2, p2, trivial⟩, trivial⟩, Or.inl rfl, ⟨v3, d2, trivial⟩, ?_, fun _ => rfl, ?_⟩
    · show gV (if r + 1 < R then _ else _) 8 0 31 = 0
      split <;> simp [gV_sV]
    · exact br_upd _ hI hRP k1 k2 hr hm rfl rfl
  · simp only [c1, c2, c3, ↓reduceIte, v0, v1, v2, true_and]
    unfold x_X8_wins_93 ok_X8_wins_93
    rw [if_neg z3, if_neg z3, sV_sV]
    exact ⟨⟨hok, trivial⟩, failS hI (e := 1) (by decide) (Or.inr (Or.inl ⟨rfl, by decide⟩)) (s0 := 3) rfl trivial rfl⟩
end
