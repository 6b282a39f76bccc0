noncomputable section
theorem gi_c {nb np : Nat} {γ : St} (h : GI nb np γ) : ∃ c : Nat, c ≤ 24 ∧ gV γ 4 0 6 = nI c := by
  obtain ⟨M, -, -, -, -, ⟨c, h24, h1, -⟩, -⟩ := h
  exact ⟨c, h24, h1⟩
theorem gi_p {nb np : Nat} {γ : St} (h : GI nb np γ) : gR γ 7 8 = none ∨ ∃ b, b < nb ∧ gR γ 7 8 = some b := by
  obtain ⟨M, -, -, -, ⟨-, hP⟩, -⟩ := h
  rcases hP with ⟨h, -⟩ | ⟨b, hb, h, -⟩
  · exact Or.inl h
  · exact Or.inr ⟨b, hb, h⟩
theorem gi_T {nb np b : Nat} {γ : St} (h : GI nb np γ) (hb : gR γ 7 8 = some b) : ∃ a : Nat, gV γ 0 b 7 = nI a ∧ ((gV γ 0 b 6 = -1 ∧ a < 180) ∨ (¬ gV γ 0 b 6 = -1 ∧ 180 ≤ a ∧ a < 240)) := by
  obtain ⟨M, -, hB, -, ⟨-, hP⟩, -⟩ := h
  rcases hP with ⟨h, -⟩ | ⟨b', hb', h, -, -, -, hT, -⟩
  · rw [h] at hb; exact absurd hb (by simp)
  · rw [h] at hb
    cases hb
    obtain ⟨b1, b2, b3, b4, b5, b6, b7, b8, b9, b10, b11, b12, b13, b14, b15, b16, b17, b18, b19⟩ := hB b hb'
    obtain ⟨-, -, -, ⟨a, ha, h2⟩, -⟩ := hT
    refine ⟨a, b18.trans ha, ?_⟩
    rw [b17]
    rcases h2 with ⟨e, h2⟩ | ⟨e, h2⟩
    · exact Or.inl ⟨e, h2⟩
    · refine Or.inr ⟨?_, h2⟩
      rcases e with e | e <;> rw [e] <;> decide
/-! phrase -/
/-- what a call about the phrase answers -/
def PHR (γ : St) (r : Nat × Int32 × St) : Prop := (r.1 = 1 ∧ r.2.1 = 0) ∨ (r.1 = 0 ∧ ¬ gR γ 7 8 = none ∧ ∃ m : Nat, 1 ≤ m ∧ m ≤ 24 ∧ r.2.1 = nI m)
theorem app_v {γ : St} {c : Nat} (a b d e f : Int32) (hc : gV γ 4 0 6 = nI c) (h24 : c < 24) : (x_X4_append a b d e f γ).1 = nI (c + 1) := by
  have n24 : (24 : Int32) = nI 24 := by decide
  unfold x_X4_append x_X4_append_78
  rw [hc, n24, if_neg (nI_pos (by omega)), if_neg (nI_ge h24 (by omega)), nI_1]
  dsimp only
  rw [gV_sV, if_pos ⟨rfl, rfl, rfl⟩]
theorem room_c {nb np : Nat} {γ : St} (h : GI nb np γ) (t : Int32) : x_X7_checkRoomInPhrase t γ = (1, γ) ∨ (x_X7_checkRoomInPhrase t γ = (0, γ) ∧ ¬ gR γ 7 8 = none ∧ ∃ c : Nat, c < 24 ∧ gV γ 4 0 6 = nI c) := by
  obtain ⟨c, hc, e⟩ := gi_c h
  unfold x_X7_checkRoomInPhrase x_X7_checkRoomInPhrase_28
  cases hp : gR γ 7 8 with
  | none => exact Or.inl rfl
  | some b =>
    simp only [oc]
    by_cases c1 : t < x_X4_lastTime γ
    · rw [if_pos c1]; exact Or.inl rfl
    · rw [if_neg c1]
      by_cases c2 : x_X4_isFull γ = 0
      · rw [if_pos c2]
        refine Or.inr ⟨rfl, by simp, c, ?_, e⟩
        unfold x_X4_isFull at c2
        rw [e] at c2
        by_cases c3 : nI c < 24
        · rw [show (24 : Int32) = nI 24 by decide] at c3
          exact (nI_ltI (by omega) (by omega)).mp c3
        · rw [if_neg c3] at c2; exact absurd c2 (by decide)
      · rw [if_neg c2]; exact Or.inl rfl
theorem act_r {nb np : Nat} {γ : St} {a b c : Int32} (h : GI nb np γ) (ha : x_X7_isSide a γS = 1) (hb : x_X7_isWithin b 0 6 γS = 1) (hc : x_X7_isWithin c 0 1000000 γS = 1) : PHR γ (x_X7_act a b c γ) := by
  have e1 : x_X7_isSide a γ = 1 := ha
  have e2 : x_X7_isWithin b 0 6 γ = 1 := hb
  have e3 : x_X7_isWithin c 0 1000000 γ = 1 := hc
  have z : ¬ (1 : Int32) = 0 := by decide
  unfold x_X7_act
  rw [e1, if_neg z, e2, if_neg z, e3, if_neg z]
  rcases room_c h c with e | ⟨e, hp, m, hm, em⟩
  · rw [e]; exact Or.inl ⟨rfl, rfl⟩
  · rw [e]
    refine Or.inr ⟨rfl, hp, m + 1, by omega, by omega, ?_⟩
    unfold x_X4_addAction
    exact app_v _ _ _ _ _ em hm
theorem hit_r {nb np : Nat} {γ : St} {a b c d : Int32} (h : GI nb np γ) (ha : x_X7_isSide a γS = 1) (hb : x_X7_isWithin b 0 1000000 γS = 1) (hc : x_X7_isWithin c 0 1000 γS = 1) (hd : x_X7_isWithin d 0 2 γS = 1) : PHR γ (x_X7_hit a b c d γ) := by
  have e1 : x_X7_isSide a γ = 1 := ha
  have e2 : x_X7_isWithin b 0 1000000 γ = 1 := hb
  have e3 : x_X7_isWithin c 0 1000 γ = 1 := hc
  have e4 : x_X7_isWithin d 0 2 γ = 1 := hd
  have z : ¬ (1 : Int32) = 0 := by decide
  unfold x_X7_hit
  rw [e1, if_neg z, e2, if_neg z, e3, if_neg z, e4, if_neg z]
  rcases room_c h b with e | ⟨e, hp, m, hm, em⟩
  · rw [e]; exact Or.inl ⟨rfl, rfl⟩
  · rw [e]
    refine Or.inr ⟨rfl, hp, m + 1, by omega, by omega, ?_⟩
    unfold x_X4_addContact
    exact app_v _ _ _ _ _ em hm
section BR2
variable {K91 : Int32 → Int32 → Int32 → Int32 → St → Nat × Int32 × St} {xs : Nat → Int32} {Ln : Nat} {a6 : Int32}
theorem b_phr {nf np nb : Nat} {γ γ' : St} {r : Nat × Int32 × St} (h979 : H9 K91 xs Ln a6) (hr : PHR γ r) (h : IV nf np nb γ') : OKr (x_LB_506 K91 xs Ln (nI nf) (nI np) (nI nb) a6 (bz γ) (cE r.1 r.2.1) γ') := by
  unfold x_LB_506 x_LB_532 x_LB_546
  rcases hr with ⟨e1, e2⟩ | ⟨e1, e2, m, m1, m2, e3⟩
  · rw [cE_1 e1, if_neg (by decide), if_neg (by decide), if_pos (by decide)]
    by_cases c : bz γ = 0
    · rw [if_pos c, if_pos rfl]; exact h979 _ _ _ _ h
    · rw [if_neg c]; exact h979 _ _ _ _ h
  · rw [cE_0 e1, e3, bz_1 e2, if_neg (fun q => absurd q (by
      intro q
      have := nI_toInt (n := m) (by omega)
      rw [q] at this
      have h2 : ((-72 : Int32)).toInt = -72 := by decide
      omega)), show (24 : Int32) = nI 24 by decide, if_neg (nI_nlt m2 (by omega)), if_neg (nI_nle (by omega) (by omega)), if_neg (show ¬ (1 : Int32) = 0 by decide), if_neg (show ¬ (1 : Int32) = 0 by decide)]
    exact h979 _ _ _ _ h
theorem b_act {nf np nb : Nat} {γ : St} {a b c : Int32} (h979 : H9 K91 xs Ln a6) (h : IV nf np nb γ) (ha : x_X7_isSide a γS = 1) (hb : x_X7_isWithin b 0 6 γS = 1) (hc : x_X7_isWithin c 0 1000000 γS = 1) : OKr (x_LB_506 K91 xs Ln (nI nf) (nI np) (nI nb) a6 (bz γ) (x_L_call 2 a b c 0 0 γ).1 (x_L_call 2 a b c 0 0 γ).2) := by
  rw [lc_2]
  exact b_phr h979 (act_r h.2.1 ha hb hc) (iv_of h (fw_X7_act (FR.rf γ)) (gi_act a b c h.2.1).2)
theorem b_hit {nf np nb : Nat} {γ : St} {a b c d : Int32} (h979 : H9 K91 xs Ln a6) (h : IV nf np nb γ) (ha : x_X7_isSide a γS = 1) (hb : x_X7_isWithin b 0 1000000 γS = 1) (hc : x_X7_isWithin c 0 1000 γS = 1) (hd : x_X7_isWithin d 0 2 γS = 1) : OKr (x_LB_478 K91 xs Ln (nI nf) (nI np) (nI nb) a6 (bz γ) (x_L_call 3 a b c d 0 γ).1 (x_L_call 3 a b c d 0 γ).2) := by
  rw [lc_3]
  exact b_phr h979 (hit_r h.2.1 ha hb hc hd) (iv_of h (fw_X7_hit (FR.rf γ)) (gi_hit a b c d h.2.1).2)
/-- card, clock, end: what they answer -/
def CCE (γ : St) (r : Nat × Int32 × St) : Prop := (r.1 = 1 ∧ gR γ 7 8 = none) ∨ (r.1 = 0 ∧ ¬ r.2.1 = -72 ∧ ¬ 239 < r.2.1 ∧ ¬ r.2.1 = -73)
theorem b_cce {nf np nb : Nat} {γ γ' : St} {r : Nat × Int32 × St} (h979 : H9 K91 xs Ln a6) (hr : CCE γ r) (h : IV nf np nb γ') : OKr (x_LB_777 K91 xs Ln (nI nf) (nI np) (nI nb) a6 (bz γ) (cE r.1 r.2.1) γ') := by
  unfold x_LB_777 x_LB_808
  rcases hr with ⟨e1, e2⟩ | ⟨e1, e2, e3, e4⟩
  · rw [cE_1 e1, bz_0 e2, if_neg (by decide), if_neg (by decide), if_pos rfl, if_pos rfl]
    exact h979 _ _ _ _ h
  · rw [cE_0 e1, if_neg e2, if_neg e3, if_neg e4]
    exact h979 _ _ _ _ h
theorem no_p {γ : St} (h : gR γ 7 8 = none) : x_X7_boutOnPiste γ = (1, none, γ) := by unfold x_X7_boutOnPiste; rw [h]; rfl
theorem on_p {γ : St} {b : Nat} (h : gR γ 7 8 = some b) : x_X7_boutOnPiste γ = (0, some b, γ) := by unfold x_X7_boutOnPiste; rw [h]; rfl
theorem col_v (o : Nat) (g : Int32) (γ : St) : x_X2_colourFor o g γ = 1 ∨ x_X2_colourFor o g γ = 2 ∨ x_X2_colourFor o g γ = 3 := by
  unfold x_X2_colourFor x_X2_colourFor_34
  repeat' split
  all_goals simp
theorem card_v (o : Nat) (a b : Int32) (γ : St) : (x_X0_giveCard o a b γ).1 = 1 ∨ (x_X0_giveCard o a b γ).1 = 2 ∨ (x_X0_giveCard o a b γ).1 = 3 := by
  have h := col_v (x_X0_corner o a γ) b γ
  unfold x_X0_giveCard x_X0_giveCard_19 x_X0_giveCard_34 x_X0_giveCard_49
  repeat' split
  all_goals exact h
theorem card_r {γ : St} {a b : Int32} (ha : x_X7_isSide a γS = 1) (hb : x_X7_isWithin b 1 3 γS = 1) : CCE γ (x_X7_card a b γ) := by
  have e1 : x_X7_isSide a γ = 1 := ha
  have e2 : x_X7_isWithin b 1 3 γ = 1 := hb
  have z : ¬ (1 : Int32) = 0 := by decide
  unfold x_X7_card
  rw [e1, if_neg z, e2, if_neg z]
  cases hp : gR γ 7 8 with
  | none => rw [no_p hp, if_neg (show ¬ (1 : Nat) = 0 by decide)]; exact Or.inl ⟨rfl, hp⟩
  | some n =>
    rw [on_p hp, if_pos rfl]
    simp only [oc]
    unfold x_X7_card_37 x_X7_card_44
    refine Or.inr ⟨rfl, ?_⟩
    dsimp only
    rcases card_v n a b γ with e | e | e <;> rw [e] <;> decide
theorem left_v {nb np b : Nat} {γ : St} (h : GI nb np γ) (hb : b < nb) : ¬ x_X0_secondsLeft b γ = -72 ∧ ¬ 239 < x_X0_secondsLeft b γ ∧ ¬ x_X0_secondsLeft b γ = -73 := by
  unfold x_X0_secondsLeft x_X0_isOver x_X0_timeLimit
  by_cases c : gV γ 0 b 5 = -1
  · rw [if_pos c, if_pos rfl]
    obtain ⟨a, e, h2⟩ := gi_T h ((gi_w h hb).1.mp c)
    rw [e]
    have hx : ∃ m : Nat, m ≤ 180 ∧ (if gV γ 0 b 6 = -1 then (180 : Int32) else 240) - nI a = nI m := by
      rcases h2 with ⟨e1, h2⟩ | ⟨e1, h2, h3⟩
      · rw [if_pos e1, show (180 : Int32) = nI 180 by decide, pk_sub (by omega)]; exact ⟨180 - a, by omega, rfl⟩
      · rw [if_neg e1, show (240 : Int32) = nI 240 by decide, pk_sub (by omega)]; exact ⟨240 - a, by omega, rfl⟩
    obtain ⟨m, hm, em⟩ := hx
    rw [em]
    have hm' := nI_toInt (n := m) (by omega)
    refine ⟨fun q => ?_, ?_, fun q => ?_⟩
    · rw [q] at hm'; have h2 : ((-72 : Int32)).toInt = -72 := by decide
      omega
    · rw [show (239 : Int32) = nI 239 by decide]; exact nI_nlt (by omega) (by omega)
    · rw [q] at hm'; have h2 : ((-73 : Int32)).toInt = -73 := by decide
      omega
  · rw [if_neg c, if_neg (by decide)]; decide
theorem clock_v (b : Nat) (a1 : Int32) : ∀ (k : Nat) (a3 : Int32) (γ : St), (x_X7_clock_28 k a1 (some b) a3 γ).1 = 0 ∧ ((x_X7_clock_28 k a1 (some b) a3 γ).2.1 = x_X0_secondsLeft b (x_X7_clock_28 k a1 (some b) a3 γ).2.2 ∨ (x_X7_clock_28 k a1 (some b) a3 γ).2.1 = 0)
  | 0, a3, γ => ⟨rfl, Or.inr rfl⟩
  | k + 1, a3, γ => by
    unfold x_X7_clock_28
    by_cases c : a1 ≤ a3
    · rw [if_pos c]; exact ⟨rfl, Or.inl rfl⟩
    · rw [if_neg c]
      simp only [oc]
      by_cases c2 : x_X0_isOver b γ = 0
      · rw [if_pos c2]; exact clock_v b a1 k _ _
      · rw [if_neg c2]; exact ⟨rfl, Or.inl rfl⟩
theorem clock_r {nb np : Nat} {γ : St} {a : Int32} (h : GI nb np γ) (ha : x_X7_isWithin a 1 240 γS = 1) : CCE γ (x_X7_clock a γ) := by
  have hg := (gi_clock a h).2
  have e1 : x_X7_isWithin a 1 240 γ = 1 := ha
  have z : ¬ (1 : Int32) = 0 := by decide
  unfold x_X7_clock at hg ⊢
  rw [e1, if_neg z] at hg ⊢
  rcases gi_p h with hp | ⟨b, hb, hp⟩
  · rw [no_p hp, if_neg (show ¬ (1 : Nat) = 0 by decide)]; exact Or.inl ⟨rfl, hp⟩
  · rw [on_p hp, if_pos rfl] at hg ⊢
    dsimp only at hg ⊢
    obtain ⟨v1, v2⟩ := clock_v b a fu 0 γ
    refine Or.inr ⟨v1, ?_⟩
    rcases v2 with e | e
    · rw [e]; exact left_v hg hb
    · rw [e]; decide
theorem end_r {nb np : Nat} {γ : St} (h : GI nb np γ) : CCE γ (x_X7_end γ) := by
  have hg := (gi_end h).2
  unfold x_X7_end at hg ⊢
  rcases gi_p h with hp | ⟨b, hb, hp⟩
  · rw [no_p hp, if_neg (show ¬ (1 : Nat) = 0 by decide)]; exact Or.inl ⟨rfl, hp⟩
  · rw [on_p hp, if_pos rfl] at hg ⊢
    simp only [oc] at hg ⊢
    unfold x_X7_end_13 x_X7_end_18 at hg ⊢
    refine Or.inr ⟨rfl, ?_⟩
    dsimp only at hg ⊢
    rcases (gi_w hg hb).2 with e | e | e <;> rw [e] <;> decide
end BR2
end
