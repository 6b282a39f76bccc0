theorem nI_01 {a : Nat} (h : ¬ nI a = 0) : ¬ (nI 1 : Int32) = 0 := by decide
/-- how many cards a side had is not wanted: none, or some -/
theorem GI_of {n nb np : Nat} {C M : St} (h : I2 n nb np C M) : GI nb np C := by
  refine ⟨sV (sV M 29 0 0 (if gV M 29 0 0 = 0 then 0 else 1)) 29 0 1 (if gV M 29 0 1 = 0 then 0 else 1), ?_⟩
  obtain ⟨hA, hB, hZ, hP, hF, hO, hG, hK⟩ := h
  have hM : Ag (fun c _ => !(c == 29)) M (sV (sV M 29 0 0 (if gV M 29 0 0 = 0 then 0 else 1)) 29 0 1 (if gV M 29 0 1 = 0 then 0 else 1)) := Ag_sV _ _ _ _ rfl (Ag_sV _ _ _ _ rfl (Ag.rf _ _))
  have hC : Ag (fun _ _ => true) C C := Ag.rf _ C
  have e0 : gV (sV (sV M 29 0 0 (if gV M 29 0 0 = 0 then 0 else 1)) 29 0 1 (if gV M 29 0 1 = 0 then 0 else 1)) 29 0 0 = if gV M 29 0 0 = 0 then 0 else 1 := by rw [gV_sV, if_neg (by decide), gV_sV, if_pos ⟨rfl, rfl, rfl⟩]
  have e1 : gV (sV (sV M 29 0 0 (if gV M 29 0 0 = 0 then 0 else 1)) 29 0 1 (if gV M 29 0 1 = 0 then 0 else 1)) 29 0 1 = if gV M 29 0 1 = 0 then 0 else 1 := by rw [gV_sV, if_pos ⟨rfl, rfl, rfl⟩]
  have e2 : gL (sV (sV M 29 0 0 (if gV M 29 0 0 = 0 then 0 else 1)) 29 0 1 (if gV M 29 0 1 = 0 then 0 else 1)) 8 1 = gL M 8 1 := rfl
  generalize sV (sV M 29 0 0 (if gV M 29 0 0 = 0 then 0 else 1)) 29 0 1 (if gV M 29 0 1 = 0 then 0 else 1) = M' at *
  have one : (1 : Int32) = nI 1 := by decide
  have zer : (0 : Int32) = nI 0 := by decide
  have hq : ∀ b s : Nat, (gV M' 29 0 s = if gV M 29 0 s = 0 then 0 else 1) → qC C M n b s → qC C M' 1 b s := by
    rintro b s e ⟨⟨a, ha, h1⟩, h2, h3, h4⟩
    refine ⟨?_, ?_, h3.trans (hM 30 0 s rfl).symm, ?_⟩
    · rw [e]
      by_cases c : gV M 29 0 s = 0
      · rw [if_pos c]; exact ⟨0, by omega, zer⟩
      · rw [if_neg c]; exact ⟨1, by omega, one⟩
    · rw [h2, e]
      by_cases c : gV M 29 0 s = 0
      · rw [if_pos c]; exact ⟨fun _ => rfl, fun _ => c⟩
      · rw [if_neg c]; exact ⟨fun q => absurd q c, fun q => absurd q (by decide)⟩
    · rw [hM 30 0 s rfl]; exact h4
  refine ⟨?_, fun i hi => qB_t hC hM (by simp) np i (hB i hi), fun i hi => qZ_t hC hM (by simp) i (hZ i hi), ?_, qF_t hC hM (by simp) hF, fun j hj => qO_t hC hM (by simp) nb j (hO j hj), fun j hj => ?_, qK_t hC hM (by simp) hK⟩
  · unfold qA at hA ⊢
    rw [e2, hM 8 0 0 rfl, hM 8 0 3 rfl, hM 8 0 23 rfl, hM 8 0 2 rfl]
    exact hA
  · obtain ⟨hP1, hP2⟩ := hP
    refine ⟨fun i hi => by rw [hM 25 0 i rfl]; exact hP1 i hi, ?_⟩
    rw [hM 8 0 4 rfl, hM 8 0 17 rfl]
    rcases hP2 with h0 | ⟨b, h1, h2, h3, h4, h5, h6, h7⟩
    · exact Or.inl h0
    · exact Or.inr ⟨b, h1, h2, h3, hq b 0 e0 h4, hq b 1 e1 h5, qT_t hC hM (by simp) b h6, qG_t hC hM (by simp) np b h7⟩
  · rw [hM 37 0 j rfl]; exact hG j hj
theorem flag_bad {res : Nat × Int32 × St} {γ : St} {Q : Prop} (h : ((1, 0, γ) : Nat × Int32 × St) = res) (hk : res.1 = 0) : Q := by
  subst h
  exact absurd (show (1 : Nat) = 0 from hk) Nat.one_ne_zero
theorem gi_fencer {nb np : Nat} {γ : St} (h : GI nb np γ) : GI nb np (x_X7_fencer γ).2.2 := by
  obtain ⟨M, hM⟩ := h
  obtain ⟨-, -, -, k9⟩ := cr_fencer 1 nb np γ M (by decide) hM
  exact GI_of k9
theorem co_fencer (l : Launch) (hfl : l.stackTraces = false) (κ : KP) (γ : St) : vx_Met l yX7_fencer [Cond.code yX7_fencer cX7_fencer 2 (some .int)] ({ frames := 6, cells := 1, slots := 6, locals := 90 } : Room) (va_Pc (.ref (kA κ 7 0) :: []) (GW κ γ)) (QLX κ (x_X7_fencer γ).2.2 (x_X7_fencer γ).1 (some (.int (x_X7_fencer γ).2.1))) (XLX κ (x_X7_fencer γ).2.2 (x_X7_fencer γ).1) 1 6 (AA κ) := by
  refine co_of fun κ1 _ hgi => ?_
  exact ⟨c_X7_fencer l hfl κ1 γ, gi_fencer hgi⟩
theorem gi_begin {nb np : Nat} {γ : St} (y1 : Int32) (y2 : Int32) (y3 : Int32) (y4 : Int32) (y5 : Int32) (h : GI nb np γ) : ok_X7_begin y1 y2 y3 y4 y5 γ ∧ nb = (gV γ 7 0 6).toNatClampNeg ∧ GI (if (x_X7_begin y1 y2 y3 y4 y5 γ).1 = 0 then nb + 1 else nb) np (x_X7_begin y1 y2 y3 y4 y5 γ).2.2 := by
  obtain ⟨M, hM⟩ := h
  obtain ⟨k0, -, -, -, -, k8, k9⟩ := cr_begin 1 nb np γ M y1 y2 y3 y4 y5 (by decide) hM
  exact ⟨k0, k8, GI_of k9⟩
theorem co_begin (l : Launch) (hfl : l.stackTraces = false) (κ : KP) (γ : St) (y1 : Int32) (y2 : Int32) (y3 : Int32) (y4 : Int32) (y5 : Int32) : vx_Met l yX7_begin [Cond.code yX7_begin cX7_begin 7 (some .int)] ({ frames := 6, cells := 3, slots := 18, locals := 90 } : Room) (va_Pc (.ref (kA κ 7 0) :: [.int y1, .int y2, .int y3, .int y4, .int y5]) (GW κ γ)) (QLX κ (x_X7_begin y1 y2 y3 y4 y5 γ).2.2 (x_X7_begin y1 y2 y3 y4 y5 γ).1 (some (.int (x_X7_begin y1 y2 y3 y4 y5 γ).2.1))) (XLX κ (x_X7_begin y1 y2 y3 y4 y5 γ).2.2 (x_X7_begin y1 y2 y3 y4 y5 γ).1) 3 18 (AA κ) := by
  refine co_ofE fun κ1 _ hgi => ?_
  obtain ⟨k0, k8, k9⟩ := gi_begin (y1 := y1) (y2 := y2) (y3 := y3) (y4 := y4) (y5 := y5) hgi
  refine ⟨(kN κ1 + 1), (kO κ1), c_X7_begin l hfl κ1 γ y1 y2 y3 y4 y5 k8 k0, fun he => ?_, fun he => ?_⟩
  · rw [if_pos he] at k9; exact k9
  · rw [if_neg he] at k9; exact k9
theorem gi_act {nb np : Nat} {γ : St} (y1 : Int32) (y2 : Int32) (y3 : Int32) (h : GI nb np γ) : ok_X7_act y1 y2 y3 γ ∧ GI nb np (x_X7_act y1 y2 y3 γ).2.2 := by
  obtain ⟨M, hM⟩ := h
  obtain ⟨k0, -, -, -, -, k9⟩ := cr_act 1 nb np γ M y1 y2 y3 (by decide) hM
  exact ⟨k0, GI_of k9⟩
theorem co_act (l : Launch) (hfl : l.stackTraces = false) (κ : KP) (γ : St) (y1 : Int32) (y2 : Int32) (y3 : Int32) : vx_Met l yX7_act [Cond.code yX7_act cX7_act 4 (some .int)] ({ frames := 7, cells := 1, slots := 6, locals := 111 } : Room) (va_Pc (.ref (kA κ 7 0) :: [.int y1, .int y2, .int y3]) (GW κ γ)) (QLX κ (x_X7_act y1 y2 y3 γ).2.2 (x_X7_act y1 y2 y3 γ).1 (some (.int (x_X7_act y1 y2 y3 γ).2.1))) (XLX κ (x_X7_act y1 y2 y3 γ).2.2 (x_X7_act y1 y2 y3 γ).1) 1 6 (AA κ) := by
  refine co_of fun κ1 _ hgi => ?_
  obtain ⟨k0, k9⟩ := gi_act (y1 := y1) (y2 := y2) (y3 := y3) hgi
  exact ⟨c_X7_act l hfl κ1 γ y1 y2 y3 k0, k9⟩
theorem gi_hit {nb np : Nat} {γ : St} (y1 : Int32) (y2 : Int32) (y3 : Int32) (y4 : Int32) (h : GI nb np γ) : ok_X7_hit y1 y2 y3 y4 γ ∧ GI nb np (x_X7_hit y1 y2 y3 y4 γ).2.2 := by
  obtain ⟨M, hM⟩ := h
  obtain ⟨k0, -, -, -, -, k9⟩ := cr_hit 1 nb np γ M y1 y2 y3 y4 (by decide) hM
  exact ⟨k0, GI_of k9⟩
theorem co_hit (l : Launch) (hfl : l.stackTraces = false) (κ : KP) (γ : St) (y1 : Int32) (y2 : Int32) (y3 : Int32) (y4 : Int32) : vx_Met l yX7_hit [Cond.code yX7_hit cX7_hit 5 (some .int)] ({ frames := 7, cells := 1, slots := 6, locals := 111 } : Room) (va_Pc (.ref (kA κ 7 0) :: [.int y1, .int y2, .int y3, .int y4]) (GW κ γ)) (QLX κ (x_X7_hit y1 y2 y3 y4 γ).2.2 (x_X7_hit y1 y2 y3 y4 γ).1 (some (.int (x_X7_hit y1 y2 y3 y4 γ).2.1))) (XLX κ (x_X7_hit y1 y2 y3 y4 γ).2.2 (x_X7_hit y1 y2 y3 y4 γ).1) 1 6 (AA κ) := by
  refine co_of fun κ1 _ hgi => ?_
  obtain ⟨k0, k9⟩ := gi_hit (y1 := y1) (y2 := y2) (y3 := y3) (y4 := y4) hgi
  exact ⟨c_X7_hit l hfl κ1 γ y1 y2 y3 y4 k0, k9⟩
theorem gi_judge {nb np : Nat} {γ : St} (h : GI nb np γ) : ok_X7_judge γ ∧ GI nb np (x_X7_judge γ).2.2 := by
  obtain ⟨M, hM⟩ := h
  obtain ⟨k0, -, -, -, -, k9⟩ := cr_judge 1 nb np γ M (by decide) hM
  exact ⟨k0, GI_of k9⟩
theorem co_judge (l : Launch) (hfl : l.stackTraces = false) (κ : KP) (γ : St) : vx_Met l yX7_judge [Cond.code yX7_judge cX7_judge 3 (some .int)] ({ frames := 7, cells := 1, slots := 6, locals := 142 } : Room) (va_Pc (.ref (kA κ 7 0) :: []) (GW κ γ)) (QLX κ (x_X7_judge γ).2.2 (x_X7_judge γ).1 (some (.int (x_X7_judge γ).2.1))) (XLX κ (x_X7_judge γ).2.2 (x_X7_judge γ).1) 1 6 (AA κ) := by
  refine co_of fun κ1 _ hgi => ?_
  obtain ⟨k0, k9⟩ := gi_judge hgi
  exact ⟨c_X7_judge l hfl κ1 γ k0, k9⟩
theorem gi_card {nb np : Nat} {γ : St} (y1 : Int32) (y2 : Int32) (h : GI nb np γ) : ok_X7_card y1 y2 γ ∧ GI nb np (x_X7_card y1 y2 γ).2.2 := by
  obtain ⟨M, hM⟩ := h
  obtain ⟨k0, -, -, -, -, k9⟩ := cr_card 1 nb np γ M y1 y2 (by decide) hM
  exact ⟨k0, GI_of k9⟩
theorem co_card (l : Launch) (hfl : l.stackTraces = false) (κ : KP) (γ : St) (y1 : Int32) (y2 : Int32) : vx_Met l yX7_card [Cond.code yX7_card cX7_card 5 (some .int)] ({ frames := 7, cells := 1, slots := 6, locals := 110 } : Room) (va_Pc (.ref (kA κ 7 0) :: [.int y1, .int y2]) (GW κ γ)) (QLX κ (x_X7_card y1 y2 γ).2.2 (x_X7_card y1 y2 γ).1 (some (.int (x_X7_card y1 y2 γ).2.1))) (XLX κ (x_X7_card y1 y2 γ).2.2 (x_X7_card y1 y2 γ).1) 1 6 (AA κ) := by
  refine co_of fun κ1 _ hgi => ?_
  obtain ⟨k0, k9⟩ := gi_card (y1 := y1) (y2 := y2) hgi
  exact ⟨c_X7_card l hfl κ1 γ y1 y2 k0, k9⟩
theorem gi_clock {nb np : Nat} {γ : St} (y1 : Int32) (h : GI nb np γ) : ok_X7_clock y1 γ ∧ GI nb np (x_X7_clock y1 γ).2.2 := by
  obtain ⟨M, hM⟩ := h
  obtain ⟨k0, -, -, -, -, k9⟩ := cr_clock 1 nb np γ M y1 (by decide) hM
  exact ⟨k0, GI_of k9⟩
theorem co_clock (l : Launch) (hfl : l.stackTraces = false) (κ : KP) (γ : St) (y1 : Int32) : vx_Met l yX7_clock [Cond.code yX7_clock cX7_clock 4 (some .int)] ({ frames := 7, cells := 1, slots := 6, locals := 110 } : Room) (va_Pc (.ref (kA κ 7 0) :: [.int y1]) (GW κ γ)) (QLX κ (x_X7_clock y1 γ).2.2 (x_X7_clock y1 γ).1 (some (.int (x_X7_clock y1 γ).2.1))) (XLX κ (x_X7_clock y1 γ).2.2 (x_X7_clock y1 γ).1) 1 6 (AA κ) := by
  refine co_of fun κ1 _ hgi => ?_
  obtain ⟨k0, k9⟩ := gi_clock (y1 := y1) hgi
  exact ⟨c_X7_clock l hfl κ1 γ y1 k0, k9⟩
theorem gi_end {nb np : Nat} {γ : St} (h : GI nb np γ) : ok_X7_end γ ∧ GI nb np (x_X7_end γ).2.2 := by
  obtain ⟨M, hM⟩ := h
  obtain ⟨k0, -, -, -, -, k9⟩ := cr_end 1 nb np γ M (by decide) hM
  exact ⟨k0, GI_of k9⟩
theorem co_end (l : Launch) (hfl : l.stackTraces = false) (κ : KP) (γ : St) : vx_Met l yX7_end [Cond.code yX7_end cX7_end 2 (some .int)] ({ frames := 7, cells := 1, slots := 6, locals := 110 } : Room) (va_Pc (.ref (kA κ 7 0) :: []) (GW κ γ)) (QLX κ (x_X7_end γ).2.2 (x_X7_end γ).1 (some (.int (x_X7_end γ).2.1))) (XLX κ (x_X7_end γ).2.2 (x_X7_end γ).1) 1 6 (AA κ) := by
  refine co_of fun κ1 _ hgi => ?_
  obtain ⟨k0, k9⟩ := gi_end hgi
  exact ⟨c_X7_end l hfl κ1 γ k0, k9⟩
theorem gi_seed {nb np : Nat} {γ : St} (y1 : Int32) (h : GI nb np γ) : GI nb np (x_X7_seed y1 γ).2 := by
  obtain ⟨M, hM⟩ := h
  obtain ⟨-, -, k9⟩ := cr_seed 1 nb np γ M y1 (by decide) hM
  exact GI_of k9
theorem co_seed (l : Launch) (hfl : l.stackTraces = false) (κ : KP) (γ : St) (y1 : Int32) : vx_Met l yX7_seed [Cond.code yX7_seed cX7_seed 2 none] ({ frames := 6, cells := 1, slots := 6, locals := 90 } : Room) (va_Pc (.ref (kA κ 7 0) :: [.int y1]) (GW κ γ)) (QLX κ (x_X7_seed y1 γ).2 (x_X7_seed y1 γ).1 none) (XLX κ (x_X7_seed y1 γ).2 (x_X7_seed y1 γ).1) 1 6 (AA κ) := by
  refine co_of fun κ1 _ hgi => ?_
  exact ⟨c_X7_seed l hfl κ1 γ y1, gi_seed (y1 := y1) hgi⟩
theorem gi_pool {nb np : Nat} {γ : St} (y1 : Int32) (h : GI nb np γ) : ok_X7_pool y1 γ ∧ np = (gV γ 7 0 7).toNatClampNeg ∧ GI nb (if (x_X7_pool y1 γ).1 = 0 then np + 1 else np) (x_X7_pool y1 γ).2.2 := by
  obtain ⟨M, hM⟩ := h
  obtain ⟨k0, -, -, -, -, k8, k9⟩ := cr_pool 1 nb np γ M y1 (by decide) hM
  exact ⟨k0, k8, GI_of k9⟩
theorem co_pool (l : Launch) (hfl : l.stackTraces = false) (κ : KP) (γ : St) (y1 : Int32) : vx_Met l yX7_pool [Cond.code yX7_pool cX7_pool 4 (some .int)] ({ frames := 6, cells := 3, slots := 65, locals := 90 } : Room) (va_Pc (.ref (kA κ 7 0) :: [.int y1]) (GW κ γ)) (QLX κ (x_X7_pool y1 γ).2.2 (x_X7_pool y1 γ).1 (some (.int (x_X7_pool y1 γ).2.1))) (XLX κ (x_X7_pool y1 γ).2.2 (x_X7_pool y1 γ).1) 3 65 (AA κ) := by
  refine co_ofE fun κ1 _ hgi => ?_
  obtain ⟨k0, k8, k9⟩ := gi_pool (y1 := y1) hgi
  refine ⟨(kN κ1), (kO κ1 + 1), c_X7_pool l hfl κ1 γ y1 k8 k0, fun he => ?_, fun he => ?_⟩
  · rw [if_pos he] at k9; exact k9
  · rw [if_neg he] at k9; exact k9
theorem gi_withdraw {nb np : Nat} {γ : St} (y1 : Int32) (y2 : Int32) (h : GI nb np γ) : ok_X7_withdraw y1 y2 γ ∧ GI nb np (x_X7_withdraw y1 y2 γ).2.2 := by
  obtain ⟨M, hM⟩ := h
  obtain ⟨k0, -, -, -, -, k9⟩ := cr_withdraw 1 nb np γ M y1 y2 (by decide) hM
  exact ⟨k0, GI_of k9⟩
theorem co_withdraw (l : Launch) (hfl : l.stackTraces = false) (κ : KP) (γ : St) (y1 : Int32) (y2 : Int32) : vx_Met l yX7_withdraw [Cond.code yX7_withdraw cX7_withdraw 7 (some .int)] ({ frames := 7, cells := 2, slots := 12, locals := 113 } : Room) (va_Pc (.ref (kA κ 7 0) :: [.int y1, .int y2]) (GW κ γ)) (QLX κ (x_X7_withdraw y1 y2 γ).2.2 (x_X7_withdraw y1 y2 γ).1 (some (.int (x_X7_withdraw y1 y2 γ).2.1))) (XLX κ (x_X7_withdraw y1 y2 γ).2.2 (x_X7_withdraw y1 y2 γ).1) 2 12 (AA κ) := by
  refine co_of fun κ1 _ hgi => ?_
  obtain ⟨k0, k9⟩ := gi_withdraw (y1 := y1) (y2 := y2) hgi
  exact ⟨c_X7_withdraw l hfl κ1 γ y1 y2 k0, k9⟩
theorem gi_tableau {nb np : Nat} {γ : St} (y1 : Int32) (h : GI nb np γ) : ok_X7_tableau y1 γ ∧ GI nb np (x_X7_tableau y1 γ).2.2 := by
  obtain ⟨M, hM⟩ := h
  obtain ⟨k0, -, -, -, -, k9⟩ := cr_tableau 1 nb np γ M y1 (by decide) hM
  exact ⟨k0, GI_of k9⟩
theorem co_tableau (l : Launch) (hfl : l.stackTraces = false) (κ : KP) (γ : St) (y1 : Int32) : vx_Met l yX7_tableau [Cond.code yX7_tableau cX7_tableau 3 (some .int)] ({ frames := 6, cells := 1, slots := 6, locals := 135 } : Room) (va_Pc (.ref (kA κ 7 0) :: [.int y1]) (GW κ γ)) (QLX κ (x_X7_tableau y1 γ).2.2 (x_X7_tableau y1 γ).1 (some (.int (x_X7_tableau y1 γ).2.1))) (XLX κ (x_X7_tableau y1 γ).2.2 (x_X7_tableau y1 γ).1) 1 6 (AA κ) := by
  refine co_of fun κ1 _ hgi => ?_
  obtain ⟨k0, k9⟩ := gi_tableau (y1 := y1) hgi
  exact ⟨c_X7_tableau l hfl κ1 γ y1 k0, k9⟩
theorem gi_wins {nb np : Nat} {γ : St} (y1 : Int32) (y2 : Int32) (y3 : Int32) (h : GI nb np γ) : ok_X7_wins y1 y2 y3 γ ∧ GI nb np (x_X7_wins y1 y2 y3 γ).2.2 := by
  obtain ⟨M, hM⟩ := h
  obtain ⟨k0, -, -, -, -, k9⟩ := cr_wins 1 nb np γ M y1 y2 y3 (by decide) hM
  exact ⟨k0, GI_of k9⟩
theorem co_wins (l : Launch) (hfl : l.stackTraces = false) (κ : KP) (γ : St) (y1 : Int32) (y2 : Int32) (y3 : Int32) : vx_Met l yX7_wins [Cond.code yX7_wins cX7_wins 4 (some .int)] ({ frames := 7, cells := 2, slots := 12, locals := 112 } : Room) (va_Pc (.ref (kA κ 7 0) :: [.int y1, .int y2, .int y3]) (GW κ γ)) (QLX κ (x_X7_wins y1 y2 y3 γ).2.2 (x_X7_wins y1 y2 y3 γ).1 (some (.int (x_X7_wins y1 y2 y3 γ).2.1))) (XLX κ (x_X7_wins y1 y2 y3 γ).2.2 (x_X7_wins y1 y2 y3 γ).1) 2 12 (AA κ) := by
  refine co_of fun κ1 _ hgi => ?_
  obtain ⟨k0, k9⟩ := gi_wins (y1 := y1) (y2 := y2) (y3 := y3) hgi
  exact ⟨c_X7_wins l hfl κ1 γ y1 y2 y3 k0, k9⟩
theorem gi_lamp {nb np : Nat} {γ : St} (y1 : Int32) (h : GI nb np γ) : ok_X7_lamp y1 γ ∧ GI nb np (x_X7_lamp y1 γ).2.2 := by
  obtain ⟨M, hM⟩ := h
  obtain ⟨k0, -, -, -, -, k9⟩ := cr_lamp 1 nb np γ M y1 (by decide) hM
  exact ⟨k0, GI_of k9⟩
theorem co_lamp (l : Launch) (hfl : l.stackTraces = false) (κ : KP) (γ : St) (y1 : Int32) : vx_Met l yX7_lamp [Cond.code yX7_lamp cX7_lamp 2 (some .int)] ({ frames := 6, cells := 1, slots := 6, locals := 90 } : Room) (va_Pc (.ref (kA κ 7 0) :: [.int y1]) (GW κ γ)) (QLX κ (x_X7_lamp y1 γ).2.2 (x_X7_lamp y1 γ).1 (some (.int (x_X7_lamp y1 γ).2.1))) (XLX κ (x_X7_lamp y1 γ).2.2 (x_X7_lamp y1 γ).1) 1 6 (AA κ) := by
  refine co_of fun κ1 _ hgi => ?_
  obtain ⟨k0, k9⟩ := gi_lamp (y1 := y1) hgi
  exact ⟨c_X7_lamp l hfl κ1 γ y1 k0, k9⟩
theorem gi_holder {nb np : Nat} {γ : St} (h : GI nb np γ) : ok_X7_holder γ ∧ GI nb np ((x_X7_holder γ).2) := by
  obtain ⟨M, hM⟩ := h
  obtain ⟨k0, -, -, k9⟩ := cr_holder 1 nb np γ M (by decide) hM
  exact ⟨k0, GI_of k9⟩
theorem co_holder (l : Launch) (κ : KP) (γ : St) : Met l yX7_holder [Cond.code yX7_holder cX7_holder 1 (some .int)] ({ frames := 4, cells := 0, slots := 0, locals := 91 } : Room) (va_Pc (.ref (kA κ 7 0) :: []) (GW κ γ)) (QL κ ((x_X7_holder γ).2) (some (.int (x_X7_holder γ).1))) 0 0 (AA κ) := by
  refine co_ofM fun κ1 _ hgi => ?_
  obtain ⟨k0, k9⟩ := gi_holder hgi
  exact ⟨c_X7_holder l κ1 γ k0, k9⟩
theorem gi_reason {nb np : Nat} {γ : St} (h : GI nb np γ) : GI nb np γ := by
  obtain ⟨M, hM⟩ := h
  obtain ⟨-, k9⟩ := cr_reason 1 nb np γ M (by decide) hM
  exact GI_of k9
theorem co_reason (l : Launch) (κ : KP) (γ : St) : Met l yX7_reason [Cond.code yX7_reason cX7_reason 1 (some .int)] ({ frames := 0, cells := 0, slots := 0, locals := 0 } : Room) (va_Pc (.ref (kA κ 7 0) :: []) (GW κ γ)) (QL κ γ (some (.int (x_X7_reason γ)))) 0 0 (AA κ) := by
  refine co_ofM fun κ1 _ hgi => ?_
  exact ⟨c_X7_reason l κ1 γ, gi_reason hgi⟩
theorem gi_ofBout {nb np : Nat} {γ : St} (y1 : Int32) (y2 : Int32) (h : GI nb np γ) : ok_X7_ofBout y1 y2 γ ∧ GI nb np (x_X7_ofBout y1 y2 γ).2.2 := by
  obtain ⟨M, hM⟩ := h
  obtain ⟨k0, -, -, -, -, k9⟩ := cr_ofBout 1 nb np γ M y1 y2 (by decide) hM
  exact ⟨k0, GI_of k9⟩
theorem co_ofBout (l : Launch) (hfl : l.stackTraces = false) (κ : KP) (γ : St) (y1 : Int32) (y2 : Int32) : vx_Met l yX7_ofBout [Cond.code yX7_ofBout cX7_ofBout 4 (some .int)] ({ frames := 6, cells := 1, slots := 6, locals := 90 } : Room) (va_Pc (.ref (kA κ 7 0) :: [.int y1, .int y2]) (GW κ γ)) (QLX κ (x_X7_ofBout y1 y2 γ).2.2 (x_X7_ofBout y1 y2 γ).1 (some (.int (x_X7_ofBout y1 y2 γ).2.1))) (XLX κ (x_X7_ofBout y1 y2 γ).2.2 (x_X7_ofBout y1 y2 γ).1) 1 6 (AA κ) := by
  refine co_of fun κ1 _ hgi => ?_
  obtain ⟨k0, k9⟩ := gi_ofBout (y1 := y1) (y2 := y2) hgi
  exact ⟨c_X7_ofBout l hfl κ1 γ y1 y2 k0, k9⟩
theorem gi_ofPool {nb np : Nat} {γ : St} (y1 : Int32) (y2 : Int32) (y3 : Int32) (h : GI nb np γ) : ok_X7_ofPool y1 y2 y3 γ ∧ GI nb np (x_X7_ofPool y1 y2 y3 γ).2.2 := by
  obtain ⟨M, hM⟩ := h
  obtain ⟨k0, -, -, -, -, k9⟩ := cr_ofPool 1 nb np γ M y1 y2 y3 (by decide) hM
  exact ⟨k0, GI_of k9⟩
theorem co_ofPool (l : Launch) (hfl : l.stackTraces = false) (κ : KP) (γ : St) (y1 : Int32) (y2 : Int32) (y3 : Int32) : vx_Met l yX7_ofPool [Cond.code yX7_ofPool cX7_ofPool 5 (some .int)] ({ frames := 7, cells := 2, slots := 12, locals := 113 } : Room) (va_Pc (.ref (kA κ 7 0) :: [.int y1, .int y2, .int y3]) (GW κ γ)) (QLX κ (x_X7_ofPool y1 y2 y3 γ).2.2 (x_X7_ofPool y1 y2 y3 γ).1 (some (.int (x_X7_ofPool y1 y2 y3 γ).2.1))) (XLX κ (x_X7_ofPool y1 y2 y3 γ).2.2 (x_X7_ofPool y1 y2 y3 γ).1) 2 12 (AA κ) := by
  refine co_of fun κ1 _ hgi => ?_
  obtain ⟨k0, k9⟩ := gi_ofPool (y1 := y1) (y2 := y2) (y3 := y3) hgi
  exact ⟨c_X7_ofPool l hfl κ1 γ y1 y2 y3 k0, k9⟩
theorem gi_ofPoolAnew {nb np : Nat} {γ : St} (y1 : Int32) (y2 : Int32) (y3 : Int32) (h : GI nb np γ) : ok_X7_ofPoolAnew y1 y2 y3 γ ∧ GI nb np (x_X7_ofPoolAnew y1 y2 y3 γ).2.2 := by
  obtain ⟨M, hM⟩ := h
  obtain ⟨k0, -, -, -, -, k9⟩ := cr_ofPoolAnew 1 nb np γ M y1 y2 y3 (by decide) hM
  exact ⟨k0, GI_of k9⟩
theorem co_ofPoolAnew (l : Launch) (hfl : l.stackTraces = false) (κ : KP) (γ : St) (y1 : Int32) (y2 : Int32) (y3 : Int32) : vx_Met l yX7_ofPoolAnew [Cond.code yX7_ofPoolAnew cX7_ofPoolAnew 8 (some .int)] ({ frames := 7, cells := 2, slots := 12, locals := 113 } : Room) (va_Pc (.ref (kA κ 7 0) :: [.int y1, .int y2, .int y3]) (GW κ γ)) (QLX κ (x_X7_ofPoolAnew y1 y2 y3 γ).2.2 (x_X7_ofPoolAnew y1 y2 y3 γ).1 (some (.int (x_X7_ofPoolAnew y1 y2 y3 γ).2.1))) (XLX κ (x_X7_ofPoolAnew y1 y2 y3 γ).2.2 (x_X7_ofPoolAnew y1 y2 y3 γ).1) 2 12 (AA κ) := by
  refine co_of fun κ1 _ hgi => ?_
  obtain ⟨k0, k9⟩ := gi_ofPoolAnew (y1 := y1) (y2 := y2) (y3 := y3) hgi
  exact ⟨c_X7_ofPoolAnew l hfl κ1 γ y1 y2 y3 k0, k9⟩
theorem gi_rank {nb np : Nat} {γ : St} (y1 : Int32) (y2 : Int32) (h : GI nb np γ) : ok_X7_rank y1 y2 γ ∧ GI nb np (x_X7_rank y1 y2 γ).2.2 := by
  obtain ⟨M, hM⟩ := h
  obtain ⟨k0, -, -, -, -, k9⟩ := cr_rank 1 nb np γ M y1 y2 (by decide) hM
  exact ⟨k0, GI_of k9⟩
theorem co_rank (l : Launch) (hfl : l.stackTraces = false) (κ : KP) (γ : St) (y1 : Int32) (y2 : Int32) : vx_Met l yX7_rank [Cond.code yX7_rank cX7_rank 4 (some .int)] ({ frames := 6, cells := 1, slots := 6, locals := 113 } : Room) (va_Pc (.ref (kA κ 7 0) :: [.int y1, .int y2]) (GW κ γ)) (QLX κ (x_X7_rank y1 y2 γ).2.2 (x_X7_rank y1 y2 γ).1 (some (.int (x_X7_rank y1 y2 γ).2.1))) (XLX κ (x_X7_rank y1 y2 γ).2.2 (x_X7_rank y1 y2 γ).1) 1 6 (AA κ) := by
  refine co_of fun κ1 _ hgi => ?_
  obtain ⟨k0, k9⟩ := gi_rank (y1 := y1) (y2 := y2) hgi
  exact ⟨c_X7_rank l hfl κ1 γ y1 y2 k0, k9⟩
theorem gi_meets {nb np : Nat} {γ : St} (y1 : Int32) (y2 : Int32) (y3 : Int32) (h : GI nb np γ) : ok_X7_meets y1 y2 y3 γ ∧ GI nb np (x_X7_meets y1 y2 y3 γ).2.2 := by
  obtain ⟨M, hM⟩ := h
  obtain ⟨k0, -, -, -, -, k9⟩ := cr_meets 1 nb np γ M y1 y2 y3 (by decide) hM
  exact ⟨k0, GI_of k9⟩
theorem co_meets (l : Launch) (hfl : l.stackTraces = false) (κ : KP) (γ : St) (y1 : Int32) (y2 : Int32) (y3 : Int32) : vx_Met l yX7_meets [Cond.code yX7_meets cX7_meets 4 (some .int)] ({ frames := 7, cells := 2, slots := 12, locals := 112 } : Room) (va_Pc (.ref (kA κ 7 0) :: [.int y1, .int y2, .int y3]) (GW κ γ)) (QLX κ (x_X7_meets y1 y2 y3 γ).2.2 (x_X7_meets y1 y2 y3 γ).1 (some (.int (x_X7_meets y1 y2 y3 γ).2.1))) (XLX κ (x_X7_meets y1 y2 y3 γ).2.2 (x_X7_meets y1 y2 y3 γ).1) 2 12 (AA κ) := by
  refine co_of fun κ1 _ hgi => ?_
  obtain ⟨k0, k9⟩ := gi_meets (y1 := y1) (y2 := y2) (y3 := y3) hgi
  exact ⟨c_X7_meets l hfl κ1 γ y1 y2 y3 k0, k9⟩
