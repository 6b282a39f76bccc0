noncomputable section
def RW (C M : St) (by_ since par pAt : Int32) : Prop :=
  gV C 6 0 0 = gV M 8 0 30 ∧ (gV M 8 0 30 = -1 ∨ gV M 8 0 30 = 0 ∨ gV M 8 0 30 = 1) ∧ (¬ gV M 8 0 30 = -1 → gV C 6 0 1 = by_) ∧ (¬ gV M 8 0 30 = -1 → by_ = 0 → gV C 6 0 2 = since) ∧ gV C 6 0 3 = par ∧ (¬ par = -1 → gV C 6 0 4 = pAt)
def pc6 : Nat → Nat → Bool := fun c _ => !(c == 6)
def pm30 : Nat → Nat → Bool := fun c k => !(c == 8 && k == 30)
theorem take_Ag (s kd t : Int32) (C : St) : Ag pc6 C (x_X6_take s kd t C) := by
  unfold x_X6_take x_X6_take_54 x_X6_take_72 x_X6_take_99 x_X6_take_108 x_X6_take_146 x_X6_take_185 x_X6_attack x_X6_attack_17 x_X6_give x_X6_parry
  repeat' split
  all_goals repeat first | exact Ag.rf _ _ | refine Ag_sV _ _ _ _ rfl ?_
def RE (K : Int32 → Int32 → Int32 → Int32 → Int32 → Int32 → St → Int32 × St) (a1 by_ since par pAt i s : Int32) (M : St) : Int32 × St :=
  if gV M 8 0 30 = 1 - s then x_X8_rights_49 K a1 by_ since par pAt i s 1 M else x_X8_rights_49 K a1 by_ since par pAt i s 0 M
def OE (J : Int32 → Int32 → Int32 → Int32 → Int32 → Int32 → St → Prop) (a1 by_ since par pAt i s : Int32) (M : St) : Prop :=
  if gV M 8 0 30 = 1 - s then ok_X8_rights_49 J a1 by_ since par pAt i s 1 M else ok_X8_rights_49 J a1 by_ since par pAt i s 0 M
def StepR (C M C1 : St) (by_ since par pAt s : Int32) (i : Nat) : Prop :=
  ∃ by' since' par' pAt' M1, (∀ K a1, RE K a1 by_ since par pAt (nI i) s M = K a1 by' since' par' pAt' (nI i + 1) M1) ∧ (∀ J a1, J a1 by' since' par' pAt' (nI i + 1) M1 → OE J a1 by_ since par pAt (nI i) s M) ∧ RW C1 M1 by' since' par' pAt' ∧ Ag pm30 M M1
set_option maxHeartbeats 4000000 in
theorem stp_0_0 {C M : St} {by_ since par pAt t : Int32} {i : Nat} (hi : i < 24) (hR : RW C M by_ since par pAt) (hk : gV M 32 0 i = 0) (ht : gV M 33 0 i = t) : StepR C M (x_X6_take 0 0 t C) by_ since par pAt 0 i := by
  obtain ⟨r1, r2, r3, r4, r5, r6⟩ := hR
  have hi2 : i < 2 ^ 31 := by omega
  have hv : vp_in (nI i) 24 := vp_in_nI hi (by omega)
  have d1 : ¬ (-1 : Int32) = 0 := by decide
  have d2 : ¬ (-1 : Int32) = 1 := by decide
  rcases r2 with h | h | h
  · rw [h] at r1 r3 r4
    refine ⟨0, t, par, pAt, (sV M 8 0 30 (0)), fun K a1 => ?_, fun J a1 hj => ?_, ?_, ?_⟩
    · simp [RE, OE, x_X8_rights_49, x_X8_rights_64, x_X8_rights_150, x_X8_rights_179, x_X8_rights_195, x_X8_rights_339, x_X8_rights_345, ok_X8_rights_49, ok_X8_rights_64, ok_X8_rights_150, ok_X8_rights_179, ok_X8_rights_195, ok_X8_rights_339, ok_X8_rights_345, hk, ht, nI_clamp hi2, h, r1, r5, d1, d2]
    · simp [RE, OE, x_X8_rights_49, x_X8_rights_64, x_X8_rights_150, x_X8_rights_179, x_X8_rights_195, x_X8_rights_339, x_X8_rights_345, ok_X8_rights_49, ok_X8_rights_64, ok_X8_rights_150, ok_X8_rights_179, ok_X8_rights_195, ok_X8_rights_339, ok_X8_rights_345, hk, ht, nI_clamp hi2, hv, h, r1, r5, d1, d2]; first | exact hj | (simp_all)
    · simp [RW, gV_sV, x_X6_take, x_X6_take_54, x_X6_take_72, x_X6_take_99, x_X6_take_108, x_X6_take_146, x_X6_take_185, x_X6_attack, x_X6_attack_17, x_X6_give, x_X6_parry, h, r1, r5, d1, d2]
      try simp_all
    · repeat first | exact Ag.rf _ _ | refine Ag_sV _ _ _ _ rfl ?_
  · rw [h] at r1 r3 r4
    have r3 := r3 (by decide)
    have r4 := r4 (by decide)
    refine ⟨0, t, par, pAt, (sV M 8 0 30 (0)), fun K a1 => ?_, fun J a1 hj => ?_, ?_, ?_⟩
    · simp [RE, OE, x_X8_rights_49, x_X8_rights_64, x_X8_rights_150, x_X8_rights_179, x_X8_rights_195, x_X8_rights_339, x_X8_rights_345, ok_X8_rights_49, ok_X8_rights_64, ok_X8_rights_150, ok_X8_rights_179, ok_X8_rights_195, ok_X8_rights_339, ok_X8_rights_345, hk, ht, nI_clamp hi2, h, r1, r5, d1, d2, r3]
    · simp [RE, OE, x_X8_rights_49, x_X8_rights_64, x_X8_rights_150, x_X8_rights_179, x_X8_rights_195, x_X8_rights_339, x_X8_rights_345, ok_X8_rights_49, ok_X8_rights_64, ok_X8_rights_150, ok_X8_rights_179, ok_X8_rights_195, ok_X8_rights_339, ok_X8_rights_345, hk, ht, nI_clamp hi2, hv, h, r1, r5, d1, d2, r3]; first | exact hj | (simp_all)
    · simp [RW, gV_sV, x_X6_take, x_X6_take_54, x_X6_take_72, x_X6_take_99, x_X6_take_108, x_X6_take_146, x_X6_take_185, x_X6_attack, x_X6_attack_17, x_X6_give, x_X6_parry, h, r1, r5, d1, d2, r3]
      try simp_all
    · repeat first | exact Ag.rf _ _ | refine Ag_sV _ _ _ _ rfl ?_
  · rw [h] at r1 r3 r4
    have r3 := r3 (by decide)
    have r4 := r4 (by decide)
    by_cases b0 : by_ = 0
    · have r4 := r4 b0
      by_cases c40 : 40 < t - since
      · skip
        refine ⟨by_, since, par, pAt, M, fun K a1 => ?_, fun J a1 hj => ?_, ?_, ?_⟩
        · simp [RE, OE, x_X8_rights_49, x_X8_rights_64, x_X8_rights_150, x_X8_rights_179, x_X8_rights_195, x_X8_rights_339, x_X8_rights_345, ok_X8_rights_49, ok_X8_rights_64, ok_X8_rights_150, ok_X8_rights_179, ok_X8_rights_195, ok_X8_rights_339, ok_X8_rights_345, hk, ht, nI_clamp hi2, h, r1, r5, d1, d2, r3, b0, c40, r4]
        · simp [RE, OE, x_X8_rights_49, x_X8_rights_64, x_X8_rights_150, x_X8_rights_179, x_X8_rights_195, x_X8_rights_339, x_X8_rights_345, ok_X8_rights_49, ok_X8_rights_64, ok_X8_rights_150, ok_X8_rights_179, ok_X8_rights_195, ok_X8_rights_339, ok_X8_rights_345, hk, ht, nI_clamp hi2, hv, h, r1, r5, d1, d2, r3, b0, c40, r4]; first | exact hj | (simp_all)
        · simp [RW, gV_sV, x_X6_take, x_X6_take_54, x_X6_take_72, x_X6_take_99, x_X6_take_108, x_X6_take_146, x_X6_take_185, x_X6_attack, x_X6_attack_17, x_X6_give, x_X6_parry, h, r1, r5, d1, d2, r3, b0, c40, r4]
          try simp_all
        · repeat first | exact Ag.rf _ _ | refine Ag_sV _ _ _ _ rfl ?_
      · skip
        refine ⟨by_, since, par, pAt, (sV M 8 0 30 (-1)), fun K a1 => ?_, fun J a1 hj => ?_, ?_, ?_⟩
        · simp [RE, OE, x_X8_rights_49, x_X8_rights_64, x_X8_rights_150, x_X8_rights_179, x_X8_rights_195, x_X8_rights_339, x_X8_rights_345, ok_X8_rights_49, ok_X8_rights_64, ok_X8_rights_150, ok_X8_rights_179, ok_X8_rights_195, ok_X8_rights_339, ok_X8_rights_345, hk, ht, nI_clamp hi2, h, r1, r5, d1, d2, r3, b0, c40, r4]
        · simp [RE, OE, x_X8_rights_49, x_X8_rights_64, x_X8_rights_150, x_X8_rights_179, x_X8_rights_195, x_X8_rights_339, x_X8_rights_345, ok_X8_rights_49, ok_X8_rights_64, ok_X8_rights_150, ok_X8_rights_179, ok_X8_rights_195, ok_X8_rights_339, ok_X8_rights_345, hk, ht, nI_clamp hi2, hv, h, r1, r5, d1, d2, r3, b0, c40, r4]; first | exact hj | (simp_all)
        · simp [RW, gV_sV, x_X6_take, x_X6_take_54, x_X6_take_72, x_X6_take_99, x_X6_take_108, x_X6_take_146, x_X6_take_185, x_X6_attack, x_X6_attack_17, x_X6_give, x_X6_parry, h, r1, r5, d1, d2, r3, b0, c40, r4]
          try simp_all
        · repeat first | exact Ag.rf _ _ | refine Ag_sV _ _ _ _ rfl ?_
    · skip
      refine ⟨by_, since, par, pAt, M, fun K a1 => ?_, fun J a1 hj => ?_, ?_, ?_⟩
      · simp [RE, OE, x_X8_rights_49, x_X8_rights_64, x_X8_rights_150, x_X8_rights_179, x_X8_rights_195, x_X8_rights_339, x_X8_rights_345, ok_X8_rights_49, ok_X8_rights_64, ok_X8_rights_150, ok_X8_rights_179, ok_X8_rights_195, ok_X8_rights_339, ok_X8_rights_345, hk, ht, nI_clamp hi2, h, r1, r5, d1, d2, r3, b0]
      · simp [RE, OE, x_X8_rights_49, x_X8_rights_64, x_X8_rights_150, x_X8_rights_179, x_X8_rights_195, x_X8_rights_339, x_X8_rights_345, ok_X8_rights_49, ok_X8_rights_64, ok_X8_rights_150, ok_X8_rights_179, ok_X8_rights_195, ok_X8_rights_339, ok_X8_rights_345, hk, ht, nI_clamp hi2, hv, h, r1, r5, d1, d2, r3, b0]; first | exact hj | (simp_all)
      · simp [RW, gV_sV, x_X6_take, x_X6_take_54, x_X6_take_72, x_X6_take_99, x_X6_take_108, x_X6_take_146, x_X6_take_185, x_X6_attack, x_X6_attack_17, x_X6_give, x_X6_parry, h, r1, r5, d1, d2, r3, b0]
        try simp_all
      · repeat first | exact Ag.rf _ _ | refine Ag_sV _ _ _ _ rfl ?_
set_option maxHeartbeats 4000000 in
theorem stp_0_1 {C M : St} {by_ since par pAt t : Int32} {i : Nat} (hi : i < 24) (hR : RW C M by_ since par pAt) (hk : gV M 32 0 i = 0) (ht : gV M 33 0 i = t) : StepR C M (x_X6_take 1 0 t C) by_ since par pAt 1 i := by
  obtain ⟨r1, r2, r3, r4, r5, r6⟩ := hR
  have hi2 : i < 2 ^ 31 := by omega
  have hv : vp_in (nI i) 24 := vp_in_nI hi (by omega)
  have d1 : ¬ (-1 : Int32) = 0 := by decide
  have d2 : ¬ (-1 : Int32) = 1 := by decide
  rcases r2 with h | h | h
  · rw [h] at r1 r3 r4
    refine ⟨0, t, par, pAt, (sV M 8 0 30 (1)), fun K a1 => ?_, fun J a1 hj => ?_, ?_, ?_⟩
    · simp [RE, OE, x_X8_rights_49, x_X8_rights_64, x_X8_rights_150, x_X8_rights_179, x_X8_rights_195, x_X8_rights_339, x_X8_rights_345, ok_X8_rights_49, ok_X8_rights_64, ok_X8_rights_150, ok_X8_rights_179, ok_X8_rights_195, ok_X8_rights_339, ok_X8_rights_345, hk, ht, nI_clamp hi2, h, r1, r5, d1, d2]
    · simp [RE, OE, x_X8_rights_49, x_X8_rights_64, x_X8_rights_150, x_X8_rights_179, x_X8_rights_195, x_X8_rights_339, x_X8_rights_345, ok_X8_rights_49, ok_X8_rights_64, ok_X8_rights_150, ok_X8_rights_179, ok_X8_rights_195, ok_X8_rights_339, ok_X8_rights_345, hk, ht, nI_clamp hi2, hv, h, r1, r5, d1, d2]; first | exact hj | (simp_all)
    · simp [RW, gV_sV, x_X6_take, x_X6_take_54, x_X6_take_72, x_X6_take_99, x_X6_take_108, x_X6_take_146, x_X6_take_185, x_X6_attack, x_X6_attack_17, x_X6_give, x_X6_parry, h, r1, r5, d1, d2]
      try simp_all
    · repeat first | exact Ag.rf _ _ | refine Ag_sV _ _ _ _ rfl ?_
  · rw [h] at r1 r3 r4
    have r3 := r3 (by decide)
    have r4 := r4 (by decide)
    by_cases b0 : by_ = 0
    · have r4 := r4 b0
      by_cases c40 : 40 < t - since
      · skip
        refine ⟨by_, since, par, pAt, M, fun K a1 => ?_, fun J a1 hj => ?_, ?_, ?_⟩
        · simp [RE, OE, x_X8_rights_49, x_X8_rights_64, x_X8_rights_150, x_X8_rights_179, x_X8_rights_195, x_X8_rights_339, x_X8_rights_345, ok_X8_rights_49, ok_X8_rights_64, ok_X8_rights_150, ok_X8_rights_179, ok_X8_rights_195, ok_X8_rights_339, ok_X8_rights_345, hk, ht, nI_clamp hi2, h, r1, r5, d1, d2, r3, b0, c40, r4]
        · simp [RE, OE, x_X8_rights_49, x_X8_rights_64, x_X8_rights_150, x_X8_rights_179, x_X8_rights_195, x_X8_rights_339, x_X8_rights_345, ok_X8_rights_49, ok_X8_rights_64, ok_X8_rights_150, ok_X8_rights_179, ok_X8_rights_195, ok_X8_rights_339, ok_X8_rights_345, hk, ht, nI_clamp hi2, hv, h, r1, r5, d1, d2, r3, b0, c40, r4]; first | exact hj | (simp_all)
        · simp [RW, gV_sV, x_X6_take, x_X6_take_54, x_X6_take_72, x_X6_take_99, x_X6_take_108, x_X6_take_146, x_X6_take_185, x_X6_attack, x_X6_attack_17, x_X6_give, x_X6_parry, h, r1, r5, d1, d2, r3, b0, c40, r4]
          try simp_all
        · repeat first | exact Ag.rf _ _ | refine Ag_sV _ _ _ _ rfl ?_
      · skip
        refine ⟨by_, since, par, pAt, (sV M 8 0 30 (-1)), fun K a1 => ?_, fun J a1 hj => ?_, ?_, ?_⟩
        · simp [RE, OE, x_X8_rights_49, x_X8_rights_64, x_X8_rights_150, x_X8_rights_179, x_X8_rights_195, x_X8_rights_339, x_X8_rights_345, ok_X8_rights_49, ok_X8_rights_64, ok_X8_rights_150, ok_X8_rights_179, ok_X8_rights_195, ok_X8_rights_339, ok_X8_rights_345, hk, ht, nI_clamp hi2, h, r1, r5, d1, d2, r3, b0, c40, r4]
        · simp [RE, OE, x_X8_rights_49, x_X8_rights_64, x_X8_rights_150, x_X8_rights_179, x_X8_rights_195, x_X8_rights_339, x_X8_rights_345, ok_X8_rights_49, ok_X8_rights_64, ok_X8_rights_150, ok_X8_rights_179, ok_X8_rights_195, ok_X8_rights_339, ok_X8_rights_345, hk, ht, nI_clamp hi2, hv, h, r1, r5, d1, d2, r3, b0, c40, r4]; first | exact hj | (simp_all)
        · simp [RW, gV_sV, x_X6_take, x_X6_take_54, x_X6_take_72, x_X6_take_99, x_X6_take_108, x_X6_take_146, x_X6_take_185, x_X6_attack, x_X6_attack_17, x_X6_give, x_X6_parry, h, r1, r5, d1, d2, r3, b0, c40, r4]
          try simp_all
        · repeat first | exact Ag.rf _ _ | refine Ag_sV _ _ _ _ rfl ?_
    · skip
      refine ⟨by_, since, par, pAt, M, fun K a1 => ?_, fun J a1 hj => ?_, ?_, ?_⟩
      · simp [RE, OE, x_X8_rights_49, x_X8_rights_64, x_X8_rights_150, x_X8_rights_179, x_X8_rights_195, x_X8_rights_339, x_X8_rights_345, ok_X8_rights_49, ok_X8_rights_64, ok_X8_rights_150, ok_X8_rights_179, ok_X8_rights_195, ok_X8_rights_339, ok_X8_rights_345, hk, ht, nI_clamp hi2, h, r1, r5, d1, d2, r3, b0]
      · simp [RE, OE, x_X8_rights_49, x_X8_rights_64, x_X8_rights_150, x_X8_rights_179, x_X8_rights_195, x_X8_rights_339, x_X8_rights_345, ok_X8_rights_49, ok_X8_rights_64, ok_X8_rights_150, ok_X8_rights_179, ok_X8_rights_195, ok_X8_rights_339, ok_X8_rights_345, hk, ht, nI_clamp hi2, hv, h, r1, r5, d1, d2, r3, b0]; first | exact hj | (simp_all)
      · simp [RW, gV_sV, x_X6_take, x_X6_take_54, x_X6_take_72, x_X6_take_99, x_X6_take_108, x_X6_take_146, x_X6_take_185, x_X6_attack, x_X6_attack_17, x_X6_give, x_X6_parry, h, r1, r5, d1, d2, r3, b0]
        try simp_all
      · repeat first | exact Ag.rf _ _ | refine Ag_sV _ _ _ _ rfl ?_
  · rw [h] at r1 r3 r4
    have r3 := r3 (by decide)
    have r4 := r4 (by decide)
    refine ⟨0, t, par, pAt, (sV M 8 0 30 (1)), fun K a1 => ?_, fun J a1 hj => ?_, ?_, ?_⟩
    · simp [RE, OE, x_X8_rights_49, x_X8_rights_64, x_X8_rights_150, x_X8_rights_179, x_X8_rights_195, x_X8_rights_339, x_X8_rights_345, ok_X8_rights_49, ok_X8_rights_64, ok_X8_rights_150, ok_X8_rights_179, ok_X8_rights_195, ok_X8_rights_339, ok_X8_rights_345, hk, ht, nI_clamp hi2, h, r1, r5, d1, d2, r3]
    · simp [RE, OE, x_X8_rights_49, x_X8_rights_64, x_X8_rights_150, x_X8_rights_179, x_X8_rights_195, x_X8_rights_339, x_X8_rights_345, ok_X8_rights_49, ok_X8_rights_64, ok_X8_rights_150, ok_X8_rights_179, ok_X8_rights_195, ok_X8_rights_339, ok_X8_rights_345, hk, ht, nI_clamp hi2, hv, h, r1, r5, d1, d2, r3]; first | exact hj | (simp_all)
    · simp [RW, gV_sV, x_X6_take, x_X6_take_54, x_X6_take_72, x_X6_take_99, x_X6_take_108, x_X6_take_146, x_X6_take_185, x_X6_attack, x_X6_attack_17, x_X6_give, x_X6_parry, h, r1, r5, d1, d2, r3]
      try simp_all
    · repeat first | exact Ag.rf _ _ | refine Ag_sV _ _ _ _ rfl ?_
set_option maxHeartbeats 4000000 in
theorem stp_1_0 {C M : St} {by_ since par pAt t : Int32} {i : Nat} (hi : i < 24) (hR : RW C M by_ since par pAt) (hk : gV M 32 0 i = 1) (ht : gV M 33 0 i = t) : StepR C M (x_X6_take 0 1 t C) by_ since par pAt 0 i := by
  obtain ⟨r1, r2, r3, r4, r5, r6⟩ := hR
  have hi2 : i < 2 ^ 31 := by omega
  have hv : vp_in (nI i) 24 := vp_in_nI hi (by omega)
  have d1 : ¬ (-1 : Int32) = 0 := by decide
  have d2 : ¬ (-1 : Int32) = 1 := by decide
  rcases r2 with h | h | h
  · rw [h] at r1 r3 r4
    refine ⟨1, since, par, pAt, (sV M 8 0 30 (0)), fun K a1 => ?_, fun J a1 hj => ?_, ?_, ?_⟩
    · simp [RE, OE, x_X8_rights_49, x_X8_rights_64, x_X8_rights_150, x_X8_rights_179, x_X8_rights_195, x_X8_rights_339, x_X8_rights_345, ok_X8_rights_49, ok_X8_rights_64, ok_X8_rights_150, ok_X8_rights_179, ok_X8_rights_195, ok_X8_rights_339, ok_X8_rights_345, hk, ht, nI_clamp hi2, h, r1, r5, d1, d2]
    · simp [RE, OE, x_X8_rights_49, x_X8_rights_64, x_X8_rights_150, x_X8_rights_179, x_X8_rights_195, x_X8_rights_339, x_X8_rights_345, ok_X8_rights_49, ok_X8_rights_64, ok_X8_rights_150, ok_X8_rights_179, ok_X8_rights_195, ok_X8_rights_339, ok_X8_rights_345, hk, ht, nI_clamp hi2, hv, h, r1, r5, d1, d2]; first | exact hj | (simp_all)
    · simp [RW, gV_sV, x_X6_take, x_X6_take_54, x_X6_take_72, x_X6_take_99, x_X6_take_108, x_X6_take_146, x_X6_take_185, x_X6_attack, x_X6_attack_17, x_X6_give, x_X6_parry, h, r1, r5, d1, d2]
      try simp_all
    · repeat first | exact Ag.rf _ _ | refine Ag_sV _ _ _ _ rfl ?_
  · rw [h] at r1 r3 r4
    have r3 := r3 (by decide)
    have r4 := r4 (by decide)
    refine ⟨by_, since, par, pAt, (sV M 8 0 30 (0)), fun K a1 => ?_, fun J a1 hj => ?_, ?_, ?_⟩
    · simp [RE, OE, x_X8_rights_49, x_X8_rights_64, x_X8_rights_150, x_X8_rights_179, x_X8_rights_195, x_X8_rights_339, x_X8_rights_345, ok_X8_rights_49, ok_X8_rights_64, ok_X8_rights_150, ok_X8_rights_179, ok_X8_rights_195, ok_X8_rights_339, ok_X8_rights_345, hk, ht, nI_clamp hi2, h, r1, r5, d1, d2, r3]
    · simp [RE, OE, x_X8_rights_49, x_X8_rights_64, x_X8_rights_150, x_X8_rights_179, x_X8_rights_195, x_X8_rights_339, x_X8_rights_345, ok_X8_rights_49, ok_X8_rights_64, ok_X8_rights_150, ok_X8_rights_179, ok_X8_rights_195, ok_X8_rights_339, ok_X8_rights_345, hk, ht, nI_clamp hi2, hv, h, r1, r5, d1, d2, r3]; first | exact hj | (simp_all)
    · simp [RW, gV_sV, x_X6_take, x_X6_take_54, x_X6_take_72, x_X6_take_99, x_X6_take_108, x_X6_take_146, x_X6_take_185, x_X6_attack, x_X6_attack_17, x_X6_give, x_X6_parry, h, r1, r5, d1, d2, r3]
      try simp_all
    · repeat first | exact Ag.rf _ _ | refine Ag_sV _ _ _ _ rfl ?_
  · rw [h] at r1 r3 r4
    have r3 := r3 (by decide)
    have r4 := r4 (by decide)
    refine ⟨by_, since, par, pAt, (sV M 8 0 30 (1)), fun K a1 => ?_, fun J a1 hj => ?_, ?_, ?_⟩
    · simp [RE, OE, x_X8_rights_49, x_X8_rights_64, x_X8_rights_150, x_X8_rights_179, x_X8_rights_195, x_X8_rights_339, x_X8_rights_345, ok_X8_rights_49, ok_X8_rights_64, ok_X8_rights_150, ok_X8_rights_179, ok_X8_rights_195, ok_X8_rights_339, ok_X8_rights_345, hk, ht, nI_clamp hi2, h, r1, r5, d1, d2, r3]
    · simp [RE, OE, x_X8_rights_49, x_X8_rights_64, x_X8_rights_150, x_X8_rights_179, x_X8_rights_195, x_X8_rights_339, x_X8_rights_345, ok_X8_rights_49, ok_X8_rights_64, ok_X8_rights_150, ok_X8_rights_179, ok_X8_rights_195, ok_X8_rights_339, ok_X8_rights_345, hk, ht, nI_clamp hi2, hv, h, r1, r5, d1, d2, r3]; first | exact hj | (simp_all)
    · simp [RW, gV_sV, x_X6_take, x_X6_take_54, x_X6_take_72, x_X6_take_99, x_X6_take_108, x_X6_take_146, x_X6_take_185, x_X6_attack, x_X6_attack_17, x_X6_give, x_X6_parry, h, r1, r5, d1, d2, r3]
      try simp_all
    · repeat first | exact Ag.rf _ _ | refine Ag_sV _ _ _ _ rfl ?_
set_option maxHeartbeats 4000000 in
theorem stp_1_1 {C M : St} {by_ since par pAt t : Int32} {i : Nat} (hi : i < 24) (hR : RW C M by_ since par pAt) (hk : gV M 32 0 i = 1) (ht : gV M 33 0 i = t) : StepR C M (x_X6_take 1 1 t C) by_ since par pAt 1 i := by
  obtain ⟨r1, r2, r3, r4, r5, r6⟩ := hR
  have hi2 : i < 2 ^ 31 := by omega
  have hv : vp_in (nI i) 24 := vp_in_nI hi (by omega)
  have d1 : ¬ (-1 : Int32) = 0 := by decide
  have d2 : ¬ (-1 : Int32) = 1 := by decide
  rcases r2 with h | h | h
  · rw [h] at r1 r3 r4
    refine ⟨1, since, par, pAt, (sV M 8 0 30 (1)), fun K a1 => ?_, fun J a1 hj => ?_, ?_, ?_⟩
    · simp [RE, OE, x_X8_rights_49, x_X8_rights_64, x_X8_rights_150, x_X8_rights_179, x_X8_rights_195, x_X8_rights_339, x_X8_rights_345, ok_X8_rights_49, ok_X8_rights_64, ok_X8_rights_150, ok_X8_rights_179, ok_X8_rights_195, ok_X8_rights_339, ok_X8_rights_345, hk, ht, nI_clamp hi2, h, r1, r5, d1, d2]
    · simp [RE, OE, x_X8_rights_49, x_X8_rights_64, x_X8_rights_150, x_X8_rights_179, x_X8_rights_195, x_X8_rights_339, x_X8_rights_345, ok_X8_rights_49, ok_X8_rights_64, ok_X8_rights_150, ok_X8_rights_179, ok_X8_rights_195, ok_X8_rights_339, ok_X8_rights_345, hk, ht, nI_clamp hi2, hv, h, r1, r5, d1, d2]; first | exact hj | (simp_all)
    · simp [RW, gV_sV, x_X6_take, x_X6_take_54, x_X6_take_72, x_X6_take_99, x_X6_take_108, x_X6_take_146, x_X6_take_185, x_X6_attack, x_X6_attack_17, x_X6_give, x_X6_parry, h, r1, r5, d1, d2]
      try simp_all
    · repeat first | exact Ag.rf _ _ | refine Ag_sV _ _ _ _ rfl ?_
  · rw [h] at r1 r3 r4
    have r3 := r3 (by decide)
    have r4 := r4 (by decide)
    refine ⟨by_, since, par, pAt, (sV M 8 0 30 (0)), fun K a1 => ?_, fun J a1 hj => ?_, ?_, ?_⟩
    · simp [RE, OE, x_X8_rights_49, x_X8_rights_64, x_X8_rights_150, x_X8_rights_179, x_X8_rights_195, x_X8_rights_339, x_X8_rights_345, ok_X8_rights_49, ok_X8_rights_64, ok_X8_rights_150, ok_X8_rights_179, ok_X8_rights_195, ok_X8_rights_339, ok_X8_rights_345, hk, ht, nI_clamp hi2, h, r1, r5, d1, d2, r3]
    · simp [RE, OE, x_X8_rights_49, x_X8_rights_64, x_X8_rights_150, x_X8_rights_179, x_X8_rights_195, x_X8_rights_339, x_X8_rights_345, ok_X8_rights_49, ok_X8_rights_64, ok_X8_rights_150, ok_X8_rights_179, ok_X8_rights_195, ok_X8_rights_339, ok_X8_rights_345, hk, ht, nI_clamp hi2, hv, h, r1, r5, d1, d2, r3]; first | exact hj | (simp_all)
    · simp [RW, gV_sV, x_X6_take, x_X6_take_54, x_X6_take_72, x_X6_take_99, x_X6_take_108, x_X6_take_146, x_X6_take_185, x_X6_attack, x_X6_attack_17, x_X6_give, x_X6_parry, h, r1, r5, d1, d2, r3]
      try simp_all
    · repeat first | exact Ag.rf _ _ | refine Ag_sV _ _ _ _ rfl ?_
  · rw [h] at r1 r3 r4
    have r3 := r3 (by decide)
    have r4 := r4 (by decide)
    refine ⟨by_, since, par, pAt, (sV M 8 0 30 (1)), fun K a1 => ?_, fun J a1 hj => ?_, ?_, ?_⟩
    · simp [RE, OE, x_X8_rights_49, x_X8_rights_64, x_X8_rights_150, x_X8_rights_179, x_X8_rights_195, x_X8_rights_339, x_X8_rights_345, ok_X8_rights_49, ok_X8_rights_64, ok_X8_rights_150, ok_X8_rights_179, ok_X8_rights_195, ok_X8_rights_339, ok_X8_rights_345, hk, ht, nI_clamp hi2, h, r1, r5, d1, d2, r3]
    · simp [RE, OE, x_X8_rights_49, x_X8_rights_64, x_X8_rights_150, x_X8_rights_179, x_X8_rights_195, x_X8_rights_339, x_X8_rights_345, ok_X8_rights_49, ok_X8_rights_64, ok_X8_rights_150, ok_X8_rights_179, ok_X8_rights_195, ok_X8_rights_339, ok_X8_rights_345, hk, ht, nI_clamp hi2, hv, h, r1, r5, d1, d2, r3]; first | exact hj | (simp_all)
    · simp [RW, gV_sV, x_X6_take, x_X6_take_54, x_X6_take_72, x_X6_take_99, x_X6_take_108, x_X6_take_146, x_X6_take_185, x_X6_attack, x_X6_attack_17, x_X6_give, x_X6_parry, h, r1, r5, d1, d2, r3]
      try simp_all
    · repeat first | exact Ag.rf _ _ | refine Ag_sV _ _ _ _ rfl ?_
set_option maxHeartbeats 4000000 in
theorem stp_2_0 {C M : St} {by_ since par pAt t : Int32} {i : Nat} (hi : i < 24) (hR : RW C M by_ since par pAt) (hk : gV M 32 0 i = 2) (ht : gV M 33 0 i = t) : StepR C M (x_X6_take 0 2 t C) by_ since par pAt 0 i := by
  obtain ⟨r1, r2, r3, r4, r5, r6⟩ := hR
  have hi2 : i < 2 ^ 31 := by omega
  have hv : vp_in (nI i) 24 := vp_in_nI hi (by omega)
  have d1 : ¬ (-1 : Int32) = 0 := by decide
  have d2 : ¬ (-1 : Int32) = 1 := by decide
  rcases r2 with h | h | h
  · rw [h] at r1 r3 r4
    refine ⟨by_, since, par, pAt, M, fun K a1 => ?_, fun J a1 hj => ?_, ?_, ?_⟩
    · simp [RE, OE, x_X8_rights_49, x_X8_rights_64, x_X8_rights_150, x_X8_rights_179, x_X8_rights_195, x_X8_rights_339, x_X8_rights_345, ok_X8_rights_49, ok_X8_rights_64, ok_X8_rights_150, ok_X8_rights_179, ok_X8_rights_195, ok_X8_rights_339, ok_X8_rights_345, hk, ht, nI_clamp hi2, h, r1, r5, d1, d2]
    · simp [RE, OE, x_X8_rights_49, x_X8_rights_64, x_X8_rights_150, x_X8_rights_179, x_X8_rights_195, x_X8_rights_339, x_X8_rights_345, ok_X8_rights_49, ok_X8_rights_64, ok_X8_rights_150, ok_X8_rights_179, ok_X8_rights_195, ok_X8_rights_339, ok_X8_rights_345, hk, ht, nI_clamp hi2, hv, h, r1, r5, d1, d2]; first | exact hj | (simp_all)
    · simp [RW, gV_sV, x_X6_take, x_X6_take_54, x_X6_take_72, x_X6_take_99, x_X6_take_108, x_X6_take_146, x_X6_take_185, x_X6_attack, x_X6_attack_17, x_X6_give, x_X6_parry, h, r1, r5, d1, d2]
      try simp_all
    · repeat first | exact Ag.rf _ _ | refine Ag_sV _ _ _ _ rfl ?_
  · rw [h] at r1 r3 r4
    have r3 := r3 (by decide)
    have r4 := r4 (by decide)
    refine ⟨by_, since, par, pAt, M, fun K a1 => ?_, fun J a1 hj => ?_, ?_, ?_⟩
    · simp [RE, OE, x_X8_rights_49, x_X8_rights_64, x_X8_rights_150, x_X8_rights_179, x_X8_rights_195, x_X8_rights_339, x_X8_rights_345, ok_X8_rights_49, ok_X8_rights_64, ok_X8_rights_150, ok_X8_rights_179, ok_X8_rights_195, ok_X8_rights_339, ok_X8_rights_345, hk, ht, nI_clamp hi2, h, r1, r5, d1, d2, r3]
    · simp [RE, OE, x_X8_rights_49, x_X8_rights_64, x_X8_rights_150, x_X8_rights_179, x_X8_rights_195, x_X8_rights_339, x_X8_rights_345, ok_X8_rights_49, ok_X8_rights_64, ok_X8_rights_150, ok_X8_rights_179, ok_X8_rights_195, ok_X8_rights_339, ok_X8_rights_345, hk, ht, nI_clamp hi2, hv, h, r1, r5, d1, d2, r3]; first | exact hj | (simp_all)
    · simp [RW, gV_sV, x_X6_take, x_X6_take_54, x_X6_take_72, x_X6_take_99, x_X6_take_108, x_X6_take_146, x_X6_take_185, x_X6_attack, x_X6_attack_17, x_X6_give, x_X6_parry, h, r1, r5, d1, d2, r3]
      try simp_all
    · repeat first | exact Ag.rf _ _ | refine Ag_sV _ _ _ _ rfl ?_
  · rw [h] at r1 r3 r4
    have r3 := r3 (by decide)
    have r4 := r4 (by decide)
    by_cases b1 : by_ = 1
    · skip
      refine ⟨0, t, par, pAt, (sV M 8 0 30 (0)), fun K a1 => ?_, fun J a1 hj => ?_, ?_, ?_⟩
      · simp [RE, OE, x_X8_rights_49, x_X8_rights_64, x_X8_rights_150, x_X8_rights_179, x_X8_rights_195, x_X8_rights_339, x_X8_rights_345, ok_X8_rights_49, ok_X8_rights_64, ok_X8_rights_150, ok_X8_rights_179, ok_X8_rights_195, ok_X8_rights_339, ok_X8_rights_345, hk, ht, nI_clamp hi2, h, r1, r5, d1, d2, r3, b1]
      · simp [RE, OE, x_X8_rights_49, x_X8_rights_64, x_X8_rights_150, x_X8_rights_179, x_X8_rights_195, x_X8_rights_339, x_X8_rights_345, ok_X8_rights_49, ok_X8_rights_64, ok_X8_rights_150, ok_X8_rights_179, ok_X8_rights_195, ok_X8_rights_339, ok_X8_rights_345, hk, ht, nI_clamp hi2, hv, h, r1, r5, d1, d2, r3, b1]; first | exact hj | (simp_all)
      · simp [RW, gV_sV, x_X6_take, x_X6_take_54, x_X6_take_72, x_X6_take_99, x_X6_take_108, x_X6_take_146, x_X6_take_185, x_X6_attack, x_X6_attack_17, x_X6_give, x_X6_parry, h, r1, r5, d1, d2, r3, b1]
        try simp_all
      · repeat first | exact Ag.rf _ _ | refine Ag_sV _ _ _ _ rfl ?_
    · skip
      refine ⟨by_, since, par, pAt, M, fun K a1 => ?_, fun J a1 hj => ?_, ?_, ?_⟩
      · simp [RE, OE, x_X8_rights_49, x_X8_rights_64, x_X8_rights_150, x_X8_rights_179, x_X8_rights_195, x_X8_rights_339, x_X8_rights_345, ok_X8_rights_49, ok_X8_rights_64, ok_X8_rights_150, ok_X8_rights_179, ok_X8_rights_195, ok_X8_rights_339, ok_X8_rights_345, hk, ht, nI_clamp hi2, h, r1, r5, d1, d2, r3, b1]
      · simp [RE, OE, x_X8_rights_49, x_X8_rights_64, x_X8_rights_150, x_X8_rights_179, x_X8_rights_195, x_X8_rights_339, x_X8_rights_345, ok_X8_rights_49, ok_X8_rights_64, ok_X8_rights_150, ok_X8_rights_179, ok_X8_rights_195, ok_X8_rights_339, ok_X8_rights_345, hk, ht, nI_clamp hi2, hv, h, r1, r5, d1, d2, r3, b1]; first | exact hj | (simp_all)
      · simp [RW, gV_sV, x_X6_take, x_X6_take_54, x_X6_take_72, x_X6_take_99, x_X6_take_108, x_X6_take_146, x_X6_take_185, x_X6_attack, x_X6_attack_17, x_X6_give, x_X6_parry, h, r1, r5, d1, d2, r3, b1]
        try simp_all
      · repeat first | exact Ag.rf _ _ | refine Ag_sV _ _ _ _ rfl ?_
set_option maxHeartbeats 4000000 in
theorem stp_2_1 {C M : St} {by_ since par pAt t : Int32} {i : Nat} (hi : i < 24) (hR : RW C M by_ since par pAt) (hk : gV M 32 0 i = 2) (ht : gV M 33 0 i = t) : StepR C M (x_X6_take 1 2 t C) by_ since par pAt 1 i := by
  obtain ⟨r1, r2, r3, r4, r5, r6⟩ := hR
  have hi2 : i < 2 ^ 31 := by omega
  have hv : vp_in (nI i) 24 := vp_in_nI hi (by omega)
  have d1 : ¬ (-1 : Int32) = 0 := by decide
  have d2 : ¬ (-1 : Int32) = 1 := by decide
  rcases r2 with h | h | h
  · rw [h] at r1 r3 r4
    refine ⟨by_, since, par, pAt, M, fun K a1 => ?_, fun J a1 hj => ?_, ?_, ?_⟩
    · simp [RE, OE, x_X8_rights_49, x_X8_rights_64, x_X8_rights_150, x_X8_rights_179, x_X8_rights_195, x_X8_rights_339, x_X8_rights_345, ok_X8_rights_49, ok_X8_rights_64, ok_X8_rights_150, ok_X8_rights_179, ok_X8_rights_195, ok_X8_rights_339, ok_X8_rights_345, hk, ht, nI_clamp hi2, h, r1, r5, d1, d2]
    · simp [RE, OE, x_X8_rights_49, x_X8_rights_64, x_X8_rights_150, x_X8_rights_179, x_X8_rights_195, x_X8_rights_339, x_X8_rights_345, ok_X8_rights_49, ok_X8_rights_64, ok_X8_rights_150, ok_X8_rights_179, ok_X8_rights_195, ok_X8_rights_339, ok_X8_rights_345, hk, ht, nI_clamp hi2, hv, h, r1, r5, d1, d2]; first | exact hj | (simp_all)
    · simp [RW, gV_sV, x_X6_take, x_X6_take_54, x_X6_take_72, x_X6_take_99, x_X6_take_108, x_X6_take_146, x_X6_take_185, x_X6_attack, x_X6_attack_17, x_X6_give, x_X6_parry, h, r1, r5, d1, d2]
      try simp_all
    · repeat first | exact Ag.rf _ _ | refine Ag_sV _ _ _ _ rfl ?_
  · rw [h] at r1 r3 r4
    have r3 := r3 (by decide)
    have r4 := r4 (by decide)
    by_cases b1 : by_ = 1
    · skip
      refine ⟨0, t, par, pAt, (sV M 8 0 30 (1)), fun K a1 => ?_, fun J a1 hj => ?_, ?_, ?_⟩
      · simp [RE, OE, x_X8_rights_49, x_X8_rights_64, x_X8_rights_150, x_X8_rights_179, x_X8_rights_195, x_X8_rights_339, x_X8_rights_345, ok_X8_rights_49, ok_X8_rights_64, ok_X8_rights_150, ok_X8_rights_179, ok_X8_rights_195, ok_X8_rights_339, ok_X8_rights_345, hk, ht, nI_clamp hi2, h, r1, r5, d1, d2, r3, b1]
      · simp [RE, OE, x_X8_rights_49, x_X8_rights_64, x_X8_rights_150, x_X8_rights_179, x_X8_rights_195, x_X8_rights_339, x_X8_rights_345, ok_X8_rights_49, ok_X8_rights_64, ok_X8_rights_150, ok_X8_rights_179, ok_X8_rights_195, ok_X8_rights_339, ok_X8_rights_345, hk, ht, nI_clamp hi2, hv, h, r1, r5, d1, d2, r3, b1]; first | exact hj | (simp_all)
      · simp [RW, gV_sV, x_X6_take, x_X6_take_54, x_X6_take_72, x_X6_take_99, x_X6_take_108, x_X6_take_146, x_X6_take_185, x_X6_attack, x_X6_attack_17, x_X6_give, x_X6_parry, h, r1, r5, d1, d2, r3, b1]
        try simp_all
      · repeat first | exact Ag.rf _ _ | refine Ag_sV _ _ _ _ rfl ?_
    · skip
      refine ⟨by_, since, par, pAt, M, fun K a1 => ?_, fun J a1 hj => ?_, ?_, ?_⟩
      · simp [RE, OE, x_X8_rights_49, x_X8_rights_64, x_X8_rights_150, x_X8_rights_179, x_X8_rights_195, x_X8_rights_339, x_X8_rights_345, ok_X8_rights_49, ok_X8_rights_64, ok_X8_rights_150, ok_X8_rights_179, ok_X8_rights_195, ok_X8_rights_339, ok_X8_rights_345, hk, ht, nI_clamp hi2, h, r1, r5, d1, d2, r3, b1]
      · simp [RE, OE, x_X8_rights_49, x_X8_rights_64, x_X8_rights_150, x_X8_rights_179, x_X8_rights_195, x_X8_rights_339, x_X8_rights_345, ok_X8_rights_49, ok_X8_rights_64, ok_X8_rights_150, ok_X8_rights_179, ok_X8_rights_195, ok_X8_rights_339, ok_X8_rights_345, hk, ht, nI_clamp hi2, hv, h, r1, r5, d1, d2, r3, b1]; first | exact hj | (simp_all)
      · simp [RW, gV_sV, x_X6_take, x_X6_take_54, x_X6_take_72, x_X6_take_99, x_X6_take_108, x_X6_take_146, x_X6_take_185, x_X6_attack, x_X6_attack_17, x_X6_give, x_X6_parry, h, r1, r5, d1, d2, r3, b1]
        try simp_all
      · repeat first | exact Ag.rf _ _ | refine Ag_sV _ _ _ _ rfl ?_
  · rw [h] at r1 r3 r4
    have r3 := r3 (by decide)
    have r4 := r4 (by decide)
    refine ⟨by_, since, par, pAt, M, fun K a1 => ?_, fun J a1 hj => ?_, ?_, ?_⟩
    · simp [RE, OE, x_X8_rights_49, x_X8_rights_64, x_X8_rights_150, x_X8_rights_179, x_X8_rights_195, x_X8_rights_339, x_X8_rights_345, ok_X8_rights_49, ok_X8_rights_64, ok_X8_rights_150, ok_X8_rights_179, ok_X8_rights_195, ok_X8_rights_339, ok_X8_rights_345, hk, ht, nI_clamp hi2, h, r1, r5, d1, d2, r3]
    · simp [RE, OE, x_X8_rights_49, x_X8_rights_64, x_X8_rights_150, x_X8_rights_179, x_X8_rights_195, x_X8_rights_339, x_X8_rights_345, ok_X8_rights_49, ok_X8_rights_64, ok_X8_rights_150, ok_X8_rights_179, ok_X8_rights_195, ok_X8_rights_339, ok_X8_rights_345, hk, ht, nI_clamp hi2, hv, h, r1, r5, d1, d2, r3]; first | exact hj | (simp_all)
    · simp [RW, gV_sV, x_X6_take, x_X6_take_54, x_X6_take_72, x_X6_take_99, x_X6_take_108, x_X6_take_146, x_X6_take_185, x_X6_attack, x_X6_attack_17, x_X6_give, x_X6_parry, h, r1, r5, d1, d2, r3]
      try simp_all
    · repeat first | exact Ag.rf _ _ | refine Ag_sV _ _ _ _ rfl ?_
set_option maxHeartbeats 4000000 in
theorem stp_3_0 {C M : St} {by_ since par pAt t : Int32} {i : Nat} (hi : i < 24) (hR : RW C M by_ since par pAt) (hk : gV M 32 0 i = 3) (ht : gV M 33 0 i = t) : StepR C M (x_X6_take 0 3 t C) by_ since par pAt 0 i := by
  obtain ⟨r1, r2, r3, r4, r5, r6⟩ := hR
  have hi2 : i < 2 ^ 31 := by omega
  have hv : vp_in (nI i) 24 := vp_in_nI hi (by omega)
  have d1 : ¬ (-1 : Int32) = 0 := by decide
  have d2 : ¬ (-1 : Int32) = 1 := by decide
  rcases r2 with h | h | h
  · rw [h] at r1 r3 r4
    refine ⟨by_, since, par, pAt, M, fun K a1 => ?_, fun J a1 hj => ?_, ?_, ?_⟩
    · simp [RE, OE, x_X8_rights_49, x_X8_rights_64, x_X8_rights_150, x_X8_rights_179, x_X8_rights_195, x_X8_rights_339, x_X8_rights_345, ok_X8_rights_49, ok_X8_rights_64, ok_X8_rights_150, ok_X8_rights_179, ok_X8_rights_195, ok_X8_rights_339, ok_X8_rights_345, hk, ht, nI_clamp hi2, h, r1, r5, d1, d2]
    · simp [RE, OE, x_X8_rights_49, x_X8_rights_64, x_X8_rights_150, x_X8_rights_179, x_X8_rights_195, x_X8_rights_339, x_X8_rights_345, ok_X8_rights_49, ok_X8_rights_64, ok_X8_rights_150, ok_X8_rights_179, ok_X8_rights_195, ok_X8_rights_339, ok_X8_rights_345, hk, ht, nI_clamp hi2, hv, h, r1, r5, d1, d2]; first | exact hj | (simp_all)
    · simp [RW, gV_sV, x_X6_take, x_X6_take_54, x_X6_take_72, x_X6_take_99, x_X6_take_108, x_X6_take_146, x_X6_take_185, x_X6_attack, x_X6_attack_17, x_X6_give, x_X6_parry, h, r1, r5, d1, d2]
      try simp_all
    · repeat first | exact Ag.rf _ _ | refine Ag_sV _ _ _ _ rfl ?_
  · rw [h] at r1 r3 r4
    have r3 := r3 (by decide)
    have r4 := r4 (by decide)
    refine ⟨by_, since, par, pAt, M, fun K a1 => ?_, fun J a1 hj => ?_, ?_, ?_⟩
    · simp [RE, OE, x_X8_rights_49, x_X8_rights_64, x_X8_rights_150, x_X8_rights_179, x_X8_rights_195, x_X8_rights_339, x_X8_rights_345, ok_X8_rights_49, ok_X8_rights_64, ok_X8_rights_150, ok_X8_rights_179, ok_X8_rights_195, ok_X8_rights_339, ok_X8_rights_345, hk, ht, nI_clamp hi2, h, r1, r5, d1, d2, r3]
    · simp [RE, OE, x_X8_rights_49, x_X8_rights_64, x_X8_rights_150, x_X8_rights_179, x_X8_rights_195, x_X8_rights_339, x_X8_rights_345, ok_X8_rights_49, ok_X8_rights_64, ok_X8_rights_150, ok_X8_rights_179, ok_X8_rights_195, ok_X8_rights_339, ok_X8_rights_345, hk, ht, nI_clamp hi2, hv, h, r1, r5, d1, d2, r3]; first | exact hj | (simp_all)
    · simp [RW, gV_sV, x_X6_take, x_X6_take_54, x_X6_take_72, x_X6_take_99, x_X6_take_108, x_X6_take_146, x_X6_take_185, x_X6_attack, x_X6_attack_17, x_X6_give, x_X6_parry, h, r1, r5, d1, d2, r3]
      try simp_all
    · repeat first | exact Ag.rf _ _ | refine Ag_sV _ _ _ _ rfl ?_
  · rw [h] at r1 r3 r4
    have r3 := r3 (by decide)
    have r4 := r4 (by decide)
    by_cases b1 : by_ = 1
    · skip
      refine ⟨by_, since, par, pAt, M, fun K a1 => ?_, fun J a1 hj => ?_, ?_, ?_⟩
      · simp [RE, OE, x_X8_rights_49, x_X8_rights_64, x_X8_rights_150, x_X8_rights_179, x_X8_rights_195, x_X8_rights_339, x_X8_rights_345, ok_X8_rights_49, ok_X8_rights_64, ok_X8_rights_150, ok_X8_rights_179, ok_X8_rights_195, ok_X8_rights_339, ok_X8_rights_345, hk, ht, nI_clamp hi2, h, r1, r5, d1, d2, r3, b1]
      · simp [RE, OE, x_X8_rights_49, x_X8_rights_64, x_X8_rights_150, x_X8_rights_179, x_X8_rights_195, x_X8_rights_339, x_X8_rights_345, ok_X8_rights_49, ok_X8_rights_64, ok_X8_rights_150, ok_X8_rights_179, ok_X8_rights_195, ok_X8_rights_339, ok_X8_rights_345, hk, ht, nI_clamp hi2, hv, h, r1, r5, d1, d2, r3, b1]; first | exact hj | (simp_all)
      · simp [RW, gV_sV, x_X6_take, x_X6_take_54, x_X6_take_72, x_X6_take_99, x_X6_take_108, x_X6_take_146, x_X6_take_185, x_X6_attack, x_X6_attack_17, x_X6_give, x_X6_parry, h, r1, r5, d1, d2, r3, b1]
        try simp_all
      · repeat first | exact Ag.rf _ _ | refine Ag_sV _ _ _ _ rfl ?_
    · skip
      refine ⟨by_, since, 0, t, (sV M 8 0 30 (-1)), fun K a1 => ?_, fun J a1 hj => ?_, ?_, ?_⟩
      · simp [RE, OE, x_X8_rights_49, x_X8_rights_64, x_X8_rights_150, x_X8_rights_179, x_X8_rights_195, x_X8_rights_339, x_X8_rights_345, ok_X8_rights_49, ok_X8_rights_64, ok_X8_rights_150, ok_X8_rights_179, ok_X8_rights_195, ok_X8_rights_339, ok_X8_rights_345, hk, ht, nI_clamp hi2, h, r1, r5, d1, d2, r3, b1]
      · simp [RE, OE, x_X8_rights_49, x_X8_rights_64, x_X8_rights_150, x_X8_rights_179, x_X8_rights_195, x_X8_rights_339, x_X8_rights_345, ok_X8_rights_49, ok_X8_rights_64, ok_X8_rights_150, ok_X8_rights_179, ok_X8_rights_195, ok_X8_rights_339, ok_X8_rights_345, hk, ht, nI_clamp hi2, hv, h, r1, r5, d1, d2, r3, b1]; first | exact hj | (simp_all)
      · simp [RW, gV_sV, x_X6_take, x_X6_take_54, x_X6_take_72, x_X6_take_99, x_X6_take_108, x_X6_take_146, x_X6_take_185, x_X6_attack, x_X6_attack_17, x_X6_give, x_X6_parry, h, r1, r5, d1, d2, r3, b1]
        try simp_all
      · repeat first | exact Ag.rf _ _ | refine Ag_sV _ _ _ _ rfl ?_
set_option maxHeartbeats 4000000 in
theorem stp_3_1 {C M : St} {by_ since par pAt t : Int32} {i : Nat} (hi : i < 24) (hR : RW C M by_ since par pAt) (hk : gV M 32 0 i = 3) (ht : gV M 33 0 i = t) : StepR C M (x_X6_take 1 3 t C) by_ since par pAt 1 i := by
  obtain ⟨r1, r2, r3, r4, r5, r6⟩ := hR
  have hi2 : i < 2 ^ 31 := by omega
  have hv : vp_in (nI i) 24 := vp_in_nI hi (by omega)
  have d1 : ¬ (-1 : Int32) = 0 := by decide
  have d2 : ¬ (-1 : Int32) = 1 := by decide
  rcases r2 with h | h | h
  · rw [h] at r1 r3 r4
    refine ⟨by_, since, par, pAt, M, fun K a1 => ?_, fun J a1 hj => ?_, ?_, ?_⟩
    · simp [RE, OE, x_X8_rights_49, x_X8_rights_64, x_X8_rights_150, x_X8_rights_179, x_X8_rights_195, x_X8_rights_339, x_X8_rights_345, ok_X8_rights_49, ok_X8_rights_64, ok_X8_rights_150, ok_X8_rights_179, ok_X8_rights_195, ok_X8_rights_339, ok_X8_rights_345, hk, ht, nI_clamp hi2, h, r1, r5, d1, d2]
    · simp [RE, OE, x_X8_rights_49, x_X8_rights_64, x_X8_rights_150, x_X8_rights_179, x_X8_rights_195, x_X8_rights_339, x_X8_rights_345, ok_X8_rights_49, ok_X8_rights_64, ok_X8_rights_150, ok_X8_rights_179, ok_X8_rights_195, ok_X8_rights_339, ok_X8_rights_345, hk, ht, nI_clamp hi2, hv, h, r1, r5, d1, d2]; first | exact hj | (simp_all)
    · simp [RW, gV_sV, x_X6_take, x_X6_take_54, x_X6_take_72, x_X6_take_99, x_X6_take_108, x_X6_take_146, x_X6_take_185, x_X6_attack, x_X6_attack_17, x_X6_give, x_X6_parry, h, r1, r5, d1, d2]
      try simp_all
    · repeat first | exact Ag.rf _ _ | refine Ag_sV _ _ _ _ rfl ?_
  · rw [h] at r1 r3 r4
    have r3 := r3 (by decide)
    have r4 := r4 (by decide)
    by_cases b1 : by_ = 1
    · skip
      refine ⟨by_, since, par, pAt, M, fun K a1 => ?_, fun J a1 hj => ?_, ?_, ?_⟩
      · simp [RE, OE, x_X8_rights_49, x_X8_rights_64, x_X8_rights_150, x_X8_rights_179, x_X8_rights_195, x_X8_rights_339, x_X8_rights_345, ok_X8_rights_49, ok_X8_rights_64, ok_X8_rights_150, ok_X8_rights_179, ok_X8_rights_195, ok_X8_rights_339, ok_X8_rights_345, hk, ht, nI_clamp hi2, h, r1, r5, d1, d2, r3, b1]
      · simp [RE, OE, x_X8_rights_49, x_X8_rights_64, x_X8_rights_150, x_X8_rights_179, x_X8_rights_195, x_X8_rights_339, x_X8_rights_345, ok_X8_rights_49, ok_X8_rights_64, ok_X8_rights_150, ok_X8_rights_179, ok_X8_rights_195, ok_X8_rights_339, ok_X8_rights_345, hk, ht, nI_clamp hi2, hv, h, r1, r5, d1, d2, r3, b1]; first | exact hj | (simp_all)
      · simp [RW, gV_sV, x_X6_take, x_X6_take_54, x_X6_take_72, x_X6_take_99, x_X6_take_108, x_X6_take_146, x_X6_take_185, x_X6_attack, x_X6_attack_17, x_X6_give, x_X6_parry, h, r1, r5, d1, d2, r3, b1]
        try simp_all
      · repeat first | exact Ag.rf _ _ | refine Ag_sV _ _ _ _ rfl ?_
    · skip
      refine ⟨by_, since, 1, t, (sV M 8 0 30 (-1)), fun K a1 => ?_, fun J a1 hj => ?_, ?_, ?_⟩
      · simp [RE, OE, x_X8_rights_49, x_X8_rights_64, x_X8_rights_150, x_X8_rights_179, x_X8_rights_195, x_X8_rights_339, x_X8_rights_345, ok_X8_rights_49, ok_X8_rights_64, ok_X8_rights_150, ok_X8_rights_179, ok_X8_rights_195, ok_X8_rights_339, ok_X8_rights_345, hk, ht, nI_clamp hi2, h, r1, r5, d1, d2, r3, b1]
      · simp [RE, OE, x_X8_rights_49, x_X8_rights_64, x_X8_rights_150, x_X8_rights_179, x_X8_rights_195, x_X8_rights_339, x_X8_rights_345, ok_X8_rights_49, ok_X8_rights_64, ok_X8_rights_150, ok_X8_rights_179, ok_X8_rights_195, ok_X8_rights_339, ok_X8_rights_345, hk, ht, nI_clamp hi2, hv, h, r1, r5, d1, d2, r3, b1]; first | exact hj | (simp_all)
      · simp [RW, gV_sV, x_X6_take, x_X6_take_54, x_X6_take_72, x_X6_take_99, x_X6_take_108, x_X6_take_146, x_X6_take_185, x_X6_attack, x_X6_attack_17, x_X6_give, x_X6_parry, h, r1, r5, d1, d2, r3, b1]
        try simp_all
      · repeat first | exact Ag.rf _ _ | refine Ag_sV _ _ _ _ rfl ?_
  · rw [h] at r1 r3 r4
    have r3 := r3 (by decide)
    have r4 := r4 (by decide)
    refine ⟨by_, since, par, pAt, M, fun K a1 => ?_, fun J a1 hj => ?_, ?_, ?_⟩
    · simp [RE, OE, x_X8_rights_49, x_X8_rights_64, x_X8_rights_150, x_X8_rights_179, x_X8_rights_195, x_X8_rights_339, x_X8_rights_345, ok_X8_rights_49, ok_X8_rights_64, ok_X8_rights_150, ok_X8_rights_179, ok_X8_rights_195, ok_X8_rights_339, ok_X8_rights_345, hk, ht, nI_clamp hi2, h, r1, r5, d1, d2, r3]
    · simp [RE, OE, x_X8_rights_49, x_X8_rights_64, x_X8_rights_150, x_X8_rights_179, x_X8_rights_195, x_X8_rights_339, x_X8_rights_345, ok_X8_rights_49, ok_X8_rights_64, ok_X8_rights_150, ok_X8_rights_179, ok_X8_rights_195, ok_X8_rights_339, ok_X8_rights_345, hk, ht, nI_clamp hi2, hv, h, r1, r5, d1, d2, r3]; first | exact hj | (simp_all)
    · simp [RW, gV_sV, x_X6_take, x_X6_take_54, x_X6_take_72, x_X6_take_99, x_X6_take_108, x_X6_take_146, x_X6_take_185, x_X6_attack, x_X6_attack_17, x_X6_give, x_X6_parry, h, r1, r5, d1, d2, r3]
      try simp_all
    · repeat first | exact Ag.rf _ _ | refine Ag_sV _ _ _ _ rfl ?_
set_option maxHeartbeats 4000000 in
theorem stp_4_0 {C M : St} {by_ since par pAt t : Int32} {i : Nat} (hi : i < 24) (hR : RW C M by_ since par pAt) (hk : gV M 32 0 i = 4) (ht : gV M 33 0 i = t) : StepR C M (x_X6_take 0 4 t C) by_ since par pAt 0 i := by
  obtain ⟨r1, r2, r3, r4, r5, r6⟩ := hR
  have hi2 : i < 2 ^ 31 := by omega
  have hv : vp_in (nI i) 24 := vp_in_nI hi (by omega)
  have d1 : ¬ (-1 : Int32) = 0 := by decide
  have d2 : ¬ (-1 : Int32) = 1 := by decide
  rcases r2 with h | h | h
  · rw [h] at r1 r3 r4
    by_cases b1 : par = 0
    · have r6 := r6 (by rw [b1]; decide)
      by_cases c3 : 300 < t - pAt
      · skip
        refine ⟨by_, since, par, pAt, M, fun K a1 => ?_, fun J a1 hj => ?_, ?_, ?_⟩
        · simp [RE, OE, x_X8_rights_49, x_X8_rights_64, x_X8_rights_150, x_X8_rights_179, x_X8_rights_195, x_X8_rights_339, x_X8_rights_345, ok_X8_rights_49, ok_X8_rights_64, ok_X8_rights_150, ok_X8_rights_179, ok_X8_rights_195, ok_X8_rights_339, ok_X8_rights_345, hk, ht, nI_clamp hi2, h, r1, r5, d1, d2, b1, c3, r6]
        · simp [RE, OE, x_X8_rights_49, x_X8_rights_64, x_X8_rights_150, x_X8_rights_179, x_X8_rights_195, x_X8_rights_339, x_X8_rights_345, ok_X8_rights_49, ok_X8_rights_64, ok_X8_rights_150, ok_X8_rights_179, ok_X8_rights_195, ok_X8_rights_339, ok_X8_rights_345, hk, ht, nI_clamp hi2, hv, h, r1, r5, d1, d2, b1, c3, r6]; first | exact hj | (simp_all)
        · simp [RW, gV_sV, x_X6_take, x_X6_take_54, x_X6_take_72, x_X6_take_99, x_X6_take_108, x_X6_take_146, x_X6_take_185, x_X6_attack, x_X6_attack_17, x_X6_give, x_X6_parry, h, r1, r5, d1, d2, b1, c3, r6]
          try simp_all
        · repeat first | exact Ag.rf _ _ | refine Ag_sV _ _ _ _ rfl ?_
      · skip
        refine ⟨4, since, par, pAt, (sV M 8 0 30 (0)), fun K a1 => ?_, fun J a1 hj => ?_, ?_, ?_⟩
        · simp [RE, OE, x_X8_rights_49, x_X8_rights_64, x_X8_rights_150, x_X8_rights_179, x_X8_rights_195, x_X8_rights_339, x_X8_rights_345, ok_X8_rights_49, ok_X8_rights_64, ok_X8_rights_150, ok_X8_rights_179, ok_X8_rights_195, ok_X8_rights_339, ok_X8_rights_345, hk, ht, nI_clamp hi2, h, r1, r5, d1, d2, b1, c3, r6]
        · simp [RE, OE, x_X8_rights_49, x_X8_rights_64, x_X8_rights_150, x_X8_rights_179, x_X8_rights_195, x_X8_rights_339, x_X8_rights_345, ok_X8_rights_49, ok_X8_rights_64, ok_X8_rights_150, ok_X8_rights_179, ok_X8_rights_195, ok_X8_rights_339, ok_X8_rights_345, hk, ht, nI_clamp hi2, hv, h, r1, r5, d1, d2, b1, c3, r6]; first | exact hj | (simp_all)
        · simp [RW, gV_sV, x_X6_take, x_X6_take_54, x_X6_take_72, x_X6_take_99, x_X6_take_108, x_X6_take_146, x_X6_take_185, x_X6_attack, x_X6_attack_17, x_X6_give, x_X6_parry, h, r1, r5, d1, d2, b1, c3, r6]
          try simp_all
        · repeat first | exact Ag.rf _ _ | refine Ag_sV _ _ _ _ rfl ?_
    · skip
      refine ⟨by_, since, par, pAt, M, fun K a1 => ?_, fun J a1 hj => ?_, ?_, ?_⟩
      · simp [RE, OE, x_X8_rights_49, x_X8_rights_64, x_X8_rights_150, x_X8_rights_179, x_X8_rights_195, x_X8_rights_339, x_X8_rights_345, ok_X8_rights_49, ok_X8_rights_64, ok_X8_rights_150, ok_X8_rights_179, ok_X8_rights_195, ok_X8_rights_339, ok_X8_rights_345, hk, ht, nI_clamp hi2, h, r1, r5, d1, d2, b1]
      · simp [RE, OE, x_X8_rights_49, x_X8_rights_64, x_X8_rights_150, x_X8_rights_179, x_X8_rights_195, x_X8_rights_339, x_X8_rights_345, ok_X8_rights_49, ok_X8_rights_64, ok_X8_rights_150, ok_X8_rights_179, ok_X8_rights_195, ok_X8_rights_339, ok_X8_rights_345, hk, ht, nI_clamp hi2, hv, h, r1, r5, d1, d2, b1]; first | exact hj | (simp_all)
      · simp [RW, gV_sV, x_X6_take, x_X6_take_54, x_X6_take_72, x_X6_take_99, x_X6_take_108, x_X6_take_146, x_X6_take_185, x_X6_attack, x_X6_attack_17, x_X6_give, x_X6_parry, h, r1, r5, d1, d2, b1]
        try simp_all
      · repeat first | exact Ag.rf _ _ | refine Ag_sV _ _ _ _ rfl ?_
  · rw [h] at r1 r3 r4
    have r3 := r3 (by decide)
    have r4 := r4 (by decide)
    refine ⟨by_, since, par, pAt, M, fun K a1 => ?_, fun J a1 hj => ?_, ?_, ?_⟩
    · simp [RE, OE, x_X8_rights_49, x_X8_rights_64, x_X8_rights_150, x_X8_rights_179, x_X8_rights_195, x_X8_rights_339, x_X8_rights_345, ok_X8_rights_49, ok_X8_rights_64, ok_X8_rights_150, ok_X8_rights_179, ok_X8_rights_195, ok_X8_rights_339, ok_X8_rights_345, hk, ht, nI_clamp hi2, h, r1, r5, d1, d2, r3]
    · simp [RE, OE, x_X8_rights_49, x_X8_rights_64, x_X8_rights_150, x_X8_rights_179, x_X8_rights_195, x_X8_rights_339, x_X8_rights_345, ok_X8_rights_49, ok_X8_rights_64, ok_X8_rights_150, ok_X8_rights_179, ok_X8_rights_195, ok_X8_rights_339, ok_X8_rights_345, hk, ht, nI_clamp hi2, hv, h, r1, r5, d1, d2, r3]; first | exact hj | (simp_all)
    · simp [RW, gV_sV, x_X6_take, x_X6_take_54, x_X6_take_72, x_X6_take_99, x_X6_take_108, x_X6_take_146, x_X6_take_185, x_X6_attack, x_X6_attack_17, x_X6_give, x_X6_parry, h, r1, r5, d1, d2, r3]
      try simp_all
    · repeat first | exact Ag.rf _ _ | refine Ag_sV _ _ _ _ rfl ?_
  · rw [h] at r1 r3 r4
    have r3 := r3 (by decide)
    have r4 := r4 (by decide)
    refine ⟨by_, since, par, pAt, M, fun K a1 => ?_, fun J a1 hj => ?_, ?_, ?_⟩
    · simp [RE, OE, x_X8_rights_49, x_X8_rights_64, x_X8_rights_150, x_X8_rights_179, x_X8_rights_195, x_X8_rights_339, x_X8_rights_345, ok_X8_rights_49, ok_X8_rights_64, ok_X8_rights_150, ok_X8_rights_179, ok_X8_rights_195, ok_X8_rights_339, ok_X8_rights_345, hk, ht, nI_clamp hi2, h, r1, r5, d1, d2, r3]
    · simp [RE, OE, x_X8_rights_49, x_X8_rights_64, x_X8_rights_150, x_X8_rights_179, x_X8_rights_195, x_X8_rights_339, x_X8_rights_345, ok_X8_rights_49, ok_X8_rights_64, ok_X8_rights_150, ok_X8_rights_179, ok_X8_rights_195, ok_X8_rights_339, ok_X8_rights_345, hk, ht, nI_clamp hi2, hv, h, r1, r5, d1, d2, r3]; first | exact hj | (simp_all)
    · simp [RW, gV_sV, x_X6_take, x_X6_take_54, x_X6_take_72, x_X6_take_99, x_X6_take_108, x_X6_take_146, x_X6_take_185, x_X6_attack, x_X6_attack_17, x_X6_give, x_X6_parry, h, r1, r5, d1, d2, r3]
      try simp_all
    · repeat first | exact Ag.rf _ _ | refine Ag_sV _ _ _ _ rfl ?_
set_option maxHeartbeats 4000000 in
theorem stp_4_1 {C M : St} {by_ since par pAt t : Int32} {i : Nat} (hi : i < 24) (hR : RW C M by_ since par pAt) (hk : gV M 32 0 i = 4) (ht : gV M 33 0 i = t) : StepR C M (x_X6_take 1 4 t C) by_ since par pAt 1 i := by
  obtain ⟨r1, r2, r3, r4, r5, r6⟩ := hR
  have hi2 : i < 2 ^ 31 := by omega
  have hv : vp_in (nI i) 24 := vp_in_nI hi (by omega)
  have d1 : ¬ (-1 : Int32) = 0 := by decide
  have d2 : ¬ (-1 : Int32) = 1 := by decide
  rcases r2 with h | h | h
  · rw [h] at r1 r3 r4
    by_cases b1 : par = 1
    · have r6 := r6 (by rw [b1]; decide)
      by_cases c3 : 300 < t - pAt
      · skip
        refine ⟨by_, since, par, pAt, M, fun K a1 => ?_, fun J a1 hj => ?_, ?_, ?_⟩
        · simp [RE, OE, x_X8_rights_49, x_X8_rights_64, x_X8_rights_150, x_X8_rights_179, x_X8_rights_195, x_X8_rights_339, x_X8_rights_345, ok_X8_rights_49, ok_X8_rights_64, ok_X8_rights_150, ok_X8_rights_179, ok_X8_rights_195, ok_X8_rights_339, ok_X8_rights_345, hk, ht, nI_clamp hi2, h, r1, r5, d1, d2, b1, c3, r6]
        · simp [RE, OE, x_X8_rights_49, x_X8_rights_64, x_X8_rights_150, x_X8_rights_179, x_X8_rights_195, x_X8_rights_339, x_X8_rights_345, ok_X8_rights_49, ok_X8_rights_64, ok_X8_rights_150, ok_X8_rights_179, ok_X8_rights_195, ok_X8_rights_339, ok_X8_rights_345, hk, ht, nI_clamp hi2, hv, h, r1, r5, d1, d2, b1, c3, r6]; first | exact hj | (simp_all)
        · simp [RW, gV_sV, x_X6_take, x_X6_take_54, x_X6_take_72, x_X6_take_99, x_X6_take_108, x_X6_take_146, x_X6_take_185, x_X6_attack, x_X6_attack_17, x_X6_give, x_X6_parry, h, r1, r5, d1, d2, b1, c3, r6]
          try simp_all
        · repeat first | exact Ag.rf _ _ | refine Ag_sV _ _ _ _ rfl ?_
      · skip
        refine ⟨4, since, par, pAt, (sV M 8 0 30 (1)), fun K a1 => ?_, fun J a1 hj => ?_, ?_, ?_⟩
        · simp [RE, OE, x_X8_rights_49, x_X8_rights_64, x_X8_rights_150, x_X8_rights_179, x_X8_rights_195, x_X8_rights_339, x_X8_rights_345, ok_X8_rights_49, ok_X8_rights_64, ok_X8_rights_150, ok_X8_rights_179, ok_X8_rights_195, ok_X8_rights_339, ok_X8_rights_345, hk, ht, nI_clamp hi2, h, r1, r5, d1, d2, b1, c3, r6]
        · simp [RE, OE, x_X8_rights_49, x_X8_rights_64, x_X8_rights_150, x_X8_rights_179, x_X8_rights_195, x_X8_rights_339, x_X8_rights_345, ok_X8_rights_49, ok_X8_rights_64, ok_X8_rights_150, ok_X8_rights_179, ok_X8_rights_195, ok_X8_rights_339, ok_X8_rights_345, hk, ht, nI_clamp hi2, hv, h, r1, r5, d1, d2, b1, c3, r6]; first | exact hj | (simp_all)
        · simp [RW, gV_sV, x_X6_take, x_X6_take_54, x_X6_take_72, x_X6_take_99, x_X6_take_108, x_X6_take_146, x_X6_take_185, x_X6_attack, x_X6_attack_17, x_X6_give, x_X6_parry, h, r1, r5, d1, d2, b1, c3, r6]
          try simp_all
        · repeat first | exact Ag.rf _ _ | refine Ag_sV _ _ _ _ rfl ?_
    · skip
      refine ⟨by_, since, par, pAt, M, fun K a1 => ?_, fun J a1 hj => ?_, ?_, ?_⟩
      · simp [RE, OE, x_X8_rights_49, x_X8_rights_64, x_X8_rights_150, x_X8_rights_179, x_X8_rights_195, x_X8_rights_339, x_X8_rights_345, ok_X8_rights_49, ok_X8_rights_64, ok_X8_rights_150, ok_X8_rights_179, ok_X8_rights_195, ok_X8_rights_339, ok_X8_rights_345, hk, ht, nI_clamp hi2, h, r1, r5, d1, d2, b1]
      · simp [RE, OE, x_X8_rights_49, x_X8_rights_64, x_X8_rights_150, x_X8_rights_179, x_X8_rights_195, x_X8_rights_339, x_X8_rights_345, ok_X8_rights_49, ok_X8_rights_64, ok_X8_rights_150, ok_X8_rights_179, ok_X8_rights_195, ok_X8_rights_339, ok_X8_rights_345, hk, ht, nI_clamp hi2, hv, h, r1, r5, d1, d2, b1]; first | exact hj | (simp_all)
      · simp [RW, gV_sV, x_X6_take, x_X6_take_54, x_X6_take_72, x_X6_take_99, x_X6_take_108, x_X6_take_146, x_X6_take_185, x_X6_attack, x_X6_attack_17, x_X6_give, x_X6_parry, h, r1, r5, d1, d2, b1]
        try simp_all
      · repeat first | exact Ag.rf _ _ | refine Ag_sV _ _ _ _ rfl ?_
  · rw [h] at r1 r3 r4
    have r3 := r3 (by decide)
    have r4 := r4 (by decide)
    refine ⟨by_, since, par, pAt, M, fun K a1 => ?_, fun J a1 hj => ?_, ?_, ?_⟩
    · simp [RE, OE, x_X8_rights_49, x_X8_rights_64, x_X8_rights_150, x_X8_rights_179, x_X8_rights_195, x_X8_rights_339, x_X8_rights_345, ok_X8_rights_49, ok_X8_rights_64, ok_X8_rights_150, ok_X8_rights_179, ok_X8_rights_195, ok_X8_rights_339, ok_X8_rights_345, hk, ht, nI_clamp hi2, h, r1, r5, d1, d2, r3]
    · simp [RE, OE, x_X8_rights_49, x_X8_rights_64, x_X8_rights_150, x_X8_rights_179, x_X8_rights_195, x_X8_rights_339, x_X8_rights_345, ok_X8_rights_49, ok_X8_rights_64, ok_X8_rights_150, ok_X8_rights_179, ok_X8_rights_195, ok_X8_rights_339, ok_X8_rights_345, hk, ht, nI_clamp hi2, hv, h, r1, r5, d1, d2, r3]; first | exact hj | (simp_all)
    · simp [RW, gV_sV, x_X6_take, x_X6_take_54, x_X6_take_72, x_X6_take_99, x_X6_take_108, x_X6_take_146, x_X6_take_185, x_X6_attack, x_X6_attack_17, x_X6_give, x_X6_parry, h, r1, r5, d1, d2, r3]
      try simp_all
    · repeat first | exact Ag.rf _ _ | refine Ag_sV _ _ _ _ rfl ?_
  · rw [h] at r1 r3 r4
    have r3 := r3 (by decide)
    have r4 := r4 (by decide)
    refine ⟨by_, since, par, pAt, M, fun K a1 => ?_, fun J a1 hj => ?_, ?_, ?_⟩
    · simp [RE, OE, x_X8_rights_49, x_X8_rights_64, x_X8_rights_150, x_X8_rights_179, x_X8_rights_195, x_X8_rights_339, x_X8_rights_345, ok_X8_rights_49, ok_X8_rights_64, ok_X8_rights_150, ok_X8_rights_179, ok_X8_rights_195, ok_X8_rights_339, ok_X8_rights_345, hk, ht, nI_clamp hi2, h, r1, r5, d1, d2, r3]
    · simp [RE, OE, x_X8_rights_49, x_X8_rights_64, x_X8_rights_150, x_X8_rights_179, x_X8_rights_195, x_X8_rights_339, x_X8_rights_345, ok_X8_rights_49, ok_X8_rights_64, ok_X8_rights_150, ok_X8_rights_179, ok_X8_rights_195, ok_X8_rights_339, ok_X8_rights_345, hk, ht, nI_clamp hi2, hv, h, r1, r5, d1, d2, r3]; first | exact hj | (simp_all)
    · simp [RW, gV_sV, x_X6_take, x_X6_take_54, x_X6_take_72, x_X6_take_99, x_X6_take_108, x_X6_take_146, x_X6_take_185, x_X6_attack, x_X6_attack_17, x_X6_give, x_X6_parry, h, r1, r5, d1, d2, r3]
      try simp_all
    · repeat first | exact Ag.rf _ _ | refine Ag_sV _ _ _ _ rfl ?_
set_option maxHeartbeats 4000000 in
theorem stp_5_0 {C M : St} {by_ since par pAt t : Int32} {i : Nat} (hi : i < 24) (hR : RW C M by_ since par pAt) (hk : gV M 32 0 i = 5) (ht : gV M 33 0 i = t) : StepR C M (x_X6_take 0 5 t C) by_ since par pAt 0 i := by
  obtain ⟨r1, r2, r3, r4, r5, r6⟩ := hR
  have hi2 : i < 2 ^ 31 := by omega
  have hv : vp_in (nI i) 24 := vp_in_nI hi (by omega)
  have d1 : ¬ (-1 : Int32) = 0 := by decide
  have d2 : ¬ (-1 : Int32) = 1 := by decide
  rcases r2 with h | h | h
  · rw [h] at r1 r3 r4
    by_cases b1 : par = 1
    · have r6 := r6 (by rw [b1]; decide)
      by_cases c3 : t - pAt ≤ 300
      · skip
        refine ⟨by_, since, par, pAt, M, fun K a1 => ?_, fun J a1 hj => ?_, ?_, ?_⟩
        · simp [RE, OE, x_X8_rights_49, x_X8_rights_64, x_X8_rights_150, x_X8_rights_179, x_X8_rights_195, x_X8_rights_339, x_X8_rights_345, ok_X8_rights_49, ok_X8_rights_64, ok_X8_rights_150, ok_X8_rights_179, ok_X8_rights_195, ok_X8_rights_339, ok_X8_rights_345, hk, ht, nI_clamp hi2, h, r1, r5, d1, d2, b1, c3, r6]
        · simp [RE, OE, x_X8_rights_49, x_X8_rights_64, x_X8_rights_150, x_X8_rights_179, x_X8_rights_195, x_X8_rights_339, x_X8_rights_345, ok_X8_rights_49, ok_X8_rights_64, ok_X8_rights_150, ok_X8_rights_179, ok_X8_rights_195, ok_X8_rights_339, ok_X8_rights_345, hk, ht, nI_clamp hi2, hv, h, r1, r5, d1, d2, b1, c3, r6]; first | exact hj | (simp_all)
        · simp [RW, gV_sV, x_X6_take, x_X6_take_54, x_X6_take_72, x_X6_take_99, x_X6_take_108, x_X6_take_146, x_X6_take_185, x_X6_attack, x_X6_attack_17, x_X6_give, x_X6_parry, h, r1, r5, d1, d2, b1, c3, r6]
          try simp_all
        · repeat first | exact Ag.rf _ _ | refine Ag_sV _ _ _ _ rfl ?_
      · skip
        refine ⟨5, since, par, pAt, (sV M 8 0 30 (0)), fun K a1 => ?_, fun J a1 hj => ?_, ?_, ?_⟩
        · simp [RE, OE, x_X8_rights_49, x_X8_rights_64, x_X8_rights_150, x_X8_rights_179, x_X8_rights_195, x_X8_rights_339, x_X8_rights_345, ok_X8_rights_49, ok_X8_rights_64, ok_X8_rights_150, ok_X8_rights_179, ok_X8_rights_195, ok_X8_rights_339, ok_X8_rights_345, hk, ht, nI_clamp hi2, h, r1, r5, d1, d2, b1, c3, r6]
        · simp [RE, OE, x_X8_rights_49, x_X8_rights_64, x_X8_rights_150, x_X8_rights_179, x_X8_rights_195, x_X8_rights_339, x_X8_rights_345, ok_X8_rights_49, ok_X8_rights_64, ok_X8_rights_150, ok_X8_rights_179, ok_X8_rights_195, ok_X8_rights_339, ok_X8_rights_345, hk, ht, nI_clamp hi2, hv, h, r1, r5, d1, d2, b1, c3, r6]; first | exact hj | (simp_all)
        · simp [RW, gV_sV, x_X6_take, x_X6_take_54, x_X6_take_72, x_X6_take_99, x_X6_take_108, x_X6_take_146, x_X6_take_185, x_X6_attack, x_X6_attack_17, x_X6_give, x_X6_parry, h, r1, r5, d1, d2, b1, c3, r6]
          try simp_all
        · repeat first | exact Ag.rf _ _ | refine Ag_sV _ _ _ _ rfl ?_
    · skip
      refine ⟨by_, since, par, pAt, M, fun K a1 => ?_, fun J a1 hj => ?_, ?_, ?_⟩
      · simp [RE, OE, x_X8_rights_49, x_X8_rights_64, x_X8_rights_150, x_X8_rights_179, x_X8_rights_195, x_X8_rights_339, x_X8_rights_345, ok_X8_rights_49, ok_X8_rights_64, ok_X8_rights_150, ok_X8_rights_179, ok_X8_rights_195, ok_X8_rights_339, ok_X8_rights_345, hk, ht, nI_clamp hi2, h, r1, r5, d1, d2, b1]
      · simp [RE, OE, x_X8_rights_49, x_X8_rights_64, x_X8_rights_150, x_X8_rights_179, x_X8_rights_195, x_X8_rights_339, x_X8_rights_345, ok_X8_rights_49, ok_X8_rights_64, ok_X8_rights_150, ok_X8_rights_179, ok_X8_rights_195, ok_X8_rights_339, ok_X8_rights_345, hk, ht, nI_clamp hi2, hv, h, r1, r5, d1, d2, b1]; first | exact hj | (simp_all)
      · simp [RW, gV_sV, x_X6_take, x_X6_take_54, x_X6_take_72, x_X6_take_99, x_X6_take_108, x_X6_take_146, x_X6_take_185, x_X6_attack, x_X6_attack_17, x_X6_give, x_X6_parry, h, r1, r5, d1, d2, b1]
        try simp_all
      · repeat first | exact Ag.rf _ _ | refine Ag_sV _ _ _ _ rfl ?_
  · rw [h] at r1 r3 r4
    have r3 := r3 (by decide)
    have r4 := r4 (by decide)
    refine ⟨by_, since, par, pAt, M, fun K a1 => ?_, fun J a1 hj => ?_, ?_, ?_⟩
    · simp [RE, OE, x_X8_rights_49, x_X8_rights_64, x_X8_rights_150, x_X8_rights_179, x_X8_rights_195, x_X8_rights_339, x_X8_rights_345, ok_X8_rights_49, ok_X8_rights_64, ok_X8_rights_150, ok_X8_rights_179, ok_X8_rights_195, ok_X8_rights_339, ok_X8_rights_345, hk, ht, nI_clamp hi2, h, r1, r5, d1, d2, r3]
    · simp [RE, OE, x_X8_rights_49, x_X8_rights_64, x_X8_rights_150, x_X8_rights_179, x_X8_rights_195, x_X8_rights_339, x_X8_rights_345, ok_X8_rights_49, ok_X8_rights_64, ok_X8_rights_150, ok_X8_rights_179, ok_X8_rights_195, ok_X8_rights_339, ok_X8_rights_345, hk, ht, nI_clamp hi2, hv, h, r1, r5, d1, d2, r3]; first | exact hj | (simp_all)
    · simp [RW, gV_sV, x_X6_take, x_X6_take_54, x_X6_take_72, x_X6_take_99, x_X6_take_108, x_X6_take_146, x_X6_take_185, x_X6_attack, x_X6_attack_17, x_X6_give, x_X6_parry, h, r1, r5, d1, d2, r3]
      try simp_all
    · repeat first | exact Ag.rf _ _ | refine Ag_sV _ _ _ _ rfl ?_
  · rw [h] at r1 r3 r4
    have r3 := r3 (by decide)
    have r4 := r4 (by decide)
    refine ⟨by_, since, par, pAt, M, fun K a1 => ?_, fun J a1 hj => ?_, ?_, ?_⟩
    · simp [RE, OE, x_X8_rights_49, x_X8_rights_64, x_X8_rights_150, x_X8_rights_179, x_X8_rights_195, x_X8_rights_339, x_X8_rights_345, ok_X8_rights_49, ok_X8_rights_64, ok_X8_rights_150, ok_X8_rights_179, ok_X8_rights_195, ok_X8_rights_339, ok_X8_rights_345, hk, ht, nI_clamp hi2, h, r1, r5, d1, d2, r3]
    · simp [RE, OE, x_X8_rights_49, x_X8_rights_64, x_X8_rights_150, x_X8_rights_179, x_X8_rights_195, x_X8_rights_339, x_X8_rights_345, ok_X8_rights_49, ok_X8_rights_64, ok_X8_rights_150, ok_X8_rights_179, ok_X8_rights_195, ok_X8_rights_339, ok_X8_rights_345, hk, ht, nI_clamp hi2, hv, h, r1, r5, d1, d2, r3]; first | exact hj | (simp_all)
    · simp [RW, gV_sV, x_X6_take, x_X6_take_54, x_X6_take_72, x_X6_take_99, x_X6_take_108, x_X6_take_146, x_X6_take_185, x_X6_attack, x_X6_attack_17, x_X6_give, x_X6_parry, h, r1, r5, d1, d2, r3]
      try simp_all
    · repeat first | exact Ag.rf _ _ | refine Ag_sV _ _ _ _ rfl ?_
set_option maxHeartbeats 4000000 in
theorem stp_5_1 {C M : St} {by_ since par pAt t : Int32} {i : Nat} (hi : i < 24) (hR : RW C M by_ since par pAt) (hk : gV M 32 0 i = 5) (ht : gV M 33 0 i = t) : StepR C M (x_X6_take 1 5 t C) by_ since par pAt 1 i := by
  obtain ⟨r1, r2, r3, r4, r5, r6⟩ := hR
  have hi2 : i < 2 ^ 31 := by omega
  have hv : vp_in (nI i) 24 := vp_in_nI hi (by omega)
  have d1 : ¬ (-1 : Int32) = 0 := by decide
  have d2 : ¬ (-1 : Int32) = 1 := by decide
  rcases r2 with h | h | h
  · rw [h] at r1 r3 r4
    by_cases b1 : par = 0
    · have r6 := r6 (by rw [b1]; decide)
      by_cases c3 : t - pAt ≤ 300
      · skip
        refine ⟨by_, since, par, pAt, M, fun K a1 => ?_, fun J a1 hj => ?_, ?_, ?_⟩
        · simp [RE, OE, x_X8_rights_49, x_X8_rights_64, x_X8_rights_150, x_X8_rights_179, x_X8_rights_195, x_X8_rights_339, x_X8_rights_345, ok_X8_rights_49, ok_X8_rights_64, ok_X8_rights_150, ok_X8_rights_179, ok_X8_rights_195, ok_X8_rights_339, ok_X8_rights_345, hk, ht, nI_clamp hi2, h, r1, r5, d1, d2, b1, c3, r6]
        · simp [RE, OE, x_X8_rights_49, x_X8_rights_64, x_X8_rights_150, x_X8_rights_179, x_X8_rights_195, x_X8_rights_339, x_X8_rights_345, ok_X8_rights_49, ok_X8_rights_64, ok_X8_rights_150, ok_X8_rights_179, ok_X8_rights_195, ok_X8_rights_339, ok_X8_rights_345, hk, ht, nI_clamp hi2, hv, h, r1, r5, d1, d2, b1, c3, r6]; first | exact hj | (simp_all)
        · simp [RW, gV_sV, x_X6_take, x_X6_take_54, x_X6_take_72, x_X6_take_99, x_X6_take_108, x_X6_take_146, x_X6_take_185, x_X6_attack, x_X6_attack_17, x_X6_give, x_X6_parry, h, r1, r5, d1, d2, b1, c3, r6]
          try simp_all
        · repeat first | exact Ag.rf _ _ | refine Ag_sV _ _ _ _ rfl ?_
      · skip
        refine ⟨5, since, par, pAt, (sV M 8 0 30 (1)), fun K a1 => ?_, fun J a1 hj => ?_, ?_, ?_⟩
        · simp [RE, OE, x_X8_rights_49, x_X8_rights_64, x_X8_rights_150, x_X8_rights_179, x_X8_rights_195, x_X8_rights_339, x_X8_rights_345, ok_X8_rights_49, ok_X8_rights_64, ok_X8_rights_150, ok_X8_rights_179, ok_X8_rights_195, ok_X8_rights_339, ok_X8_rights_345, hk, ht, nI_clamp hi2, h, r1, r5, d1, d2, b1, c3, r6]
        · simp [RE, OE, x_X8_rights_49, x_X8_rights_64, x_X8_rights_150, x_X8_rights_179, x_X8_rights_195, x_X8_rights_339, x_X8_rights_345, ok_X8_rights_49, ok_X8_rights_64, ok_X8_rights_150, ok_X8_rights_179, ok_X8_rights_195, ok_X8_rights_339, ok_X8_rights_345, hk, ht, nI_clamp hi2, hv, h, r1, r5, d1, d2, b1, c3, r6]; first | exact hj | (simp_all)
        · simp [RW, gV_sV, x_X6_take, x_X6_take_54, x_X6_take_72, x_X6_take_99, x_X6_take_108, x_X6_take_146, x_X6_take_185, x_X6_attack, x_X6_attack_17, x_X6_give, x_X6_parry, h, r1, r5, d1, d2, b1, c3, r6]
          try simp_all
        · repeat first | exact Ag.rf _ _ | refine Ag_sV _ _ _ _ rfl ?_
    · skip
      refine ⟨by_, since, par, pAt, M, fun K a1 => ?_, fun J a1 hj => ?_, ?_, ?_⟩
      · simp [RE, OE, x_X8_rights_49, x_X8_rights_64, x_X8_rights_150, x_X8_rights_179, x_X8_rights_195, x_X8_rights_339, x_X8_rights_345, ok_X8_rights_49, ok_X8_rights_64, ok_X8_rights_150, ok_X8_rights_179, ok_X8_rights_195, ok_X8_rights_339, ok_X8_rights_345, hk, ht, nI_clamp hi2, h, r1, r5, d1, d2, b1]
      · simp [RE, OE, x_X8_rights_49, x_X8_rights_64, x_X8_rights_150, x_X8_rights_179, x_X8_rights_195, x_X8_rights_339, x_X8_rights_345, ok_X8_rights_49, ok_X8_rights_64, ok_X8_rights_150, ok_X8_rights_179, ok_X8_rights_195, ok_X8_rights_339, ok_X8_rights_345, hk, ht, nI_clamp hi2, hv, h, r1, r5, d1, d2, b1]; first | exact hj | (simp_all)
      · simp [RW, gV_sV, x_X6_take, x_X6_take_54, x_X6_take_72, x_X6_take_99, x_X6_take_108, x_X6_take_146, x_X6_take_185, x_X6_attack, x_X6_attack_17, x_X6_give, x_X6_parry, h, r1, r5, d1, d2, b1]
        try simp_all
      · repeat first | exact Ag.rf _ _ | refine Ag_sV _ _ _ _ rfl ?_
  · rw [h] at r1 r3 r4
    have r3 := r3 (by decide)
    have r4 := r4 (by decide)
    refine ⟨by_, since, par, pAt, M, fun K a1 => ?_, fun J a1 hj => ?_, ?_, ?_⟩
    · simp [RE, OE, x_X8_rights_49, x_X8_rights_64, x_X8_rights_150, x_X8_rights_179, x_X8_rights_195, x_X8_rights_339, x_X8_rights_345, ok_X8_rights_49, ok_X8_rights_64, ok_X8_rights_150, ok_X8_rights_179, ok_X8_rights_195, ok_X8_rights_339, ok_X8_rights_345, hk, ht, nI_clamp hi2, h, r1, r5, d1, d2, r3]
    · simp [RE, OE, x_X8_rights_49, x_X8_rights_64, x_X8_rights_150, x_X8_rights_179, x_X8_rights_195, x_X8_rights_339, x_X8_rights_345, ok_X8_rights_49, ok_X8_rights_64, ok_X8_rights_150, ok_X8_rights_179, ok_X8_rights_195, ok_X8_rights_339, ok_X8_rights_345, hk, ht, nI_clamp hi2, hv, h, r1, r5, d1, d2, r3]; first | exact hj | (simp_all)
    · simp [RW, gV_sV, x_X6_take, x_X6_take_54, x_X6_take_72, x_X6_take_99, x_X6_take_108, x_X6_take_146, x_X6_take_185, x_X6_attack, x_X6_attack_17, x_X6_give, x_X6_parry, h, r1, r5, d1, d2, r3]
      try simp_all
    · repeat first | exact Ag.rf _ _ | refine Ag_sV _ _ _ _ rfl ?_
  · rw [h] at r1 r3 r4
    have r3 := r3 (by decide)
    have r4 := r4 (by decide)
    refine ⟨by_, since, par, pAt, M, fun K a1 => ?_, fun J a1 hj => ?_, ?_, ?_⟩
    · simp [RE, OE, x_X8_rights_49, x_X8_rights_64, x_X8_rights_150, x_X8_rights_179, x_X8_rights_195, x_X8_rights_339, x_X8_rights_345, ok_X8_rights_49, ok_X8_rights_64, ok_X8_rights_150, ok_X8_rights_179, ok_X8_rights_195, ok_X8_rights_339, ok_X8_rights_345, hk, ht, nI_clamp hi2, h, r1, r5, d1, d2, r3]
    · simp [RE, OE, x_X8_rights_49, x_X8_rights_64, x_X8_rights_150, x_X8_rights_179, x_X8_rights_195, x_X8_rights_339, x_X8_rights_345, ok_X8_rights_49, ok_X8_rights_64, ok_X8_rights_150, ok_X8_rights_179, ok_X8_rights_195, ok_X8_rights_339, ok_X8_rights_345, hk, ht, nI_clamp hi2, hv, h, r1, r5, d1, d2, r3]; first | exact hj | (simp_all)
    · simp [RW, gV_sV, x_X6_take, x_X6_take_54, x_X6_take_72, x_X6_take_99, x_X6_take_108, x_X6_take_146, x_X6_take_185, x_X6_attack, x_X6_attack_17, x_X6_give, x_X6_parry, h, r1, r5, d1, d2, r3]
      try simp_all
    · repeat first | exact Ag.rf _ _ | refine Ag_sV _ _ _ _ rfl ?_
set_option maxHeartbeats 4000000 in
theorem stp_6_0 {C M : St} {by_ since par pAt t : Int32} {i : Nat} (hi : i < 24) (hR : RW C M by_ since par pAt) (hk : gV M 32 0 i = 6) (ht : gV M 33 0 i = t) : StepR C M (x_X6_take 0 6 t C) by_ since par pAt 0 i := by
  obtain ⟨r1, r2, r3, r4, r5, r6⟩ := hR
  have hi2 : i < 2 ^ 31 := by omega
  have hv : vp_in (nI i) 24 := vp_in_nI hi (by omega)
  have d1 : ¬ (-1 : Int32) = 0 := by decide
  have d2 : ¬ (-1 : Int32) = 1 := by decide
  rcases r2 with h | h | h
  · rw [h] at r1 r3 r4
    refine ⟨by_, since, par, pAt, (sV M 8 0 30 (-1)), fun K a1 => ?_, fun J a1 hj => ?_, ?_, ?_⟩
    · simp [RE, OE, x_X8_rights_49, x_X8_rights_64, x_X8_rights_150, x_X8_rights_179, x_X8_rights_195, x_X8_rights_339, x_X8_rights_345, ok_X8_rights_49, ok_X8_rights_64, ok_X8_rights_150, ok_X8_rights_179, ok_X8_rights_195, ok_X8_rights_339, ok_X8_rights_345, hk, ht, nI_clamp hi2, h, r1, r5, d1, d2]
    · simp [RE, OE, x_X8_rights_49, x_X8_rights_64, x_X8_rights_150, x_X8_rights_179, x_X8_rights_195, x_X8_rights_339, x_X8_rights_345, ok_X8_rights_49, ok_X8_rights_64, ok_X8_rights_150, ok_X8_rights_179, ok_X8_rights_195, ok_X8_rights_339, ok_X8_rights_345, hk, ht, nI_clamp hi2, hv, h, r1, r5, d1, d2]; first | exact hj | (simp_all)
    · simp [RW, gV_sV, x_X6_take, x_X6_take_54, x_X6_take_72, x_X6_take_99, x_X6_take_108, x_X6_take_146, x_X6_take_185, x_X6_attack, x_X6_attack_17, x_X6_give, x_X6_parry, h, r1, r5, d1, d2]
      try simp_all
    · repeat first | exact Ag.rf _ _ | refine Ag_sV _ _ _ _ rfl ?_
  · rw [h] at r1 r3 r4
    have r3 := r3 (by decide)
    have r4 := r4 (by decide)
    refine ⟨by_, since, par, pAt, (sV M 8 0 30 (-1)), fun K a1 => ?_, fun J a1 hj => ?_, ?_, ?_⟩
    · simp [RE, OE, x_X8_rights_49, x_X8_rights_64, x_X8_rights_150, x_X8_rights_179, x_X8_rights_195, x_X8_rights_339, x_X8_rights_345, ok_X8_rights_49, ok_X8_rights_64, ok_X8_rights_150, ok_X8_rights_179, ok_X8_rights_195, ok_X8_rights_339, ok_X8_rights_345, hk, ht, nI_clamp hi2, h, r1, r5, d1, d2, r3]
    · simp [RE, OE, x_X8_rights_49, x_X8_rights_64, x_X8_rights_150, x_X8_rights_179, x_X8_rights_195, x_X8_rights_339, x_X8_rights_345, ok_X8_rights_49, ok_X8_rights_64, ok_X8_rights_150, ok_X8_rights_179, ok_X8_rights_195, ok_X8_rights_339, ok_X8_rights_345, hk, ht, nI_clamp hi2, hv, h, r1, r5, d1, d2, r3]; first | exact hj | (simp_all)
    · simp [RW, gV_sV, x_X6_take, x_X6_take_54, x_X6_take_72, x_X6_take_99, x_X6_take_108, x_X6_take_146, x_X6_take_185, x_X6_attack, x_X6_attack_17, x_X6_give, x_X6_parry, h, r1, r5, d1, d2, r3]
      try simp_all
    · repeat first | exact Ag.rf _ _ | refine Ag_sV _ _ _ _ rfl ?_
  · rw [h] at r1 r3 r4
    have r3 := r3 (by decide)
    have r4 := r4 (by decide)
    refine ⟨by_, since, par, pAt, (sV M 8 0 30 (1)), fun K a1 => ?_, fun J a1 hj => ?_, ?_, ?_⟩
    · simp [RE, OE, x_X8_rights_49, x_X8_rights_64, x_X8_rights_150, x_X8_rights_179, x_X8_rights_195, x_X8_rights_339, x_X8_rights_345, ok_X8_rights_49, ok_X8_rights_64, ok_X8_rights_150, ok_X8_rights_179, ok_X8_rights_195, ok_X8_rights_339, ok_X8_rights_345, hk, ht, nI_clamp hi2, h, r1, r5, d1, d2, r3]
    · simp [RE, OE, x_X8_rights_49, x_X8_rights_64, x_X8_rights_150, x_X8_rights_179, x_X8_rights_195, x_X8_rights_339, x_X8_rights_345, ok_X8_rights_49, ok_X8_rights_64, ok_X8_rights_150, ok_X8_rights_179, ok_X8_rights_195, ok_X8_rights_339, ok_X8_rights_345, hk, ht, nI_clamp hi2, hv, h, r1, r5, d1, d2, r3]; first | exact hj | (simp_all)
    · simp [RW, gV_sV, x_X6_take, x_X6_take_54, x_X6_take_72, x_X6_take_99, x_X6_take_108, x_X6_take_146, x_X6_take_185, x_X6_attack, x_X6_attack_17, x_X6_give, x_X6_parry, h, r1, r5, d1, d2, r3]
      try simp_all
    · repeat first | exact Ag.rf _ _ | refine Ag_sV _ _ _ _ rfl ?_
set_option maxHeartbeats 4000000 in
theorem stp_6_1 {C M : St} {by_ since par pAt t : Int32} {i : Nat} (hi : i < 24) (hR : RW C M by_ since par pAt) (hk : gV M 32 0 i = 6) (ht : gV M 33 0 i = t) : StepR C M (x_X6_take 1 6 t C) by_ since par pAt 1 i := by
  obtain ⟨r1, r2, r3, r4, r5, r6⟩ := hR
  have hi2 : i < 2 ^ 31 := by omega
  have hv : vp_in (nI i) 24 := vp_in_nI hi (by omega)
  have d1 : ¬ (-1 : Int32) = 0 := by decide
  have d2 : ¬ (-1 : Int32) = 1 := by decide
  rcases r2 with h | h | h
  · rw [h] at r1 r3 r4
    refine ⟨by_, since, par, pAt, (sV M 8 0 30 (-1)), fun K a1 => ?_, fun J a1 hj => ?_, ?_, ?_⟩
    · simp [RE, OE, x_X8_rights_49, x_X8_rights_64, x_X8_rights_150, x_X8_rights_179, x_X8_rights_195, x_X8_rights_339, x_X8_rights_345, ok_X8_rights_49, ok_X8_rights_64, ok_X8_rights_150, ok_X8_rights_179, ok_X8_rights_195, ok_X8_rights_339, ok_X8_rights_345, hk, ht, nI_clamp hi2, h, r1, r5, d1, d2]
    · simp [RE, OE, x_X8_rights_49, x_X8_rights_64, x_X8_rights_150, x_X8_rights_179, x_X8_rights_195, x_X8_rights_339, x_X8_rights_345, ok_X8_rights_49, ok_X8_rights_64, ok_X8_rights_150, ok_X8_rights_179, ok_X8_rights_195, ok_X8_rights_339, ok_X8_rights_345, hk, ht, nI_clamp hi2, hv, h, r1, r5, d1, d2]; first | exact hj | (simp_all)
    · simp [RW, gV_sV, x_X6_take, x_X6_take_54, x_X6_take_72, x_X6_take_99, x_X6_take_108, x_X6_take_146, x_X6_take_185, x_X6_attack, x_X6_attack_17, x_X6_give, x_X6_parry, h, r1, r5, d1, d2]
      try simp_all
    · repeat first | exact Ag.rf _ _ | refine Ag_sV _ _ _ _ rfl ?_
  · rw [h] at r1 r3 r4
    have r3 := r3 (by decide)
    have r4 := r4 (by decide)
    refine ⟨by_, since, par, pAt, (sV M 8 0 30 (0)), fun K a1 => ?_, fun J a1 hj => ?_, ?_, ?_⟩
    · simp [RE, OE, x_X8_rights_49, x_X8_rights_64, x_X8_rights_150, x_X8_rights_179, x_X8_rights_195, x_X8_rights_339, x_X8_rights_345, ok_X8_rights_49, ok_X8_rights_64, ok_X8_rights_150, ok_X8_rights_179, ok_X8_rights_195, ok_X8_rights_339, ok_X8_rights_345, hk, ht, nI_clamp hi2, h, r1, r5, d1, d2, r3]
    · simp [RE, OE, x_X8_rights_49, x_X8_rights_64, x_X8_rights_150, x_X8_rights_179, x_X8_rights_195, x_X8_rights_339, x_X8_rights_345, ok_X8_rights_49, ok_X8_rights_64, ok_X8_rights_150, ok_X8_rights_179, ok_X8_rights_195, ok_X8_rights_339, ok_X8_rights_345, hk, ht, nI_clamp hi2, hv, h, r1, r5, d1, d2, r3]; first | exact hj | (simp_all)
    · simp [RW, gV_sV, x_X6_take, x_X6_take_54, x_X6_take_72, x_X6_take_99, x_X6_take_108, x_X6_take_146, x_X6_take_185, x_X6_attack, x_X6_attack_17, x_X6_give, x_X6_parry, h, r1, r5, d1, d2, r3]
      try simp_all
    · repeat first | exact Ag.rf _ _ | refine Ag_sV _ _ _ _ rfl ?_
  · rw [h] at r1 r3 r4
    have r3 := r3 (by decide)
    have r4 := r4 (by decide)
    refine ⟨by_, since, par, pAt, (sV M 8 0 30 (-1)), fun K a1 => ?_, fun J a1 hj => ?_, ?_, ?_⟩
    · simp [RE, OE, x_X8_rights_49, x_X8_rights_64, x_X8_rights_150, x_X8_rights_179, x_X8_rights_195, x_X8_rights_339, x_X8_rights_345, ok_X8_rights_49, ok_X8_rights_64, ok_X8_rights_150, ok_X8_rights_179, ok_X8_rights_195, ok_X8_rights_339, ok_X8_rights_345, hk, ht, nI_clamp hi2, h, r1, r5, d1, d2, r3]
    · simp [RE, OE, x_X8_rights_49, x_X8_rights_64, x_X8_rights_150, x_X8_rights_179, x_X8_rights_195, x_X8_rights_339, x_X8_rights_345, ok_X8_rights_49, ok_X8_rights_64, ok_X8_rights_150, ok_X8_rights_179, ok_X8_rights_195, ok_X8_rights_339, ok_X8_rights_345, hk, ht, nI_clamp hi2, hv, h, r1, r5, d1, d2, r3]; first | exact hj | (simp_all)
    · simp [RW, gV_sV, x_X6_take, x_X6_take_54, x_X6_take_72, x_X6_take_99, x_X6_take_108, x_X6_take_146, x_X6_take_185, x_X6_attack, x_X6_attack_17, x_X6_give, x_X6_parry, h, r1, r5, d1, d2, r3]
      try simp_all
    · repeat first | exact Ag.rf _ _ | refine Ag_sV _ _ _ _ rfl ?_
end
