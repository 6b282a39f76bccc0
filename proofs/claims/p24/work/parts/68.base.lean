noncomputable section
/-- a stretch of the law that is well -/
def OKr (r : Nat × Int32 × St) : Prop := r.1 = 0 ∧ r.2.1 = 1
def MB (nb np : Nat) (γ : St) : Prop := ∀ i j, i < nb → j < np → gV γ 0 i 4 = nI j → x_X5_isIn (gV γ 5 j 1) (gV γ 2 (2 * i) 0) γS = 1 ∧ x_X5_isIn (gV γ 5 j 1) (gV γ 2 (2 * i + 1) 0) γS = 1
/-- what holds between the drawn calls -/
def IV (nf np nb : Nat) (γ : St) : Prop := nf ≤ 12 ∧ GI nb np γ ∧ gV γ 7 0 5 = nI nf ∧ (gR γ 7 8 = none ∨ (0 < nb ∧ gR γ 7 8 = some (nb - 1))) ∧ MB nb np γ
theorem iv_of {nf np nb : Nat} {γ γ' : St} (h : IV nf np nb γ) (hf : FR γ γ') (hg : GI nb np γ') : IV nf np nb γ' := by
  obtain ⟨h1, h2, h3, h4, h5⟩ := h
  refine ⟨h1, hg, (hf.1 7 0 5 rfl).trans h3, ?_, fun i j hi hj e => ?_⟩
  · rcases hf.2.1 with e | e
    · rw [e]; exact h4
    · exact Or.inl e
  · rw [hf.1 5 j 1 rfl, hf.1 2 (2 * i) 0 rfl, hf.1 2 (2 * i + 1) 0 rfl]
    exact h5 i j hi hj ((hf.1 0 i 4 rfl).symm.trans e)
theorem gi_b {nb np : Nat} {γ : St} (h : GI nb np γ) : nb ≤ 80 ∧ np ≤ 6 ∧ gV γ 7 0 6 = nI nb ∧ gV γ 7 0 7 = nI np ∧ (∀ i, i < nb → gR γ 9 i = some i) ∧ (∀ j, j < np → gR γ 10 j = some j) := by
  obtain ⟨M, hA, -⟩ := h
  obtain ⟨a1, a2, a3, a4, a5, a6, a7, a8, a9, a10, a11, a12, a13, a14⟩ := hA
  exact ⟨a3, a6, a4, a7, a13, a14⟩
theorem gi_w {nb np i : Nat} {γ : St} (h : GI nb np γ) (hi : i < nb) : (gV γ 0 i 5 = -1 ↔ gR γ 7 8 = some i) ∧ (gV γ 0 i 5 = -1 ∨ gV γ 0 i 5 = 0 ∨ gV γ 0 i 5 = 1) := by
  obtain ⟨M, hA, hB, hZ, ⟨hP, -⟩, -⟩ := h
  obtain ⟨b1, b2, b3, b4, b5, b6, b7, b8, b9, b10, b11, b12, b13, b14, b15, b16, -⟩ := hB i hi
  rw [b15]
  exact ⟨hP i hi, b16⟩
/-- who is on the piste, told by the last bout -/
theorem ofb {nb np i : Nat} {γ : St} (w : Int32) (h : GI nb np γ) (hi : i < nb) (hw : x_X7_isWithin w 0 5 γS = 1) : x_X7_ofBout (nI i) w γ = (0, x_X0_told i w γ, γ) := by
  obtain ⟨h1, h2, h3, h4, h5, h6⟩ := gi_b h
  unfold x_X7_ofBout
  rw [(boutAt_in h1 h3 h5 hi).1]
  have e : x_X7_isWithin w 0 5 γ = 1 := hw
  simp only [oc]
  rw [e, if_neg (by decide)]
theorem nI_p1 {n : Nat} (h : 0 < n) : nI n - 1 = nI (n - 1) := by
  obtain ⟨m, rfl⟩ : ∃ m, n = m + 1 := ⟨n - 1, by omega⟩
  exact nI_pred m
theorem told0 (i : Nat) (γ : St) : x_X0_told i 0 γ = gV γ 2 (2 * i) 1 := by unfold x_X0_told; rw [if_pos rfl]
theorem told1 (i : Nat) (γ : St) : x_X0_told i 1 γ = gV γ 2 (2 * i + 1) 1 := by unfold x_X0_told; rw [if_neg (by decide), if_pos rfl]
theorem told2 (i : Nat) (γ : St) : x_X0_told i 2 γ = gV γ 0 i 5 := by unfold x_X0_told; rw [if_neg (by decide), if_neg (by decide), if_pos rfl]
/-- 1 while a bout is on the piste -/
def bz (γ : St) : Int32 := if gR γ 7 8 = none then 0 else 1
theorem bz_0 {γ : St} (h : gR γ 7 8 = none) : bz γ = 0 := if_pos h
theorem bz_1 {γ : St} (h : ¬ gR γ 7 8 = none) : bz γ = 1 := if_neg h
def H9 (K91 : Int32 → Int32 → Int32 → Int32 → St → Nat × Int32 × St) (xs : Nat → Int32) (Ln : Nat) (a6 : Int32) : Prop := ∀ (nf np nb : Nat) (γ : St), IV nf np nb γ → OKr (x_LB_979 K91 xs Ln (nI nf) (nI np) (nI nb) a6 γ)
section BRANCH
variable {K91 : Int32 → Int32 → Int32 → Int32 → St → Nat × Int32 × St} {xs : Nat → Int32} {Ln : Nat} {a6 : Int32}
theorem b_busy {nf np nb : Nat} {γ : St} {s0 : Int32} (h : IV nf np nb γ) : x_LB_121 K91 xs Ln (nI nf) (nI np) (nI nb) a6 s0 γ = x_LB_166 K91 xs Ln (nI nf) (nI np) (nI nb) a6 (s0 - s0 / 16 * 16) (s0 / 16) (s0 / 16 / 20) (bz γ) γ := by
  obtain ⟨h1, h2, h3, h4, h5⟩ := h
  obtain ⟨g1, g2, g3, g4, g5, g6⟩ := gi_b h2
  unfold x_LB_121 x_LB_165
  by_cases c : nb = 0
  · subst c
    rw [if_pos (show nI 0 ≤ 0 by decide), bz_0]
    rcases h4 with e | ⟨e, -⟩
    · exact e
    · exact absurd e (by omega)
  · rw [if_neg (nI_nle (by omega) (by omega)), nI_p1 (by omega), ofb 2 h2 (show nb - 1 < nb by omega) (by decide), told2]
    obtain ⟨w1, w2⟩ := gi_w h2 (show nb - 1 < nb by omega)
    dsimp only
    rw [if_pos rfl]
    rcases h4 with e | ⟨-, e⟩
    · have n1 : ¬ gV γ 0 (nb - 1) 5 = -1 := fun q => by rw [w1.mp q] at e; exact absurd e (by simp)
      rw [bz_0 e, if_pos]
      rcases w2 with q | q | q
      · exact absurd q n1
      · rw [q]; decide
      · rw [q]; decide
    · have e1 := w1.mpr e
      rw [bz_1 (by rw [e]; simp), e1, if_neg (by decide)]
theorem b_fencer {nf np nb : Nat} {γ : St} (h979 : H9 K91 xs Ln a6) (h : IV nf np nb γ) : OKr (x_LB_178 K91 xs Ln (nI nf) (nI np) (nI nb) a6 γ) := by
  have e12 : (12 : Int32) = nI 12 := by decide
  unfold x_LB_178 x_LB_188 x_LB_200 x_LB_217
  rw [lc_0]
  have g := gi_fencer h.2.1
  unfold x_X7_fencer at g ⊢
  rw [h.2.2.1] at g ⊢
  have hle := h.1
  by_cases c : nf < 12
  · have c1 : nI nf < 12 := by rw [e12]; exact nI_lt c (by omega)
    have c2 : ¬ (12 : Int32) ≤ nI nf := by rw [e12]; exact nI_ge c (by omega)
    rw [if_pos c1] at g ⊢
    rw [if_neg c2, if_neg c2]
    rw [nI_1] at g
    rw [cL_0 rfl]
    dsimp only
    rw [if_pos rfl, nI_1]
    refine h979 _ _ _ _ ⟨by omega, g, ?_, h.2.2.2.1, fun i j hi hj e => ?_⟩
    · rw [gV_sV, if_pos ⟨rfl, rfl, rfl⟩]
    · rw [gV_sV, if_neg (by omega)] at e
      rw [gV_sV, if_neg (by omega), gV_sV, if_neg (by omega), gV_sV, if_neg (by omega)]
      exact h.2.2.2.2 i j hi hj e
  · have e : nf = 12 := by omega
    subst e
    rw [if_neg (show ¬ nI 12 < 12 by decide), if_pos (show (12 : Int32) ≤ nI 12 by decide), if_pos (show (12 : Int32) ≤ nI 12 by decide)]
    rw [cL_1 rfl]
    dsimp only
    rw [if_pos rfl, Int32.add_zero]
    exact h979 _ _ _ _ h
end BRANCH
end
