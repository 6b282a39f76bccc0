noncomputable section
theorem fuE : fu = 400 := rfl
/-- what bout i adds for fencer f of pool j, column w -/
def ct (M : St) (j : Nat) (f w : Int32) (i : Nat) : Int32 :=
  if x_X8_sideIn (nI i) (nI j) f M = -1 then 0 else if w = 0 then 1 else if w = 1 then (if gV M 25 0 i = x_X8_sideIn (nI i) (nI j) f M then 1 else 0)
  else if w = 2 then gV M 21 0 (2 * nI i + x_X8_sideIn (nI i) (nI j) f M : Int32).toNatClampNeg else gV M 21 0 (2 * nI i + (1 - x_X8_sideIn (nI i) (nI j) f M) : Int32).toNatClampNeg
def TS (M : St) (j : Nat) (f w : Int32) : Nat → Nat → Int32
  | _, 0 => 0
  | i, r + 1 => ct M j f w i + TS M j f w (i + 1) r
/-- the hall's counts -/
def qA (C M : St) (nb np : Nat) : Prop :=
  gV C 7 0 5 = gV M 8 0 0 ∧ (∃ nf : Nat, nf ≤ 12 ∧ gV M 8 0 0 = nI nf) ∧ nb ≤ 80 ∧ gV C 7 0 6 = nI nb ∧ gV M 8 0 3 = nI nb ∧ np ≤ 6 ∧ gV C 7 0 7 = nI np ∧ gV M 8 0 23 = nI np ∧
  gV C 7 0 9 = gV M 8 0 2 ∧ gL C 3 0 = gL M 8 1 ∧ 0 ≤ (gL M 8 1).toInt ∧ (gL M 8 1).toInt < 2147483648 ∧ (∀ i, i < nb → gR C 9 i = some i) ∧ (∀ j, j < np → gR C 10 j = some j)
/-- bout i -/
def qB (C M : St) (np i : Nat) : Prop :=
  gV C 2 (2 * i) 0 = gV M 20 0 (2 * i) ∧ gV C 2 (2 * i + 1) 0 = gV M 20 0 (2 * i + 1) ∧
  (∃ a : Nat, a < 12 ∧ gV M 20 0 (2 * i) = nI a) ∧ (∃ a : Nat, a < 12 ∧ gV M 20 0 (2 * i + 1) = nI a) ∧ gV M 20 0 (2 * i) ≠ gV M 20 0 (2 * i + 1) ∧
  gV C 2 (2 * i) 1 = gV M 21 0 (2 * i) ∧ gV C 2 (2 * i + 1) 1 = gV M 21 0 (2 * i + 1) ∧
  (∃ a : Nat, a ≤ 45 ∧ gV M 21 0 (2 * i) = nI a) ∧ (∃ a : Nat, a ≤ 45 ∧ gV M 21 0 (2 * i + 1) = nI a) ∧
  gV C 0 i 2 = gV M 22 0 i ∧ gV C 0 i 3 = gV M 23 0 i ∧ (∃ a : Nat, a ≤ 45 ∧ gV M 23 0 i = nI a) ∧
  gV C 0 i 4 = gV M 24 0 i ∧ (gV M 24 0 i = -1 ∨ ∃ j : Nat, j < np ∧ gV M 24 0 i = nI j) ∧
  gV C 0 i 5 = gV M 25 0 i ∧ (gV M 25 0 i = -1 ∨ gV M 25 0 i = 0 ∨ gV M 25 0 i = 1) ∧
  gV C 0 i 6 = gV M 28 0 i ∧ gV C 0 i 7 = gV M 26 0 i ∧ gV C 0 i 9 = gV M 27 0 i
/-- a bout that has not begun -/
def qZ (M : St) (i : Nat) : Prop := gV M 21 0 (2 * i) = 0 ∧ gV M 21 0 (2 * i + 1) = 0 ∧ gV M 26 0 i = 0 ∧ gV M 27 0 i = 0
/-- side s of the bout on the piste: its cards -/
def qC (C M : St) (n b s : Nat) : Prop :=
  (∃ a : Nat, a ≤ n ∧ gV M 29 0 s = nI a) ∧ (gV C 2 (2 * b + s) 2 = 0 ↔ gV M 29 0 s = 0) ∧ gV C 2 (2 * b + s) 3 = gV M 30 0 s ∧ (gV M 30 0 s = 0 ∨ gV M 30 0 s = 1)
/-- the clock of the bout on the piste -/
def qT (C M : St) (b : Nat) : Prop :=
  gV C 0 b 8 = gV M 8 0 14 ∧ (∃ a : Nat, a < 60 ∧ gV M 8 0 14 = nI a) ∧ (∃ a : Nat, a ≤ 2 ∧ gV M 27 0 b = nI a) ∧
  (∃ a : Nat, gV M 26 0 b = nI a ∧ ((gV M 28 0 b = -1 ∧ a < 180) ∨ ((gV M 28 0 b = 0 ∨ gV M 28 0 b = 1) ∧ 180 ≤ a ∧ a < 240))) ∧
  gV M 21 0 (2 * b) < gV M 23 0 b ∧ gV M 21 0 (2 * b + 1) < gV M 23 0 b
/-- the bout on the piste: nobody in it has left its pool -/
def qG (M : St) (np b : Nat) : Prop := ∀ j, j < np → gV M 24 0 b = nI j → x_X8_has (gV M 37 0 j) (gV M 20 0 (2 * b)) M = 0 ∧ x_X8_has (gV M 37 0 j) (gV M 20 0 (2 * b + 1)) M = 0
/-- the piste -/
def qP (C M : St) (n nb np : Nat) : Prop :=
  (∀ i, i < nb → (gV M 25 0 i = -1 ↔ gR C 7 8 = some i)) ∧
  ((gR C 7 8 = none ∧ gV M 8 0 4 = -1 ∧ gV M 8 0 17 = 0) ∨ ∃ b : Nat, b < nb ∧ gR C 7 8 = some b ∧ gV M 8 0 4 = nI b ∧ qC C M n b 0 ∧ qC C M n b 1 ∧ qT C M b ∧ qG M np b)
/-- entry k of the phrase -/
def qE (C M : St) (k : Nat) : Prop :=
  gV C 11 0 k = gV M 31 0 k ∧ (gV M 31 0 k = 0 ∨ gV M 31 0 k = 1) ∧ gV C 13 0 k = gV M 33 0 k ∧ (∃ a : Nat, a ≤ 1000000 ∧ gV M 33 0 k = nI a) ∧
  ((gV C 12 0 k = -1 ∧ gV M 32 0 k = 7 ∧ gV C 14 0 k = gV M 34 0 k ∧ gV C 15 0 k = gV M 35 0 k) ∨ (gV C 12 0 k = gV M 32 0 k ∧ ∃ a : Nat, a ≤ 6 ∧ gV M 32 0 k = nI a))
def qF (C M : St) : Prop := ∃ c : Nat, c ≤ 24 ∧ gV C 4 0 6 = nI c ∧ gV M 8 0 17 = nI c ∧ ∀ k, k < c → qE C M k
/-- pool j -/
def qO (C M : St) (nb j : Nat) : Prop :=
  gV C 5 j 0 = nI j ∧ gV C 5 j 1 = gV M 36 0 j ∧ (∃ a nf : Nat, nf ≤ 12 ∧ gV M 8 0 0 = nI nf ∧ a < 2 ^ nf ∧ gV M 36 0 j = nI a) ∧ gV C 5 j 4 = gV M 37 0 j ∧ (∃ a : Nat, a < 4096 ∧ gV M 37 0 j = nI a) ∧
  (∀ f w : Nat, f < 12 → w < 4 → gV C 18 j (4 * f + w) = TS M j (nI f) (nI w) 0 nb)
/-- the bracket, of R rounds -/
def qK (C M : St) : Prop :=
  ∃ R P : Nat, ((R = 0 ∧ P = 0) ∨ (1 ≤ R ∧ R ≤ 4 ∧ P = 2 ^ R)) ∧ gV C 1 0 2 = nI P ∧ gV M 8 0 27 = nI P ∧
  ∀ r m, r < R → m < P / 2 ^ (r + 1) → gV C 16 0 (P / 2 ^ (r + 1) + m) = gV M 40 0 (16 * r + m) ∧ gV C 16 0 (2 * (P / 2 ^ (r + 1) + m)) = gV M 39 0 (32 * r + 2 * m) ∧ gV C 16 0 (2 * (P / 2 ^ (r + 1) + m) + 1) = gV M 39 0 (32 * r + 2 * m + 1)
def I2 (n nb np : Nat) (C M : St) : Prop :=
  qA C M nb np ∧ (∀ i, i < nb → qB C M np i) ∧ (∀ i, nb ≤ i → qZ M i) ∧ qP C M n nb np ∧ qF C M ∧ (∀ j, j < np → qO C M nb j) ∧ (∀ j, np ≤ j → gV M 37 0 j = 0) ∧ qK C M
theorem has_m (x y : Int32) (M M' : St) : x_X8_has x y M' = x_X8_has x y M := rfl
theorem sideIn_m {M M' : St} (h : AgM M M') (i j f : Int32) : x_X8_sideIn i j f M' = x_X8_sideIn i j f M := by
  unfold x_X8_sideIn
  rw [h.1 24 _ _ (by decide), h.1 25 _ _ (by decide), h.1 20 _ _ (by decide), h.1 20 _ _ (by decide), h.1 37 _ _ (by decide)]
  rfl
theorem ct_m {M M' : St} (h : AgM M M') (j : Nat) (f w : Int32) (i : Nat) : ct M' j f w i = ct M j f w i := by
  unfold ct
  rw [sideIn_m h, h.1 25 _ _ (by decide), h.1 21 _ _ (by decide), h.1 21 _ _ (by decide)]
theorem TS_m {M M' : St} (h : AgM M M') (j : Nat) (f w : Int32) : ∀ r i : Nat, TS M' j f w i r = TS M j f w i r
  | 0, i => rfl
  | r + 1, i => by unfold TS; rw [ct_m h, TS_m h j f w r (i + 1)]
theorem qA_m {M M' : St} (h : AgM M M') (C : St) (nb np : Nat) (hI : qA C M nb np) : qA C M' nb np := by
  have e := h.1; have e1 := h.2
  unfold qA at hI ⊢; simp (disch := decide) only [e, e1]; exact hI
theorem qB_m {M M' : St} (h : AgM M M') (C : St) (np i : Nat) (hI : qB C M np i) : qB C M' np i := by
  have e := h.1
  unfold qB at hI ⊢; simp (disch := decide) only [e]; exact hI
theorem qZ_m {M M' : St} (h : AgM M M') (i : Nat) (hI : qZ M i) : qZ M' i := by
  have e := h.1
  unfold qZ at hI ⊢; simp (disch := decide) only [e]; exact hI
theorem qC_m {M M' : St} (h : AgM M M') (C : St) (n b s : Nat) (hI : qC C M n b s) : qC C M' n b s := by
  have e := h.1
  unfold qC at hI ⊢; simp (disch := decide) only [e]; exact hI
theorem qT_m {M M' : St} (h : AgM M M') (C : St) (b : Nat) (hI : qT C M b) : qT C M' b := by
  have e := h.1
  unfold qT at hI ⊢; simp (disch := decide) only [e]; exact hI
theorem qG_m {M M' : St} (h : AgM M M') (np b : Nat) (hI : qG M np b) : qG M' np b := by
  have e := h.1
  unfold qG x_X8_has at hI ⊢; simp (disch := decide) only [e]; exact hI
theorem qP_m {M M' : St} (h : AgM M M') (C : St) (n nb np : Nat) (hI : qP C M n nb np) : qP C M' n nb np := by
  have e := h.1
  obtain ⟨h1, h2⟩ := hI
  refine ⟨fun i hi => by simp (disch := decide) only [e]; exact h1 i hi, ?_⟩
  rcases h2 with ⟨g1, g2, g3⟩ | ⟨b, g1, g2, g3, g4, g5, g6, g7⟩
  · exact Or.inl ⟨g1, by simp (disch := decide) only [e]; exact g2, by simp (disch := decide) only [e]; exact g3⟩
  · exact Or.inr ⟨b, g1, g2, by simp (disch := decide) only [e]; exact g3, qC_m h C n b 0 g4, qC_m h C n b 1 g5, qT_m h C b g6, qG_m h np b g7⟩
theorem qF_m {M M' : St} (h : AgM M M') (C : St) (hI : qF C M) : qF C M' := by
  have e := h.1
  unfold qF qE at hI ⊢; simp (disch := decide) only [e]; exact hI
theorem qO_m {M M' : St} (h : AgM M M') (C : St) (nb j : Nat) (hI : qO C M nb j) : qO C M' nb j := by
  have e := h.1
  have eT : ∀ (j : Nat) (f w : Int32) (i r : Nat), TS M' j f w i r = TS M j f w i r := fun j f w i r => TS_m h j f w r i
  unfold qO at hI ⊢; simp (disch := decide) only [e, eT]; exact hI
theorem qK_m {M M' : St} (h : AgM M M') (C : St) (hI : qK C M) : qK C M' := by
  have e := h.1
  unfold qK at hI ⊢; simp (disch := decide) only [e]; exact hI
theorem I2_m {n nb np : Nat} {C M M' : St} (h : AgM M M') (hI : I2 n nb np C M) : I2 n nb np C M' := by
  obtain ⟨hA, hB, hZ, hP, hF, hO, hG, hK⟩ := hI
  refine ⟨qA_m h C nb np hA, fun i hi => qB_m h C np i (hB i hi), fun i hi => qZ_m h i (hZ i hi), qP_m h C n nb np hP, qF_m h C hF, fun j hj => qO_m h C nb j (hO j hj), fun j hj => ?_, qK_m h C hK⟩
  rw [h.1 37 0 j (by decide)]; exact hG j hj
theorem I2_c {n nb np : Nat} {C C' M : St} (e : ∀ c n k, (c ≠ 8 ∧ c < 20) → gV C' c n k = gV C c n k) (e1 : gL C' 3 0 = gL C 3 0) (e2 : ∀ c k, gR C' c k = gR C c k) (hI : I2 n nb np C M) : I2 n nb np C' M := by
  unfold I2 qA qB qZ qP qC qT qG qF qE qO qK at hI ⊢
  simp (disch := decide) only [e, e1, e2]
  exact hI
theorem I2_c' {n nb np : Nat} {C C' M : St} (h : AgC C C') (hI : I2 n nb np C M) : I2 n nb np C' M := I2_c h.1 h.2.1 h.2.2.1 hI
def Inv (n nb np : Nat) (γ : St) : Prop := I2 n nb np γ γ
theorem Inv_mono (n nb np : Nat) (γ : St) (h : Inv n nb np γ) : Inv (n + 1) nb np γ := by
  obtain ⟨hA, hB, hZ, ⟨hP1, hP2⟩, hr⟩ := h
  refine ⟨hA, hB, hZ, ⟨hP1, ?_⟩, hr⟩
  rcases hP2 with h0 | ⟨b, h1, h2, h3, ⟨⟨a, ha, ha'⟩, hc⟩, ⟨⟨a2, hb, hb'⟩, hc2⟩, hr⟩
  · exact Or.inl h0
  · exact Or.inr ⟨b, h1, h2, h3, ⟨⟨a, by omega, ha'⟩, hc⟩, ⟨⟨a2, by omega, hb'⟩, hc2⟩, hr⟩
theorem Inv_0 : Inv 0 0 0 γS := by
  refine ⟨⟨?_, ⟨0, ?_, ?_⟩, ?_, ?_, ?_, ?_, ?_, ?_, ?_, ?_, ?_, ?_, ?_, ?_⟩, fun i h => absurd h (Nat.not_lt_zero i), fun i _ => ⟨?_, ?_, ?_, ?_⟩, ⟨fun i h => absurd h (Nat.not_lt_zero i), Or.inl ⟨?_, ?_, ?_⟩⟩, ⟨0, ?_, ?_, ?_, fun k h => absurd h (Nat.not_lt_zero k)⟩, fun j h => absurd h (Nat.not_lt_zero j), fun j _ => ?_, ⟨0, 0, Or.inl ⟨rfl, rfl⟩, ?_, ?_, fun r m h => absurd h (Nat.not_lt_zero r)⟩⟩
  all_goals first | (rw [γS_V]; decide) | decide | (rw [γS_V, γS_V]; decide) | (rw [γS_V, if_neg (by omega)]) | (intro i h; exact absurd h (Nat.not_lt_zero i))
/-- keys that p names are as they were -/
def Ag (p : Nat → Nat → Bool) (γ γ' : St) : Prop := ∀ c n k, p c k = true → gV γ' c n k = gV γ c n k
theorem Ag.rf (p : Nat → Nat → Bool) (γ : St) : Ag p γ γ := fun _ _ _ _ => rfl
theorem Ag_sV {p : Nat → Nat → Bool} {γ0 γ : St} (c n k : Nat) (v : Int32) (hc : p c k = false) (h : Ag p γ0 γ) : Ag p γ0 (sV γ c n k v) := by
  intro c' n' k' h'
  rw [gV_sV, if_neg]
  · exact h c' n' k' h'
  · rintro ⟨rfl, rfl, -⟩; rw [hc] at h'; exact absurd h' (by decide)
theorem Ag_sR {p : Nat → Nat → Bool} {γ0 γ : St} (c k : Nat) (v : Option Nat) (h : Ag p γ0 γ) : Ag p γ0 (sR γ c k v) := h
theorem Ag_sL {p : Nat → Nat → Bool} {γ0 γ : St} (c k : Nat) (v : Int64) (h : Ag p γ0 γ) : Ag p γ0 (sL γ c k v) := h
theorem Ag_tr {p : Nat → Nat → Bool} {a b c : St} (h : Ag p a b) (h' : Ag p b c) : Ag p a c := fun x n k hp => (h' x n k hp).trans (h x n k hp)
theorem Ag_of {p : Nat → Nat → Bool} {M M' : St} (h : AgM M M') (hp : ∀ c k, p c k = true → (c = 8 ∨ 20 ≤ c)) : Ag p M M' := fun c n k hc => h.1 c n k (hp c k hc)
theorem qB_t {p q : Nat → Nat → Bool} {C C' M M' : St} (hC : Ag p C C') (hM : Ag q M M') (hp : p 2 0 = true ∧ p 2 1 = true ∧ p 0 2 = true ∧ p 0 3 = true ∧ p 0 4 = true ∧ p 0 5 = true ∧ p 0 6 = true ∧ p 0 7 = true ∧ p 0 9 = true ∧ (∀ k, q 20 k = true) ∧ (∀ k, q 21 k = true) ∧ (∀ k, q 22 k = true) ∧ (∀ k, q 23 k = true) ∧ (∀ k, q 24 k = true) ∧ (∀ k, q 25 k = true) ∧ (∀ k, q 26 k = true) ∧ (∀ k, q 27 k = true) ∧ (∀ k, q 28 k = true)) (np i : Nat) (h : qB C M np i) : qB C' M' np i := by
  obtain ⟨g0, g1, g2, g3, g4, g5, g6, g7, g8, g9, g10, g11, g12, g13, g14, g15, g16, g17⟩ := hp
  have e0 : ∀ n, gV C' 2 n 0 = gV C 2 n 0 := fun n => hC 2 n 0 g0
  have e1 : ∀ n, gV C' 2 n 1 = gV C 2 n 1 := fun n => hC 2 n 1 g1
  have e2 : ∀ n, gV C' 0 n 2 = gV C 0 n 2 := fun n => hC 0 n 2 g2
  have e3 : ∀ n, gV C' 0 n 3 = gV C 0 n 3 := fun n => hC 0 n 3 g3
  have e4 : ∀ n, gV C' 0 n 4 = gV C 0 n 4 := fun n => hC 0 n 4 g4
  have e5 : ∀ n, gV C' 0 n 5 = gV C 0 n 5 := fun n => hC 0 n 5 g5
  have e6 : ∀ n, gV C' 0 n 6 = gV C 0 n 6 := fun n => hC 0 n 6 g6
  have e7 : ∀ n, gV C' 0 n 7 = gV C 0 n 7 := fun n => hC 0 n 7 g7
  have e8 : ∀ n, gV C' 0 n 9 = gV C 0 n 9 := fun n => hC 0 n 9 g8
  have e9 : ∀ n k, gV M' 20 n k = gV M 20 n k := fun n k => hM 20 n k (g9 k)
  have e10 : ∀ n k, gV M' 21 n k = gV M 21 n k := fun n k => hM 21 n k (g10 k)
  have e11 : ∀ n k, gV M' 22 n k = gV M 22 n k := fun n k => hM 22 n k (g11 k)
  have e12 : ∀ n k, gV M' 23 n k = gV M 23 n k := fun n k => hM 23 n k (g12 k)
  have e13 : ∀ n k, gV M' 24 n k = gV M 24 n k := fun n k => hM 24 n k (g13 k)
  have e14 : ∀ n k, gV M' 25 n k = gV M 25 n k := fun n k => hM 25 n k (g14 k)
  have e15 : ∀ n k, gV M' 26 n k = gV M 26 n k := fun n k => hM 26 n k (g15 k)
  have e16 : ∀ n k, gV M' 27 n k = gV M 27 n k := fun n k => hM 27 n k (g16 k)
  have e17 : ∀ n k, gV M' 28 n k = gV M 28 n k := fun n k => hM 28 n k (g17 k)
  unfold qB at h ⊢
  simp only [e0, e1, e2, e3, e4, e5, e6, e7, e8, e9, e10, e11, e12, e13, e14, e15, e16, e17]
  exact h
theorem qZ_t {p q : Nat → Nat → Bool} {C C' M M' : St} (hC : Ag p C C') (hM : Ag q M M') (hp : (∀ k, q 21 k = true) ∧ (∀ k, q 26 k = true) ∧ (∀ k, q 27 k = true)) (i : Nat) (h : qZ M i) : qZ M' i := by
  obtain ⟨g0, g1, g2⟩ := hp
  have e0 : ∀ n k, gV M' 21 n k = gV M 21 n k := fun n k => hM 21 n k (g0 k)
  have e1 : ∀ n k, gV M' 26 n k = gV M 26 n k := fun n k => hM 26 n k (g1 k)
  have e2 : ∀ n k, gV M' 27 n k = gV M 27 n k := fun n k => hM 27 n k (g2 k)
  unfold qZ at h ⊢
  simp only [e0, e1, e2]
  exact h
theorem qC_t {p q : Nat → Nat → Bool} {C C' M M' : St} (hC : Ag p C C') (hM : Ag q M M') (hp : p 2 2 = true ∧ p 2 3 = true ∧ (∀ k, q 29 k = true) ∧ (∀ k, q 30 k = true)) (n b s : Nat) (h : qC C M n b s) : qC C' M' n b s := by
  obtain ⟨g0, g1, g2, g3⟩ := hp
  have e0 : ∀ n, gV C' 2 n 2 = gV C 2 n 2 := fun n => hC 2 n 2 g0
  have e1 : ∀ n, gV C' 2 n 3 = gV C 2 n 3 := fun n => hC 2 n 3 g1
  have e2 : ∀ n k, gV M' 29 n k = gV M 29 n k := fun n k => hM 29 n k (g2 k)
  have e3 : ∀ n k, gV M' 30 n k = gV M 30 n k := fun n k => hM 30 n k (g3 k)
  unfold qC at h ⊢
  simp only [e0, e1, e2, e3]
  exact h
theorem qT_t {p q : Nat → Nat → Bool} {C C' M M' : St} (hC : Ag p C C') (hM : Ag q M M') (hp : p 0 8 = true ∧ q 8 14 = true ∧ (∀ k, q 21 k = true) ∧ (∀ k, q 23 k = true) ∧ (∀ k, q 26 k = true) ∧ (∀ k, q 27 k = true) ∧ (∀ k, q 28 k = true)) (b : Nat) (h : qT C M b) : qT C' M' b := by
  obtain ⟨g0, g1, g2, g3, g4, g5, g6⟩ := hp
  have e0 : ∀ n, gV C' 0 n 8 = gV C 0 n 8 := fun n => hC 0 n 8 g0
  have e1 : ∀ n, gV M' 8 n 14 = gV M 8 n 14 := fun n => hM 8 n 14 g1
  have e2 : ∀ n k, gV M' 21 n k = gV M 21 n k := fun n k => hM 21 n k (g2 k)
  have e3 : ∀ n k, gV M' 23 n k = gV M 23 n k := fun n k => hM 23 n k (g3 k)
  have e4 : ∀ n k, gV M' 26 n k = gV M 26 n k := fun n k => hM 26 n k (g4 k)
  have e5 : ∀ n k, gV M' 27 n k = gV M 27 n k := fun n k => hM 27 n k (g5 k)
  have e6 : ∀ n k, gV M' 28 n k = gV M 28 n k := fun n k => hM 28 n k (g6 k)
  unfold qT at h ⊢
  simp only [e0, e1, e2, e3, e4, e5, e6]
  exact h
theorem qG_t {p q : Nat → Nat → Bool} {C C' M M' : St} (hC : Ag p C C') (hM : Ag q M M') (hp : (∀ k, q 20 k = true) ∧ (∀ k, q 24 k = true) ∧ (∀ k, q 37 k = true)) (np b : Nat) (h : qG M np b) : qG M' np b := by
  obtain ⟨g0, g1, g2⟩ := hp
  have e0 : ∀ n k, gV M' 20 n k = gV M 20 n k := fun n k => hM 20 n k (g0 k)
  have e1 : ∀ n k, gV M' 24 n k = gV M 24 n k := fun n k => hM 24 n k (g1 k)
  have e2 : ∀ n k, gV M' 37 n k = gV M 37 n k := fun n k => hM 37 n k (g2 k)
  unfold qG x_X8_has at h ⊢
  simp only [e0, e1, e2]
  exact h
theorem qF_t {p q : Nat → Nat → Bool} {C C' M M' : St} (hC : Ag p C C') (hM : Ag q M M') (hp : p 4 6 = true ∧ (∀ k, p 11 k = true) ∧ (∀ k, p 12 k = true) ∧ (∀ k, p 13 k = true) ∧ (∀ k, p 14 k = true) ∧ (∀ k, p 15 k = true) ∧ q 8 17 = true ∧ (∀ k, q 31 k = true) ∧ (∀ k, q 32 k = true) ∧ (∀ k, q 33 k = true) ∧ (∀ k, q 34 k = true) ∧ (∀ k, q 35 k = true))  (h : qF C M) : qF C' M' := by
  obtain ⟨g0, g1, g2, g3, g4, g5, g6, g7, g8, g9, g10, g11⟩ := hp
  have e0 : ∀ n, gV C' 4 n 6 = gV C 4 n 6 := fun n => hC 4 n 6 g0
  have e1 : ∀ n k, gV C' 11 n k = gV C 11 n k := fun n k => hC 11 n k (g1 k)
  have e2 : ∀ n k, gV C' 12 n k = gV C 12 n k := fun n k => hC 12 n k (g2 k)
  have e3 : ∀ n k, gV C' 13 n k = gV C 13 n k := fun n k => hC 13 n k (g3 k)
  have e4 : ∀ n k, gV C' 14 n k = gV C 14 n k := fun n k => hC 14 n k (g4 k)
  have e5 : ∀ n k, gV C' 15 n k = gV C 15 n k := fun n k => hC 15 n k (g5 k)
  have e6 : ∀ n, gV M' 8 n 17 = gV M 8 n 17 := fun n => hM 8 n 17 g6
  have e7 : ∀ n k, gV M' 31 n k = gV M 31 n k := fun n k => hM 31 n k (g7 k)
  have e8 : ∀ n k, gV M' 32 n k = gV M 32 n k := fun n k => hM 32 n k (g8 k)
  have e9 : ∀ n k, gV M' 33 n k = gV M 33 n k := fun n k => hM 33 n k (g9 k)
  have e10 : ∀ n k, gV M' 34 n k = gV M 34 n k := fun n k => hM 34 n k (g10 k)
  have e11 : ∀ n k, gV M' 35 n k = gV M 35 n k := fun n k => hM 35 n k (g11 k)
  unfold qF qE at h ⊢
  simp only [e0, e1, e2, e3, e4, e5, e6, e7, e8, e9, e10, e11]
  exact h
theorem qK_t {p q : Nat → Nat → Bool} {C C' M M' : St} (hC : Ag p C C') (hM : Ag q M M') (hp : p 1 2 = true ∧ (∀ k, p 16 k = true) ∧ q 8 27 = true ∧ (∀ k, q 39 k = true) ∧ (∀ k, q 40 k = true))  (h : qK C M) : qK C' M' := by
  obtain ⟨g0, g1, g2, g3, g4⟩ := hp
  have e0 : ∀ n, gV C' 1 n 2 = gV C 1 n 2 := fun n => hC 1 n 2 g0
  have e1 : ∀ n k, gV C' 16 n k = gV C 16 n k := fun n k => hC 16 n k (g1 k)
  have e2 : ∀ n, gV M' 8 n 27 = gV M 8 n 27 := fun n => hM 8 n 27 g2
  have e3 : ∀ n k, gV M' 39 n k = gV M 39 n k := fun n k => hM 39 n k (g3 k)
  have e4 : ∀ n k, gV M' 40 n k = gV M 40 n k := fun n k => hM 40 n k (g4 k)
  unfold qK at h ⊢
  simp only [e0, e1, e2, e3, e4]
  exact h
theorem ct_t {q : Nat → Nat → Bool} {M M' : St} (hM : Ag q M M') (hp : (∀ k, q 20 k = true) ∧ (∀ k, q 21 k = true) ∧ (∀ k, q 24 k = true) ∧ (∀ k, q 25 k = true) ∧ (∀ k, q 37 k = true)) (j : Nat) (f w : Int32) (i : Nat) : ct M' j f w i = ct M j f w i := by
  have hs : ∀ a b c : Int32, x_X8_sideIn a b c M' = x_X8_sideIn a b c M := by
    intro a b c
    unfold x_X8_sideIn
    rw [hM 24 _ _ (hp.2.2.1 _), hM 25 _ _ (hp.2.2.2.1 _), hM 20 _ _ (hp.1 _), hM 20 _ _ (hp.1 _), hM 37 _ _ (hp.2.2.2.2 _)]
    rfl
  unfold ct
  rw [hs, hM 25 _ _ (hp.2.2.2.1 _), hM 21 _ _ (hp.2.1 _), hM 21 _ _ (hp.2.1 _)]
theorem TS_t {q : Nat → Nat → Bool} {M M' : St} (hM : Ag q M M') (hp : (∀ k, q 20 k = true) ∧ (∀ k, q 21 k = true) ∧ (∀ k, q 24 k = true) ∧ (∀ k, q 25 k = true) ∧ (∀ k, q 37 k = true)) (j : Nat) (f w : Int32) : ∀ r i : Nat, TS M' j f w i r = TS M j f w i r
  | 0, i => rfl
  | r + 1, i => by unfold TS; rw [ct_t hM hp, TS_t hM hp j f w r (i + 1)]
/-- pool j, where no bout changed -/
theorem qO_t {p q : Nat → Nat → Bool} {C C' M M' : St} (hC : Ag p C C') (hM : Ag q M M') (hp : (p 5 0 = true ∧ p 5 1 = true ∧ p 5 4 = true ∧ (∀ k, p 18 k = true)) ∧ (q 8 0 = true ∧ (∀ k, q 36 k = true)) ∧ (∀ k, q 20 k = true) ∧ (∀ k, q 21 k = true) ∧ (∀ k, q 24 k = true) ∧ (∀ k, q 25 k = true) ∧ (∀ k, q 37 k = true)) (nb j : Nat) (h : qO C M nb j) : qO C' M' nb j := by
  obtain ⟨⟨a1, a2, a3, a4⟩, ⟨b1, b2⟩, hp⟩ := hp
  have eT : ∀ (j : Nat) (f w : Int32) (i r : Nat), TS M' j f w i r = TS M j f w i r := fun j f w i r => TS_t hM hp j f w r i
  have e1 : ∀ n, gV C' 5 n 0 = gV C 5 n 0 := fun n => hC 5 n 0 a1
  have e2 : ∀ n, gV C' 5 n 1 = gV C 5 n 1 := fun n => hC 5 n 1 a2
  have e3 : ∀ n, gV C' 5 n 4 = gV C 5 n 4 := fun n => hC 5 n 4 a3
  have e4 : ∀ n k, gV C' 18 n k = gV C 18 n k := fun n k => hC 18 n k (a4 k)
  have e5 : ∀ n, gV M' 8 n 0 = gV M 8 n 0 := fun n => hM 8 n 0 b1
  have e6 : ∀ n k, gV M' 36 n k = gV M 36 n k := fun n k => hM 36 n k (b2 k)
  have e7 : ∀ n k, gV M' 37 n k = gV M 37 n k := fun n k => hM 37 n k (hp.2.2.2.2 k)
  unfold qO at h ⊢
  simp only [e1, e2, e3, e4, e5, e6, e7, eT]
  exact h
/-- the piste, where nothing on it changed -/
theorem qP_t {p q : Nat → Nat → Bool} {C C' M M' : St} (hC : Ag p C C') (hM : Ag q M M') (hR : gR C' 7 8 = gR C 7 8) (hp : (p 2 2 = true ∧ p 2 3 = true ∧ p 0 8 = true ∧ q 8 14 = true ∧ q 8 4 = true ∧ q 8 17 = true) ∧ (∀ k, q 20 k = true) ∧ (∀ k, q 21 k = true) ∧ (∀ k, q 23 k = true) ∧ (∀ k, q 24 k = true) ∧ (∀ k, q 25 k = true) ∧ (∀ k, q 26 k = true) ∧ (∀ k, q 27 k = true) ∧ (∀ k, q 28 k = true) ∧ (∀ k, q 29 k = true) ∧ (∀ k, q 30 k = true) ∧ (∀ k, q 37 k = true)) (n nb np : Nat) (h : qP C M n nb np) : qP C' M' n nb np := by
  obtain ⟨⟨a1, a2, a3, a4, a5, a6⟩, b20, b21, b23, b24, b25, b26, b27, b28, b29, b30, b37⟩ := hp
  obtain ⟨h1, h2⟩ := h
  refine ⟨fun i hi => by rw [hM 25 0 i (b25 i), hR]; exact h1 i hi, ?_⟩
  rw [hR, hM 8 0 4 a5, hM 8 0 17 a6]
  rcases h2 with h0 | ⟨b, g1, g2, g3, g4, g5, g6, g7⟩
  · exact Or.inl h0
  · exact Or.inr ⟨b, g1, g2, g3, qC_t hC hM ⟨a1, a2, b29, b30⟩ n b 0 g4, qC_t hC hM ⟨a1, a2, b29, b30⟩ n b 1 g5, qT_t hC hM ⟨a3, a4, b21, b23, b26, b27, b28⟩ b g6, qG_t hC hM ⟨b20, b24, b37⟩ np b g7⟩
theorem qP_up {C M : St} {n nb np : Nat} (h : qP C M n nb np) : qP C M (n + 1) nb np := by
  obtain ⟨hP1, hP2⟩ := h
  refine ⟨hP1, ?_⟩
  rcases hP2 with h0 | ⟨b, h1, h2, h3, ⟨⟨a, ha, ha'⟩, hc⟩, ⟨⟨a2, hb, hb'⟩, hc2⟩, hr⟩
  · exact Or.inl h0
  · exact Or.inr ⟨b, h1, h2, h3, ⟨⟨a, by omega, ha'⟩, hc⟩, ⟨⟨a2, by omega, hb'⟩, hc2⟩, hr⟩
theorem I2_up {C M : St} {n nb np : Nat} (h : I2 n nb np C M) : I2 (n + 1) nb np C M := ⟨h.1, h.2.1, h.2.2.1, qP_up h.2.2.2.1, h.2.2.2.2⟩
theorem I2_M {n nb np : Nat} {C M M' : St} (h : ∀ c n k, (c = 8 ∧ k ≠ 31 ∧ k ≠ 30) ∨ (20 ≤ c ∧ c ≠ 38) → gV M' c n k = gV M c n k) (hl : gL M' 8 1 = gL M 8 1) (hI : I2 n nb np C M) : I2 n nb np C M' := by
  obtain ⟨hA, hB, hZ, hP, hF, hO, hG, hK⟩ := hI
  have hM : Ag (fun c k => (c == 8 && (k != 31 && k != 30)) || (decide (20 ≤ c) && c != 38)) M M' := fun c n k hp => h c n k (by simpa using hp)
  have hC : Ag (fun _ _ => true) C C := Ag.rf _ C
  refine ⟨?_, fun i hi => qB_t hC hM (by simp) np i (hB i hi), fun i hi => qZ_t hC hM (by simp) i (hZ i hi), qP_t hC hM rfl (by simp) n nb np hP, qF_t hC hM (by simp) hF, fun j hj => qO_t hC hM (by simp) nb j (hO j hj), fun j hj => ?_, qK_t hC hM (by simp) hK⟩
  · unfold qA at hA ⊢
    rw [hl, h 8 0 0 (by decide), h 8 0 3 (by decide), h 8 0 23 (by decide), h 8 0 2 (by decide)]
    exact hA
  · rw [h 37 0 j (Or.inr ⟨by decide, by decide⟩)]; exact hG j hj
theorem I2_th {n nb np : Nat} {C M : St} (v : Int32) (hI : I2 n nb np C M) : I2 n nb np C (sV M 8 0 31 v) := by
  refine I2_M (M := M) (fun c n k h => ?_) rfl hI
  rw [gV_sV, if_neg]
  rintro ⟨rfl, rfl, -⟩
  rcases h with ⟨-, h, -⟩ | ⟨h, -⟩
  · exact h rfl
  · exact absurd h (by decide)
def CR_fencer : Prop := ∀ (n nb np : Nat) (C M : St), n < 512 → I2 n nb np C M → eIn 1 0 0 (x_X7_fencer C).1 ∧ x_X8_thrown ((x_X8_fencer M).2) = wK 1 0 0 (x_X7_fencer C).1 ∧ ((x_X7_fencer C).1 = 0 → (x_X7_fencer C).2.1 = (x_X8_fencer M).1) ∧ I2 (n + 1) nb np (x_X7_fencer C).2.2 (x_X8_fencer M).2
def CR_begin : Prop := ∀ (n nb np : Nat) (C M : St) (a1 : Int32) (a2 : Int32) (a3 : Int32) (a4 : Int32) (a5 : Int32), n < 512 → I2 n nb np C M → ok_X7_begin a1 a2 a3 a4 a5 C ∧ eIn 3 2 1 (x_X7_begin a1 a2 a3 a4 a5 C).1 ∧ ok_X8_begin a1 a2 a3 a4 a5 M ∧ x_X8_thrown ((x_X8_begin a1 a2 a3 a4 a5 M).2) = wK 3 2 1 (x_X7_begin a1 a2 a3 a4 a5 C).1 ∧ ((x_X7_begin a1 a2 a3 a4 a5 C).1 = 0 → (x_X7_begin a1 a2 a3 a4 a5 C).2.1 = (x_X8_begin a1 a2 a3 a4 a5 M).1) ∧ nb = (gV C 7 0 6).toNatClampNeg ∧ I2 (n + 1) (if (x_X7_begin a1 a2 a3 a4 a5 C).1 = 0 then nb + 1 else nb) np (x_X7_begin a1 a2 a3 a4 a5 C).2.2 (x_X8_begin a1 a2 a3 a4 a5 M).2
def CR_act : Prop := ∀ (n nb np : Nat) (C M : St) (a1 : Int32) (a2 : Int32) (a3 : Int32), n < 512 → I2 n nb np C M → ok_X7_act a1 a2 a3 C ∧ eIn 2 1 0 (x_X7_act a1 a2 a3 C).1 ∧ ok_X8_act a1 a2 a3 M ∧ x_X8_thrown ((x_X8_act a1 a2 a3 M).2) = wK 2 1 0 (x_X7_act a1 a2 a3 C).1 ∧ ((x_X7_act a1 a2 a3 C).1 = 0 → (x_X7_act a1 a2 a3 C).2.1 = (x_X8_act a1 a2 a3 M).1) ∧ I2 (n + 1) nb np (x_X7_act a1 a2 a3 C).2.2 (x_X8_act a1 a2 a3 M).2
def CR_hit : Prop := ∀ (n nb np : Nat) (C M : St) (a1 : Int32) (a2 : Int32) (a3 : Int32) (a4 : Int32), n < 512 → I2 n nb np C M → ok_X7_hit a1 a2 a3 a4 C ∧ eIn 2 1 0 (x_X7_hit a1 a2 a3 a4 C).1 ∧ ok_X8_hit a1 a2 a3 a4 M ∧ x_X8_thrown ((x_X8_hit a1 a2 a3 a4 M).2) = wK 2 1 0 (x_X7_hit a1 a2 a3 a4 C).1 ∧ ((x_X7_hit a1 a2 a3 a4 C).1 = 0 → (x_X7_hit a1 a2 a3 a4 C).2.1 = (x_X8_hit a1 a2 a3 a4 M).1) ∧ I2 (n + 1) nb np (x_X7_hit a1 a2 a3 a4 C).2.2 (x_X8_hit a1 a2 a3 a4 M).2
def CR_judge : Prop := ∀ (n nb np : Nat) (C M : St), n < 512 → I2 n nb np C M → ok_X7_judge C ∧ eIn 1 0 0 (x_X7_judge C).1 ∧ ok_X8_judge M ∧ x_X8_thrown ((x_X8_judge M).2) = wK 1 0 0 (x_X7_judge C).1 ∧ ((x_X7_judge C).1 = 0 → (x_X7_judge C).2.1 = (x_X8_judge M).1) ∧ I2 (n + 1) nb np (x_X7_judge C).2.2 (x_X8_judge M).2
def CR_card : Prop := ∀ (n nb np : Nat) (C M : St) (a1 : Int32) (a2 : Int32), n < 512 → I2 n nb np C M → ok_X7_card a1 a2 C ∧ eIn 2 1 0 (x_X7_card a1 a2 C).1 ∧ ok_X8_card a1 a2 M ∧ x_X8_thrown ((x_X8_card a1 a2 M).2) = wK 2 1 0 (x_X7_card a1 a2 C).1 ∧ ((x_X7_card a1 a2 C).1 = 0 → (x_X7_card a1 a2 C).2.1 = (x_X8_card a1 a2 M).1) ∧ I2 (n + 1) nb np (x_X7_card a1 a2 C).2.2 (x_X8_card a1 a2 M).2
def CR_clock : Prop := ∀ (n nb np : Nat) (C M : St) (a1 : Int32), n < 512 → I2 n nb np C M → ok_X7_clock a1 C ∧ eIn 2 1 0 (x_X7_clock a1 C).1 ∧ ok_X8_clock a1 M ∧ x_X8_thrown ((x_X8_clock a1 M).2) = wK 2 1 0 (x_X7_clock a1 C).1 ∧ ((x_X7_clock a1 C).1 = 0 → (x_X7_clock a1 C).2.1 = (x_X8_clock a1 M).1) ∧ I2 (n + 1) nb np (x_X7_clock a1 C).2.2 (x_X8_clock a1 M).2
def CR_end : Prop := ∀ (n nb np : Nat) (C M : St), n < 512 → I2 n nb np C M → ok_X7_end C ∧ eIn 1 0 0 (x_X7_end C).1 ∧ ok_X8_end M ∧ x_X8_thrown ((x_X8_end M).2) = wK 1 0 0 (x_X7_end C).1 ∧ ((x_X7_end C).1 = 0 → (x_X7_end C).2.1 = (x_X8_end M).1) ∧ I2 (n + 1) nb np (x_X7_end C).2.2 (x_X8_end M).2
def CR_seed : Prop := ∀ (n nb np : Nat) (C M : St) (a1 : Int32), n < 512 → I2 n nb np C M → eIn 0 1 0 (x_X7_seed a1 C).1 ∧ x_X8_thrown (x_X8_seed a1 M) = wK 0 1 0 (x_X7_seed a1 C).1 ∧ I2 (n + 1) nb np (x_X7_seed a1 C).2 (x_X8_seed a1 M)
def CR_pool : Prop := ∀ (n nb np : Nat) (C M : St) (a1 : Int32), n < 512 → I2 n nb np C M → ok_X7_pool a1 C ∧ eIn 2 1 0 (x_X7_pool a1 C).1 ∧ ok_X8_pool a1 M ∧ x_X8_thrown ((x_X8_pool a1 M).2) = wK 2 1 0 (x_X7_pool a1 C).1 ∧ ((x_X7_pool a1 C).1 = 0 → (x_X7_pool a1 C).2.1 = (x_X8_pool a1 M).1) ∧ np = (gV C 7 0 7).toNatClampNeg ∧ I2 (n + 1) nb (if (x_X7_pool a1 C).1 = 0 then np + 1 else np) (x_X7_pool a1 C).2.2 (x_X8_pool a1 M).2
def CR_withdraw : Prop := ∀ (n nb np : Nat) (C M : St) (a1 : Int32) (a2 : Int32), n < 512 → I2 n nb np C M → ok_X7_withdraw a1 a2 C ∧ eIn 2 0 1 (x_X7_withdraw a1 a2 C).1 ∧ ok_X8_withdraw a1 a2 M ∧ x_X8_thrown ((x_X8_withdraw a1 a2 M).2) = wK 2 0 1 (x_X7_withdraw a1 a2 C).1 ∧ ((x_X7_withdraw a1 a2 C).1 = 0 → (x_X7_withdraw a1 a2 C).2.1 = (x_X8_withdraw a1 a2 M).1) ∧ I2 (n + 1) nb np (x_X7_withdraw a1 a2 C).2.2 (x_X8_withdraw a1 a2 M).2
def CR_tableau : Prop := ∀ (n nb np : Nat) (C M : St) (a1 : Int32), n < 512 → I2 n nb np C M → ok_X7_tableau a1 C ∧ eIn 2 0 1 (x_X7_tableau a1 C).1 ∧ ok_X8_tableau a1 M ∧ x_X8_thrown ((x_X8_tableau a1 M).2) = wK 2 0 1 (x_X7_tableau a1 C).1 ∧ ((x_X7_tableau a1 C).1 = 0 → (x_X7_tableau a1 C).2.1 = (x_X8_tableau a1 M).1) ∧ I2 (n + 1) nb np (x_X7_tableau a1 C).2.2 (x_X8_tableau a1 M).2
def CR_wins : Prop := ∀ (n nb np : Nat) (C M : St) (a1 : Int32) (a2 : Int32) (a3 : Int32), n < 512 → I2 n nb np C M → ok_X7_wins a1 a2 a3 C ∧ eIn 3 2 1 (x_X7_wins a1 a2 a3 C).1 ∧ ok_X8_wins a1 a2 a3 M ∧ x_X8_thrown ((x_X8_wins a1 a2 a3 M).2) = wK 3 2 1 (x_X7_wins a1 a2 a3 C).1 ∧ ((x_X7_wins a1 a2 a3 C).1 = 0 → (x_X7_wins a1 a2 a3 C).2.1 = (x_X8_wins a1 a2 a3 M).1) ∧ I2 (n + 1) nb np (x_X7_wins a1 a2 a3 C).2.2 (x_X8_wins a1 a2 a3 M).2
def CR_lamp : Prop := ∀ (n nb np : Nat) (C M : St) (a1 : Int32), n < 512 → I2 n nb np C M → ok_X7_lamp a1 C ∧ eIn 0 1 0 (x_X7_lamp a1 C).1 ∧ ok_X8_lamp a1 M ∧ x_X8_thrown ((x_X8_lamp a1 M).2) = wK 0 1 0 (x_X7_lamp a1 C).1 ∧ ((x_X7_lamp a1 C).1 = 0 → (x_X7_lamp a1 C).2.1 = (x_X8_lamp a1 M).1) ∧ I2 (n + 1) nb np (x_X7_lamp a1 C).2.2 (x_X8_lamp a1 M).2
def CR_holder : Prop := ∀ (n nb np : Nat) (C M : St), n < 512 → I2 n nb np C M → ok_X7_holder C ∧ ok_X8_holder M ∧ (x_X7_holder C).1 = (x_X8_holder M).1 ∧ I2 (n + 1) nb np (x_X7_holder C).2 (x_X8_holder M).2
def CR_reason : Prop := ∀ (n nb np : Nat) (C M : St), n < 512 → I2 n nb np C M → x_X7_reason C = (x_X8_reason M).1 ∧ I2 (n + 1) nb np C (x_X8_reason M).2
def CR_ofBout : Prop := ∀ (n nb np : Nat) (C M : St) (a1 : Int32) (a2 : Int32), n < 512 → I2 n nb np C M → ok_X7_ofBout a1 a2 C ∧ eIn 0 2 1 (x_X7_ofBout a1 a2 C).1 ∧ ok_X8_ofBout a1 a2 M ∧ x_X8_thrown ((x_X8_ofBout a1 a2 M).2) = wK 0 2 1 (x_X7_ofBout a1 a2 C).1 ∧ ((x_X7_ofBout a1 a2 C).1 = 0 → (x_X7_ofBout a1 a2 C).2.1 = (x_X8_ofBout a1 a2 M).1) ∧ I2 (n + 1) nb np (x_X7_ofBout a1 a2 C).2.2 (x_X8_ofBout a1 a2 M).2
def CR_ofPool : Prop := ∀ (n nb np : Nat) (C M : St) (a1 : Int32) (a2 : Int32) (a3 : Int32), n < 512 → I2 n nb np C M → ok_X7_ofPool a1 a2 a3 C ∧ eIn 0 2 1 (x_X7_ofPool a1 a2 a3 C).1 ∧ ok_X8_ofPool a1 a2 a3 M ∧ x_X8_thrown ((x_X8_ofPool a1 a2 a3 M).2) = wK 0 2 1 (x_X7_ofPool a1 a2 a3 C).1 ∧ ((x_X7_ofPool a1 a2 a3 C).1 = 0 → (x_X7_ofPool a1 a2 a3 C).2.1 = (x_X8_ofPool a1 a2 a3 M).1) ∧ I2 (n + 1) nb np (x_X7_ofPool a1 a2 a3 C).2.2 (x_X8_ofPool a1 a2 a3 M).2
def CR_ofPoolAnew : Prop := ∀ (n nb np : Nat) (C M : St) (a1 : Int32) (a2 : Int32) (a3 : Int32), n < 512 → I2 n nb np C M → ok_X7_ofPoolAnew a1 a2 a3 C ∧ eIn 0 2 1 (x_X7_ofPoolAnew a1 a2 a3 C).1 ∧ ok_X8_ofPoolAnew a1 a2 a3 M ∧ x_X8_thrown ((x_X8_ofPoolAnew a1 a2 a3 M).2) = wK 0 2 1 (x_X7_ofPoolAnew a1 a2 a3 C).1 ∧ ((x_X7_ofPoolAnew a1 a2 a3 C).1 = 0 → (x_X7_ofPoolAnew a1 a2 a3 C).2.1 = (x_X8_ofPoolAnew a1 a2 a3 M).1) ∧ I2 (n + 1) nb np (x_X7_ofPoolAnew a1 a2 a3 C).2.2 (x_X8_ofPoolAnew a1 a2 a3 M).2
def CR_rank : Prop := ∀ (n nb np : Nat) (C M : St) (a1 : Int32) (a2 : Int32), n < 512 → I2 n nb np C M → ok_X7_rank a1 a2 C ∧ eIn 0 0 1 (x_X7_rank a1 a2 C).1 ∧ ok_X8_rank a1 a2 M ∧ x_X8_thrown ((x_X8_rank a1 a2 M).2) = wK 0 0 1 (x_X7_rank a1 a2 C).1 ∧ ((x_X7_rank a1 a2 C).1 = 0 → (x_X7_rank a1 a2 C).2.1 = (x_X8_rank a1 a2 M).1) ∧ I2 (n + 1) nb np (x_X7_rank a1 a2 C).2.2 (x_X8_rank a1 a2 M).2
def CR_meets : Prop := ∀ (n nb np : Nat) (C M : St) (a1 : Int32) (a2 : Int32) (a3 : Int32), n < 512 → I2 n nb np C M → ok_X7_meets a1 a2 a3 C ∧ eIn 0 2 1 (x_X7_meets a1 a2 a3 C).1 ∧ ok_X8_meets a1 a2 a3 M ∧ x_X8_thrown ((x_X8_meets a1 a2 a3 M).2) = wK 0 2 1 (x_X7_meets a1 a2 a3 C).1 ∧ ((x_X7_meets a1 a2 a3 C).1 = 0 → (x_X7_meets a1 a2 a3 C).2.1 = (x_X8_meets a1 a2 a3 M).1) ∧ I2 (n + 1) nb np (x_X7_meets a1 a2 a3 C).2.2 (x_X8_meets a1 a2 a3 M).2
theorem qE_th {C M : St} {v : Int32} {k : Nat} (h : qE C M k) : qE C (sV M 8 0 31 v) k := by
  unfold qE at h ⊢
  have e : ∀ c n j, ¬ (c = 8 ∧ j = 31) → gV (sV M 8 0 31 v) c n j = gV M c n j := fun c n j hc => gth rfl hc
  simp (disch := omega) only [e]
  exact h
theorem qT_th {C M : St} {v : Int32} {b : Nat} (h : qT C M b) : qT C (sV M 8 0 31 v) b := qT_t (p := fun _ _ => true) (q := fun c k => !(c == 8 && k == 31)) (Ag.rf _ C) (Ag_sV _ _ _ _ rfl (Ag.rf _ _)) (by simp) b h
theorem qC_th {C M : St} {v : Int32} {n b s : Nat} (h : qC C M n b s) : qC C (sV M 8 0 31 v) n b s := qC_t (p := fun _ _ => true) (q := fun c k => !(c == 8 && k == 31)) (Ag.rf _ C) (Ag_sV _ _ _ _ rfl (Ag.rf _ _)) (by simp) n b s h
end
