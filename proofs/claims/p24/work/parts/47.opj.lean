noncomputable section
def k27 : Nat → Nat → Bool := fun c k => !(c == 8 && k == 27)
def k39 : Nat → Nat → Bool := fun c _ => !(c == 39)
def k40 : Nat → Nat → Bool := fun c _ => !(c == 40)
def k3940 : Nat → Nat → Bool := fun c _ => !(c == 39 || c == 40)
theorem m60 {r t : Nat} (hr : r ≤ 12) (hT : TT r t) {M0 : St} : ∀ (k s : Nat) (X : St), t - s < k → s ≤ t → gV X 8 0 27 = nI (2 ^ (s + 1)) → Ag k27 M0 X → X.2 = M0.2 →
    ∃ X', x_X8_tableau_60 k (nI r) X = x_X8_tableau_83 fu (nI r) 0 X' ∧ (ok_X8_tableau_83 fu (nI r) 0 X' → ok_X8_tableau_60 k (nI r) X) ∧ gV X' 8 0 27 = nI (2 ^ (t + 1)) ∧ Ag k27 M0 X' ∧ X'.2 = M0.2
  | 0, s, _, h, _, _, _, _ => absurd h (Nat.not_lt_zero _)
  | k + 1, s, X, hk, hs, h1, hA, h2 => by
    obtain ⟨h4, h5, h6⟩ := id hT
    have p4 := pow4 (show s < 4 by omega)
    unfold x_X8_tableau_60 ok_X8_tableau_60
    rw [h1]
    by_cases c : s = t
    · subst c
      have hl := nI_le h5 (show 2 ^ (s + 1) < 2 ^ 31 by omega)
      rw [if_pos hl, if_pos hl]
      exact ⟨X, rfl, fun h => h, h1, hA, h2⟩
    · have hlt := h6 s (by omega)
      have hg := nI_ge hlt (show r < 2 ^ 31 by omega)
      have e2 : (2 : Int32) = nI 2 := by decide
      have hmul : nI (2 ^ (s + 1)) * 2 = nI (2 ^ (s + 1 + 1)) := by rw [e2, pk_mul, Nat.pow_succ 2 (s + 1)]
      rw [if_neg hg, if_neg hg, hmul]
      exact m60 hr hT k (s + 1) (sV X 8 0 27 (nI (2 ^ (s + 1 + 1)))) (by omega) (by omega) (by rw [gV_sV, if_pos ⟨rfl, rfl, rfl⟩]) (Ag_sV _ _ _ _ rfl hA) h2
theorem m83 {a : Int32} {M0 : St} : ∀ (k i : Nat) (X : St), 128 - i < k → i ≤ 128 → Ag k39 M0 X → X.2 = M0.2 → (∀ x, x < i → gV X 39 0 x = -1) →
    ∃ X', x_X8_tableau_83 k a (nI i) X = x_X8_tableau_105 fu a 0 X' ∧ (ok_X8_tableau_105 fu a 0 X' → ok_X8_tableau_83 k a (nI i) X) ∧ Ag k39 M0 X' ∧ X'.2 = M0.2 ∧ (∀ x, x < 128 → gV X' 39 0 x = -1)
  | 0, i, _, h, _, _, _, _ => absurd h (Nat.not_lt_zero _)
  | k + 1, i, X, hk, hi, hA, h2, hx => by
    have e : (128 : Int32) = nI 128 := by decide
    unfold x_X8_tableau_83 ok_X8_tableau_83
    rw [e]
    by_cases c : 128 ≤ i
    · have hl := nI_le c (show i < 2 ^ 31 by omega)
      rw [if_pos hl, if_pos hl]
      exact ⟨X, rfl, fun h => h, hA, h2, fun x h => hx x (by omega)⟩
    · have hg := nI_ge (show i < 128 by omega) (show 128 < 2 ^ 31 by omega)
      rw [if_neg hg, if_neg hg, nI_1, nI_clamp (show i < 2 ^ 31 by omega)]
      obtain ⟨X', f1, f2, f3⟩ := m83 (a := a) (M0 := M0) k (i + 1) (sV X 39 0 i (-1)) (by omega) (by omega) (Ag_sV _ _ _ _ rfl hA) h2 (fun x h => by
        rw [gV_sV]
        by_cases cx : x = i
        · rw [if_pos ⟨rfl, cx, rfl⟩]
        · rw [if_neg (fun e => cx e.2.1)]; exact hx x (by omega))
      exact ⟨X', f1, fun h => ⟨vp_in_nI (by omega) (by omega), f2 h⟩, f3⟩
theorem m105 {a : Int32} {M0 : St} : ∀ (k i : Nat) (X : St), 64 - i < k → i ≤ 64 → Ag k40 M0 X → X.2 = M0.2 → (∀ x, x < i → gV X 40 0 x = -1) →
    ∃ X', x_X8_tableau_105 k a (nI i) X = x_X8_tableau_126 fu a 0 X' ∧ (ok_X8_tableau_126 fu a 0 X' → ok_X8_tableau_105 k a (nI i) X) ∧ Ag k40 M0 X' ∧ X'.2 = M0.2 ∧ (∀ x, x < 64 → gV X' 40 0 x = -1)
  | 0, i, _, h, _, _, _, _ => absurd h (Nat.not_lt_zero _)
  | k + 1, i, X, hk, hi, hA, h2, hx => by
    have e : (64 : Int32) = nI 64 := by decide
    unfold x_X8_tableau_105 ok_X8_tableau_105
    rw [e]
    by_cases c : 64 ≤ i
    · have hl := nI_le c (show i < 2 ^ 31 by omega)
      rw [if_pos hl, if_pos hl]
      exact ⟨X, rfl, fun h => h, hA, h2, fun x h => hx x (by omega)⟩
    · have hg := nI_ge (show i < 64 by omega) (show 64 < 2 ^ 31 by omega)
      rw [if_neg hg, if_neg hg, nI_1, nI_clamp (show i < 2 ^ 31 by omega)]
      obtain ⟨X', f1, f2, f3⟩ := m105 (a := a) (M0 := M0) k (i + 1) (sV X 40 0 i (-1)) (by omega) (by omega) (Ag_sV _ _ _ _ rfl hA) h2 (fun x h => by
        rw [gV_sV]
        by_cases cx : x = i
        · rw [if_pos ⟨rfl, cx, rfl⟩]
        · rw [if_neg (fun e => cx e.2.1)]; exact hx x (by omega))
      exact ⟨X', f1, fun h => ⟨vp_in_nI (by omega) (by omega), f2 h⟩, f3⟩
theorem m126 {r t : Nat} {M0 : St} {V : Nat → Int32} (ht : t < 4) (hr : r ≤ 12) (h27 : gV M0 8 0 27 = nI (2 ^ (t + 1))) (hV : ∀ x, x < 2 ^ (t + 1) → V x = if r ≤ od t x then -1 else gV M0 38 0 (od t x)) : ∀ (k i : Nat) (X : St), 2 ^ (t + 1) - i < k → i ≤ 2 ^ (t + 1) → Ag k39 M0 X → X.2 = M0.2 → (∀ x, x < 128 → gV X 39 0 x = if x < i then V x else -1) →
    ∃ X', x_X8_tableau_126 k (nI r) (nI i) X = x_X8_tableau_175 fu 0 X' ∧ (ok_X8_tableau_175 fu 0 X' → ok_X8_tableau_126 k (nI r) (nI i) X) ∧ Ag k39 M0 X' ∧ X'.2 = M0.2 ∧ (∀ x, x < 128 → gV X' 39 0 x = if x < 2 ^ (t + 1) then V x else -1)
  | 0, i, _, h, _, _, _, _ => absurd h (Nat.not_lt_zero _)
  | k + 1, i, X, hk, hi, hA, h2, hx => by
    have p4 := pow4 ht
    have h27' : gV X 8 0 27 = nI (2 ^ (t + 1)) := by rw [hA 8 0 27 rfl]; exact h27
    unfold x_X8_tableau_126 ok_X8_tableau_126
    rw [h27']
    by_cases c : 2 ^ (t + 1) ≤ i
    · have hl := nI_le c (show i < 2 ^ 31 by omega)
      have e : i = 2 ^ (t + 1) := by omega
      rw [if_pos hl, if_pos hl]
      exact ⟨X, rfl, fun h => h, hA, h2, fun x h => by rw [← e]; exact hx x h⟩
    · have hlt : i < 2 ^ (t + 1) := by omega
      have hg := nI_ge hlt (show 2 ^ (t + 1) < 2 ^ 31 by omega)
      have hod := od_lt t i hlt
      rw [if_neg hg, if_neg hg, oa_eq ht hlt]
      unfold x_X8_tableau_166 ok_X8_tableau_166
      rw [nI_1, nI_clamp (show i < 2 ^ 31 by omega), nI_clamp (show od t i < 2 ^ 31 by omega)]
      have hv := hV i hlt
      have vi : vp_in (nI i) 128 := vp_in_nI (by omega) (by omega)
      have step : ∃ X', x_X8_tableau_126 k (nI r) (nI (i + 1)) (sV X 39 0 i (V i)) = x_X8_tableau_175 fu 0 X' ∧ (ok_X8_tableau_175 fu 0 X' → ok_X8_tableau_126 k (nI r) (nI (i + 1)) (sV X 39 0 i (V i))) ∧ Ag k39 M0 X' ∧ X'.2 = M0.2 ∧ (∀ x, x < 128 → gV X' 39 0 x = if x < 2 ^ (t + 1) then V x else -1) :=
        m126 ht hr h27 hV k (i + 1) (sV X 39 0 i (V i)) (by omega) (by omega) (Ag_sV _ _ _ _ rfl hA) h2 (fun x h => by
          rw [gV_sV]
          by_cases cx : x = i
          · rw [if_pos ⟨rfl, cx, rfl⟩, if_pos (by omega), cx]
          · rw [if_neg (fun e => cx e.2.1), hx x h]
            by_cases cx2 : x < i
            · rw [if_pos cx2, if_pos (by omega)]
            · rw [if_neg cx2, if_neg (by omega)])
      obtain ⟨X', f1, f2, f3⟩ := step
      by_cases co : r ≤ od t i
      · have hl := nI_le co (show od t i < 2 ^ 31 by omega)
        rw [if_pos co] at hv
        rw [if_pos hl, if_pos hl]
        rw [hv] at f1 f2
        exact ⟨X', f1, fun h => ⟨oa_ok' ht _ _, vi, f2 h⟩, f3⟩
      · have hl := nI_ge (show od t i < r by omega) (show r < 2 ^ 31 by omega)
        rw [if_neg co] at hv
        rw [if_neg hl, if_neg hl, hA 38 0 _ rfl, ← hv]
        exact ⟨X', f1, fun h => ⟨oa_ok' ht _ _, vp_in_nI (by omega) (by omega), vi, f2 h⟩, f3⟩
/-- the model's first round with its byes -/
def E39 (V : Nat → Int32) (t m x : Nat) : Int32 := if x < 2 ^ (t + 1) then V x else if 32 ≤ x ∧ x < 32 + m ∧ 0 < t then bye V (x - 32) else -1
theorem m175 {t : Nat} {M0 : St} {V : Nat → Int32} (ht : t < 4) (h27 : gV M0 8 0 27 = nI (2 ^ (t + 1))) : ∀ (k m : Nat) (X : St), 2 ^ t - m < k → m ≤ 2 ^ t → Ag k3940 M0 X → X.2 = M0.2 → (∀ x, x < 128 → gV X 39 0 x = E39 V t m x) → (∀ x, x < 64 → gV X 40 0 x = if x < m then bye V x else -1) →
    ∃ X', x_X8_tableau_175 k (nI m) X = (nI (2 ^ (t + 1)), X') ∧ ok_X8_tableau_175 k (nI m) X ∧ Ag k3940 M0 X' ∧ X'.2 = M0.2 ∧ (∀ x, x < 128 → gV X' 39 0 x = E39 V t (2 ^ t) x) ∧ (∀ x, x < 64 → gV X' 40 0 x = if x < 2 ^ t then bye V x else -1)
  | 0, m, _, h, _, _, _, _, _ => absurd h (Nat.not_lt_zero _)
  | k + 1, m, X, hk, hm, hA, h2, hx, hy => by
    have p4 := pow4 ht
    have hp : 2 ^ (t + 1) = 2 * 2 ^ t := by rw [Nat.pow_succ]; omega
    have h27' : gV X 8 0 27 = nI (2 ^ (t + 1)) := by rw [hA 8 0 27 rfl]; exact h27
    have hdiv : gV X 8 0 27 / 2 = nI (2 ^ t) := by rw [h27', show (2 : Int32) = nI 2 by decide, pk_div (by omega) (by omega) (by omega), show 2 ^ (t + 1) / 2 = 2 ^ t by omega]
    unfold x_X8_tableau_175 ok_X8_tableau_175
    rw [hdiv, h27']
    by_cases c : 2 ^ t ≤ m
    · have hl := nI_le c (show m < 2 ^ 31 by omega)
      have e : m = 2 ^ t := by omega
      rw [if_pos hl, if_pos hl]
      exact ⟨X, rfl, trivial, hA, h2, by rw [← e]; exact hx, by rw [← e]; exact hy⟩
    · have hlt : m < 2 ^ t := by omega
      have hg := nI_ge hlt (show 2 ^ t < 2 ^ 31 by omega)
      have e2 : (2 : Int32) * nI m = nI (2 * m) := by rw [show (2 : Int32) = nI 2 by decide, pk_mul]
      have q1 : gV X 39 0 (2 * m) = V (2 * m) := by rw [hx _ (by omega)]; unfold E39; rw [if_pos (by omega)]
      have q2 : gV X 39 0 (2 * m + 1) = V (2 * m + 1) := by rw [hx _ (by omega)]; unfold E39; rw [if_pos (by omega)]
      have v1 : vp_in (nI (2 * m)) 128 := vp_in_nI (by omega) (by omega)
      have v2 : vp_in (nI (2 * m + 1)) 128 := vp_in_nI (by omega) (by omega)
      rw [if_neg hg, if_neg hg, e2, nI_1, nI_clamp (show 2 * m < 2 ^ 31 by omega), nI_clamp (show 2 * m + 1 < 2 ^ 31 by omega), q1, q2]
      unfold x_X8_tableau_211 ok_X8_tableau_211 x_X8_tableau_247 ok_X8_tableau_247 x_X8_tableau_250 ok_X8_tableau_250
      rw [e2, nI_1, nI_1, nI_clamp (show 2 * m < 2 ^ 31 by omega), nI_clamp (show 2 * m + 1 < 2 ^ 31 by omega), q1, q2]
      have step : ∀ D : St, Ag k3940 M0 D → D.2 = M0.2 → (∀ x, gV D 39 0 x = if x = 32 + m ∧ 0 < t then bye V m else gV X 39 0 x) → (∀ x, gV D 40 0 x = if x = m then bye V m else gV X 40 0 x) →
          ∃ X', x_X8_tableau_175 k (nI (m + 1)) D = (nI (2 ^ (t + 1)), X') ∧ ok_X8_tableau_175 k (nI (m + 1)) D ∧ Ag k3940 M0 X' ∧ X'.2 = M0.2 ∧ (∀ x, x < 128 → gV X' 39 0 x = E39 V t (2 ^ t) x) ∧ (∀ x, x < 64 → gV X' 40 0 x = if x < 2 ^ t then bye V x else -1) := by
        intro D d1 d2 d3 d4
        refine m175 ht h27 k (m + 1) D (by omega) (by omega) d1 d2 (fun x h => ?_) (fun x h => ?_)
        · rw [d3]
          unfold E39
          by_cases cx : x = 32 + m ∧ 0 < t
          · obtain ⟨c1, c2⟩ := cx
            rw [if_pos ⟨c1, c2⟩, if_neg (by omega), if_pos ⟨by omega, by omega, c2⟩, c1, show 32 + m - 32 = m by omega]
          · rw [if_neg cx, hx x h]
            unfold E39
            by_cases ca : x < 2 ^ (t + 1)
            · rw [if_pos ca, if_pos ca]
            · rw [if_neg ca, if_neg ca]
              by_cases cb : 32 ≤ x ∧ x < 32 + m ∧ 0 < t
              · rw [if_pos cb, if_pos ⟨cb.1, by omega, cb.2.2⟩]
              · rw [if_neg cb, if_neg (by omega)]
        · rw [d4]
          by_cases cx : x = m
          · rw [if_pos cx, if_pos (by omega), cx]
          · rw [if_neg cx, hy x h]
            by_cases cx2 : x < m
            · rw [if_pos cx2, if_pos (by omega)]
            · rw [if_neg cx2, if_neg (by omega)]
      have hRP : RP (t + 1) (2 ^ (t + 1)) := Or.inr ⟨by omega, by omega, rfl⟩
      have won : ∀ f, f = bye V m → ∃ D, x_X8_isWon 0 (nI m) f X = D ∧ ok_X8_isWon 0 (nI m) f X ∧ Ag k3940 M0 D ∧ D.2 = M0.2 ∧ (∀ x, gV D 39 0 x = if x = 32 + m ∧ 0 < t then bye V m else gV X 39 0 x) ∧ (∀ x, gV D 40 0 x = if x = m then bye V m else gV X 40 0 x) := by
        intro f hf
        obtain ⟨w1, w2⟩ := isWon_eq hRP h27' (show 0 < t + 1 by omega) (show m < 2 ^ (t + 1) / 2 ^ (0 + 1) by rw [hp]; simp; omega) f
        have w1 : x_X8_isWon 0 (nI m) f X = _ := w1
        have w2 : ok_X8_isWon 0 (nI m) f X := w2
        refine ⟨_, w1, w2, ?_, ?_, ?_, ?_⟩
        · split
          · exact Ag_sV _ _ _ _ rfl (Ag_sV _ _ _ _ rfl hA)
          · exact Ag_sV _ _ _ _ rfl hA
        · split
          · exact h2
          · exact h2
        · intro x
          by_cases c0 : 0 < t
          · rw [if_pos (show 0 + 1 < t + 1 by omega), gV_sV, gV_sV]
            by_cases cx : x = 32 + m
            · rw [if_pos ⟨rfl, by omega, rfl⟩, if_pos ⟨cx, c0⟩, hf]
            · rw [if_neg (by omega), if_neg (fun e => absurd e.1 (by decide)), if_neg (fun e => cx e.1)]
          · rw [if_neg (show ¬ 0 + 1 < t + 1 by omega), gV_sV, if_neg (fun e => absurd e.1 (by decide)), if_neg (fun e => c0 e.2)]
        · intro x
          have a1 : gV (sV X 40 0 (16 * 0 + m) f) 40 0 x = if x = m then bye V m else gV X 40 0 x := by
            rw [gV_sV]
            by_cases cx : x = m
            · rw [if_pos ⟨rfl, by omega, rfl⟩, if_pos cx, hf]
            · rw [if_neg (by omega), if_neg cx]
          split
          · rw [gV_sV, if_neg (fun e => absurd e.1 (by decide))]; exact a1
          · exact a1
      by_cases c1 : V (2 * m) = -1
      · simp only [c1, ↓reduceIte, v1, v2, true_and]
        obtain ⟨D, w1, w2, w3, w4, w5, w6⟩ := won (V (2 * m + 1)) (by unfold bye; rw [if_pos c1])
        rw [w1]
        obtain ⟨X', f1, f2, f3⟩ := step D w3 w4 w5 w6
        exact ⟨X', f1, ⟨w2, f2⟩, f3⟩
      · by_cases c2 : V (2 * m + 1) = -1
        · simp only [c1, c2, ↓reduceIte, v1, v2, true_and]
          obtain ⟨D, w1, w2, w3, w4, w5, w6⟩ := won (V (2 * m)) (by unfold bye; rw [if_neg c1, if_pos c2])
          rw [w1]
          obtain ⟨X', f1, f2, f3⟩ := step D w3 w4 w5 w6
          exact ⟨X', f1, ⟨w2, f2⟩, f3⟩
        · simp only [c1, c2, ↓reduceIte, v1, v2, true_and]
          have hb : bye V m = -1 := by unfold bye; rw [if_neg c1, if_neg c2]
          exact step X hA h2 (fun x => by
            by_cases cx : x = 32 + m ∧ 0 < t
            · rw [if_pos cx, hb, cx.1, hx _ (by omega)]
              unfold E39
              rw [if_neg (by omega), if_neg (by omega)]
            · rw [if_neg cx]) (fun x => by
            by_cases cx : x = m
            · rw [if_pos cx, hb, cx, hy m (by omega), if_neg (by omega)]
            · rw [if_neg cx])
/-- the new bracket, on both sides -/
theorem bracket_new {t : Nat} {C M : St} {V : Nat → Int32} (ht : t < 4) (c1 : gV C 1 0 2 = nI (2 ^ (t + 1))) (m1 : gV M 8 0 27 = nI (2 ^ (t + 1))) (n1 : ∀ x, x < 2 ^ t → gV C 16 0 x = -1) (n2 : ∀ x, x < 2 ^ t → gV C 16 0 (2 ^ t + x) = bye V x) (n3 : ∀ x, x < 2 * 2 ^ t → gV C 16 0 (2 * 2 ^ t + x) = V x)
    (e1 : ∀ x, x < 128 → gV M 39 0 x = E39 V t (2 ^ t) x) (e2 : ∀ x, x < 64 → gV M 40 0 x = if x < 2 ^ t then bye V x else -1) : qK C M := by
  have hH : 2 ^ t ≤ 8 := by
    have : 2 ^ t ≤ 2 ^ 3 := Nat.pow_le_pow_right (by omega) (by omega)
    omega
  have hP : 2 ^ (t + 1) = 2 * 2 ^ t := by rw [Nat.pow_succ]; omega
  refine ⟨t + 1, 2 ^ (t + 1), Or.inr ⟨by omega, by omega, rfl⟩, c1, m1, fun r m hr hm => ?_⟩
  rcases Nat.eq_zero_or_pos r with rfl | hr1
  · have hq : 2 ^ (t + 1) / 2 ^ (0 + 1) = 2 ^ t := by rw [hP]; simp
    rw [hq] at hm ⊢
    refine ⟨?_, ?_, ?_⟩
    · rw [n2 m hm, e2 _ (by omega), if_pos (by omega)]; rw [show 16 * 0 + m = m by omega]
    · rw [show 2 * (2 ^ t + m) = 2 * 2 ^ t + 2 * m by omega, n3 _ (by omega), e1 _ (by omega)]; unfold E39; rw [if_pos (by omega), show 32 * 0 + 2 * m = 2 * m by omega]
    · rw [show 2 * (2 ^ t + m) + 1 = 2 * 2 ^ t + (2 * m + 1) by omega, n3 _ (by omega), e1 _ (by omega)]; unfold E39; rw [if_pos (by omega), show 32 * 0 + 2 * m + 1 = 2 * m + 1 by omega]
  · obtain ⟨s, rfl⟩ : ∃ s, t = s + 1 := ⟨t - 1, by omega⟩
    have hs : 2 ^ (s + 1) = 2 * 2 ^ s := by rw [Nat.pow_succ]; omega
    rcases Nat.lt_or_ge r 2 with hr2 | hr2
    · have : r = 1 := by omega
      subst this
      have hq : 2 ^ (s + 1 + 1) / 2 ^ (1 + 1) = 2 ^ s := by rw [hP, hs]; omega
      rw [hq] at hm ⊢
      refine ⟨?_, ?_, ?_⟩
      · rw [n1 _ (by omega), e2 _ (by omega), if_neg (by omega)]
      · rw [show 2 * (2 ^ s + m) = 2 ^ (s + 1) + 2 * m by omega, n2 _ (by omega), e1 _ (by omega)]; unfold E39; rw [if_neg (by omega), if_pos ⟨by omega, by omega, by omega⟩, show 32 * 1 + 2 * m - 32 = 2 * m by omega]
      · rw [show 2 * (2 ^ s + m) + 1 = 2 ^ (s + 1) + (2 * m + 1) by omega, n2 _ (by omega), e1 _ (by omega)]; unfold E39; rw [if_neg (by omega), if_pos ⟨by omega, by omega, by omega⟩, show 32 * 1 + 2 * m + 1 - 32 = 2 * m + 1 by omega]
    · have hq : 8 * (2 ^ (s + 1 + 1) / 2 ^ (r + 1)) ≤ 2 ^ (s + 1 + 1) := by
        have h8 : 2 ^ 3 ≤ 2 ^ (r + 1) := Nat.pow_le_pow_right (by omega) (by omega)
        have := Nat.div_mul_le_self (2 ^ (s + 1 + 1)) (2 ^ (r + 1))
        have h9 : 2 ^ (s + 1 + 1) / 2 ^ (r + 1) * 2 ^ 3 ≤ 2 ^ (s + 1 + 1) / 2 ^ (r + 1) * 2 ^ (r + 1) := Nat.mul_le_mul_left _ h8
        omega
      generalize 2 ^ (s + 1 + 1) / 2 ^ (r + 1) = Q at hq hm ⊢
      refine ⟨?_, ?_, ?_⟩
      · rw [n1 _ (by omega), e2 _ (by omega), if_neg (by omega)]
      · rw [n1 _ (by omega), e1 _ (by omega)]; unfold E39; rw [if_neg (by omega), if_neg (by omega)]
      · rw [n1 _ (by omega), e1 _ (by omega)]; unfold E39; rw [if_neg (by omega), if_neg (by omega)]
def kTC : Nat → Nat → Bool := fun c k => !(c == 16 || c == 17 || c == 19 || (c == 1 && k == 2))
def kTM : Nat → Nat → Bool := fun c k => !(c == 38 || c == 39 || c == 40 || (c == 8 && (k == 27 || k == 31)))
theorem I2_tab {n nb np : Nat} {C M C' M' : St} (hI : I2 n nb np C M) (hC : Ag kTC C C') (hC2 : C'.2 = C.2) (hM : Ag kTM M M') (hM2 : M'.2 = M.2) (hK' : qK C' M') : I2 n nb np C' M' := by
  have hR : ∀ a k, gR C' a k = gR C a k := fun a k => by unfold gR; rw [hC2]
  have hL : gL C' 3 0 = gL C 3 0 := by unfold gL; rw [hC2]
  have hLM : gL M' 8 1 = gL M 8 1 := by unfold gL; rw [hM2]
  obtain ⟨hA, hB, hZ, hP, hF, hO, hG, hK⟩ := hI
  refine ⟨?_, fun i hi => qB_t hC hM (by simp [kTC, kTM]) np i (hB i hi), fun i hi => qZ_t hC hM (by simp [kTM]) i (hZ i hi), qP_t hC hM (hR 7 8) (by simp [kTC, kTM]) n nb np hP, qF_t hC hM (by simp [kTC, kTM]) hF, fun j hj => qO_t hC hM (by simp [kTC, kTM]) nb j (hO j hj), fun j hj => by rw [hM 37 0 j rfl]; exact hG j hj, hK'⟩
  unfold qA at hA ⊢
  rw [hC 7 0 5 rfl, hC 7 0 6 rfl, hC 7 0 7 rfl, hC 7 0 9 rfl, hM 8 0 0 rfl, hM 8 0 3 rfl, hM 8 0 23 rfl, hM 8 0 2 rfl, hL, hLM]
  simp only [hR]
  exact hA
theorem cr_tableau : CR_tableau := by
  intro n nb np C M a1 hn hI
  obtain ⟨hA, hB, hZ, hP, hF, hO, hG, hK⟩ := id hI
  obtain ⟨A1, A2, A3, A4, A5, A6, A7, A8, A9, A10, A11, A12, A13, A14⟩ := id hA
  have z0 : (0 : Int32) ≤ 0 := by decide
  have z1 : ¬ (1 : Int32) = 0 := by decide
  have z1' : ¬ (1 : Int32) ≤ 0 := by decide
  have z2' : ¬ (2 : Int32) ≤ 0 := by decide
  have n3 : ¬ (3 : Nat) = 0 := by decide
  have n1 : ¬ (1 : Nat) = 0 := by decide
  unfold x_X7_tableau ok_X7_tableau x_X8_tableau ok_X8_tableau x_X8_thrown
  rcases ix3 a1 np (by omega) with h | ⟨j, hj, rfl⟩
  · obtain ⟨e1, e2⟩ := poolOf_out (C := C) A7 h
    rw [e1, isPool_out (by omega) A8 h]
    simp only [oc, ↓reduceIte]
    unfold x_X8_tableau_14 ok_X8_tableau_14
    rw [if_neg z1', if_neg z1']
    obtain ⟨k1, k2, k3, k4, k5⟩ := failS (v8 := (0 : Int32)) hI (e := 3) (by decide) (Or.inr (Or.inr (Or.inr ⟨rfl, by decide⟩))) (s0 := 1) (a := 2) (b := 0) (d := 1) (okm := True) rfl trivial rfl
    exact ⟨⟨e2, trivial⟩, k1, trivial, k3, fun h => absurd h n3, k5⟩
  obtain ⟨e1, e2⟩ := poolOf_in (C := C) A6 A7 A14 hj
  have hI0 : I2 n nb np C (sV M 8 0 31 0) := I2_th 0 hI
  have h31 : gV (sV M 8 0 31 0) 8 0 31 = 0 := by rw [gV_sV, if_pos ⟨rfl, rfl, rfl⟩]
  obtain ⟨a, g, nf, r, C1, M1, d1, d2, d3, d4, d5, d6, d7, d8, d9, d10, f1, f2, f3, f4, f5, f6, f7, f8, f9⟩ := order_eq hI0 hj
  have hI1 : I2 n nb np C1 M1 := I2_ord hI0 f5 f6 f7 f8
  have hI1' : I2 n nb np C M1 := I2_ord hI0 (Ag.rf _ _) rfl f7 f8
  have ha4 := pow12 d1 d3
  have hrc : ∀ D, Ag k19 C D → x_X5_rankedCount j D = nI r := by
    intro D hD
    unfold x_X5_rankedCount
    rw [hD 5 j 1 rfl, hD 5 j 4 rfl, d7, d8, andn_eq ha4]
    have := bc_eq (mk_lt (g := g) ha4) D
    unfold mk at this d9
    rw [this, d9]
  have e2' : (2 : Int32) = nI 2 := by decide
  rw [e1, isPool_in (by omega) A8 hj]
  simp only [oc, z1, ↓reduceIte]
  unfold x_X8_tableau_14 ok_X8_tableau_14
  rw [if_pos z0, if_pos z0, f2, hrc C (Ag.rf _ _)]
  unfold x_X8_tableau_31 ok_X8_tableau_31
  by_cases c2 : 2 ≤ r
  · have hl : (2 : Int32) ≤ nI r := by rw [e2']; exact nI_le c2 (by omega)
    simp only [hl, ↓reduceIte]
    obtain ⟨t, hT⟩ := TT_ex c2 d10
    have ht := hT.1
    have hP : 2 ^ (t + 1) = 2 * 2 ^ t := by rw [Nat.pow_succ]; omega
    have hH : 2 ^ t ≤ 8 := by
      have : 2 ^ t ≤ 2 ^ 3 := Nat.pow_le_pow_right (by omega) (by omega)
      omega
    -- the program
    obtain ⟨C2, g1, g2, g3, g4, g5, g6⟩ := order_c ht C1
    obtain ⟨l1, l2⟩ := least_eq d10 hT C1
    have hV : ∀ D, Ag k16 C2 D → ∀ i, i < 2 * 2 ^ t → x_X5_rankedAt j (gV D 17 0 i) D = (fun i => if r ≤ od t i then -1 else gV M1 38 0 (od t i)) i ∧ ok_X5_rankedAt j (gV D 17 0 i) D := by
      intro D hD i hi
      have hod := od_lt t i (by omega)
      have e12 : (12 : Int32) = nI 12 := by decide
      rw [hD 17 0 i rfl, g6 i (by omega)]
      unfold x_X5_rankedAt ok_X5_rankedAt x_X5_rankedAt_19 ok_X5_rankedAt_19
      rw [if_neg (nI_pos (show od t i < 2 ^ 31 by omega)), if_neg (nI_pos (show od t i < 2 ^ 31 by omega)), e12]
      by_cases c12 : 12 ≤ od t i
      · have hl := nI_le c12 (show od t i < 2 ^ 31 by omega)
        rw [if_pos hl, if_pos hl]
        exact ⟨by show _ = if r ≤ od t i then _ else _; rw [if_pos (by omega)], trivial⟩
      · have hg := nI_ge (show od t i < 12 by omega) (show 12 < 2 ^ 31 by omega)
        rw [if_neg hg, if_neg hg, nI_clamp (show od t i < 2 ^ 31 by omega), hD 19 j _ rfl, g4 19 j _ rfl]
        refine ⟨?_, vp_in_nI (by omega) (by omega), trivial⟩
        show _ = if r ≤ od t i then _ else _
        by_cases cr : r ≤ od t i
        · rw [if_pos cr]; exact f9.2 _ cr (by omega)
        · rw [if_neg cr]; exact (f9.1 _ (by omega)).1
    obtain ⟨C3, n1', n2', n3', n4', n5', n6', n7'⟩ := nodes_c (j := j) (C0 := C2) hH (by rw [g3, hP]) hV
    have hmk : x_X1_makeFrom j C = C3 ∧ ok_X1_makeFrom j C := by
      unfold x_X1_makeFrom ok_X1_makeFrom x_X1_makeFrom_4 ok_X1_makeFrom_4
      rw [f1, hrc C1 f5, l1, g1]
      exact ⟨n1', f3, l2, g2, n2'⟩
    -- the model
    obtain ⟨X1, p1, p2, p3, p4, p5⟩ := m60 d10 hT (M0 := sV M1 8 0 31 0) fu 0 (sV (sV M1 8 0 31 0) 8 0 27 2) (by rw [fuE]; omega) (by omega) (by rw [gV_sV, if_pos ⟨rfl, rfl, rfl⟩]; rfl) (Ag_sV _ _ _ _ rfl (Ag.rf _ _)) rfl
    obtain ⟨X2, q1, q2, q3, q4, q5⟩ := m83 (a := nI r) (M0 := X1) fu 0 X1 (by rw [fuE]; omega) (by omega) (Ag.rf _ _) rfl (fun x h => absurd h (Nat.not_lt_zero x))
    have q1 : x_X8_tableau_83 fu (nI r) 0 X1 = x_X8_tableau_105 fu (nI r) 0 X2 := q1
    have q2 : ok_X8_tableau_105 fu (nI r) 0 X2 → ok_X8_tableau_83 fu (nI r) 0 X1 := q2
    obtain ⟨X3, r1, r2, r3, r4, r5⟩ := m105 (a := nI r) (M0 := X2) fu 0 X2 (by rw [fuE]; omega) (by omega) (Ag.rf _ _) rfl (fun x h => absurd h (Nat.not_lt_zero x))
    have r1 : x_X8_tableau_105 fu (nI r) 0 X2 = x_X8_tableau_126 fu (nI r) 0 X3 := r1
    have r2 : ok_X8_tableau_126 fu (nI r) 0 X3 → ok_X8_tableau_105 fu (nI r) 0 X2 := r2
    have x27 : gV X3 8 0 27 = nI (2 ^ (t + 1)) := by rw [r3 8 0 27 rfl, q3 8 0 27 rfl]; exact p3
    have x38 : ∀ x, gV X3 38 0 x = gV M1 38 0 x := fun x => by rw [r3 38 0 x rfl, q3 38 0 x rfl, p4 38 0 x rfl, gV_sV, if_neg (fun e => absurd e.1 (by decide))]
    obtain ⟨X4, s1, s2, s3, s4, s5⟩ := m126 (M0 := X3) (V := fun i => if r ≤ od t i then -1 else gV M1 38 0 (od t i)) ht d10 x27 (fun x _ => by show (if _ then _ else _) = _; rw [x38]) fu 0 X3 (by rw [fuE]; have := pow4 ht; omega) (Nat.zero_le _) (Ag.rf _ _) rfl (fun x h => by rw [if_neg (Nat.not_lt_zero x), r3 39 0 x rfl]; exact q5 x h)
    have s1 : x_X8_tableau_126 fu (nI r) 0 X3 = x_X8_tableau_175 fu 0 X4 := s1
    have s2 : ok_X8_tableau_175 fu 0 X4 → ok_X8_tableau_126 fu (nI r) 0 X3 := s2
    obtain ⟨X5, t1, t2, t3, t4, t5, t6⟩ := m175 (M0 := X4) (V := fun i => if r ≤ od t i then -1 else gV M1 38 0 (od t i)) ht (by rw [s3 8 0 27 rfl]; exact x27) fu 0 X4 (by rw [fuE]; omega) (Nat.zero_le _) (Ag.rf _ _) rfl (fun x h => by
        rw [s5 x h]; unfold E39
        by_cases c : x < 2 ^ (t + 1)
        · rw [if_pos c, if_pos c]
        · rw [if_neg c, if_neg c, if_neg (by omega)]) (fun x h => by rw [if_neg (Nat.not_lt_zero x), s3 40 0 x rfl]; exact r5 x h)
    have t1 : x_X8_tableau_175 fu 0 X4 = (nI (2 ^ (t + 1)), X5) := t1
    have t2 : ok_X8_tableau_175 fu 0 X4 := t2
    have xm : x_X8_tableau_43 (nI r) 0 M1 = (nI (2 ^ (t + 1)), X5) := by
      unfold x_X8_tableau_43
      have p1 : x_X8_tableau_60 fu (nI r) (sV (sV M1 8 0 31 0) 8 0 27 2) = x_X8_tableau_83 fu (nI r) 0 X1 := p1
      rw [if_pos z0, p1, q1, r1, s1, t1]
    have om : ok_X8_tableau_43 (nI r) 0 M1 := by
      unfold ok_X8_tableau_43
      rw [if_pos z0]
      exact p2 (q2 (r2 (s2 t2)))
    have AgM : Ag kTM M1 X5 := by
      intro c x k h
      unfold kTM at h; simp at h
      obtain ⟨⟨⟨h38, h39⟩, h40⟩, h8⟩ := h
      have h8' : ¬ (c = 8 ∧ k = 27) := fun e => h8.elim (fun f => f e.1) (fun f => f.1 e.2)
      have h8'' : ¬ (c = 8 ∧ k = 31) := fun e => h8.elim (fun f => f e.1) (fun f => f.2 e.2)
      have h27 : k27 c k = true := by
        unfold k27; simp
        by_cases c8 : c = 8
        · exact Or.inr (fun e => h8' ⟨c8, e⟩)
        · exact Or.inl c8
      rw [t3 c x k (by simp [k3940, h39, h40]), s3 c x k (by simp [k39, h39]), r3 c x k (by simp [k40, h40]), q3 c x k (by simp [k39, h39]), p4 c x k h27, gV_sV, if_neg (fun e => h8'' ⟨e.1, e.2.1⟩)]
    have M2 : X5.2 = M1.2 := by rw [t4, s4, r4, q4, p5]; rfl
    have AgC : Ag kTC C1 C3 := by
      intro c x k h
      unfold kTC at h; simp at h
      obtain ⟨⟨⟨h16, h17⟩, h19⟩, h1⟩ := h
      rw [n3' c x k (by simp [k16, h16]), g4 c x k (by simp [k17, h17]; exact h1)]
    have C2e : C3.2 = C1.2 := by rw [n4', g5]
    have hK' : qK C3 X5 := bracket_new ht (by rw [n3' 1 0 2 rfl]; exact g3) (by rw [t3 8 0 27 rfl, s3 8 0 27 rfl]; exact x27) n5' n6' n7' t5 t6
    have x31 : gV X5 8 0 31 = 0 := by
      rw [t3 8 0 31 rfl, s3 8 0 31 rfl, r3 8 0 31 rfl, q3 8 0 31 rfl, p4 8 0 31 rfl, gV_sV, if_pos ⟨rfl, rfl, rfl⟩]
    rw [hmk.1, xm]
    refine ⟨⟨e2, hmk.2, trivial⟩, Or.inl rfl, ⟨f4, om⟩, x31, fun _ => ?_, I2_up (I2_tab hI1 AgC C2e AgM M2 hK')⟩
    show gV C3 1 0 2 = _
    rw [n3' 1 0 2 rfl]; exact g3
  · have hl : ¬ (2 : Int32) ≤ nI r := by rw [e2']; exact nI_ge (by omega) (by omega)
    simp only [hl, ↓reduceIte]
    unfold x_X8_tableau_43 ok_X8_tableau_43
    rw [if_neg z2', if_neg z2']
    obtain ⟨k1, k2, k3, k4, k5⟩ := failS (v8 := (0 : Int32)) hI1' (e := 1) (by decide) (Or.inr (Or.inl ⟨rfl, by decide⟩)) (s0 := 2) (a := 2) (b := 0) (d := 1) (okm := True) rfl trivial rfl
    exact ⟨⟨e2, trivial⟩, k1, ⟨f4, trivial⟩, k3, fun h => absurd h n1, k5⟩
end
