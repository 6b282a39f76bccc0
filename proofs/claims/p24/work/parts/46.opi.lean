noncomputable section
/-- the order of the places: P = 2 ^ (t + 1) of them -/
def od : Nat → Nat → Nat
  | 0, x => x
  | t + 1, x => if x % 2 = 0 then od t (x / 2) else 2 ^ (t + 2) - 1 - od t (x / 2)
theorem od_lt : ∀ t x, x < 2 ^ (t + 1) → od t x < 2 ^ (t + 1)
  | 0, x, h => h
  | t + 1, x, h => by
    have ih := od_lt t (x / 2) (by rw [Nat.pow_succ] at h; omega)
    unfold od
    have : 2 ^ (t + 1 + 1) = 2 * 2 ^ (t + 1) := by rw [Nat.pow_succ 2 (t + 1)]; omega
    have h' : 2 ^ (t + 2) = 2 ^ (t + 1 + 1) := rfl
    rw [h']
    split <;> omega
theorem oa_st : ∀ (k : Nat) (a0 a1 a2 a3 a4 : Int32) (M M' : St), x_X8_orderAt_7 k a0 a1 a2 a3 a4 M = x_X8_orderAt_7 k a0 a1 a2 a3 a4 M'
  | 0, _, _, _, _, _, _, _ => rfl
  | k + 1, a0, a1, a2, a3, a4, M, M' => by
    unfold x_X8_orderAt_7 x_X8_orderAt_40
    rw [oa_st k a0 a1 _ _ _ M M', oa_st k a0 a1 _ _ _ M M']
theorem oa_tab : ∀ t, t < 4 → ∀ x, x < 16 → (decide (x < 2 ^ (t + 1)) = false ∨ x_X8_orderAt (nI (2 ^ (t + 1))) (nI x) γS = nI (od t x)) := by decide +kernel
theorem oa_eq {t x : Nat} (ht : t < 4) (hx : x < 2 ^ (t + 1)) (M : St) : x_X8_orderAt (nI (2 ^ (t + 1))) (nI x) M = nI (od t x) := by
  have h2 : 2 ^ (t + 1) ≤ 2 ^ 4 := Nat.pow_le_pow_right (by omega) (by omega)
  rcases oa_tab t ht x (by omega) with h | h
  · simp [hx] at h
  · rw [← h]; unfold x_X8_orderAt; exact oa_st _ _ _ _ _ _ _ _
theorem oa_ok {t : Nat} (ht : t < 4) : ∀ (k d : Nat) (a1 a2 : Int32) (M : St), d ≤ t + 1 → t + 1 - d < k → ok_X8_orderAt_7 k (nI (2 ^ (t + 1))) a1 a2 (nI (2 ^ d)) (nI (2 ^ (t + 1 - d))) M
  | 0, d, _, _, _, _, h => absurd h (Nat.not_lt_zero _)
  | k + 1, d, a1, a2, M, hd, hk => by
    have h2 : 2 ^ (t + 1) ≤ 2 ^ 4 := Nat.pow_le_pow_right (by omega) (by omega)
    have h3 : 2 ^ d ≤ 2 ^ 4 := Nat.pow_le_pow_right (by omega) (by omega)
    unfold ok_X8_orderAt_7 ok_X8_orderAt_40
    by_cases c : d = t + 1
    · rw [c, if_pos (nI_le (Nat.le_refl _) (by omega))]; trivial
    · have hlt : 2 ^ d < 2 ^ (t + 1) := Nat.pow_lt_pow_right (by omega) (by omega)
      obtain ⟨e, he⟩ : ∃ e, t + 1 - d = e + 1 := ⟨t - d, by omega⟩
      have e2 : (2 : Int32) = nI 2 := by decide
      have hp : 2 ^ (e + 1) ≤ 2 ^ 4 := Nat.pow_le_pow_right (by omega) (by omega)
      have h4 : 2 ^ (e + 1) / 2 = 2 ^ e := by rw [Nat.pow_succ]; omega
      have h5 : 0 < 2 ^ e := Nat.two_pow_pos e
      have hdiv : nI (2 ^ (t + 1 - d)) / 2 = nI (2 ^ e) := by rw [he, e2, pk_div (by omega) (by omega) (by omega), h4]
      have hmul : nI (2 ^ d) * 2 = nI (2 ^ (d + 1)) := by rw [e2, pk_mul, Nat.pow_succ]
      rw [if_neg (nI_ge hlt (by omega)), hdiv, hmul]
      have ih := fun s => oa_ok ht k (d + 1) a1 s M (by omega) (by omega)
      rw [show t + 1 - (d + 1) = e by omega] at ih
      refine ⟨nI_ne0 h5 (by omega), ?_⟩
      split
      · exact ih _
      · exact ih _
theorem oa_ok' {t : Nat} (ht : t < 4) (a1 : Int32) (M : St) : ok_X8_orderAt (nI (2 ^ (t + 1))) a1 M := by
  unfold ok_X8_orderAt
  have := oa_ok ht fu 0 a1 0 M (by omega) (by rw [fuE]; omega)
  exact this
/-- r fencers want 2 ^ (t + 1) places -/
def TT (r t : Nat) : Prop := t < 4 ∧ r ≤ 2 ^ (t + 1) ∧ ∀ s, s < t → 2 ^ (s + 1) < r
theorem TT_ex {r : Nat} (h2 : 2 ≤ r) (h12 : r ≤ 12) : ∃ t, TT r t := by
  by_cases a : r ≤ 2
  · exact ⟨0, by omega, a, fun s hs => absurd hs (Nat.not_lt_zero s)⟩
  by_cases b : r ≤ 4
  · refine ⟨1, by omega, b, fun s hs => ?_⟩
    have : s = 0 := by omega
    subst this; simp; omega
  by_cases c : r ≤ 8
  · refine ⟨2, by omega, c, fun s hs => ?_⟩
    have : s = 0 ∨ s = 1 := by omega
    rcases this with rfl | rfl <;> simp <;> omega
  · refine ⟨3, by omega, by simp; omega, fun s hs => ?_⟩
    have : s = 0 ∨ s = 1 ∨ s = 2 := by omega
    rcases this with rfl | rfl | rfl <;> simp <;> omega
theorem pow4 {s : Nat} (h : s < 4) : 2 ^ (s + 1) ≤ 16 := by
  have : 2 ^ (s + 1) ≤ 2 ^ 4 := Nat.pow_le_pow_right (by omega) (by omega)
  omega
theorem least_run {r t : Nat} (hr : r ≤ 12) (hT : TT r t) (C : St) : ∀ (k s : Nat), t - s < k → s ≤ t → x_X1_leastPlaces_2 k (nI r) (nI (2 ^ (s + 1))) C = nI (2 ^ (t + 1)) ∧ ok_X1_leastPlaces_2 k (nI r) (nI (2 ^ (s + 1))) C
  | 0, s, h, _ => absurd h (Nat.not_lt_zero _)
  | k + 1, s, hk, hs => by
    obtain ⟨h4, h5, h6⟩ := id hT
    have p4 := pow4 (show s < 4 by omega)
    unfold x_X1_leastPlaces_2 ok_X1_leastPlaces_2 x_X1_leastPlaces_20 ok_X1_leastPlaces_20
    by_cases c : s = t
    · subst c
      have hl := nI_le h5 (show 2 ^ (s + 1) < 2 ^ 31 by omega)
      simp only [hl, ↓reduceIte, and_self]
    · have hlt := h6 s (by omega)
      have hg := nI_ge hlt (show r < 2 ^ 31 by omega)
      have e16 : (16 : Int32) = nI 16 := by decide
      have e2 : (2 : Int32) = nI 2 := by decide
      have hg16 : ¬ (16 : Int32) ≤ nI (2 ^ (s + 1)) := by rw [e16]; exact nI_ge (by omega) (by omega)
      have hmul : nI (2 ^ (s + 1)) * 2 = nI (2 ^ (s + 1 + 1)) := by rw [e2, pk_mul, Nat.pow_succ 2 (s + 1)]
      simp only [hg, hg16, ↓reduceIte]
      rw [hmul]
      exact least_run hr hT C k (s + 1) (by omega) (by omega)
theorem least_eq {r t : Nat} (hr : r ≤ 12) (hT : TT r t) (C : St) : x_X1_leastPlaces (nI r) C = nI (2 ^ (t + 1)) ∧ ok_X1_leastPlaces (nI r) C := by
  unfold x_X1_leastPlaces ok_X1_leastPlaces
  have := least_run hr hT C fu 0 (by rw [fuE]; have := hT.1; omega) (by omega)
  exact this
def k17 : Nat → Nat → Bool := fun c k => !(c == 17 || (c == 1 && k == 2))
/-- one doubling, from behind -/
theorem ord_in {P : Nat} {o : Nat → Nat} {a1 : Int32} {K : Int32 → St → St} {J : Int32 → St → Prop} {C0 : St} (hP : P ≤ 8) (ho : ∀ x, x < P → o x < P) : ∀ (k c : Nat) (C : St), c < k → c ≤ P → gV C 1 0 2 = nI P → Ag k17 C0 C → C.2 = C0.2 →
    (∀ x, x < c → gV C 17 0 x = nI (o x)) → (∀ x, c ≤ x → x < P → gV C 17 0 (2 * x) = nI (o x) ∧ gV C 17 0 (2 * x + 1) = nI (2 * P - 1 - o x)) →
    ∃ C', x_X1_orderPlaces_45 K k a1 (nI c - 1) C = K a1 C' ∧ (J a1 C' → ok_X1_orderPlaces_45 J k a1 (nI c - 1) C) ∧ gV C' 1 0 2 = nI (2 * P) ∧ Ag k17 C0 C' ∧ C'.2 = C0.2 ∧ (∀ x, x < P → gV C' 17 0 (2 * x) = nI (o x) ∧ gV C' 17 0 (2 * x + 1) = nI (2 * P - 1 - o x))
  | 0, c, _, h, _, _, _, _, _, _ => absurd h (Nat.not_lt_zero _)
  | k + 1, c, C, hk, hc, h1, hA, h2, hx, hy => by
    have e2 : (2 : Int32) = nI 2 := by decide
    have e1 : (1 : Int32) = nI 1 := by decide
    unfold x_X1_orderPlaces_45 ok_X1_orderPlaces_45
    by_cases c0 : c = 0
    · subst c0
      have hneg : nI 0 - 1 < 0 := by decide
      simp only [hneg, ↓reduceIte]
      refine ⟨_, rfl, fun h => h, ?_, Ag_sV _ _ _ _ rfl hA, h2, fun x hx' => ?_⟩
      · rw [gV_sV, if_pos ⟨rfl, rfl, rfl⟩, h1, e2, pk_mul, Nat.mul_comm]
      · rw [gV_sV, gV_sV, if_neg (fun e => absurd e.1 (by decide)), if_neg (fun e => absurd e.1 (by decide))]
        exact hy x (Nat.zero_le x) hx'
    · obtain ⟨i, rfl⟩ : ∃ i, c = i + 1 := ⟨c - 1, by omega⟩
      have hnn : ¬ nI i < 0 := nI_pos (by omega)
      have hoi := ho i (by omega)
      rw [nI_pred]
      simp only [hnn, ↓reduceIte]
      have m2 : (2 : Int32) * nI i = nI (2 * i) := by rw [e2, pk_mul]
      have mP : (2 : Int32) * nI P - 1 - nI (o i) = nI (2 * P - 1 - o i) := by rw [e2, pk_mul, e1, pk_sub (by omega), pk_sub (by omega)]
      have hm1 : nI i + (-1) = nI i - 1 := (Int32.sub_eq_add_neg _ _).symm
      rw [m2, nI_1, hm1, nI_clamp (show i < 2 ^ 31 by omega), nI_clamp (show 2 * i < 2 ^ 31 by omega), nI_clamp (show 2 * i + 1 < 2 ^ 31 by omega), h1, hx i (by omega), mP]
      obtain ⟨C', f1, f2, f3, f4, f5, f6⟩ := ord_in (K := K) (J := J) (a1 := a1) hP ho k i (sV (sV C 17 0 (2 * i) (nI (o i))) 17 0 (2 * i + 1) (nI (2 * P - 1 - o i))) (by omega) (by omega) (by rw [gV_sV, if_neg (fun e => absurd e.1 (by decide)), gV_sV, if_neg (fun e => absurd e.1 (by decide))]; exact h1) (Ag_sV _ _ _ _ rfl (Ag_sV _ _ _ _ rfl hA)) h2 (fun x hx' => by
          rw [gV_sV, if_neg (by omega), gV_sV, if_neg (by omega)]; exact hx x (by omega)) (fun x hx1 hx2 => by
          by_cases cx : x = i
          · subst cx
            refine ⟨?_, ?_⟩
            · rw [gV_sV, if_neg (by omega), gV_sV, if_pos ⟨rfl, rfl, rfl⟩]
            · rw [gV_sV, if_pos ⟨rfl, rfl, rfl⟩]
          · obtain ⟨y1, y2⟩ := hy x (by omega) hx2
            refine ⟨?_, ?_⟩
            · rw [gV_sV, if_neg (by omega), gV_sV, if_neg (by omega)]; exact y1
            · rw [gV_sV, if_neg (by omega), gV_sV, if_neg (by omega)]; exact y2)
      exact ⟨C', f1, fun h => ⟨vp_in_nI (by omega) (by omega), vp_in_nI (by omega) (by omega), vp_in_nI (by omega) (by omega), f2 h⟩, f3, f4, f5, f6⟩
theorem ord_run {t : Nat} (ht : t < 4) {C0 : St} : ∀ (k s : Nat) (C : St), t - s < k → s ≤ t → gV C 1 0 2 = nI (2 ^ (s + 1)) → Ag k17 C0 C → C.2 = C0.2 → (∀ x, x < 2 ^ (s + 1) → gV C 17 0 x = nI (od s x)) →
    ∃ C', x_X1_orderPlaces_19 k (nI (2 ^ (t + 1))) C = C' ∧ ok_X1_orderPlaces_19 k (nI (2 ^ (t + 1))) C ∧ gV C' 1 0 2 = nI (2 ^ (t + 1)) ∧ Ag k17 C0 C' ∧ C'.2 = C0.2 ∧ (∀ x, x < 2 ^ (t + 1) → gV C' 17 0 x = nI (od t x))
  | 0, s, _, h, _, _, _, _, _ => absurd h (Nat.not_lt_zero _)
  | k + 1, s, C, hk, hs, h1, hA, h2, hx => by
    have p4 := pow4 (show s < 4 by omega)
    have pt := pow4 ht
    unfold x_X1_orderPlaces_19 ok_X1_orderPlaces_19
    rw [h1]
    by_cases c : s = t
    · subst c
      have hl := nI_le (Nat.le_refl (2 ^ (s + 1))) (show 2 ^ (s + 1) < 2 ^ 31 by omega)
      simp only [hl, ↓reduceIte]
      exact ⟨C, rfl, trivial, h1, hA, h2, hx⟩
    · have hlt : 2 ^ (s + 1) < 2 ^ (t + 1) := Nat.pow_lt_pow_right (by omega) (by omega)
      have hP8 : 2 ^ (s + 1) ≤ 8 := by
        have : 2 ^ (s + 1) ≤ 2 ^ 3 := Nat.pow_le_pow_right (by omega) (by omega)
        omega
      have hg := nI_ge hlt (show 2 ^ (t + 1) < 2 ^ 31 by omega)
      have e16 : (16 : Int32) = nI 16 := by decide
      have e2 : (2 : Int32) = nI 2 := by decide
      have hg16 : ¬ (16 : Int32) < 2 * nI (2 ^ (s + 1)) := by rw [e16, e2, pk_mul]; exact nI_nlt (by omega) (by omega)
      simp only [hg, hg16, ↓reduceIte]
      obtain ⟨C1, f1, f2, f3, f4, f5, f6⟩ := ord_in (K := x_X1_orderPlaces_19 k) (J := ok_X1_orderPlaces_19 k) (a1 := nI (2 ^ (t + 1))) (C0 := C0) hP8 (fun x hx => od_lt s x hx) fu (2 ^ (s + 1)) C (by rw [fuE]; omega) (Nat.le_refl _) h1 hA h2 hx (fun x a b => absurd b (by omega))
      have hpow : 2 * 2 ^ (s + 1) = 2 ^ (s + 1 + 1) := by rw [Nat.pow_succ 2 (s + 1)]; omega
      rw [hpow] at f3
      obtain ⟨C', g1, g2, g3, g4, g5, g6⟩ := ord_run ht (C0 := C0) k (s + 1) C1 (by omega) (by omega) f3 f4 f5 (fun x hx' => by
        have hlt2 : x / 2 < 2 ^ (s + 1) := by omega
        obtain ⟨y1, y2⟩ := f6 (x / 2) hlt2
        unfold od
        by_cases cx : x % 2 = 0
        · rw [if_pos cx, show x = 2 * (x / 2) by omega, y1]; rw [show 2 * (x / 2) / 2 = x / 2 by omega]
        · rw [if_neg cx]
          have ex : x = 2 * (x / 2) + 1 := by omega
          have hp2 : 2 ^ (s + 2) = 2 * 2 ^ (s + 1) := hpow.symm
          rw [hp2]
          have : gV C1 17 0 x = gV C1 17 0 (2 * (x / 2) + 1) := by rw [← ex]
          rw [this, y2])
      refine ⟨C', ?_, f2 g2, g3, g4, g5, g6⟩
      rw [f1]; exact g1
theorem order_c {t : Nat} (ht : t < 4) (C : St) : ∃ C', x_X1_orderPlaces (nI (2 ^ (t + 1))) C = C' ∧ ok_X1_orderPlaces (nI (2 ^ (t + 1))) C ∧ gV C' 1 0 2 = nI (2 ^ (t + 1)) ∧ Ag k17 C C' ∧ C'.2 = C.2 ∧ (∀ x, x < 2 ^ (t + 1) → gV C' 17 0 x = nI (od t x)) := by
  have c0 : ((0 : Int32)).toNatClampNeg = 0 := by decide
  have c1 : ((1 : Int32)).toNatClampNeg = 1 := by decide
  unfold x_X1_orderPlaces ok_X1_orderPlaces
  rw [c0, c1]
  obtain ⟨C', f1, f2, f3⟩ := ord_run ht (C0 := C) fu 0 (sV (sV (sV C 1 0 2 2) 17 0 0 0) 17 0 1 1) (by rw [fuE]; omega) (by omega) (by rw [gV_sV, if_neg (by decide), gV_sV, if_neg (by decide), gV_sV, if_pos ⟨rfl, rfl, rfl⟩]; rfl) (Ag_sV _ _ _ _ rfl (Ag_sV _ _ _ _ rfl (Ag_sV _ _ _ _ rfl (Ag.rf _ _)))) rfl (fun x hx => by
    have : x = 0 ∨ x = 1 := by omega
    rcases this with rfl | rfl
    · rw [gV_sV, if_neg (by decide), gV_sV, if_pos ⟨rfl, rfl, rfl⟩]; rfl
    · rw [gV_sV, if_pos ⟨rfl, rfl, rfl⟩]; rfl)
  exact ⟨C', f1, ⟨by unfold vp_in; decide, by unfold vp_in; decide, f2⟩, f3⟩
def k16 : Nat → Nat → Bool := fun c _ => !(c == 16)
def bye (V : Nat → Int32) (m : Nat) : Int32 := if V (2 * m) = -1 then V (2 * m + 1) else if V (2 * m + 1) = -1 then V (2 * m) else -1
/-- the nodes are emptied -/
theorem mf17 {P j : Nat} {C0 : St} (hP : P ≤ 16) : ∀ (k i : Nat) (C : St), P - i < k → i ≤ P → gV C 1 0 2 = nI P → Ag k16 C0 C → C.2 = C0.2 → (∀ x, x < i → gV C 16 0 x = -1) →
    ∃ C', x_X1_makeFrom_17 k j (nI i) C = x_X1_makeFrom_39 fu j 0 C' ∧ (ok_X1_makeFrom_39 fu j 0 C' → ok_X1_makeFrom_17 k j (nI i) C) ∧ Ag k16 C0 C' ∧ C'.2 = C0.2 ∧ (∀ x, x < P → gV C' 16 0 x = -1)
  | 0, i, _, h, _, _, _, _, _ => absurd h (Nat.not_lt_zero _)
  | k + 1, i, C, hk, hi, h1, hA, h2, hx => by
    unfold x_X1_makeFrom_17 ok_X1_makeFrom_17
    rw [h1]
    by_cases c : P ≤ i
    · have hl := nI_le c (show i < 2 ^ 31 by omega)
      rw [if_pos hl, if_pos hl]
      exact ⟨C, rfl, fun h => h, hA, h2, fun x h => hx x (by omega)⟩
    · have hg := nI_ge (show i < P by omega) (show P < 2 ^ 31 by omega)
      obtain ⟨p1, p2⟩ := put_k (C := C) (-1) (show i < 32 by omega)
      rw [if_neg hg, if_neg hg, p1]
      unfold x_X1_makeFrom_31 ok_X1_makeFrom_31
      rw [nI_1]
      obtain ⟨C', f1, f2, f3⟩ := mf17 (j := j) (C0 := C0) hP k (i + 1) (sV C 16 0 i (-1)) (by omega) (by omega) (by rw [gV_sV, if_neg (fun e => absurd e.1 (by decide))]; exact h1) (Ag_sV _ _ _ _ rfl hA) h2 (fun x hx' => by
        rw [gV_sV]
        by_cases cx : x = i
        · rw [if_pos ⟨rfl, cx, rfl⟩]
        · rw [if_neg (fun e => cx e.2.1)]; exact hx x (by omega))
      exact ⟨C', f1, fun h => ⟨p2, f2 h⟩, f3⟩
/-- the places are filled -/
theorem mf39 {P j : Nat} {C0 : St} {V : Nat → Int32} (hP : P ≤ 16) (h1 : gV C0 1 0 2 = nI P) (hV : ∀ C, Ag k16 C0 C → ∀ i, i < P → x_X5_rankedAt j (gV C 17 0 i) C = V i ∧ ok_X5_rankedAt j (gV C 17 0 i) C) : ∀ (k i : Nat) (C : St), P - i < k → i ≤ P → Ag k16 C0 C → C.2 = C0.2 → (∀ x, x < P → gV C 16 0 x = -1) → (∀ x, x < i → gV C 16 0 (P + x) = V x) →
    ∃ C', x_X1_makeFrom_39 k j (nI i) C = x_X1_makeFrom_79 C' ∧ (ok_X1_makeFrom_79 C' → ok_X1_makeFrom_39 k j (nI i) C) ∧ Ag k16 C0 C' ∧ C'.2 = C0.2 ∧ (∀ x, x < P → gV C' 16 0 x = -1) ∧ (∀ x, x < P → gV C' 16 0 (P + x) = V x)
  | 0, i, _, h, _, _, _, _, _ => absurd h (Nat.not_lt_zero _)
  | k + 1, i, C, hk, hi, hA, h2, hx, hy => by
    have hP' : gV C 1 0 2 = nI P := by rw [hA 1 0 2 rfl]; exact h1
    unfold x_X1_makeFrom_39 ok_X1_makeFrom_39
    rw [hP']
    by_cases c : P ≤ i
    · have hl := nI_le c (show i < 2 ^ 31 by omega)
      rw [if_pos hl, if_pos hl]
      exact ⟨C, rfl, fun h => h, hA, h2, hx, fun x h => hy x (by omega)⟩
    · have hg := nI_ge (show i < P by omega) (show P < 2 ^ 31 by omega)
      have e16 : (16 : Int32) = nI 16 := by decide
      have hg16 : ¬ (16 : Int32) ≤ nI i := by rw [e16]; exact nI_ge (by omega) (by omega)
      obtain ⟨v1, v2⟩ := hV C hA i (by omega)
      obtain ⟨p1, p2⟩ := put_k (C := C) (V i) (show P + i < 32 by omega)
      rw [if_neg hg, if_neg hg, if_neg hg16, if_neg hg16, nI_clamp (show i < 2 ^ 31 by omega), v1, nI_add, p1]
      unfold x_X1_makeFrom_73 ok_X1_makeFrom_73
      rw [nI_1]
      obtain ⟨C', f1, f2, f3⟩ := mf39 (j := j) (C0 := C0) (V := V) hP h1 hV k (i + 1) (sV C 16 0 (P + i) (V i)) (by omega) (by omega) (Ag_sV _ _ _ _ rfl hA) h2 (fun x hx' => by
        rw [gV_sV, if_neg (by omega)]; exact hx x hx') (fun x hx' => by
        rw [gV_sV]
        by_cases cx : x = i
        · rw [if_pos ⟨rfl, by omega, rfl⟩, cx]
        · rw [if_neg (by omega)]; exact hy x (by omega))
      exact ⟨C', f1, fun h => ⟨vp_in_nI (by omega) (by omega), v2, p2, f2 h⟩, f3⟩
/-- a node that one fencer comes to alone -/
theorem passBye_k {C : St} {q : Nat} (hq : q < 16) : x_X1_passBye (nI q) C = (if gV C 16 0 (2 * q) = -1 then sV C 16 0 q (gV C 16 0 (2 * q + 1)) else if gV C 16 0 (2 * q + 1) = -1 then sV C 16 0 q (gV C 16 0 (2 * q)) else C) ∧ ok_X1_passBye (nI q) C := by
  have e2 : (2 : Int32) * nI q = nI (2 * q) := by rw [show (2 : Int32) = nI 2 by decide, pk_mul]
  obtain ⟨a1, a2⟩ := at_k (C := C) (k := 2 * q) (by omega)
  obtain ⟨b1, b2⟩ := at_k (C := C) (k := 2 * q + 1) (by omega)
  have p : ∀ f, x_X1_put (nI q) f C = sV C 16 0 q f ∧ ok_X1_put (nI q) f C := fun f => put_k f (by omega)
  unfold x_X1_passBye ok_X1_passBye x_X1_passBye_28 ok_X1_passBye_28 x_X1_passBye_40 ok_X1_passBye_40
  rw [e2, nI_1, a1, b1]
  simp only [(p _).1, (p _).2, a2, b2, true_and, and_true, ite_self]
  by_cases c1 : gV C 16 0 (2 * q) = -1
  · simp only [c1, ↓reduceIte]
  · by_cases c2 : gV C 16 0 (2 * q + 1) = -1
    · simp only [c1, c2, ↓reduceIte]
    · simp only [c1, c2, ↓reduceIte]
theorem mf86 {H : Nat} {C0 : St} {V : Nat → Int32} (hH : H ≤ 8) (h1 : gV C0 1 0 2 = nI (2 * H)) : ∀ (k m : Nat) (C : St), H - m < k → m ≤ H → Ag k16 C0 C → C.2 = C0.2 → (∀ x, x < H → gV C 16 0 x = -1) → (∀ x, x < m → gV C 16 0 (H + x) = bye V x) → (∀ x, m ≤ x → x < H → gV C 16 0 (H + x) = -1) → (∀ x, x < 2 * H → gV C 16 0 (2 * H + x) = V x) →
    ∃ C', x_X1_makeFrom_86 k (nI (H + m)) C = C' ∧ ok_X1_makeFrom_86 k (nI (H + m)) C ∧ Ag k16 C0 C' ∧ C'.2 = C0.2 ∧ (∀ x, x < H → gV C' 16 0 x = -1) ∧ (∀ x, x < H → gV C' 16 0 (H + x) = bye V x) ∧ (∀ x, x < 2 * H → gV C' 16 0 (2 * H + x) = V x)
  | 0, m, _, h, _, _, _, _, _, _, _ => absurd h (Nat.not_lt_zero _)
  | k + 1, m, C, hk, hm, hA, h2, hx, hy, hz, hv => by
    have hP' : gV C 1 0 2 = nI (2 * H) := by rw [hA 1 0 2 rfl]; exact h1
    unfold x_X1_makeFrom_86 ok_X1_makeFrom_86
    rw [hP']
    by_cases c : H ≤ m
    · have hl := nI_le (show 2 * H ≤ H + m by omega) (show H + m < 2 ^ 31 by omega)
      rw [if_pos hl, if_pos hl]
      exact ⟨C, rfl, trivial, hA, h2, hx, fun x h => hy x (by omega), hv⟩
    · have hg := nI_ge (show H + m < 2 * H by omega) (show 2 * H < 2 ^ 31 by omega)
      obtain ⟨p1, p2⟩ := passBye_k (C := C) (q := H + m) (by omega)
      rw [if_neg hg, if_neg hg, p1]
      have q1 : gV C 16 0 (2 * (H + m)) = V (2 * m) := by rw [show 2 * (H + m) = 2 * H + 2 * m by omega]; exact hv _ (by omega)
      have q2 : gV C 16 0 (2 * (H + m) + 1) = V (2 * m + 1) := by rw [show 2 * (H + m) + 1 = 2 * H + (2 * m + 1) by omega]; exact hv _ (by omega)
      rw [q1, q2]
      unfold x_X1_makeFrom_99 ok_X1_makeFrom_99
      rw [nI_1]
      have step : ∀ D : St, Ag k16 C0 D → D.2 = C0.2 → (∀ x, gV D 16 0 x = if x = H + m then bye V m else gV C 16 0 x) → ∃ C', x_X1_makeFrom_86 k (nI (H + m + 1)) D = C' ∧ ok_X1_makeFrom_86 k (nI (H + m + 1)) D ∧ Ag k16 C0 C' ∧ C'.2 = C0.2 ∧ (∀ x, x < H → gV C' 16 0 x = -1) ∧ (∀ x, x < H → gV C' 16 0 (H + x) = bye V x) ∧ (∀ x, x < 2 * H → gV C' 16 0 (2 * H + x) = V x) := by
        intro D d1 d2 d3
        exact mf86 (C0 := C0) (V := V) hH h1 k (m + 1) D (by omega) (by omega) d1 d2 (fun x h => by rw [d3, if_neg (by omega)]; exact hx x h) (fun x h => by
          rw [d3]
          by_cases cx : x = m
          · rw [if_pos (by omega), cx]
          · rw [if_neg (by omega)]; exact hy x (by omega)) (fun x h h' => by rw [d3, if_neg (by omega)]; exact hz x (by omega) h') (fun x h => by rw [d3, if_neg (by omega)]; exact hv x h)
      have hm1 := hz m (Nat.le_refl _) (by omega)
      by_cases c1 : V (2 * m) = -1
      · rw [if_pos c1]
        obtain ⟨C', f1, f2, f3⟩ := step (sV C 16 0 (H + m) (V (2 * m + 1))) (Ag_sV _ _ _ _ rfl hA) h2 (fun x => by
          rw [gV_sV]; unfold bye; rw [if_pos c1]
          by_cases cx : x = H + m
          · rw [if_pos ⟨rfl, cx, rfl⟩, if_pos cx]
          · rw [if_neg (fun e => cx e.2.1), if_neg cx])
        exact ⟨C', f1, ⟨p2, f2⟩, f3⟩
      · rw [if_neg c1]
        by_cases c2 : V (2 * m + 1) = -1
        · rw [if_pos c2]
          obtain ⟨C', f1, f2, f3⟩ := step (sV C 16 0 (H + m) (V (2 * m))) (Ag_sV _ _ _ _ rfl hA) h2 (fun x => by
            rw [gV_sV]; unfold bye; rw [if_neg c1, if_pos c2]
            by_cases cx : x = H + m
            · rw [if_pos ⟨rfl, cx, rfl⟩, if_pos cx]
            · rw [if_neg (fun e => cx e.2.1), if_neg cx])
          exact ⟨C', f1, ⟨p2, f2⟩, f3⟩
        · rw [if_neg c2]
          obtain ⟨C', f1, f2, f3⟩ := step C hA h2 (fun x => by
            unfold bye; rw [if_neg c1, if_neg c2]
            by_cases cx : x = H + m
            · rw [if_pos cx, cx]; exact hm1
            · rw [if_neg cx])
          exact ⟨C', f1, ⟨p2, f2⟩, f3⟩
/-- the program's nodes -/
theorem nodes_c {H j : Nat} {C0 : St} {V : Nat → Int32} (hH : H ≤ 8) (h1 : gV C0 1 0 2 = nI (2 * H)) (hV : ∀ C, Ag k16 C0 C → ∀ i, i < 2 * H → x_X5_rankedAt j (gV C 17 0 i) C = V i ∧ ok_X5_rankedAt j (gV C 17 0 i) C) :
    ∃ C', x_X1_makeFrom_15 j C0 = C' ∧ ok_X1_makeFrom_15 j C0 ∧ Ag k16 C0 C' ∧ C'.2 = C0.2 ∧ (∀ x, x < H → gV C' 16 0 x = -1) ∧ (∀ x, x < H → gV C' 16 0 (H + x) = bye V x) ∧ (∀ x, x < 2 * H → gV C' 16 0 (2 * H + x) = V x) := by
  unfold x_X1_makeFrom_15 ok_X1_makeFrom_15
  obtain ⟨C1, f1, f2, f3, f4, f5⟩ := mf17 (j := j) (C0 := C0) (show 2 * H ≤ 16 by omega) fu 0 C0 (by rw [fuE]; omega) (by omega) h1 (Ag.rf _ _) rfl (fun x h => absurd h (Nat.not_lt_zero x))
  have f1 : x_X1_makeFrom_17 fu j 0 C0 = x_X1_makeFrom_39 fu j 0 C1 := f1
  have f2 : ok_X1_makeFrom_39 fu j 0 C1 → ok_X1_makeFrom_17 fu j 0 C0 := f2
  obtain ⟨C2, g1, g2, g3, g4, g5, g6⟩ := mf39 (j := j) (C0 := C0) (V := V) (show 2 * H ≤ 16 by omega) h1 hV fu 0 C1 (by rw [fuE]; omega) (by omega) f3 f4 f5 (fun x h => absurd h (Nat.not_lt_zero x))
  have g1 : x_X1_makeFrom_39 fu j 0 C1 = x_X1_makeFrom_79 C2 := g1
  have g2 : ok_X1_makeFrom_79 C2 → ok_X1_makeFrom_39 fu j 0 C1 := g2
  have hdiv : gV C2 1 0 2 / 2 = nI (H + 0) := by
    rw [g3 1 0 2 rfl, h1, show (2 : Int32) = nI 2 by decide, pk_div (by omega) (by omega) (by omega)]; rw [show 2 * H / 2 = H + 0 by omega]
  obtain ⟨C3, e1, e2, e3⟩ := mf86 (C0 := C0) (V := V) hH h1 fu 0 C2 (by rw [fuE]; omega) (by omega) g3 g4 (fun x h => g5 x (by omega)) (fun x h => absurd h (Nat.not_lt_zero x)) (fun x _ h => g5 (H + x) (by omega)) g6
  refine ⟨C3, ?_, f2 (g2 ?_), e3⟩
  · rw [f1, g1]; unfold x_X1_makeFrom_79; rw [hdiv]; exact e1
  · unfold ok_X1_makeFrom_79; rw [hdiv]; exact e2
end
