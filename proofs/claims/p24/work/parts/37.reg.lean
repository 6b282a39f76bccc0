noncomputable section

theorem reg_fix0 {C M : St} {c : Nat} {w : Int32} (h24 : c ≤ 24) (hc2 : gV M 8 0 17 = nI c) (hE : ∀ k, k < c → qE C M k) : ∀ (k i : Nat) (a3 a4 : Int32), c - i < k → i ≤ c → (a3 = -1 ∨ ∃ f : Nat, f < c ∧ a3 = nI f) → (a4 = -1 ∨ ∃ f : Nat, f < c ∧ a4 = nI f) → ¬ a3 = -1 →
    x_X8_registered_28 k 0 w a3 a4 (nI i) M = a3 ∧ ok_X8_registered_28 k 0 w a3 a4 (nI i) M
  | 0, i, a3, a4, hk, _, _, _, _ => absurd hk (Nat.not_lt_zero _)
  | k + 1, i, a3, a4, hk, hi, h3, h4, hs => by
    have ih := reg_fix0 (w := w) h24 hc2 hE k
    have z1 : ¬ (1 : Int32) = 0 := by decide
    have z2 : ¬ (0 : Int32) = 1 := by decide
    unfold x_X8_registered_28 ok_X8_registered_28
    rw [hc2]
    by_cases ci : c ≤ i
    · rw [if_pos (nI_le ci (by omega)), if_pos (nI_le ci (by omega))]
      refine ⟨?_, ?_⟩
      · first | rw [if_pos rfl] | rw [if_neg z1]
      · split <;> trivial
    have hi' : i < c := by omega
    have hv : vp_in (nI i) 24 := vp_in_nI (by omega) (by omega)
    have hnx : nI i + 1 = nI (i + 1) := nI_1 i
    rw [if_neg (nI_ge hi' (by omega)), if_neg (nI_ge hi' (by omega))]
    have hq := hE i hi'
    have hsd := hq.2.1
    -- not counted
    have no : ∀ s0 : Int32, s0 = 0 → x_X8_registered_93 (x_X8_registered_28 k) 0 w a3 a4 (nI i) s0 M = a3 ∧ ok_X8_registered_93 (ok_X8_registered_28 k) 0 w a3 a4 (nI i) s0 M := by
      intro s0 h0
      subst h0
      unfold x_X8_registered_93 ok_X8_registered_93 x_X8_registered_106 ok_X8_registered_106 x_X8_registered_124 ok_X8_registered_124 x_X8_registered_133 ok_X8_registered_133 x_X8_registered_210 ok_X8_registered_210
      rw [hnx]
      obtain ⟨g1, g2⟩ := ih (i + 1) a3 a4 (by omega) (by omega) h3 h4 hs
      simp only [↓reduceIte, g1, g2, hv, ite_self, true_and, and_self]
    have yes : x_X8_registered_93 (x_X8_registered_28 k) 0 w a3 a4 (nI i) 1 M = a3 ∧ ok_X8_registered_93 (ok_X8_registered_28 k) 0 w a3 a4 (nI i) 1 M := by
      obtain ⟨g1, g2⟩ := ih (i + 1) a3 a4 (by omega) (by omega) h3 h4 hs
      have hv2 : ∀ x : Int32, ¬ x = -1 → (x = -1 ∨ ∃ f : Nat, f < c ∧ x = nI f) → vp_in x 24 := by
        intro x hx h
        rcases h with h | ⟨f, hf, rfl⟩
        · exact absurd h hx
        · exact vp_in_nI (by omega) (by omega)
      have hset : ∀ (u v : Int32), (u = -1 ∨ ∃ f : Nat, f < c ∧ u = nI f) → (v = -1 ∨ ∃ f : Nat, f < c ∧ v = nI f) → u = a3 → x_X8_registered_28 k 0 w u v (nI i + 1) M = a3 ∧ ok_X8_registered_28 k 0 w u v (nI i + 1) M := by
        intro u v hu hv' e
        rw [hnx]
        obtain ⟨g1, g2⟩ := ih (i + 1) u v (by omega) (by omega) hu hv' (by rw [e]; exact hs)
        exact ⟨g1.trans e, g2⟩
      have hI : nI i = -1 ∨ ∃ f : Nat, f < c ∧ nI i = nI f := Or.inr ⟨i, hi', rfl⟩
      unfold x_X8_registered_93 ok_X8_registered_93 x_X8_registered_106 ok_X8_registered_106 x_X8_registered_124 ok_X8_registered_124 x_X8_registered_133 ok_X8_registered_133 x_X8_registered_173 ok_X8_registered_173 x_X8_registered_189 ok_X8_registered_189 x_X8_registered_208 ok_X8_registered_208 x_X8_registered_210 ok_X8_registered_210
      rw [nI_clamp (by omega)]
      obtain ⟨k1, k2⟩ := hset a3 a4 h3 h4 rfl
      rcases hsd with e | e
      · rw [e]
        simp only [z1, z2, ↓reduceIte, hv, true_and, k1, k2, ite_self]
        by_cases c3 : a3 = -1
        · exact absurd c3 hs
        · simp only [c3, ↓reduceIte, and_self, k1, k2, z1, z2]
      · rw [e]
        simp only [z1, z2, ↓reduceIte, hv, true_and, k1, k2, ite_self]
        by_cases c4 : a4 = -1
        · obtain ⟨m1, m2⟩ := hset a3 (nI i) h3 hI rfl
          have h33 := hv2 a3 hs h3
          simp only [c4, ↓reduceIte, and_self, hs, m1, m2, z1, z2, h33, true_and, hv]
          rw [c4] at k1 k2
          simp only [k1, k2, ite_self, and_self]
        · simp only [c4, ↓reduceIte, and_self, k1, k2, z1, z2, ite_self]
    obtain ⟨n1, n2⟩ := no 0 rfl
    obtain ⟨y1, y2⟩ := yes
    unfold x_X8_registered_92 ok_X8_registered_92 x_X8_registered_88 ok_X8_registered_88
    simp only [n1, n2, y1, y2, hv, ite_self, true_and, and_self]
theorem reg_fix1 {C M : St} {c : Nat} {w : Int32} (h24 : c ≤ 24) (hc2 : gV M 8 0 17 = nI c) (hE : ∀ k, k < c → qE C M k) : ∀ (k i : Nat) (a3 a4 : Int32), c - i < k → i ≤ c → (a3 = -1 ∨ ∃ f : Nat, f < c ∧ a3 = nI f) → (a4 = -1 ∨ ∃ f : Nat, f < c ∧ a4 = nI f) → ¬ a4 = -1 →
    x_X8_registered_28 k 1 w a3 a4 (nI i) M = a4 ∧ ok_X8_registered_28 k 1 w a3 a4 (nI i) M
  | 0, i, a3, a4, hk, _, _, _, _ => absurd hk (Nat.not_lt_zero _)
  | k + 1, i, a3, a4, hk, hi, h3, h4, hs => by
    have ih := reg_fix1 (w := w) h24 hc2 hE k
    have z1 : ¬ (1 : Int32) = 0 := by decide
    have z2 : ¬ (0 : Int32) = 1 := by decide
    unfold x_X8_registered_28 ok_X8_registered_28
    rw [hc2]
    by_cases ci : c ≤ i
    · rw [if_pos (nI_le ci (by omega)), if_pos (nI_le ci (by omega))]
      refine ⟨?_, ?_⟩
      · first | rw [if_pos rfl] | rw [if_neg z1]
      · split <;> trivial
    have hi' : i < c := by omega
    have hv : vp_in (nI i) 24 := vp_in_nI (by omega) (by omega)
    have hnx : nI i + 1 = nI (i + 1) := nI_1 i
    rw [if_neg (nI_ge hi' (by omega)), if_neg (nI_ge hi' (by omega))]
    have hq := hE i hi'
    have hsd := hq.2.1
    -- not counted
    have no : ∀ s0 : Int32, s0 = 0 → x_X8_registered_93 (x_X8_registered_28 k) 1 w a3 a4 (nI i) s0 M = a4 ∧ ok_X8_registered_93 (ok_X8_registered_28 k) 1 w a3 a4 (nI i) s0 M := by
      intro s0 h0
      subst h0
      unfold x_X8_registered_93 ok_X8_registered_93 x_X8_registered_106 ok_X8_registered_106 x_X8_registered_124 ok_X8_registered_124 x_X8_registered_133 ok_X8_registered_133 x_X8_registered_210 ok_X8_registered_210
      rw [hnx]
      obtain ⟨g1, g2⟩ := ih (i + 1) a3 a4 (by omega) (by omega) h3 h4 hs
      simp only [↓reduceIte, g1, g2, hv, ite_self, true_and, and_self]
    have yes : x_X8_registered_93 (x_X8_registered_28 k) 1 w a3 a4 (nI i) 1 M = a4 ∧ ok_X8_registered_93 (ok_X8_registered_28 k) 1 w a3 a4 (nI i) 1 M := by
      obtain ⟨g1, g2⟩ := ih (i + 1) a3 a4 (by omega) (by omega) h3 h4 hs
      have hv2 : ∀ x : Int32, ¬ x = -1 → (x = -1 ∨ ∃ f : Nat, f < c ∧ x = nI f) → vp_in x 24 := by
        intro x hx h
        rcases h with h | ⟨f, hf, rfl⟩
        · exact absurd h hx
        · exact vp_in_nI (by omega) (by omega)
      have hset : ∀ (u v : Int32), (u = -1 ∨ ∃ f : Nat, f < c ∧ u = nI f) → (v = -1 ∨ ∃ f : Nat, f < c ∧ v = nI f) → v = a4 → x_X8_registered_28 k 1 w u v (nI i + 1) M = a4 ∧ ok_X8_registered_28 k 1 w u v (nI i + 1) M := by
        intro u v hu hv' e
        rw [hnx]
        obtain ⟨g1, g2⟩ := ih (i + 1) u v (by omega) (by omega) hu hv' (by rw [e]; exact hs)
        exact ⟨g1.trans e, g2⟩
      have hI : nI i = -1 ∨ ∃ f : Nat, f < c ∧ nI i = nI f := Or.inr ⟨i, hi', rfl⟩
      unfold x_X8_registered_93 ok_X8_registered_93 x_X8_registered_106 ok_X8_registered_106 x_X8_registered_124 ok_X8_registered_124 x_X8_registered_133 ok_X8_registered_133 x_X8_registered_173 ok_X8_registered_173 x_X8_registered_189 ok_X8_registered_189 x_X8_registered_208 ok_X8_registered_208 x_X8_registered_210 ok_X8_registered_210
      rw [nI_clamp (by omega)]
      obtain ⟨k1, k2⟩ := hset a3 a4 h3 h4 rfl
      rcases hsd with e | e
      · rw [e]
        simp only [z1, z2, ↓reduceIte, hv, true_and, k1, k2, ite_self]
        by_cases c3 : a3 = -1
        · obtain ⟨m1, m2⟩ := hset (nI i) a4 hI h4 rfl
          have h33 := hv2 a4 hs h4
          simp only [c3, ↓reduceIte, and_self, hs, m1, m2, z1, z2, h33, true_and, hv]
          rw [c3] at k1 k2
          simp only [k1, k2, ite_self, and_self]
        · simp only [c3, ↓reduceIte, and_self, k1, k2, z1, z2]
      · rw [e]
        simp only [z1, z2, ↓reduceIte, hv, true_and, k1, k2, ite_self]
        by_cases c4 : a4 = -1
        · exact absurd c4 hs
        · simp only [c4, ↓reduceIte, and_self, k1, k2, z1, z2, ite_self]
    obtain ⟨n1, n2⟩ := no 0 rfl
    obtain ⟨y1, y2⟩ := yes
    unfold x_X8_registered_92 ok_X8_registered_92 x_X8_registered_88 ok_X8_registered_88
    simp only [n1, n2, y1, y2, hv, ite_self, true_and, and_self]

theorem reg_run0 {C M : St} {c : Nat} {w : Int32} (h24 : c ≤ 24) (hc1 : gV C 4 0 6 = nI c) (hc2 : gV M 8 0 17 = nI c) (hE : ∀ k, k < c → qE C M k) : ∀ (k i : Nat) (a : Int32), c - i < k → i ≤ c → (a = -1 ∨ ∃ f : Nat, f < c ∧ a = nI f) →
    (x_X4_registered_5 k 0 w a (nI i) C = x_X8_registered_28 k 0 w (-1) a (nI i) M ∧ ok_X4_registered_5 k 0 w a (nI i) C ∧ ok_X8_registered_28 k 0 w (-1) a (nI i) M) ∧ (x_X4_registered_5 k 0 w a (nI i) C = -1 ∨ ∃ f : Nat, f < c ∧ x_X4_registered_5 k 0 w a (nI i) C = nI f)
  | 0, i, a, hk, _, _ => absurd hk (Nat.not_lt_zero _)
  | k + 1, i, a, hk, hi, ha => by
    have ih := reg_run0 (w := w) h24 hc1 hc2 hE k
    have z1 : ¬ (1 : Int32) = 0 := by decide
    have z2 : ¬ (0 : Int32) = 1 := by decide
    unfold x_X8_registered_28 ok_X8_registered_28 x_X4_registered_5 ok_X4_registered_5
    rw [hc1, hc2]
    by_cases ci : c ≤ i
    · have hl := nI_le ci (show i < 2 ^ 31 by omega)
      simp only [hl, ↓reduceIte, z1, z2, ite_self, true_or, and_self]
    have hi' : i < c := by omega
    have hv : vp_in (nI i) 24 := vp_in_nI (by omega) (by omega)
    have hnx : nI i + 1 = nI (i + 1) := nI_1 i
    have hge := nI_ge hi' (show c < 2 ^ 31 by omega)
    have hent := isEntry_pos hc1 h24 hi'
    have hq := hE i hi'
    have hsd := hq.2.1
    have hpi : ¬ nI i = -1 := by
      intro e
      have := nI_toInt (n := i) (by omega); rw [e] at this
      have h2 : ((-1 : Int32)).toInt = -1 := by decide
      omega
    have hI : nI i = -1 ∨ ∃ f : Nat, f < c ∧ nI i = nI f := Or.inr ⟨i, hi', rfl⟩
    have hll : x_X4_lockout w C = x_X8_locks w M := rfl
    -- the one that could register
    have cr : x_X4_couldRegister (nI i) w C = (if gV M 32 0 i = 7 then (if gV M 34 0 i < x_X8_least w M then 0 else if gV M 35 0 i = 0 then 1 else if w = 0 then (if gV M 35 0 i = 1 then 1 else 0) else 0) else 0) := by
      unfold x_X4_couldRegister x_X4_couldRegister_31 x_X4_couldRegister_56 x_X4_couldRegister_60
      rw [hent, nI_clamp (by omega)]
      have hls : x_X4_leastSpan w C = x_X8_least w M := rfl
      obtain ⟨-, -, -, -, hk⟩ := hq
      rcases hk with ⟨e1, e2, e3, e4⟩ | ⟨e1, a, ha, e2⟩
      · simp only [e1, e2, e3, e4, hls, z1, ↓reduceIte]
        by_cases cs : gV M 34 0 i < x_X8_least w M
        · rw [if_pos cs, if_neg (by rw [Int32.not_le]; exact cs)]
        · rw [if_neg cs, if_pos (by rw [Int32.not_lt] at cs; exact cs)]
      · have n7 : ¬ nI a = 7 := by
          have e : (7 : Int32) = nI 7 := by decide
          rw [e]; intro h; have := (nI_eq (by omega) (by omega)).mp h; omega
        have nm : ¬ nI a = -1 := by
          intro e
          have := nI_toInt (n := a) (by omega); rw [e] at this
          have h2 : ((-1 : Int32)).toInt = -1 := by decide
          omega
        rw [e1, e2, if_neg z1, if_neg nm, if_neg n7]
    have okc : ok_X4_couldRegister (nI i) w C := by
      unfold ok_X4_couldRegister ok_X4_couldRegister_31 ok_X4_couldRegister_56 ok_X4_couldRegister_60
      rw [hent]
      simp only [z1, ↓reduceIte, hv, true_and]
      repeat' split
      all_goals trivial
    obtain ⟨⟨g1, g2, g3⟩, g4⟩ := ih (i + 1) a (by omega) (by omega) ha
    -- not counted
    have no : x_X4_registered_5 k 0 w a (nI i + 1) C = x_X8_registered_93 (x_X8_registered_28 k) 0 w (-1) a (nI i) 0 M ∧ ok_X8_registered_93 (ok_X8_registered_28 k) 0 w (-1) a (nI i) 0 M := by
      unfold x_X8_registered_93 ok_X8_registered_93 x_X8_registered_106 ok_X8_registered_106 x_X8_registered_124 ok_X8_registered_124 x_X8_registered_133 ok_X8_registered_133 x_X8_registered_210 ok_X8_registered_210
      rw [hnx]
      simp only [↓reduceIte, g1, g3, hv, ite_self, true_and, and_self]
    have hv2 : ¬ a = -1 → vp_in a 24 := by
      intro hx
      rcases ha with h | ⟨f, hf, rfl⟩
      · exact absurd h hx
      · exact vp_in_nI (by omega) (by omega)
    have hta : ¬ a = -1 → x_X4_timeAt a C = gV M 33 0 a.toNatClampNeg ∧ ok_X4_timeAt a C := by
      intro hx
      rcases ha with h | ⟨f, hf, rfl⟩
      · exact absurd h hx
      · rw [timeAt_k hc1 h24 hf, nI_clamp (by omega)]; exact ⟨(hE f hf).2.2.1, ok_timeAt h24 hf⟩
    have hti : x_X4_timeAt (nI i) C = gV M 33 0 i := by rw [timeAt_k hc1 h24 hi']; exact hq.2.2.1
    have oti : ok_X4_timeAt (nI i) C := ok_timeAt h24 hi'
    have hzero : ∀ x : Int32, ¬ x_X8_locks w M < x - x := by
      intro x
      rw [Int32.sub_self]
      unfold x_X8_locks
      repeat' split
      all_goals decide
    -- counted, first so far a
    have yes : (if a = -1 then x_X4_registered_44 (x_X4_registered_5 k) 0 w (nI i) (nI i) C else x_X4_registered_44 (x_X4_registered_5 k) 0 w (nI i) a C) = x_X8_registered_93 (x_X8_registered_28 k) 0 w (-1) a (nI i) 1 M ∧ (if a = -1 then ok_X4_registered_44 (ok_X4_registered_5 k) 0 w (nI i) (nI i) C else ok_X4_registered_44 (ok_X4_registered_5 k) 0 w (nI i) a C) ∧ ok_X8_registered_93 (ok_X8_registered_28 k) 0 w (-1) a (nI i) 1 M ∧
        ((if a = -1 then x_X4_registered_44 (x_X4_registered_5 k) 0 w (nI i) (nI i) C else x_X4_registered_44 (x_X4_registered_5 k) 0 w (nI i) a C) = -1 ∨ ∃ f : Nat, f < c ∧ (if a = -1 then x_X4_registered_44 (x_X4_registered_5 k) 0 w (nI i) (nI i) C else x_X4_registered_44 (x_X4_registered_5 k) 0 w (nI i) a C) = nI f) := by
      obtain ⟨f1, f2⟩ := reg_fix0 (w := w) h24 hc2 hE k (i + 1) (nI i) a (by omega) (by omega) hI ha hpi
      have fg : ∀ b : Int32, b = nI i → x_X4_registered_79 (x_X4_registered_5 k) 0 w b (nI i) C = x_X8_registered_28 k 0 w (-1) b (nI (i + 1)) M ∧ ok_X4_registered_79 (ok_X4_registered_5 k) 0 w b (nI i) C ∧ ok_X8_registered_28 k 0 w (-1) b (nI (i + 1)) M ∧ (x_X4_registered_79 (x_X4_registered_5 k) 0 w b (nI i) C = -1 ∨ ∃ f : Nat, f < c ∧ x_X4_registered_79 (x_X4_registered_5 k) 0 w b (nI i) C = nI f) := by
        intro b hb
        subst hb
        obtain ⟨⟨j1, j2, j3⟩, j4⟩ := ih (i + 1) (nI i) (by omega) (by omega) hI
        unfold x_X4_registered_79 ok_X4_registered_79
        rw [hnx]
        exact ⟨j1, j2, j3, j4⟩
      obtain ⟨j1, j2, j3, j4⟩ := fg (nI i) rfl
      have q0 : x_X4_registered_79 (x_X4_registered_5 k) 0 w a (nI i) C = x_X8_registered_28 k 0 w (-1) a (nI (i + 1)) M ∧ ok_X4_registered_79 (ok_X4_registered_5 k) 0 w a (nI i) C ∧ (x_X4_registered_79 (x_X4_registered_5 k) 0 w a (nI i) C = -1 ∨ ∃ f : Nat, f < c ∧ x_X4_registered_79 (x_X4_registered_5 k) 0 w a (nI i) C = nI f) := by
        unfold x_X4_registered_79 ok_X4_registered_79
        rw [hnx]
        exact ⟨g1, g2, g4⟩
      obtain ⟨q1, q2, q3⟩ := q0
      unfold x_X8_registered_93 ok_X8_registered_93 x_X8_registered_106 ok_X8_registered_106 x_X8_registered_124 ok_X8_registered_124 x_X8_registered_133 ok_X8_registered_133 x_X8_registered_173 ok_X8_registered_173 x_X8_registered_189 ok_X8_registered_189 x_X8_registered_208 ok_X8_registered_208 x_X8_registered_210 ok_X8_registered_210 x_X4_registered_44 ok_X4_registered_44
      rw [nI_clamp (by omega), hq.1, hq.2.2.1, hti, hll, hnx]
      have hz := hzero (gV M 33 0 i)
      have mm : ¬ (-1 : Int32) = nI i := fun h => hpi h.symm
      rcases hsd with e | e
      · rw [e]
        by_cases ca : a = -1
        · subst ca
          simp only [z1, z2, ↓reduceIte, hv, true_and, ite_self, hz, f1, f2, j1, j2, j3, oti, and_self, and_true]
          exact hI
        · obtain ⟨t1, t2⟩ := hta ca
          have hva := hv2 ca
          simp only [z1, z2, ca, t1, t2, hva, ↓reduceIte, hv, true_and, ite_self, f1, f2, q1, q2, g3, and_self, and_true]
          split
          · rw [q1] at q3; exact q3
          · exact hI
      · rw [e]
        by_cases ca : a = -1
        · subst ca
          simp only [z1, z2, ↓reduceIte, hv, true_and, ite_self, hz, f1, f2, j1, j2, j3, oti, and_self, and_true]
          rw [j1] at j4; exact j4
        · obtain ⟨t1, t2⟩ := hta ca
          have hva := hv2 ca
          simp only [z1, z2, ca, t1, t2, hva, ↓reduceIte, hv, true_and, ite_self, f1, f2, q1, q2, g3, and_self, and_true]
          rw [q1] at q3; exact q3
    obtain ⟨y1, y2, y3, y4⟩ := yes
    obtain ⟨n1, n2⟩ := no
    have n79 : x_X4_registered_79 (x_X4_registered_5 k) 0 w a (nI i) C = x_X8_registered_93 (x_X8_registered_28 k) 0 w (-1) a (nI i) 0 M := n1
    have n79o : ok_X4_registered_79 (ok_X4_registered_5 k) 0 w a (nI i) C := by unfold ok_X4_registered_79; rw [hnx]; exact g2
    have n79r : (x_X4_registered_79 (x_X4_registered_5 k) 0 w a (nI i) C = -1 ∨ ∃ f : Nat, f < c ∧ x_X4_registered_79 (x_X4_registered_5 k) 0 w a (nI i) C = nI f) := by unfold x_X4_registered_79; rw [hnx]; exact g4
    rw [n79] at n79r
    rw [y1] at y4
    unfold x_X8_registered_92 ok_X8_registered_92 x_X8_registered_88 ok_X8_registered_88
    simp only [hge, hent, z1, cr, okc, n79, n79o, y1, y2, y3, n2, nI_clamp (show i < 2 ^ 31 by omega), hv, true_and, ↓reduceIte]
    repeat' split
    all_goals simp_all
theorem reg_run1 {C M : St} {c : Nat} {w : Int32} (h24 : c ≤ 24) (hc1 : gV C 4 0 6 = nI c) (hc2 : gV M 8 0 17 = nI c) (hE : ∀ k, k < c → qE C M k) : ∀ (k i : Nat) (a : Int32), c - i < k → i ≤ c → (a = -1 ∨ ∃ f : Nat, f < c ∧ a = nI f) →
    (x_X4_registered_5 k 1 w a (nI i) C = x_X8_registered_28 k 1 w a (-1) (nI i) M ∧ ok_X4_registered_5 k 1 w a (nI i) C ∧ ok_X8_registered_28 k 1 w a (-1) (nI i) M) ∧ (x_X4_registered_5 k 1 w a (nI i) C = -1 ∨ ∃ f : Nat, f < c ∧ x_X4_registered_5 k 1 w a (nI i) C = nI f)
  | 0, i, a, hk, _, _ => absurd hk (Nat.not_lt_zero _)
  | k + 1, i, a, hk, hi, ha => by
    have ih := reg_run1 (w := w) h24 hc1 hc2 hE k
    have z1 : ¬ (1 : Int32) = 0 := by decide
    have z2 : ¬ (0 : Int32) = 1 := by decide
    unfold x_X8_registered_28 ok_X8_registered_28 x_X4_registered_5 ok_X4_registered_5
    rw [hc1, hc2]
    by_cases ci : c ≤ i
    · have hl := nI_le ci (show i < 2 ^ 31 by omega)
      simp only [hl, ↓reduceIte, z1, z2, ite_self, true_or, and_self]
    have hi' : i < c := by omega
    have hv : vp_in (nI i) 24 := vp_in_nI (by omega) (by omega)
    have hnx : nI i + 1 = nI (i + 1) := nI_1 i
    have hge := nI_ge hi' (show c < 2 ^ 31 by omega)
    have hent := isEntry_pos hc1 h24 hi'
    have hq := hE i hi'
    have hsd := hq.2.1
    have hpi : ¬ nI i = -1 := by
      intro e
      have := nI_toInt (n := i) (by omega); rw [e] at this
      have h2 : ((-1 : Int32)).toInt = -1 := by decide
      omega
    have hI : nI i = -1 ∨ ∃ f : Nat, f < c ∧ nI i = nI f := Or.inr ⟨i, hi', rfl⟩
    have hll : x_X4_lockout w C = x_X8_locks w M := rfl
    -- the one that could register
    have cr : x_X4_couldRegister (nI i) w C = (if gV M 32 0 i = 7 then (if gV M 34 0 i < x_X8_least w M then 0 else if gV M 35 0 i = 0 then 1 else if w = 0 then (if gV M 35 0 i = 1 then 1 else 0) else 0) else 0) := by
      unfold x_X4_couldRegister x_X4_couldRegister_31 x_X4_couldRegister_56 x_X4_couldRegister_60
      rw [hent, nI_clamp (by omega)]
      have hls : x_X4_leastSpan w C = x_X8_least w M := rfl
      obtain ⟨-, -, -, -, hk⟩ := hq
      rcases hk with ⟨e1, e2, e3, e4⟩ | ⟨e1, a, ha, e2⟩
      · simp only [e1, e2, e3, e4, hls, z1, ↓reduceIte]
        by_cases cs : gV M 34 0 i < x_X8_least w M
        · rw [if_pos cs, if_neg (by rw [Int32.not_le]; exact cs)]
        · rw [if_neg cs, if_pos (by rw [Int32.not_lt] at cs; exact cs)]
      · have n7 : ¬ nI a = 7 := by
          have e : (7 : Int32) = nI 7 := by decide
          rw [e]; intro h; have := (nI_eq (by omega) (by omega)).mp h; omega
        have nm : ¬ nI a = -1 := by
          intro e
          have := nI_toInt (n := a) (by omega); rw [e] at this
          have h2 : ((-1 : Int32)).toInt = -1 := by decide
          omega
        rw [e1, e2, if_neg z1, if_neg nm, if_neg n7]
    have okc : ok_X4_couldRegister (nI i) w C := by
      unfold ok_X4_couldRegister ok_X4_couldRegister_31 ok_X4_couldRegister_56 ok_X4_couldRegister_60
      rw [hent]
      simp only [z1, ↓reduceIte, hv, true_and]
      repeat' split
      all_goals trivial
    obtain ⟨⟨g1, g2, g3⟩, g4⟩ := ih (i + 1) a (by omega) (by omega) ha
    -- not counted
    have no : x_X4_registered_5 k 1 w a (nI i + 1) C = x_X8_registered_93 (x_X8_registered_28 k) 1 w a (-1) (nI i) 0 M ∧ ok_X8_registered_93 (ok_X8_registered_28 k) 1 w a (-1) (nI i) 0 M := by
      unfold x_X8_registered_93 ok_X8_registered_93 x_X8_registered_106 ok_X8_registered_106 x_X8_registered_124 ok_X8_registered_124 x_X8_registered_133 ok_X8_registered_133 x_X8_registered_210 ok_X8_registered_210
      rw [hnx]
      simp only [↓reduceIte, g1, g3, hv, ite_self, true_and, and_self]
    have hv2 : ¬ a = -1 → vp_in a 24 := by
      intro hx
      rcases ha with h | ⟨f, hf, rfl⟩
      · exact absurd h hx
      · exact vp_in_nI (by omega) (by omega)
    have hta : ¬ a = -1 → x_X4_timeAt a C = gV M 33 0 a.toNatClampNeg ∧ ok_X4_timeAt a C := by
      intro hx
      rcases ha with h | ⟨f, hf, rfl⟩
      · exact absurd h hx
      · rw [timeAt_k hc1 h24 hf, nI_clamp (by omega)]; exact ⟨(hE f hf).2.2.1, ok_timeAt h24 hf⟩
    have hti : x_X4_timeAt (nI i) C = gV M 33 0 i := by rw [timeAt_k hc1 h24 hi']; exact hq.2.2.1
    have oti : ok_X4_timeAt (nI i) C := ok_timeAt h24 hi'
    have hzero : ∀ x : Int32, ¬ x_X8_locks w M < x - x := by
      intro x
      rw [Int32.sub_self]
      unfold x_X8_locks
      repeat' split
      all_goals decide
    -- counted, first so far a
    have yes : (if a = -1 then x_X4_registered_44 (x_X4_registered_5 k) 1 w (nI i) (nI i) C else x_X4_registered_44 (x_X4_registered_5 k) 1 w (nI i) a C) = x_X8_registered_93 (x_X8_registered_28 k) 1 w a (-1) (nI i) 1 M ∧ (if a = -1 then ok_X4_registered_44 (ok_X4_registered_5 k) 1 w (nI i) (nI i) C else ok_X4_registered_44 (ok_X4_registered_5 k) 1 w (nI i) a C) ∧ ok_X8_registered_93 (ok_X8_registered_28 k) 1 w a (-1) (nI i) 1 M ∧
        ((if a = -1 then x_X4_registered_44 (x_X4_registered_5 k) 1 w (nI i) (nI i) C else x_X4_registered_44 (x_X4_registered_5 k) 1 w (nI i) a C) = -1 ∨ ∃ f : Nat, f < c ∧ (if a = -1 then x_X4_registered_44 (x_X4_registered_5 k) 1 w (nI i) (nI i) C else x_X4_registered_44 (x_X4_registered_5 k) 1 w (nI i) a C) = nI f) := by
      obtain ⟨f1, f2⟩ := reg_fix1 (w := w) h24 hc2 hE k (i + 1) a (nI i) (by omega) (by omega) ha hI hpi
      have fg : ∀ b : Int32, b = nI i → x_X4_registered_79 (x_X4_registered_5 k) 1 w b (nI i) C = x_X8_registered_28 k 1 w b (-1) (nI (i + 1)) M ∧ ok_X4_registered_79 (ok_X4_registered_5 k) 1 w b (nI i) C ∧ ok_X8_registered_28 k 1 w b (-1) (nI (i + 1)) M ∧ (x_X4_registered_79 (x_X4_registered_5 k) 1 w b (nI i) C = -1 ∨ ∃ f : Nat, f < c ∧ x_X4_registered_79 (x_X4_registered_5 k) 1 w b (nI i) C = nI f) := by
        intro b hb
        subst hb
        obtain ⟨⟨j1, j2, j3⟩, j4⟩ := ih (i + 1) (nI i) (by omega) (by omega) hI
        unfold x_X4_registered_79 ok_X4_registered_79
        rw [hnx]
        exact ⟨j1, j2, j3, j4⟩
      obtain ⟨j1, j2, j3, j4⟩ := fg (nI i) rfl
      have q0 : x_X4_registered_79 (x_X4_registered_5 k) 1 w a (nI i) C = x_X8_registered_28 k 1 w a (-1) (nI (i + 1)) M ∧ ok_X4_registered_79 (ok_X4_registered_5 k) 1 w a (nI i) C ∧ (x_X4_registered_79 (x_X4_registered_5 k) 1 w a (nI i) C = -1 ∨ ∃ f : Nat, f < c ∧ x_X4_registered_79 (x_X4_registered_5 k) 1 w a (nI i) C = nI f) := by
        unfold x_X4_registered_79 ok_X4_registered_79
        rw [hnx]
        exact ⟨g1, g2, g4⟩
      obtain ⟨q1, q2, q3⟩ := q0
      unfold x_X8_registered_93 ok_X8_registered_93 x_X8_registered_106 ok_X8_registered_106 x_X8_registered_124 ok_X8_registered_124 x_X8_registered_133 ok_X8_registered_133 x_X8_registered_173 ok_X8_registered_173 x_X8_registered_189 ok_X8_registered_189 x_X8_registered_208 ok_X8_registered_208 x_X8_registered_210 ok_X8_registered_210 x_X4_registered_44 ok_X4_registered_44
      rw [nI_clamp (by omega), hq.1, hq.2.2.1, hti, hll, hnx]
      have hz := hzero (gV M 33 0 i)
      have mm : ¬ (-1 : Int32) = nI i := fun h => hpi h.symm
      rcases hsd with e | e
      · rw [e]
        by_cases ca : a = -1
        · subst ca
          simp only [z1, z2, ↓reduceIte, hv, true_and, ite_self, hz, f1, f2, j1, j2, j3, oti, and_self, and_true]
          rw [j1] at j4; exact j4
        · obtain ⟨t1, t2⟩ := hta ca
          have hva := hv2 ca
          simp only [z1, z2, ca, t1, t2, hva, ↓reduceIte, hv, true_and, ite_self, f1, f2, q1, q2, g3, and_self, and_true]
          rw [q1] at q3; exact q3
      · rw [e]
        by_cases ca : a = -1
        · subst ca
          simp only [z1, z2, ↓reduceIte, hv, true_and, ite_self, hz, f1, f2, j1, j2, j3, oti, and_self, and_true]
          exact hI
        · obtain ⟨t1, t2⟩ := hta ca
          have hva := hv2 ca
          simp only [z1, z2, ca, t1, t2, hva, ↓reduceIte, hv, true_and, ite_self, f1, f2, q1, q2, g3, and_self, and_true]
          split
          · rw [q1] at q3; exact q3
          · exact hI
    obtain ⟨y1, y2, y3, y4⟩ := yes
    obtain ⟨n1, n2⟩ := no
    have n79 : x_X4_registered_79 (x_X4_registered_5 k) 1 w a (nI i) C = x_X8_registered_93 (x_X8_registered_28 k) 1 w a (-1) (nI i) 0 M := n1
    have n79o : ok_X4_registered_79 (ok_X4_registered_5 k) 1 w a (nI i) C := by unfold ok_X4_registered_79; rw [hnx]; exact g2
    have n79r : (x_X4_registered_79 (x_X4_registered_5 k) 1 w a (nI i) C = -1 ∨ ∃ f : Nat, f < c ∧ x_X4_registered_79 (x_X4_registered_5 k) 1 w a (nI i) C = nI f) := by unfold x_X4_registered_79; rw [hnx]; exact g4
    rw [n79] at n79r
    rw [y1] at y4
    unfold x_X8_registered_92 ok_X8_registered_92 x_X8_registered_88 ok_X8_registered_88
    simp only [hge, hent, z1, cr, okc, n79, n79o, y1, y2, y3, n2, nI_clamp (show i < 2 ^ 31 by omega), hv, true_and, ↓reduceIte]
    repeat' split
    all_goals simp_all
end
