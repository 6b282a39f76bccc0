def KE (κ κ' : KP) : Prop := kD κ' = kD κ ∧ kC κ' = kC κ ∧ kB κ' = kB κ ∧ ∀ c n, lv κ c n → lv κ' c n ∧ kA κ' c n = kA κ c n
def QE (κ : KP) (γ : St) (n : Nat) (v : Option Value) (nb np : Nat) : Array Value → State → Outcome → State → Prop := fun _ st o t => n = 0 ∧ o = .returned v ∧ (∃ κ', KE κ κ' ∧ kN κ' = nb ∧ kO κ' = np ∧ HR κ' γ t.heap) ∧ va_F (AA κ) st t
theorem HR.grow {κ : KP} {γ : St} {H H1 : Heap} (h : HR κ γ H) (hq : ∀ q : Nat, q < H.size → H1[q]? = H[q]?) : HR κ γ H1 := ⟨fun c n hl => ⟨(h.1 c n hl).1.kept (hq _ (h.lt hl)), (h.1 c n hl).2⟩, h.2⟩
theorem lv_big {κ : KP} {c n : Nat} (h : lv κ (c + 20) n) : False := by
  unfold lv at h
  rw [if_neg (by omega), if_neg (by omega), if_neg (by omega)] at h
  omega
theorem cel_ext {κ κ' : KP} {γ : St} (hC : kC κ' = kC κ) (h : ∀ c n, lv κ c n → kA κ' c n = kA κ c n) (hw : WT κ γ) {c n : Nat} (hl : lv κ c n) : cel κ' γ c n = cel κ γ c n := by
  unfold cel
  rw [hC]
  match c, hl with
  | 0, hl => simp only [cel0, h 2 _ (lv_c0 hl), h 2 _ (lv_c1 hl)]
  | 1, hl => have e := lv_u1 n hl; subst e; simp only [cel0, h 16 0 lv_16, h 17 0 lv_17]
  | 2, hl => rfl
  | 3, hl => rfl
  | 4, hl => have e := lv_u4 n hl; subst e; simp only [cel0, h 11 0 lv_11, h 12 0 lv_12, h 13 0 lv_13, h 14 0 lv_14, h 15 0 lv_15, h 6 0 lv_6]
  | 5, hl => simp only [cel0, h 18 n hl, h 19 n hl]
  | 6, hl => rfl
  | 7, hl =>
    have e : (gR γ 7 8).map (kA κ' 0) = (gR γ 7 8).map (kA κ 0) := by
      cases hj : gR γ 7 8 with
      | none => rfl
      | some b => simp only [Option.map]; rw [h 0 b (hw 7 8 b hj)]
    simp only [cel0, e, h 9 0 lv_9, h 10 0 lv_10, h 4 0 lv_4, h 1 0 lv_1, h 3 0 lv_3]
  | 8, hl => exact absurd rfl (show 8 ≠ 8 from hl.1.2)
  | 9, hl =>
    have e : (fun j => (gR γ 9 j).map (kA κ' 0)) = (fun j => (gR γ 9 j).map (kA κ 0)) := by
      funext j
      cases hj : gR γ 9 j with
      | none => rfl
      | some b => simp only [Option.map]; rw [h 0 b (hw 9 j b hj)]
    simp only [cel0, e]
  | 10, hl =>
    have e : (fun j => (gR γ 10 j).map (kA κ' 5)) = (fun j => (gR γ 10 j).map (kA κ 5)) := by
      funext j
      cases hj : gR γ 10 j with
      | none => rfl
      | some b => simp only [Option.map]; rw [h 5 b (hw 10 j b hj)]
    simp only [cel0, e]
  | 11, hl => rfl
  | 12, hl => rfl
  | 13, hl => rfl
  | 14, hl => rfl
  | 15, hl => rfl
  | 16, hl => rfl
  | 17, hl => rfl
  | 18, hl => rfl
  | 19, hl => rfl
  | c + 20, hl => exact (lv_big hl).elim
theorem sV_old {γ : St} {c n k a b j : Nat} {v : Int32} (h : ¬ (a = c ∧ b = n)) : gV (sV γ c n k v) a b j = gV γ a b j := by
  rw [gV_sV, if_neg (fun q => h ⟨q.1, q.2.2⟩)]
theorem cel_same {κ : KP} {γ γ' : St} {c n : Nat} (h1 : ∀ j, gV γ' c n j = gV γ c n j) (h2 : γ'.2 = γ.2) : cel κ γ' c n = cel κ γ c n := by
  have e1 : gV γ' c n = gV γ c n := funext h1
  have e2 : gL γ' c = gL γ c := by unfold gL; rw [h2]
  have e3 : gR γ' c = gR γ c := by unfold gR; rw [h2]
  unfold cel
  rw [e1, e2, e3]
theorem nB_old {γ : St} {i : Nat} {y1 y2 y3 y4 y5 : Int32} {a b j : Nat} (h0 : ¬ (a = 0 ∧ b = i)) (h1 : ¬ (a = 2 ∧ b = 2 * i)) (h2 : ¬ (a = 2 ∧ b = 2 * i + 1)) : gV (nB γ i y1 y2 y3 y4 y5) a b j = gV γ a b j := by
  unfold nB
  rw [sV_old h0, sV_old h0, sV_old h0, sV_old h2, sV_old h2, sV_old h2, sV_old h2, sV_old h1, sV_old h1, sV_old h1, sV_old h1, sV_old h0, sV_old h0, sV_old h0, sV_old h0, sV_old h0]
def κB (κ : KP) (b q1 q2 : Nat) : KP := (kD κ, kC κ, kB κ, fun c n => if c = 0 ∧ n = kN κ then b else if c = 2 ∧ n = 2 * kN κ then q1 else if c = 2 ∧ n = 2 * kN κ + 1 then q2 else kA κ c n, kN κ + 1, kO κ)
theorem κB_lv {κ : KP} {b q1 q2 c n : Nat} (h : lv (κB κ b q1 q2) c n) : (c = 0 ∧ n = kN κ) ∨ (c = 2 ∧ n = 2 * kN κ) ∨ (c = 2 ∧ n = 2 * kN κ + 1) ∨ lv κ c n := by
  unfold lv at h ⊢
  by_cases h0 : c = 0
  · rw [if_pos h0] at h ⊢
    have h : n < kN κ + 1 := h
    by_cases e : n = kN κ
    · exact Or.inl ⟨h0, e⟩
    · exact Or.inr (Or.inr (Or.inr (by omega)))
  · rw [if_neg h0] at h ⊢
    by_cases h2 : c = 2
    · rw [if_pos h2] at h ⊢
      have h : n < 2 * (kN κ + 1) := h
      by_cases e : n = 2 * kN κ
      · exact Or.inr (Or.inl ⟨h2, e⟩)
      · by_cases e2 : n = 2 * kN κ + 1
        · exact Or.inr (Or.inr (Or.inl ⟨h2, e2⟩))
        · exact Or.inr (Or.inr (Or.inr (by omega)))
    · rw [if_neg h2] at h ⊢
      exact Or.inr (Or.inr (Or.inr h))
theorem κB_mono {κ : KP} {b q1 q2 c n : Nat} (h : lv κ c n) : lv (κB κ b q1 q2) c n := by
  unfold lv at h ⊢
  by_cases h0 : c = 0
  · rw [if_pos h0] at h ⊢
    show n < kN κ + 1
    omega
  · rw [if_neg h0] at h ⊢
    by_cases h2 : c = 2
    · rw [if_pos h2] at h ⊢
      show n < 2 * (kN κ + 1)
      omega
    · rw [if_neg h2] at h ⊢
      exact h
theorem κB_old {κ : KP} {b q1 q2 c n : Nat} (h : lv κ c n) : kA (κB κ b q1 q2) c n = kA κ c n := by
  show (if c = 0 ∧ n = kN κ then b else if c = 2 ∧ n = 2 * kN κ then q1 else if c = 2 ∧ n = 2 * kN κ + 1 then q2 else kA κ c n) = kA κ c n
  unfold lv at h
  rw [if_neg, if_neg, if_neg]
  · rintro ⟨rfl, e⟩
    rw [if_neg (by decide), if_pos rfl] at h
    omega
  · rintro ⟨rfl, e⟩
    rw [if_neg (by decide), if_pos rfl] at h
    omega
  · rintro ⟨rfl, e⟩
    rw [if_pos rfl] at h
    omega
theorem κB_0 {κ : KP} {b q1 q2 : Nat} : kA (κB κ b q1 q2) 0 (kN κ) = b := by simp [κB, kA]
theorem κB_1 {κ : KP} {b q1 q2 : Nat} : kA (κB κ b q1 q2) 2 (2 * kN κ) = q1 := by simp [κB, kA]
theorem κB_2 {κ : KP} {b q1 q2 : Nat} : kA (κB κ b q1 q2) 2 (2 * kN κ + 1) = q2 := by
  show (if 2 = 0 ∧ 2 * kN κ + 1 = kN κ then b else if 2 = 2 ∧ 2 * kN κ + 1 = 2 * kN κ then q1 else if 2 = 2 ∧ 2 * kN κ + 1 = 2 * kN κ + 1 then q2 else kA κ 2 (2 * kN κ + 1)) = q2
  rw [if_neg (by omega), if_neg (by omega), if_pos ⟨rfl, rfl⟩]
theorem HR_newB {κ : KP} {γ : St} {H : Heap} (h : HR κ γ H) {b q1 q2 : Nat} {y1 y2 y3 y4 y5 : Int32} (hb : kB κ ≤ b) (h1 : kB κ ≤ q1) (h2 : kB κ ≤ q2)
    (hn : ∀ c n, lv κ c n → kA κ c n ≠ b ∧ kA κ c n ≠ q1 ∧ kA κ c n ≠ q2) (d1 : b ≠ q1) (d2 : b ≠ q2) (d3 : q1 ≠ q2)
    (hP : va_P (kD κ) vwCl [(b, .inr (0, [.ref q1, .ref q2, .int y3, .int y4, .int y5, .int (-1), .int (-1), .int 0, .int 0, .int 0])), (q1, .inr (2, [.int y1, .int 0, .int 0, .int 0])), (q2, .inr (2, [.int y2, .int 0, .int 0, .int 0]))] H) :
    HR (κB κ b q1 q2) (nB γ (kN κ) y1 y2 y3 y4 y5) H := by
  have hold : ∀ c n, lv κ c n → cel (κB κ b q1 q2) (nB γ (kN κ) y1 y2 y3 y4 y5) c n = cel κ γ c n := by
    intro c n hl
    have e1 : cel (κB κ b q1 q2) (nB γ (kN κ) y1 y2 y3 y4 y5) c n = cel (κB κ b q1 q2) γ c n := by
      refine cel_same (fun j => nB_old ?_ ?_ ?_) rfl
      · rintro ⟨rfl, e⟩
        have hl : n < kN κ := hl
        omega
      · rintro ⟨rfl, e⟩
        have hl : n < 2 * kN κ := hl
        omega
      · rintro ⟨rfl, e⟩
        have hl : n < 2 * kN κ := hl
        omega
    rw [e1]
    exact cel_ext (κ := κ) (κ' := κB κ b q1 q2) rfl (fun c n hl => κB_old hl) h.2.2 hl
  have c0 : cel (κB κ b q1 q2) (nB γ (kN κ) y1 y2 y3 y4 y5) 0 (kN κ) = .inr (0, [.ref q1, .ref q2, .int y3, .int y4, .int y5, .int (-1), .int (-1), .int 0, .int 0, .int 0]) := by
    simp only [cel, cel0]
    rw [κB_1, κB_2]
    simp [nB, gV_sV]
  have c1 : cel (κB κ b q1 q2) (nB γ (kN κ) y1 y2 y3 y4 y5) 2 (2 * kN κ) = .inr (2, [.int y1, .int 0, .int 0, .int 0]) := by
    have e : ¬ (2 * kN κ = 2 * kN κ + 1) := by omega
    simp [cel, cel0, nB, gV_sV, e]
  have c2 : cel (κB κ b q1 q2) (nB γ (kN κ) y1 y2 y3 y4 y5) 2 (2 * kN κ + 1) = .inr (2, [.int y2, .int 0, .int 0, .int 0]) := by
    have e : ¬ (2 * kN κ + 1 = 2 * kN κ) := by omega
    simp [cel, cel0, nB, gV_sV, e]
  refine ⟨fun c n hl => ?_, fun c n c' n' hl hl' he => ?_, fun c k x hx => ?_⟩
  · rcases κB_lv hl with ⟨rfl, rfl⟩ | ⟨rfl, rfl⟩ | ⟨rfl, rfl⟩ | ho
    · rw [κB_0, c0]; exact ⟨hP 0 _ rfl, hb⟩
    · rw [κB_1, c1]; exact ⟨hP 1 _ rfl, h1⟩
    · rw [κB_2, c2]; exact ⟨hP 2 _ rfl, h2⟩
    · rw [κB_old ho, hold c n ho]; exact h.1 c n ho
  · rcases κB_lv hl with ⟨rfl, rfl⟩ | ⟨rfl, rfl⟩ | ⟨rfl, rfl⟩ | ho <;> rcases κB_lv hl' with ⟨rfl, rfl⟩ | ⟨rfl, rfl⟩ | ⟨rfl, rfl⟩ | ho'
    · exact ⟨rfl, rfl⟩
    · rw [κB_0, κB_1] at he; exact absurd he d1
    · rw [κB_0, κB_2] at he; exact absurd he d2
    · rw [κB_0, κB_old ho'] at he; exact absurd he.symm (hn _ _ ho').1
    · rw [κB_0, κB_1] at he; exact absurd he.symm d1
    · exact ⟨rfl, rfl⟩
    · rw [κB_1, κB_2] at he; exact absurd he d3
    · rw [κB_1, κB_old ho'] at he; exact absurd he.symm (hn _ _ ho').2.1
    · rw [κB_0, κB_2] at he; exact absurd he.symm d2
    · rw [κB_1, κB_2] at he; exact absurd he.symm d3
    · exact ⟨rfl, rfl⟩
    · rw [κB_2, κB_old ho'] at he; exact absurd he.symm (hn _ _ ho').2.2
    · rw [κB_old ho, κB_0] at he; exact absurd he (hn _ _ ho).1
    · rw [κB_old ho, κB_1] at he; exact absurd he (hn _ _ ho).2.1
    · rw [κB_old ho, κB_2] at he; exact absurd he (hn _ _ ho).2.2
    · rw [κB_old ho, κB_old ho'] at he; exact h.2.1 c n c' n' ho ho' he
  · have hx' : gR γ c k = some x := hx
    have hb' := h.2.2 c k x hx'
    show x < (if c = 10 then kO κ else kN κ + 1)
    by_cases e : c = 10
    · rw [if_pos e] at hb' ⊢; exact hb'
    · rw [if_neg e] at hb' ⊢; omega
theorem κB_KE {κ : KP} {b q1 q2 : Nat} : KE κ (κB κ b q1 q2) := ⟨rfl, rfl, rfl, fun _ _ hl => ⟨κB_mono hl, κB_old hl⟩⟩
/-! a new pool -/
theorem gV_sZ (γ : St) (c n a b j : Nat) : gV (sZ γ c n) a b j = if a = c ∧ b = n then 0 else gV γ a b j := by
  unfold gV sZ
  dsimp only
  rw [lg_ls]
  by_cases h1 : a = c
  · rw [if_pos h1, lg_ls]
    subst h1
    by_cases h2 : b = n
    · rw [if_pos h2, if_pos ⟨rfl, h2⟩, lg_nil]
    · rw [if_neg h2, if_neg (fun q => h2 q.2)]
  · rw [if_neg h1, if_neg (fun q => h1 q.1)]
def κP (κ : KP) (b q1 q2 : Nat) : KP := (kD κ, kC κ, kB κ, fun c n => if c = 5 ∧ n = kO κ then b else if c = 18 ∧ n = kO κ then q1 else if c = 19 ∧ n = kO κ then q2 else kA κ c n, kN κ, kO κ + 1)
theorem κP_lv {κ : KP} {b q1 q2 c n : Nat} (h : lv (κP κ b q1 q2) c n) : (c = 5 ∧ n = kO κ) ∨ (c = 18 ∧ n = kO κ) ∨ (c = 19 ∧ n = kO κ) ∨ lv κ c n := by
  unfold lv at h ⊢
  by_cases h0 : c = 0
  · rw [if_pos h0] at h ⊢
    exact Or.inr (Or.inr (Or.inr h))
  · rw [if_neg h0] at h ⊢
    by_cases h2 : c = 2
    · rw [if_pos h2] at h ⊢
      exact Or.inr (Or.inr (Or.inr h))
    · rw [if_neg h2] at h ⊢
      by_cases h5 : c = 5 ∨ c = 18 ∨ c = 19
      · rw [if_pos h5] at h ⊢
        have h : n < kO κ + 1 := h
        by_cases e : n = kO κ
        · rcases h5 with h5 | h5 | h5
          · exact Or.inl ⟨h5, e⟩
          · exact Or.inr (Or.inl ⟨h5, e⟩)
          · exact Or.inr (Or.inr (Or.inl ⟨h5, e⟩))
        · exact Or.inr (Or.inr (Or.inr (by omega)))
      · rw [if_neg h5] at h ⊢
        exact Or.inr (Or.inr (Or.inr h))
theorem κP_mono {κ : KP} {b q1 q2 c n : Nat} (h : lv κ c n) : lv (κP κ b q1 q2) c n := by
  unfold lv at h ⊢
  by_cases h0 : c = 0
  · rw [if_pos h0] at h ⊢; exact h
  · rw [if_neg h0] at h ⊢
    by_cases h2 : c = 2
    · rw [if_pos h2] at h ⊢; exact h
    · rw [if_neg h2] at h ⊢
      by_cases h5 : c = 5 ∨ c = 18 ∨ c = 19
      · rw [if_pos h5] at h ⊢
        show n < kO κ + 1
        omega
      · rw [if_neg h5] at h ⊢; exact h
theorem κP_old {κ : KP} {b q1 q2 c n : Nat} (h : lv κ c n) : kA (κP κ b q1 q2) c n = kA κ c n := by
  show (if c = 5 ∧ n = kO κ then b else if c = 18 ∧ n = kO κ then q1 else if c = 19 ∧ n = kO κ then q2 else kA κ c n) = kA κ c n
  unfold lv at h
  rw [if_neg, if_neg, if_neg]
  · rintro ⟨rfl, e⟩
    rw [if_neg (by decide), if_neg (by decide), if_pos (by decide)] at h
    omega
  · rintro ⟨rfl, e⟩
    rw [if_neg (by decide), if_neg (by decide), if_pos (by decide)] at h
    omega
  · rintro ⟨rfl, e⟩
    rw [if_neg (by decide), if_neg (by decide), if_pos (by decide)] at h
    omega
theorem κP_0 {κ : KP} {b q1 q2 : Nat} : kA (κP κ b q1 q2) 5 (kO κ) = b := by simp [κP, kA]
theorem κP_1 {κ : KP} {b q1 q2 : Nat} : kA (κP κ b q1 q2) 18 (kO κ) = q1 := by simp [κP, kA]
theorem κP_2 {κ : KP} {b q1 q2 : Nat} : kA (κP κ b q1 q2) 19 (kO κ) = q2 := by simp [κP, kA]
theorem nP_old {γ : St} {i : Nat} {x y : Int32} {a b j : Nat} (h0 : ¬ (a = 5 ∧ b = i)) (h1 : ¬ (a = 18 ∧ b = i)) (h2 : ¬ (a = 19 ∧ b = i)) : gV (nP γ i x y) a b j = gV γ a b j := by
  unfold nP
  rw [sV_old h0, sV_old h0, sV_old h0, gV_sZ, if_neg h2, gV_sZ, if_neg h1]
theorem HR_newP {κ : KP} {γ : St} {H : Heap} (h : HR κ γ H) {b q1 q2 : Nat} {x y : Int32} (hb : kB κ ≤ b) (h1 : kB κ ≤ q1) (h2 : kB κ ≤ q2)
    (hn : ∀ c n, lv κ c n → kA κ c n ≠ b ∧ kA κ c n ≠ q1 ∧ kA κ c n ≠ q2) (d1 : b ≠ q1) (d2 : b ≠ q2) (d3 : q1 ≠ q2)
    (hP : va_P (kD κ) vwCl [(b, .inr (5, [.int x, .int y, .ref q1, .ref q2, .int 0])), (q1, .inl (kC κ 0, (48, .inl (fun _ => 0)))), (q2, .inl (kC κ 0, (12, .inl (fun _ => 0))))] H) :
    HR (κP κ b q1 q2) (nP γ (kO κ) x y) H := by
  have hold : ∀ c n, lv κ c n → cel (κP κ b q1 q2) (nP γ (kO κ) x y) c n = cel κ γ c n := by
    intro c n hl
    have e1 : cel (κP κ b q1 q2) (nP γ (kO κ) x y) c n = cel (κP κ b q1 q2) γ c n := by
      refine cel_same (fun j => nP_old ?_ ?_ ?_) rfl
      · rintro ⟨rfl, e⟩
        have hl : n < kO κ := hl
        omega
      · rintro ⟨rfl, e⟩
        have hl : n < kO κ := hl
        omega
      · rintro ⟨rfl, e⟩
        have hl : n < kO κ := hl
        omega
    rw [e1]
    exact cel_ext (κ := κ) (κ' := κP κ b q1 q2) rfl (fun c n hl => κP_old hl) h.2.2 hl
  have c0 : cel (κP κ b q1 q2) (nP γ (kO κ) x y) 5 (kO κ) = .inr (5, [.int x, .int y, .ref q1, .ref q2, .int 0]) := by
    simp only [cel, cel0]
    rw [κP_1, κP_2]
    simp [nP, gV_sV, gV_sZ]
  have c1 : cel (κP κ b q1 q2) (nP γ (kO κ) x y) 18 (kO κ) = .inl (kC κ 0, (48, .inl (fun _ => 0))) := by
    have e : gV (nP γ (kO κ) x y) 18 (kO κ) = fun _ => 0 := by
      funext j
      simp [nP, gV_sV, gV_sZ]
    simp only [cel, cel0, e]
    rfl
  have c2 : cel (κP κ b q1 q2) (nP γ (kO κ) x y) 19 (kO κ) = .inl (kC κ 0, (12, .inl (fun _ => 0))) := by
    have e : gV (nP γ (kO κ) x y) 19 (kO κ) = fun _ => 0 := by
      funext j
      simp [nP, gV_sV, gV_sZ]
    simp only [cel, cel0, e]
    rfl
  refine ⟨fun c n hl => ?_, fun c n c' n' hl hl' he => ?_, fun c k z hz => ?_⟩
  · rcases κP_lv hl with ⟨rfl, rfl⟩ | ⟨rfl, rfl⟩ | ⟨rfl, rfl⟩ | ho
    · rw [κP_0, c0]; exact ⟨hP 0 _ rfl, hb⟩
    · rw [κP_1, c1]; exact ⟨hP 1 _ rfl, h1⟩
    · rw [κP_2, c2]; exact ⟨hP 2 _ rfl, h2⟩
    · rw [κP_old ho, hold c n ho]; exact h.1 c n ho
  · rcases κP_lv hl with ⟨rfl, rfl⟩ | ⟨rfl, rfl⟩ | ⟨rfl, rfl⟩ | ho <;> rcases κP_lv hl' with ⟨rfl, rfl⟩ | ⟨rfl, rfl⟩ | ⟨rfl, rfl⟩ | ho'
    · exact ⟨rfl, rfl⟩
    · rw [κP_0, κP_1] at he; exact absurd he d1
    · rw [κP_0, κP_2] at he; exact absurd he d2
    · rw [κP_0, κP_old ho'] at he; exact absurd he.symm (hn _ _ ho').1
    · rw [κP_0, κP_1] at he; exact absurd he.symm d1
    · exact ⟨rfl, rfl⟩
    · rw [κP_1, κP_2] at he; exact absurd he d3
    · rw [κP_1, κP_old ho'] at he; exact absurd he.symm (hn _ _ ho').2.1
    · rw [κP_0, κP_2] at he; exact absurd he.symm d2
    · rw [κP_1, κP_2] at he; exact absurd he.symm d3
    · exact ⟨rfl, rfl⟩
    · rw [κP_2, κP_old ho'] at he; exact absurd he.symm (hn _ _ ho').2.2
    · rw [κP_old ho, κP_0] at he; exact absurd he (hn _ _ ho).1
    · rw [κP_old ho, κP_1] at he; exact absurd he (hn _ _ ho).2.1
    · rw [κP_old ho, κP_2] at he; exact absurd he (hn _ _ ho).2.2
    · rw [κP_old ho, κP_old ho'] at he; exact h.2.1 c n c' n' ho ho' he
  · have hx' : gR γ c k = some z := hz
    have hb' := h.2.2 c k z hx'
    show z < (if c = 10 then kO κ + 1 else kN κ)
    by_cases e : c = 10
    · rw [if_pos e] at hb' ⊢; omega
    · rw [if_neg e] at hb' ⊢; exact hb'
theorem κP_KE {κ : KP} {b q1 q2 : Nat} : KE κ (κP κ b q1 q2) := ⟨rfl, rfl, rfl, fun _ _ hl => ⟨κP_mono hl, κP_old hl⟩⟩
section HRN
variable {p : Program} {l : Launch} {e : Env} {R : Room} {s : State} {m : MethodId} {args : Array Value} {below : List Frame} {meth : Method} {H : Heap} {locs : List Loc} {cells slots : Nat} {Q : State → Prop}
variable {cc : ByteArray} {pc : Nat} {ls : Array Slot} {rest : List Value} {κ : KP} {γ : St} {own : String} {nL : Nat}
/-- new (follows va_new of the kit, with the heap's other cells told) -/
theorem hr_new {c0 : Code} (C0 : CX κ cc own nL p l s m args meth c0) {C : String} {T : u_T} {N ci index : Nat} (hin : ∀ w ∈ u_ws C T N, w ∈ TW) (ty : Nat → FieldType) (hty : ∀ k, k < N → parseFieldDescriptor (T k).2.2.1 = some (ty k)) (hcl : Cond.classLink own index C ∈ TW) (hinst : Cond.instantiable C N ∈ TW) (hini : Cond.initialized C ∈ TW)
    (hc : vwCl[ci]? = some (C, T, N)) {fs : List Value} (hfs : ∀ j, j < N → defaultValue (ty j) = vp_V fs j) (hcells : cells + 1 ≤ R.cells) (hslots : slots + N ≤ R.slots) (hdg : decode cc pc = .ok (.new index, 3))
    (kk : ∀ (H1 : Heap), va_at (kD κ) vwCl (H.size, .inr (ci, fs)) H1 → H1.size = H.size + 1 → (∀ q : Nat, q < H.size → H1[q]? = H[q]?) →
      W p l e R s m args below meth c0 H1 locs (cells + 1) (slots + N) Q (F0 m (pc + 3) ls (.ref H.size :: rest))) : W p l e R s m args below meth c0 H locs cells slots Q (F0 m pc ls rest) := by
  obtain ⟨hx, hb, hown, hT, hK, -⟩ := C0
  have hKn := hK.1 ci _ hc
  refine W.newcK hx hb hown (hT _ hcl) (hT _ hinst) (hT _ hini) rfl hdg hcells hslots hKn.2.1 rfl fun H1 kC hkC e1 z1 o1 => ?_
  exact kk H1 ⟨_, hc, (u_born ty hT hin hKn hkC e1 hty).to hfs⟩ z1 o1
theorem va_S_grow {A : Nat → Prop} {H0 H1 : Heap} (hS : va_S A H0 H locs) (hz : H1.size = H.size + 1) (ho : ∀ q : Nat, q < H.size → H1[q]? = H[q]?) : va_S A H0 H1 locs :=
  ⟨Nat.le_trans hS.1 (by omega), fun q h1 h2 => (ho q (Nat.lt_of_lt_of_le h1 hS.1)).trans (hS.2.1 q h1 h2), hS.2.2⟩
end HRN
section TLB
variable {p : Program} {l : Launch} {e : Env} {R : Room} {s : State} {m : MethodId} {args : Array Value} {below : List Frame} {meth : Method} {c : Code} {H : Heap} {locs : List Loc}
variable {ls : Array Slot} {κ : KP} {γ : St}
/-- what a fresh world's address is not -/
theorem hr_far {ws : va_W} {H : Heap} (hH : HR κ γ H) {b : Nat} {e0 : va_E} (hws : ws = [(b, e0)]) (hbH : H.size ≤ b) {q sz : Nat} (hsz : H.size ≤ sz) (hq : va_A ws sz q) : kB κ ≤ H.size → (kB κ ≤ q ∧ ∀ c n, lv κ c n → kA κ c n ≠ q) := by
  intro hB
  have h1 : H.size ≤ q := by
    rcases hq with ⟨k, e, hk⟩ | h
    · subst hws
      cases k with
      | zero => cases hk; exact hbH
      | succ k => simp at hk
    · omega
  exact ⟨by omega, fun c n hl he => by have := hH.lt hl; omega⟩
set_option maxRecDepth 20000 in
set_option maxHeartbeats 4000000 in
/-- 'new Bout(..)', put on the piste, its number handed back -/
theorem X7_begin_tail {y1 y2 y3 y4 y5 : Int32} {res : Nat × Int32 × St} (hC : CX κ cX7_begin "Phrasehall" 7 p l s m args meth c) (hr : meth.sig.returnType = some .int) (hl : lv_has ls 7 [(1, .int y1), (2, .int y2), (3, .int y3), (4, .int y4), (5, .int y5)]) (hH : HR κ γ H) (hS : va_S (AA κ) s.heap H locs)
    (hnb : kN κ = (gV γ 7 0 6).toNatClampNeg) (hk : okn_X7_begin y1 y2 y3 y4 y5 γ) (hq : xn_X7_begin y1 y2 y3 y4 y5 γ = res) (hRf : 3 ≤ R.frames) (hRl : 70 ≤ R.locals) (hRc : 3 ≤ R.cells) (hRs : 18 ≤ R.slots) :
    W p l e R s m args below meth c H locs 0 0 (vx_MQ below (QE κ res.2.2 res.1 (some (.int res.2.1)) (kN κ + 1) (kO κ)) (XX κ res.2.2 res.1) args s 3 18 (AA κ)) (F0 m 173 ls [.ref (kA κ 7 0)]) := by
  obtain ⟨hx, hb, hown, hT, hK, hX, -, hB, hml, -⟩ := id hC
  obtain ⟨hk0, hk⟩ := hk
  subst hq
  unfold xn_X7_begin
  rw [← hnb] at hk ⊢
  refine hr_new (ci := 0) (C := RX0) (T := TX0) (N := 10) hC inX0 tyX0 tyX0_ok tw_62 tw_359 tw_50 rfl df_0 (by omega) (by omega) dX7_begin_173 (fun H1 hat hz ho => ?_)
  have hS1 := va_S_grow hS hz ho
  have hH1 := hH.grow ho
  have hBH : kB κ ≤ H.size := Nat.le_trans hB hS.1
  refine lv_dup hx hb dX7_begin_176 rfl ?_
  refine lv_iload_n hx hb dX7_begin_177 rfl (lv_at hl 0 rfl) ?_
  refine lv_iload_n hx hb dX7_begin_178 rfl (lv_at hl 1 rfl) ?_
  refine lv_iload_n hx hb dX7_begin_179 rfl (lv_at hl 2 rfl) ?_
  refine lv_iload hx hb dX7_begin_180 (lv_at hl 3 rfl) ?_
  refine lv_iload hx hb dX7_begin_182 (lv_at hl 4 rfl) ?_
  have hP1 := va_one hat
  have hD1 : va_D (fun _ => True) [(H.size, .inr (0, [.null, .null, .int 0, .int 0, .int 0, .int 0, .int 0, .int 0, .int 0, .int 0]))] := ⟨fun i j x y hi hj _ => by
    cases i with
    | zero => cases j with
      | zero => rfl
      | succ j => simp at hj
    | succ i => simp at hi, fun _ _ _ => trivial⟩
  have hA : ∀ q : Nat, va_A [(H.size, .inr (0, [.null, .null, .int 0, .int 0, .int 0, .int 0, .int 0, .int 0, .int 0, .int 0]))] H1.size q → kB κ ≤ q := fun q hq => (hr_far hH rfl (Nat.le_refl _) (by omega) hq hBH).1
  refine va_callv (va_runI (As := [.int y1, .int y2, .int y3, .int y4, .int y5]) (rest := [.ref H.size, .ref (kA κ 7 0)]) ⟨hx, hb, hml, hown, hT⟩ (ci_0 l (kD κ) (kC κ) H.size H1.size y1 y2 y3 y4 y5) (cwI 5 hT (gi1 tw_452) rfl rfl rfl (hT _ tw_50) (hT _ tw_450) (hT _ tw_451) rfl ⟨by decide +kernel, by decide +kernel, by decide +kernel⟩ ⟨by show 2 + 1 ≤ R.frames; omega, by show 8 + (6 + 11) + 42 ≤ R.locals; omega⟩) ⟨CB.blind, fun U hU hW => ⟨rfl, by rw [hU], by rw [hU]; exact hP1, va_K.moved hW.alike hK, hD1, hX.warm hW⟩⟩ rfl rfl hl.1 rfl (lv_room (Nat.le_of_ble_eq_true rfl)) dX7_begin_184 ⟨by omega, by omega⟩) hS1 (fun q _ h => hA q h) hA (fun u t H2 locs ht hvm hw hB2 hz1 hk1 hS => ?_)
  obtain ⟨q1, q2, hP2, hD2⟩ := hB2
  rw [ht] at hP2
  have f0 := hD2.2 0 _ rfl
  have f1 := hD2.2 1 _ rfl
  have f2 := hD2.2 2 _ rfl
  have g0 := hr_far hH rfl (Nat.le_refl _) (by omega) f0 hBH
  have g1 := hr_far hH rfl (Nat.le_refl _) (by omega) f1 hBH
  have g2 := hr_far hH rfl (Nat.le_refl _) (by omega) f2 hBH
  have hH2 : HR κ γ H2 := ⟨fun c n hl => ⟨((hH1.1 c n hl).1).kept (hk1 _ (hH1.lt hl) (fun ha => (hr_far hH rfl (Nat.le_refl _) (by omega) ha hBH).2 c n hl rfl)), (hH1.1 c n hl).2⟩, hH1.2⟩
  have hH3 := HR_newB (y1 := y1) (y2 := y2) (y3 := y3) (y4 := y4) (y5 := y5) hH2 g0.1 g1.1 g2.1 (fun c n hl => ⟨g0.2 c n hl, g1.2 c n hl, g2.2 c n hl⟩) (fun h => absurd (hD2.1 0 1 _ _ rfl rfl h) (by decide)) (fun h => absurd (hD2.1 0 2 _ _ rfl rfl h) (by decide)) (fun h => absurd (hD2.1 1 2 _ _ rfl rfl h) (by decide)) hP2
  obtain ⟨κ', hκ'⟩ : ∃ z, z = κB κ H.size q1 q2 := ⟨_, rfl⟩
  have hKE : KE κ κ' := by rw [hκ']; exact κB_KE
  have hC' : CX κ' cX7_begin "Phrasehall" 7 p l s m args meth c := by rw [hκ']; exact hC
  have hS' : va_S (AA κ') s.heap H2 locs := by rw [hκ']; exact hS
  rw [← hκ'] at hH3
  have e0 : kA κ' 0 (kN κ) = H.size := by rw [hκ']; exact κB_0
  have e7 : kA κ' 7 0 = kA κ 7 0 := (hKE.2.2.2 7 0 lv_7).2
  have eN : kN κ' = kN κ + 1 := by rw [hκ']; rfl
  have eO : kO κ' = kO κ := by rw [hκ']; rfl
  have hv0 : lv κ' 0 (kN κ) := by show kN κ < kN κ'; omega
  have eAA : AA κ' = AA κ := by rw [hκ']; rfl
  refine W.eq (g2 := F0 m 187 ls [.ref (kA κ' 0 (kN κ)), .ref (kA κ' 7 0)]) (by rw [e0, e7]) ?_
  refine k_callV (C := RX7) (T := TX7) (N := 10) (rest := []) hC' hl hH3 hS' (c_X7_putOnPiste l κ' (nB γ (kN κ) y1 y2 y3 y4 y5) (kN κ) hv0 hk) lv_7 rfl rfl tw_513 tw_515 tw_14 tw_38 tw_516 hd_X7_putOnPiste ⟨by show 0 + 1 ≤ R.frames; omega, by show 8 + (3 + 11) + 0 ≤ R.locals; omega⟩ rfl rfl rfl rfl (Nat.le_of_ble_eq_true rfl) dX7_begin_187 ⟨by omega, by omega⟩ rfl (fun H locs hH hS => ?_)
  refine W.widen (k := 3) (n := 18) (by omega) (by omega) (vx_ret ?_)
  rw [eAA] at hS
  exact W.iret hx hb hr (fun t ht _ => ⟨rfl, rfl, ⟨κ', hKE, eN, eO, by rw [ht]; exact hH⟩, hS.F ht⟩) hS.2.2 dX7_begin_190 (by obtain ⟨-, -, -, -, -, -, -, -, -, hlk⟩ := hC; exact hlk)
set_option maxRecDepth 20000 in
set_option maxHeartbeats 4000000 in
/-- 'new Pool(..)', kept, its number handed back -/
theorem X7_pool_tail {y1 : Int32} {res : Nat × Int32 × St} (hC : CX κ cX7_pool "Phrasehall" 4 p l s m args meth c) (hr : meth.sig.returnType = some .int) (hl : lv_has ls 4 [(0, .ref (kA κ 7 0)), (1, .int y1), (3, .int (gV γ 7 0 7))]) (hH : HR κ γ H) (hS : va_S (AA κ) s.heap H locs)
    (hnb : kO κ = (gV γ 7 0 7).toNatClampNeg) (hk : okn_X7_pool y1 γ) (hq : xn_X7_pool y1 γ = res) (hRf : 3 ≤ R.frames) (hRl : 70 ≤ R.locals) (hRc : 3 ≤ R.cells) (hRs : 65 ≤ R.slots) :
    W p l e R s m args below meth c H locs 0 0 (vx_MQ below (QE κ res.2.2 res.1 (some (.int res.2.1)) (kN κ) (kO κ + 1)) (XX κ res.2.2 res.1) args s 3 65 (AA κ)) (F0 m 61 ls [.int (gV γ 7 0 7), .ref (kA κ 10 0)]) := by
  obtain ⟨hx, hb, hown, hT, hK, hX, -, hB, hml, -⟩ := id hC
  subst hq
  have hk : vp_in (gV γ 7 0 7) 6 := hk
  unfold xn_X7_pool
  rw [← hnb]
  refine hr_new (ci := 5) (C := RX5) (T := TX5) (N := 5) hC inX5 tyX5 tyX5_ok tw_64 tw_373 tw_49 rfl df_5 (by omega) (by omega) dX7_pool_61 (fun H1 hat hz ho => ?_)
  have hS1 := va_S_grow hS hz ho
  have hH1 := hH.grow ho
  have hBH : kB κ ≤ H.size := Nat.le_trans hB hS.1
  refine lv_dup hx hb dX7_pool_64 rfl ?_
  refine lv_iload_n hx hb dX7_pool_65 rfl (lv_at hl 2 rfl) ?_
  refine lv_iload_n hx hb dX7_pool_66 rfl (lv_at hl 1 rfl) ?_
  have hP1 := va_one hat
  have hD1 : va_D (fun _ => True) [(H.size, .inr (5, [.int 0, .int 0, .null, .null, .int 0]))] := ⟨fun i j x y hi hj _ => by
    cases i with
    | zero => cases j with
      | zero => rfl
      | succ j => simp at hj
    | succ i => simp at hi, fun _ _ _ => trivial⟩
  have hA : ∀ q : Nat, va_A [(H.size, .inr (5, [.int 0, .int 0, .null, .null, .int 0]))] H1.size q → kB κ ≤ q := fun q hq => (hr_far hH rfl (Nat.le_refl _) (by omega) hq hBH).1
  refine va_callv (va_runI (As := [.int (gV γ 7 0 7), .int y1]) (rest := [.ref H.size, .int (gV γ 7 0 7), .ref (kA κ 10 0)]) ⟨hx, hb, hml, hown, hT⟩ (ci_5 l (kD κ) (kC κ) H.size H1.size (gV γ 7 0 7) y1) (cwI 2 hT (gi1 tw_757) rfl rfl rfl (hT _ tw_49) (hT _ tw_755) (hT _ tw_756) rfl ⟨by decide +kernel, by decide +kernel, by decide +kernel⟩ ⟨by show 1 + 1 ≤ R.frames; omega, by show 8 + (3 + 11) + 21 ≤ R.locals; omega⟩) ⟨CB.blind, fun U hU hW => ⟨rfl, by rw [hU], by rw [hU]; exact hP1, va_K.moved hW.alike hK, hD1, hX.warm hW⟩⟩ rfl rfl hl.1 rfl (lv_room (Nat.le_of_ble_eq_true rfl)) dX7_pool_67 ⟨by omega, by omega⟩) hS1 (fun q _ h => hA q h) hA (fun u t H2 locs ht hvm hw hB2 hz1 hk1 hS => ?_)
  obtain ⟨q1, q2, hP2, hD2⟩ := hB2
  rw [ht] at hP2
  have f0 := hD2.2 0 _ rfl
  have f1 := hD2.2 1 _ rfl
  have f2 := hD2.2 2 _ rfl
  have g0 := hr_far hH rfl (Nat.le_refl _) (by omega) f0 hBH
  have g1 := hr_far hH rfl (Nat.le_refl _) (by omega) f1 hBH
  have g2 := hr_far hH rfl (Nat.le_refl _) (by omega) f2 hBH
  have hH2 : HR κ γ H2 := ⟨fun c n hl => ⟨((hH1.1 c n hl).1).kept (hk1 _ (hH1.lt hl) (fun ha => (hr_far hH rfl (Nat.le_refl _) (by omega) ha hBH).2 c n hl rfl)), (hH1.1 c n hl).2⟩, hH1.2⟩
  have hH3 := HR_newP (x := gV γ 7 0 7) (y := y1) hH2 g0.1 g1.1 g2.1 (fun c n hl => ⟨g0.2 c n hl, g1.2 c n hl, g2.2 c n hl⟩) (fun h => absurd (hD2.1 0 1 _ _ rfl rfl h) (by decide)) (fun h => absurd (hD2.1 0 2 _ _ rfl rfl h) (by decide)) (fun h => absurd (hD2.1 1 2 _ _ rfl rfl h) (by decide)) hP2
  obtain ⟨κ', hκ'⟩ : ∃ z, z = κP κ H.size q1 q2 := ⟨_, rfl⟩
  have hKE : KE κ κ' := by rw [hκ']; exact κP_KE
  have hC' : CX κ' cX7_pool "Phrasehall" 4 p l s m args meth c := by rw [hκ']; exact hC
  have hS' : va_S (AA κ') s.heap H2 locs := by rw [hκ']; exact hS
  rw [← hκ'] at hH3
  have e0 : kA κ' 5 (kO κ) = H.size := by rw [hκ']; exact κP_0
  have e7 : kA κ' 7 0 = kA κ 7 0 := (hKE.2.2.2 7 0 lv_7).2
  have e10 : kA κ' 10 0 = kA κ 10 0 := (hKE.2.2.2 10 0 lv_10).2
  have eN : kN κ' = kN κ := by rw [hκ']; rfl
  have eO : kO κ' = kO κ + 1 := by rw [hκ']; rfl
  have hv0 : lv κ' 5 (kO κ) := by show kO κ < kO κ'; omega
  have eAA : AA κ' = AA κ := by rw [hκ']; rfl
  refine W.eq (g2 := F0 m 70 ls [.ref (kA κ' 5 (kO κ)), .int (gV γ 7 0 7), .ref (kA κ' 10 0)]) (by rw [e0, e10]) ?_
  refine hp_qst (t0 := 3) (cb := 5) hC' rfl rfl hH3 lv_10 lv_u10 hv0 rfl (by show kO κ < kO κ'; omega) (fun _ => rfl) hS' hk dX7_pool_70 (fun H locs hH hS => ?_)
  rw [← hnb] at hH
  refine lv_aload_n hx hb dX7_pool_71 rfl (lv_at hl 0 rfl) ?_
  refine lv_dup hx hb dX7_pool_72 rfl ?_
  refine W.eq (g2 := F0 m 73 ls [.ref (kA κ' 7 0), .ref (kA κ' 7 0)]) (by rw [e7]) ?_
  refine hp_get (v := .int (gV γ 7 0 7)) (C := RX7) (T := TX7) (N := 10) hC' inX7 hH lv_7 rfl rfl 7 (by decide) tw_154 rfl (by simp [nP, gV_sV, gV_sR, gV_sZ]) dX7_pool_73 ?_
  refine lv_iconst (v := 1) hx hb dX7_pool_76 (by decide) ?_
  refine lv_iadd hx hb dX7_pool_77 ?_
  refine hp_put (v := .int (gV γ 7 0 7 + 1)) (C := RX7) (T := TX7) (N := 10) hC' inX7 tyX7_ok nmX7 hH lv_7 rfl hS rfl 7 (by decide) tw_154 rfl rfl rfl rfl (Nat.le_of_ble_eq_true rfl) (sV (sR (nP γ (kO κ) (gV γ 7 0 7) y1) 10 (kO κ) (some (kO κ))) 7 0 7 (gV γ 7 0 7 + 1)) (pe_7_7 _ _ 0 _) (fun _ _ _ h => cel_sV h) (WT_sV hH.wt) dX7_pool_78 (fun H locs hH hS => ?_)
  refine lv_iload_n hx hb dX7_pool_81 rfl (lv_at hl 2 rfl) ?_
  refine W.widen (k := 3) (n := 65) (by omega) (by omega) (vx_ret ?_)
  rw [eAA] at hS
  exact W.iret hx hb hr (fun t ht _ => ⟨rfl, rfl, ⟨κ', hKE, eN, eO, by rw [ht]; exact hH⟩, hS.F ht⟩) hS.2.2 dX7_pool_82 (by obtain ⟨-, -, -, -, -, -, -, -, -, hlk⟩ := hC; exact hlk)
end TLB

