noncomputable section
def wG (r : Nat × Int32 × St) : St := if r.1 = 0 then sL r.2.2 41 0 r.2.1.toInt64 else r.2.2
def wK (a b c : Int32) (e : Nat) : Int32 := if e = 0 then 0 else if e = 1 then a else if e = 2 then b else c
def eIn (a b c : Int32) (e : Nat) : Prop := e = 0 ∨ (e = 1 ∧ a ≠ 0) ∨ (e = 2 ∧ b ≠ 0) ∨ (e = 3 ∧ c ≠ 0)
/-- a new hall (and, in row 8, the reference's) -/
def γS : St := ([[], [], [], [], [], [], [[-1, -1, 0, -1]], [[0, 0, 0, 0, 0, 0, 0, 0, 0, -1]], [[0, 0, -1, 0, -1]]], [], [])
theorem γS_V (c n k : Nat) : gV γS c n k = if n = 0 ∧ ((c = 6 ∧ k = 0) ∨ (c = 6 ∧ k = 1) ∨ (c = 6 ∧ k = 3) ∨ (c = 7 ∧ k = 9) ∨ (c = 8 ∧ k = 2) ∨ (c = 8 ∧ k = 4)) then (-1) else 0 := by
  match c with
  | 0 => rw [if_neg (by omega)]; rfl
  | 1 => rw [if_neg (by omega)]; rfl
  | 2 => rw [if_neg (by omega)]; rfl
  | 3 => rw [if_neg (by omega)]; rfl
  | 4 => rw [if_neg (by omega)]; rfl
  | 5 => rw [if_neg (by omega)]; rfl
  | 6 =>
    match n with
    | 0 =>
      match k with
      | 0 => rfl
      | 1 => rfl
      | 2 => rfl
      | 3 => rfl
      | k + 4 => rw [if_neg (by omega)]; rfl
    | n + 1 => rw [if_neg (by omega)]; rfl
  | 7 =>
    match n with
    | 0 =>
      match k with
      | 0 => rfl
      | 1 => rfl
      | 2 => rfl
      | 3 => rfl
      | 4 => rfl
      | 5 => rfl
      | 6 => rfl
      | 7 => rfl
      | 8 => rfl
      | 9 => rfl
      | k + 10 => rw [if_neg (by omega)]; rfl
    | n + 1 => rw [if_neg (by omega)]; rfl
  | 8 =>
    match n with
    | 0 =>
      match k with
      | 0 => rfl
      | 1 => rfl
      | 2 => rfl
      | 3 => rfl
      | 4 => rfl
      | k + 5 => rw [if_neg (by omega)]; rfl
    | n + 1 => rw [if_neg (by omega)]; rfl
  | c + 9 => rw [if_neg (by omega)]; rfl
theorem gth {M : St} {v x : Int32} {c n k : Nat} (h : gV M c n k = x) (hc : ¬ (c = 8 ∧ k = 31)) : gV (sV M 8 0 31 v) c n k = x := by
  rw [gV_sV, if_neg (fun q => hc ⟨q.1, q.2.1⟩)]; exact h
theorem gn {M : St} {v x : Int32} {c n k a b j : Nat} (h : gV M a b j = x) (hc : ¬ (a = c ∧ j = k)) : gV (sV M c n k v) a b j = x := by
  rw [gV_sV, if_neg (fun q => hc ⟨q.1, q.2.1⟩)]; exact h
end
