noncomputable section
section SUMS
/-- the sum of G over the first places of pool j's order -/
def SU (G : Int32 → Int32) (C : St) (j : Nat) : Nat → Int32
  | 0 => 0
  | k + 1 => SU G C j k + G (gV C 19 j k)
/-- the sum of G over those that x names -/
def RS (G : Int32 → Int32) (x : Nat) : Nat → Int32
  | 0 => 0
  | k + 1 => RS G x k + (if x / 2 ^ k % 2 = 1 then G (nI k) else 0)
/-- the sum of G over the first of V -/
def VS (G : Int32 → Int32) (V : Nat → Nat) : Nat → Int32
  | 0 => 0
  | k + 1 => VS G V k + G (nI (V k))
theorem ab1 {a b c a' v : Int32} (h : a + b = a' + v) : a + c + b = a' + c + v := by
  rw [Int32.add_assoc, Int32.add_comm c b, ← Int32.add_assoc, h, Int32.add_assoc, Int32.add_comm v c, ← Int32.add_assoc]
theorem ab0 (a b v : Int32) : a + v + b = a + b + v := by
  rw [Int32.add_assoc, Int32.add_comm v b, ← Int32.add_assoc]
theorem ab2 {a b c f q s : Int32} (h1 : a + q = b + f) (h2 : b + s = c + q) : a + s = c + f := by
  apply add_can (c := q)
  rw [ab0 a q s, h1, ab0 b s f, h2, ab0 c f q]
theorem SU_eq {G : Int32 → Int32} {C C' : St} {j : Nat} : ∀ r, (∀ x, x < r → gV C' 19 j x = gV C 19 j x) → SU G C' j r = SU G C j r
  | 0, _ => rfl
  | r + 1, h => by
    show SU G C' j r + G (gV C' 19 j r) = SU G C j r + G (gV C 19 j r)
    rw [SU_eq r (fun x hx => h x (by omega)), h r (by omega)]
theorem SU_sV {G : Int32 → Int32} {C : St} {j p : Nat} {v : Int32} : ∀ r, p ≤ r → SU G (sV C 19 j p v) j (r + 1) + G (gV C 19 j p) = SU G C j (r + 1) + G v
  | 0, h => by
    have e : p = 0 := by omega
    subst e
    show 0 + G (gV (sV C 19 j 0 v) 19 j 0) + G (gV C 19 j 0) = 0 + G (gV C 19 j 0) + G v
    rw [gV_sV, if_pos ⟨rfl, rfl, rfl⟩]
    exact ab0 _ _ _
  | r + 1, h => by
    by_cases c : p = r + 1
    · subst c
      show SU G (sV C 19 j (r + 1) v) j (r + 1) + G (gV (sV C 19 j (r + 1) v) 19 j (r + 1)) + G (gV C 19 j (r + 1)) = SU G C j (r + 1) + G (gV C 19 j (r + 1)) + G v
      rw [SU_eq (C := C) (r + 1) (fun x hx => by rw [gV_sV, if_neg (by omega)]), gV_sV, if_pos ⟨rfl, rfl, rfl⟩]
      exact ab0 _ _ _
    · have ih := SU_sV (G := G) (C := C) (j := j) (v := v) r (show p ≤ r by omega)
      show SU G (sV C 19 j p v) j (r + 1) + G (gV (sV C 19 j p v) 19 j (r + 1)) + G (gV C 19 j p) = SU G C j (r + 1) + G (gV C 19 j (r + 1)) + G v
      rw [show gV (sV C 19 j p v) 19 j (r + 1) = gV C 19 j (r + 1) by rw [gV_sV, if_neg (by omega)]]
      exact ab1 ih
/-- one is put in -/
theorem ins_sum {G : Int32 → Int32} {Q : Int32 → Prop} {j f r : Nat} (hr : r < 12) (hQ : Q (nI f)) : ∀ (k p : Nat) (C : St), p < k → p ≤ r → (∀ x, x ≤ r → x ≠ p → Q (gV C 19 j x)) →
    SU G (x_X5_insert_2 j k (nI f) (nI p) C) j (r + 1) + G (gV C 19 j p) = SU G C j (r + 1) + G (nI f) ∧ (∀ x, x ≤ r → Q (gV (x_X5_insert_2 j k (nI f) (nI p) C) 19 j x))
  | 0, p, C, hk, _, _ => absurd hk (Nat.not_lt_zero _)
  | k + 1, p, C, hk, hp, hA => by
    have e12 : (12 : Int32) = nI 12 := by decide
    have fin : x_X5_insert_48 j (nI f) (nI p) C = sV C 19 j p (nI f) := by
      unfold x_X5_insert_48
      rw [if_neg (nI_pos (by omega)), e12, if_neg (nI_ge (by omega) (by omega)), nI_clamp (by omega)]
    have fin2 : SU G (x_X5_insert_48 j (nI f) (nI p) C) j (r + 1) + G (gV C 19 j p) = SU G C j (r + 1) + G (nI f) ∧ (∀ x, x ≤ r → Q (gV (x_X5_insert_48 j (nI f) (nI p) C) 19 j x)) := by
      rw [fin]
      refine ⟨SU_sV r hp, fun x hx => ?_⟩
      rw [gV_sV]
      by_cases c : x = p
      · rw [if_pos ⟨rfl, c, rfl⟩]; exact hQ
      · rw [if_neg (fun e => c e.2.1)]; exact hA x hx c
    unfold x_X5_insert_2
    by_cases c0 : p = 0
    · have hle : nI p ≤ 0 := by rw [c0]; decide
      rw [if_pos hle]; exact fin2
    · obtain ⟨q, rfl⟩ : ∃ q, p = q + 1 := ⟨p - 1, by omega⟩
      have hle : ¬ nI (q + 1) ≤ 0 := nI_nle (by omega) (by omega)
      have h12 : ¬ (12 : Int32) ≤ nI (q + 1) := by rw [e12]; exact nI_ge (by omega) (by omega)
      rw [if_neg hle, if_neg h12]
      split
      · exact fin2
      · rw [nI_pred, nI_clamp (show q < 2 ^ 31 by omega), pk_m1, nI_clamp (show q + 1 < 2 ^ 31 by omega)]
        obtain ⟨h1, h2⟩ := ins_sum (G := G) (f := f) hr hQ k q (sV C 19 j (q + 1) (gV C 19 j q)) (by omega) (by omega) (fun x hx hne => by
          rw [gV_sV]
          by_cases c : x = q + 1
          · rw [if_pos ⟨rfl, c, rfl⟩]; exact hA q (by omega) (by omega)
          · rw [if_neg (fun e => c e.2.1)]; exact hA x hx c)
        refine ⟨?_, h2⟩
        rw [show gV (sV C 19 j (q + 1) (gV C 19 j q)) 19 j q = gV C 19 j q by rw [gV_sV, if_neg (by omega)]] at h1
        exact ab2 h1 (SU_sV r hp)
/-- the order made: what stands in it -/
theorem ord_sum {G : Int32 → Int32} {Q : Int32 → Prop} {j a g : Nat} {C0 : St} (ha : a < 4096) (hg : g < 4096) (h1 : gV C0 5 j 1 = nI a) (h4 : gV C0 5 j 4 = nI g) (hQ : ∀ f, f < 12 → mk a g / 2 ^ f % 2 = 1 → Q (nI f)) : ∀ (k i : Nat) (C : St), 12 - i < k → i ≤ 12 → Ag k19 C0 C → SU G C j (pcn (mk a g) i) = RS G (mk a g) i → (∀ x, x < pcn (mk a g) i → Q (gV C 19 j x)) →
    SU G (x_X5_orderRanked_4 j k (nI (pcn (mk a g) i)) (nI i) C) j (pcn (mk a g) 12) = RS G (mk a g) 12 ∧ (∀ x, x < pcn (mk a g) 12 → Q (gV (x_X5_orderRanked_4 j k (nI (pcn (mk a g) i)) (nI i) C) 19 j x))
  | 0, i, C, hk, _, _, _, _ => absurd hk (Nat.not_lt_zero _)
  | k + 1, i, C, hk, hi, hC, hS, hA => by
    have e12 : (12 : Int32) = nI 12 := by decide
    unfold x_X5_orderRanked_4
    rw [e12]
    by_cases c : 12 ≤ i
    · have e : i = 12 := by omega
      subst e
      rw [if_pos (Int32.le_refl _)]
      exact ⟨hS, hA⟩
    · have i12 : i < 12 := by omega
      have hpc := pcn_le (mk a g) i
      have hC' : Ag k19 C0 (sV C 19 j i (-1)) := Ag_sV _ _ _ _ rfl hC
      have rk := (ranked_k (C := sV C 19 j i (-1)) (M := C) (j := j) i12 ha hg (by rw [hC' 5 j 1 rfl]; exact h1) (by rw [hC' 5 j 4 rfl]; exact h4)).1
      have hS1 : SU G (sV C 19 j i (-1)) j (pcn (mk a g) i) = RS G (mk a g) i := by
        rw [SU_eq (C := C) _ (fun x hx => by rw [gV_sV, if_neg (by omega)])]; exact hS
      have hA1 : ∀ x, x < pcn (mk a g) i → Q (gV (sV C 19 j i (-1)) 19 j x) := fun x hx => by
        rw [gV_sV, if_neg (by omega)]; exact hA x hx
      have hpn : pcn (mk a g) (i + 1) = pcn (mk a g) i + mk a g / 2 ^ i % 2 := rfl
      have hrs : RS G (mk a g) (i + 1) = RS G (mk a g) i + (if mk a g / 2 ^ i % 2 = 1 then G (nI i) else 0) := rfl
      rw [if_neg (nI_ge i12 (by omega)), nI_clamp (show i < 2 ^ 31 by omega), rk]
      by_cases cb : mk a g / 2 ^ i % 2 = 1
      · rw [cb] at hpn
        rw [if_pos cb] at hrs
        rw [if_pos cb, if_neg (show ¬ (1 : Int32) = 0 by decide)]
        obtain ⟨s1, s2⟩ := ins_sum (G := G) (Q := Q) (j := j) (f := i) (r := pcn (mk a g) i) (by omega) (hQ i i12 cb) fu (pcn (mk a g) i) (sV C 19 j i (-1)) (by rw [fuE]; omega) (Nat.le_refl _) (fun x hx hne => hA1 x (by omega))
        have f9 : Ag k19 C0 (x_X5_insert j (nI i) (nI (pcn (mk a g) i)) (sV C 19 j i (-1))) := f9_X5_insert hC'
        have ei : x_X5_insert j (nI i) (nI (pcn (mk a g) i)) (sV C 19 j i (-1)) = x_X5_insert_2 j fu (nI i) (nI (pcn (mk a g) i)) (sV C 19 j i (-1)) := rfl
        rw [← ei] at s1 s2
        have s3 : SU G (sV C 19 j i (-1)) j (pcn (mk a g) i + 1) = SU G (sV C 19 j i (-1)) j (pcn (mk a g) i) + G (gV (sV C 19 j i (-1)) 19 j (pcn (mk a g) i)) := rfl
        rw [s3, hS1] at s1
        rw [ab0] at s1
        have s4 := add_can (s1.trans (ab0 _ _ _) |>.trans (ab0 _ _ _))
        unfold x_X5_orderRanked_31 x_X5_orderRanked_34
        rw [nI_1, nI_1, ← hpn]
        refine ord_sum ha hg h1 h4 hQ k (i + 1) _ (by omega) (by omega) f9 ?_ (fun x hx => s2 x (by rw [hpn] at hx; omega))
        rw [hrs, hpn]
        exact s4
      · have hz : mk a g / 2 ^ i % 2 = 0 := by have := Nat.mod_lt (mk a g / 2 ^ i) (show 0 < 2 by omega); omega
        replace hpn : pcn (mk a g) (i + 1) = pcn (mk a g) i := by rw [hpn, hz]; rfl
        rw [if_neg cb, Int32.add_zero] at hrs
        rw [if_neg cb, if_pos rfl]
        unfold x_X5_orderRanked_34
        rw [nI_1, ← hpn]
        refine ord_sum ha hg h1 h4 hQ k (i + 1) _ (by omega) (by omega) hC' ?_ (fun x hx => hA1 x (by rw [hpn] at hx; exact hx))
        rw [hrs, hpn]
        exact hS1
end SUMS
end
