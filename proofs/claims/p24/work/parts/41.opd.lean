noncomputable section
def gM (b : Nat) (u v : Int32) (M : St) : St := sV (sV M 21 0 (2 * b) (gV M 21 0 (2 * b) + u)) 21 0 (2 * b + 1) (gV (sV M 21 0 (2 * b) (gV M 21 0 (2 * b) + u)) 21 0 (2 * b + 1) + v)
theorem gM_V (b : Nat) (u v : Int32) (M : St) (c n k : Nat) : gV (gM b u v M) c n k = if c = 21 ∧ k = 2 * b ∧ n = 0 then gV M 21 0 (2 * b) + u else if c = 21 ∧ k = 2 * b + 1 ∧ n = 0 then gV M 21 0 (2 * b + 1) + v else gV M c n k := by
  unfold gM
  rw [gV_sV, gV_sV, gV_sV]
  by_cases h : c = 21 ∧ k = 2 * b ∧ n = 0
  · obtain ⟨rfl, rfl, rfl⟩ := h; rw [if_neg (by omega), if_pos ⟨rfl, rfl, rfl⟩, if_pos ⟨rfl, rfl, rfl⟩]
  · by_cases h2 : c = 21 ∧ k = 2 * b + 1 ∧ n = 0
    · rw [if_pos h2, if_neg (by omega), if_neg h, if_pos h2]
    · rw [if_neg h2, if_neg h, if_neg h, if_neg h2]
theorem tU_2 (b : Nat) (u v : Int32) (C : St) : (tU b u v C).2 = C.2 := by unfold tU; split <;> split <;> rfl
theorem nI_u {t : Nat} {u : Int32} (hu : u = 0 ∨ u = 1) : ∃ a : Nat, (a = t ∨ a = t + 1) ∧ nI t + u = nI a := by
  rcases hu with rfl | rfl
  · exact ⟨t, Or.inl rfl, Int32.add_zero _⟩
  · exact ⟨t + 1, Or.inr rfl, nI_1 t⟩
theorem midR_add {n nb np b t0 t1 g : Nat} {C M : St} {u v : Int32} (h : MidR n nb np b C M) (hu : u = 0 ∨ u = 1) (hv : v = 0 ∨ v = 1) (e0 : gV M 21 0 (2 * b) = nI t0) (e1 : gV M 21 0 (2 * b + 1) = nI t1) (l0 : t0 < g) (l1 : t1 < g) (hg : g ≤ 45) :
    MidR n nb np b (tU b u v C) (gM b u v M) ∧ Ag (fun c k => !(c == 2 && k == 1)) C (tU b u v C) ∧ Ag (fun c _ => c != 21) M (gM b u v M) := by
  obtain ⟨hA, hB, hZ, hb, hO1, hR, c0, c1, hGb, hO, hG, hK, hw, s2⟩ := h
  have hnb := hA.2.2.1
  have hC : Ag (fun c k => !(c == 2 && k == 1)) C (tU b u v C) := by
    intro c n k hc
    rw [tU_V, if_neg, if_neg]
    · rintro ⟨rfl, rfl, -⟩; simp at hc
    · rintro ⟨rfl, rfl, -⟩; simp at hc
  have hM : Ag (fun c _ => c != 21) M (gM b u v M) := by
    intro c n k hc
    rw [gM_V, if_neg, if_neg]
    · rintro ⟨rfl, -⟩; simp at hc
    · rintro ⟨rfl, -⟩; simp at hc
  refine ⟨?_, hC, hM⟩
  have hct : ∀ j f w k, k < 80 → ct (gM b u v M) j f w k = ct M j f w k := by
    intro j f w k hk80
    by_cases hk : k = b
    · subst hk; rw [ct_run hk80 hw, ct_run hk80 (by rw [hM 25 0 k rfl]; exact hw)]
    have hs : x_X8_sideIn (nI k) (nI j) f (gM b u v M) = x_X8_sideIn (nI k) (nI j) f M := by
      unfold x_X8_sideIn
      rw [hM 24 0 _ rfl, hM 25 0 _ rfl, hM 20 0 _ rfl, hM 20 0 _ rfl, hM 37 0 _ rfl]
      rfl
    unfold ct
    rw [hs, hM 25 0 _ rfl]
    by_cases cs : x_X8_sideIn (nI k) (nI j) f M = -1
    · rw [if_pos cs, if_pos cs]
    have hs2 : x_X8_sideIn (nI k) (nI j) f M = 0 ∨ x_X8_sideIn (nI k) (nI j) f M = 1 := by
      revert cs
      unfold x_X8_sideIn x_X8_sideIn_74 x_X8_sideIn_75
      repeat' split
      all_goals simp
    have a0 : (2 * nI k + 0 : Int32).toNatClampNeg = 2 * k := by rw [Int32.add_zero]; exact clamp2 hk80
    have a1 : (2 * nI k + 1 : Int32).toNatClampNeg = 2 * k + 1 := clamp21 hk80
    have w0 : gV (gM b u v M) 21 0 (2 * k) = gV M 21 0 (2 * k) := by rw [gM_V, if_neg (by omega), if_neg (by omega)]
    have w1 : gV (gM b u v M) 21 0 (2 * k + 1) = gV M 21 0 (2 * k + 1) := by rw [gM_V, if_neg (by omega), if_neg (by omega)]
    have z0 : (1 : Int32) - 0 = 1 := by decide
    have z1 : (1 : Int32) - 1 = 0 := by decide
    rcases hs2 with hs2 | hs2 <;> rw [hs2]
    · rw [z0, a0, a1, w0, w1]
    · rw [z1, a0, a1, w0, w1]
  refine ⟨?_, fun i hi => ?_, fun i hi => ?_, hb, fun i hi hne => by rw [hM 25 0 i rfl]; exact hO1 i hi hne, ?_, qC_t hC hM (by simp) n b 0 c0, qC_t hC hM (by simp) n b 1 c1, qG_t (C := C) (C' := C) (Ag.rf (fun _ _ => true) C) hM (by simp) np b hGb, fun j hj => ?_, fun j hj => by rw [hM 37 0 j rfl]; exact hG j hj, qK_t hC hM (by simp) hK, by rw [hM 25 0 b rfl]; exact hw, by rw [hM 8 0 4 rfl]; exact s2⟩
  · unfold qA at hA ⊢
    rw [hC 7 0 5 rfl, hC 7 0 6 rfl, hC 7 0 7 rfl, hC 7 0 9 rfl, hM 8 0 0 rfl, hM 8 0 3 rfl, hM 8 0 23 rfl, hM 8 0 2 rfl]
    have g1 : gL (tU b u v C) 3 0 = gL C 3 0 := by unfold gL; rw [tU_2]
    have g2 : ∀ a k, gR (tU b u v C) a k = gR C a k := fun a k => by unfold gR; rw [tU_2]
    have g3 : gL (gM b u v M) 8 1 = gL M 8 1 := rfl
    simp only [g1, g2, g3]
    exact hA
  · obtain ⟨b1, b2, b3, b4, b5, b6, b7, b8, b9, b10, b11, b12, b13, b14, b15, b16, b17, b18, b19⟩ := hB i hi
    unfold qB
    rw [hC 2 _ 0 rfl, hC 2 _ 0 rfl, hC 0 i 2 rfl, hC 0 i 3 rfl, hC 0 i 4 rfl, hC 0 i 5 rfl, hC 0 i 6 rfl, hC 0 i 7 rfl, hC 0 i 9 rfl, hM 20 0 _ rfl, hM 20 0 _ rfl, hM 22 0 _ rfl, hM 23 0 _ rfl, hM 24 0 _ rfl, hM 25 0 _ rfl, hM 26 0 _ rfl, hM 27 0 _ rfl, hM 28 0 _ rfl]
    have q : gV (tU b u v C) 2 (2 * i) 1 = gV (gM b u v M) 21 0 (2 * i) ∧ gV (tU b u v C) 2 (2 * i + 1) 1 = gV (gM b u v M) 21 0 (2 * i + 1) ∧ (∃ a : Nat, a ≤ 45 ∧ gV (gM b u v M) 21 0 (2 * i) = nI a) ∧ (∃ a : Nat, a ≤ 45 ∧ gV (gM b u v M) 21 0 (2 * i + 1) = nI a) := by
      rw [tU_V, tU_V, gM_V, gM_V]
      by_cases c : i = b
      · subst c
        rw [if_pos ⟨rfl, rfl, rfl⟩, if_pos ⟨rfl, rfl, rfl⟩, if_neg (by omega), if_pos ⟨rfl, rfl, rfl⟩, if_neg (by omega), if_pos ⟨rfl, rfl, rfl⟩, b6, b7, e0, e1]
        obtain ⟨a, ha, ha'⟩ := nI_u (t := t0) hu
        obtain ⟨a2, ha2, ha2'⟩ := nI_u (t := t1) hv
        exact ⟨rfl, rfl, ⟨a, by omega, ha'⟩, ⟨a2, by omega, ha2'⟩⟩
      · rw [if_neg (by omega), if_neg (by omega), if_neg (by omega), if_neg (by omega), if_neg (by omega), if_neg (by omega), if_neg (by omega), if_neg (by omega)]
        exact ⟨b6, b7, b8, b9⟩
    exact ⟨b1, b2, b3, b4, b5, q.1, q.2.1, q.2.2.1, q.2.2.2, b10, b11, b12, b13, b14, b15, b16, b17, b18, b19⟩
  · obtain ⟨z1, z2, z3, z4⟩ := hZ i hi
    unfold qZ
    rw [hM 26 0 _ rfl, hM 27 0 _ rfl, gM_V, gM_V, if_neg (by omega), if_neg (by omega), if_neg (by omega), if_neg (by omega)]
    exact ⟨z1, z2, z3, z4⟩
  · unfold gR; rw [tU_2]; exact hR
  · obtain ⟨o1, o2, o3, o4, o5, o6⟩ := hO j hj
    unfold qO2
    rw [hC 5 j 0 rfl, hC 5 j 1 rfl, hC 5 j 4 rfl, hM 36 0 j rfl, hM 37 0 j rfl, hM 8 0 0 rfl]
    refine ⟨o1, o2, o3, o4, o5, fun f w hf hw' => ?_⟩
    have h6 := o6 f w hf hw'
    rw [hct _ _ _ _ (by omega), TS_same (M := M) nb 0 (fun k hk => hct j (nI f) (nI w) k (by omega)), ← h6, hC 18 j _ rfl]
/-- after the touches were added: both sides end the bout, or neither does -/
theorem post_eq {n nb np b t0 t1 g : Nat} {C M : St} {s : Int32} (hs : s = 1 ∨ s = 2 ∨ s = 3) (h : MidR n nb np b C M) (e0 : gV M 21 0 (2 * b) = nI t0) (e1 : gV M 21 0 (2 * b + 1) = nI t1) (eg : gV M 23 0 b = nI g) (l0 : t0 ≤ 45) (l1 : t1 ≤ 45) (hg : g ≤ 45) :
    (x_X0_addTouches_38 b C = C ∧ t0 < g ∧ t1 < g ∧ (if gV M 23 0 b ≤ gV M 21 0 (2 * b) then x_X8_gives_71 s (nI b) M else if gV M 21 0 (2 * b + 1) < gV M 23 0 b then x_X8_gives_76 s (nI b) 0 M else x_X8_gives_71 s (nI b) M) = M ∧
      (if gV M 23 0 b ≤ gV M 21 0 (2 * b) then ok_X8_gives_71 s (nI b) M else if gV M 21 0 (2 * b + 1) < gV M 23 0 b then ok_X8_gives_76 s (nI b) 0 M else ok_X8_gives_71 s (nI b) M)) ∨
    (x_X0_addTouches_38 b C = x_X0_finish b (x_X8_ahead M) C ∧ (if gV M 23 0 b ≤ gV M 21 0 (2 * b) then x_X8_gives_71 s (nI b) M else if gV M 21 0 (2 * b + 1) < gV M 23 0 b then x_X8_gives_76 s (nI b) 0 M else x_X8_gives_71 s (nI b) M) = x_X8_ends (x_X8_ahead M) M ∧
      (if gV M 23 0 b ≤ gV M 21 0 (2 * b) then ok_X8_gives_71 s (nI b) M else if gV M 21 0 (2 * b + 1) < gV M 23 0 b then ok_X8_gives_76 s (nI b) 0 M else ok_X8_gives_71 s (nI b) M) ∧ (x_X8_ahead M = 0 ∨ x_X8_ahead M = 1)) := by
  have h' := h
  obtain ⟨hA, hB, hZ, hb, hO1, hR, c0, c1, hGb, hO, hG, hK, hw, s2⟩ := h'
  have hnb := hA.2.2.1
  have hbB := hB b hb
  obtain ⟨q1, q2, q3⟩ := leader_eq hbB hb hnb s2
  have hend := (mid_win h q3).2
  obtain ⟨b1, b2, b3, b4, b5, b6, b7, b8, b9, b10, b11, b12, b13, b14, b15, b16, b17, b18, b19⟩ := hbB
  have hs0 : ¬ s ≤ 0 := by rcases hs with rfl | rfl | rfl <;> decide
  have z1 : ¬ (1 : Int32) = 0 := by decide
  have i0 : (nI g ≤ nI t0) ↔ g ≤ t0 := nI_leI (by omega) (by omega)
  have i1 : (nI t1 < nI g) ↔ t1 < g := nI_ltI (by omega) (by omega)
  have ie : (nI t0 = nI t1) ↔ t0 = t1 := nI_eq (by omega) (by omega)
  have v0 : vp_in (2 * nI b) 160 := by rw [show (2 : Int32) = nI 2 by decide, pk_mul]; exact vp_in_nI (by omega) (by omega)
  have v1 : vp_in (2 * nI b + 1) 160 := by rw [show (2 : Int32) = nI 2 by decide, pk_mul, nI_1]; exact vp_in_nI (by omega) (by omega)
  have v2 : vp_in (nI b) 80 := vp_in_nI (by omega) (by omega)
  have hx128 : x_X8_gives_128 M = x_X8_ends (x_X8_ahead M) M := rfl
  have ho128 : ok_X8_gives_128 M := ⟨q2, hend, trivial⟩
  have hl : x_X0_isLike b C = if t0 = t1 then 1 else 0 := by unfold x_X0_isLike; rw [b6, b7, e0, e1]; simp only [ie]
  have h71 : x_X8_gives_71 s (nI b) M = x_X8_ends (x_X8_ahead M) M ∧ ok_X8_gives_71 s (nI b) M := by
    unfold x_X8_gives_71 ok_X8_gives_71 x_X8_gives_76 ok_X8_gives_76 x_X8_gives_103 ok_X8_gives_103
    simp only [hs0, z1, ↓reduceIte, hx128, ite_self]
    refine ⟨trivial, v0, v1, ?_⟩
    first | exact ho128 | (split <;> exact ho128)
  have h76 : x_X8_gives_76 s (nI b) 0 M = (if gV M 28 0 b = -1 then M else if t0 = t1 then M else x_X8_ends (x_X8_ahead M) M) ∧ ok_X8_gives_76 s (nI b) 0 M := by
    unfold x_X8_gives_76 ok_X8_gives_76 x_X8_gives_103 ok_X8_gives_103
    rw [clamp2 (by omega), clamp21 (by omega), nI_clamp (by omega), e0, e1]
    simp only [hs0, z1, ↓reduceIte, hx128, ie]
    by_cases ct : t0 = t1
    · simp only [ct, ↓reduceIte, ite_self]
      refine ⟨trivial, v0, v1, v2, trivial⟩
    · simp only [ct, ↓reduceIte]
      refine ⟨trivial, v0, v1, v2, ?_⟩
      split
      · trivial
      · exact ho128
  have hc91 : x_X0_addTouches_91 b C = x_X0_finish b (x_X8_ahead M) C := by unfold x_X0_addTouches_91; rw [q1]
  unfold x_X0_addTouches_38 x_X0_addTouches_66 x_X0_addTouches_71
  rw [b11, b6, b7, b17, eg, e0, e1, h71.1, h76.1, hl, hc91]
  simp only [i0, i1, z1, ↓reduceIte]
  by_cases c0 : g ≤ t0
  · right
    simp only [c0, ↓reduceIte]
    exact ⟨trivial, trivial, h71.2, q3⟩
  by_cases c1 : t1 < g
  · simp only [c0, c1, ↓reduceIte]
    by_cases cd : gV M 28 0 b = -1
    · left
      simp only [cd, ↓reduceIte]
      exact ⟨trivial, by omega, trivial, trivial, h76.2⟩
    · by_cases ce : t0 = t1
      · left
        simp only [cd, ce, z1, ↓reduceIte]
        exact ⟨trivial, by omega, trivial, trivial, h76.2⟩
      · right
        simp only [cd, ce, ↓reduceIte]
        exact ⟨trivial, trivial, h76.2, q3⟩
  · right
    simp only [c0, c1, ↓reduceIte]
    exact ⟨trivial, trivial, h71.2, q3⟩
/-- touches given: the program's addTouches and the model's gives -/
theorem gives_eq {n nb np b t0 t1 g : Nat} {C M : St} {s : Int32} (hs : s = 1 ∨ s = 2 ∨ s = 3) (h : MidR n nb np b C M) (e0 : gV M 21 0 (2 * b) = nI t0) (e1 : gV M 21 0 (2 * b + 1) = nI t1) (eg : gV M 23 0 b = nI g) (l0 : t0 < g) (l1 : t1 < g) (hg : g ≤ 45) :
    ok_X8_gives s M ∧ ((MidR n nb np b (x_X0_addTouches b s C) (x_X8_gives s M) ∧ Ag (fun c k => !(c == 2 && k == 1)) C (x_X0_addTouches b s C) ∧ Ag (fun c _ => c != 21) M (x_X8_gives s M) ∧ gV (x_X8_gives s M) 21 0 (2 * b) < gV M 23 0 b ∧ gV (x_X8_gives s M) 21 0 (2 * b + 1) < gV M 23 0 b) ∨
      (Mid n nb np b (x_X0_addTouches b s C) (x_X8_gives s M) ∧ ¬ gV (x_X8_gives s M) 25 0 b = -1)) := by
  have hb := h.2.2.2.1
  have hnb := h.1.2.2.1
  have s2 : gV M 8 0 4 = nI b := h.2.2.2.2.2.2.2.2.2.2.2.2.2
  have hu : (s &&& 1 = 0 ∨ s &&& 1 = 1) ∧ (s >>> (1 &&& 31) = 0 ∨ s >>> (1 &&& 31) = 1) := by
    rcases hs with rfl | rfl | rfl <;> exact ⟨by decide, by decide⟩
  obtain ⟨m1, m2, m3⟩ := midR_add h hu.1 hu.2 e0 e1 l0 l1 hg
  obtain ⟨a0, ha0, ea0⟩ := nI_u (t := t0) hu.1
  obtain ⟨a1, ha1, ea1⟩ := nI_u (t := t1) hu.2
  have f0 : gV (gM b (s &&& 1) (s >>> (1 &&& 31)) M) 21 0 (2 * b) = nI a0 := by rw [gM_V, if_pos ⟨rfl, rfl, rfl⟩, e0, ea0]
  have f1 : gV (gM b (s &&& 1) (s >>> (1 &&& 31)) M) 21 0 (2 * b + 1) = nI a1 := by rw [gM_V, if_neg (by omega), if_pos ⟨rfl, rfl, rfl⟩, e1, ea1]
  have f3 : gV (gM b (s &&& 1) (s >>> (1 &&& 31)) M) 23 0 b = nI g := by rw [m3 23 0 b rfl, eg]
  have v0 : vp_in (2 * nI b) 160 := by rw [show (2 : Int32) = nI 2 by decide, pk_mul]; exact vp_in_nI (by omega) (by omega)
  have v1 : vp_in (2 * nI b + 1) 160 := by rw [show (2 : Int32) = nI 2 by decide, pk_mul, nI_1]; exact vp_in_nI (by omega) (by omega)
  have v2 : vp_in (nI b) 80 := vp_in_nI (by omega) (by omega)
  have hp := post_eq hs m1 f0 f1 f3 (by omega) (by omega) hg
  rw [add_c b s hs C]
  have hx : x_X8_gives s M = (if gV (gM b (s &&& 1) (s >>> (1 &&& 31)) M) 23 0 b ≤ gV (gM b (s &&& 1) (s >>> (1 &&& 31)) M) 21 0 (2 * b) then x_X8_gives_71 s (nI b) (gM b (s &&& 1) (s >>> (1 &&& 31)) M) else if gV (gM b (s &&& 1) (s >>> (1 &&& 31)) M) 21 0 (2 * b + 1) < gV (gM b (s &&& 1) (s >>> (1 &&& 31)) M) 23 0 b then x_X8_gives_76 s (nI b) 0 (gM b (s &&& 1) (s >>> (1 &&& 31)) M) else x_X8_gives_71 s (nI b) (gM b (s &&& 1) (s >>> (1 &&& 31)) M)) := by
    unfold x_X8_gives
    rw [s2, clamp2 (by omega), clamp21 (by omega), nI_clamp (by omega), m3 23 0 b rfl]
    rfl
  have ho : ok_X8_gives s M = (vp_in (2 * nI b) 160 ∧ (vp_in (2 * nI b) 160 ∧ (vp_in (2 * nI b + 1) 160 ∧ (vp_in (2 * nI b + 1) 160 ∧ (vp_in (2 * nI b) 160 ∧ (vp_in (nI b) 80 ∧ (if gV (gM b (s &&& 1) (s >>> (1 &&& 31)) M) 23 0 b ≤ gV (gM b (s &&& 1) (s >>> (1 &&& 31)) M) 21 0 (2 * b) then ok_X8_gives_71 s (nI b) (gM b (s &&& 1) (s >>> (1 &&& 31)) M) else (vp_in (2 * nI b + 1) 160 ∧ (vp_in (nI b) 80 ∧ (if gV (gM b (s &&& 1) (s >>> (1 &&& 31)) M) 21 0 (2 * b + 1) < gV (gM b (s &&& 1) (s >>> (1 &&& 31)) M) 23 0 b then ok_X8_gives_76 s (nI b) 0 (gM b (s &&& 1) (s >>> (1 &&& 31)) M) else ok_X8_gives_71 s (nI b) (gM b (s &&& 1) (s >>> (1 &&& 31)) M))))))))))) := by
    unfold ok_X8_gives
    rw [s2, clamp2 (by omega), clamp21 (by omega), nI_clamp (by omega), m3 23 0 b rfl]
    rfl
  rw [hx, ho]
  generalize hM1 : gM b (s &&& 1) (s >>> (1 &&& 31)) M = M1 at *
  generalize hC1 : tU b (s &&& 1) (s >>> (1 &&& 31)) C = C1 at *
  have ok' : (if gV M1 23 0 b ≤ gV M1 21 0 (2 * b) then ok_X8_gives_71 s (nI b) M1 else if gV M1 21 0 (2 * b + 1) < gV M1 23 0 b then ok_X8_gives_76 s (nI b) 0 M1 else ok_X8_gives_71 s (nI b) M1) → (if gV M1 23 0 b ≤ gV M1 21 0 (2 * b) then ok_X8_gives_71 s (nI b) M1 else (vp_in (2 * nI b + 1) 160 ∧ (vp_in (nI b) 80 ∧ (if gV M1 21 0 (2 * b + 1) < gV M1 23 0 b then ok_X8_gives_76 s (nI b) 0 M1 else ok_X8_gives_71 s (nI b) M1)))) := by
    intro hh
    by_cases c : gV M1 23 0 b ≤ gV M1 21 0 (2 * b)
    · rw [if_pos c] at hh ⊢; exact hh
    · rw [if_neg c] at hh ⊢; exact ⟨v1, v2, hh⟩
  rcases hp with ⟨p1, p2, p3, p4, p5⟩ | ⟨p1, p2, p3, p4⟩
  · rw [p1, p4]
    refine ⟨⟨v0, v0, v1, v1, v0, v2, ok' p5⟩, Or.inl ⟨m1, m2, m3, ?_, ?_⟩⟩
    · rw [f0, eg]; exact nI_lt p2 (by omega)
    · rw [f1, eg]; exact nI_lt p3 (by omega)
  · rw [p1, p2]
    refine ⟨⟨v0, v0, v1, v1, v0, v2, ok' p3⟩, Or.inr ⟨(mid_win m1 p4).1, ?_⟩⟩
    have e4 : gV M1 8 0 4 = nI b := m1.2.2.2.2.2.2.2.2.2.2.2.2.2
    unfold x_X8_ends
    rw [e4, nI_clamp (by omega)]
    have : gV (sV (sV (sV M1 25 0 b (x_X8_ahead M1)) 8 0 4 (-1)) 8 0 17 0) 25 0 b = x_X8_ahead M1 := by simp [gV_sV]
    rw [this]
    rcases p4 with e | e <;> rw [e] <;> decide
def kJ : Nat → Nat → Bool := fun c k => !(c == 6 || (c == 7 && k == 9))
def kNj : Nat → Nat → Bool := fun c k => !(c == 8 && (k == 30 || k == 2))
def GE (C M : St) (rc rm : Int32 × St) : Prop := rc.1 = rm.1 ∧ (rm.1 = 0 ∨ rm.1 = 1 ∨ rm.1 = 2 ∨ rm.1 = 3) ∧ Ag kJ C rc.2 ∧ Ag kNj M rm.2 ∧ gV rc.2 7 0 9 = gV rm.2 8 0 2
theorem GE_leaf {C M C1 M1 : St} {v v' y : Int32} (hC : Ag kJ C C1) (hM : Ag kNj M M1) (e : v = v') (hv : v' = 0 ∨ v' = 1 ∨ v' = 2 ∨ v' = 3) : GE C M (v, sV C1 7 0 9 y) (v', sV M1 8 0 2 y) :=
  ⟨e, hv, Ag_sV _ _ _ _ rfl hC, Ag_sV _ _ _ _ rfl hM, by simp [gV_sV]⟩
theorem shl_s {s : Int32} (hs : s = 0 ∨ s = 1) (C : St) : x_X7_bitOf s C = 1 <<< (s &&& 31) ∧ x_X7_bitOf (1 - s) C = 1 <<< ((1 - s) &&& 31) ∧ (1 <<< (s &&& 31) = (1 : Int32) ∨ 1 <<< (s &&& 31) = (2 : Int32)) ∧ (1 <<< ((1 - s) &&& 31) = (1 : Int32) ∨ 1 <<< ((1 - s) &&& 31) = (2 : Int32)) := by
  unfold x_X7_bitOf
  rcases hs with rfl | rfl <;> exact ⟨by decide, by decide, by decide, by decide⟩
theorem lone_eq {C M C1 M1 : St} {c f : Nat} {s a3 : Int32} (hC : Ag kJ C C1) (hM : Ag kNj M M1) (h24 : c ≤ 24) (hf : f < c) (hc1 : gV C1 4 0 6 = nI c) (e15 : gV C1 15 0 f = gV M1 35 0 f) (e31 : gV M1 31 0 f = s) (hs : (s = 0 ∧ ¬ a3 = -1) ∨ (s = 1 ∧ a3 = -1)) :
    GE C M (x_X7_judgeFor_61 a3 (nI f) C1) (x_X8_given_49 (nI f) M1) ∧ ok_X7_judgeFor_61 a3 (nI f) C1 ∧ ok_X8_given_49 (nI f) M1 := by
  have hv : vp_in (nI f) 24 := vp_in_nI (by omega) (by omega)
  refine ⟨?_, ?_, ?_⟩
  · unfold x_X7_judgeFor_61 x_X8_given_49 x_X8_given_65
    rw [targetAt_k hc1 h24 hf, nI_clamp (by omega), e15, e31]
    by_cases c0 : gV M1 35 0 f = 0
    · simp only [c0, ↓reduceIte]
      rcases hs with ⟨rfl, h3⟩ | ⟨rfl, h3⟩
      · simp only [h3, ↓reduceIte]
        exact GE_leaf hC hM (shl_s (Or.inl rfl) C1).1 (by decide)
      · simp only [h3, ↓reduceIte]
        exact GE_leaf hC hM (shl_s (Or.inr rfl) C1).1 (by decide)
    · simp only [c0, ↓reduceIte]
      exact GE_leaf hC hM rfl (by decide)
  · unfold ok_X7_judgeFor_61
    refine ⟨ok_targetAt h24 hf, ?_⟩
    split
    · split <;> trivial
    · trivial
  · unfold ok_X8_given_49 ok_X8_given_65
    simp only [hv, true_and, and_true, ite_self]
theorem right_eq {C M C1 M1 : St} {c fo ft : Nat} {s : Int32} (hC : Ag kJ C C1) (hM : Ag kNj M M1) (h24 : c ≤ 24) (ho : fo < c) (ht : ft < c) (hc1 : gV C1 4 0 6 = nI c) (e1 : gV C1 15 0 fo = gV M1 35 0 fo) (e2 : gV C1 15 0 ft = gV M1 35 0 ft) (e3 : gV C1 13 0 fo = gV M1 33 0 fo) (e4 : gV C1 13 0 ft = gV M1 33 0 ft) (hs : s = 0 ∨ s = 1) :
    GE C M (x_X7_judgeByRight_45 s (nI fo) (nI ft) C1) (x_X8_given_207 s (nI fo) (nI ft) M1) ∧ ok_X7_judgeByRight_45 s (nI fo) (nI ft) C1 ∧ ok_X8_given_207 s (nI fo) (nI ft) M1 := by
  have v1 : vp_in (nI fo) 24 := vp_in_nI (by omega) (by omega)
  have v2 : vp_in (nI ft) 24 := vp_in_nI (by omega) (by omega)
  obtain ⟨s1, s2, s3, s4⟩ := shl_s hs C1
  have h12 : ∀ v : Int32, v = 1 ∨ v = 2 → v = 0 ∨ v = 1 ∨ v = 2 ∨ v = 3 := by rintro v (h | h); exact Or.inr (Or.inl h); exact Or.inr (Or.inr (Or.inl h))
  have k1 : GE C M (x_X7_judgeByRight_100 s (nI fo) C1) (x_X8_given_252 s (nI fo) M1) ∧ ok_X7_judgeByRight_100 s (nI fo) C1 ∧ ok_X8_given_252 s (nI fo) M1 := by
    unfold x_X7_judgeByRight_100 ok_X7_judgeByRight_100 x_X8_given_252 ok_X8_given_252 x_X8_given_269 ok_X8_given_269 x_X7_judgeByRight_122 ok_X7_judgeByRight_122
    rw [targetAt_k hc1 h24 ho, nI_clamp (by omega), e1]
    simp only [v1, ok_targetAt h24 ho, true_and, and_true, ite_self]
    by_cases c0 : gV M1 35 0 fo = 0
    · simp only [c0, ↓reduceIte]
      exact GE_leaf hC hM s1 (h12 _ s3)
    · simp only [c0, ↓reduceIte]
      exact GE_leaf hC hM rfl (by decide)
  unfold x_X7_judgeByRight_45 ok_X7_judgeByRight_45 x_X8_given_207 ok_X8_given_207
  rw [targetAt_k hc1 h24 ht, timeAt_k hc1 h24 ht, timeAt_k hc1 h24 ho, nI_clamp (by omega), nI_clamp (by omega), e2, e3, e4]
  simp only [v1, v2, ok_targetAt h24 ht, ok_timeAt h24 ht, ok_timeAt h24 ho, true_and]
  by_cases c0 : gV M1 35 0 ft = 0
  · simp only [c0, ↓reduceIte]
    by_cases c1 : gV M1 33 0 fo - gV M1 33 0 ft < 150
    · simp only [c1, ↓reduceIte]; exact k1
    · simp only [c1, ↓reduceIte]
      exact ⟨GE_leaf hC hM s2 (h12 _ s4), trivial, trivial⟩
  · simp only [c0, ↓reduceIte]; exact k1
theorem given_eq {C M : St} {c b nb : Nat} (h24 : c ≤ 24) (hc1 : gV C 4 0 6 = nI c) (hc2 : gV M 8 0 17 = nI c) (hE : ∀ k, k < c → qE C M k) (hb : b < nb) (hnb : nb ≤ 80) (hp : gV M 8 0 4 = nI b) (hw : gV C 0 b 2 = gV M 22 0 b) (hto : gV C 0 b 3 = gV M 23 0 b) (h0 : gV C 2 (2 * b) 1 = gV M 21 0 (2 * b)) (h1 : gV C 2 (2 * b + 1) 1 = gV M 21 0 (2 * b + 1)) :
    GE C M (x_X7_judgeFor (gV C 0 b 2) (x_X0_isDoubleTooFar b C) C) (x_X8_given M) ∧ ok_X7_judgeFor (gV C 0 b 2) (x_X0_isDoubleTooFar b C) C ∧ ok_X8_given M := by
  obtain ⟨A1, A2, A3, A4⟩ := reg_eq (s := 0) (Or.inl rfl) h24 hc1 hc2 hE hb hnb hp hw
  obtain ⟨B1, B2, B3, B4⟩ := reg_eq (s := 1) (Or.inr rfl) h24 hc1 hc2 hE hb hnb hp hw
  have v0 : vp_in (2 * nI b) 160 := by rw [show (2 : Int32) = nI 2 by decide, pk_mul]; exact vp_in_nI (by omega) (by omega)
  have v1 : vp_in (2 * nI b + 1) 160 := by rw [show (2 : Int32) = nI 2 by decide, pk_mul, nI_1]; exact vp_in_nI (by omega) (by omega)
  have v2 : vp_in (nI b) 80 := vp_in_nI (by omega) (by omega)
  have rC : Ag kJ C C := Ag.rf _ _
  have rM : Ag kNj M M := Ag.rf _ _
  unfold x_X7_judgeFor ok_X7_judgeFor x_X8_given ok_X8_given
  rw [A1, B1]
  simp only [A2, A3, B2, B3, true_and]
  rcases A4 with hA | ⟨f, hf, hA, eA, eA2⟩
  · rw [hA]
    rcases B4 with hB | ⟨f, hf, hB, eB, eB2⟩
    · rw [hB]
      simp only [↓reduceIte]
      exact ⟨GE_leaf rC rM rfl (by decide), trivial, trivial⟩
    · rw [hB]
      unfold x_X7_judgeFor_39 ok_X7_judgeFor_39 x_X8_given_29 ok_X8_given_29 x_X7_judgeFor_50 ok_X7_judgeFor_50 x_X8_given_39 ok_X8_given_39
      simp only [nI_m1 (show f < 2 ^ 31 by omega), ↓reduceIte]
      exact lone_eq rC rM h24 hf hc1 eB eB2 (Or.inr ⟨rfl, rfl⟩)
  · rw [hA]
    have nA := nI_m1 (show f < 2 ^ 31 by omega)
    rcases B4 with hB | ⟨f', hf', hB, eB, eB2⟩
    · rw [hB]
      unfold x_X7_judgeFor_39 ok_X7_judgeFor_39 x_X8_given_29 ok_X8_given_29 x_X7_judgeFor_50 ok_X7_judgeFor_50 x_X8_given_39 ok_X8_given_39
      simp only [nA, ↓reduceIte]
      exact lone_eq rC rM h24 hf hc1 eA eA2 (Or.inl ⟨rfl, nA⟩)
    · rw [hB]
      have nB := nI_m1 (show f' < 2 ^ 31 by omega)
      unfold x_X7_judgeFor_39 ok_X7_judgeFor_39 x_X8_given_29 ok_X8_given_29
      rw [hp, nI_clamp (show b < 2 ^ 31 by omega), clamp2 (by omega), clamp21 (by omega), hw]
      simp only [nA, nB, v0, v1, v2, ↓reduceIte, true_and]
      by_cases cw : gV M 22 0 b = 1
      · simp only [cw, ↓reduceIte]
        unfold x_X0_isDoubleTooFar x_X0_isDoubleTooFar_36
        rw [hto, h0, h1]
        have z1 : ¬ (1 : Int32) = 0 := by decide
        by_cases x0 : gV M 21 0 (2 * b) + 1 < gV M 23 0 b
        · simp only [x0, ↓reduceIte]
          exact ⟨GE_leaf rC rM rfl (by decide), trivial, trivial⟩
        · by_cases x1 : gV M 21 0 (2 * b + 1) + 1 < gV M 23 0 b
          · simp only [x0, x1, ↓reduceIte]
            exact ⟨GE_leaf rC rM rfl (by decide), trivial, trivial⟩
          · simp only [x0, x1, z1, ↓reduceIte]
            exact ⟨GE_leaf rC rM rfl (by decide), trivial, trivial⟩
      · simp only [cw, ↓reduceIte, and_true]
        unfold x_X7_judgeByRight ok_X7_judgeByRight x_X8_given_167 ok_X8_given_167
        have hm : ∀ e : Nat, e < c → GE C M (x_X7_judgeByRight_12 (nI f) (nI f') (x_X4_holderAhead (nI e) C).1 (x_X4_holderAhead (nI e) C).2) (x_X8_given_170 (nI f) (nI f') (x_X8_rights (nI e) M).1 (x_X8_rights (nI e) M).2) ∧ (ok_X4_holderAhead (nI e) C ∧ ok_X7_judgeByRight_12 (nI f) (nI f') (x_X4_holderAhead (nI e) C).1 (x_X4_holderAhead (nI e) C).2) ∧ (ok_X8_rights (nI e) M ∧ ok_X8_given_170 (nI f) (nI f') (x_X8_rights (nI e) M).1 (x_X8_rights (nI e) M).2) := by
          intro e he
          obtain ⟨r1, r2, r3, r4, r5, r6⟩ := rights_eq (M := M) h24 (Nat.le_of_lt he) hc1 hE
          generalize (x_X4_holderAhead (nI e) C).2 = C1 at *
          generalize (x_X8_rights (nI e) M).2 = M1 at *
          rw [← r1]
          generalize (x_X4_holderAhead (nI e) C).1 = s at *
          have kC : Ag kJ C C1 := fun x y z h => r5 x y z (by unfold kJ at h; unfold pc6; simp at h ⊢; exact h.1)
          have kM : Ag kNj M M1 := fun x y z h => r6 x y z (by unfold kNj at h; unfold pm30; simp at h ⊢; first | exact h.imp id And.left | (intro h8; exact (h h8).1))
          have q1 : gV C1 4 0 6 = nI c := by rw [r5 4 0 6 rfl]; exact hc1
          have q15 : ∀ k, gV C1 15 0 k = gV C 15 0 k := fun k => r5 15 0 k rfl
          have q13 : ∀ k, gV C1 13 0 k = gV C 13 0 k := fun k => r5 13 0 k rfl
          have q35 : ∀ k, gV M1 35 0 k = gV M 35 0 k := fun k => r6 35 0 k rfl
          have q33 : ∀ k, gV M1 33 0 k = gV M 33 0 k := fun k => r6 33 0 k rfl
          have z1 : ¬ (0 : Int32) = -1 := by decide
          have z2 : ¬ (1 : Int32) = -1 := by decide
          have z3 : ¬ (1 : Int32) = 0 := by decide
          unfold x_X7_judgeByRight_12 ok_X7_judgeByRight_12 x_X8_given_170 ok_X8_given_170 x_X7_judgeByRight_34 ok_X7_judgeByRight_34 x_X8_given_195 ok_X8_given_195
          simp only [r2, r3, true_and]
          rcases r4 with h | h | h
          · simp only [h, ↓reduceIte]
            exact ⟨GE_leaf kC kM rfl (by decide), trivial, trivial⟩
          · simp only [h, z1, ↓reduceIte]
            exact right_eq kC kM h24 hf hf' q1 (by rw [q15, q35]; exact eA) (by rw [q15, q35]; exact eB) (by rw [q13, q33]; exact (hE f hf).2.2.1) (by rw [q13, q33]; exact (hE f' hf').2.2.1) (Or.inl rfl)
          · simp only [h, z2, z3, ↓reduceIte]
            exact right_eq kC kM h24 hf' hf q1 (by rw [q15, q35]; exact eB) (by rw [q15, q35]; exact eA) (by rw [q13, q33]; exact (hE f' hf').2.2.1) (by rw [q13, q33]; exact (hE f hf).2.2.1) (Or.inr rfl)
        by_cases cl : f < f'
        · rw [if_pos (nI_lt cl (by omega)), if_pos (nI_le (Nat.le_of_lt cl) (by omega)), if_pos (nI_le (Nat.le_of_lt cl) (by omega))]
          exact hm f' hf'
        · rw [if_neg (nI_nlt (show f' ≤ f by omega) (by omega))]
          by_cases ce : f = f'
          · subst ce
            rw [if_pos (nI_le (Nat.le_refl _) (by omega)), if_pos (nI_le (Nat.le_refl _) (by omega))]
            exact hm f hf
          · rw [if_neg (nI_ge (show f' < f by omega) (by omega)), if_neg (nI_ge (show f' < f by omega) (by omega))]
            exact hm f hf
def kR : Nat → Nat → Bool := fun c k => !(c == 6 || c == 4 || (decide (11 ≤ c) && decide (c ≤ 15)) || (c == 0 && (k == 8 || k == 6 || k == 7 || k == 9)) || (c == 7 && k == 9) || (c == 2 && (k == 2 || k == 3)) || c == 3)
def kS : Nat → Nat → Bool := fun c k => !((c == 8 && (k == 14 || k == 17 || k == 30 || k == 31 || k == 2)) || c == 26 || c == 27 || c == 28 || c == 29 || c == 30 || (decide (31 ≤ c) && decide (c ≤ 35)) || c == 38)
theorem midR_t {n n' nb np b : Nat} {C C' M M' : St} (h : MidR n nb np b C M) (hC : Ag kR C C') (hM : Ag kS M M') (h9 : gV C' 7 0 9 = gV M' 8 0 2) (hR' : ∀ a k, gR C' a k = gR C a k) (hL : gL C' 3 0 = gL M' 8 1 ∧ 0 ≤ (gL M' 8 1).toInt ∧ (gL M' 8 1).toInt < 2147483648)
    (hx : ∀ i, i < nb → gV C' 0 i 6 = gV M' 28 0 i ∧ gV C' 0 i 7 = gV M' 26 0 i ∧ gV C' 0 i 9 = gV M' 27 0 i) (hz : ∀ i, nb ≤ i → gV M' 26 0 i = 0 ∧ gV M' 27 0 i = 0) (hc : qC C' M' n' b 0 ∧ qC C' M' n' b 1) : MidR n' nb np b C' M' := by
  obtain ⟨hA, hB, hZ, hb, hO1, hR, c0, c1, hGb, hO, hG, hK, hw, s2⟩ := h
  refine ⟨?_, fun i hi => ?_, fun i hi => ?_, hb, fun i hi hne => by rw [hM 25 0 i rfl]; exact hO1 i hi hne, by rw [hR']; exact hR, hc.1, hc.2, ?_, fun j hj => ?_, fun j hj => by rw [hM 37 0 j rfl]; exact hG j hj, qK_t hC hM (by simp [kR, kS]) hK, by rw [hM 25 0 b rfl]; exact hw, by rw [hM 8 0 4 rfl]; exact s2⟩
  · obtain ⟨A1, A2, A3, A4, A5, A6, A7, A8, A9, A10, A11, A12, A13, A14⟩ := hA
    unfold qA
    rw [hC 7 0 5 rfl, hC 7 0 6 rfl, hC 7 0 7 rfl, hM 8 0 0 rfl, hM 8 0 3 rfl, hM 8 0 23 rfl]
    simp only [hR']
    exact ⟨A1, A2, A3, A4, A5, A6, A7, A8, h9, hL.1, hL.2.1, hL.2.2, A13, A14⟩
  · obtain ⟨b1, b2, b3, b4, b5, b6, b7, b8, b9, b10, b11, b12, b13, b14, b15, b16, b17, b18, b19⟩ := hB i hi
    obtain ⟨x1, x2, x3⟩ := hx i hi
    unfold qB
    rw [hC 2 _ 0 rfl, hC 2 _ 0 rfl, hC 2 _ 1 rfl, hC 2 _ 1 rfl, hC 0 i 2 rfl, hC 0 i 3 rfl, hC 0 i 4 rfl, hC 0 i 5 rfl, hM 20 0 _ rfl, hM 20 0 _ rfl, hM 21 0 _ rfl, hM 21 0 _ rfl, hM 22 0 _ rfl, hM 23 0 _ rfl, hM 24 0 _ rfl, hM 25 0 _ rfl]
    exact ⟨b1, b2, b3, b4, b5, b6, b7, b8, b9, b10, b11, b12, b13, b14, b15, b16, x1, x2, x3⟩
  · obtain ⟨z1, z2, z3, z4⟩ := hZ i hi
    unfold qZ
    rw [hM 21 0 _ rfl, hM 21 0 _ rfl]
    exact ⟨z1, z2, (hz i hi).1, (hz i hi).2⟩
  · exact qG_t (C := C) (C' := C) (Ag.rf (fun _ _ => true) C) hM (by simp [kS]) np b hGb
  · obtain ⟨o1, o2, o3, o4, o5, o6⟩ := hO j hj
    have hp : (∀ k, kS 20 k = true) ∧ (∀ k, kS 21 k = true) ∧ (∀ k, kS 24 k = true) ∧ (∀ k, kS 25 k = true) ∧ (∀ k, kS 37 k = true) := by simp [kS]
    unfold qO2
    rw [hC 5 j 0 rfl, hC 5 j 1 rfl, hC 5 j 4 rfl, hM 36 0 j rfl, hM 37 0 j rfl, hM 8 0 0 rfl]
    refine ⟨o1, o2, o3, o4, o5, fun f w hf hw' => ?_⟩
    rw [ct_t hM hp, TS_t hM hp, hC 18 j _ rfl]
    exact o6 f w hf hw'
/-- the phrase is emptied, the bout over -/
theorem mid_emp {n nb np b : Nat} {C M : St} (h : Mid n nb np b C M) (hw : ¬ gV M 25 0 b = -1) : Mid n nb np b (sV C 4 0 6 0) M := by
  obtain ⟨hA, hB, hZ, hb, hO1, hR, c0, c1, hGb, hO, hG, hK, hs⟩ := h
  have hC : Ag (fun c _ => !(c == 4)) C (sV C 4 0 6 0) := Ag_sV _ _ _ _ rfl (Ag.rf _ _)
  have hM : Ag (fun _ _ => true) M M := Ag.rf _ _
  rcases hs with ⟨s1, -⟩ | hs
  · exact absurd s1 hw
  refine ⟨?_, fun i hi => qB_t hC hM (by simp) np i (hB i hi), hZ, hb, hO1, hR, qC_t hC hM (by simp) n b 0 c0, qC_t hC hM (by simp) n b 1 c1, hGb, fun j hj => ?_, hG, qK_t hC hM (by simp) hK, Or.inr hs⟩
  · unfold qA at hA ⊢
    rw [hC 7 0 5 rfl, hC 7 0 6 rfl, hC 7 0 7 rfl, hC 7 0 9 rfl]
    exact hA
  · obtain ⟨o1, o2, o3, o4, o5, o6⟩ := hO j hj
    unfold qO2
    rw [hC 5 j 0 rfl, hC 5 j 1 rfl, hC 5 j 4 rfl]
    exact ⟨o1, o2, o3, o4, o5, fun f w hf hw' => by rw [hC 18 j _ rfl]; exact o6 f w hf hw'⟩
def kG : Nat → Nat → Bool := fun c k => !(c == 21 || c == 25 || (c == 8 && (k == 4 || k == 17)))
theorem gives_Ag (s : Int32) (M : St) : Ag kG M (x_X8_gives s M) := by
  have he : ∀ v X, Ag kG M X → Ag kG M (x_X8_ends v X) := by
    intro v X h; unfold x_X8_ends
    exact Ag_sV _ _ _ _ rfl (Ag_sV _ _ _ _ rfl (Ag_sV _ _ _ _ rfl h))
  have h103 : ∀ a b c d X, Ag kG M X → Ag kG M (x_X8_gives_103 a b c d X) := by
    intro a b c d X h
    unfold x_X8_gives_103 x_X8_gives_128
    repeat' split
    all_goals first | exact h | exact he _ _ h
  have h76 : ∀ a b c X, Ag kG M X → Ag kG M (x_X8_gives_76 a b c X) := by
    intro a b c X h
    unfold x_X8_gives_76
    split <;> exact h103 _ _ _ _ _ h
  unfold x_X8_gives x_X8_gives_71
  split
  · exact h76 _ _ _ _ (Ag_sV _ _ _ _ rfl (Ag_sV _ _ _ _ rfl (Ag.rf _ _)))
  · split
    · exact h76 _ _ _ _ (Ag_sV _ _ _ _ rfl (Ag_sV _ _ _ _ rfl (Ag.rf _ _)))
    · exact h76 _ _ _ _ (Ag_sV _ _ _ _ rfl (Ag_sV _ _ _ _ rfl (Ag.rf _ _)))
/-- no touches given -/
theorem gives_0 {M : St} {b : Nat} (hb : b < 80) (s2 : gV M 8 0 4 = nI b) : x_X8_gives 0 M = gM b 0 0 M ∧ ok_X8_gives 0 M := by
  have e1 : (0 : Int32) &&& 1 = 0 := by decide
  have e2 : (0 : Int32) >>> (1 &&& 31) = 0 := by decide
  have z : (0 : Int32) ≤ 0 := by decide
  have v0 : vp_in (2 * nI b) 160 := by rw [show (2 : Int32) = nI 2 by decide, pk_mul]; exact vp_in_nI (by omega) (by omega)
  have v1 : vp_in (2 * nI b + 1) 160 := by rw [show (2 : Int32) = nI 2 by decide, pk_mul, nI_1]; exact vp_in_nI (by omega) (by omega)
  have v2 : vp_in (nI b) 80 := vp_in_nI (by omega) (by omega)
  have h76 : ∀ c X, x_X8_gives_76 0 (nI b) c X = X ∧ ok_X8_gives_76 0 (nI b) c X := by
    intro c X
    unfold x_X8_gives_76 ok_X8_gives_76 x_X8_gives_103 ok_X8_gives_103
    simp only [z, ↓reduceIte, ite_self, v0, v1, and_self]
  have x71 : ∀ X, x_X8_gives_71 0 (nI b) X = X ∧ ok_X8_gives_71 0 (nI b) X := fun X => h76 1 X
  unfold x_X8_gives ok_X8_gives
  rw [s2, e1, e2]
  simp only [(h76 0 _).1, (h76 0 _).2, (x71 _).1, (x71 _).2, ite_self, v0, v1, v2, true_and, and_true]
  rw [clamp2 hb, clamp21 hb]
  rfl
theorem wv {M : St} {b : Nat} (hb : b < 80) : True := trivial
/-- the phrase is judged or broken, the touches are given: from the middle to the end of the call -/
theorem touch_fin {n nb np b : Nat} {C M : St} {s : Int32} (hs : s = 0 ∨ s = 1 ∨ s = 2 ∨ s = 3) (h : MidR n nb np b C M) (hq : gV C 0 b 8 = gV M 8 0 14 ∧ (∃ a : Nat, a < 60 ∧ gV M 8 0 14 = nI a) ∧ (∃ a : Nat, a ≤ 2 ∧ gV M 27 0 b = nI a) ∧
  (∃ a : Nat, gV M 26 0 b = nI a ∧ ((gV M 28 0 b = -1 ∧ a < 180) ∨ ((gV M 28 0 b = 0 ∨ gV M 28 0 b = 1) ∧ 180 ≤ a ∧ a < 240)))) (hl : gV M 21 0 (2 * b) < gV M 23 0 b ∧ gV M 21 0 (2 * b + 1) < gV M 23 0 b) :
    ok_X8_gives s M ∧ ((MidR n nb np b (if s = 0 then C else x_X0_addTouches b s C) (x_X8_gives s M) ∧ qT (if s = 0 then C else x_X0_addTouches b s C) (x_X8_gives s M) b ∧ Ag (fun c k => !(c == 2 && k == 1)) C (if s = 0 then C else x_X0_addTouches b s C) ∧ Ag (fun c _ => c != 21) M (x_X8_gives s M)) ∨
      (Mid n nb np b (if s = 0 then C else x_X0_addTouches b s C) (x_X8_gives s M) ∧ ¬ gV (x_X8_gives s M) 25 0 b = -1)) := by
  have hb := h.2.2.2.1
  have hnb := h.1.2.2.1
  have hbB := h.2.1 b hb
  have s2 : gV M 8 0 4 = nI b := h.2.2.2.2.2.2.2.2.2.2.2.2.2
  obtain ⟨b1, b2, b3, b4, b5, b6, b7, ⟨t0, l0, e0⟩, ⟨t1, l1, e1⟩, b10, b11, ⟨g, lg, eg⟩, -⟩ := hbB
  obtain ⟨q1, q2, q3, q4⟩ := hq
  have g0 : t0 < g := by have := hl.1; rw [e0, eg] at this; exact (nI_ltI (by omega) (by omega)).mp this
  have g1 : t1 < g := by have := hl.2; rw [e1, eg] at this; exact (nI_ltI (by omega) (by omega)).mp this
  have hT : ∀ C' M', Ag (fun c k => !(c == 2 && k == 1)) C C' → Ag (fun c _ => c != 21) M M' → gV M' 21 0 (2 * b) < gV M 23 0 b → gV M' 21 0 (2 * b + 1) < gV M 23 0 b → qT C' M' b := by
    intro C' M' hC hM x1 x2
    unfold qT
    rw [hC 0 b 8 rfl, hM 8 0 14 rfl, hM 27 0 b rfl, hM 26 0 b rfl, hM 28 0 b rfl, hM 23 0 b rfl]
    exact ⟨q1, q2, q3, q4, x1, x2⟩
  rcases hs with hs0 | hs
  · subst hs0
    rw [if_pos rfl]
    obtain ⟨x1, x2⟩ := gives_0 (show b < 80 by omega) s2
    obtain ⟨m1, m2, m3⟩ := midR_add h (Or.inl rfl) (Or.inl rfl) e0 e1 g0 g1 lg
    have ht : tU b 0 0 C = C := by unfold tU; rw [if_pos rfl, if_pos rfl]
    rw [ht] at m1 m2
    rw [x1]
    refine ⟨x2, Or.inl ⟨m1, hT C _ m2 m3 ?_ ?_, m2, m3⟩⟩
    · rw [gM_V, if_pos ⟨rfl, rfl, rfl⟩, Int32.add_zero]; exact hl.1
    · rw [gM_V, if_neg (by omega), if_pos ⟨rfl, rfl, rfl⟩, Int32.add_zero]; exact hl.2
  · have z : ¬ s = 0 := by rcases hs with rfl | rfl | rfl <;> decide
    rw [if_neg z]
    obtain ⟨k1, k2⟩ := gives_eq hs h e0 e1 eg g0 g1 lg
    refine ⟨k1, ?_⟩
    rcases k2 with ⟨m1, m2, m3, m4, m5⟩ | k2
    · exact Or.inl ⟨m1, hT _ _ m2 m3 m4 m5, m2, m3⟩
    · exact Or.inr k2
theorem cr_judge : CR_judge := by
  intro n nb np C M hn hI
  obtain ⟨hA, hB, hZ, ⟨hP1, hP2⟩, ⟨c, h24, hc1, hc2, hE⟩, hO, hG, hK⟩ := id hI
  have hnb := hA.2.2.1
  have z1 : ¬ (1 : Int32) ≤ 0 := by decide
  have z0 : (0 : Int32) ≤ 0 := by decide
  have n1 : ¬ (1 : Nat) = 0 := by decide
  unfold x_X7_judge ok_X7_judge x_X8_judge ok_X8_judge x_X8_thrown x_X7_boutOnPiste
  rcases hP2 with ⟨g1, g2, g3⟩ | ⟨b, hb, g1, g2, g3, g4, g5, g6⟩
  · rw [g1, g2]
    simp only [oc, ↓reduceIte, n1]
    unfold x_X8_judge_14 ok_X8_judge_14
    rw [if_neg z1, if_neg z1]
    obtain ⟨k1, k2, k3, k4, k5⟩ := failS (v8 := (0 : Int32)) hI (e := 1) (by decide) (Or.inr (Or.inl ⟨rfl, by decide⟩)) (s0 := 1) (a := 1) (b := 0) (d := 0) rfl trivial rfl
    exact ⟨trivial, k1, trivial, k3, fun h => h.elim, k5⟩
  · have gb : ¬ nI b = -1 := nI_m1 (by omega)
    rw [g1, g2, if_neg gb, if_neg gb]
    simp only [oc, ↓reduceIte]
    have hI1 : I2 n nb np C (sV M 8 0 31 0) := I2_th 0 hI
    have hw : gV (sV M 8 0 31 0) 25 0 b = -1 := gth ((hP1 b hb).mpr g1) (by omega)
    have hm := midR_of (mid_of hI1 hb g1) hw
    have hbB := hI1.2.1 b hb
    obtain ⟨d1, d2, d3⟩ := given_eq (M := sV M 8 0 31 0) h24 hc1 (show gV (sV M 8 0 31 0) 8 0 17 = nI c from gth hc2 (by decide)) (show ∀ k, k < c → qE C (sV M 8 0 31 0) k from fun k hk => qE_th (hE k hk)) hb hnb (show gV (sV M 8 0 31 0) 8 0 4 = nI b from gth g2 (by decide)) hbB.2.2.2.2.2.2.2.2.2.1 hbB.2.2.2.2.2.2.2.2.2.2.1 hbB.2.2.2.2.2.1 hbB.2.2.2.2.2.2.1
    unfold x_X8_judge_14 ok_X8_judge_14
    rw [if_pos z0, if_pos z0]
    have gT : qT C (sV M 8 0 31 0) b := qT_th g5
    have g3' : qC C (sV M 8 0 31 0) n b 0 := qC_th g3
    have g4' : qC C (sV M 8 0 31 0) n b 1 := qC_th g4
    have th : gV (sV M 8 0 31 0) 8 0 31 = 0 := by simp [gV_sV]
    have LC := fl_X7_judgeFor (y1 := gV C 0 b 2) (y2 := x_X0_isDoubleTooFar b C) (AgL.rfl C)
    have LM := fl_X8_given (AgL.rfl (sV M 8 0 31 0))
    unfold x_X7_judge_17 ok_X7_judge_17 x_X7_judge_23 ok_X7_judge_23 x_X7_judge_30 ok_X7_judge_30 x_X7_judge_35 ok_X7_judge_35 x_X8_judge_30 ok_X8_judge_30 x_X8_judge_49 ok_X8_judge_49 x_X8_judge_57 ok_X8_judge_57 x_X4_empty x_X0_giveTouches
    generalize sV M 8 0 31 0 = M0 at *
    obtain ⟨e1, e2, e3, e4, e5⟩ := d1
    rw [e1]
    generalize (x_X7_judgeFor (gV C 0 b 2) (x_X0_isDoubleTooFar b C) C).2 = C1 at *
    generalize (x_X8_given M0).2 = M1 at *
    generalize (x_X8_given M0).1 = s at *
    obtain ⟨T1, T2, T3, T4, T5, T6⟩ := gT
    have hA0 := hI1.1
    -- the state when the touches are given
    have key : ∀ q : Int32, (s = 0 → q = gV M1 8 0 14) → (¬ s = 0 → q = 0) →
        MidR n nb np b (if s = 0 then C1 else sV C1 0 b 8 0) (sV (sV M1 8 0 17 0) 8 0 14 q) ∧ (gV (if s = 0 then C1 else sV C1 0 b 8 0) 0 b 8 = gV (sV (sV M1 8 0 17 0) 8 0 14 q) 8 0 14 ∧ (∃ a : Nat, a < 60 ∧ gV (sV (sV M1 8 0 17 0) 8 0 14 q) 8 0 14 = nI a)) := by
      intro q hq1 hq2
      have kc : Ag (fun c k => !(c == 6 || (c == 7 && k == 9) || (c == 0 && k == 8))) C (if s = 0 then C1 else sV C1 0 b 8 0) := by
        intro x y z h
        simp at h
        have : kJ x z = true := by unfold kJ; simp; exact ⟨h.1.1, h.1.2⟩
        split
        · exact e3 x y z this
        · rw [gV_sV, if_neg (by rintro ⟨r1, r2, -⟩; exact h.2.elim (fun f => f r1) (fun f => f r2))]; exact e3 x y z this
      have km : Ag (fun c k => !(c == 8 && (k == 30 || k == 2 || k == 17 || k == 14))) M0 (sV (sV M1 8 0 17 0) 8 0 14 q) := by
        intro x y z h
        simp at h
        rw [gV_sV, if_neg (by rintro ⟨r1, r2, -⟩; revert h; simp [r1, r2]), gV_sV, if_neg (by rintro ⟨r1, r2, -⟩; revert h; simp [r1, r2])]
        exact e4 x y z (by unfold kNj; simp; by_cases h8 : x = 8
                           · simp [h8] at h ⊢; exact ⟨h.1.1.1, h.1.1.2⟩
                           · simp [h8])
      have r2 : (if s = 0 then C1 else sV C1 0 b 8 0).2 = C.2 := by
        split
        · exact LC
        · exact LC
      have hRR : ∀ a k, gR (if s = 0 then C1 else sV C1 0 b 8 0) a k = gR C a k := fun a k => by unfold gR; rw [r2]
      have hLL : gL (if s = 0 then C1 else sV C1 0 b 8 0) 3 0 = gL C 3 0 := by unfold gL; rw [r2]
      have hLM : gL (sV (sV M1 8 0 17 0) 8 0 14 q) 8 1 = gL M0 8 1 := AgL_L (show AgL M0 (sV (sV M1 8 0 17 0) 8 0 14 q) from LM) 8 1
      refine ⟨midR_t hm (fun x y z h => kc x y z ?_) (fun x y z h => km x y z ?_) ?_ hRR ?_ (fun i hi => ?_) (fun i hi => ?_) ⟨qC_t kc km (by simp) n b 0 g3', qC_t kc km (by simp) n b 1 g4'⟩, ?_, ?_⟩
      · unfold kR at h; simp at h ⊢; exact ⟨⟨h.1.1.1.1.1.1, h.1.1.2⟩, h.1.1.1.2.imp id (fun g => g.1.1.1)⟩
      · unfold kS at h; simp at h ⊢
        by_cases h8 : x = 8
        · simp [h8] at h ⊢; exact ⟨⟨⟨h.1.1.2, h.2⟩, h.1.1.1.2⟩, h.1.1.1.1⟩
        · simp [h8]
      · have : gV (if s = 0 then C1 else sV C1 0 b 8 0) 7 0 9 = gV C1 7 0 9 := by
          split
          · rfl
          · exact gn rfl (by decide)
        rw [this, e5]; exact (gn (gn rfl (by decide)) (by decide)).symm
      · rw [hLL, hLM]; exact ⟨hA0.2.2.2.2.2.2.2.2.2.1, hA0.2.2.2.2.2.2.2.2.2.2.1, hA0.2.2.2.2.2.2.2.2.2.2.2.1⟩
      · have := hI1.2.1 i hi
        rw [kc 0 i 6 rfl, kc 0 i 7 rfl, kc 0 i 9 rfl, km 28 0 i rfl, km 26 0 i rfl, km 27 0 i rfl]
        exact this.2.2.2.2.2.2.2.2.2.2.2.2.2.2.2.2
      · rw [km 26 0 i rfl, km 27 0 i rfl]; exact (hI1.2.2.1 i hi).2.2
      · have q14 : gV (sV (sV M1 8 0 17 0) 8 0 14 q) 8 0 14 = q := by rw [gV_sV, if_pos ⟨rfl, rfl, rfl⟩]
        rw [q14]
        by_cases c0 : s = 0
        · rw [if_pos c0, hq1 c0, e3 0 b 8 rfl, e4 8 0 14 rfl]; exact T1
        · rw [if_neg c0, hq2 c0, gV_sV, if_pos ⟨rfl, rfl, rfl⟩]
      · have q14 : gV (sV (sV M1 8 0 17 0) 8 0 14 q) 8 0 14 = q := by rw [gV_sV, if_pos ⟨rfl, rfl, rfl⟩]
        rw [q14]
        by_cases c0 : s = 0
        · rw [hq1 c0, e4 8 0 14 rfl]; exact T2
        · exact ⟨0, by omega, by rw [hq2 c0]; rfl⟩
    have fin : ∀ q : Int32, (s = 0 → q = gV M1 8 0 14) → (¬ s = 0 → q = 0) →
        ok_X8_gives s (sV (sV M1 8 0 17 0) 8 0 14 q) ∧ (I2 n nb np (x_X7_clearPisteIfOver b (sV (if s = 0 then C1 else x_X0_addTouches b s (sV C1 0 b 8 0)) 4 0 6 0)) (x_X8_gives s (sV (sV M1 8 0 17 0) 8 0 14 q)) ∧ ok_X7_clearPisteIfOver b (sV (if s = 0 then C1 else x_X0_addTouches b s (sV C1 0 b 8 0)) 4 0 6 0)) ∧ gV (x_X8_gives s (sV (sV M1 8 0 17 0) 8 0 14 q)) 8 0 31 = 0 := by
      intro q hq1 hq2
      obtain ⟨k1, k2, k3⟩ := key q hq1 hq2
      have hee : (if s = 0 then C1 else x_X0_addTouches b s (sV C1 0 b 8 0)) = (if s = 0 then (if s = 0 then C1 else sV C1 0 b 8 0) else x_X0_addTouches b s (if s = 0 then C1 else sV C1 0 b 8 0)) := by
        by_cases c0 : s = 0 <;> simp only [c0, ↓reduceIte]
      rw [hee]
      have q4M : ∀ x y z, x ≠ 8 → gV (sV (sV M1 8 0 17 0) 8 0 14 q) x y z = gV M0 x y z := by
        intro x y z h
        rw [gV_sV, if_neg (by rintro ⟨r, -⟩; exact h r), gV_sV, if_neg (by rintro ⟨r, -⟩; exact h r)]
        exact e4 x y z (by unfold kNj; simp; exact Or.inl h)
      obtain ⟨m1, m2⟩ := touch_fin e2 k1 ⟨k2, k3, by rw [q4M 27 0 b (by decide)]; exact T3, by rw [q4M 26 0 b (by decide), q4M 28 0 b (by decide)]; exact T4⟩ (by rw [q4M 21 0 _ (by decide), q4M 21 0 _ (by decide), q4M 23 0 _ (by decide)]; exact ⟨T5, T6⟩)
      have t31 : gV (x_X8_gives s (sV (sV M1 8 0 17 0) 8 0 14 q)) 8 0 31 = 0 := by
        rw [gives_Ag _ _ 8 0 31 rfl, gV_sV, if_neg (by decide), gV_sV, if_neg (by decide), e4 8 0 31 rfl]; exact th
      have t17 : gV (sV (sV M1 8 0 17 0) 8 0 14 q) 8 0 17 = 0 := by rw [gV_sV, if_neg (by decide), gV_sV, if_pos ⟨rfl, rfl, rfl⟩]
      generalize (if s = 0 then (if s = 0 then C1 else sV C1 0 b 8 0) else x_X0_addTouches b s (if s = 0 then C1 else sV C1 0 b 8 0)) = C4 at *
      generalize sV (sV M1 8 0 17 0) 8 0 14 q = M3 at *
      generalize x_X8_gives s M3 = M4 at *
      refine ⟨m1, mid_end ?_, t31⟩
      rcases m2 with ⟨x1, x2, x3, x4⟩ | ⟨x1, x2⟩
      · have rc : Ag kR C4 (sV C4 4 0 6 0) := Ag_sV _ _ _ _ rfl (Ag.rf _ _)
        have hc4 : Ag (fun c _ => !(c == 4)) C4 (sV C4 4 0 6 0) := Ag_sV _ _ _ _ rfl (Ag.rf _ _)
        have hM4 : Ag (fun _ _ => true) M4 M4 := Ag.rf _ _
        obtain ⟨xA, xB, xZ, xb, xO1, xR, xc0, xc1, -⟩ := id x1
        refine mid_ofR (midR_t x1 rc (Ag.rf _ _) (gn xA.2.2.2.2.2.2.2.2.1 (by decide)) (fun _ _ => rfl) ⟨xA.2.2.2.2.2.2.2.2.2.1, xA.2.2.2.2.2.2.2.2.2.2.1, xA.2.2.2.2.2.2.2.2.2.2.2.1⟩ (fun i hi => ⟨gn (xB i hi).2.2.2.2.2.2.2.2.2.2.2.2.2.2.2.2.1 (by decide), gn (xB i hi).2.2.2.2.2.2.2.2.2.2.2.2.2.2.2.2.2.1 (by decide), gn (xB i hi).2.2.2.2.2.2.2.2.2.2.2.2.2.2.2.2.2.2 (by decide)⟩) (fun i hi => (xZ i hi).2.2) ⟨qC_t hc4 hM4 (by simp) n b 0 xc0, qC_t hc4 hM4 (by simp) n b 1 xc1⟩) (qT_t hc4 hM4 (by simp) b x2) ⟨0, by omega, ?_, ?_, fun k hk => absurd hk (Nat.not_lt_zero k)⟩
        · rw [gV_sV, if_pos ⟨rfl, rfl, rfl⟩]; rfl
        · rw [x4 8 0 17 rfl, t17]; rfl
      · exact mid_emp x1 x2
    by_cases c0 : s = 0
    · have sl : s ≤ 0 := by rw [c0]; decide
      rw [if_pos sl, if_pos sl]
      obtain ⟨f1, f2, f3⟩ := fin (gV M1 8 0 14) (fun _ => rfl) (fun h => absurd c0 h)
      exact ⟨⟨d2, f2.2, trivial⟩, Or.inl rfl, ⟨d3, f1, trivial⟩, f3, fun _ => rfl, I2_up f2.1⟩
    · have sl : ¬ s ≤ 0 := by rcases e2 with h | h | h | h <;> rw [h] <;> first | exact absurd h c0 | decide
      rw [if_neg sl, if_neg sl]
      obtain ⟨f1, f2, f3⟩ := fin 0 (fun h => absurd h c0) (fun _ => rfl)
      exact ⟨⟨d2, f2.2, trivial⟩, Or.inl rfl, ⟨d3, f1, trivial⟩, f3, fun _ => rfl, I2_up f2.1⟩
end
