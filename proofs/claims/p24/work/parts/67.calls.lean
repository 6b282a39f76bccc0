theorem lc_0 (a b c d e : Int32) (γ : St) : x_L_call 0 a b c d e γ = cL (x_X7_fencer γ) := by
  unfold x_L_call
  rw [if_pos rfl]
theorem lc_1 (a b c d e : Int32) (γ : St) : x_L_call 1 a b c d e γ = cL (x_X7_begin a b c d e γ) := by
  unfold x_L_call
  rw [if_neg (by decide), if_pos rfl]
theorem lc_2 (a b c d e : Int32) (γ : St) : x_L_call 2 a b c d e γ = cL (x_X7_act a b c γ) := by
  unfold x_L_call
  rw [if_neg (by decide), if_neg (by decide), if_pos rfl]
theorem lc_3 (a b c d e : Int32) (γ : St) : x_L_call 3 a b c d e γ = cL (x_X7_hit a b c d γ) := by
  unfold x_L_call
  rw [if_neg (by decide), if_neg (by decide), if_neg (by decide), if_pos rfl]
theorem lc_4 (a b c d e : Int32) (γ : St) : x_L_call 4 a b c d e γ = cL (x_X7_judge γ) := by
  unfold x_L_call
  rw [if_neg (by decide), if_neg (by decide), if_neg (by decide), if_neg (by decide), if_pos rfl]
theorem lc_5 (a b c d e : Int32) (γ : St) : x_L_call 5 a b c d e γ = cL (x_X7_card a b γ) := by
  unfold x_L_call
  rw [if_neg (by decide), if_neg (by decide), if_neg (by decide), if_neg (by decide), if_neg (by decide), if_pos rfl]
theorem lc_6 (a b c d e : Int32) (γ : St) : x_L_call 6 a b c d e γ = cL (x_X7_clock a γ) := by
  unfold x_L_call
  rw [if_neg (by decide), if_neg (by decide), if_neg (by decide), if_neg (by decide), if_neg (by decide), if_neg (by decide), if_pos rfl]
theorem lc_7 (a b c d e : Int32) (γ : St) : x_L_call 7 a b c d e γ = cL (x_X7_end γ) := by
  unfold x_L_call
  rw [if_neg (by decide), if_neg (by decide), if_neg (by decide), if_neg (by decide), if_neg (by decide), if_neg (by decide), if_neg (by decide), if_pos rfl]
theorem lc_8 (a b c d e : Int32) (γ : St) : x_L_call 8 a b c d e γ = (cE (x_X7_seed a γ).1 1, (x_X7_seed a γ).2) := by
  unfold x_L_call
  rw [if_neg (by decide), if_neg (by decide), if_neg (by decide), if_neg (by decide), if_neg (by decide), if_neg (by decide), if_neg (by decide), if_neg (by decide), if_pos rfl]
theorem lc_9 (a b c d e : Int32) (γ : St) : x_L_call 9 a b c d e γ = cL (x_X7_pool a γ) := by
  unfold x_L_call
  rw [if_neg (by decide), if_neg (by decide), if_neg (by decide), if_neg (by decide), if_neg (by decide), if_neg (by decide), if_neg (by decide), if_neg (by decide), if_neg (by decide), if_pos rfl]
theorem lc_10 (a b c d e : Int32) (γ : St) : x_L_call 10 a b c d e γ = cL (x_X7_withdraw a b γ) := by
  unfold x_L_call
  rw [if_neg (by decide), if_neg (by decide), if_neg (by decide), if_neg (by decide), if_neg (by decide), if_neg (by decide), if_neg (by decide), if_neg (by decide), if_neg (by decide), if_neg (by decide), if_pos rfl]
theorem lc_11 (a b c d e : Int32) (γ : St) : x_L_call 11 a b c d e γ = cL (x_X7_tableau a γ) := by
  unfold x_L_call
  rw [if_neg (by decide), if_neg (by decide), if_neg (by decide), if_neg (by decide), if_neg (by decide), if_neg (by decide), if_neg (by decide), if_neg (by decide), if_neg (by decide), if_neg (by decide), if_neg (by decide), if_pos rfl]
theorem lc_12 (a b c d e : Int32) (γ : St) : x_L_call 12 a b c d e γ = cL (x_X7_wins a b c γ) := by
  unfold x_L_call
  rw [if_neg (by decide), if_neg (by decide), if_neg (by decide), if_neg (by decide), if_neg (by decide), if_neg (by decide), if_neg (by decide), if_neg (by decide), if_neg (by decide), if_neg (by decide), if_neg (by decide), if_neg (by decide), if_pos rfl]
theorem lc_13 (a b c d e : Int32) (γ : St) : x_L_call 13 a b c d e γ = cL (x_X7_lamp a γ) := by
  unfold x_L_call
  rw [if_neg (by decide), if_neg (by decide), if_neg (by decide), if_neg (by decide), if_neg (by decide), if_neg (by decide), if_neg (by decide), if_neg (by decide), if_neg (by decide), if_neg (by decide), if_neg (by decide), if_neg (by decide), if_neg (by decide), if_pos rfl]
theorem lc_14 (a b c d e : Int32) (γ : St) : x_L_call 14 a b c d e γ = cL (x_X7_ofBout a b γ) := by
  unfold x_L_call
  rw [if_neg (by decide), if_neg (by decide), if_neg (by decide), if_neg (by decide), if_neg (by decide), if_neg (by decide), if_neg (by decide), if_neg (by decide), if_neg (by decide), if_neg (by decide), if_neg (by decide), if_neg (by decide), if_neg (by decide), if_neg (by decide), if_pos rfl]
theorem lc_15 (a b c d e : Int32) (γ : St) : x_L_call 15 a b c d e γ = cL (x_X7_ofPool a b c γ) := by
  unfold x_L_call
  rw [if_neg (by decide), if_neg (by decide), if_neg (by decide), if_neg (by decide), if_neg (by decide), if_neg (by decide), if_neg (by decide), if_neg (by decide), if_neg (by decide), if_neg (by decide), if_neg (by decide), if_neg (by decide), if_neg (by decide), if_neg (by decide), if_neg (by decide), if_pos rfl]
theorem lc_16 (a b c d e : Int32) (γ : St) : x_L_call 16 a b c d e γ = cL (x_X7_ofPoolAnew a b c γ) := by
  unfold x_L_call
  rw [if_neg (by decide), if_neg (by decide), if_neg (by decide), if_neg (by decide), if_neg (by decide), if_neg (by decide), if_neg (by decide), if_neg (by decide), if_neg (by decide), if_neg (by decide), if_neg (by decide), if_neg (by decide), if_neg (by decide), if_neg (by decide), if_neg (by decide), if_neg (by decide), if_pos rfl]
theorem lc_17 (a b c d e : Int32) (γ : St) : x_L_call 17 a b c d e γ = cL (x_X7_rank a b γ) := by
  unfold x_L_call
  rw [if_neg (by decide), if_neg (by decide), if_neg (by decide), if_neg (by decide), if_neg (by decide), if_neg (by decide), if_neg (by decide), if_neg (by decide), if_neg (by decide), if_neg (by decide), if_neg (by decide), if_neg (by decide), if_neg (by decide), if_neg (by decide), if_neg (by decide), if_neg (by decide), if_neg (by decide), if_pos rfl]
theorem lc_18 (a b c d e : Int32) (γ : St) : x_L_call 18 a b c d e γ = cL (x_X7_meets a b c γ) := by
  unfold x_L_call
  rw [if_neg (by decide), if_neg (by decide), if_neg (by decide), if_neg (by decide), if_neg (by decide), if_neg (by decide), if_neg (by decide), if_neg (by decide), if_neg (by decide), if_neg (by decide), if_neg (by decide), if_neg (by decide), if_neg (by decide), if_neg (by decide), if_neg (by decide), if_neg (by decide), if_neg (by decide), if_neg (by decide)]
theorem cE_1 {n : Nat} {v : Int32} (h : n = 1) : cE n v = -73 := by subst h; rfl
theorem cE_2 {n : Nat} {v : Int32} (h : n = 2) : cE n v = -72 := by subst h; rfl
theorem cE_3 {n : Nat} {v : Int32} (h : n = 3) : cE n v = -71 := by subst h; rfl
theorem cL_0 {r : Nat × Int32 × St} {v : Int32} {γ : St} (h : r = (0, v, γ)) : cL r = (v, γ) := by subst h; rfl
theorem cL_1 {r : Nat × Int32 × St} {v : Int32} {γ : St} (h : r = (1, v, γ)) : cL r = (-73, γ) := by subst h; rfl
theorem cL_2 {r : Nat × Int32 × St} {v : Int32} {γ : St} (h : r = (2, v, γ)) : cL r = (-72, γ) := by subst h; rfl
theorem cL_3 {r : Nat × Int32 × St} {v : Int32} {γ : St} (h : r = (3, v, γ)) : cL r = (-71, γ) := by subst h; rfl
