/-- who fences in a bout, its pool, who is in a pool, how many fencers: keys that stay -/
def pW : Nat → Nat → Bool := fun c k => (c == 2 && k == 0) || (c == 0 && k == 4) || (c == 5 && k == 1) || (c == 5 && k == 0) || (c == 7 && (k == 5 || k == 6 || k == 7))
def FR (γ0 γ : St) : Prop := (∀ c n k, pW c k = true → gV γ c n k = gV γ0 c n k) ∧ (gR γ 7 8 = gR γ0 7 8 ∨ gR γ 7 8 = none) ∧ (∀ c k, c ≠ 7 → gR γ c k = gR γ0 c k)
theorem FR.rf (γ : St) : FR γ γ := ⟨fun _ _ _ _ => rfl, Or.inl rfl, fun _ _ _ => rfl⟩
theorem FR.tr {a b c : St} (h : FR a b) (h' : FR b c) : FR a c := ⟨fun x n k hp => (h'.1 x n k hp).trans (h.1 x n k hp), by
  rcases h'.2.1 with e | e
  · rcases h.2.1 with e' | e'
    · exact Or.inl (e.trans e')
    · exact Or.inr (e.trans e')
  · exact Or.inr e, fun x k hx => (h'.2.2 x k hx).trans (h.2.2 x k hx)⟩
theorem FR_sV {γ0 γ : St} (c n k : Nat) (v : Int32) (hc : pW c k = false) (h : FR γ0 γ) : FR γ0 (sV γ c n k v) := by
  refine ⟨fun c' n' k' h' => ?_, h.2⟩
  rw [gV_sV, if_neg]
  · exact h.1 c' n' k' h'
  · rintro ⟨rfl, rfl, -⟩; rw [hc] at h'; exact absurd h' (by decide)
theorem FR_sL {γ0 γ : St} (c k : Nat) (v : Int64) (h : FR γ0 γ) : FR γ0 (sL γ c k v) := h
theorem FR_sN {γ0 γ : St} (h : FR γ0 γ) : FR γ0 (sR γ 7 8 none) := by
  refine ⟨h.1, Or.inr ?_, fun c k hc => ?_⟩
  · rw [gR_sR, if_pos ⟨rfl, rfl⟩]
  · rw [gR_sR, if_neg (fun q => hc q.1)]; exact h.2.2 c k hc
theorem fw_X0_finish {γ0 γ : St} {o : Nat} {y1 : Int32} (h : FR γ0 γ) : FR γ0 (x_X0_finish o y1 γ) := by
  unfold x_X0_finish
  repeat' first | (with_reducible exact h) | (with_reducible refine FR_sV _ _ _ _ rfl ?_) | (with_reducible refine FR_sN ?_) | (with_reducible refine FR_sL _ _ _ ?_) | (with_reducible refine oc_el (P := fun (r : St) => FR γ0 r) ?_ (fun b => ?_)) | (split)
theorem fw_X0_addTouches_91 {γ0 γ : St} {o : Nat} (h : FR γ0 γ) : FR γ0 (x_X0_addTouches_91 o γ) := by
  unfold x_X0_addTouches_91
  repeat' first | (with_reducible exact h) | (with_reducible refine FR_sV _ _ _ _ rfl ?_) | (with_reducible refine FR_sN ?_) | (with_reducible refine FR_sL _ _ _ ?_) | (with_reducible refine fw_X0_finish ?_) | (with_reducible refine oc_el (P := fun (r : St) => FR γ0 r) ?_ (fun b => ?_)) | (split)
theorem fw_X0_addTouches_71 {γ0 γ : St} {o : Nat} {s0 : Int32} (h : FR γ0 γ) : FR γ0 (x_X0_addTouches_71 o s0 γ) := by
  unfold x_X0_addTouches_71
  repeat' first | (with_reducible exact h) | (with_reducible refine FR_sV _ _ _ _ rfl ?_) | (with_reducible refine FR_sN ?_) | (with_reducible refine FR_sL _ _ _ ?_) | (with_reducible refine fw_X0_addTouches_91 ?_) | (with_reducible refine oc_el (P := fun (r : St) => FR γ0 r) ?_ (fun b => ?_)) | (split)
theorem fw_X0_addTouches_66 {γ0 γ : St} {o : Nat} (h : FR γ0 γ) : FR γ0 (x_X0_addTouches_66 o γ) := by
  unfold x_X0_addTouches_66
  repeat' first | (with_reducible exact h) | (with_reducible refine FR_sV _ _ _ _ rfl ?_) | (with_reducible refine FR_sN ?_) | (with_reducible refine FR_sL _ _ _ ?_) | (with_reducible refine fw_X0_addTouches_71 ?_) | (with_reducible refine oc_el (P := fun (r : St) => FR γ0 r) ?_ (fun b => ?_)) | (split)
theorem fw_X0_addTouches_38 {γ0 γ : St} {o : Nat} (h : FR γ0 γ) : FR γ0 (x_X0_addTouches_38 o γ) := by
  unfold x_X0_addTouches_38
  repeat' first | (with_reducible exact h) | (with_reducible refine FR_sV _ _ _ _ rfl ?_) | (with_reducible refine FR_sN ?_) | (with_reducible refine FR_sL _ _ _ ?_) | (with_reducible refine fw_X0_addTouches_66 ?_) | (with_reducible refine fw_X0_addTouches_71 ?_) | (with_reducible refine oc_el (P := fun (r : St) => FR γ0 r) ?_ (fun b => ?_)) | (split)
theorem fw_X0_addTouches_19 {γ0 γ : St} {o : Nat} {a1 : Int32} (h : FR γ0 γ) : FR γ0 (x_X0_addTouches_19 o a1 γ) := by
  unfold x_X0_addTouches_19
  repeat' first | (with_reducible exact h) | (with_reducible refine FR_sV _ _ _ _ rfl ?_) | (with_reducible refine FR_sN ?_) | (with_reducible refine FR_sL _ _ _ ?_) | (with_reducible refine fw_X0_addTouches_38 ?_) | (with_reducible refine oc_el (P := fun (r : St) => FR γ0 r) ?_ (fun b => ?_)) | (split)
theorem fw_X0_addTouches {γ0 γ : St} {o : Nat} {y1 : Int32} (h : FR γ0 γ) : FR γ0 (x_X0_addTouches o y1 γ) := by
  unfold x_X0_addTouches
  repeat' first | (with_reducible exact h) | (with_reducible refine FR_sV _ _ _ _ rfl ?_) | (with_reducible refine FR_sN ?_) | (with_reducible refine FR_sL _ _ _ ?_) | (with_reducible refine fw_X0_addTouches_19 ?_) | (with_reducible refine oc_el (P := fun (r : St) => FR γ0 r) ?_ (fun b => ?_)) | (split)
theorem fw_X0_giveTouches {γ0 γ : St} {o : Nat} {y1 : Int32} (h : FR γ0 γ) : FR γ0 (x_X0_giveTouches o y1 γ) := by
  unfold x_X0_giveTouches
  repeat' first | (with_reducible exact h) | (with_reducible refine FR_sV _ _ _ _ rfl ?_) | (with_reducible refine FR_sN ?_) | (with_reducible refine FR_sL _ _ _ ?_) | (with_reducible refine fw_X0_addTouches ?_) | (with_reducible refine oc_el (P := fun (r : St) => FR γ0 r) ?_ (fun b => ?_)) | (split)
theorem fw_X2_note {γ0 γ : St} {o : Nat} {y1 : Int32} (h : FR γ0 γ) : FR γ0 (x_X2_note o y1 γ) := by
  unfold x_X2_note
  repeat' first | (with_reducible exact h) | (with_reducible refine FR_sV _ _ _ _ rfl ?_) | (with_reducible refine FR_sN ?_) | (with_reducible refine FR_sL _ _ _ ?_) | (with_reducible refine oc_el (P := fun (r : St) => FR γ0 r) ?_ (fun b => ?_)) | (split)
theorem fw_X0_giveCard_49 {γ0 γ : St} {o : Nat} {a3 : Int32} (h : FR γ0 γ) : FR γ0 (x_X0_giveCard_49 o a3 γ).2 := by
  unfold x_X0_giveCard_49
  repeat' first | (with_reducible exact h) | (with_reducible refine FR_sV _ _ _ _ rfl ?_) | (with_reducible refine FR_sN ?_) | (with_reducible refine FR_sL _ _ _ ?_) | (with_reducible refine oc_el (P := fun (r : Int32 × St) => FR γ0 r.2) ?_ (fun b => ?_)) | (split)
theorem fw_X0_giveCard_34 {γ0 γ : St} {o : Nat} {a3 : Int32} (h : FR γ0 γ) : FR γ0 (x_X0_giveCard_34 o a3 γ).2 := by
  unfold x_X0_giveCard_34
  repeat' first | (with_reducible exact h) | (with_reducible refine FR_sV _ _ _ _ rfl ?_) | (with_reducible refine FR_sN ?_) | (with_reducible refine FR_sL _ _ _ ?_) | (with_reducible refine fw_X0_giveCard_49 ?_) | (with_reducible refine oc_el (P := fun (r : Int32 × St) => FR γ0 r.2) ?_ (fun b => ?_)) | (split)
theorem fw_X0_giveCard_19 {γ0 γ : St} {o : Nat} {a1 : Int32} {a3 : Int32} (h : FR γ0 γ) : FR γ0 (x_X0_giveCard_19 o a1 a3 γ).2 := by
  unfold x_X0_giveCard_19
  repeat' first | (with_reducible exact h) | (with_reducible refine FR_sV _ _ _ _ rfl ?_) | (with_reducible refine FR_sN ?_) | (with_reducible refine FR_sL _ _ _ ?_) | (with_reducible refine fw_X0_giveCard_34 ?_) | (with_reducible refine fw_X0_giveTouches ?_) | (with_reducible refine fw_X0_giveCard_49 ?_) | (with_reducible refine fw_X0_finish ?_) | (with_reducible refine oc_el (P := fun (r : Int32 × St) => FR γ0 r.2) ?_ (fun b => ?_)) | (split)
theorem fw_X0_giveCard {γ0 γ : St} {o : Nat} {y1 : Int32} {y2 : Int32} (h : FR γ0 γ) : FR γ0 (x_X0_giveCard o y1 y2 γ).2 := by
  unfold x_X0_giveCard
  repeat' first | (with_reducible exact h) | (with_reducible refine FR_sV _ _ _ _ rfl ?_) | (with_reducible refine FR_sN ?_) | (with_reducible refine FR_sL _ _ _ ?_) | (with_reducible refine fw_X0_giveCard_19 ?_) | (with_reducible refine fw_X2_note ?_) | (with_reducible refine oc_el (P := fun (r : Int32 × St) => FR γ0 r.2) ?_ (fun b => ?_)) | (split)
theorem fw_X0_becomePassive_28 {γ0 γ : St} {o : Nat} (h : FR γ0 γ) : FR γ0 (x_X0_becomePassive_28 o γ) := by
  unfold x_X0_becomePassive_28
  repeat' first | (with_reducible exact h) | (with_reducible refine FR_sV _ _ _ _ rfl ?_) | (with_reducible refine FR_sN ?_) | (with_reducible refine FR_sL _ _ _ ?_) | (with_reducible refine oc_el (P := fun (r : St) => FR γ0 r) ?_ (fun b => ?_)) | (split)
theorem fw_X0_becomePassive {γ0 γ : St} {o : Nat} (h : FR γ0 γ) : FR γ0 (x_X0_becomePassive o γ) := by
  unfold x_X0_becomePassive
  repeat' first | (with_reducible exact h) | (with_reducible refine FR_sV _ _ _ _ rfl ?_) | (with_reducible refine FR_sN ?_) | (with_reducible refine FR_sL _ _ _ ?_) | (with_reducible refine fw_X0_becomePassive_28 ?_) | (with_reducible refine fw_X0_addTouches ?_) | (with_reducible refine fw_X0_finish ?_) | (with_reducible refine oc_el (P := fun (r : St) => FR γ0 r) ?_ (fun b => ?_)) | (split)
theorem fw_X3_draw {γ0 γ : St}  (h : FR γ0 γ) : FR γ0 (x_X3_draw γ).2 := by
  unfold x_X3_draw
  repeat' first | (with_reducible exact h) | (with_reducible refine FR_sV _ _ _ _ rfl ?_) | (with_reducible refine FR_sN ?_) | (with_reducible refine FR_sL _ _ _ ?_) | (with_reducible refine oc_el (P := fun (r : Int32 × St) => FR γ0 r.2) ?_ (fun b => ?_)) | (split)
theorem fw_X0_lookAtTime_43 {γ0 γ : St} {o : Nat} {s0 : Int32} (h : FR γ0 γ) : FR γ0 (x_X0_lookAtTime_43 o s0 γ) := by
  unfold x_X0_lookAtTime_43
  repeat' first | (with_reducible exact h) | (with_reducible refine FR_sV _ _ _ _ rfl ?_) | (with_reducible refine FR_sN ?_) | (with_reducible refine FR_sL _ _ _ ?_) | (with_reducible refine oc_el (P := fun (r : St) => FR γ0 r) ?_ (fun b => ?_)) | (split)
theorem fw_X0_lookAtTime_28 {γ0 γ : St} {o : Nat} (h : FR γ0 γ) : FR γ0 (x_X0_lookAtTime_28 o γ) := by
  unfold x_X0_lookAtTime_28
  repeat' first | (with_reducible exact h) | (with_reducible refine FR_sV _ _ _ _ rfl ?_) | (with_reducible refine FR_sN ?_) | (with_reducible refine FR_sL _ _ _ ?_) | (with_reducible refine oc_el (P := fun (r : St) => FR γ0 r) ?_ (fun b => ?_)) | (split)
theorem fw_X0_lookAtTime {γ0 γ : St} {o : Nat} (h : FR γ0 γ) : FR γ0 (x_X0_lookAtTime o γ) := by
  unfold x_X0_lookAtTime
  repeat' first | (with_reducible exact h) | (with_reducible refine FR_sV _ _ _ _ rfl ?_) | (with_reducible refine FR_sN ?_) | (with_reducible refine FR_sL _ _ _ ?_) | (with_reducible refine fw_X0_finish ?_) | (with_reducible refine fw_X0_lookAtTime_43 ?_) | (with_reducible refine fw_X3_draw ?_) | (with_reducible refine fw_X0_lookAtTime_28 ?_) | (with_reducible refine oc_el (P := fun (r : St) => FR γ0 r) ?_ (fun b => ?_)) | (split)
theorem fw_X0_passSecond_33 {γ0 γ : St} {o : Nat} (h : FR γ0 γ) : FR γ0 (x_X0_passSecond_33 o γ) := by
  unfold x_X0_passSecond_33
  repeat' first | (with_reducible exact h) | (with_reducible refine FR_sV _ _ _ _ rfl ?_) | (with_reducible refine FR_sN ?_) | (with_reducible refine FR_sL _ _ _ ?_) | (with_reducible refine fw_X0_lookAtTime ?_) | (with_reducible refine oc_el (P := fun (r : St) => FR γ0 r) ?_ (fun b => ?_)) | (split)
theorem fw_X0_passSecond {γ0 γ : St} {o : Nat} (h : FR γ0 γ) : FR γ0 (x_X0_passSecond o γ) := by
  unfold x_X0_passSecond
  repeat' first | (with_reducible exact h) | (with_reducible refine FR_sV _ _ _ _ rfl ?_) | (with_reducible refine FR_sN ?_) | (with_reducible refine FR_sL _ _ _ ?_) | (with_reducible refine fw_X0_passSecond_33 ?_) | (with_reducible refine fw_X0_becomePassive ?_) | (with_reducible refine oc_el (P := fun (r : St) => FR γ0 r) ?_ (fun b => ?_)) | (split)
theorem fw_X1_orderPlaces_45_r {γ0 : St} {K19 : Int32 → St → St} (hK19 : ∀ (v0 : Int32) (γ : St), FR γ0 γ → FR γ0 (K19 v0 γ)) : ∀ k : Nat, ∀ (a0 : Int32) (a1 : Int32) (γ : St), FR γ0 γ → FR γ0 (x_X1_orderPlaces_45 K19 k a0 a1 γ)
  | 0 => by intro a0 a1 γ h; exact h
  | k + 1 => by
    have hr := fw_X1_orderPlaces_45_r (γ0 := γ0) (K19 := K19) hK19 k
    intro a0 a1 γ h
    unfold x_X1_orderPlaces_45
    repeat' first | (with_reducible exact h) | (with_reducible refine hr _ _ _ ?_) | (with_reducible refine FR_sV _ _ _ _ rfl ?_) | (with_reducible refine FR_sN ?_) | (with_reducible refine FR_sL _ _ _ ?_) | (with_reducible refine hK19 _ _ ?_) | (with_reducible refine oc_el (P := fun (r : St) => FR γ0 r) ?_ (fun b => ?_)) | (split)
theorem fw_X1_orderPlaces_45 {γ0 γ : St} {K19 : Int32 → St → St} {k : Nat} {a0 : Int32} {a1 : Int32} (hK19 : ∀ (v0 : Int32) (γ : St), FR γ0 γ → FR γ0 (K19 v0 γ)) (h : FR γ0 γ) : FR γ0 (x_X1_orderPlaces_45 K19 k a0 a1 γ) := fw_X1_orderPlaces_45_r hK19 k a0 a1 γ h
theorem fw_X1_orderPlaces_19_r {γ0 : St}  : ∀ k : Nat, ∀ (a0 : Int32) (γ : St), FR γ0 γ → FR γ0 (x_X1_orderPlaces_19 k a0 γ)
  | 0 => by intro a0 γ h; exact h
  | k + 1 => by
    have hr := fw_X1_orderPlaces_19_r (γ0 := γ0) k
    intro a0 γ h
    unfold x_X1_orderPlaces_19
    repeat' first | (with_reducible exact h) | (with_reducible refine hr _ _ ?_) | (with_reducible refine FR_sV _ _ _ _ rfl ?_) | (with_reducible refine FR_sN ?_) | (with_reducible refine FR_sL _ _ _ ?_) | (with_reducible refine fw_X1_orderPlaces_45 (by assumption) ?_) | (with_reducible refine oc_el (P := fun (r : St) => FR γ0 r) ?_ (fun b => ?_)) | (split)
theorem fw_X1_orderPlaces_19 {γ0 γ : St}  {k : Nat} {a0 : Int32} (h : FR γ0 γ) : FR γ0 (x_X1_orderPlaces_19 k a0 γ) := fw_X1_orderPlaces_19_r k a0 γ h
theorem fw_X1_orderPlaces {γ0 γ : St} {y1 : Int32} (h : FR γ0 γ) : FR γ0 (x_X1_orderPlaces y1 γ) := by
  unfold x_X1_orderPlaces
  repeat' first | (with_reducible exact h) | (with_reducible refine FR_sV _ _ _ _ rfl ?_) | (with_reducible refine FR_sN ?_) | (with_reducible refine FR_sL _ _ _ ?_) | (with_reducible refine fw_X1_orderPlaces_19 ?_) | (with_reducible refine oc_el (P := fun (r : St) => FR γ0 r) ?_ (fun b => ?_)) | (split)
theorem fw_X1_put {γ0 γ : St} {y1 : Int32} {y2 : Int32} (h : FR γ0 γ) : FR γ0 (x_X1_put y1 y2 γ) := by
  unfold x_X1_put
  repeat' first | (with_reducible exact h) | (with_reducible refine FR_sV _ _ _ _ rfl ?_) | (with_reducible refine FR_sN ?_) | (with_reducible refine FR_sL _ _ _ ?_) | (with_reducible refine oc_el (P := fun (r : St) => FR γ0 r) ?_ (fun b => ?_)) | (split)
theorem fw_X1_passBye_40 {γ0 γ : St} {s0 : Int32} {s1 : Int32} (h : FR γ0 γ) : FR γ0 (x_X1_passBye_40 s0 s1 γ) := by
  unfold x_X1_passBye_40
  repeat' first | (with_reducible exact h) | (with_reducible refine FR_sV _ _ _ _ rfl ?_) | (with_reducible refine FR_sN ?_) | (with_reducible refine FR_sL _ _ _ ?_) | (with_reducible refine fw_X1_put ?_) | (with_reducible refine oc_el (P := fun (r : St) => FR γ0 r) ?_ (fun b => ?_)) | (split)
theorem fw_X1_passBye_28 {γ0 γ : St} {a1 : Int32} {a2 : Int32} {a3 : Int32} (h : FR γ0 γ) : FR γ0 (x_X1_passBye_28 a1 a2 a3 γ) := by
  unfold x_X1_passBye_28
  repeat' first | (with_reducible exact h) | (with_reducible refine FR_sV _ _ _ _ rfl ?_) | (with_reducible refine FR_sN ?_) | (with_reducible refine FR_sL _ _ _ ?_) | (with_reducible refine fw_X1_passBye_40 ?_) | (with_reducible refine oc_el (P := fun (r : St) => FR γ0 r) ?_ (fun b => ?_)) | (split)
theorem fw_X1_passBye {γ0 γ : St} {y1 : Int32} (h : FR γ0 γ) : FR γ0 (x_X1_passBye y1 γ) := by
  unfold x_X1_passBye
  repeat' first | (with_reducible exact h) | (with_reducible refine FR_sV _ _ _ _ rfl ?_) | (with_reducible refine FR_sN ?_) | (with_reducible refine FR_sL _ _ _ ?_) | (with_reducible refine fw_X1_passBye_28 ?_) | (with_reducible refine oc_el (P := fun (r : St) => FR γ0 r) ?_ (fun b => ?_)) | (split)
theorem fw_X5_insert_48 {γ0 γ : St} {o : Nat} {a1 : Int32} {a3 : Int32} (h : FR γ0 γ) : FR γ0 (x_X5_insert_48 o a1 a3 γ) := by
  unfold x_X5_insert_48
  repeat' first | (with_reducible exact h) | (with_reducible refine FR_sV _ _ _ _ rfl ?_) | (with_reducible refine FR_sN ?_) | (with_reducible refine FR_sL _ _ _ ?_) | (with_reducible refine oc_el (P := fun (r : St) => FR γ0 r) ?_ (fun b => ?_)) | (split)
theorem fw_X5_insert_2_r {γ0 : St} {o : Nat} : ∀ k : Nat, ∀ (a0 : Int32) (a1 : Int32) (γ : St), FR γ0 γ → FR γ0 (x_X5_insert_2 o k a0 a1 γ)
  | 0 => by intro a0 a1 γ h; exact h
  | k + 1 => by
    have hr := fw_X5_insert_2_r (γ0 := γ0) (o := o) k
    intro a0 a1 γ h
    unfold x_X5_insert_2
    repeat' first | (with_reducible exact h) | (with_reducible refine hr _ _ _ ?_) | (with_reducible refine FR_sV _ _ _ _ rfl ?_) | (with_reducible refine FR_sN ?_) | (with_reducible refine FR_sL _ _ _ ?_) | (with_reducible refine fw_X5_insert_48 ?_) | (with_reducible refine oc_el (P := fun (r : St) => FR γ0 r) ?_ (fun b => ?_)) | (split)
theorem fw_X5_insert_2 {γ0 γ : St} {o : Nat} {k : Nat} {a0 : Int32} {a1 : Int32} (h : FR γ0 γ) : FR γ0 (x_X5_insert_2 o k a0 a1 γ) := fw_X5_insert_2_r k a0 a1 γ h
theorem fw_X5_insert {γ0 γ : St} {o : Nat} {y1 : Int32} {y2 : Int32} (h : FR γ0 γ) : FR γ0 (x_X5_insert o y1 y2 γ) := by
  unfold x_X5_insert
  repeat' first | (with_reducible exact h) | (with_reducible refine FR_sV _ _ _ _ rfl ?_) | (with_reducible refine FR_sN ?_) | (with_reducible refine FR_sL _ _ _ ?_) | (with_reducible refine fw_X5_insert_2 ?_) | (with_reducible refine oc_el (P := fun (r : St) => FR γ0 r) ?_ (fun b => ?_)) | (split)
theorem fw_X5_orderRanked_34 {γ0 γ : St} {K4 : Int32 → Int32 → St → St} {o : Nat} {a1 : Int32} {a2 : Int32} (hK4 : ∀ (v0 : Int32) (v1 : Int32) (γ : St), FR γ0 γ → FR γ0 (K4 v0 v1 γ)) (h : FR γ0 γ) : FR γ0 (x_X5_orderRanked_34 K4 o a1 a2 γ) := by
  unfold x_X5_orderRanked_34
  repeat' first | (with_reducible exact h) | (with_reducible refine FR_sV _ _ _ _ rfl ?_) | (with_reducible refine FR_sN ?_) | (with_reducible refine FR_sL _ _ _ ?_) | (with_reducible refine hK4 _ _ _ ?_) | (with_reducible refine oc_el (P := fun (r : St) => FR γ0 r) ?_ (fun b => ?_)) | (split)
theorem fw_X5_orderRanked_31 {γ0 γ : St} {K4 : Int32 → Int32 → St → St} {o : Nat} {a1 : Int32} {a2 : Int32} (hK4 : ∀ (v0 : Int32) (v1 : Int32) (γ : St), FR γ0 γ → FR γ0 (K4 v0 v1 γ)) (h : FR γ0 γ) : FR γ0 (x_X5_orderRanked_31 K4 o a1 a2 γ) := by
  unfold x_X5_orderRanked_31
  repeat' first | (with_reducible exact h) | (with_reducible refine FR_sV _ _ _ _ rfl ?_) | (with_reducible refine FR_sN ?_) | (with_reducible refine FR_sL _ _ _ ?_) | (with_reducible refine fw_X5_orderRanked_34 (by assumption) ?_) | (with_reducible refine hK4 _ _ _ ?_) | (with_reducible refine oc_el (P := fun (r : St) => FR γ0 r) ?_ (fun b => ?_)) | (split)
theorem fw_X5_orderRanked_4_r {γ0 : St} {o : Nat} : ∀ k : Nat, ∀ (a0 : Int32) (a1 : Int32) (γ : St), FR γ0 γ → FR γ0 (x_X5_orderRanked_4 o k a0 a1 γ)
  | 0 => by intro a0 a1 γ h; exact h
  | k + 1 => by
    have hr := fw_X5_orderRanked_4_r (γ0 := γ0) (o := o) k
    intro a0 a1 γ h
    unfold x_X5_orderRanked_4
    repeat' first | (with_reducible exact h) | (with_reducible refine hr _ _ _ ?_) | (with_reducible refine FR_sV _ _ _ _ rfl ?_) | (with_reducible refine FR_sN ?_) | (with_reducible refine FR_sL _ _ _ ?_) | (with_reducible refine fw_X5_orderRanked_34 (by assumption) ?_) | (with_reducible refine fw_X5_orderRanked_31 (by assumption) ?_) | (with_reducible refine fw_X5_insert ?_) | (with_reducible refine oc_el (P := fun (r : St) => FR γ0 r) ?_ (fun b => ?_)) | (split)
theorem fw_X5_orderRanked_4 {γ0 γ : St} {o : Nat} {k : Nat} {a0 : Int32} {a1 : Int32} (h : FR γ0 γ) : FR γ0 (x_X5_orderRanked_4 o k a0 a1 γ) := fw_X5_orderRanked_4_r k a0 a1 γ h
theorem fw_X5_orderRanked {γ0 γ : St} {o : Nat} (h : FR γ0 γ) : FR γ0 (x_X5_orderRanked o γ) := by
  unfold x_X5_orderRanked
  repeat' first | (with_reducible exact h) | (with_reducible refine FR_sV _ _ _ _ rfl ?_) | (with_reducible refine FR_sN ?_) | (with_reducible refine FR_sL _ _ _ ?_) | (with_reducible refine fw_X5_orderRanked_4 ?_) | (with_reducible refine oc_el (P := fun (r : St) => FR γ0 r) ?_ (fun b => ?_)) | (split)
theorem fw_X1_makeFrom_99 {γ0 γ : St} {K86 : Int32 → St → St} {a2 : Int32} (hK86 : ∀ (v0 : Int32) (γ : St), FR γ0 γ → FR γ0 (K86 v0 γ)) (h : FR γ0 γ) : FR γ0 (x_X1_makeFrom_99 K86 a2 γ) := by
  unfold x_X1_makeFrom_99
  repeat' first | (with_reducible exact h) | (with_reducible refine FR_sV _ _ _ _ rfl ?_) | (with_reducible refine FR_sN ?_) | (with_reducible refine FR_sL _ _ _ ?_) | (with_reducible refine hK86 _ _ ?_) | (with_reducible refine oc_el (P := fun (r : St) => FR γ0 r) ?_ (fun b => ?_)) | (split)
theorem fw_X1_makeFrom_86_r {γ0 : St}  : ∀ k : Nat, ∀ (a0 : Int32) (γ : St), FR γ0 γ → FR γ0 (x_X1_makeFrom_86 k a0 γ)
  | 0 => by intro a0 γ h; exact h
  | k + 1 => by
    have hr := fw_X1_makeFrom_86_r (γ0 := γ0) k
    intro a0 γ h
    unfold x_X1_makeFrom_86
    repeat' first | (with_reducible exact h) | (with_reducible refine hr _ _ ?_) | (with_reducible refine FR_sV _ _ _ _ rfl ?_) | (with_reducible refine FR_sN ?_) | (with_reducible refine FR_sL _ _ _ ?_) | (with_reducible refine fw_X1_makeFrom_99 (by assumption) ?_) | (with_reducible refine fw_X1_passBye ?_) | (with_reducible refine oc_el (P := fun (r : St) => FR γ0 r) ?_ (fun b => ?_)) | (split)
theorem fw_X1_makeFrom_86 {γ0 γ : St}  {k : Nat} {a0 : Int32} (h : FR γ0 γ) : FR γ0 (x_X1_makeFrom_86 k a0 γ) := fw_X1_makeFrom_86_r k a0 γ h
theorem fw_X1_makeFrom_79 {γ0 γ : St}  (h : FR γ0 γ) : FR γ0 (x_X1_makeFrom_79 γ) := by
  unfold x_X1_makeFrom_79
  repeat' first | (with_reducible exact h) | (with_reducible refine FR_sV _ _ _ _ rfl ?_) | (with_reducible refine FR_sN ?_) | (with_reducible refine FR_sL _ _ _ ?_) | (with_reducible refine fw_X1_makeFrom_86 ?_) | (with_reducible refine oc_el (P := fun (r : St) => FR γ0 r) ?_ (fun b => ?_)) | (split)
theorem fw_X1_makeFrom_73 {γ0 γ : St} {K39 : Nat → Int32 → St → St} {n1 : Nat} {a2 : Int32} (hK39 : ∀ (v0 : Nat) (v1 : Int32) (γ : St), FR γ0 γ → FR γ0 (K39 v0 v1 γ)) (h : FR γ0 γ) : FR γ0 (x_X1_makeFrom_73 K39 n1 a2 γ) := by
  unfold x_X1_makeFrom_73
  repeat' first | (with_reducible exact h) | (with_reducible refine FR_sV _ _ _ _ rfl ?_) | (with_reducible refine FR_sN ?_) | (with_reducible refine FR_sL _ _ _ ?_) | (with_reducible refine hK39 _ _ _ ?_) | (with_reducible refine oc_el (P := fun (r : St) => FR γ0 r) ?_ (fun b => ?_)) | (split)
theorem fw_X1_makeFrom_39_r {γ0 : St}  : ∀ k : Nat, ∀ (a0 : Nat) (a1 : Int32) (γ : St), FR γ0 γ → FR γ0 (x_X1_makeFrom_39 k a0 a1 γ)
  | 0 => by intro a0 a1 γ h; exact h
  | k + 1 => by
    have hr := fw_X1_makeFrom_39_r (γ0 := γ0) k
    intro a0 a1 γ h
    unfold x_X1_makeFrom_39
    repeat' first | (with_reducible exact h) | (with_reducible refine hr _ _ _ ?_) | (with_reducible refine FR_sV _ _ _ _ rfl ?_) | (with_reducible refine FR_sN ?_) | (with_reducible refine FR_sL _ _ _ ?_) | (with_reducible refine fw_X1_makeFrom_79 ?_) | (with_reducible refine fw_X1_makeFrom_73 (by assumption) ?_) | (with_reducible refine fw_X1_put ?_) | (with_reducible refine oc_el (P := fun (r : St) => FR γ0 r) ?_ (fun b => ?_)) | (split)
theorem fw_X1_makeFrom_39 {γ0 γ : St}  {k : Nat} {a0 : Nat} {a1 : Int32} (h : FR γ0 γ) : FR γ0 (x_X1_makeFrom_39 k a0 a1 γ) := fw_X1_makeFrom_39_r k a0 a1 γ h
theorem fw_X1_makeFrom_31 {γ0 γ : St} {K17 : Nat → Int32 → St → St} {n1 : Nat} {a2 : Int32} (hK17 : ∀ (v0 : Nat) (v1 : Int32) (γ : St), FR γ0 γ → FR γ0 (K17 v0 v1 γ)) (h : FR γ0 γ) : FR γ0 (x_X1_makeFrom_31 K17 n1 a2 γ) := by
  unfold x_X1_makeFrom_31
  repeat' first | (with_reducible exact h) | (with_reducible refine FR_sV _ _ _ _ rfl ?_) | (with_reducible refine FR_sN ?_) | (with_reducible refine FR_sL _ _ _ ?_) | (with_reducible refine hK17 _ _ _ ?_) | (with_reducible refine oc_el (P := fun (r : St) => FR γ0 r) ?_ (fun b => ?_)) | (split)
theorem fw_X1_makeFrom_17_r {γ0 : St}  : ∀ k : Nat, ∀ (a0 : Nat) (a1 : Int32) (γ : St), FR γ0 γ → FR γ0 (x_X1_makeFrom_17 k a0 a1 γ)
  | 0 => by intro a0 a1 γ h; exact h
  | k + 1 => by
    have hr := fw_X1_makeFrom_17_r (γ0 := γ0) k
    intro a0 a1 γ h
    unfold x_X1_makeFrom_17
    repeat' first | (with_reducible exact h) | (with_reducible refine hr _ _ _ ?_) | (with_reducible refine FR_sV _ _ _ _ rfl ?_) | (with_reducible refine FR_sN ?_) | (with_reducible refine FR_sL _ _ _ ?_) | (with_reducible refine fw_X1_makeFrom_39 ?_) | (with_reducible refine fw_X1_makeFrom_31 (by assumption) ?_) | (with_reducible refine fw_X1_put ?_) | (with_reducible refine oc_el (P := fun (r : St) => FR γ0 r) ?_ (fun b => ?_)) | (split)
theorem fw_X1_makeFrom_17 {γ0 γ : St}  {k : Nat} {a0 : Nat} {a1 : Int32} (h : FR γ0 γ) : FR γ0 (x_X1_makeFrom_17 k a0 a1 γ) := fw_X1_makeFrom_17_r k a0 a1 γ h
theorem fw_X1_makeFrom_15 {γ0 γ : St} {n1 : Nat} (h : FR γ0 γ) : FR γ0 (x_X1_makeFrom_15 n1 γ) := by
  unfold x_X1_makeFrom_15
  repeat' first | (with_reducible exact h) | (with_reducible refine FR_sV _ _ _ _ rfl ?_) | (with_reducible refine FR_sN ?_) | (with_reducible refine FR_sL _ _ _ ?_) | (with_reducible refine fw_X1_makeFrom_17 ?_) | (with_reducible refine oc_el (P := fun (r : St) => FR γ0 r) ?_ (fun b => ?_)) | (split)
theorem fw_X1_makeFrom_4 {γ0 γ : St} {n1 : Nat} (h : FR γ0 γ) : FR γ0 (x_X1_makeFrom_4 n1 γ) := by
  unfold x_X1_makeFrom_4
  repeat' first | (with_reducible exact h) | (with_reducible refine FR_sV _ _ _ _ rfl ?_) | (with_reducible refine FR_sN ?_) | (with_reducible refine FR_sL _ _ _ ?_) | (with_reducible refine fw_X1_makeFrom_15 ?_) | (with_reducible refine fw_X1_orderPlaces ?_) | (with_reducible refine oc_el (P := fun (r : St) => FR γ0 r) ?_ (fun b => ?_)) | (split)
theorem fw_X1_makeFrom {γ0 γ : St} {z1 : Nat} (h : FR γ0 γ) : FR γ0 (x_X1_makeFrom z1 γ) := by
  unfold x_X1_makeFrom
  repeat' first | (with_reducible exact h) | (with_reducible refine FR_sV _ _ _ _ rfl ?_) | (with_reducible refine FR_sN ?_) | (with_reducible refine FR_sL _ _ _ ?_) | (with_reducible refine fw_X1_makeFrom_4 ?_) | (with_reducible refine fw_X5_orderRanked ?_) | (with_reducible refine oc_el (P := fun (r : St) => FR γ0 r) ?_ (fun b => ?_)) | (split)
theorem fw_X1_settle_21 {γ0 γ : St} {a4 : Int32} (h : FR γ0 γ) : FR γ0 (x_X1_settle_21 a4 γ).2 := by
  unfold x_X1_settle_21
  repeat' first | (with_reducible exact h) | (with_reducible refine FR_sV _ _ _ _ rfl ?_) | (with_reducible refine FR_sN ?_) | (with_reducible refine FR_sL _ _ _ ?_) | (with_reducible refine oc_el (P := fun (r : Int32 × St) => FR γ0 r.2) ?_ (fun b => ?_)) | (split)
theorem fw_X1_settle {γ0 γ : St} {y1 : Int32} {y2 : Int32} {y3 : Int32} (h : FR γ0 γ) : FR γ0 (x_X1_settle y1 y2 y3 γ).2 := by
  unfold x_X1_settle
  repeat' first | (with_reducible exact h) | (with_reducible refine FR_sV _ _ _ _ rfl ?_) | (with_reducible refine FR_sN ?_) | (with_reducible refine FR_sL _ _ _ ?_) | (with_reducible refine fw_X1_settle_21 ?_) | (with_reducible refine fw_X1_put ?_) | (with_reducible refine oc_el (P := fun (r : Int32 × St) => FR γ0 r.2) ?_ (fun b => ?_)) | (split)
theorem fw_X4_empty {γ0 γ : St}  (h : FR γ0 γ) : FR γ0 (x_X4_empty γ) := by
  unfold x_X4_empty
  repeat' first | (with_reducible exact h) | (with_reducible refine FR_sV _ _ _ _ rfl ?_) | (with_reducible refine FR_sN ?_) | (with_reducible refine FR_sL _ _ _ ?_) | (with_reducible refine oc_el (P := fun (r : St) => FR γ0 r) ?_ (fun b => ?_)) | (split)
theorem fw_X4_append_78 {γ0 γ : St}  (h : FR γ0 γ) : FR γ0 (x_X4_append_78 γ).2 := by
  unfold x_X4_append_78
  repeat' first | (with_reducible exact h) | (with_reducible refine FR_sV _ _ _ _ rfl ?_) | (with_reducible refine FR_sN ?_) | (with_reducible refine FR_sL _ _ _ ?_) | (with_reducible refine oc_el (P := fun (r : Int32 × St) => FR γ0 r.2) ?_ (fun b => ?_)) | (split)
theorem fw_X4_append {γ0 γ : St} {y1 : Int32} {y2 : Int32} {y3 : Int32} {y4 : Int32} {y5 : Int32} (h : FR γ0 γ) : FR γ0 (x_X4_append y1 y2 y3 y4 y5 γ).2 := by
  unfold x_X4_append
  repeat' first | (with_reducible exact h) | (with_reducible refine FR_sV _ _ _ _ rfl ?_) | (with_reducible refine FR_sN ?_) | (with_reducible refine FR_sL _ _ _ ?_) | (with_reducible refine fw_X4_append_78 ?_) | (with_reducible refine oc_el (P := fun (r : Int32 × St) => FR γ0 r.2) ?_ (fun b => ?_)) | (split)
theorem fw_X4_addAction {γ0 γ : St} {y1 : Int32} {y2 : Int32} {y3 : Int32} (h : FR γ0 γ) : FR γ0 (x_X4_addAction y1 y2 y3 γ).2 := by
  unfold x_X4_addAction
  repeat' first | (with_reducible exact h) | (with_reducible refine FR_sV _ _ _ _ rfl ?_) | (with_reducible refine FR_sN ?_) | (with_reducible refine FR_sL _ _ _ ?_) | (with_reducible refine fw_X4_append ?_) | (with_reducible refine oc_el (P := fun (r : Int32 × St) => FR γ0 r.2) ?_ (fun b => ?_)) | (split)
theorem fw_X4_addContact {γ0 γ : St} {y1 : Int32} {y2 : Int32} {y3 : Int32} {y4 : Int32} (h : FR γ0 γ) : FR γ0 (x_X4_addContact y1 y2 y3 y4 γ).2 := by
  unfold x_X4_addContact
  repeat' first | (with_reducible exact h) | (with_reducible refine FR_sV _ _ _ _ rfl ?_) | (with_reducible refine FR_sN ?_) | (with_reducible refine FR_sL _ _ _ ?_) | (with_reducible refine fw_X4_append ?_) | (with_reducible refine oc_el (P := fun (r : Int32 × St) => FR γ0 r.2) ?_ (fun b => ?_)) | (split)
theorem fw_X6_forget {γ0 γ : St}  (h : FR γ0 γ) : FR γ0 (x_X6_forget γ) := by
  unfold x_X6_forget
  repeat' first | (with_reducible exact h) | (with_reducible refine FR_sV _ _ _ _ rfl ?_) | (with_reducible refine FR_sN ?_) | (with_reducible refine FR_sL _ _ _ ?_) | (with_reducible refine oc_el (P := fun (r : St) => FR γ0 r) ?_ (fun b => ?_)) | (split)
theorem fw_X6_give {γ0 γ : St} {y1 : Int32} {y2 : Int32} {y3 : Int32} (h : FR γ0 γ) : FR γ0 (x_X6_give y1 y2 y3 γ) := by
  unfold x_X6_give
  repeat' first | (with_reducible exact h) | (with_reducible refine FR_sV _ _ _ _ rfl ?_) | (with_reducible refine FR_sN ?_) | (with_reducible refine FR_sL _ _ _ ?_) | (with_reducible refine oc_el (P := fun (r : St) => FR γ0 r) ?_ (fun b => ?_)) | (split)
theorem fw_X6_attack_17 {γ0 γ : St}  (h : FR γ0 γ) : FR γ0 (x_X6_attack_17 γ) := by
  unfold x_X6_attack_17
  repeat' first | (with_reducible exact h) | (with_reducible refine FR_sV _ _ _ _ rfl ?_) | (with_reducible refine FR_sN ?_) | (with_reducible refine FR_sL _ _ _ ?_) | (with_reducible refine oc_el (P := fun (r : St) => FR γ0 r) ?_ (fun b => ?_)) | (split)
theorem fw_X6_attack {γ0 γ : St} {y1 : Int32} {y2 : Int32} (h : FR γ0 γ) : FR γ0 (x_X6_attack y1 y2 γ) := by
  unfold x_X6_attack
  repeat' first | (with_reducible exact h) | (with_reducible refine FR_sV _ _ _ _ rfl ?_) | (with_reducible refine FR_sN ?_) | (with_reducible refine FR_sL _ _ _ ?_) | (with_reducible refine fw_X6_attack_17 ?_) | (with_reducible refine fw_X6_give ?_) | (with_reducible refine oc_el (P := fun (r : St) => FR γ0 r) ?_ (fun b => ?_)) | (split)
theorem fw_X6_parry {γ0 γ : St} {y1 : Int32} {y2 : Int32} (h : FR γ0 γ) : FR γ0 (x_X6_parry y1 y2 γ) := by
  unfold x_X6_parry
  repeat' first | (with_reducible exact h) | (with_reducible refine FR_sV _ _ _ _ rfl ?_) | (with_reducible refine FR_sN ?_) | (with_reducible refine FR_sL _ _ _ ?_) | (with_reducible refine oc_el (P := fun (r : St) => FR γ0 r) ?_ (fun b => ?_)) | (split)
theorem fw_X6_take_54 {γ0 γ : St}  (h : FR γ0 γ) : FR γ0 (x_X6_take_54 γ) := by
  unfold x_X6_take_54
  repeat' first | (with_reducible exact h) | (with_reducible refine FR_sV _ _ _ _ rfl ?_) | (with_reducible refine FR_sN ?_) | (with_reducible refine FR_sL _ _ _ ?_) | (with_reducible refine oc_el (P := fun (r : St) => FR γ0 r) ?_ (fun b => ?_)) | (split)
theorem fw_X6_take_72 {γ0 γ : St}  (h : FR γ0 γ) : FR γ0 (x_X6_take_72 γ) := by
  unfold x_X6_take_72
  repeat' first | (with_reducible exact h) | (with_reducible refine FR_sV _ _ _ _ rfl ?_) | (with_reducible refine FR_sN ?_) | (with_reducible refine FR_sL _ _ _ ?_) | (with_reducible refine oc_el (P := fun (r : St) => FR γ0 r) ?_ (fun b => ?_)) | (split)
theorem fw_X6_take_99 {γ0 γ : St}  (h : FR γ0 γ) : FR γ0 (x_X6_take_99 γ) := by
  unfold x_X6_take_99
  repeat' first | (with_reducible exact h) | (with_reducible refine FR_sV _ _ _ _ rfl ?_) | (with_reducible refine FR_sN ?_) | (with_reducible refine FR_sL _ _ _ ?_) | (with_reducible refine oc_el (P := fun (r : St) => FR γ0 r) ?_ (fun b => ?_)) | (split)
theorem fw_X6_take_108 {γ0 γ : St}  (h : FR γ0 γ) : FR γ0 (x_X6_take_108 γ) := by
  unfold x_X6_take_108
  repeat' first | (with_reducible exact h) | (with_reducible refine FR_sV _ _ _ _ rfl ?_) | (with_reducible refine FR_sN ?_) | (with_reducible refine FR_sL _ _ _ ?_) | (with_reducible refine oc_el (P := fun (r : St) => FR γ0 r) ?_ (fun b => ?_)) | (split)
theorem fw_X6_take_146 {γ0 γ : St}  (h : FR γ0 γ) : FR γ0 (x_X6_take_146 γ) := by
  unfold x_X6_take_146
  repeat' first | (with_reducible exact h) | (with_reducible refine FR_sV _ _ _ _ rfl ?_) | (with_reducible refine FR_sN ?_) | (with_reducible refine FR_sL _ _ _ ?_) | (with_reducible refine oc_el (P := fun (r : St) => FR γ0 r) ?_ (fun b => ?_)) | (split)
theorem fw_X6_take_185 {γ0 γ : St}  (h : FR γ0 γ) : FR γ0 (x_X6_take_185 γ) := by
  unfold x_X6_take_185
  repeat' first | (with_reducible exact h) | (with_reducible refine FR_sV _ _ _ _ rfl ?_) | (with_reducible refine FR_sN ?_) | (with_reducible refine FR_sL _ _ _ ?_) | (with_reducible refine oc_el (P := fun (r : St) => FR γ0 r) ?_ (fun b => ?_)) | (split)
theorem fw_X6_take {γ0 γ : St} {y1 : Int32} {y2 : Int32} {y3 : Int32} (h : FR γ0 γ) : FR γ0 (x_X6_take y1 y2 y3 γ) := by
  unfold x_X6_take
  repeat' first | (with_reducible exact h) | (with_reducible refine FR_sV _ _ _ _ rfl ?_) | (with_reducible refine FR_sN ?_) | (with_reducible refine FR_sL _ _ _ ?_) | (with_reducible refine fw_X6_take_54 ?_) | (with_reducible refine fw_X6_attack ?_) | (with_reducible refine fw_X6_take_72 ?_) | (with_reducible refine fw_X6_give ?_) | (with_reducible refine fw_X6_take_99 ?_) | (with_reducible refine fw_X6_take_108 ?_) | (with_reducible refine fw_X6_parry ?_) | (with_reducible refine fw_X6_take_146 ?_) | (with_reducible refine fw_X6_take_185 ?_) | (with_reducible refine oc_el (P := fun (r : St) => FR γ0 r) ?_ (fun b => ?_)) | (split)
theorem fw_X4_holderAhead_71 {γ0 γ : St}  (h : FR γ0 γ) : FR γ0 (x_X4_holderAhead_71 γ).2 := by
  unfold x_X4_holderAhead_71
  repeat' first | (with_reducible exact h) | (with_reducible refine FR_sV _ _ _ _ rfl ?_) | (with_reducible refine FR_sN ?_) | (with_reducible refine FR_sL _ _ _ ?_) | (with_reducible refine oc_el (P := fun (r : Int32 × St) => FR γ0 r.2) ?_ (fun b => ?_)) | (split)
theorem fw_X4_holderAhead_65 {γ0 γ : St} {K9 : Int32 → Int32 → St → Int32 × St} {a1 : Int32} {a2 : Int32} (hK9 : ∀ (v0 : Int32) (v1 : Int32) (γ : St), FR γ0 γ → FR γ0 (K9 v0 v1 γ).2) (h : FR γ0 γ) : FR γ0 (x_X4_holderAhead_65 K9 a1 a2 γ).2 := by
  unfold x_X4_holderAhead_65
  repeat' first | (with_reducible exact h) | (with_reducible refine FR_sV _ _ _ _ rfl ?_) | (with_reducible refine FR_sN ?_) | (with_reducible refine FR_sL _ _ _ ?_) | (with_reducible refine hK9 _ _ _ ?_) | (with_reducible refine oc_el (P := fun (r : Int32 × St) => FR γ0 r.2) ?_ (fun b => ?_)) | (split)
theorem fw_X4_holderAhead_9_r {γ0 : St}  : ∀ k : Nat, ∀ (a0 : Int32) (a1 : Int32) (γ : St), FR γ0 γ → FR γ0 (x_X4_holderAhead_9 k a0 a1 γ).2
  | 0 => by intro a0 a1 γ h; exact h
  | k + 1 => by
    have hr := fw_X4_holderAhead_9_r (γ0 := γ0) k
    intro a0 a1 γ h
    unfold x_X4_holderAhead_9
    repeat' first | (with_reducible exact h) | (with_reducible refine hr _ _ _ ?_) | (with_reducible refine FR_sV _ _ _ _ rfl ?_) | (with_reducible refine FR_sN ?_) | (with_reducible refine FR_sL _ _ _ ?_) | (with_reducible refine fw_X4_holderAhead_71 ?_) | (with_reducible refine fw_X4_holderAhead_65 (by assumption) ?_) | (with_reducible refine fw_X6_take ?_) | (with_reducible refine oc_el (P := fun (r : Int32 × St) => FR γ0 r.2) ?_ (fun b => ?_)) | (split)
theorem fw_X4_holderAhead_9 {γ0 γ : St}  {k : Nat} {a0 : Int32} {a1 : Int32} (h : FR γ0 γ) : FR γ0 (x_X4_holderAhead_9 k a0 a1 γ).2 := fw_X4_holderAhead_9_r k a0 a1 γ h
theorem fw_X4_holderAhead_7 {γ0 γ : St} {a1 : Int32} (h : FR γ0 γ) : FR γ0 (x_X4_holderAhead_7 a1 γ).2 := by
  unfold x_X4_holderAhead_7
  repeat' first | (with_reducible exact h) | (with_reducible refine FR_sV _ _ _ _ rfl ?_) | (with_reducible refine FR_sN ?_) | (with_reducible refine FR_sL _ _ _ ?_) | (with_reducible refine fw_X4_holderAhead_9 ?_) | (with_reducible refine oc_el (P := fun (r : Int32 × St) => FR γ0 r.2) ?_ (fun b => ?_)) | (split)
theorem fw_X4_holderAhead {γ0 γ : St} {y1 : Int32} (h : FR γ0 γ) : FR γ0 (x_X4_holderAhead y1 γ).2 := by
  unfold x_X4_holderAhead
  repeat' first | (with_reducible exact h) | (with_reducible refine FR_sV _ _ _ _ rfl ?_) | (with_reducible refine FR_sN ?_) | (with_reducible refine FR_sL _ _ _ ?_) | (with_reducible refine fw_X4_holderAhead_7 ?_) | (with_reducible refine fw_X6_forget ?_) | (with_reducible refine oc_el (P := fun (r : Int32 × St) => FR γ0 r.2) ?_ (fun b => ?_)) | (split)
theorem fw_X5_markWithdrawn {γ0 γ : St} {o : Nat} {y1 : Int32} (h : FR γ0 γ) : FR γ0 (x_X5_markWithdrawn o y1 γ) := by
  unfold x_X5_markWithdrawn
  repeat' first | (with_reducible exact h) | (with_reducible refine FR_sV _ _ _ _ rfl ?_) | (with_reducible refine FR_sN ?_) | (with_reducible refine FR_sL _ _ _ ?_) | (with_reducible refine oc_el (P := fun (r : St) => FR γ0 r) ?_ (fun b => ?_)) | (split)
theorem fw_X5_addTo {γ0 γ : St} {o : Nat} {y1 : Int32} {y2 : Int32} {y3 : Int32} (h : FR γ0 γ) : FR γ0 (x_X5_addTo o y1 y2 y3 γ) := by
  unfold x_X5_addTo
  repeat' first | (with_reducible exact h) | (with_reducible refine FR_sV _ _ _ _ rfl ?_) | (with_reducible refine FR_sN ?_) | (with_reducible refine FR_sL _ _ _ ?_) | (with_reducible refine oc_el (P := fun (r : St) => FR γ0 r) ?_ (fun b => ?_)) | (split)
theorem fw_X5_enter_47 {γ0 γ : St} {K2 : Nat → Int32 → Int32 → St → St} {o : Nat} {n1 : Nat} {a2 : Int32} {a3 : Int32} (hK2 : ∀ (v0 : Nat) (v1 : Int32) (v2 : Int32) (γ : St), FR γ0 γ → FR γ0 (K2 v0 v1 v2 γ)) (h : FR γ0 γ) : FR γ0 (x_X5_enter_47 K2 o n1 a2 a3 γ) := by
  unfold x_X5_enter_47
  repeat' first | (with_reducible exact h) | (with_reducible refine FR_sV _ _ _ _ rfl ?_) | (with_reducible refine FR_sN ?_) | (with_reducible refine FR_sL _ _ _ ?_) | (with_reducible refine hK2 _ _ _ _ ?_) | (with_reducible refine oc_el (P := fun (r : St) => FR γ0 r) ?_ (fun b => ?_)) | (split)
theorem fw_X5_enter_27 {γ0 γ : St} {K2 : Nat → Int32 → Int32 → St → St} {o : Nat} {n1 : Nat} {a2 : Int32} {a3 : Int32} (hK2 : ∀ (v0 : Nat) (v1 : Int32) (v2 : Int32) (γ : St), FR γ0 γ → FR γ0 (K2 v0 v1 v2 γ)) (h : FR γ0 γ) : FR γ0 (x_X5_enter_27 K2 o n1 a2 a3 γ) := by
  unfold x_X5_enter_27
  repeat' first | (with_reducible exact h) | (with_reducible refine FR_sV _ _ _ _ rfl ?_) | (with_reducible refine FR_sN ?_) | (with_reducible refine FR_sL _ _ _ ?_) | (with_reducible refine fw_X5_enter_47 (by assumption) ?_) | (with_reducible refine fw_X5_addTo ?_) | (with_reducible refine hK2 _ _ _ _ ?_) | (with_reducible refine oc_el (P := fun (r : St) => FR γ0 r) ?_ (fun b => ?_)) | (split)
theorem fw_X5_enter_2_r {γ0 : St} {o : Nat} : ∀ k : Nat, ∀ (a0 : Nat) (a1 : Int32) (a2 : Int32) (γ : St), FR γ0 γ → FR γ0 (x_X5_enter_2 o k a0 a1 a2 γ)
  | 0 => by intro a0 a1 a2 γ h; exact h
  | k + 1 => by
    have hr := fw_X5_enter_2_r (γ0 := γ0) (o := o) k
    intro a0 a1 a2 γ h
    unfold x_X5_enter_2
    repeat' first | (with_reducible exact h) | (with_reducible refine hr _ _ _ _ ?_) | (with_reducible refine FR_sV _ _ _ _ rfl ?_) | (with_reducible refine FR_sN ?_) | (with_reducible refine FR_sL _ _ _ ?_) | (with_reducible refine fw_X5_enter_27 (by assumption) ?_) | (with_reducible refine fw_X5_addTo ?_) | (with_reducible refine oc_el (P := fun (r : St) => FR γ0 r) ?_ (fun b => ?_)) | (split)
theorem fw_X5_enter_2 {γ0 γ : St} {o : Nat} {k : Nat} {a0 : Nat} {a1 : Int32} {a2 : Int32} (h : FR γ0 γ) : FR γ0 (x_X5_enter_2 o k a0 a1 a2 γ) := fw_X5_enter_2_r k a0 a1 a2 γ h
theorem fw_X5_enter {γ0 γ : St} {o : Nat} {z1 : Nat} {y2 : Int32} (h : FR γ0 γ) : FR γ0 (x_X5_enter o z1 y2 γ) := by
  unfold x_X5_enter
  repeat' first | (with_reducible exact h) | (with_reducible refine FR_sV _ _ _ _ rfl ?_) | (with_reducible refine FR_sN ?_) | (with_reducible refine FR_sL _ _ _ ?_) | (with_reducible refine fw_X5_enter_2 ?_) | (with_reducible refine oc_el (P := fun (r : St) => FR γ0 r) ?_ (fun b => ?_)) | (split)
theorem fw_X7_putOnPiste_36 {γ0 γ : St} {a2 : Int32} (h : FR γ0 γ) : FR γ0 (x_X7_putOnPiste_36 a2 γ).2 := by
  unfold x_X7_putOnPiste_36
  repeat' first | (with_reducible exact h) | (with_reducible refine FR_sV _ _ _ _ rfl ?_) | (with_reducible refine FR_sN ?_) | (with_reducible refine FR_sL _ _ _ ?_) | (with_reducible refine oc_el (P := fun (r : Int32 × St) => FR γ0 r.2) ?_ (fun b => ?_)) | (split)
theorem fw_X7_begin_35 {γ0 γ : St}  (h : FR γ0 γ) : FR γ0 (x_X7_begin_35 γ).2.2 := by
  unfold x_X7_begin_35
  repeat' first | (with_reducible exact h) | (with_reducible refine FR_sV _ _ _ _ rfl ?_) | (with_reducible refine FR_sN ?_) | (with_reducible refine FR_sL _ _ _ ?_) | (with_reducible refine oc_el (P := fun (r : Nat × Int32 × St) => FR γ0 r.2.2) ?_ (fun b => ?_)) | (split)
theorem fw_X7_begin_70 {γ0 γ : St}  (h : FR γ0 γ) : FR γ0 (x_X7_begin_70 γ).2.2 := by
  unfold x_X7_begin_70
  repeat' first | (with_reducible exact h) | (with_reducible refine FR_sV _ _ _ _ rfl ?_) | (with_reducible refine FR_sN ?_) | (with_reducible refine FR_sL _ _ _ ?_) | (with_reducible refine oc_el (P := fun (r : Nat × Int32 × St) => FR γ0 r.2.2) ?_ (fun b => ?_)) | (split)
theorem fw_X7_begin_162 {γ0 γ : St}  (h : FR γ0 γ) : FR γ0 (x_X7_begin_162 γ).2.2 := by
  unfold x_X7_begin_162
  repeat' first | (with_reducible exact h) | (with_reducible refine FR_sV _ _ _ _ rfl ?_) | (with_reducible refine FR_sN ?_) | (with_reducible refine FR_sL _ _ _ ?_) | (with_reducible refine oc_el (P := fun (r : Nat × Int32 × St) => FR γ0 r.2.2) ?_ (fun b => ?_)) | (split)
theorem fw_X7_begin_136 {γ0 γ : St}  (h : FR γ0 γ) : FR γ0 (x_X7_begin_136 γ).2.2 := by
  unfold x_X7_begin_136
  repeat' first | (with_reducible exact h) | (with_reducible refine FR_sV _ _ _ _ rfl ?_) | (with_reducible refine FR_sN ?_) | (with_reducible refine FR_sL _ _ _ ?_) | (with_reducible refine oc_el (P := fun (r : Nat × Int32 × St) => FR γ0 r.2.2) ?_ (fun b => ?_)) | (split)
theorem fw_X7_begin_103 {γ0 γ : St}  (h : FR γ0 γ) : FR γ0 (x_X7_begin_103 γ).2.2 := by
  unfold x_X7_begin_103
  repeat' first | (with_reducible exact h) | (with_reducible refine FR_sV _ _ _ _ rfl ?_) | (with_reducible refine FR_sN ?_) | (with_reducible refine FR_sL _ _ _ ?_) | (with_reducible refine oc_el (P := fun (r : Nat × Int32 × St) => FR γ0 r.2.2) ?_ (fun b => ?_)) | (split)
theorem fw_X7_checkRoomInPhrase_28 {γ0 γ : St}  (h : FR γ0 γ) : FR γ0 (x_X7_checkRoomInPhrase_28 γ).2 := by
  unfold x_X7_checkRoomInPhrase_28
  repeat' first | (with_reducible exact h) | (with_reducible refine FR_sV _ _ _ _ rfl ?_) | (with_reducible refine FR_sN ?_) | (with_reducible refine FR_sL _ _ _ ?_) | (with_reducible refine oc_el (P := fun (r : Nat × St) => FR γ0 r.2) ?_ (fun b => ?_)) | (split)
theorem fw_X7_checkRoomInPhrase {γ0 γ : St} {y1 : Int32} (h : FR γ0 γ) : FR γ0 (x_X7_checkRoomInPhrase y1 γ).2 := by
  unfold x_X7_checkRoomInPhrase
  repeat' first | (with_reducible exact h) | (with_reducible refine FR_sV _ _ _ _ rfl ?_) | (with_reducible refine FR_sN ?_) | (with_reducible refine FR_sL _ _ _ ?_) | (with_reducible refine fw_X7_checkRoomInPhrase_28 ?_) | (with_reducible refine oc_el (P := fun (r : Nat × St) => FR γ0 r.2) ?_ (fun b => ?_)) | (split)
theorem fw_X7_act_27 {γ0 γ : St}  (h : FR γ0 γ) : FR γ0 (x_X7_act_27 γ).2.2 := by
  unfold x_X7_act_27
  repeat' first | (with_reducible exact h) | (with_reducible refine FR_sV _ _ _ _ rfl ?_) | (with_reducible refine FR_sN ?_) | (with_reducible refine FR_sL _ _ _ ?_) | (with_reducible refine oc_el (P := fun (r : Nat × Int32 × St) => FR γ0 r.2.2) ?_ (fun b => ?_)) | (split)
theorem fw_X7_act {γ0 γ : St} {y1 : Int32} {y2 : Int32} {y3 : Int32} (h : FR γ0 γ) : FR γ0 (x_X7_act y1 y2 y3 γ).2.2 := by
  unfold x_X7_act
  repeat' first | (with_reducible exact h) | (with_reducible refine FR_sV _ _ _ _ rfl ?_) | (with_reducible refine FR_sN ?_) | (with_reducible refine FR_sL _ _ _ ?_) | (with_reducible refine fw_X7_act_27 ?_) | (with_reducible refine fw_X7_checkRoomInPhrase ?_) | (with_reducible refine fw_X4_addAction ?_) | (with_reducible refine oc_el (P := fun (r : Nat × Int32 × St) => FR γ0 r.2.2) ?_ (fun b => ?_)) | (split)
theorem fw_X7_hit_17 {γ0 γ : St}  (h : FR γ0 γ) : FR γ0 (x_X7_hit_17 γ).2.2 := by
  unfold x_X7_hit_17
  repeat' first | (with_reducible exact h) | (with_reducible refine FR_sV _ _ _ _ rfl ?_) | (with_reducible refine FR_sN ?_) | (with_reducible refine FR_sL _ _ _ ?_) | (with_reducible refine oc_el (P := fun (r : Nat × Int32 × St) => FR γ0 r.2.2) ?_ (fun b => ?_)) | (split)
theorem fw_X7_hit_48 {γ0 γ : St}  (h : FR γ0 γ) : FR γ0 (x_X7_hit_48 γ).2.2 := by
  unfold x_X7_hit_48
  repeat' first | (with_reducible exact h) | (with_reducible refine FR_sV _ _ _ _ rfl ?_) | (with_reducible refine FR_sN ?_) | (with_reducible refine FR_sL _ _ _ ?_) | (with_reducible refine oc_el (P := fun (r : Nat × Int32 × St) => FR γ0 r.2.2) ?_ (fun b => ?_)) | (split)
theorem fw_X7_hit {γ0 γ : St} {y1 : Int32} {y2 : Int32} {y3 : Int32} {y4 : Int32} (h : FR γ0 γ) : FR γ0 (x_X7_hit y1 y2 y3 y4 γ).2.2 := by
  unfold x_X7_hit
  repeat' first | (with_reducible exact h) | (with_reducible refine FR_sV _ _ _ _ rfl ?_) | (with_reducible refine FR_sN ?_) | (with_reducible refine FR_sL _ _ _ ?_) | (with_reducible refine fw_X7_hit_17 ?_) | (with_reducible refine fw_X7_hit_48 ?_) | (with_reducible refine fw_X7_checkRoomInPhrase ?_) | (with_reducible refine fw_X4_addContact ?_) | (with_reducible refine oc_el (P := fun (r : Nat × Int32 × St) => FR γ0 r.2.2) ?_ (fun b => ?_)) | (split)
theorem fw_X7_boutOnPiste {γ0 γ : St}  (h : FR γ0 γ) : FR γ0 (x_X7_boutOnPiste γ).2.2 := by
  unfold x_X7_boutOnPiste
  repeat' first | (with_reducible exact h) | (with_reducible refine FR_sV _ _ _ _ rfl ?_) | (with_reducible refine FR_sN ?_) | (with_reducible refine FR_sL _ _ _ ?_) | (with_reducible refine oc_el (P := fun (r : Nat × Option Nat × St) => FR γ0 r.2.2) ?_ (fun b => ?_)) | (split)
theorem fw_X7_clearPisteIfOver_20 {γ0 γ : St} {n1 : Nat} (h : FR γ0 γ) : FR γ0 (x_X7_clearPisteIfOver_20 n1 γ) := by
  unfold x_X7_clearPisteIfOver_20
  repeat' first | (with_reducible exact h) | (with_reducible refine FR_sV _ _ _ _ rfl ?_) | (with_reducible refine FR_sN ?_) | (with_reducible refine FR_sL _ _ _ ?_) | (with_reducible refine fw_X5_enter ?_) | (with_reducible refine oc_el (P := fun (r : St) => FR γ0 r) ?_ (fun b => ?_)) | (split)
theorem fw_X7_clearPisteIfOver {γ0 γ : St} {z1 : Nat} (h : FR γ0 γ) : FR γ0 (x_X7_clearPisteIfOver z1 γ) := by
  unfold x_X7_clearPisteIfOver
  repeat' first | (with_reducible exact h) | (with_reducible refine FR_sV _ _ _ _ rfl ?_) | (with_reducible refine FR_sN ?_) | (with_reducible refine FR_sL _ _ _ ?_) | (with_reducible refine fw_X7_clearPisteIfOver_20 ?_) | (with_reducible refine fw_X4_empty ?_) | (with_reducible refine oc_el (P := fun (r : St) => FR γ0 r) ?_ (fun b => ?_)) | (split)
theorem fw_X7_because {γ0 γ : St} {y1 : Int32} {y2 : Int32} (h : FR γ0 γ) : FR γ0 (x_X7_because y1 y2 γ).2 := by
  unfold x_X7_because
  repeat' first | (with_reducible exact h) | (with_reducible refine FR_sV _ _ _ _ rfl ?_) | (with_reducible refine FR_sN ?_) | (with_reducible refine FR_sL _ _ _ ?_) | (with_reducible refine oc_el (P := fun (r : Int32 × St) => FR γ0 r.2) ?_ (fun b => ?_)) | (split)
theorem fw_X7_judgeByRight_122 {γ0 γ : St} {s0 : Int32} (h : FR γ0 γ) : FR γ0 (x_X7_judgeByRight_122 s0 γ).2 := by
  unfold x_X7_judgeByRight_122
  repeat' first | (with_reducible exact h) | (with_reducible refine FR_sV _ _ _ _ rfl ?_) | (with_reducible refine FR_sN ?_) | (with_reducible refine FR_sL _ _ _ ?_) | (with_reducible refine oc_el (P := fun (r : Int32 × St) => FR γ0 r.2) ?_ (fun b => ?_)) | (split)
theorem fw_X7_judgeByRight_100 {γ0 γ : St} {a3 : Int32} {a4 : Int32} (h : FR γ0 γ) : FR γ0 (x_X7_judgeByRight_100 a3 a4 γ).2 := by
  unfold x_X7_judgeByRight_100
  repeat' first | (with_reducible exact h) | (with_reducible refine FR_sV _ _ _ _ rfl ?_) | (with_reducible refine FR_sN ?_) | (with_reducible refine FR_sL _ _ _ ?_) | (with_reducible refine fw_X7_judgeByRight_122 ?_) | (with_reducible refine fw_X7_because ?_) | (with_reducible refine oc_el (P := fun (r : Int32 × St) => FR γ0 r.2) ?_ (fun b => ?_)) | (split)
theorem fw_X7_judgeByRight_45 {γ0 γ : St} {a3 : Int32} {a4 : Int32} {s0 : Int32} (h : FR γ0 γ) : FR γ0 (x_X7_judgeByRight_45 a3 a4 s0 γ).2 := by
  unfold x_X7_judgeByRight_45
  repeat' first | (with_reducible exact h) | (with_reducible refine FR_sV _ _ _ _ rfl ?_) | (with_reducible refine FR_sN ?_) | (with_reducible refine FR_sL _ _ _ ?_) | (with_reducible refine fw_X7_judgeByRight_100 ?_) | (with_reducible refine fw_X7_because ?_) | (with_reducible refine oc_el (P := fun (r : Int32 × St) => FR γ0 r.2) ?_ (fun b => ?_)) | (split)
theorem fw_X7_judgeByRight_34 {γ0 γ : St} {a1 : Int32} {a2 : Int32} {a3 : Int32} {s0 : Int32} (h : FR γ0 γ) : FR γ0 (x_X7_judgeByRight_34 a1 a2 a3 s0 γ).2 := by
  unfold x_X7_judgeByRight_34
  repeat' first | (with_reducible exact h) | (with_reducible refine FR_sV _ _ _ _ rfl ?_) | (with_reducible refine FR_sN ?_) | (with_reducible refine FR_sL _ _ _ ?_) | (with_reducible refine fw_X7_judgeByRight_45 ?_) | (with_reducible refine oc_el (P := fun (r : Int32 × St) => FR γ0 r.2) ?_ (fun b => ?_)) | (split)
theorem fw_X7_judgeByRight_12 {γ0 γ : St} {a1 : Int32} {a2 : Int32} {s0 : Int32} (h : FR γ0 γ) : FR γ0 (x_X7_judgeByRight_12 a1 a2 s0 γ).2 := by
  unfold x_X7_judgeByRight_12
  repeat' first | (with_reducible exact h) | (with_reducible refine FR_sV _ _ _ _ rfl ?_) | (with_reducible refine FR_sN ?_) | (with_reducible refine FR_sL _ _ _ ?_) | (with_reducible refine fw_X7_because ?_) | (with_reducible refine fw_X7_judgeByRight_34 ?_) | (with_reducible refine oc_el (P := fun (r : Int32 × St) => FR γ0 r.2) ?_ (fun b => ?_)) | (split)
theorem fw_X7_judgeByRight {γ0 γ : St} {y1 : Int32} {y2 : Int32} (h : FR γ0 γ) : FR γ0 (x_X7_judgeByRight y1 y2 γ).2 := by
  unfold x_X7_judgeByRight
  repeat' first | (with_reducible exact h) | (with_reducible refine FR_sV _ _ _ _ rfl ?_) | (with_reducible refine FR_sN ?_) | (with_reducible refine FR_sL _ _ _ ?_) | (with_reducible refine fw_X7_judgeByRight_12 ?_) | (with_reducible refine fw_X4_holderAhead ?_) | (with_reducible refine oc_el (P := fun (r : Int32 × St) => FR γ0 r.2) ?_ (fun b => ?_)) | (split)
theorem fw_X7_judgeFor_93 {γ0 γ : St} {s0 : Int32} (h : FR γ0 γ) : FR γ0 (x_X7_judgeFor_93 s0 γ).2 := by
  unfold x_X7_judgeFor_93
  repeat' first | (with_reducible exact h) | (with_reducible refine FR_sV _ _ _ _ rfl ?_) | (with_reducible refine FR_sN ?_) | (with_reducible refine FR_sL _ _ _ ?_) | (with_reducible refine oc_el (P := fun (r : Int32 × St) => FR γ0 r.2) ?_ (fun b => ?_)) | (split)
theorem fw_X7_judgeFor_87 {γ0 γ : St} {s0 : Int32} {s1 : Int32} (h : FR γ0 γ) : FR γ0 (x_X7_judgeFor_87 s0 s1 γ).2 := by
  unfold x_X7_judgeFor_87
  repeat' first | (with_reducible exact h) | (with_reducible refine FR_sV _ _ _ _ rfl ?_) | (with_reducible refine FR_sN ?_) | (with_reducible refine FR_sL _ _ _ ?_) | (with_reducible refine fw_X7_judgeFor_93 ?_) | (with_reducible refine fw_X7_because ?_) | (with_reducible refine oc_el (P := fun (r : Int32 × St) => FR γ0 r.2) ?_ (fun b => ?_)) | (split)
theorem fw_X7_judgeFor_61 {γ0 γ : St} {a3 : Int32} {s0 : Int32} (h : FR γ0 γ) : FR γ0 (x_X7_judgeFor_61 a3 s0 γ).2 := by
  unfold x_X7_judgeFor_61
  repeat' first | (with_reducible exact h) | (with_reducible refine FR_sV _ _ _ _ rfl ?_) | (with_reducible refine FR_sN ?_) | (with_reducible refine FR_sL _ _ _ ?_) | (with_reducible refine fw_X7_judgeFor_87 ?_) | (with_reducible refine fw_X7_because ?_) | (with_reducible refine oc_el (P := fun (r : Int32 × St) => FR γ0 r.2) ?_ (fun b => ?_)) | (split)
theorem fw_X7_judgeFor_50 {γ0 γ : St} {a3 : Int32} {a4 : Int32} (h : FR γ0 γ) : FR γ0 (x_X7_judgeFor_50 a3 a4 γ).2 := by
  unfold x_X7_judgeFor_50
  repeat' first | (with_reducible exact h) | (with_reducible refine FR_sV _ _ _ _ rfl ?_) | (with_reducible refine FR_sN ?_) | (with_reducible refine FR_sL _ _ _ ?_) | (with_reducible refine fw_X7_judgeFor_61 ?_) | (with_reducible refine oc_el (P := fun (r : Int32 × St) => FR γ0 r.2) ?_ (fun b => ?_)) | (split)
theorem fw_X7_judgeFor_119 {γ0 γ : St} {s0 : Int32} {s1 : Int32} (h : FR γ0 γ) : FR γ0 (x_X7_judgeFor_119 s0 s1 γ).2 := by
  unfold x_X7_judgeFor_119
  repeat' first | (with_reducible exact h) | (with_reducible refine FR_sV _ _ _ _ rfl ?_) | (with_reducible refine FR_sN ?_) | (with_reducible refine FR_sL _ _ _ ?_) | (with_reducible refine fw_X7_because ?_) | (with_reducible refine oc_el (P := fun (r : Int32 × St) => FR γ0 r.2) ?_ (fun b => ?_)) | (split)
theorem fw_X7_judgeFor_39 {γ0 γ : St} {a1 : Int32} {a2 : Int32} {a3 : Int32} {a4 : Int32} (h : FR γ0 γ) : FR γ0 (x_X7_judgeFor_39 a1 a2 a3 a4 γ).2 := by
  unfold x_X7_judgeFor_39
  repeat' first | (with_reducible exact h) | (with_reducible refine FR_sV _ _ _ _ rfl ?_) | (with_reducible refine FR_sN ?_) | (with_reducible refine FR_sL _ _ _ ?_) | (with_reducible refine fw_X7_judgeFor_50 ?_) | (with_reducible refine fw_X7_judgeFor_119 ?_) | (with_reducible refine fw_X7_judgeByRight ?_) | (with_reducible refine oc_el (P := fun (r : Int32 × St) => FR γ0 r.2) ?_ (fun b => ?_)) | (split)
theorem fw_X7_judgeFor {γ0 γ : St} {y1 : Int32} {y2 : Int32} (h : FR γ0 γ) : FR γ0 (x_X7_judgeFor y1 y2 γ).2 := by
  unfold x_X7_judgeFor
  repeat' first | (with_reducible exact h) | (with_reducible refine FR_sV _ _ _ _ rfl ?_) | (with_reducible refine FR_sN ?_) | (with_reducible refine FR_sL _ _ _ ?_) | (with_reducible refine fw_X7_because ?_) | (with_reducible refine fw_X7_judgeFor_39 ?_) | (with_reducible refine oc_el (P := fun (r : Int32 × St) => FR γ0 r.2) ?_ (fun b => ?_)) | (split)
theorem fw_X7_judge_35 {γ0 γ : St} {a2 : Int32} (h : FR γ0 γ) : FR γ0 (x_X7_judge_35 a2 γ).2.2 := by
  unfold x_X7_judge_35
  repeat' first | (with_reducible exact h) | (with_reducible refine FR_sV _ _ _ _ rfl ?_) | (with_reducible refine FR_sN ?_) | (with_reducible refine FR_sL _ _ _ ?_) | (with_reducible refine oc_el (P := fun (r : Nat × Int32 × St) => FR γ0 r.2.2) ?_ (fun b => ?_)) | (split)
theorem fw_X7_judge_30 {γ0 γ : St} {n1 : Nat} {a2 : Int32} (h : FR γ0 γ) : FR γ0 (x_X7_judge_30 n1 a2 γ).2.2 := by
  unfold x_X7_judge_30
  repeat' first | (with_reducible exact h) | (with_reducible refine FR_sV _ _ _ _ rfl ?_) | (with_reducible refine FR_sN ?_) | (with_reducible refine FR_sL _ _ _ ?_) | (with_reducible refine fw_X7_judge_35 ?_) | (with_reducible refine fw_X7_clearPisteIfOver ?_) | (with_reducible refine oc_el (P := fun (r : Nat × Int32 × St) => FR γ0 r.2.2) ?_ (fun b => ?_)) | (split)
theorem fw_X7_judge_23 {γ0 γ : St} {n1 : Nat} {a2 : Int32} (h : FR γ0 γ) : FR γ0 (x_X7_judge_23 n1 a2 γ).2.2 := by
  unfold x_X7_judge_23
  repeat' first | (with_reducible exact h) | (with_reducible refine FR_sV _ _ _ _ rfl ?_) | (with_reducible refine FR_sN ?_) | (with_reducible refine FR_sL _ _ _ ?_) | (with_reducible refine fw_X7_judge_30 ?_) | (with_reducible refine fw_X4_empty ?_) | (with_reducible refine oc_el (P := fun (r : Nat × Int32 × St) => FR γ0 r.2.2) ?_ (fun b => ?_)) | (split)
theorem fw_X7_judge_17 {γ0 γ : St} {n1 : Nat} {s0 : Int32} (h : FR γ0 γ) : FR γ0 (x_X7_judge_17 n1 s0 γ).2.2 := by
  unfold x_X7_judge_17
  repeat' first | (with_reducible exact h) | (with_reducible refine FR_sV _ _ _ _ rfl ?_) | (with_reducible refine FR_sN ?_) | (with_reducible refine FR_sL _ _ _ ?_) | (with_reducible refine fw_X7_judge_23 ?_) | (with_reducible refine fw_X0_giveTouches ?_) | (with_reducible refine oc_el (P := fun (r : Nat × Int32 × St) => FR γ0 r.2.2) ?_ (fun b => ?_)) | (split)
theorem fw_X7_judge {γ0 γ : St}  (h : FR γ0 γ) : FR γ0 (x_X7_judge γ).2.2 := by
  unfold x_X7_judge
  repeat' first | (with_reducible exact h) | (with_reducible refine FR_sV _ _ _ _ rfl ?_) | (with_reducible refine FR_sN ?_) | (with_reducible refine FR_sL _ _ _ ?_) | (with_reducible refine fw_X7_boutOnPiste ?_) | (with_reducible refine fw_X7_judge_17 ?_) | (with_reducible refine fw_X7_judgeFor ?_) | (with_reducible refine oc_el (P := fun (r : Nat × Int32 × St) => FR γ0 r.2.2) ?_ (fun b => ?_)) | (split)
theorem fw_X7_card_16 {γ0 γ : St}  (h : FR γ0 γ) : FR γ0 (x_X7_card_16 γ).2.2 := by
  unfold x_X7_card_16
  repeat' first | (with_reducible exact h) | (with_reducible refine FR_sV _ _ _ _ rfl ?_) | (with_reducible refine FR_sN ?_) | (with_reducible refine FR_sL _ _ _ ?_) | (with_reducible refine oc_el (P := fun (r : Nat × Int32 × St) => FR γ0 r.2.2) ?_ (fun b => ?_)) | (split)
theorem fw_X7_card_44 {γ0 γ : St} {a4 : Int32} (h : FR γ0 γ) : FR γ0 (x_X7_card_44 a4 γ).2.2 := by
  unfold x_X7_card_44
  repeat' first | (with_reducible exact h) | (with_reducible refine FR_sV _ _ _ _ rfl ?_) | (with_reducible refine FR_sN ?_) | (with_reducible refine FR_sL _ _ _ ?_) | (with_reducible refine oc_el (P := fun (r : Nat × Int32 × St) => FR γ0 r.2.2) ?_ (fun b => ?_)) | (split)
theorem fw_X7_card_37 {γ0 γ : St} {n3 : Nat} {s0 : Int32} (h : FR γ0 γ) : FR γ0 (x_X7_card_37 n3 s0 γ).2.2 := by
  unfold x_X7_card_37
  repeat' first | (with_reducible exact h) | (with_reducible refine FR_sV _ _ _ _ rfl ?_) | (with_reducible refine FR_sN ?_) | (with_reducible refine FR_sL _ _ _ ?_) | (with_reducible refine fw_X7_card_44 ?_) | (with_reducible refine fw_X7_clearPisteIfOver ?_) | (with_reducible refine oc_el (P := fun (r : Nat × Int32 × St) => FR γ0 r.2.2) ?_ (fun b => ?_)) | (split)
theorem fw_X7_card {γ0 γ : St} {y1 : Int32} {y2 : Int32} (h : FR γ0 γ) : FR γ0 (x_X7_card y1 y2 γ).2.2 := by
  unfold x_X7_card
  repeat' first | (with_reducible exact h) | (with_reducible refine FR_sV _ _ _ _ rfl ?_) | (with_reducible refine FR_sN ?_) | (with_reducible refine FR_sL _ _ _ ?_) | (with_reducible refine fw_X7_card_16 ?_) | (with_reducible refine fw_X7_boutOnPiste ?_) | (with_reducible refine fw_X7_card_37 ?_) | (with_reducible refine fw_X0_giveCard ?_) | (with_reducible refine oc_el (P := fun (r : Nat × Int32 × St) => FR γ0 r.2.2) ?_ (fun b => ?_)) | (split)
theorem fw_X7_clock_59 {γ0 γ : St} {n2 : Nat} (h : FR γ0 γ) : FR γ0 (x_X7_clock_59 n2 γ).2.2 := by
  unfold x_X7_clock_59
  repeat' first | (with_reducible exact h) | (with_reducible refine FR_sV _ _ _ _ rfl ?_) | (with_reducible refine FR_sN ?_) | (with_reducible refine FR_sL _ _ _ ?_) | (with_reducible refine oc_el (P := fun (r : Nat × Int32 × St) => FR γ0 r.2.2) ?_ (fun b => ?_)) | (split)
theorem fw_X7_clock_54 {γ0 γ : St} {q2 : Option Nat} (h : FR γ0 γ) : FR γ0 (x_X7_clock_54 q2 γ).2.2 := by
  unfold x_X7_clock_54
  repeat' first | (with_reducible exact h) | (with_reducible refine FR_sV _ _ _ _ rfl ?_) | (with_reducible refine FR_sN ?_) | (with_reducible refine FR_sL _ _ _ ?_) | (with_reducible refine fw_X7_clock_59 ?_) | (with_reducible refine fw_X7_clearPisteIfOver ?_) | (with_reducible refine oc_el (P := fun (r : Nat × Int32 × St) => FR γ0 r.2.2) ?_ (fun b => ?_)) | (split)
theorem fw_X7_clock_48 {γ0 γ : St} {K28 : Int32 → (Option Nat) → Int32 → St → Nat × Int32 × St} {a1 : Int32} {n2 : Nat} {a3 : Int32} (hK28 : ∀ (v0 : Int32) (v1 : (Option Nat)) (v2 : Int32) (γ : St), FR γ0 γ → FR γ0 (K28 v0 v1 v2 γ).2.2) (h : FR γ0 γ) : FR γ0 (x_X7_clock_48 K28 a1 n2 a3 γ).2.2 := by
  unfold x_X7_clock_48
  repeat' first | (with_reducible exact h) | (with_reducible refine FR_sV _ _ _ _ rfl ?_) | (with_reducible refine FR_sN ?_) | (with_reducible refine FR_sL _ _ _ ?_) | (with_reducible refine hK28 _ _ _ _ ?_) | (with_reducible refine oc_el (P := fun (r : Nat × Int32 × St) => FR γ0 r.2.2) ?_ (fun b => ?_)) | (split)
theorem fw_X7_clock_28_r {γ0 : St}  : ∀ k : Nat, ∀ (a0 : Int32) (a1 : Option Nat) (a2 : Int32) (γ : St), FR γ0 γ → FR γ0 (x_X7_clock_28 k a0 a1 a2 γ).2.2
  | 0 => by intro a0 a1 a2 γ h; exact h
  | k + 1 => by
    have hr := fw_X7_clock_28_r (γ0 := γ0) k
    intro a0 a1 a2 γ h
    unfold x_X7_clock_28
    repeat' first | (with_reducible exact h) | (with_reducible refine hr _ _ _ _ ?_) | (with_reducible refine FR_sV _ _ _ _ rfl ?_) | (with_reducible refine FR_sN ?_) | (with_reducible refine FR_sL _ _ _ ?_) | (with_reducible refine fw_X7_clock_54 ?_) | (with_reducible refine fw_X7_clock_48 (by assumption) ?_) | (with_reducible refine fw_X0_passSecond ?_) | (with_reducible refine oc_el (P := fun (r : Nat × Int32 × St) => FR γ0 r.2.2) ?_ (fun b => ?_)) | (split)
theorem fw_X7_clock_28 {γ0 γ : St}  {k : Nat} {a0 : Int32} {a1 : Option Nat} {a2 : Int32} (h : FR γ0 γ) : FR γ0 (x_X7_clock_28 k a0 a1 a2 γ).2.2 := fw_X7_clock_28_r k a0 a1 a2 γ h
theorem fw_X7_clock {γ0 γ : St} {y1 : Int32} (h : FR γ0 γ) : FR γ0 (x_X7_clock y1 γ).2.2 := by
  unfold x_X7_clock
  repeat' first | (with_reducible exact h) | (with_reducible refine FR_sV _ _ _ _ rfl ?_) | (with_reducible refine FR_sN ?_) | (with_reducible refine FR_sL _ _ _ ?_) | (with_reducible refine fw_X7_boutOnPiste ?_) | (with_reducible refine fw_X7_clock_28 ?_) | (with_reducible refine oc_el (P := fun (r : Nat × Int32 × St) => FR γ0 r.2.2) ?_ (fun b => ?_)) | (split)
theorem fw_X7_end_18 {γ0 γ : St} {n1 : Nat} (h : FR γ0 γ) : FR γ0 (x_X7_end_18 n1 γ).2.2 := by
  unfold x_X7_end_18
  repeat' first | (with_reducible exact h) | (with_reducible refine FR_sV _ _ _ _ rfl ?_) | (with_reducible refine FR_sN ?_) | (with_reducible refine FR_sL _ _ _ ?_) | (with_reducible refine oc_el (P := fun (r : Nat × Int32 × St) => FR γ0 r.2.2) ?_ (fun b => ?_)) | (split)
theorem fw_X7_end_13 {γ0 γ : St} {n1 : Nat} (h : FR γ0 γ) : FR γ0 (x_X7_end_13 n1 γ).2.2 := by
  unfold x_X7_end_13
  repeat' first | (with_reducible exact h) | (with_reducible refine FR_sV _ _ _ _ rfl ?_) | (with_reducible refine FR_sN ?_) | (with_reducible refine FR_sL _ _ _ ?_) | (with_reducible refine fw_X7_end_18 ?_) | (with_reducible refine fw_X7_clearPisteIfOver ?_) | (with_reducible refine oc_el (P := fun (r : Nat × Int32 × St) => FR γ0 r.2.2) ?_ (fun b => ?_)) | (split)
theorem fw_X7_end {γ0 γ : St}  (h : FR γ0 γ) : FR γ0 (x_X7_end γ).2.2 := by
  unfold x_X7_end
  repeat' first | (with_reducible exact h) | (with_reducible refine FR_sV _ _ _ _ rfl ?_) | (with_reducible refine FR_sN ?_) | (with_reducible refine FR_sL _ _ _ ?_) | (with_reducible refine fw_X7_boutOnPiste ?_) | (with_reducible refine fw_X7_end_13 ?_) | (with_reducible refine fw_X0_finish ?_) | (with_reducible refine oc_el (P := fun (r : Nat × Int32 × St) => FR γ0 r.2.2) ?_ (fun b => ?_)) | (split)
theorem fw_X7_seed {γ0 γ : St} {y1 : Int32} (h : FR γ0 γ) : FR γ0 (x_X7_seed y1 γ).2 := by
  unfold x_X7_seed
  repeat' first | (with_reducible exact h) | (with_reducible refine FR_sV _ _ _ _ rfl ?_) | (with_reducible refine FR_sN ?_) | (with_reducible refine FR_sL _ _ _ ?_) | (with_reducible refine oc_el (P := fun (r : Nat × St) => FR γ0 r.2) ?_ (fun b => ?_)) | (split)
theorem fw_X7_pool_22 {γ0 γ : St}  (h : FR γ0 γ) : FR γ0 (x_X7_pool_22 γ).2.2 := by
  unfold x_X7_pool_22
  repeat' first | (with_reducible exact h) | (with_reducible refine FR_sV _ _ _ _ rfl ?_) | (with_reducible refine FR_sN ?_) | (with_reducible refine FR_sL _ _ _ ?_) | (with_reducible refine oc_el (P := fun (r : Nat × Int32 × St) => FR γ0 r.2.2) ?_ (fun b => ?_)) | (split)
theorem fw_X7_poolWith_18 {γ0 γ : St}  (h : FR γ0 γ) : FR γ0 (x_X7_poolWith_18 γ).2.2 := by
  unfold x_X7_poolWith_18
  repeat' first | (with_reducible exact h) | (with_reducible refine FR_sV _ _ _ _ rfl ?_) | (with_reducible refine FR_sN ?_) | (with_reducible refine FR_sL _ _ _ ?_) | (with_reducible refine oc_el (P := fun (r : Nat × Nat × St) => FR γ0 r.2.2) ?_ (fun b => ?_)) | (split)
theorem fw_X7_poolWith {γ0 γ : St} {y1 : Int32} {y2 : Int32} (h : FR γ0 γ) : FR γ0 (x_X7_poolWith y1 y2 γ).2.2 := by
  unfold x_X7_poolWith
  repeat' first | (with_reducible exact h) | (with_reducible refine FR_sV _ _ _ _ rfl ?_) | (with_reducible refine FR_sN ?_) | (with_reducible refine FR_sL _ _ _ ?_) | (with_reducible refine fw_X7_poolWith_18 ?_) | (with_reducible refine oc_el (P := fun (r : Nat × Nat × St) => FR γ0 r.2.2) ?_ (fun b => ?_)) | (split)
theorem fw_X7_withdraw_24 {γ0 γ : St}  (h : FR γ0 γ) : FR γ0 (x_X7_withdraw_24 γ).2.2 := by
  unfold x_X7_withdraw_24
  repeat' first | (with_reducible exact h) | (with_reducible refine FR_sV _ _ _ _ rfl ?_) | (with_reducible refine FR_sN ?_) | (with_reducible refine FR_sL _ _ _ ?_) | (with_reducible refine oc_el (P := fun (r : Nat × Int32 × St) => FR γ0 r.2.2) ?_ (fun b => ?_)) | (split)
theorem fw_X7_withdraw_101 {γ0 γ : St} {a4 : Int32} (h : FR γ0 γ) : FR γ0 (x_X7_withdraw_101 a4 γ).2.2 := by
  unfold x_X7_withdraw_101
  repeat' first | (with_reducible exact h) | (with_reducible refine FR_sV _ _ _ _ rfl ?_) | (with_reducible refine FR_sN ?_) | (with_reducible refine FR_sL _ _ _ ?_) | (with_reducible refine oc_el (P := fun (r : Nat × Int32 × St) => FR γ0 r.2.2) ?_ (fun b => ?_)) | (split)
theorem fw_X7_withdraw_90 {γ0 γ : St} {K40 : Int32 → Nat → Int32 → Int32 → St → Nat × Int32 × St} {a2 : Int32} {n3 : Nat} {a4 : Int32} {a5 : Int32} (hK40 : ∀ (v0 : Int32) (v1 : Nat) (v2 : Int32) (v3 : Int32) (γ : St), FR γ0 γ → FR γ0 (K40 v0 v1 v2 v3 γ).2.2) (h : FR γ0 γ) : FR γ0 (x_X7_withdraw_90 K40 a2 n3 a4 a5 γ).2.2 := by
  unfold x_X7_withdraw_90
  repeat' first | (with_reducible exact h) | (with_reducible refine FR_sV _ _ _ _ rfl ?_) | (with_reducible refine FR_sN ?_) | (with_reducible refine FR_sL _ _ _ ?_) | (with_reducible refine hK40 _ _ _ _ _ ?_) | (with_reducible refine oc_el (P := fun (r : Nat × Int32 × St) => FR γ0 r.2.2) ?_ (fun b => ?_)) | (split)
theorem fw_X7_withdraw_87 {γ0 γ : St} {K40 : Int32 → Nat → Int32 → Int32 → St → Nat × Int32 × St} {a2 : Int32} {n3 : Nat} {a4 : Int32} {a5 : Int32} (hK40 : ∀ (v0 : Int32) (v1 : Nat) (v2 : Int32) (v3 : Int32) (γ : St), FR γ0 γ → FR γ0 (K40 v0 v1 v2 v3 γ).2.2) (h : FR γ0 γ) : FR γ0 (x_X7_withdraw_87 K40 a2 n3 a4 a5 γ).2.2 := by
  unfold x_X7_withdraw_87
  repeat' first | (with_reducible exact h) | (with_reducible refine FR_sV _ _ _ _ rfl ?_) | (with_reducible refine FR_sN ?_) | (with_reducible refine FR_sL _ _ _ ?_) | (with_reducible refine fw_X7_withdraw_90 (by assumption) ?_) | (with_reducible refine hK40 _ _ _ _ _ ?_) | (with_reducible refine oc_el (P := fun (r : Nat × Int32 × St) => FR γ0 r.2.2) ?_ (fun b => ?_)) | (split)
theorem fw_X7_withdraw_40_r {γ0 : St}  : ∀ k : Nat, ∀ (a0 : Int32) (a1 : Nat) (a2 : Int32) (a3 : Int32) (γ : St), FR γ0 γ → FR γ0 (x_X7_withdraw_40 k a0 a1 a2 a3 γ).2.2
  | 0 => by intro a0 a1 a2 a3 γ h; exact h
  | k + 1 => by
    have hr := fw_X7_withdraw_40_r (γ0 := γ0) k
    intro a0 a1 a2 a3 γ h
    unfold x_X7_withdraw_40
    repeat' first | (with_reducible exact h) | (with_reducible refine hr _ _ _ _ _ ?_) | (with_reducible refine FR_sV _ _ _ _ rfl ?_) | (with_reducible refine FR_sN ?_) | (with_reducible refine FR_sL _ _ _ ?_) | (with_reducible refine fw_X7_withdraw_101 ?_) | (with_reducible refine fw_X5_markWithdrawn ?_) | (with_reducible refine fw_X7_withdraw_90 (by assumption) ?_) | (with_reducible refine fw_X7_withdraw_87 (by assumption) ?_) | (with_reducible refine fw_X5_enter ?_) | (with_reducible refine oc_el (P := fun (r : Nat × Int32 × St) => FR γ0 r.2.2) ?_ (fun b => ?_)) | (split)
theorem fw_X7_withdraw_40 {γ0 γ : St}  {k : Nat} {a0 : Int32} {a1 : Nat} {a2 : Int32} {a3 : Int32} (h : FR γ0 γ) : FR γ0 (x_X7_withdraw_40 k a0 a1 a2 a3 γ).2.2 := fw_X7_withdraw_40_r k a0 a1 a2 a3 γ h
theorem fw_X7_withdraw {γ0 γ : St} {y1 : Int32} {y2 : Int32} (h : FR γ0 γ) : FR γ0 (x_X7_withdraw y1 y2 γ).2.2 := by
  unfold x_X7_withdraw
  repeat' first | (with_reducible exact h) | (with_reducible refine FR_sV _ _ _ _ rfl ?_) | (with_reducible refine FR_sN ?_) | (with_reducible refine FR_sL _ _ _ ?_) | (with_reducible refine fw_X7_poolWith ?_) | (with_reducible refine fw_X7_withdraw_40 ?_) | (with_reducible refine fw_X7_withdraw_24 ?_) | (with_reducible refine oc_el (P := fun (r : Nat × Int32 × St) => FR γ0 r.2.2) ?_ (fun b => ?_)) | (split)
theorem fw_X7_tableau_46 {γ0 γ : St}  (h : FR γ0 γ) : FR γ0 (x_X7_tableau_46 γ).2.2 := by
  unfold x_X7_tableau_46
  repeat' first | (with_reducible exact h) | (with_reducible refine FR_sV _ _ _ _ rfl ?_) | (with_reducible refine FR_sN ?_) | (with_reducible refine FR_sL _ _ _ ?_) | (with_reducible refine oc_el (P := fun (r : Nat × Int32 × St) => FR γ0 r.2.2) ?_ (fun b => ?_)) | (split)
theorem fw_X7_tableau {γ0 γ : St} {y1 : Int32} (h : FR γ0 γ) : FR γ0 (x_X7_tableau y1 γ).2.2 := by
  unfold x_X7_tableau
  repeat' first | (with_reducible exact h) | (with_reducible refine FR_sV _ _ _ _ rfl ?_) | (with_reducible refine FR_sN ?_) | (with_reducible refine FR_sL _ _ _ ?_) | (with_reducible refine fw_X7_tableau_46 ?_) | (with_reducible refine fw_X1_makeFrom ?_) | (with_reducible refine oc_el (P := fun (r : Nat × Int32 × St) => FR γ0 r.2.2) ?_ (fun b => ?_)) | (split)
theorem fw_X7_checkMatch {γ0 γ : St} {y1 : Int32} {y2 : Int32} (h : FR γ0 γ) : FR γ0 (x_X7_checkMatch y1 y2 γ).2 := by
  unfold x_X7_checkMatch
  repeat' first | (with_reducible exact h) | (with_reducible refine FR_sV _ _ _ _ rfl ?_) | (with_reducible refine FR_sN ?_) | (with_reducible refine FR_sL _ _ _ ?_) | (with_reducible refine oc_el (P := fun (r : Nat × St) => FR γ0 r.2) ?_ (fun b => ?_)) | (split)
theorem fw_X7_wins {γ0 γ : St} {y1 : Int32} {y2 : Int32} {y3 : Int32} (h : FR γ0 γ) : FR γ0 (x_X7_wins y1 y2 y3 γ).2.2 := by
  unfold x_X7_wins
  repeat' first | (with_reducible exact h) | (with_reducible refine FR_sV _ _ _ _ rfl ?_) | (with_reducible refine FR_sN ?_) | (with_reducible refine FR_sL _ _ _ ?_) | (with_reducible refine fw_X7_checkMatch ?_) | (with_reducible refine fw_X1_settle ?_) | (with_reducible refine oc_el (P := fun (r : Nat × Int32 × St) => FR γ0 r.2.2) ?_ (fun b => ?_)) | (split)
theorem fw_X7_lamp {γ0 γ : St} {y1 : Int32} (h : FR γ0 γ) : FR γ0 (x_X7_lamp y1 γ).2.2 := by
  unfold x_X7_lamp
  repeat' first | (with_reducible exact h) | (with_reducible refine FR_sV _ _ _ _ rfl ?_) | (with_reducible refine FR_sN ?_) | (with_reducible refine FR_sL _ _ _ ?_) | (with_reducible refine oc_el (P := fun (r : Nat × Int32 × St) => FR γ0 r.2.2) ?_ (fun b => ?_)) | (split)
theorem fw_X7_holder {γ0 γ : St}  (h : FR γ0 γ) : FR γ0 (x_X7_holder γ).2 := by
  unfold x_X7_holder
  repeat' first | (with_reducible exact h) | (with_reducible refine FR_sV _ _ _ _ rfl ?_) | (with_reducible refine FR_sN ?_) | (with_reducible refine FR_sL _ _ _ ?_) | (with_reducible refine fw_X4_holderAhead ?_) | (with_reducible refine oc_el (P := fun (r : Int32 × St) => FR γ0 r.2) ?_ (fun b => ?_)) | (split)
theorem fw_X7_ofBout {γ0 γ : St} {y1 : Int32} {y2 : Int32} (h : FR γ0 γ) : FR γ0 (x_X7_ofBout y1 y2 γ).2.2 := by
  unfold x_X7_ofBout
  repeat' first | (with_reducible exact h) | (with_reducible refine FR_sV _ _ _ _ rfl ?_) | (with_reducible refine FR_sN ?_) | (with_reducible refine FR_sL _ _ _ ?_) | (with_reducible refine oc_el (P := fun (r : Nat × Int32 × St) => FR γ0 r.2.2) ?_ (fun b => ?_)) | (split)
theorem fw_X7_checkOfPool {γ0 γ : St} {y0 : Int32} (h : FR γ0 γ) : FR γ0 (x_X7_checkOfPool y0 γ).2 := by
  unfold x_X7_checkOfPool
  repeat' first | (with_reducible exact h) | (with_reducible refine FR_sV _ _ _ _ rfl ?_) | (with_reducible refine FR_sN ?_) | (with_reducible refine FR_sL _ _ _ ?_) | (with_reducible refine oc_el (P := fun (r : Nat × St) => FR γ0 r.2) ?_ (fun b => ?_)) | (split)
theorem fw_X7_ofPool {γ0 γ : St} {y1 : Int32} {y2 : Int32} {y3 : Int32} (h : FR γ0 γ) : FR γ0 (x_X7_ofPool y1 y2 y3 γ).2.2 := by
  unfold x_X7_ofPool
  repeat' first | (with_reducible exact h) | (with_reducible refine FR_sV _ _ _ _ rfl ?_) | (with_reducible refine FR_sN ?_) | (with_reducible refine FR_sL _ _ _ ?_) | (with_reducible refine fw_X7_poolWith ?_) | (with_reducible refine fw_X7_checkOfPool ?_) | (with_reducible refine oc_el (P := fun (r : Nat × Int32 × St) => FR γ0 r.2.2) ?_ (fun b => ?_)) | (split)
theorem fw_X7_ofPoolAnew_76 {γ0 γ : St} {K18 : Int32 → Int32 → Nat → Int32 → Int32 → St → Nat × Int32 × St} {a2 : Int32} {a3 : Int32} {n4 : Nat} {a5 : Int32} {a6 : Int32} (hK18 : ∀ (v0 : Int32) (v1 : Int32) (v2 : Nat) (v3 : Int32) (v4 : Int32) (γ : St), FR γ0 γ → FR γ0 (K18 v0 v1 v2 v3 v4 γ).2.2) (h : FR γ0 γ) : FR γ0 (x_X7_ofPoolAnew_76 K18 a2 a3 n4 a5 a6 γ).2.2 := by
  unfold x_X7_ofPoolAnew_76
  repeat' first | (with_reducible exact h) | (with_reducible refine FR_sV _ _ _ _ rfl ?_) | (with_reducible refine FR_sN ?_) | (with_reducible refine FR_sL _ _ _ ?_) | (with_reducible refine hK18 _ _ _ _ _ _ ?_) | (with_reducible refine oc_el (P := fun (r : Nat × Int32 × St) => FR γ0 r.2.2) ?_ (fun b => ?_)) | (split)
theorem fw_X7_ofPoolAnew_18_r {γ0 : St}  : ∀ k : Nat, ∀ (a0 : Int32) (a1 : Int32) (a2 : Nat) (a3 : Int32) (a4 : Int32) (γ : St), FR γ0 γ → FR γ0 (x_X7_ofPoolAnew_18 k a0 a1 a2 a3 a4 γ).2.2
  | 0 => by intro a0 a1 a2 a3 a4 γ h; exact h
  | k + 1 => by
    have hr := fw_X7_ofPoolAnew_18_r (γ0 := γ0) k
    intro a0 a1 a2 a3 a4 γ h
    unfold x_X7_ofPoolAnew_18
    repeat' first | (with_reducible exact h) | (with_reducible refine hr _ _ _ _ _ _ ?_) | (with_reducible refine FR_sV _ _ _ _ rfl ?_) | (with_reducible refine FR_sN ?_) | (with_reducible refine FR_sL _ _ _ ?_) | (with_reducible refine fw_X7_ofPoolAnew_76 (by assumption) ?_) | (with_reducible refine oc_el (P := fun (r : Nat × Int32 × St) => FR γ0 r.2.2) ?_ (fun b => ?_)) | (split)
theorem fw_X7_ofPoolAnew_18 {γ0 γ : St}  {k : Nat} {a0 : Int32} {a1 : Int32} {a2 : Nat} {a3 : Int32} {a4 : Int32} (h : FR γ0 γ) : FR γ0 (x_X7_ofPoolAnew_18 k a0 a1 a2 a3 a4 γ).2.2 := fw_X7_ofPoolAnew_18_r k a0 a1 a2 a3 a4 γ h
theorem fw_X7_ofPoolAnew {γ0 γ : St} {y1 : Int32} {y2 : Int32} {y3 : Int32} (h : FR γ0 γ) : FR γ0 (x_X7_ofPoolAnew y1 y2 y3 γ).2.2 := by
  unfold x_X7_ofPoolAnew
  repeat' first | (with_reducible exact h) | (with_reducible refine FR_sV _ _ _ _ rfl ?_) | (with_reducible refine FR_sN ?_) | (with_reducible refine FR_sL _ _ _ ?_) | (with_reducible refine fw_X7_poolWith ?_) | (with_reducible refine fw_X7_checkOfPool ?_) | (with_reducible refine fw_X7_ofPoolAnew_18 ?_) | (with_reducible refine oc_el (P := fun (r : Nat × Int32 × St) => FR γ0 r.2.2) ?_ (fun b => ?_)) | (split)
theorem fw_X7_rank_14 {γ0 γ : St}  (h : FR γ0 γ) : FR γ0 (x_X7_rank_14 γ).2.2 := by
  unfold x_X7_rank_14
  repeat' first | (with_reducible exact h) | (with_reducible refine FR_sV _ _ _ _ rfl ?_) | (with_reducible refine FR_sN ?_) | (with_reducible refine FR_sL _ _ _ ?_) | (with_reducible refine oc_el (P := fun (r : Nat × Int32 × St) => FR γ0 r.2.2) ?_ (fun b => ?_)) | (split)
theorem fw_X7_rank_29 {γ0 γ : St} {a2 : Int32} {n3 : Nat} (h : FR γ0 γ) : FR γ0 (x_X7_rank_29 a2 n3 γ).2.2 := by
  unfold x_X7_rank_29
  repeat' first | (with_reducible exact h) | (with_reducible refine FR_sV _ _ _ _ rfl ?_) | (with_reducible refine FR_sN ?_) | (with_reducible refine FR_sL _ _ _ ?_) | (with_reducible refine oc_el (P := fun (r : Nat × Int32 × St) => FR γ0 r.2.2) ?_ (fun b => ?_)) | (split)
theorem fw_X7_rank {γ0 γ : St} {y1 : Int32} {y2 : Int32} (h : FR γ0 γ) : FR γ0 (x_X7_rank y1 y2 γ).2.2 := by
  unfold x_X7_rank
  repeat' first | (with_reducible exact h) | (with_reducible refine FR_sV _ _ _ _ rfl ?_) | (with_reducible refine FR_sN ?_) | (with_reducible refine FR_sL _ _ _ ?_) | (with_reducible refine fw_X7_rank_14 ?_) | (with_reducible refine fw_X7_rank_29 ?_) | (with_reducible refine fw_X5_orderRanked ?_) | (with_reducible refine oc_el (P := fun (r : Nat × Int32 × St) => FR γ0 r.2.2) ?_ (fun b => ?_)) | (split)
theorem fw_X7_meets {γ0 γ : St} {y1 : Int32} {y2 : Int32} {y3 : Int32} (h : FR γ0 γ) : FR γ0 (x_X7_meets y1 y2 y3 γ).2.2 := by
  unfold x_X7_meets
  repeat' first | (with_reducible exact h) | (with_reducible refine FR_sV _ _ _ _ rfl ?_) | (with_reducible refine FR_sN ?_) | (with_reducible refine FR_sL _ _ _ ?_) | (with_reducible refine fw_X7_checkMatch ?_) | (with_reducible refine oc_el (P := fun (r : Nat × Int32 × St) => FR γ0 r.2.2) ?_ (fun b => ?_)) | (split)
