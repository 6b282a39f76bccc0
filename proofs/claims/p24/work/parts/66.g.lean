/-- touches, and the reason -/
def pT : Nat → Nat → Bool := fun c k => (c == 2 && k == 1) || (c == 7 && k == 9)
theorem ft_X0_finish {γ0 γ : St} {o : Nat} {y1 : Int32} (h : Ag pT γ0 γ) : Ag pT γ0 (x_X0_finish o y1 γ) := by
  unfold x_X0_finish
  repeat' first | (with_reducible exact h) | (with_reducible refine Ag_sV _ _ _ _ rfl ?_) | (with_reducible refine Ag_sR _ _ _ ?_) | (with_reducible refine Ag_sL _ _ _ ?_) | (with_reducible refine oc_el (P := fun (r : St) => Ag pT γ0 r) ?_ (fun b => ?_)) | (split)
theorem ft_X0_addTouches_91 {γ0 γ : St} {o : Nat} (h : Ag pT γ0 γ) : Ag pT γ0 (x_X0_addTouches_91 o γ) := by
  unfold x_X0_addTouches_91
  repeat' first | (with_reducible exact h) | (with_reducible refine Ag_sV _ _ _ _ rfl ?_) | (with_reducible refine Ag_sR _ _ _ ?_) | (with_reducible refine Ag_sL _ _ _ ?_) | (with_reducible refine ft_X0_finish ?_) | (with_reducible refine oc_el (P := fun (r : St) => Ag pT γ0 r) ?_ (fun b => ?_)) | (split)
theorem ft_X0_addTouches_71 {γ0 γ : St} {o : Nat} {s0 : Int32} (h : Ag pT γ0 γ) : Ag pT γ0 (x_X0_addTouches_71 o s0 γ) := by
  unfold x_X0_addTouches_71
  repeat' first | (with_reducible exact h) | (with_reducible refine Ag_sV _ _ _ _ rfl ?_) | (with_reducible refine Ag_sR _ _ _ ?_) | (with_reducible refine Ag_sL _ _ _ ?_) | (with_reducible refine ft_X0_addTouches_91 ?_) | (with_reducible refine oc_el (P := fun (r : St) => Ag pT γ0 r) ?_ (fun b => ?_)) | (split)
theorem ft_X0_addTouches_66 {γ0 γ : St} {o : Nat} (h : Ag pT γ0 γ) : Ag pT γ0 (x_X0_addTouches_66 o γ) := by
  unfold x_X0_addTouches_66
  repeat' first | (with_reducible exact h) | (with_reducible refine Ag_sV _ _ _ _ rfl ?_) | (with_reducible refine Ag_sR _ _ _ ?_) | (with_reducible refine Ag_sL _ _ _ ?_) | (with_reducible refine ft_X0_addTouches_71 ?_) | (with_reducible refine oc_el (P := fun (r : St) => Ag pT γ0 r) ?_ (fun b => ?_)) | (split)
theorem ft_X0_addTouches_38 {γ0 γ : St} {o : Nat} (h : Ag pT γ0 γ) : Ag pT γ0 (x_X0_addTouches_38 o γ) := by
  unfold x_X0_addTouches_38
  repeat' first | (with_reducible exact h) | (with_reducible refine Ag_sV _ _ _ _ rfl ?_) | (with_reducible refine Ag_sR _ _ _ ?_) | (with_reducible refine Ag_sL _ _ _ ?_) | (with_reducible refine ft_X0_addTouches_66 ?_) | (with_reducible refine ft_X0_addTouches_71 ?_) | (with_reducible refine oc_el (P := fun (r : St) => Ag pT γ0 r) ?_ (fun b => ?_)) | (split)
theorem ft_X4_empty {γ0 γ : St}  (h : Ag pT γ0 γ) : Ag pT γ0 (x_X4_empty γ) := by
  unfold x_X4_empty
  repeat' first | (with_reducible exact h) | (with_reducible refine Ag_sV _ _ _ _ rfl ?_) | (with_reducible refine Ag_sR _ _ _ ?_) | (with_reducible refine Ag_sL _ _ _ ?_) | (with_reducible refine oc_el (P := fun (r : St) => Ag pT γ0 r) ?_ (fun b => ?_)) | (split)
theorem ft_X5_addTo {γ0 γ : St} {o : Nat} {y1 : Int32} {y2 : Int32} {y3 : Int32} (h : Ag pT γ0 γ) : Ag pT γ0 (x_X5_addTo o y1 y2 y3 γ) := by
  unfold x_X5_addTo
  repeat' first | (with_reducible exact h) | (with_reducible refine Ag_sV _ _ _ _ rfl ?_) | (with_reducible refine Ag_sR _ _ _ ?_) | (with_reducible refine Ag_sL _ _ _ ?_) | (with_reducible refine oc_el (P := fun (r : St) => Ag pT γ0 r) ?_ (fun b => ?_)) | (split)
theorem ft_X5_enter_47 {γ0 γ : St} {K2 : Nat → Int32 → Int32 → St → St} {o : Nat} {n1 : Nat} {a2 : Int32} {a3 : Int32} (hK2 : ∀ (v0 : Nat) (v1 : Int32) (v2 : Int32) (γ : St), Ag pT γ0 γ → Ag pT γ0 (K2 v0 v1 v2 γ)) (h : Ag pT γ0 γ) : Ag pT γ0 (x_X5_enter_47 K2 o n1 a2 a3 γ) := by
  unfold x_X5_enter_47
  repeat' first | (with_reducible exact h) | (with_reducible refine Ag_sV _ _ _ _ rfl ?_) | (with_reducible refine Ag_sR _ _ _ ?_) | (with_reducible refine Ag_sL _ _ _ ?_) | (with_reducible refine hK2 _ _ _ _ ?_) | (with_reducible refine oc_el (P := fun (r : St) => Ag pT γ0 r) ?_ (fun b => ?_)) | (split)
theorem ft_X5_enter_27 {γ0 γ : St} {K2 : Nat → Int32 → Int32 → St → St} {o : Nat} {n1 : Nat} {a2 : Int32} {a3 : Int32} (hK2 : ∀ (v0 : Nat) (v1 : Int32) (v2 : Int32) (γ : St), Ag pT γ0 γ → Ag pT γ0 (K2 v0 v1 v2 γ)) (h : Ag pT γ0 γ) : Ag pT γ0 (x_X5_enter_27 K2 o n1 a2 a3 γ) := by
  unfold x_X5_enter_27
  repeat' first | (with_reducible exact h) | (with_reducible refine Ag_sV _ _ _ _ rfl ?_) | (with_reducible refine Ag_sR _ _ _ ?_) | (with_reducible refine Ag_sL _ _ _ ?_) | (with_reducible refine ft_X5_enter_47 (by assumption) ?_) | (with_reducible refine ft_X5_addTo ?_) | (with_reducible refine hK2 _ _ _ _ ?_) | (with_reducible refine oc_el (P := fun (r : St) => Ag pT γ0 r) ?_ (fun b => ?_)) | (split)
theorem ft_X5_enter_2_r {γ0 : St} {o : Nat} : ∀ k : Nat, ∀ (a0 : Nat) (a1 : Int32) (a2 : Int32) (γ : St), Ag pT γ0 γ → Ag pT γ0 (x_X5_enter_2 o k a0 a1 a2 γ)
  | 0 => by intro a0 a1 a2 γ h; exact h
  | k + 1 => by
    have hr := ft_X5_enter_2_r (γ0 := γ0) (o := o) k
    intro a0 a1 a2 γ h
    unfold x_X5_enter_2
    repeat' first | (with_reducible exact h) | (with_reducible refine hr _ _ _ _ ?_) | (with_reducible refine Ag_sV _ _ _ _ rfl ?_) | (with_reducible refine Ag_sR _ _ _ ?_) | (with_reducible refine Ag_sL _ _ _ ?_) | (with_reducible refine ft_X5_enter_27 (by assumption) ?_) | (with_reducible refine ft_X5_addTo ?_) | (with_reducible refine oc_el (P := fun (r : St) => Ag pT γ0 r) ?_ (fun b => ?_)) | (split)
theorem ft_X5_enter_2 {γ0 γ : St} {o : Nat} {k : Nat} {a0 : Nat} {a1 : Int32} {a2 : Int32} (h : Ag pT γ0 γ) : Ag pT γ0 (x_X5_enter_2 o k a0 a1 a2 γ) := ft_X5_enter_2_r k a0 a1 a2 γ h
theorem ft_X5_enter {γ0 γ : St} {o : Nat} {z1 : Nat} {y2 : Int32} (h : Ag pT γ0 γ) : Ag pT γ0 (x_X5_enter o z1 y2 γ) := by
  unfold x_X5_enter
  repeat' first | (with_reducible exact h) | (with_reducible refine Ag_sV _ _ _ _ rfl ?_) | (with_reducible refine Ag_sR _ _ _ ?_) | (with_reducible refine Ag_sL _ _ _ ?_) | (with_reducible refine ft_X5_enter_2 ?_) | (with_reducible refine oc_el (P := fun (r : St) => Ag pT γ0 r) ?_ (fun b => ?_)) | (split)
theorem ft_X7_clearPisteIfOver_20 {γ0 γ : St} {n1 : Nat} (h : Ag pT γ0 γ) : Ag pT γ0 (x_X7_clearPisteIfOver_20 n1 γ) := by
  unfold x_X7_clearPisteIfOver_20
  repeat' first | (with_reducible exact h) | (with_reducible refine Ag_sV _ _ _ _ rfl ?_) | (with_reducible refine Ag_sR _ _ _ ?_) | (with_reducible refine Ag_sL _ _ _ ?_) | (with_reducible refine ft_X5_enter ?_) | (with_reducible refine oc_el (P := fun (r : St) => Ag pT γ0 r) ?_ (fun b => ?_)) | (split)
theorem ft_X7_clearPisteIfOver {γ0 γ : St} {z1 : Nat} (h : Ag pT γ0 γ) : Ag pT γ0 (x_X7_clearPisteIfOver z1 γ) := by
  unfold x_X7_clearPisteIfOver
  repeat' first | (with_reducible exact h) | (with_reducible refine Ag_sV _ _ _ _ rfl ?_) | (with_reducible refine Ag_sR _ _ _ ?_) | (with_reducible refine Ag_sL _ _ _ ?_) | (with_reducible refine ft_X7_clearPisteIfOver_20 ?_) | (with_reducible refine ft_X4_empty ?_) | (with_reducible refine oc_el (P := fun (r : St) => Ag pT γ0 r) ?_ (fun b => ?_)) | (split)
theorem f9_X5_insert_48 {γ0 γ : St} {o : Nat} {a1 : Int32} {a3 : Int32} (h : Ag k19 γ0 γ) : Ag k19 γ0 (x_X5_insert_48 o a1 a3 γ) := by
  unfold x_X5_insert_48
  repeat' first | (with_reducible exact h) | (with_reducible refine Ag_sV _ _ _ _ rfl ?_) | (with_reducible refine Ag_sR _ _ _ ?_) | (with_reducible refine Ag_sL _ _ _ ?_) | (with_reducible refine oc_el (P := fun (r : St) => Ag k19 γ0 r) ?_ (fun b => ?_)) | (split)
theorem f9_X5_insert_2_r {γ0 : St} {o : Nat} : ∀ k : Nat, ∀ (a0 : Int32) (a1 : Int32) (γ : St), Ag k19 γ0 γ → Ag k19 γ0 (x_X5_insert_2 o k a0 a1 γ)
  | 0 => by intro a0 a1 γ h; exact h
  | k + 1 => by
    have hr := f9_X5_insert_2_r (γ0 := γ0) (o := o) k
    intro a0 a1 γ h
    unfold x_X5_insert_2
    repeat' first | (with_reducible exact h) | (with_reducible refine hr _ _ _ ?_) | (with_reducible refine Ag_sV _ _ _ _ rfl ?_) | (with_reducible refine Ag_sR _ _ _ ?_) | (with_reducible refine Ag_sL _ _ _ ?_) | (with_reducible refine f9_X5_insert_48 ?_) | (with_reducible refine oc_el (P := fun (r : St) => Ag k19 γ0 r) ?_ (fun b => ?_)) | (split)
theorem f9_X5_insert_2 {γ0 γ : St} {o : Nat} {k : Nat} {a0 : Int32} {a1 : Int32} (h : Ag k19 γ0 γ) : Ag k19 γ0 (x_X5_insert_2 o k a0 a1 γ) := f9_X5_insert_2_r k a0 a1 γ h
theorem f9_X5_insert {γ0 γ : St} {o : Nat} {y1 : Int32} {y2 : Int32} (h : Ag k19 γ0 γ) : Ag k19 γ0 (x_X5_insert o y1 y2 γ) := by
  unfold x_X5_insert
  repeat' first | (with_reducible exact h) | (with_reducible refine Ag_sV _ _ _ _ rfl ?_) | (with_reducible refine Ag_sR _ _ _ ?_) | (with_reducible refine Ag_sL _ _ _ ?_) | (with_reducible refine f9_X5_insert_2 ?_) | (with_reducible refine oc_el (P := fun (r : St) => Ag k19 γ0 r) ?_ (fun b => ?_)) | (split)
theorem f9_X5_orderRanked_34 {γ0 γ : St} {K4 : Int32 → Int32 → St → St} {o : Nat} {a1 : Int32} {a2 : Int32} (hK4 : ∀ (v0 : Int32) (v1 : Int32) (γ : St), Ag k19 γ0 γ → Ag k19 γ0 (K4 v0 v1 γ)) (h : Ag k19 γ0 γ) : Ag k19 γ0 (x_X5_orderRanked_34 K4 o a1 a2 γ) := by
  unfold x_X5_orderRanked_34
  repeat' first | (with_reducible exact h) | (with_reducible refine Ag_sV _ _ _ _ rfl ?_) | (with_reducible refine Ag_sR _ _ _ ?_) | (with_reducible refine Ag_sL _ _ _ ?_) | (with_reducible refine hK4 _ _ _ ?_) | (with_reducible refine oc_el (P := fun (r : St) => Ag k19 γ0 r) ?_ (fun b => ?_)) | (split)
theorem f9_X5_orderRanked_31 {γ0 γ : St} {K4 : Int32 → Int32 → St → St} {o : Nat} {a1 : Int32} {a2 : Int32} (hK4 : ∀ (v0 : Int32) (v1 : Int32) (γ : St), Ag k19 γ0 γ → Ag k19 γ0 (K4 v0 v1 γ)) (h : Ag k19 γ0 γ) : Ag k19 γ0 (x_X5_orderRanked_31 K4 o a1 a2 γ) := by
  unfold x_X5_orderRanked_31
  repeat' first | (with_reducible exact h) | (with_reducible refine Ag_sV _ _ _ _ rfl ?_) | (with_reducible refine Ag_sR _ _ _ ?_) | (with_reducible refine Ag_sL _ _ _ ?_) | (with_reducible refine f9_X5_orderRanked_34 (by assumption) ?_) | (with_reducible refine hK4 _ _ _ ?_) | (with_reducible refine oc_el (P := fun (r : St) => Ag k19 γ0 r) ?_ (fun b => ?_)) | (split)
theorem f9_X5_orderRanked_4_r {γ0 : St} {o : Nat} : ∀ k : Nat, ∀ (a0 : Int32) (a1 : Int32) (γ : St), Ag k19 γ0 γ → Ag k19 γ0 (x_X5_orderRanked_4 o k a0 a1 γ)
  | 0 => by intro a0 a1 γ h; exact h
  | k + 1 => by
    have hr := f9_X5_orderRanked_4_r (γ0 := γ0) (o := o) k
    intro a0 a1 γ h
    unfold x_X5_orderRanked_4
    repeat' first | (with_reducible exact h) | (with_reducible refine hr _ _ _ ?_) | (with_reducible refine Ag_sV _ _ _ _ rfl ?_) | (with_reducible refine Ag_sR _ _ _ ?_) | (with_reducible refine Ag_sL _ _ _ ?_) | (with_reducible refine f9_X5_orderRanked_34 (by assumption) ?_) | (with_reducible refine f9_X5_orderRanked_31 (by assumption) ?_) | (with_reducible refine f9_X5_insert ?_) | (with_reducible refine oc_el (P := fun (r : St) => Ag k19 γ0 r) ?_ (fun b => ?_)) | (split)
theorem f9_X5_orderRanked_4 {γ0 γ : St} {o : Nat} {k : Nat} {a0 : Int32} {a1 : Int32} (h : Ag k19 γ0 γ) : Ag k19 γ0 (x_X5_orderRanked_4 o k a0 a1 γ) := f9_X5_orderRanked_4_r k a0 a1 γ h
theorem f9_X5_orderRanked {γ0 γ : St} {o : Nat} (h : Ag k19 γ0 γ) : Ag k19 γ0 (x_X5_orderRanked o γ) := by
  unfold x_X5_orderRanked
  repeat' first | (with_reducible exact h) | (with_reducible refine Ag_sV _ _ _ _ rfl ?_) | (with_reducible refine Ag_sR _ _ _ ?_) | (with_reducible refine Ag_sL _ _ _ ?_) | (with_reducible refine f9_X5_orderRanked_4 ?_) | (with_reducible refine oc_el (P := fun (r : St) => Ag k19 γ0 r) ?_ (fun b => ?_)) | (split)
theorem f6_X6_forget {γ0 γ : St}  (h : Ag pc6 γ0 γ) : Ag pc6 γ0 (x_X6_forget γ) := by
  unfold x_X6_forget
  repeat' first | (with_reducible exact h) | (with_reducible refine Ag_sV _ _ _ _ rfl ?_) | (with_reducible refine Ag_sR _ _ _ ?_) | (with_reducible refine Ag_sL _ _ _ ?_) | (with_reducible refine oc_el (P := fun (r : St) => Ag pc6 γ0 r) ?_ (fun b => ?_)) | (split)
theorem f6_X6_give {γ0 γ : St} {y1 : Int32} {y2 : Int32} {y3 : Int32} (h : Ag pc6 γ0 γ) : Ag pc6 γ0 (x_X6_give y1 y2 y3 γ) := by
  unfold x_X6_give
  repeat' first | (with_reducible exact h) | (with_reducible refine Ag_sV _ _ _ _ rfl ?_) | (with_reducible refine Ag_sR _ _ _ ?_) | (with_reducible refine Ag_sL _ _ _ ?_) | (with_reducible refine oc_el (P := fun (r : St) => Ag pc6 γ0 r) ?_ (fun b => ?_)) | (split)
theorem f6_X6_attack_17 {γ0 γ : St}  (h : Ag pc6 γ0 γ) : Ag pc6 γ0 (x_X6_attack_17 γ) := by
  unfold x_X6_attack_17
  repeat' first | (with_reducible exact h) | (with_reducible refine Ag_sV _ _ _ _ rfl ?_) | (with_reducible refine Ag_sR _ _ _ ?_) | (with_reducible refine Ag_sL _ _ _ ?_) | (with_reducible refine oc_el (P := fun (r : St) => Ag pc6 γ0 r) ?_ (fun b => ?_)) | (split)
theorem f6_X6_attack {γ0 γ : St} {y1 : Int32} {y2 : Int32} (h : Ag pc6 γ0 γ) : Ag pc6 γ0 (x_X6_attack y1 y2 γ) := by
  unfold x_X6_attack
  repeat' first | (with_reducible exact h) | (with_reducible refine Ag_sV _ _ _ _ rfl ?_) | (with_reducible refine Ag_sR _ _ _ ?_) | (with_reducible refine Ag_sL _ _ _ ?_) | (with_reducible refine f6_X6_attack_17 ?_) | (with_reducible refine f6_X6_give ?_) | (with_reducible refine oc_el (P := fun (r : St) => Ag pc6 γ0 r) ?_ (fun b => ?_)) | (split)
theorem f6_X6_parry {γ0 γ : St} {y1 : Int32} {y2 : Int32} (h : Ag pc6 γ0 γ) : Ag pc6 γ0 (x_X6_parry y1 y2 γ) := by
  unfold x_X6_parry
  repeat' first | (with_reducible exact h) | (with_reducible refine Ag_sV _ _ _ _ rfl ?_) | (with_reducible refine Ag_sR _ _ _ ?_) | (with_reducible refine Ag_sL _ _ _ ?_) | (with_reducible refine oc_el (P := fun (r : St) => Ag pc6 γ0 r) ?_ (fun b => ?_)) | (split)
theorem f6_X6_take_54 {γ0 γ : St}  (h : Ag pc6 γ0 γ) : Ag pc6 γ0 (x_X6_take_54 γ) := by
  unfold x_X6_take_54
  repeat' first | (with_reducible exact h) | (with_reducible refine Ag_sV _ _ _ _ rfl ?_) | (with_reducible refine Ag_sR _ _ _ ?_) | (with_reducible refine Ag_sL _ _ _ ?_) | (with_reducible refine oc_el (P := fun (r : St) => Ag pc6 γ0 r) ?_ (fun b => ?_)) | (split)
theorem f6_X6_take_72 {γ0 γ : St}  (h : Ag pc6 γ0 γ) : Ag pc6 γ0 (x_X6_take_72 γ) := by
  unfold x_X6_take_72
  repeat' first | (with_reducible exact h) | (with_reducible refine Ag_sV _ _ _ _ rfl ?_) | (with_reducible refine Ag_sR _ _ _ ?_) | (with_reducible refine Ag_sL _ _ _ ?_) | (with_reducible refine oc_el (P := fun (r : St) => Ag pc6 γ0 r) ?_ (fun b => ?_)) | (split)
theorem f6_X6_take_99 {γ0 γ : St}  (h : Ag pc6 γ0 γ) : Ag pc6 γ0 (x_X6_take_99 γ) := by
  unfold x_X6_take_99
  repeat' first | (with_reducible exact h) | (with_reducible refine Ag_sV _ _ _ _ rfl ?_) | (with_reducible refine Ag_sR _ _ _ ?_) | (with_reducible refine Ag_sL _ _ _ ?_) | (with_reducible refine oc_el (P := fun (r : St) => Ag pc6 γ0 r) ?_ (fun b => ?_)) | (split)
theorem f6_X6_take_108 {γ0 γ : St}  (h : Ag pc6 γ0 γ) : Ag pc6 γ0 (x_X6_take_108 γ) := by
  unfold x_X6_take_108
  repeat' first | (with_reducible exact h) | (with_reducible refine Ag_sV _ _ _ _ rfl ?_) | (with_reducible refine Ag_sR _ _ _ ?_) | (with_reducible refine Ag_sL _ _ _ ?_) | (with_reducible refine oc_el (P := fun (r : St) => Ag pc6 γ0 r) ?_ (fun b => ?_)) | (split)
theorem f6_X6_take_146 {γ0 γ : St}  (h : Ag pc6 γ0 γ) : Ag pc6 γ0 (x_X6_take_146 γ) := by
  unfold x_X6_take_146
  repeat' first | (with_reducible exact h) | (with_reducible refine Ag_sV _ _ _ _ rfl ?_) | (with_reducible refine Ag_sR _ _ _ ?_) | (with_reducible refine Ag_sL _ _ _ ?_) | (with_reducible refine oc_el (P := fun (r : St) => Ag pc6 γ0 r) ?_ (fun b => ?_)) | (split)
theorem f6_X6_take_185 {γ0 γ : St}  (h : Ag pc6 γ0 γ) : Ag pc6 γ0 (x_X6_take_185 γ) := by
  unfold x_X6_take_185
  repeat' first | (with_reducible exact h) | (with_reducible refine Ag_sV _ _ _ _ rfl ?_) | (with_reducible refine Ag_sR _ _ _ ?_) | (with_reducible refine Ag_sL _ _ _ ?_) | (with_reducible refine oc_el (P := fun (r : St) => Ag pc6 γ0 r) ?_ (fun b => ?_)) | (split)
theorem f6_X6_take {γ0 γ : St} {y1 : Int32} {y2 : Int32} {y3 : Int32} (h : Ag pc6 γ0 γ) : Ag pc6 γ0 (x_X6_take y1 y2 y3 γ) := by
  unfold x_X6_take
  repeat' first | (with_reducible exact h) | (with_reducible refine Ag_sV _ _ _ _ rfl ?_) | (with_reducible refine Ag_sR _ _ _ ?_) | (with_reducible refine Ag_sL _ _ _ ?_) | (with_reducible refine f6_X6_take_54 ?_) | (with_reducible refine f6_X6_attack ?_) | (with_reducible refine f6_X6_take_72 ?_) | (with_reducible refine f6_X6_give ?_) | (with_reducible refine f6_X6_take_99 ?_) | (with_reducible refine f6_X6_take_108 ?_) | (with_reducible refine f6_X6_parry ?_) | (with_reducible refine f6_X6_take_146 ?_) | (with_reducible refine f6_X6_take_185 ?_) | (with_reducible refine oc_el (P := fun (r : St) => Ag pc6 γ0 r) ?_ (fun b => ?_)) | (split)
theorem f6_X4_holderAhead_71 {γ0 γ : St}  (h : Ag pc6 γ0 γ) : Ag pc6 γ0 (x_X4_holderAhead_71 γ).2 := by
  unfold x_X4_holderAhead_71
  repeat' first | (with_reducible exact h) | (with_reducible refine Ag_sV _ _ _ _ rfl ?_) | (with_reducible refine Ag_sR _ _ _ ?_) | (with_reducible refine Ag_sL _ _ _ ?_) | (with_reducible refine oc_el (P := fun (r : Int32 × St) => Ag pc6 γ0 r.2) ?_ (fun b => ?_)) | (split)
theorem f6_X4_holderAhead_65 {γ0 γ : St} {K9 : Int32 → Int32 → St → Int32 × St} {a1 : Int32} {a2 : Int32} (hK9 : ∀ (v0 : Int32) (v1 : Int32) (γ : St), Ag pc6 γ0 γ → Ag pc6 γ0 (K9 v0 v1 γ).2) (h : Ag pc6 γ0 γ) : Ag pc6 γ0 (x_X4_holderAhead_65 K9 a1 a2 γ).2 := by
  unfold x_X4_holderAhead_65
  repeat' first | (with_reducible exact h) | (with_reducible refine Ag_sV _ _ _ _ rfl ?_) | (with_reducible refine Ag_sR _ _ _ ?_) | (with_reducible refine Ag_sL _ _ _ ?_) | (with_reducible refine hK9 _ _ _ ?_) | (with_reducible refine oc_el (P := fun (r : Int32 × St) => Ag pc6 γ0 r.2) ?_ (fun b => ?_)) | (split)
theorem f6_X4_holderAhead_9_r {γ0 : St}  : ∀ k : Nat, ∀ (a0 : Int32) (a1 : Int32) (γ : St), Ag pc6 γ0 γ → Ag pc6 γ0 (x_X4_holderAhead_9 k a0 a1 γ).2
  | 0 => by intro a0 a1 γ h; exact h
  | k + 1 => by
    have hr := f6_X4_holderAhead_9_r (γ0 := γ0) k
    intro a0 a1 γ h
    unfold x_X4_holderAhead_9
    repeat' first | (with_reducible exact h) | (with_reducible refine hr _ _ _ ?_) | (with_reducible refine Ag_sV _ _ _ _ rfl ?_) | (with_reducible refine Ag_sR _ _ _ ?_) | (with_reducible refine Ag_sL _ _ _ ?_) | (with_reducible refine f6_X4_holderAhead_71 ?_) | (with_reducible refine f6_X4_holderAhead_65 (by assumption) ?_) | (with_reducible refine f6_X6_take ?_) | (with_reducible refine oc_el (P := fun (r : Int32 × St) => Ag pc6 γ0 r.2) ?_ (fun b => ?_)) | (split)
theorem f6_X4_holderAhead_9 {γ0 γ : St}  {k : Nat} {a0 : Int32} {a1 : Int32} (h : Ag pc6 γ0 γ) : Ag pc6 γ0 (x_X4_holderAhead_9 k a0 a1 γ).2 := f6_X4_holderAhead_9_r k a0 a1 γ h
theorem f6_X4_holderAhead_7 {γ0 γ : St} {a1 : Int32} (h : Ag pc6 γ0 γ) : Ag pc6 γ0 (x_X4_holderAhead_7 a1 γ).2 := by
  unfold x_X4_holderAhead_7
  repeat' first | (with_reducible exact h) | (with_reducible refine Ag_sV _ _ _ _ rfl ?_) | (with_reducible refine Ag_sR _ _ _ ?_) | (with_reducible refine Ag_sL _ _ _ ?_) | (with_reducible refine f6_X4_holderAhead_9 ?_) | (with_reducible refine oc_el (P := fun (r : Int32 × St) => Ag pc6 γ0 r.2) ?_ (fun b => ?_)) | (split)
theorem f6_X4_holderAhead {γ0 γ : St} {y1 : Int32} (h : Ag pc6 γ0 γ) : Ag pc6 γ0 (x_X4_holderAhead y1 γ).2 := by
  unfold x_X4_holderAhead
  repeat' first | (with_reducible exact h) | (with_reducible refine Ag_sV _ _ _ _ rfl ?_) | (with_reducible refine Ag_sR _ _ _ ?_) | (with_reducible refine Ag_sL _ _ _ ?_) | (with_reducible refine f6_X4_holderAhead_7 ?_) | (with_reducible refine f6_X6_forget ?_) | (with_reducible refine oc_el (P := fun (r : Int32 × St) => Ag pc6 γ0 r.2) ?_ (fun b => ?_)) | (split)
/-- tables, and who is in them -/
def pB : Nat → Nat → Bool := fun c _ => c == 18 || c == 5 || c == 19
theorem fb_X1_orderPlaces_45_r {γ0 : St} {K19 : Int32 → St → St} (hK19 : ∀ (v0 : Int32) (γ : St), Ag pB γ0 γ → Ag pB γ0 (K19 v0 γ)) : ∀ k : Nat, ∀ (a0 : Int32) (a1 : Int32) (γ : St), Ag pB γ0 γ → Ag pB γ0 (x_X1_orderPlaces_45 K19 k a0 a1 γ)
  | 0 => by intro a0 a1 γ h; exact h
  | k + 1 => by
    have hr := fb_X1_orderPlaces_45_r (γ0 := γ0) (K19 := K19) hK19 k
    intro a0 a1 γ h
    unfold x_X1_orderPlaces_45
    repeat' first | (with_reducible exact h) | (with_reducible refine hr _ _ _ ?_) | (with_reducible refine Ag_sV _ _ _ _ rfl ?_) | (with_reducible refine Ag_sR _ _ _ ?_) | (with_reducible refine Ag_sL _ _ _ ?_) | (with_reducible refine hK19 _ _ ?_) | (with_reducible refine oc_el (P := fun (r : St) => Ag pB γ0 r) ?_ (fun b => ?_)) | (split)
theorem fb_X1_orderPlaces_45 {γ0 γ : St} {K19 : Int32 → St → St} {k : Nat} {a0 : Int32} {a1 : Int32} (hK19 : ∀ (v0 : Int32) (γ : St), Ag pB γ0 γ → Ag pB γ0 (K19 v0 γ)) (h : Ag pB γ0 γ) : Ag pB γ0 (x_X1_orderPlaces_45 K19 k a0 a1 γ) := fb_X1_orderPlaces_45_r hK19 k a0 a1 γ h
theorem fb_X1_orderPlaces_19_r {γ0 : St}  : ∀ k : Nat, ∀ (a0 : Int32) (γ : St), Ag pB γ0 γ → Ag pB γ0 (x_X1_orderPlaces_19 k a0 γ)
  | 0 => by intro a0 γ h; exact h
  | k + 1 => by
    have hr := fb_X1_orderPlaces_19_r (γ0 := γ0) k
    intro a0 γ h
    unfold x_X1_orderPlaces_19
    repeat' first | (with_reducible exact h) | (with_reducible refine hr _ _ ?_) | (with_reducible refine Ag_sV _ _ _ _ rfl ?_) | (with_reducible refine Ag_sR _ _ _ ?_) | (with_reducible refine Ag_sL _ _ _ ?_) | (with_reducible refine fb_X1_orderPlaces_45 (by assumption) ?_) | (with_reducible refine oc_el (P := fun (r : St) => Ag pB γ0 r) ?_ (fun b => ?_)) | (split)
theorem fb_X1_orderPlaces_19 {γ0 γ : St}  {k : Nat} {a0 : Int32} (h : Ag pB γ0 γ) : Ag pB γ0 (x_X1_orderPlaces_19 k a0 γ) := fb_X1_orderPlaces_19_r k a0 γ h
theorem fb_X1_orderPlaces {γ0 γ : St} {y1 : Int32} (h : Ag pB γ0 γ) : Ag pB γ0 (x_X1_orderPlaces y1 γ) := by
  unfold x_X1_orderPlaces
  repeat' first | (with_reducible exact h) | (with_reducible refine Ag_sV _ _ _ _ rfl ?_) | (with_reducible refine Ag_sR _ _ _ ?_) | (with_reducible refine Ag_sL _ _ _ ?_) | (with_reducible refine fb_X1_orderPlaces_19 ?_) | (with_reducible refine oc_el (P := fun (r : St) => Ag pB γ0 r) ?_ (fun b => ?_)) | (split)
theorem fb_X1_put {γ0 γ : St} {y1 : Int32} {y2 : Int32} (h : Ag pB γ0 γ) : Ag pB γ0 (x_X1_put y1 y2 γ) := by
  unfold x_X1_put
  repeat' first | (with_reducible exact h) | (with_reducible refine Ag_sV _ _ _ _ rfl ?_) | (with_reducible refine Ag_sR _ _ _ ?_) | (with_reducible refine Ag_sL _ _ _ ?_) | (with_reducible refine oc_el (P := fun (r : St) => Ag pB γ0 r) ?_ (fun b => ?_)) | (split)
theorem fb_X1_passBye_40 {γ0 γ : St} {s0 : Int32} {s1 : Int32} (h : Ag pB γ0 γ) : Ag pB γ0 (x_X1_passBye_40 s0 s1 γ) := by
  unfold x_X1_passBye_40
  repeat' first | (with_reducible exact h) | (with_reducible refine Ag_sV _ _ _ _ rfl ?_) | (with_reducible refine Ag_sR _ _ _ ?_) | (with_reducible refine Ag_sL _ _ _ ?_) | (with_reducible refine fb_X1_put ?_) | (with_reducible refine oc_el (P := fun (r : St) => Ag pB γ0 r) ?_ (fun b => ?_)) | (split)
theorem fb_X1_passBye_28 {γ0 γ : St} {a1 : Int32} {a2 : Int32} {a3 : Int32} (h : Ag pB γ0 γ) : Ag pB γ0 (x_X1_passBye_28 a1 a2 a3 γ) := by
  unfold x_X1_passBye_28
  repeat' first | (with_reducible exact h) | (with_reducible refine Ag_sV _ _ _ _ rfl ?_) | (with_reducible refine Ag_sR _ _ _ ?_) | (with_reducible refine Ag_sL _ _ _ ?_) | (with_reducible refine fb_X1_passBye_40 ?_) | (with_reducible refine oc_el (P := fun (r : St) => Ag pB γ0 r) ?_ (fun b => ?_)) | (split)
theorem fb_X1_passBye {γ0 γ : St} {y1 : Int32} (h : Ag pB γ0 γ) : Ag pB γ0 (x_X1_passBye y1 γ) := by
  unfold x_X1_passBye
  repeat' first | (with_reducible exact h) | (with_reducible refine Ag_sV _ _ _ _ rfl ?_) | (with_reducible refine Ag_sR _ _ _ ?_) | (with_reducible refine Ag_sL _ _ _ ?_) | (with_reducible refine fb_X1_passBye_28 ?_) | (with_reducible refine oc_el (P := fun (r : St) => Ag pB γ0 r) ?_ (fun b => ?_)) | (split)
theorem fb_X1_makeFrom_99 {γ0 γ : St} {K86 : Int32 → St → St} {a2 : Int32} (hK86 : ∀ (v0 : Int32) (γ : St), Ag pB γ0 γ → Ag pB γ0 (K86 v0 γ)) (h : Ag pB γ0 γ) : Ag pB γ0 (x_X1_makeFrom_99 K86 a2 γ) := by
  unfold x_X1_makeFrom_99
  repeat' first | (with_reducible exact h) | (with_reducible refine Ag_sV _ _ _ _ rfl ?_) | (with_reducible refine Ag_sR _ _ _ ?_) | (with_reducible refine Ag_sL _ _ _ ?_) | (with_reducible refine hK86 _ _ ?_) | (with_reducible refine oc_el (P := fun (r : St) => Ag pB γ0 r) ?_ (fun b => ?_)) | (split)
theorem fb_X1_makeFrom_86_r {γ0 : St}  : ∀ k : Nat, ∀ (a0 : Int32) (γ : St), Ag pB γ0 γ → Ag pB γ0 (x_X1_makeFrom_86 k a0 γ)
  | 0 => by intro a0 γ h; exact h
  | k + 1 => by
    have hr := fb_X1_makeFrom_86_r (γ0 := γ0) k
    intro a0 γ h
    unfold x_X1_makeFrom_86
    repeat' first | (with_reducible exact h) | (with_reducible refine hr _ _ ?_) | (with_reducible refine Ag_sV _ _ _ _ rfl ?_) | (with_reducible refine Ag_sR _ _ _ ?_) | (with_reducible refine Ag_sL _ _ _ ?_) | (with_reducible refine fb_X1_makeFrom_99 (by assumption) ?_) | (with_reducible refine fb_X1_passBye ?_) | (with_reducible refine oc_el (P := fun (r : St) => Ag pB γ0 r) ?_ (fun b => ?_)) | (split)
theorem fb_X1_makeFrom_86 {γ0 γ : St}  {k : Nat} {a0 : Int32} (h : Ag pB γ0 γ) : Ag pB γ0 (x_X1_makeFrom_86 k a0 γ) := fb_X1_makeFrom_86_r k a0 γ h
theorem fb_X1_makeFrom_79 {γ0 γ : St}  (h : Ag pB γ0 γ) : Ag pB γ0 (x_X1_makeFrom_79 γ) := by
  unfold x_X1_makeFrom_79
  repeat' first | (with_reducible exact h) | (with_reducible refine Ag_sV _ _ _ _ rfl ?_) | (with_reducible refine Ag_sR _ _ _ ?_) | (with_reducible refine Ag_sL _ _ _ ?_) | (with_reducible refine fb_X1_makeFrom_86 ?_) | (with_reducible refine oc_el (P := fun (r : St) => Ag pB γ0 r) ?_ (fun b => ?_)) | (split)
theorem fb_X1_makeFrom_73 {γ0 γ : St} {K39 : Nat → Int32 → St → St} {n1 : Nat} {a2 : Int32} (hK39 : ∀ (v0 : Nat) (v1 : Int32) (γ : St), Ag pB γ0 γ → Ag pB γ0 (K39 v0 v1 γ)) (h : Ag pB γ0 γ) : Ag pB γ0 (x_X1_makeFrom_73 K39 n1 a2 γ) := by
  unfold x_X1_makeFrom_73
  repeat' first | (with_reducible exact h) | (with_reducible refine Ag_sV _ _ _ _ rfl ?_) | (with_reducible refine Ag_sR _ _ _ ?_) | (with_reducible refine Ag_sL _ _ _ ?_) | (with_reducible refine hK39 _ _ _ ?_) | (with_reducible refine oc_el (P := fun (r : St) => Ag pB γ0 r) ?_ (fun b => ?_)) | (split)
theorem fb_X1_makeFrom_39_r {γ0 : St}  : ∀ k : Nat, ∀ (a0 : Nat) (a1 : Int32) (γ : St), Ag pB γ0 γ → Ag pB γ0 (x_X1_makeFrom_39 k a0 a1 γ)
  | 0 => by intro a0 a1 γ h; exact h
  | k + 1 => by
    have hr := fb_X1_makeFrom_39_r (γ0 := γ0) k
    intro a0 a1 γ h
    unfold x_X1_makeFrom_39
    repeat' first | (with_reducible exact h) | (with_reducible refine hr _ _ _ ?_) | (with_reducible refine Ag_sV _ _ _ _ rfl ?_) | (with_reducible refine Ag_sR _ _ _ ?_) | (with_reducible refine Ag_sL _ _ _ ?_) | (with_reducible refine fb_X1_makeFrom_79 ?_) | (with_reducible refine fb_X1_makeFrom_73 (by assumption) ?_) | (with_reducible refine fb_X1_put ?_) | (with_reducible refine oc_el (P := fun (r : St) => Ag pB γ0 r) ?_ (fun b => ?_)) | (split)
theorem fb_X1_makeFrom_39 {γ0 γ : St}  {k : Nat} {a0 : Nat} {a1 : Int32} (h : Ag pB γ0 γ) : Ag pB γ0 (x_X1_makeFrom_39 k a0 a1 γ) := fb_X1_makeFrom_39_r k a0 a1 γ h
theorem fb_X1_makeFrom_31 {γ0 γ : St} {K17 : Nat → Int32 → St → St} {n1 : Nat} {a2 : Int32} (hK17 : ∀ (v0 : Nat) (v1 : Int32) (γ : St), Ag pB γ0 γ → Ag pB γ0 (K17 v0 v1 γ)) (h : Ag pB γ0 γ) : Ag pB γ0 (x_X1_makeFrom_31 K17 n1 a2 γ) := by
  unfold x_X1_makeFrom_31
  repeat' first | (with_reducible exact h) | (with_reducible refine Ag_sV _ _ _ _ rfl ?_) | (with_reducible refine Ag_sR _ _ _ ?_) | (with_reducible refine Ag_sL _ _ _ ?_) | (with_reducible refine hK17 _ _ _ ?_) | (with_reducible refine oc_el (P := fun (r : St) => Ag pB γ0 r) ?_ (fun b => ?_)) | (split)
theorem fb_X1_makeFrom_17_r {γ0 : St}  : ∀ k : Nat, ∀ (a0 : Nat) (a1 : Int32) (γ : St), Ag pB γ0 γ → Ag pB γ0 (x_X1_makeFrom_17 k a0 a1 γ)
  | 0 => by intro a0 a1 γ h; exact h
  | k + 1 => by
    have hr := fb_X1_makeFrom_17_r (γ0 := γ0) k
    intro a0 a1 γ h
    unfold x_X1_makeFrom_17
    repeat' first | (with_reducible exact h) | (with_reducible refine hr _ _ _ ?_) | (with_reducible refine Ag_sV _ _ _ _ rfl ?_) | (with_reducible refine Ag_sR _ _ _ ?_) | (with_reducible refine Ag_sL _ _ _ ?_) | (with_reducible refine fb_X1_makeFrom_39 ?_) | (with_reducible refine fb_X1_makeFrom_31 (by assumption) ?_) | (with_reducible refine fb_X1_put ?_) | (with_reducible refine oc_el (P := fun (r : St) => Ag pB γ0 r) ?_ (fun b => ?_)) | (split)
theorem fb_X1_makeFrom_17 {γ0 γ : St}  {k : Nat} {a0 : Nat} {a1 : Int32} (h : Ag pB γ0 γ) : Ag pB γ0 (x_X1_makeFrom_17 k a0 a1 γ) := fb_X1_makeFrom_17_r k a0 a1 γ h
theorem fb_X1_makeFrom_15 {γ0 γ : St} {n1 : Nat} (h : Ag pB γ0 γ) : Ag pB γ0 (x_X1_makeFrom_15 n1 γ) := by
  unfold x_X1_makeFrom_15
  repeat' first | (with_reducible exact h) | (with_reducible refine Ag_sV _ _ _ _ rfl ?_) | (with_reducible refine Ag_sR _ _ _ ?_) | (with_reducible refine Ag_sL _ _ _ ?_) | (with_reducible refine fb_X1_makeFrom_17 ?_) | (with_reducible refine oc_el (P := fun (r : St) => Ag pB γ0 r) ?_ (fun b => ?_)) | (split)
theorem fb_X1_makeFrom_4 {γ0 γ : St} {n1 : Nat} (h : Ag pB γ0 γ) : Ag pB γ0 (x_X1_makeFrom_4 n1 γ) := by
  unfold x_X1_makeFrom_4
  repeat' first | (with_reducible exact h) | (with_reducible refine Ag_sV _ _ _ _ rfl ?_) | (with_reducible refine Ag_sR _ _ _ ?_) | (with_reducible refine Ag_sL _ _ _ ?_) | (with_reducible refine fb_X1_makeFrom_15 ?_) | (with_reducible refine fb_X1_orderPlaces ?_) | (with_reducible refine oc_el (P := fun (r : St) => Ag pB γ0 r) ?_ (fun b => ?_)) | (split)
