/-! ===== the state of both systems, and where it lies ===== -/
abbrev KP : Type := va_G × (Nat → ClassId) × Nat × (Nat → Nat → Nat) × Nat × Nat
abbrev kD (κ : KP) : va_G := κ.1
abbrev kC (κ : KP) : Nat → ClassId := κ.2.1
abbrev kB (κ : KP) : Nat := κ.2.2.1
abbrev kA (κ : KP) : Nat → Nat → Nat := κ.2.2.2.1
abbrev kN (κ : KP) : Nat := κ.2.2.2.2.1
abbrev kO (κ : KP) : Nat := κ.2.2.2.2.2
abbrev AA (κ : KP) : Nat → Prop := fun q => kB κ ≤ q
abbrev St : Type := List (List (List Int32)) × List (List Int64) × List (List (Option Nat))
noncomputable section
/-- place i of a row; behind its end stands d -/
def lg {α : Type} (d : α) (l : List α) : Nat → α := List.rec (motive := fun _ => Nat → α) (fun _ => d) (fun x _ ih i => Nat.rec (motive := fun _ => α) x (fun j _ => ih j) i) l
/-- a row with v at the place i -/
def ls {α : Type} (d : α) (i : Nat) (v : α) : List α → List α := Nat.rec (motive := fun _ => List α → List α) (fun l => v :: l.tail) (fun _ ih l => l.headD d :: ih l.tail) i
def gV (γ : St) (c n k : Nat) : Int32 := lg 0 (lg [] (lg [] γ.1 c) n) k
def gL (γ : St) (c k : Nat) : Int64 := lg 0 (lg [] γ.2.1 c) k
def gR (γ : St) (c k : Nat) : Option Nat := lg none (lg [] γ.2.2 c) k
def sV (γ : St) (c n k : Nat) (v : Int32) : St := (ls [] c (ls [] n (ls 0 k v (lg [] (lg [] γ.1 c) n)) (lg [] γ.1 c)) γ.1, γ.2.1, γ.2.2)
def sL (γ : St) (c k : Nat) (v : Int64) : St := (γ.1, ls [] c (ls 0 k v (lg [] γ.2.1 c)) γ.2.1, γ.2.2)
def sR (γ : St) (c k : Nat) (v : Option Nat) : St := (γ.1, γ.2.1, ls [] c (ls none k v (lg [] γ.2.2 c)) γ.2.2)
end
theorem lg_nil {α : Type} (d : α) (i : Nat) : lg d [] i = d := rfl
theorem lg_ls {α : Type} (d : α) (v : α) : ∀ (i : Nat) (l : List α) (j : Nat), lg d (ls d i v l) j = if j = i then v else lg d l j
  | 0, [], 0 => rfl
  | 0, [], j + 1 => by rw [if_neg (by omega)]; rfl
  | 0, x :: t, 0 => rfl
  | 0, x :: t, j + 1 => by rw [if_neg (by omega)]; rfl
  | i + 1, [], 0 => by rw [if_neg (by omega)]; rfl
  | i + 1, [], j + 1 => by
    have h := lg_ls d v i [] j
    show lg d (ls d i v []) j = _
    rw [h]
    by_cases e : j = i
    · rw [if_pos e, if_pos (by omega)]
    · rw [if_neg e, if_neg (by omega)]; rfl
  | i + 1, x :: t, 0 => by rw [if_neg (by omega)]; rfl
  | i + 1, x :: t, j + 1 => by
    have h := lg_ls d v i t j
    show lg d (ls d i v t) j = _
    rw [h]
    by_cases e : j = i
    · rw [if_pos e, if_pos (by omega)]
    · rw [if_neg e, if_neg (by omega)]; rfl
theorem ls_ls {α : Type} (d : α) (v w : α) : ∀ (i : Nat) (l : List α), ls d i w (ls d i v l) = ls d i w l
  | 0, _ => rfl
  | i + 1, l => by
    show l.headD d :: ls d i w (ls d i v l.tail) = l.headD d :: ls d i w l.tail
    rw [ls_ls d v w i]
theorem gV_sV (γ : St) (c n k : Nat) (v : Int32) (a b j : Nat) : gV (sV γ c n k v) a b j = if a = c ∧ j = k ∧ b = n then v else gV γ a b j := by
  unfold gV sV
  dsimp only
  rw [lg_ls]
  by_cases h1 : a = c
  · rw [if_pos h1, lg_ls]
    subst h1
    by_cases h2 : b = n
    · rw [if_pos h2, lg_ls]
      subst h2
      by_cases h3 : j = k
      · rw [if_pos h3, if_pos ⟨rfl, h3, rfl⟩]
      · rw [if_neg h3, if_neg (fun q => h3 q.2.1)]
    · rw [if_neg h2, if_neg (fun q => h2 q.2.2)]
  · rw [if_neg h1, if_neg (fun q => h1 q.1)]
theorem gV_sL (γ : St) (c k : Nat) (v : Int64) (a b j : Nat) : gV (sL γ c k v) a b j = gV γ a b j := rfl
theorem gV_sR (γ : St) (c k : Nat) (v : Option Nat) (a b j : Nat) : gV (sR γ c k v) a b j = gV γ a b j := rfl
theorem gL_sV (γ : St) (c n k : Nat) (v : Int32) (a j : Nat) : gL (sV γ c n k v) a j = gL γ a j := rfl
theorem gL_sL (γ : St) (c k : Nat) (v : Int64) (a j : Nat) : gL (sL γ c k v) a j = if a = c ∧ j = k then v else gL γ a j := by
  unfold gL sL
  dsimp only
  rw [lg_ls]
  by_cases h1 : a = c
  · rw [if_pos h1, lg_ls]
    subst h1
    by_cases h3 : j = k
    · rw [if_pos h3, if_pos ⟨rfl, h3⟩]
    · rw [if_neg h3, if_neg (fun q => h3 q.2)]
  · rw [if_neg h1, if_neg (fun q => h1 q.1)]
theorem gL_sR (γ : St) (c k : Nat) (v : Option Nat) (a j : Nat) : gL (sR γ c k v) a j = gL γ a j := rfl
theorem gR_sV (γ : St) (c n k : Nat) (v : Int32) (a j : Nat) : gR (sV γ c n k v) a j = gR γ a j := rfl
theorem gR_sL (γ : St) (c k : Nat) (v : Int64) (a j : Nat) : gR (sL γ c k v) a j = gR γ a j := rfl
theorem gR_sR (γ : St) (c k : Nat) (v : Option Nat) (a j : Nat) : gR (sR γ c k v) a j = if a = c ∧ j = k then v else gR γ a j := by
  unfold gR sR
  dsimp only
  rw [lg_ls]
  by_cases h1 : a = c
  · rw [if_pos h1, lg_ls]
    subst h1
    by_cases h3 : j = k
    · rw [if_pos h3, if_pos ⟨rfl, h3⟩]
    · rw [if_neg h3, if_neg (fun q => h3 q.2)]
  · rw [if_neg h1, if_neg (fun q => h1 q.1)]
theorem sV_sV (γ : St) (c n k : Nat) (v w : Int32) : sV (sV γ c n k v) c n k w = sV γ c n k w := by
  unfold sV
  dsimp only
  rw [ls_ls, lg_ls, if_pos rfl, ls_ls, lg_ls, if_pos rfl, ls_ls]
def cel0 (kc : Nat → ClassId) (ad : Nat → Nat → Nat) (v : Nat → Int32) (x : Nat → Int64) (r : Nat → Option Nat) (c n : Nat) : va_E := match c with
  | 0 => .inr (0, [.ref (ad 2 (2 * n)), .ref (ad 2 (2 * n + 1)), .int (v 2), .int (v 3), .int (v 4), .int (v 5), .int (v 6), .int (v 7), .int (v 8), .int (v 9)])
  | 1 => .inr (1, [.ref (ad 16 n), .ref (ad 17 n), .int (v 2)])
  | 2 => .inr (2, [.int (v 0), .int (v 1), .int (v 2), .int (v 3)])
  | 3 => .inr (3, [.long (x 0)])
  | 4 => .inr (4, [.ref (ad 11 n), .ref (ad 12 n), .ref (ad 13 n), .ref (ad 14 n), .ref (ad 15 n), .ref (ad 6 (n)), .int (v 6)])
  | 5 => .inr (5, [.int (v 0), .int (v 1), .ref (ad 18 n), .ref (ad 19 n), .int (v 4)])
  | 6 => .inr (6, [.int (v 0), .int (v 1), .int (v 2), .int (v 3), .int (v 4)])
  | 7 => .inr (7, [.ref (ad 9 0), .ref (ad 10 0), .ref (ad 4 (0)), .ref (ad 1 (0)), .ref (ad 3 (0)), .int (v 5), .int (v 6), .int (v 7), va_rf ((r 8).map (ad 0)), .int (v 9)])
  | 9 => .inl (kc 2, (80, .inr (.inr (.inr (.inr (fun j => (r j).map (ad 0)))))))
  | 10 => .inl (kc 3, (6, .inr (.inr (.inr (.inr (fun j => (r j).map (ad 5)))))))
  | 11 => .inl (kc 0, (24, .inl v))
  | 12 => .inl (kc 0, (24, .inl v))
  | 13 => .inl (kc 0, (24, .inl v))
  | 14 => .inl (kc 0, (24, .inl v))
  | 15 => .inl (kc 0, (24, .inl v))
  | 16 => .inl (kc 0, (32, .inl v))
  | 17 => .inl (kc 0, (16, .inl v))
  | 18 => .inl (kc 0, (48, .inl v))
  | _ => .inl (kc 0, (12, .inl v))
noncomputable def cel (κ : KP) (γ : St) (c n : Nat) : va_E := cel0 (kC κ) (kA κ) (gV γ c n) (gL γ c) (gR γ c) c n
/-- which things there are: class (or array) c, number n -/
def lv (κ : KP) (c n : Nat) : Prop := if c = 0 then n < kN κ else if c = 2 then n < 2 * kN κ else if c = 5 ∨ c = 18 ∨ c = 19 then n < kO κ else (c < 20 ∧ c ≠ 8) ∧ n = 0
def WT (κ : KP) (γ : St) : Prop := ∀ c k b, gR γ c k = some b → b < (if c = 10 then kO κ else kN κ)
def HR (κ : KP) (γ : St) (H : Heap) : Prop :=
  (∀ c n, lv κ c n → va_at (kD κ) vwCl (kA κ c n, cel κ γ c n) H ∧ kB κ ≤ kA κ c n) ∧
  (∀ c n c' n', lv κ c n → lv κ c' n' → kA κ c n = kA κ c' n' → c = c' ∧ n = n') ∧ WT κ γ
abbrev tysK (κ : KP) : List (ClassId × FieldType) := [(kC κ 0, .int), (kC κ 1, .int), (kC κ 2, .object "Phrasehall$Bout"), (kC κ 3, .object "Phrasehall$Pool")]
theorem va_one {D : va_G} {cl : List vw_C} {q : Nat × va_E} {H : Heap} (h : va_at D cl q H) : va_P D cl [q] H := fun k x hk => by
  cases k with
  | zero => cases hk; exact h
  | succ k => simp at hk
theorem HR.at {κ : KP} {γ : St} {H : Heap} (h : HR κ γ H) {c n : Nat} (hv : lv κ c n) : va_P (kD κ) vwCl [(kA κ c n, cel κ γ c n)] H := va_one (h.1 c n hv).1
theorem HR.lt {κ : KP} {γ : St} {H : Heap} (h : HR κ γ H) {c n : Nat} (hv : lv κ c n) : kA κ c n < H.size := (h.1 c n hv).1.lt
theorem HR.wt {κ : KP} {γ : St} {H : Heap} (h : HR κ γ H) : WT κ γ := h.2.2
theorem cel_sV {κ : KP} {γ : St} {c n k : Nat} {v : Int32} {c' n' : Nat} (h : ¬ (c' = c ∧ n' = n)) : cel κ (sV γ c n k v) c' n' = cel κ γ c' n' := by
  have e : gV (sV γ c n k v) c' n' = gV γ c' n' := by
    funext j
    rw [gV_sV, if_neg (fun q => h ⟨q.1, q.2.2⟩)]
  unfold cel
  rw [e]
  rfl
theorem cel_sL {κ : KP} {γ : St} {c k : Nat} {v : Int64} {c' n' : Nat} (h : ¬ c' = c) : cel κ (sL γ c k v) c' n' = cel κ γ c' n' := by
  have e : gL (sL γ c k v) c' = gL γ c' := by
    funext j
    rw [gL_sL, if_neg (fun q => h q.1)]
  unfold cel
  rw [e]
  rfl
theorem cel_sR {κ : KP} {γ : St} {c k : Nat} {v : Option Nat} {c' n' : Nat} (h : ¬ c' = c) : cel κ (sR γ c k v) c' n' = cel κ γ c' n' := by
  have e : gR (sR γ c k v) c' = gR γ c' := by
    funext j
    rw [gR_sR, if_neg (fun q => h q.1)]
  unfold cel
  rw [e]
  rfl
theorem HR.put {κ : KP} {γ γ' : St} {H H1 : Heap} (h : HR κ γ H) {c n : Nat} (hv : lv κ c n) (he : va_at (kD κ) vwCl (kA κ c n, cel κ γ' c n) H1) (oq : ∀ q : Nat, q ≠ kA κ c n → H1[q]? = H[q]?)
    (hc : ∀ c' n', lv κ c' n' → ¬ (c' = c ∧ n' = n) → cel κ γ' c' n' = cel κ γ c' n') (hw : WT κ γ') : HR κ γ' H1 := by
  refine ⟨fun c' n' hl => ?_, h.2.1, hw⟩
  by_cases e : c' = c ∧ n' = n
  · obtain ⟨rfl, rfl⟩ := e
    exact ⟨he, (h.1 _ _ hv).2⟩
  · rw [hc c' n' hl e]
    have h1 := h.1 c' n' hl
    exact ⟨h1.1.kept (oq _ (fun z => e (h.2.1 c' n' c n hl hv z))), h1.2⟩
theorem WT_sV {κ : KP} {γ : St} {c n k : Nat} {v : Int32} (h : WT κ γ) : WT κ (sV γ c n k v) := h
theorem WT_sL {κ : KP} {γ : St} {c k : Nat} {v : Int64} (h : WT κ γ) : WT κ (sL γ c k v) := h
theorem WT_sR {κ : KP} {γ : St} {c k : Nat} {v : Option Nat} (h : WT κ γ) (hv : ∀ b, v = some b → b < (if c = 10 then kO κ else kN κ)) : WT κ (sR γ c k v) := by
  intro c' k' b hb
  rw [gR_sR] at hb
  by_cases e : c' = c ∧ k' = k
  · rw [if_pos e] at hb
    rw [e.1]
    exact hv b hb
  · rw [if_neg e] at hb
    exact h c' k' b hb
theorem upd_sV {γ : St} {c n k : Nat} {v : Int32} : gV (sV γ c n k v) c n = upd (gV γ c n) k v := by
  funext j
  rw [gV_sV]
  by_cases e : j = k
  · simp [upd, e]
  · simp [upd, e]
theorem updL_sL {γ : St} {c k : Nat} {v : Int64} : gL (sL γ c k v) c = vp_updL (gL γ c) k v := by
  funext j
  rw [gL_sL]
  by_cases e : j = k
  · simp [vp_updL, e]
  · simp [vp_updL, e]
/-! ===== what stays true of the tables and of Throwable's statics ===== -/
def kwd : Cond → Bool
  | .fieldLinkNest .. | .methodLinkNest .. | .castable .. | .declares .. => true
  | _ => false
def TW : List Cond := lw_tbl.filter goodWord
def NW : List Cond := lw_tbl.filter kwd
theorem tw_in {w : Cond} (i : Nat) (h : lw_tbl[i]? = some w) (hg : goodWord w = true) : w ∈ TW := List.mem_filter.mpr ⟨List.mem_of_getElem? h, hg⟩
theorem nw_in {w : Cond} (i : Nat) (h : lw_tbl[i]? = some w) (hg : kwd w = true) : w ∈ NW := List.mem_filter.mpr ⟨List.mem_of_getElem? h, hg⟩
theorem nw_warm {w : Cond} (hk : kwd w = true) {s U : State} (hW : s.WarmedH U.vm) (h : w.before #[] s = true) : w.before #[] U = true := by
  cases w <;> first
    | (exact absurd hk (by decide))
    | (exact va_Nw.warmF hW h)
    | (exact va_Nw.warmM hW h)
    | (exact va_Nw.warmC hW h)
    | (exact va_tabs rfl (rfl : (s.setVm U.vm).vm = U.vm) (by rw [Cond.declares_setVm hW.alike]; exact h))
    | (simp [kwd] at hk)
theorem nw_use {w : Cond} (hk : kwd w = true) {A : Array Value} {U : State} (h : w.before #[] U = true) : w.before A U = true := by
  have ho : w.onTables = true := by cases w <;> first | rfl | (simp [kwd] at hk)
  exact va_tabs ho rfl h
def nISE : String := "java/lang/IllegalStateException"
def nIAE : String := "java/lang/IllegalArgumentException"
def nIOB : String := "java/lang/IndexOutOfBoundsException"
def eNm : Nat → String
  | 1 => "java/lang/IllegalStateException"
  | 2 => "java/lang/IllegalArgumentException"
  | _ => "java/lang/IndexOutOfBoundsException"
def exNames : List String := ["java/lang/RuntimeException", "java/lang/Exception"]
def NC : List (String × String) := [("java/lang/IllegalStateException", "java/lang/IllegalArgumentException"), ("java/lang/IllegalStateException", "java/lang/IndexOutOfBoundsException"), ("java/lang/IllegalArgumentException", "java/lang/IndexOutOfBoundsException"), ("java/lang/IllegalArgumentException", "java/lang/IllegalStateException"), ("java/lang/IndexOutOfBoundsException", "java/lang/IllegalArgumentException"), ("java/lang/IndexOutOfBoundsException", "java/lang/IllegalStateException")]
def SR : List (Nat × String) := [(61, "there are 12 fencers"), (267, "no such bout"), (269, "what is out of range"), (300, "no such pool, or it does not have that fencer"), (286, "no such pool or place"), (315, "no such match"), (244, "side is out of range"), (76, "no such fencer or pool"), (85, "fencers, weapon or touches do not make a bout"), (91, "the pool does not have both"), (96, "one of them withdrew from the pool"), (98, "a bout is on the piste, or there were 80"), (111, "side, kind or time is out of range"), (310, "no bout, time runs back, or the phrase is full"), (121, "side or time is out of range"), (123, "span or target is out of range"), (302, "no bout is on the piste"), (154, "side or group is out of range"), (160, "seconds is out of range"), (182, "seed is out of range"), (194, "fencers are not there, or fewer than 2"), (196, "there are 6 pools"), (209, "the fencer withdrew, or is on the piste"), (227, "no such pool"), (232, "fewer than 2 have a rank"), (250, "the match does not have both yet, or is won")]
def XZ (B0 : Nat) (U : State) (H : Heap) : Prop := vx_Zq Bundle.tN "UNASSIGNED_STACK" Bundle.steD (fun q => B0 ≤ q) U H ∧ vx_Zq Bundle.tN "SUPPRESSED_SENTINEL" Bundle.listD (fun q => B0 ≤ q) U H
def XT (U : State) : Prop := (∀ w ∈ TW, w.before #[] U = true) ∧ (∀ w ∈ NW, w.before #[] U = true) ∧ (∀ q ∈ SR, ∃ sa, vk_R "Phrasehall" q.1 q.2 sa U) ∧ (∀ q ∈ NC, va_Nc q.1 q.2 U)
theorem XZ.moved {B0 : Nat} {u U : State} {H : Heap} (hvm : u.vm.Alike U.vm) (h : XZ B0 u H) : XZ B0 U H := ⟨h.1.moved hvm, h.2.moved hvm⟩
theorem XZ.kept {B0 : Nat} {U : State} {H H1 : Heap} (h : XZ B0 U H) (hq : ∀ a : Nat, a < H.size → ¬ B0 ≤ a → H1[a]? = H[a]?) : XZ B0 U H1 := ⟨h.1.kept hq, h.2.kept hq⟩
theorem tw_use {w : Cond} (h : goodWord w = true) {A A' : Array Value} {s U : State} (hW : s.WarmedH U.vm) (hb : w.before A s = true) : w.before A' U = true := word_at hW (good_of_word h) hb
theorem va_Nc_moved {a b : String} {s U : State} (hvm : s.vm.Alike U.vm) (h : va_Nc a b s) : va_Nc a b U := by
  obtain ⟨c, t, h1, h2, h3⟩ := h
  exact ⟨c, t, by rw [hvm.findClass]; exact h1, by rw [hvm.findClass]; exact h2, by rw [hvm.assignable]; exact h3⟩
theorem XT.warm {s U : State} (hW : s.WarmedH U.vm) (h : XT s) : XT U := by
  obtain ⟨h1, h2, h3, h4⟩ := h
  refine ⟨fun w hw => tw_use (List.mem_filter.mp hw).2 hW (h1 w hw), fun w hw => nw_warm (List.mem_filter.mp hw).2 hW (h2 w hw), fun q hq => ?_, fun q hq => va_Nc_moved hW.alike (h4 q hq)⟩
  obtain ⟨sa, hs⟩ := h3 q hq
  exact ⟨sa, vk_R.warm hW hs⟩
/-- what every method of both systems stands on -/
def GG (κ : KP) (γ : St) (U : State) : Prop := HR κ γ U.heap ∧ va_K (kD κ) vwCl (tysK κ) U ∧ kB κ ≤ U.heap.size ∧ XT U ∧ XZ (kB κ) U U.heap
theorem GG.blind {κ : KP} {γ : St} {av : List Value} : FrameBlind (va_Pc av (GG κ γ)) := fun a U g mk q => by
  obtain ⟨h0, h1, h2, h3, h4, h5⟩ := q
  exact ⟨h0, h1, va_K.moved (u := U) (U := U.calling g mk a) (Vm.Alike.refl U.vm) h2, h3, h4.warm (State.WarmedH.refl U), XZ.moved (u := U) (U := U.calling g mk a) (Vm.Alike.refl U.vm) h5⟩
/-- what a method hands back -/
def QQ (κ : KP) (γ : St) (v : Option Value) : Array Value → State → Outcome → State → Prop := fun _ st o t => o = .returned v ∧ HR κ γ t.heap ∧ va_F (AA κ) st t
/-- .. that may throw: its number (0: none), its answer, the state behind it -/
def QX (κ : KP) (γ : St) (n : Nat) (v : Option Value) : Array Value → State → Outcome → State → Prop := fun _ st o t => n = 0 ∧ o = .returned v ∧ HR κ γ t.heap ∧ va_F (AA κ) st t
def XX (κ : KP) (γ : St) (n : Nat) : String → State → State → Prop := fun E st t => n ≠ 0 ∧ E = eNm n ∧ HR κ γ t.heap ∧ va_F (AA κ) st t
/-- a method's context -/
def CX (κ : KP) (cc : ByteArray) (own : String) (nL : Nat) (p : Program) (l : Launch) (s : State) (m : MethodId) (args : Array Value) (meth : Method) (c : Code) : Prop :=
  p.tables.exec = Jvm.exec ∧ c.code = cc ∧ s.vm.findClass own = some m.cls ∧ (∀ w ∈ TW, w.before args s = true) ∧ va_K (kD κ) vwCl (tysK κ) s ∧ XT s ∧ XZ (kB κ) s s.heap ∧ kB κ ≤ s.heap.size ∧ c.maxLocals = nL ∧ meth.locks = false
