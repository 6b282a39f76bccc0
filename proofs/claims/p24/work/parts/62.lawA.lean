/-! THE CLAIM OUT OF ONE WALK OF THE LAW'S BODY. Your part is whole_start (and what it stands on); all else here is the same for every law, but numbers. -/
def R_law : String := "PhrasehallLaw"
def lw_P (b : Addr) (xs : List Int32) (args : Array Value) (s : State) : Prop := args = #[.ref b] ∧ s.IntsAt b xs ∧ xs.length ≤ 260 ∧ (Jvm.Cond.and given_1 narrow_1).before args s = true
def lw_Q (_ : Array Value) (s : State) (o : Outcome) (t : State) : Prop := o = .returned (some (.int 1)) ∧ Framed s o t [] 600086 7301442
def lw_Z (below : List Frame) (a : Array Value) (s : State) : State → Prop := fun t => ∃ o, t.status = .running ∧ Ended t below o ∧ lw_Q a s o t
/-- the law's own end, with 1 on the stack, nothing written that was there before, its room as the claim has it -/
theorem lw_ret {p : Program} {l : Launch} {e : Env} {s : State} {m : MethodId} {below : List Frame} {meth : Method} {c : Code} {b : Nat} (hx : p.tables.exec = Jvm.exec) (hb : c.code = code) (hr : meth.sig.returnType = ret) (hlocks : meth.locks = false) {pc : Nat} {H : Heap} {ls : Array Slot} (hdg : decode code pc = .ok (.ireturn, 1)) : W p l e room_1 s m #[Value.ref b] below meth c H [] 600086 7301442 (lw_Z below #[Value.ref b] s) (F0 m pc ls [.int 1]) := by
  intro T hT X
  obtain ⟨fs, hret, hrun, hended, hW, hframe⟩ := X.leave (v := some (.int 1)) (hlocks := hlocks) (fun h => by rw [hr] at h; cases h)
  have hmeth' : T.vm.method? m = some meth := X.method'
  refine ⟨T.setFrames fs, ?_, .returned (some (.int 1)), hrun, hended, rfl, ⟨_, rfl⟩, hW, hframe⟩
  jvm_step X.here [X.here.top, hx, hb, hdg, hmeth', hr, ret, narrow_b1]
  (try refine ⟨rfl, ?_⟩); (try refine ⟨rfl, ?_⟩)
  first | (intro acts; rw [hret _ acts rfl rfl rfl]) | rw [hret _ _ rfl rfl rfl]
  exact Steps.refl _
/-- what holds at the law's entry: the machine, the code, the tables' words (any of lw_tbl by 'hts w (by decide +kernel)'), the script of L ints xs at the cell b, what the Statement gives of the start (any of its parts by flat_of_before) -/
def lw_At (p : Program) (s : State) (m : MethodId) (meth : Method) (c : Code) (b L : Nat) (xs : Nat → Int32) : Prop :=
  p.tables.exec = Jvm.exec ∧ c.code = code ∧ meth.sig.returnType = ret ∧ c.maxLocals = 21 ∧ s.vm.findClass R_law = some m.cls ∧ (∀ w ∈ lw_tbl, w.before #[Value.ref b] s = true) ∧ va_X b L xs s s.heap ∧ b < s.heap.size ∧ meth.locks = false ∧ (Jvm.Cond.and given_1 narrow_1).before #[Value.ref b] s = true
set_option maxRecDepth 100000 in
set_option maxHeartbeats 8000000 in
theorem w_LA {p : Program} {l : Launch} (hfl : l.stackTraces = false) {e : Env} {s : State} {m : MethodId} {below : List Frame} {meth : Method} {c : Code} {κ : KP} {γ : St} {res : Nat × Int32 × St} (hq : x_LA γ = res) (hk : res.1 = 0) {Q : State → Prop} {b : Nat} (hv : res.2.1 = 1) (hgo : ∀ (H : Heap) (locs : List Loc) (ls : Array Slot) (cells slots : Nat), lv_has ls 21 [(0, .ref b)] → HE κ res.2.2 H → va_S (AA κ) s.heap H locs → cells ≤ 3845 → slots ≤ 71864 → W p l e room_1 s m #[Value.ref b] below meth c H locs cells slots Q (F0 m 64 ls [])) {H : Heap} {locs : List Loc} {ls : Array Slot} {cells slots : Nat} (hC : CX κ cL_law "PhrasehallLaw" 21 p l s m #[Value.ref b] meth c) (hH : HE κ γ H) (hS : va_S (AA κ) s.heap H locs) (hl : lv_has ls 21 [(0, .ref b), (1, .ref (kA κ 7 0))]) (hc1 : cells + 3831 ≤ 3845) (hc2 : slots + 71584 ≤ 71864) : W p l e room_1 s m #[Value.ref b] below meth c H locs cells slots (Q) (F0 m 8 ls []) := by
  obtain ⟨hx, hb, hown, hT, -, -, -, -, hml, hlk⟩ := id hC
  have b_70 : ∀ (γ : St) (H : Heap) (locs : List Loc) (ls : Array Slot) (cells slots : Nat), lv_has ls 21 [] → HE κ γ H → va_S (AA κ) s.heap H locs → cells + (0) ≤ 3845 → slots + (0) ≤ 71864 → x_LA_70 γ = res → W p l e room_1 s m #[Value.ref b] below meth c H locs cells slots (Q) (F0 m 70 ls []) := by
    intro γ H locs ls cells slots hl hH hS hc1 hc2 hq
    refine lv_iconst (v := 0) hx hb dL_law_70 (by decide) ?_
    subst hq
    exact absurd (show (0 : Int32) = 1 from hv) (by decide)
  have b_61 : ∀ (s0 : Int32) (γ : St) (H : Heap) (locs : List Loc) (ls : Array Slot) (cells slots : Nat), lv_has ls 21 [(0, .ref b)] → HE κ γ H → va_S (AA κ) s.heap H locs → cells + (0) ≤ 3845 → slots + (0) ≤ 71864 → x_LA_61 s0 γ = res → W p l e room_1 s m #[Value.ref b] below meth c H locs cells slots (Q) (F0 m 61 ls [.int s0]) := by
    intro s0 γ H locs ls cells slots hl hH hS hc1 hc2 hq
    refine lv_if_eq (tgt := 70) hx hb dL_law_61 (by decide) (fun c45 => ?_) (fun c45 => ?_)
    · have hq := ifpe hq c45
      exact b_70 γ _ _ _ _ _ (lv_sub hl [] rfl) hH hS (by omega) (by omega) hq
    · have hq := ifne hq c45
      subst hq
      exact hgo _ _ _ _ _ (lv_sub hl [0] rfl) hH hS (by omega) (by omega)
  have b_54 : ∀ (s0 : Int32) (γ : St) (H : Heap) (locs : List Loc) (ls : Array Slot) (cells slots : Nat), lv_has ls 21 [(0, .ref b), (1, .ref (kA κ 7 0))] → HE κ γ H → va_S (AA κ) s.heap H locs → cells + (1127) ≤ 3845 → slots + (17572) ≤ 71864 → x_LA_54 s0 γ = res → W p l e room_1 s m #[Value.ref b] below meth c H locs cells slots (Q) (F0 m 54 ls [.int s0]) := by
    intro s0 γ H locs ls cells slots hl hH hS hc1 hc2 hq
    refine lv_if_eq (tgt := 70) hx hb dL_law_54 (by decide) (fun c46 => ?_) (fun c46 => ?_)
    · have hq := ifpe hq c46
      exact b_70 γ _ _ _ _ _ (lv_sub hl [] rfl) hH hS (by omega) (by omega) hq
    · have hq := ifne hq c46
      refine lv_aload_n hx hb dL_law_57 rfl (lv_at hl 1 rfl) ?_
      by_cases he47 : (x_L_pools γ).1 = 0
      rotate_left
      · exact flag_bad (ifne hq he47) hk
      have hq := ifpe hq he47
      refine e_callS (rest := []) hC hl hH hS (c_L_pools l hfl κ γ he47) tw_921 tw_922 tw_37 tw_923 hd_L_pools ⟨Nat.le_of_ble_eq_true rfl, Nat.le_of_ble_eq_true rfl⟩ rfl rfl rfl rfl (Nat.le_of_ble_eq_true rfl) dL_law_58 ⟨by show _ ≤ 600086; omega, by show _ ≤ 7301442; omega⟩ rfl (fun H locs hH hS => ?_)
      exact b_61 ((x_L_pools γ).2.1) (x_L_pools γ).2.2 _ _ _ _ _ (lv_sub hl [0] rfl) hH hS (by omega) (by omega) hq
  have b_47 : ∀ (s0 : Int32) (γ : St) (H : Heap) (locs : List Loc) (ls : Array Slot) (cells slots : Nat), lv_has ls 21 [(0, .ref b), (1, .ref (kA κ 7 0))] → HE κ γ H → va_S (AA κ) s.heap H locs → cells + (2137) ≤ 3845 → slots + (36792) ≤ 71864 → x_LA_47 s0 γ = res → W p l e room_1 s m #[Value.ref b] below meth c H locs cells slots (Q) (F0 m 47 ls [.int s0]) := by
    intro s0 γ H locs ls cells slots hl hH hS hc1 hc2 hq
    refine lv_if_eq (tgt := 70) hx hb dL_law_47 (by decide) (fun c48 => ?_) (fun c48 => ?_)
    · have hq := ifpe hq c48
      exact b_70 γ _ _ _ _ _ (lv_sub hl [] rfl) hH hS (by omega) (by omega) hq
    · have hq := ifne hq c48
      refine lv_aload_n hx hb dL_law_50 rfl (lv_at hl 1 rfl) ?_
      by_cases he49 : (x_L_bouts γ).1 = 0
      rotate_left
      · exact flag_bad (ifne hq he49) hk
      have hq := ifpe hq he49
      refine e_callS (rest := []) hC hl hH hS (c_L_bouts l hfl κ γ he49) tw_906 tw_907 tw_37 tw_908 hd_L_bouts ⟨Nat.le_of_ble_eq_true rfl, Nat.le_of_ble_eq_true rfl⟩ rfl rfl rfl rfl (Nat.le_of_ble_eq_true rfl) dL_law_51 ⟨by show _ ≤ 600086; omega, by show _ ≤ 7301442; omega⟩ rfl (fun H locs hH hS => ?_)
      exact b_54 ((x_L_bouts γ).2.1) (x_L_bouts γ).2.2 _ _ _ _ _ (lv_sub hl [0, 1] rfl) hH hS (by omega) (by omega) hq
  have b_22 : ∀ (k22 : Nat) (a2 : Int32) (γ : St) (H : Heap) (locs : List Loc) (ls : Array Slot) (cells slots : Nat), lv_has ls 21 [(0, .ref b), (1, .ref (kA κ 7 0)), (2, .int a2)] → HE κ γ H → va_S (AA κ) s.heap H locs → cells + (3212 + 1 * k22) ≤ 3845 → slots + (58282 + 6 * k22) ≤ 71864 → x_LA_22 k22 a2 γ = res → W p l e room_1 s m #[Value.ref b] below meth c H locs cells slots (Q) (F0 m 22 ls []) := by
    intro k22
    induction k22 with
    | zero =>
      intro a2 γ H locs ls cells slots hl hH hS hc1 hc2 hq
      exact flag_bad hq hk
    | succ k22 ih_22 =>
      have b_31 : ∀ (a2 : Int32) (s0 : Int32) (γ : St) (H : Heap) (locs : List Loc) (ls : Array Slot) (cells slots : Nat), lv_has ls 21 [(0, .ref b), (1, .ref (kA κ 7 0)), (2, .int a2)] → HE κ γ H → va_S (AA κ) s.heap H locs → cells + (3212 + 1 * k22) ≤ 3845 → slots + (58282 + 6 * k22) ≤ 71864 → x_LA_31 (x_LA_22 k22) a2 s0 γ = res → W p l e room_1 s m #[Value.ref b] below meth c H locs cells slots (Q) (F0 m 31 ls [.int s0]) := by
        intro a2 s0 γ H locs ls cells slots hl hH hS hc1 hc2 hq
        refine lv_iload_n hx hb dL_law_31 rfl (lv_at hl 2 rfl) ?_
        refine lv_icmp_eq (tgt := 37) hx hb dL_law_32 (by decide) (fun c50 => ?_) (fun c50 => ?_)
        · have hq := ifpe hq c50
          refine lv_iinc (v := a2 + 1) (lv' := [(2, .int (a2 + 1)), (0, .ref b), (1, .ref (kA κ 7 0))]) hx hb dL_law_37 hl (k := 2) rfl rfl (by decide) rfl (fun ls hl => ?_)
          refine lv_goto (tgt := 22) hx hb dL_law_40 (by decide) ?_
          exact ih_22 (a2 + 1) γ _ _ _ _ _ (lv_sub hl [1, 2, 0] rfl) hH hS (by omega) (by omega) hq
        · have hq := ifne hq c50
          refine lv_iconst (v := 0) hx hb dL_law_35 (by decide) ?_
          subst hq
          exact absurd (show (0 : Int32) = 1 from hv) (by decide)
      intro a2 γ H locs ls cells slots hl hH hS hc1 hc2 hq
      refine lv_iload_n hx hb dL_law_22 rfl (lv_at hl 2 rfl) ?_
      refine lv_iconst (v := 4) hx hb dL_law_23 (by decide) ?_
      refine lv_icmp_ge (tgt := 43) hx hb dL_law_24 (by decide) (fun c51 => ?_) (fun c51 => ?_)
      · have hq := ifpe hq c51
        refine lv_aload_n hx hb dL_law_43 rfl (lv_at hl 1 rfl) ?_
        by_cases he52 : (x_L_foil γ).1 = 0
        rotate_left
        · exact flag_bad (ifne hq he52) hk
        have hq := ifpe hq he52
        refine e_callS (rest := []) hC hl hH hS (c_L_foil l hfl κ γ he52) tw_850 tw_851 tw_37 tw_852 hd_L_foil ⟨Nat.le_of_ble_eq_true rfl, Nat.le_of_ble_eq_true rfl⟩ rfl rfl rfl rfl (Nat.le_of_ble_eq_true rfl) dL_law_44 ⟨by show _ ≤ 600086; omega, by show _ ≤ 7301442; omega⟩ rfl (fun H locs hH hS => ?_)
        exact b_47 ((x_L_foil γ).2.1) (x_L_foil γ).2.2 _ _ _ _ _ (lv_sub hl [0, 1] rfl) hH hS (by omega) (by omega) hq
      · have hq := ifne hq c51
        refine lv_aload_n hx hb dL_law_27 rfl (lv_at hl 1 rfl) ?_
        refine e_xcallV (rest := []) hC hl hH hS (co_fencer l hfl κ γ) tw_178 tw_179 tw_180 tw_38 tw_181 hd_X7_fencer ⟨Nat.le_of_ble_eq_true rfl, Nat.le_of_ble_eq_true rfl⟩ rfl rfl rfl rfl (Nat.le_of_ble_eq_true rfl) dL_law_28 ⟨by show _ ≤ 600086; omega, by show _ ≤ 7301442; omega⟩ rfl (fun he53 ce q9 H locs hH hS hce hcv hcl => ?_) (fun he53 H locs hH hS => ?_)
        · exact flag_bad (ifne hq he53) hk
        have hq := ifpe hq he53
        exact b_31 a2 ((x_X7_fencer γ).2.1) (x_X7_fencer γ).2.2 _ _ _ _ _ (lv_sub hl [0, 1, 2] rfl) hH hS (by omega) (by omega) hq
  have b_15 : ∀ (s0 : Int32) (γ : St) (H : Heap) (locs : List Loc) (ls : Array Slot) (cells slots : Nat), lv_has ls 21 [(0, .ref b), (1, .ref (kA κ 7 0))] → HE κ γ H → va_S (AA κ) s.heap H locs → cells + (3217) ≤ 3845 → slots + (58312) ≤ 71864 → x_LA_15 s0 γ = res → W p l e room_1 s m #[Value.ref b] below meth c H locs cells slots (Q) (F0 m 15 ls [.int s0]) := by
    intro s0 γ H locs ls cells slots hl hH hS hc1 hc2 hq
    refine lv_if_ne (tgt := 20) hx hb dL_law_15 (by decide) (fun c54 => ?_) (fun c54 => ?_)
    · have hq := ifne hq c54
      refine lv_iconst (v := 0) hx hb dL_law_20 (by decide) ?_
      refine lv_istore_n (lv' := [(2, .int 0), (0, .ref b), (1, .ref (kA κ 7 0))]) hx hb dL_law_21 rfl hl (by decide) rfl (fun ls hl => ?_)
      exact b_22 5 0 γ _ _ _ _ _ (lv_sub hl [1, 2, 0] rfl) hH hS (by omega) (by omega) hq
    · have hq := ifpe hq c54
      refine lv_iconst (v := 0) hx hb dL_law_18 (by decide) ?_
      subst hq
      exact absurd (show (0 : Int32) = 1 from hv) (by decide)
  refine lv_aload_n hx hb dL_law_8 rfl (lv_at hl 1 rfl) ?_
  refine lv_iconst (v := 0) hx hb dL_law_9 (by decide) ?_
  refine lv_iconst (v := 0) hx hb dL_law_10 (by decide) ?_
  refine lv_iconst (v := 0) hx hb dL_law_11 (by decide) ?_
  by_cases he55 : (x_L_refuses 0 0 0 γ).1 = 0
  rotate_left
  · exact flag_bad (ifne hq he55) hk
  have hq := ifpe hq he55
  refine e_callS (rest := []) hC hl hH hS (c_L_refuses l hfl κ γ 0 0 0 he55) tw_841 tw_842 tw_37 tw_843 hd_L_refuses ⟨Nat.le_of_ble_eq_true rfl, Nat.le_of_ble_eq_true rfl⟩ rfl rfl rfl rfl (Nat.le_of_ble_eq_true rfl) dL_law_12 ⟨by show _ ≤ 600086; omega, by show _ ≤ 7301442; omega⟩ rfl (fun H locs hH hS => ?_)
  exact b_15 ((x_L_refuses 0 0 0 γ).2.1) (x_L_refuses 0 0 0 γ).2.2 _ _ _ _ _ (lv_sub hl [0, 1] rfl) hH hS (by omega) (by omega) hq
