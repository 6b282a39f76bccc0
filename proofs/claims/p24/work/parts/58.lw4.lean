set_option maxRecDepth 20000 in
set_option maxHeartbeats 4000000 in
theorem c_L_pools (l : Launch) (hfl : l.stackTraces = false) (κ : KP) (γ : St) (hk : (x_L_pools γ).1 = 0) : Met l yL_pools [Cond.code yL_pools cL_pools 1 (some .boolean)] ({ frames := 10, cells := 1127, slots := 17572, locals := 227 } : Room) (va_Pc [.ref (kA κ 7 0)] (GW κ γ)) (QL κ (x_L_pools γ).2.2 (some (.int (x_L_pools γ).2.1))) 1127 17572 (AA κ) := by
  generalize hq : x_L_pools γ = res at hk ⊢
  refine Met.ofW (cc := cL_pools) (maxL := 1) (ret := (some .boolean)) (by decide) rfl ?_
  intro p e s m args below meth c s₁ B hml9 hv
  obtain ⟨rfl, hH, hK9, hB9, hX9, hZ9⟩ := hv
  have hC : CX κ cL_pools "PhrasehallLaw" 1 p l s m ([.ref (kA κ 7 0)] : List Value).toArray meth c := ⟨B.exec, B.bytes, findClass_of_methodNamed B.named, fun w hw => tw_use (List.mem_filter.mp hw).2 (State.WarmedH.refl s) (hX9.1 w hw), hK9, hX9, hZ9, hB9, hml9, B.notSynchronized⟩
  obtain ⟨hx, hb, hown, hT, -, -, -, -, hml, -⟩ := id hC
  have hr := B.returns
  have hS : va_S (AA κ) s.heap s.heap [] := va_S.rf
  have hl := lv_entry ([.ref (kA κ 7 0)]) (n := 1) (Nat.le_of_ble_eq_true rfl)
  rw [lg_entry_eq]
  generalize (lg_sl ([.ref (kA κ 7 0)]) ++ List.replicate (1 - (lg_sl ([.ref (kA κ 7 0)])).length) Slot.unset).toArray = ls at hl ⊢
  have hl : lv_has ls 1 [(0, .ref (kA κ 7 0))] := hl
  have hc1 : 0 + 1127 ≤ 1127 := Nat.le_of_ble_eq_true rfl
  have hc2 : 0 + 17572 ≤ 17572 := Nat.le_of_ble_eq_true rfl
  have b_492 : ∀ (γ : St) (H : Heap) (locs : List Loc) (ls : Array Slot) (cells slots : Nat), lv_has ls 1 [] → HE κ γ H → va_S (AA κ) s.heap H locs → cells + (0) ≤ 1127 → slots + (0) ≤ 17572 → x_L_pools_492 γ = res → W p l e (headSpec [Cond.code yL_pools cL_pools 1 (some .boolean)] ({ frames := 10, cells := 1127, slots := 17572, locals := 227 } : Room)).room s m ([.ref (kA κ 7 0)] : List Value).toArray below meth c H locs cells slots (MQ below (QL κ res.2.2 (some (.int res.2.1))) ([.ref (kA κ 7 0)] : List Value).toArray s 1127 17572 (AA κ)) (F0 m 492 ls []) := by
    intro γ H locs ls cells slots hl hH hS hc1 hc2 hq
    refine lv_iconst (v := 0) hx hb dL_pools_492 (by decide) ?_
    subst hq
    exact er_z hC hr rfl hH hS rfl rfl (by omega) (by omega) dL_pools_493
  have b_783 : ∀ (γ : St) (H : Heap) (locs : List Loc) (ls : Array Slot) (cells slots : Nat), lv_has ls 1 [] → HE κ γ H → va_S (AA κ) s.heap H locs → cells + (0) ≤ 1127 → slots + (0) ≤ 17572 → x_L_pools_783 γ = res → W p l e (headSpec [Cond.code yL_pools cL_pools 1 (some .boolean)] ({ frames := 10, cells := 1127, slots := 17572, locals := 227 } : Room)).room s m ([.ref (kA κ 7 0)] : List Value).toArray below meth c H locs cells slots (MQ below (QL κ res.2.2 (some (.int res.2.1))) ([.ref (kA κ 7 0)] : List Value).toArray s 1127 17572 (AA κ)) (F0 m 783 ls []) := by
    intro γ H locs ls cells slots hl hH hS hc1 hc2 hq
    refine lv_iconst (v := 0) hx hb dL_pools_783 (by decide) ?_
    subst hq
    exact er_z hC hr rfl hH hS rfl rfl (by omega) (by omega) dL_pools_784
  have b_778 : ∀ (s0 : Int32) (γ : St) (H : Heap) (locs : List Loc) (ls : Array Slot) (cells slots : Nat), lv_has ls 1 [(0, .ref (kA κ 7 0))] → HE κ γ H → va_S (AA κ) s.heap H locs → cells + (614) ≤ 1127 → slots + (13272) ≤ 17572 → x_L_pools_778 s0 γ = res → W p l e (headSpec [Cond.code yL_pools cL_pools 1 (some .boolean)] ({ frames := 10, cells := 1127, slots := 17572, locals := 227 } : Room)).room s m ([.ref (kA κ 7 0)] : List Value).toArray below meth c H locs cells slots (MQ below (QL κ res.2.2 (some (.int res.2.1))) ([.ref (kA κ 7 0)] : List Value).toArray s 1127 17572 (AA κ)) (F0 m 778 ls [.int s0]) := by
    intro s0 γ H locs ls cells slots hl hH hS hc1 hc2 hq
    refine lv_bipush (v := (-71)) hx hb dL_pools_778 (by decide) ?_
    refine lv_icmp_eq (tgt := 785) hx hb dL_pools_780 (by decide) (fun c425 => ?_) (fun c425 => ?_)
    · have hq := ifpe hq c425
      refine lv_aload_n hx hb dL_pools_785 rfl (lv_at hl 0 rfl) ?_
      refine lv_iconst (v := 4) hx hb dL_pools_786 (by decide) ?_
      refine lv_iconst (v := 2) hx hb dL_pools_787 (by decide) ?_
      refine lv_bipush (v := 15) hx hb dL_pools_788 (by decide) ?_
      by_cases he426 : (x_L_refuses 4 2 15 γ).1 = 0
      rotate_left
      · exact flag_bad (ifne hq he426) hk
      have hq := ifpe hq he426
      refine e_callS (rest := []) hC hl hH hS (c_L_refuses l hfl κ γ 4 2 15 he426) tw_841 tw_842 tw_37 tw_843 hd_L_refuses ⟨Nat.le_of_ble_eq_true rfl, Nat.le_of_ble_eq_true rfl⟩ rfl rfl rfl rfl (Nat.le_of_ble_eq_true rfl) dL_pools_790 ⟨by show _ ≤ 1127; omega, by show _ ≤ 17572; omega⟩ rfl (fun H locs hH hS => ?_)
      subst hq
      exact er_z hC hr (zN_eq _) hH hS rfl rfl (by omega) (by omega) dL_pools_793
    · have hq := ifne hq c425
      exact b_783 γ _ _ _ _ _ (lv_sub hl [] rfl) hH hS (by omega) (by omega) hq
  have b_764 : ∀ (s0 : Int32) (γ : St) (H : Heap) (locs : List Loc) (ls : Array Slot) (cells slots : Nat), lv_has ls 1 [(0, .ref (kA κ 7 0))] → HE κ γ H → va_S (AA κ) s.heap H locs → cells + (617) ≤ 1127 → slots + (13337) ≤ 17572 → x_L_pools_764 s0 γ = res → W p l e (headSpec [Cond.code yL_pools cL_pools 1 (some .boolean)] ({ frames := 10, cells := 1127, slots := 17572, locals := 227 } : Room)).room s m ([.ref (kA κ 7 0)] : List Value).toArray below meth c H locs cells slots (MQ below (QL κ res.2.2 (some (.int res.2.1))) ([.ref (kA κ 7 0)] : List Value).toArray s 1127 17572 (AA κ)) (F0 m 764 ls [.int s0]) := by
    intro s0 γ H locs ls cells slots hl hH hS hc1 hc2 hq
    refine lv_if_eq (tgt := 783) hx hb dL_pools_764 (by decide) (fun c427 => ?_) (fun c427 => ?_)
    · have hq := ifpe hq c427
      exact b_783 γ _ _ _ _ _ (lv_sub hl [] rfl) hH hS (by omega) (by omega) hq
    · have hq := ifne hq c427
      refine lv_aload_n hx hb dL_pools_767 rfl (lv_at hl 0 rfl) ?_
      refine lv_bipush (v := 18) hx hb dL_pools_768 (by decide) ?_
      refine lv_iconst (v := 1) hx hb dL_pools_770 (by decide) ?_
      refine lv_iconst (v := 0) hx hb dL_pools_771 (by decide) ?_
      refine lv_iconst (v := 0) hx hb dL_pools_772 (by decide) ?_
      refine lv_iconst (v := 0) hx hb dL_pools_773 (by decide) ?_
      refine lv_iconst (v := 0) hx hb dL_pools_774 (by decide) ?_
      refine e_callW (rest := []) hC hl hH hS (c_L_call l hfl κ γ 18 1 0 0 0 0) tw_430 tw_431 tw_37 tw_432 hd_L_call ⟨Nat.le_of_ble_eq_true rfl, Nat.le_of_ble_eq_true rfl⟩ rfl rfl rfl rfl (Nat.le_of_ble_eq_true rfl) dL_pools_775 ⟨by show _ ≤ 1127; omega, by show _ ≤ 17572; omega⟩ rfl (fun H locs hH hS => ?_)
      exact b_778 ((x_L_call 18 1 0 0 0 0 γ).1) (x_L_call 18 1 0 0 0 0 γ).2 _ _ _ _ _ (lv_sub hl [0] rfl) hH hS (by omega) (by omega) hq
  have b_751 : ∀ (s0 : Int32) (γ : St) (H : Heap) (locs : List Loc) (ls : Array Slot) (cells slots : Nat), lv_has ls 1 [(0, .ref (kA κ 7 0))] → HE κ γ H → va_S (AA κ) s.heap H locs → cells + (623) ≤ 1127 → slots + (13373) ≤ 17572 → x_L_pools_751 s0 γ = res → W p l e (headSpec [Cond.code yL_pools cL_pools 1 (some .boolean)] ({ frames := 10, cells := 1127, slots := 17572, locals := 227 } : Room)).room s m ([.ref (kA κ 7 0)] : List Value).toArray below meth c H locs cells slots (MQ below (QL κ res.2.2 (some (.int res.2.1))) ([.ref (kA κ 7 0)] : List Value).toArray s 1127 17572 (AA κ)) (F0 m 751 ls [.int s0]) := by
    intro s0 γ H locs ls cells slots hl hH hS hc1 hc2 hq
    refine lv_iconst (v := 2) hx hb dL_pools_751 (by decide) ?_
    refine lv_icmp_ne (tgt := 783) hx hb dL_pools_752 (by decide) (fun c428 => ?_) (fun c428 => ?_)
    · have hq := ifne hq c428
      exact b_783 γ _ _ _ _ _ (lv_sub hl [] rfl) hH hS (by omega) (by omega) hq
    · have hq := ifpe hq c428
      refine lv_aload_n hx hb dL_pools_755 rfl (lv_at hl 0 rfl) ?_
      refine lv_iconst (v := 0) hx hb dL_pools_756 (by decide) ?_
      refine lv_iconst (v := 0) hx hb dL_pools_757 (by decide) ?_
      refine lv_iconst (v := 3) hx hb dL_pools_758 (by decide) ?_
      refine lv_iconst (v := 0) hx hb dL_pools_759 (by decide) ?_
      refine lv_iconst (v := (-1)) hx hb dL_pools_760 (by decide) ?_
      by_cases he429 : (x_L_match 0 0 3 0 ((-1)) γ).1 = 0
      rotate_left
      · exact flag_bad (ifne hq he429) hk
      have hq := ifpe hq he429
      refine e_callS (rest := []) hC hl hH hS (c_L_match l hfl κ γ 0 0 3 0 ((-1)) he429) tw_933 tw_934 tw_37 tw_935 hd_L_match ⟨Nat.le_of_ble_eq_true rfl, Nat.le_of_ble_eq_true rfl⟩ rfl rfl rfl rfl (Nat.le_of_ble_eq_true rfl) dL_pools_761 ⟨by show _ ≤ 1127; omega, by show _ ≤ 17572; omega⟩ rfl (fun H locs hH hS => ?_)
      exact b_764 ((x_L_match 0 0 3 0 ((-1)) γ).2.1) (x_L_match 0 0 3 0 ((-1)) γ).2.2 _ _ _ _ _ (lv_sub hl [0] rfl) hH hS (by omega) (by omega) hq
  have b_743 : ∀ (s0 : Int32) (γ : St) (H : Heap) (locs : List Loc) (ls : Array Slot) (cells slots : Nat), lv_has ls 1 [(0, .ref (kA κ 7 0))] → HE κ γ H → va_S (AA κ) s.heap H locs → cells + (624) ≤ 1127 → slots + (13379) ≤ 17572 → x_L_pools_743 s0 γ = res → W p l e (headSpec [Cond.code yL_pools cL_pools 1 (some .boolean)] ({ frames := 10, cells := 1127, slots := 17572, locals := 227 } : Room)).room s m ([.ref (kA κ 7 0)] : List Value).toArray below meth c H locs cells slots (MQ below (QL κ res.2.2 (some (.int res.2.1))) ([.ref (kA κ 7 0)] : List Value).toArray s 1127 17572 (AA κ)) (F0 m 743 ls [.int s0]) := by
    intro s0 γ H locs ls cells slots hl hH hS hc1 hc2 hq
    refine lv_if_eq (tgt := 783) hx hb dL_pools_743 (by decide) (fun c430 => ?_) (fun c430 => ?_)
    · have hq := ifpe hq c430
      exact b_783 γ _ _ _ _ _ (lv_sub hl [] rfl) hH hS (by omega) (by omega) hq
    · have hq := ifne hq c430
      refine lv_aload_n hx hb dL_pools_746 rfl (lv_at hl 0 rfl) ?_
      refine lv_iconst (v := 0) hx hb dL_pools_747 (by decide) ?_
      refine e_xcallV (rest := []) hC hl hH hS (co_tableau l hfl κ γ 0) tw_789 tw_790 tw_791 tw_38 tw_792 hd_X7_tableau ⟨Nat.le_of_ble_eq_true rfl, Nat.le_of_ble_eq_true rfl⟩ rfl rfl rfl rfl (Nat.le_of_ble_eq_true rfl) dL_pools_748 ⟨by show _ ≤ 1127; omega, by show _ ≤ 17572; omega⟩ rfl (fun he431 ce q9 H locs hH hS hce hcv hcl => ?_) (fun he431 H locs hH hS => ?_)
      · exact flag_bad (ifne hq he431) hk
      have hq := ifpe hq he431
      exact b_751 ((x_X7_tableau 0 γ).2.1) (x_X7_tableau 0 γ).2.2 _ _ _ _ _ (lv_sub hl [0] rfl) hH hS (by omega) (by omega) hq
  have b_729 : ∀ (s0 : Int32) (γ : St) (H : Heap) (locs : List Loc) (ls : Array Slot) (cells slots : Nat), lv_has ls 1 [(0, .ref (kA κ 7 0))] → HE κ γ H → va_S (AA κ) s.heap H locs → cells + (630) ≤ 1127 → slots + (13415) ≤ 17572 → x_L_pools_729 s0 γ = res → W p l e (headSpec [Cond.code yL_pools cL_pools 1 (some .boolean)] ({ frames := 10, cells := 1127, slots := 17572, locals := 227 } : Room)).room s m ([.ref (kA κ 7 0)] : List Value).toArray below meth c H locs cells slots (MQ below (QL κ res.2.2 (some (.int res.2.1))) ([.ref (kA κ 7 0)] : List Value).toArray s 1127 17572 (AA κ)) (F0 m 729 ls [.int s0]) := by
    intro s0 γ H locs ls cells slots hl hH hS hc1 hc2 hq
    refine lv_bipush (v := (-73)) hx hb dL_pools_729 (by decide) ?_
    refine lv_icmp_ne (tgt := 783) hx hb dL_pools_731 (by decide) (fun c432 => ?_) (fun c432 => ?_)
    · have hq := ifne hq c432
      exact b_783 γ _ _ _ _ _ (lv_sub hl [] rfl) hH hS (by omega) (by omega) hq
    · have hq := ifpe hq c432
      refine lv_aload_n hx hb dL_pools_734 rfl (lv_at hl 0 rfl) ?_
      refine lv_iconst (v := 1) hx hb dL_pools_735 (by decide) ?_
      refine lv_iconst (v := 0) hx hb dL_pools_736 (by decide) ?_
      refine lv_iconst (v := 3) hx hb dL_pools_737 (by decide) ?_
      refine lv_iconst (v := 2) hx hb dL_pools_738 (by decide) ?_
      refine lv_iconst (v := 3) hx hb dL_pools_739 (by decide) ?_
      by_cases he433 : (x_L_match 1 0 3 2 3 γ).1 = 0
      rotate_left
      · exact flag_bad (ifne hq he433) hk
      have hq := ifpe hq he433
      refine e_callS (rest := []) hC hl hH hS (c_L_match l hfl κ γ 1 0 3 2 3 he433) tw_933 tw_934 tw_37 tw_935 hd_L_match ⟨Nat.le_of_ble_eq_true rfl, Nat.le_of_ble_eq_true rfl⟩ rfl rfl rfl rfl (Nat.le_of_ble_eq_true rfl) dL_pools_740 ⟨by show _ ≤ 1127; omega, by show _ ≤ 17572; omega⟩ rfl (fun H locs hH hS => ?_)
      exact b_743 ((x_L_match 1 0 3 2 3 γ).2.1) (x_L_match 1 0 3 2 3 γ).2.2 _ _ _ _ _ (lv_sub hl [0] rfl) hH hS (by omega) (by omega) hq
  have b_715 : ∀ (s0 : Int32) (γ : St) (H : Heap) (locs : List Loc) (ls : Array Slot) (cells slots : Nat), lv_has ls 1 [(0, .ref (kA κ 7 0))] → HE κ γ H → va_S (AA κ) s.heap H locs → cells + (633) ≤ 1127 → slots + (13480) ≤ 17572 → x_L_pools_715 s0 γ = res → W p l e (headSpec [Cond.code yL_pools cL_pools 1 (some .boolean)] ({ frames := 10, cells := 1127, slots := 17572, locals := 227 } : Room)).room s m ([.ref (kA κ 7 0)] : List Value).toArray below meth c H locs cells slots (MQ below (QL κ res.2.2 (some (.int res.2.1))) ([.ref (kA κ 7 0)] : List Value).toArray s 1127 17572 (AA κ)) (F0 m 715 ls [.int s0]) := by
    intro s0 γ H locs ls cells slots hl hH hS hc1 hc2 hq
    refine lv_if_eq (tgt := 783) hx hb dL_pools_715 (by decide) (fun c434 => ?_) (fun c434 => ?_)
    · have hq := ifpe hq c434
      exact b_783 γ _ _ _ _ _ (lv_sub hl [] rfl) hH hS (by omega) (by omega) hq
    · have hq := ifne hq c434
      refine lv_aload_n hx hb dL_pools_718 rfl (lv_at hl 0 rfl) ?_
      refine lv_bipush (v := 11) hx hb dL_pools_719 (by decide) ?_
      refine lv_iconst (v := 1) hx hb dL_pools_721 (by decide) ?_
      refine lv_iconst (v := 0) hx hb dL_pools_722 (by decide) ?_
      refine lv_iconst (v := 0) hx hb dL_pools_723 (by decide) ?_
      refine lv_iconst (v := 0) hx hb dL_pools_724 (by decide) ?_
      refine lv_iconst (v := 0) hx hb dL_pools_725 (by decide) ?_
      refine e_callW (rest := []) hC hl hH hS (c_L_call l hfl κ γ 11 1 0 0 0 0) tw_430 tw_431 tw_37 tw_432 hd_L_call ⟨Nat.le_of_ble_eq_true rfl, Nat.le_of_ble_eq_true rfl⟩ rfl rfl rfl rfl (Nat.le_of_ble_eq_true rfl) dL_pools_726 ⟨by show _ ≤ 1127; omega, by show _ ≤ 17572; omega⟩ rfl (fun H locs hH hS => ?_)
      exact b_729 ((x_L_call 11 1 0 0 0 0 γ).1) (x_L_call 11 1 0 0 0 0 γ).2 _ _ _ _ _ (lv_sub hl [0] rfl) hH hS (by omega) (by omega) hq
  have b_703 : ∀ (s0 : Int32) (γ : St) (H : Heap) (locs : List Loc) (ls : Array Slot) (cells slots : Nat), lv_has ls 1 [(0, .ref (kA κ 7 0))] → HE κ γ H → va_S (AA κ) s.heap H locs → cells + (638) ≤ 1127 → slots + (13510) ≤ 17572 → x_L_pools_703 s0 γ = res → W p l e (headSpec [Cond.code yL_pools cL_pools 1 (some .boolean)] ({ frames := 10, cells := 1127, slots := 17572, locals := 227 } : Room)).room s m ([.ref (kA κ 7 0)] : List Value).toArray below meth c H locs cells slots (MQ below (QL κ res.2.2 (some (.int res.2.1))) ([.ref (kA κ 7 0)] : List Value).toArray s 1127 17572 (AA κ)) (F0 m 703 ls [.int s0]) := by
    intro s0 γ H locs ls cells slots hl hH hS hc1 hc2 hq
    refine lv_if_eq (tgt := 783) hx hb dL_pools_703 (by decide) (fun c435 => ?_) (fun c435 => ?_)
    · have hq := ifpe hq c435
      exact b_783 γ _ _ _ _ _ (lv_sub hl [] rfl) hH hS (by omega) (by omega) hq
    · have hq := ifne hq c435
      refine lv_aload_n hx hb dL_pools_706 rfl (lv_at hl 0 rfl) ?_
      refine lv_iconst (v := 1) hx hb dL_pools_707 (by decide) ?_
      refine lv_iconst (v := 1) hx hb dL_pools_708 (by decide) ?_
      refine lv_iconst (v := (-1)) hx hb dL_pools_709 (by decide) ?_
      refine lv_iconst (v := (-1)) hx hb dL_pools_710 (by decide) ?_
      refine lv_iconst (v := (-1)) hx hb dL_pools_711 (by decide) ?_
      by_cases he436 : (x_L_ranks 1 1 ((-1)) ((-1)) ((-1)) γ).1 = 0
      rotate_left
      · exact flag_bad (ifne hq he436) hk
      have hq := ifpe hq he436
      refine e_callS (rest := []) hC hl hH hS (c_L_ranks l hfl κ γ 1 1 ((-1)) ((-1)) ((-1)) he436) tw_924 tw_925 tw_37 tw_926 hd_L_ranks ⟨Nat.le_of_ble_eq_true rfl, Nat.le_of_ble_eq_true rfl⟩ rfl rfl rfl rfl (Nat.le_of_ble_eq_true rfl) dL_pools_712 ⟨by show _ ≤ 1127; omega, by show _ ≤ 17572; omega⟩ rfl (fun H locs hH hS => ?_)
      exact b_715 ((x_L_ranks 1 1 ((-1)) ((-1)) ((-1)) γ).2.1) (x_L_ranks 1 1 ((-1)) ((-1)) ((-1)) γ).2.2 _ _ _ _ _ (lv_sub hl [0] rfl) hH hS (by omega) (by omega) hq
  have b_691 : ∀ (s0 : Int32) (γ : St) (H : Heap) (locs : List Loc) (ls : Array Slot) (cells slots : Nat), lv_has ls 1 [(0, .ref (kA κ 7 0))] → HE κ γ H → va_S (AA κ) s.heap H locs → cells + (643) ≤ 1127 → slots + (13540) ≤ 17572 → x_L_pools_691 s0 γ = res → W p l e (headSpec [Cond.code yL_pools cL_pools 1 (some .boolean)] ({ frames := 10, cells := 1127, slots := 17572, locals := 227 } : Room)).room s m ([.ref (kA κ 7 0)] : List Value).toArray below meth c H locs cells slots (MQ below (QL κ res.2.2 (some (.int res.2.1))) ([.ref (kA κ 7 0)] : List Value).toArray s 1127 17572 (AA κ)) (F0 m 691 ls [.int s0]) := by
    intro s0 γ H locs ls cells slots hl hH hS hc1 hc2 hq
    refine lv_if_eq (tgt := 783) hx hb dL_pools_691 (by decide) (fun c437 => ?_) (fun c437 => ?_)
    · have hq := ifpe hq c437
      exact b_783 γ _ _ _ _ _ (lv_sub hl [] rfl) hH hS (by omega) (by omega) hq
    · have hq := ifne hq c437
      refine lv_aload_n hx hb dL_pools_694 rfl (lv_at hl 0 rfl) ?_
      refine lv_iconst (v := 0) hx hb dL_pools_695 (by decide) ?_
      refine lv_iconst (v := 3) hx hb dL_pools_696 (by decide) ?_
      refine lv_iconst (v := 0) hx hb dL_pools_697 (by decide) ?_
      refine lv_iconst (v := (-1)) hx hb dL_pools_698 (by decide) ?_
      refine lv_iconst (v := (-1)) hx hb dL_pools_699 (by decide) ?_
      by_cases he438 : (x_L_ranks 0 3 0 ((-1)) ((-1)) γ).1 = 0
      rotate_left
      · exact flag_bad (ifne hq he438) hk
      have hq := ifpe hq he438
      refine e_callS (rest := []) hC hl hH hS (c_L_ranks l hfl κ γ 0 3 0 ((-1)) ((-1)) he438) tw_924 tw_925 tw_37 tw_926 hd_L_ranks ⟨Nat.le_of_ble_eq_true rfl, Nat.le_of_ble_eq_true rfl⟩ rfl rfl rfl rfl (Nat.le_of_ble_eq_true rfl) dL_pools_700 ⟨by show _ ≤ 1127; omega, by show _ ≤ 17572; omega⟩ rfl (fun H locs hH hS => ?_)
      exact b_703 ((x_L_ranks 0 3 0 ((-1)) ((-1)) γ).2.1) (x_L_ranks 0 3 0 ((-1)) ((-1)) γ).2.2 _ _ _ _ _ (lv_sub hl [0] rfl) hH hS (by omega) (by omega) hq
  have b_678 : ∀ (s0 : Int32) (γ : St) (H : Heap) (locs : List Loc) (ls : Array Slot) (cells slots : Nat), lv_has ls 1 [(0, .ref (kA κ 7 0))] → HE κ γ H → va_S (AA κ) s.heap H locs → cells + (667) ≤ 1127 → slots + (13684) ≤ 17572 → x_L_pools_678 s0 γ = res → W p l e (headSpec [Cond.code yL_pools cL_pools 1 (some .boolean)] ({ frames := 10, cells := 1127, slots := 17572, locals := 227 } : Room)).room s m ([.ref (kA κ 7 0)] : List Value).toArray below meth c H locs cells slots (MQ below (QL κ res.2.2 (some (.int res.2.1))) ([.ref (kA κ 7 0)] : List Value).toArray s 1127 17572 (AA κ)) (F0 m 678 ls [.int s0]) := by
    intro s0 γ H locs ls cells slots hl hH hS hc1 hc2 hq
    refine lv_if_eq (tgt := 783) hx hb dL_pools_678 (by decide) (fun c439 => ?_) (fun c439 => ?_)
    · have hq := ifpe hq c439
      exact b_783 γ _ _ _ _ _ (lv_sub hl [] rfl) hH hS (by omega) (by omega) hq
    · have hq := ifne hq c439
      refine lv_aload_n hx hb dL_pools_681 rfl (lv_at hl 0 rfl) ?_
      refine lv_iconst (v := 0) hx hb dL_pools_682 (by decide) ?_
      refine lv_iconst (v := 3) hx hb dL_pools_683 (by decide) ?_
      refine lv_iconst (v := 2) hx hb dL_pools_684 (by decide) ?_
      refine lv_iconst (v := 1) hx hb dL_pools_685 (by decide) ?_
      refine lv_iconst (v := 1) hx hb dL_pools_686 (by decide) ?_
      refine lv_iconst (v := 0) hx hb dL_pools_687 (by decide) ?_
      by_cases he440 : (x_L_table 0 3 2 1 1 0 γ).1 = 0
      rotate_left
      · exact flag_bad (ifne hq he440) hk
      have hq := ifpe hq he440
      refine e_callS (rest := []) hC hl hH hS (c_L_table l hfl κ γ 0 3 2 1 1 0 he440) tw_930 tw_931 tw_37 tw_932 hd_L_table ⟨Nat.le_of_ble_eq_true rfl, Nat.le_of_ble_eq_true rfl⟩ rfl rfl rfl rfl (Nat.le_of_ble_eq_true rfl) dL_pools_688 ⟨by show _ ≤ 1127; omega, by show _ ≤ 17572; omega⟩ rfl (fun H locs hH hS => ?_)
      exact b_691 ((x_L_table 0 3 2 1 1 0 γ).2.1) (x_L_table 0 3 2 1 1 0 γ).2.2 _ _ _ _ _ (lv_sub hl [0] rfl) hH hS (by omega) (by omega) hq
  have b_665 : ∀ (s0 : Int32) (γ : St) (H : Heap) (locs : List Loc) (ls : Array Slot) (cells slots : Nat), lv_has ls 1 [(0, .ref (kA κ 7 0))] → HE κ γ H → va_S (AA κ) s.heap H locs → cells + (691) ≤ 1127 → slots + (13828) ≤ 17572 → x_L_pools_665 s0 γ = res → W p l e (headSpec [Cond.code yL_pools cL_pools 1 (some .boolean)] ({ frames := 10, cells := 1127, slots := 17572, locals := 227 } : Room)).room s m ([.ref (kA κ 7 0)] : List Value).toArray below meth c H locs cells slots (MQ below (QL κ res.2.2 (some (.int res.2.1))) ([.ref (kA κ 7 0)] : List Value).toArray s 1127 17572 (AA κ)) (F0 m 665 ls [.int s0]) := by
    intro s0 γ H locs ls cells slots hl hH hS hc1 hc2 hq
    refine lv_if_ne (tgt := 783) hx hb dL_pools_665 (by decide) (fun c441 => ?_) (fun c441 => ?_)
    · have hq := ifne hq c441
      exact b_783 γ _ _ _ _ _ (lv_sub hl [] rfl) hH hS (by omega) (by omega) hq
    · have hq := ifpe hq c441
      refine lv_aload_n hx hb dL_pools_668 rfl (lv_at hl 0 rfl) ?_
      refine lv_iconst (v := 0) hx hb dL_pools_669 (by decide) ?_
      refine lv_iconst (v := 0) hx hb dL_pools_670 (by decide) ?_
      refine lv_iconst (v := 2) hx hb dL_pools_671 (by decide) ?_
      refine lv_iconst (v := 1) hx hb dL_pools_672 (by decide) ?_
      refine lv_iconst (v := 0) hx hb dL_pools_673 (by decide) ?_
      refine lv_iconst (v := 1) hx hb dL_pools_674 (by decide) ?_
      by_cases he442 : (x_L_table 0 0 2 1 0 1 γ).1 = 0
      rotate_left
      · exact flag_bad (ifne hq he442) hk
      have hq := ifpe hq he442
      refine e_callS (rest := []) hC hl hH hS (c_L_table l hfl κ γ 0 0 2 1 0 1 he442) tw_930 tw_931 tw_37 tw_932 hd_L_table ⟨Nat.le_of_ble_eq_true rfl, Nat.le_of_ble_eq_true rfl⟩ rfl rfl rfl rfl (Nat.le_of_ble_eq_true rfl) dL_pools_675 ⟨by show _ ≤ 1127; omega, by show _ ≤ 17572; omega⟩ rfl (fun H locs hH hS => ?_)
      exact b_678 ((x_L_table 0 0 2 1 0 1 γ).2.1) (x_L_table 0 0 2 1 0 1 γ).2.2 _ _ _ _ _ (lv_sub hl [0] rfl) hH hS (by omega) (by omega) hq
  have b_658 : ∀ (s0 : Int32) (γ : St) (H : Heap) (locs : List Loc) (ls : Array Slot) (cells slots : Nat), lv_has ls 1 [(0, .ref (kA κ 7 0))] → HE κ γ H → va_S (AA κ) s.heap H locs → cells + (692) ≤ 1127 → slots + (13834) ≤ 17572 → x_L_pools_658 s0 γ = res → W p l e (headSpec [Cond.code yL_pools cL_pools 1 (some .boolean)] ({ frames := 10, cells := 1127, slots := 17572, locals := 227 } : Room)).room s m ([.ref (kA κ 7 0)] : List Value).toArray below meth c H locs cells slots (MQ below (QL κ res.2.2 (some (.int res.2.1))) ([.ref (kA κ 7 0)] : List Value).toArray s 1127 17572 (AA κ)) (F0 m 658 ls [.int s0]) := by
    intro s0 γ H locs ls cells slots hl hH hS hc1 hc2 hq
    refine lv_if_eq (tgt := 783) hx hb dL_pools_658 (by decide) (fun c443 => ?_) (fun c443 => ?_)
    · have hq := ifpe hq c443
      exact b_783 γ _ _ _ _ _ (lv_sub hl [] rfl) hH hS (by omega) (by omega) hq
    · have hq := ifne hq c443
      refine lv_aload_n hx hb dL_pools_661 rfl (lv_at hl 0 rfl) ?_
      refine e_xcallV (rest := []) hC hl hH hS (co_end l hfl κ γ) tw_729 tw_730 tw_731 tw_38 tw_732 hd_X7_end ⟨Nat.le_of_ble_eq_true rfl, Nat.le_of_ble_eq_true rfl⟩ rfl rfl rfl rfl (Nat.le_of_ble_eq_true rfl) dL_pools_662 ⟨by show _ ≤ 1127; omega, by show _ ≤ 17572; omega⟩ rfl (fun he444 ce q9 H locs hH hS hce hcv hcl => ?_) (fun he444 H locs hH hS => ?_)
      · exact flag_bad (ifne hq he444) hk
      have hq := ifpe hq he444
      exact b_665 ((x_X7_end γ).2.1) (x_X7_end γ).2.2 _ _ _ _ _ (lv_sub hl [0] rfl) hH hS (by omega) (by omega) hq
  have b_645 : ∀ (s0 : Int32) (γ : St) (H : Heap) (locs : List Loc) (ls : Array Slot) (cells slots : Nat), lv_has ls 1 [(0, .ref (kA κ 7 0))] → HE κ γ H → va_S (AA κ) s.heap H locs → cells + (716) ≤ 1127 → slots + (13978) ≤ 17572 → x_L_pools_645 s0 γ = res → W p l e (headSpec [Cond.code yL_pools cL_pools 1 (some .boolean)] ({ frames := 10, cells := 1127, slots := 17572, locals := 227 } : Room)).room s m ([.ref (kA κ 7 0)] : List Value).toArray below meth c H locs cells slots (MQ below (QL κ res.2.2 (some (.int res.2.1))) ([.ref (kA κ 7 0)] : List Value).toArray s 1127 17572 (AA κ)) (F0 m 645 ls [.int s0]) := by
    intro s0 γ H locs ls cells slots hl hH hS hc1 hc2 hq
    refine lv_if_eq (tgt := 783) hx hb dL_pools_645 (by decide) (fun c445 => ?_) (fun c445 => ?_)
    · have hq := ifpe hq c445
      exact b_783 γ _ _ _ _ _ (lv_sub hl [] rfl) hH hS (by omega) (by omega) hq
    · have hq := ifne hq c445
      refine lv_aload_n hx hb dL_pools_648 rfl (lv_at hl 0 rfl) ?_
      refine lv_iconst (v := 0) hx hb dL_pools_649 (by decide) ?_
      refine lv_iconst (v := 0) hx hb dL_pools_650 (by decide) ?_
      refine lv_iconst (v := 1) hx hb dL_pools_651 (by decide) ?_
      refine lv_iconst (v := 0) hx hb dL_pools_652 (by decide) ?_
      refine lv_iconst (v := 0) hx hb dL_pools_653 (by decide) ?_
      refine lv_iconst (v := 1) hx hb dL_pools_654 (by decide) ?_
      by_cases he446 : (x_L_table 0 0 1 0 0 1 γ).1 = 0
      rotate_left
      · exact flag_bad (ifne hq he446) hk
      have hq := ifpe hq he446
      refine e_callS (rest := []) hC hl hH hS (c_L_table l hfl κ γ 0 0 1 0 0 1 he446) tw_930 tw_931 tw_37 tw_932 hd_L_table ⟨Nat.le_of_ble_eq_true rfl, Nat.le_of_ble_eq_true rfl⟩ rfl rfl rfl rfl (Nat.le_of_ble_eq_true rfl) dL_pools_655 ⟨by show _ ≤ 1127; omega, by show _ ≤ 17572; omega⟩ rfl (fun H locs hH hS => ?_)
      exact b_658 ((x_L_table 0 0 1 0 0 1 γ).2.1) (x_L_table 0 0 1 0 0 1 γ).2.2 _ _ _ _ _ (lv_sub hl [0] rfl) hH hS (by omega) (by omega) hq
  have b_632 : ∀ (s0 : Int32) (γ : St) (H : Heap) (locs : List Loc) (ls : Array Slot) (cells slots : Nat), lv_has ls 1 [(0, .ref (kA κ 7 0))] → HE κ γ H → va_S (AA κ) s.heap H locs → cells + (721) ≤ 1127 → slots + (14008) ≤ 17572 → x_L_pools_632 s0 γ = res → W p l e (headSpec [Cond.code yL_pools cL_pools 1 (some .boolean)] ({ frames := 10, cells := 1127, slots := 17572, locals := 227 } : Room)).room s m ([.ref (kA κ 7 0)] : List Value).toArray below meth c H locs cells slots (MQ below (QL κ res.2.2 (some (.int res.2.1))) ([.ref (kA κ 7 0)] : List Value).toArray s 1127 17572 (AA κ)) (F0 m 632 ls [.int s0]) := by
    intro s0 γ H locs ls cells slots hl hH hS hc1 hc2 hq
    refine lv_iconst (v := 1) hx hb dL_pools_632 (by decide) ?_
    refine lv_icmp_ne (tgt := 783) hx hb dL_pools_633 (by decide) (fun c447 => ?_) (fun c447 => ?_)
    · have hq := ifne hq c447
      exact b_783 γ _ _ _ _ _ (lv_sub hl [] rfl) hH hS (by omega) (by omega) hq
    · have hq := ifpe hq c447
      refine lv_aload_n hx hb dL_pools_636 rfl (lv_at hl 0 rfl) ?_
      refine lv_iconst (v := 0) hx hb dL_pools_637 (by decide) ?_
      refine lv_iconst (v := 3) hx hb dL_pools_638 (by decide) ?_
      refine lv_iconst (v := 0) hx hb dL_pools_639 (by decide) ?_
      refine lv_iconst (v := (-1)) hx hb dL_pools_640 (by decide) ?_
      refine lv_iconst (v := (-1)) hx hb dL_pools_641 (by decide) ?_
      by_cases he448 : (x_L_ranks 0 3 0 ((-1)) ((-1)) γ).1 = 0
      rotate_left
      · exact flag_bad (ifne hq he448) hk
      have hq := ifpe hq he448
      refine e_callS (rest := []) hC hl hH hS (c_L_ranks l hfl κ γ 0 3 0 ((-1)) ((-1)) he448) tw_924 tw_925 tw_37 tw_926 hd_L_ranks ⟨Nat.le_of_ble_eq_true rfl, Nat.le_of_ble_eq_true rfl⟩ rfl rfl rfl rfl (Nat.le_of_ble_eq_true rfl) dL_pools_642 ⟨by show _ ≤ 1127; omega, by show _ ≤ 17572; omega⟩ rfl (fun H locs hH hS => ?_)
      exact b_645 ((x_L_ranks 0 3 0 ((-1)) ((-1)) γ).2.1) (x_L_ranks 0 3 0 ((-1)) ((-1)) γ).2.2 _ _ _ _ _ (lv_sub hl [0] rfl) hH hS (by omega) (by omega) hq
  have b_622 : ∀ (s0 : Int32) (γ : St) (H : Heap) (locs : List Loc) (ls : Array Slot) (cells slots : Nat), lv_has ls 1 [(0, .ref (kA κ 7 0))] → HE κ γ H → va_S (AA κ) s.heap H locs → cells + (723) ≤ 1127 → slots + (14020) ≤ 17572 → x_L_pools_622 s0 γ = res → W p l e (headSpec [Cond.code yL_pools cL_pools 1 (some .boolean)] ({ frames := 10, cells := 1127, slots := 17572, locals := 227 } : Room)).room s m ([.ref (kA κ 7 0)] : List Value).toArray below meth c H locs cells slots (MQ below (QL κ res.2.2 (some (.int res.2.1))) ([.ref (kA κ 7 0)] : List Value).toArray s 1127 17572 (AA κ)) (F0 m 622 ls [.int s0]) := by
    intro s0 γ H locs ls cells slots hl hH hS hc1 hc2 hq
    refine lv_iconst (v := 2) hx hb dL_pools_622 (by decide) ?_
    refine lv_icmp_ne (tgt := 783) hx hb dL_pools_623 (by decide) (fun c449 => ?_) (fun c449 => ?_)
    · have hq := ifne hq c449
      exact b_783 γ _ _ _ _ _ (lv_sub hl [] rfl) hH hS (by omega) (by omega) hq
    · have hq := ifpe hq c449
      refine lv_aload_n hx hb dL_pools_626 rfl (lv_at hl 0 rfl) ?_
      refine lv_iconst (v := 1) hx hb dL_pools_627 (by decide) ?_
      refine lv_iconst (v := 0) hx hb dL_pools_628 (by decide) ?_
      refine e_xcallV (rest := []) hC hl hH hS (co_withdraw l hfl κ γ 1 0) tw_776 tw_777 tw_778 tw_38 tw_779 hd_X7_withdraw ⟨Nat.le_of_ble_eq_true rfl, Nat.le_of_ble_eq_true rfl⟩ rfl rfl rfl rfl (Nat.le_of_ble_eq_true rfl) dL_pools_629 ⟨by show _ ≤ 1127; omega, by show _ ≤ 17572; omega⟩ rfl (fun he450 ce q9 H locs hH hS hce hcv hcl => ?_) (fun he450 H locs hH hS => ?_)
      · exact flag_bad (ifne hq he450) hk
      have hq := ifpe hq he450
      exact b_632 ((x_X7_withdraw 1 0 γ).2.1) (x_X7_withdraw 1 0 γ).2.2 _ _ _ _ _ (lv_sub hl [0] rfl) hH hS (by omega) (by omega) hq
  have b_611 : ∀ (s0 : Int32) (γ : St) (H : Heap) (locs : List Loc) (ls : Array Slot) (cells slots : Nat), lv_has ls 1 [(0, .ref (kA κ 7 0))] → HE κ γ H → va_S (AA κ) s.heap H locs → cells + (725) ≤ 1127 → slots + (14032) ≤ 17572 → x_L_pools_611 s0 γ = res → W p l e (headSpec [Cond.code yL_pools cL_pools 1 (some .boolean)] ({ frames := 10, cells := 1127, slots := 17572, locals := 227 } : Room)).room s m ([.ref (kA κ 7 0)] : List Value).toArray below meth c H locs cells slots (MQ below (QL κ res.2.2 (some (.int res.2.1))) ([.ref (kA κ 7 0)] : List Value).toArray s 1127 17572 (AA κ)) (F0 m 611 ls [.int s0]) := by
    intro s0 γ H locs ls cells slots hl hH hS hc1 hc2 hq
    refine lv_bipush (v := (-73)) hx hb dL_pools_611 (by decide) ?_
    refine lv_icmp_ne (tgt := 783) hx hb dL_pools_613 (by decide) (fun c451 => ?_) (fun c451 => ?_)
    · have hq := ifne hq c451
      exact b_783 γ _ _ _ _ _ (lv_sub hl [] rfl) hH hS (by omega) (by omega) hq
    · have hq := ifpe hq c451
      refine lv_aload_n hx hb dL_pools_616 rfl (lv_at hl 0 rfl) ?_
      refine lv_iconst (v := 0) hx hb dL_pools_617 (by decide) ?_
      refine lv_iconst (v := 2) hx hb dL_pools_618 (by decide) ?_
      refine e_xcallV (rest := []) hC hl hH hS (co_withdraw l hfl κ γ 0 2) tw_776 tw_777 tw_778 tw_38 tw_779 hd_X7_withdraw ⟨Nat.le_of_ble_eq_true rfl, Nat.le_of_ble_eq_true rfl⟩ rfl rfl rfl rfl (Nat.le_of_ble_eq_true rfl) dL_pools_619 ⟨by show _ ≤ 1127; omega, by show _ ≤ 17572; omega⟩ rfl (fun he452 ce q9 H locs hH hS hce hcv hcl => ?_) (fun he452 H locs hH hS => ?_)
      · exact flag_bad (ifne hq he452) hk
      have hq := ifpe hq he452
      exact b_622 ((x_X7_withdraw 0 2 γ).2.1) (x_X7_withdraw 0 2 γ).2.2 _ _ _ _ _ (lv_sub hl [0] rfl) hH hS (by omega) (by omega) hq
  have b_595 : ∀ (s0 : Int32) (γ : St) (H : Heap) (locs : List Loc) (ls : Array Slot) (cells slots : Nat), lv_has ls 1 [(0, .ref (kA κ 7 0))] → HE κ γ H → va_S (AA κ) s.heap H locs → cells + (728) ≤ 1127 → slots + (14097) ≤ 17572 → x_L_pools_595 s0 γ = res → W p l e (headSpec [Cond.code yL_pools cL_pools 1 (some .boolean)] ({ frames := 10, cells := 1127, slots := 17572, locals := 227 } : Room)).room s m ([.ref (kA κ 7 0)] : List Value).toArray below meth c H locs cells slots (MQ below (QL κ res.2.2 (some (.int res.2.1))) ([.ref (kA κ 7 0)] : List Value).toArray s 1127 17572 (AA κ)) (F0 m 595 ls [.int s0]) := by
    intro s0 γ H locs ls cells slots hl hH hS hc1 hc2 hq
    refine lv_bipush (v := (-73)) hx hb dL_pools_595 (by decide) ?_
    refine lv_icmp_ne (tgt := 783) hx hb dL_pools_597 (by decide) (fun c453 => ?_) (fun c453 => ?_)
    · have hq := ifne hq c453
      exact b_783 γ _ _ _ _ _ (lv_sub hl [] rfl) hH hS (by omega) (by omega) hq
    · have hq := ifpe hq c453
      refine lv_aload_n hx hb dL_pools_600 rfl (lv_at hl 0 rfl) ?_
      refine lv_bipush (v := 10) hx hb dL_pools_601 (by decide) ?_
      refine lv_iconst (v := 0) hx hb dL_pools_603 (by decide) ?_
      refine lv_iconst (v := 0) hx hb dL_pools_604 (by decide) ?_
      refine lv_iconst (v := 0) hx hb dL_pools_605 (by decide) ?_
      refine lv_iconst (v := 0) hx hb dL_pools_606 (by decide) ?_
      refine lv_iconst (v := 0) hx hb dL_pools_607 (by decide) ?_
      refine e_callW (rest := []) hC hl hH hS (c_L_call l hfl κ γ 10 0 0 0 0 0) tw_430 tw_431 tw_37 tw_432 hd_L_call ⟨Nat.le_of_ble_eq_true rfl, Nat.le_of_ble_eq_true rfl⟩ rfl rfl rfl rfl (Nat.le_of_ble_eq_true rfl) dL_pools_608 ⟨by show _ ≤ 1127; omega, by show _ ≤ 17572; omega⟩ rfl (fun H locs hH hS => ?_)
      exact b_611 ((x_L_call 10 0 0 0 0 0 γ).1) (x_L_call 10 0 0 0 0 0 γ).2 _ _ _ _ _ (lv_sub hl [0] rfl) hH hS (by omega) (by omega) hq
  have b_579 : ∀ (s0 : Int32) (γ : St) (H : Heap) (locs : List Loc) (ls : Array Slot) (cells slots : Nat), lv_has ls 1 [(0, .ref (kA κ 7 0))] → HE κ γ H → va_S (AA κ) s.heap H locs → cells + (731) ≤ 1127 → slots + (14162) ≤ 17572 → x_L_pools_579 s0 γ = res → W p l e (headSpec [Cond.code yL_pools cL_pools 1 (some .boolean)] ({ frames := 10, cells := 1127, slots := 17572, locals := 227 } : Room)).room s m ([.ref (kA κ 7 0)] : List Value).toArray below meth c H locs cells slots (MQ below (QL κ res.2.2 (some (.int res.2.1))) ([.ref (kA κ 7 0)] : List Value).toArray s 1127 17572 (AA κ)) (F0 m 579 ls [.int s0]) := by
    intro s0 γ H locs ls cells slots hl hH hS hc1 hc2 hq
    refine lv_bipush (v := 14) hx hb dL_pools_579 (by decide) ?_
    refine lv_icmp_ne (tgt := 783) hx hb dL_pools_581 (by decide) (fun c454 => ?_) (fun c454 => ?_)
    · have hq := ifne hq c454
      exact b_783 γ _ _ _ _ _ (lv_sub hl [] rfl) hH hS (by omega) (by omega) hq
    · have hq := ifpe hq c454
      refine lv_aload_n hx hb dL_pools_584 rfl (lv_at hl 0 rfl) ?_
      refine lv_bipush (v := 10) hx hb dL_pools_585 (by decide) ?_
      refine lv_iconst (v := 0) hx hb dL_pools_587 (by decide) ?_
      refine lv_iconst (v := 3) hx hb dL_pools_588 (by decide) ?_
      refine lv_iconst (v := 0) hx hb dL_pools_589 (by decide) ?_
      refine lv_iconst (v := 0) hx hb dL_pools_590 (by decide) ?_
      refine lv_iconst (v := 0) hx hb dL_pools_591 (by decide) ?_
      refine e_callW (rest := []) hC hl hH hS (c_L_call l hfl κ γ 10 0 3 0 0 0) tw_430 tw_431 tw_37 tw_432 hd_L_call ⟨Nat.le_of_ble_eq_true rfl, Nat.le_of_ble_eq_true rfl⟩ rfl rfl rfl rfl (Nat.le_of_ble_eq_true rfl) dL_pools_592 ⟨by show _ ≤ 1127; omega, by show _ ≤ 17572; omega⟩ rfl (fun H locs hH hS => ?_)
      exact b_595 ((x_L_call 10 0 3 0 0 0 γ).1) (x_L_call 10 0 3 0 0 0 γ).2 _ _ _ _ _ (lv_sub hl [0] rfl) hH hS (by omega) (by omega) hq
  have b_567 : ∀ (s0 : Int32) (γ : St) (H : Heap) (locs : List Loc) (ls : Array Slot) (cells slots : Nat), lv_has ls 1 [(0, .ref (kA κ 7 0))] → HE κ γ H → va_S (AA κ) s.heap H locs → cells + (734) ≤ 1127 → slots + (14180) ≤ 17572 → x_L_pools_567 s0 γ = res → W p l e (headSpec [Cond.code yL_pools cL_pools 1 (some .boolean)] ({ frames := 10, cells := 1127, slots := 17572, locals := 227 } : Room)).room s m ([.ref (kA κ 7 0)] : List Value).toArray below meth c H locs cells slots (MQ below (QL κ res.2.2 (some (.int res.2.1))) ([.ref (kA κ 7 0)] : List Value).toArray s 1127 17572 (AA κ)) (F0 m 567 ls [.int s0]) := by
    intro s0 γ H locs ls cells slots hl hH hS hc1 hc2 hq
    refine lv_if_eq (tgt := 783) hx hb dL_pools_567 (by decide) (fun c455 => ?_) (fun c455 => ?_)
    · have hq := ifpe hq c455
      exact b_783 γ _ _ _ _ _ (lv_sub hl [] rfl) hH hS (by omega) (by omega) hq
    · have hq := ifne hq c455
      refine lv_aload_n hx hb dL_pools_570 rfl (lv_at hl 0 rfl) ?_
      refine lv_iconst (v := 0) hx hb dL_pools_571 (by decide) ?_
      refine lv_iconst (v := 3) hx hb dL_pools_572 (by decide) ?_
      refine lv_iconst (v := 0) hx hb dL_pools_573 (by decide) ?_
      refine lv_iconst (v := 5) hx hb dL_pools_574 (by decide) ?_
      refine lv_iconst (v := 0) hx hb dL_pools_575 (by decide) ?_
      refine e_xcallV (rest := []) hC hl hH hS (co_begin l hfl κ γ 0 3 0 5 0) tw_436 tw_437 tw_438 tw_38 tw_439 hd_X7_begin ⟨Nat.le_of_ble_eq_true rfl, Nat.le_of_ble_eq_true rfl⟩ rfl rfl rfl rfl (Nat.le_of_ble_eq_true rfl) dL_pools_576 ⟨by show _ ≤ 1127; omega, by show _ ≤ 17572; omega⟩ rfl (fun he456 ce q9 H locs hH hS hce hcv hcl => ?_) (fun he456 H locs hH hS => ?_)
      · exact flag_bad (ifne hq he456) hk
      have hq := ifpe hq he456
      exact b_579 ((x_X7_begin 0 3 0 5 0 γ).2.1) (x_X7_begin 0 3 0 5 0 γ).2.2 _ _ _ _ _ (lv_sub hl [0] rfl) hH hS (by omega) (by omega) hq
  have b_554 : ∀ (s0 : Int32) (γ : St) (H : Heap) (locs : List Loc) (ls : Array Slot) (cells slots : Nat), lv_has ls 1 [(0, .ref (kA κ 7 0))] → HE κ γ H → va_S (AA κ) s.heap H locs → cells + (758) ≤ 1127 → slots + (14324) ≤ 17572 → x_L_pools_554 s0 γ = res → W p l e (headSpec [Cond.code yL_pools cL_pools 1 (some .boolean)] ({ frames := 10, cells := 1127, slots := 17572, locals := 227 } : Room)).room s m ([.ref (kA κ 7 0)] : List Value).toArray below meth c H locs cells slots (MQ below (QL κ res.2.2 (some (.int res.2.1))) ([.ref (kA κ 7 0)] : List Value).toArray s 1127 17572 (AA κ)) (F0 m 554 ls [.int s0]) := by
    intro s0 γ H locs ls cells slots hl hH hS hc1 hc2 hq
    refine lv_if_eq (tgt := 783) hx hb dL_pools_554 (by decide) (fun c457 => ?_) (fun c457 => ?_)
    · have hq := ifpe hq c457
      exact b_783 γ _ _ _ _ _ (lv_sub hl [] rfl) hH hS (by omega) (by omega) hq
    · have hq := ifne hq c457
      refine lv_aload_n hx hb dL_pools_557 rfl (lv_at hl 0 rfl) ?_
      refine lv_iconst (v := 0) hx hb dL_pools_558 (by decide) ?_
      refine lv_iconst (v := 1) hx hb dL_pools_559 (by decide) ?_
      refine lv_iconst (v := 0) hx hb dL_pools_560 (by decide) ?_
      refine lv_iconst (v := 0) hx hb dL_pools_561 (by decide) ?_
      refine lv_iconst (v := 0) hx hb dL_pools_562 (by decide) ?_
      refine lv_iconst (v := 0) hx hb dL_pools_563 (by decide) ?_
      by_cases he458 : (x_L_table 0 1 0 0 0 0 γ).1 = 0
      rotate_left
      · exact flag_bad (ifne hq he458) hk
      have hq := ifpe hq he458
      refine e_callS (rest := []) hC hl hH hS (c_L_table l hfl κ γ 0 1 0 0 0 0 he458) tw_930 tw_931 tw_37 tw_932 hd_L_table ⟨Nat.le_of_ble_eq_true rfl, Nat.le_of_ble_eq_true rfl⟩ rfl rfl rfl rfl (Nat.le_of_ble_eq_true rfl) dL_pools_564 ⟨by show _ ≤ 1127; omega, by show _ ≤ 17572; omega⟩ rfl (fun H locs hH hS => ?_)
      exact b_567 ((x_L_table 0 1 0 0 0 0 γ).2.1) (x_L_table 0 1 0 0 0 0 γ).2.2 _ _ _ _ _ (lv_sub hl [0] rfl) hH hS (by omega) (by omega) hq
  have b_541 : ∀ (s0 : Int32) (γ : St) (H : Heap) (locs : List Loc) (ls : Array Slot) (cells slots : Nat), lv_has ls 1 [(0, .ref (kA κ 7 0))] → HE κ γ H → va_S (AA κ) s.heap H locs → cells + (782) ≤ 1127 → slots + (14468) ≤ 17572 → x_L_pools_541 s0 γ = res → W p l e (headSpec [Cond.code yL_pools cL_pools 1 (some .boolean)] ({ frames := 10, cells := 1127, slots := 17572, locals := 227 } : Room)).room s m ([.ref (kA κ 7 0)] : List Value).toArray below meth c H locs cells slots (MQ below (QL κ res.2.2 (some (.int res.2.1))) ([.ref (kA κ 7 0)] : List Value).toArray s 1127 17572 (AA κ)) (F0 m 541 ls [.int s0]) := by
    intro s0 γ H locs ls cells slots hl hH hS hc1 hc2 hq
    refine lv_if_eq (tgt := 783) hx hb dL_pools_541 (by decide) (fun c459 => ?_) (fun c459 => ?_)
    · have hq := ifpe hq c459
      exact b_783 γ _ _ _ _ _ (lv_sub hl [] rfl) hH hS (by omega) (by omega) hq
    · have hq := ifne hq c459
      refine lv_aload_n hx hb dL_pools_544 rfl (lv_at hl 0 rfl) ?_
      refine lv_iconst (v := 1) hx hb dL_pools_545 (by decide) ?_
      refine lv_iconst (v := 1) hx hb dL_pools_546 (by decide) ?_
      refine lv_iconst (v := 1) hx hb dL_pools_547 (by decide) ?_
      refine lv_iconst (v := 1) hx hb dL_pools_548 (by decide) ?_
      refine lv_iconst (v := 1) hx hb dL_pools_549 (by decide) ?_
      refine lv_iconst (v := 0) hx hb dL_pools_550 (by decide) ?_
      by_cases he460 : (x_L_table 1 1 1 1 1 0 γ).1 = 0
      rotate_left
      · exact flag_bad (ifne hq he460) hk
      have hq := ifpe hq he460
      refine e_callS (rest := []) hC hl hH hS (c_L_table l hfl κ γ 1 1 1 1 1 0 he460) tw_930 tw_931 tw_37 tw_932 hd_L_table ⟨Nat.le_of_ble_eq_true rfl, Nat.le_of_ble_eq_true rfl⟩ rfl rfl rfl rfl (Nat.le_of_ble_eq_true rfl) dL_pools_551 ⟨by show _ ≤ 1127; omega, by show _ ≤ 17572; omega⟩ rfl (fun H locs hH hS => ?_)
      exact b_554 ((x_L_table 1 1 1 1 1 0 γ).2.1) (x_L_table 1 1 1 1 1 0 γ).2.2 _ _ _ _ _ (lv_sub hl [0] rfl) hH hS (by omega) (by omega) hq
  have b_528 : ∀ (s0 : Int32) (γ : St) (H : Heap) (locs : List Loc) (ls : Array Slot) (cells slots : Nat), lv_has ls 1 [(0, .ref (kA κ 7 0))] → HE κ γ H → va_S (AA κ) s.heap H locs → cells + (790) ≤ 1127 → slots + (14563) ≤ 17572 → x_L_pools_528 s0 γ = res → W p l e (headSpec [Cond.code yL_pools cL_pools 1 (some .boolean)] ({ frames := 10, cells := 1127, slots := 17572, locals := 227 } : Room)).room s m ([.ref (kA κ 7 0)] : List Value).toArray below meth c H locs cells slots (MQ below (QL κ res.2.2 (some (.int res.2.1))) ([.ref (kA κ 7 0)] : List Value).toArray s 1127 17572 (AA κ)) (F0 m 528 ls [.int s0]) := by
    intro s0 γ H locs ls cells slots hl hH hS hc1 hc2 hq
    refine lv_bipush (v := (-72)) hx hb dL_pools_528 (by decide) ?_
    refine lv_icmp_ne (tgt := 783) hx hb dL_pools_530 (by decide) (fun c461 => ?_) (fun c461 => ?_)
    · have hq := ifne hq c461
      exact b_783 γ _ _ _ _ _ (lv_sub hl [] rfl) hH hS (by omega) (by omega) hq
    · have hq := ifpe hq c461
      refine lv_aload_n hx hb dL_pools_533 rfl (lv_at hl 0 rfl) ?_
      refine lv_iconst (v := 1) hx hb dL_pools_534 (by decide) ?_
      refine lv_iconst (v := 0) hx hb dL_pools_535 (by decide) ?_
      refine lv_iconst (v := 0) hx hb dL_pools_536 (by decide) ?_
      refine lv_iconst (v := 1) hx hb dL_pools_537 (by decide) ?_
      by_cases he462 : (x_L_quick 1 0 0 1 γ).1 = 0
      rotate_left
      · exact flag_bad (ifne hq he462) hk
      have hq := ifpe hq he462
      refine e_callS (rest := []) hC hl hH hS (c_L_quick l hfl κ γ 1 0 0 1 he462) tw_927 tw_928 tw_37 tw_929 hd_L_quick ⟨Nat.le_of_ble_eq_true rfl, Nat.le_of_ble_eq_true rfl⟩ rfl rfl rfl rfl (Nat.le_of_ble_eq_true rfl) dL_pools_538 ⟨by show _ ≤ 1127; omega, by show _ ≤ 17572; omega⟩ rfl (fun H locs hH hS => ?_)
      exact b_541 ((x_L_quick 1 0 0 1 γ).2.1) (x_L_quick 1 0 0 1 γ).2.2 _ _ _ _ _ (lv_sub hl [0] rfl) hH hS (by omega) (by omega) hq
  have b_514 : ∀ (s0 : Int32) (γ : St) (H : Heap) (locs : List Loc) (ls : Array Slot) (cells slots : Nat), lv_has ls 1 [(0, .ref (kA κ 7 0))] → HE κ γ H → va_S (AA κ) s.heap H locs → cells + (793) ≤ 1127 → slots + (14628) ≤ 17572 → x_L_pools_514 s0 γ = res → W p l e (headSpec [Cond.code yL_pools cL_pools 1 (some .boolean)] ({ frames := 10, cells := 1127, slots := 17572, locals := 227 } : Room)).room s m ([.ref (kA κ 7 0)] : List Value).toArray below meth c H locs cells slots (MQ below (QL κ res.2.2 (some (.int res.2.1))) ([.ref (kA κ 7 0)] : List Value).toArray s 1127 17572 (AA κ)) (F0 m 514 ls [.int s0]) := by
    intro s0 γ H locs ls cells slots hl hH hS hc1 hc2 hq
    refine lv_iconst (v := 1) hx hb dL_pools_514 (by decide) ?_
    refine lv_icmp_ne (tgt := 783) hx hb dL_pools_515 (by decide) (fun c463 => ?_) (fun c463 => ?_)
    · have hq := ifne hq c463
      exact b_783 γ _ _ _ _ _ (lv_sub hl [] rfl) hH hS (by omega) (by omega) hq
    · have hq := ifpe hq c463
      refine lv_aload_n hx hb dL_pools_518 rfl (lv_at hl 0 rfl) ?_
      refine lv_iconst (v := 1) hx hb dL_pools_519 (by decide) ?_
      refine lv_iconst (v := 0) hx hb dL_pools_520 (by decide) ?_
      refine lv_iconst (v := 2) hx hb dL_pools_521 (by decide) ?_
      refine lv_iconst (v := 0) hx hb dL_pools_522 (by decide) ?_
      refine lv_iconst (v := 5) hx hb dL_pools_523 (by decide) ?_
      refine lv_iconst (v := 1) hx hb dL_pools_524 (by decide) ?_
      refine e_callW (rest := []) hC hl hH hS (c_L_call l hfl κ γ 1 0 2 0 5 1) tw_430 tw_431 tw_37 tw_432 hd_L_call ⟨Nat.le_of_ble_eq_true rfl, Nat.le_of_ble_eq_true rfl⟩ rfl rfl rfl rfl (Nat.le_of_ble_eq_true rfl) dL_pools_525 ⟨by show _ ≤ 1127; omega, by show _ ≤ 17572; omega⟩ rfl (fun H locs hH hS => ?_)
      exact b_528 ((x_L_call 1 0 2 0 5 1 γ).1) (x_L_call 1 0 2 0 5 1 γ).2 _ _ _ _ _ (lv_sub hl [0] rfl) hH hS (by omega) (by omega) hq
  have b_504 : ∀ (s0 : Int32) (γ : St) (H : Heap) (locs : List Loc) (ls : Array Slot) (cells slots : Nat), lv_has ls 1 [(0, .ref (kA κ 7 0))] → HE κ γ H → va_S (AA κ) s.heap H locs → cells + (796) ≤ 1127 → slots + (14693) ≤ 17572 → x_L_pools_504 s0 γ = res → W p l e (headSpec [Cond.code yL_pools cL_pools 1 (some .boolean)] ({ frames := 10, cells := 1127, slots := 17572, locals := 227 } : Room)).room s m ([.ref (kA κ 7 0)] : List Value).toArray below meth c H locs cells slots (MQ below (QL κ res.2.2 (some (.int res.2.1))) ([.ref (kA κ 7 0)] : List Value).toArray s 1127 17572 (AA κ)) (F0 m 504 ls [.int s0]) := by
    intro s0 γ H locs ls cells slots hl hH hS hc1 hc2 hq
    refine lv_bipush (v := (-73)) hx hb dL_pools_504 (by decide) ?_
    refine lv_icmp_ne (tgt := 783) hx hb dL_pools_506 (by decide) (fun c464 => ?_) (fun c464 => ?_)
    · have hq := ifne hq c464
      exact b_783 γ _ _ _ _ _ (lv_sub hl [] rfl) hH hS (by omega) (by omega) hq
    · have hq := ifpe hq c464
      refine lv_aload_n hx hb dL_pools_509 rfl (lv_at hl 0 rfl) ?_
      refine lv_iconst (v := 3) hx hb dL_pools_510 (by decide) ?_
      refine e_xcallV (rest := []) hC hl hH hS (co_pool l hfl κ γ 3) tw_743 tw_744 tw_745 tw_38 tw_746 hd_X7_pool ⟨Nat.le_of_ble_eq_true rfl, Nat.le_of_ble_eq_true rfl⟩ rfl rfl rfl rfl (Nat.le_of_ble_eq_true rfl) dL_pools_511 ⟨by show _ ≤ 1127; omega, by show _ ≤ 17572; omega⟩ rfl (fun he465 ce q9 H locs hH hS hce hcv hcl => ?_) (fun he465 H locs hH hS => ?_)
      · exact flag_bad (ifne hq he465) hk
      have hq := ifpe hq he465
      exact b_514 ((x_X7_pool 3 γ).2.1) (x_X7_pool 3 γ).2.2 _ _ _ _ _ (lv_sub hl [0] rfl) hH hS (by omega) (by omega) hq
  have b_487 : ∀ (s0 : Int32) (γ : St) (H : Heap) (locs : List Loc) (ls : Array Slot) (cells slots : Nat), lv_has ls 1 [(0, .ref (kA κ 7 0))] → HE κ γ H → va_S (AA κ) s.heap H locs → cells + (799) ≤ 1127 → slots + (14758) ≤ 17572 → x_L_pools_487 s0 γ = res → W p l e (headSpec [Cond.code yL_pools cL_pools 1 (some .boolean)] ({ frames := 10, cells := 1127, slots := 17572, locals := 227 } : Room)).room s m ([.ref (kA κ 7 0)] : List Value).toArray below meth c H locs cells slots (MQ below (QL κ res.2.2 (some (.int res.2.1))) ([.ref (kA κ 7 0)] : List Value).toArray s 1127 17572 (AA κ)) (F0 m 487 ls [.int s0]) := by
    intro s0 γ H locs ls cells slots hl hH hS hc1 hc2 hq
    refine lv_bipush (v := (-71)) hx hb dL_pools_487 (by decide) ?_
    refine lv_icmp_eq (tgt := 494) hx hb dL_pools_489 (by decide) (fun c466 => ?_) (fun c466 => ?_)
    · have hq := ifpe hq c466
      refine lv_aload_n hx hb dL_pools_494 rfl (lv_at hl 0 rfl) ?_
      refine lv_iconst (v := 1) hx hb dL_pools_495 (by decide) ?_
      refine lv_iconst (v := 1) hx hb dL_pools_496 (by decide) ?_
      refine lv_iconst (v := 2) hx hb dL_pools_497 (by decide) ?_
      refine lv_iconst (v := 0) hx hb dL_pools_498 (by decide) ?_
      refine lv_iconst (v := 5) hx hb dL_pools_499 (by decide) ?_
      refine lv_iconst (v := 0) hx hb dL_pools_500 (by decide) ?_
      refine e_callW (rest := []) hC hl hH hS (c_L_call l hfl κ γ 1 1 2 0 5 0) tw_430 tw_431 tw_37 tw_432 hd_L_call ⟨Nat.le_of_ble_eq_true rfl, Nat.le_of_ble_eq_true rfl⟩ rfl rfl rfl rfl (Nat.le_of_ble_eq_true rfl) dL_pools_501 ⟨by show _ ≤ 1127; omega, by show _ ≤ 17572; omega⟩ rfl (fun H locs hH hS => ?_)
      exact b_504 ((x_L_call 1 1 2 0 5 0 γ).1) (x_L_call 1 1 2 0 5 0 γ).2 _ _ _ _ _ (lv_sub hl [0] rfl) hH hS (by omega) (by omega) hq
    · have hq := ifne hq c466
      exact b_492 γ _ _ _ _ _ (lv_sub hl [] rfl) hH hS (by omega) (by omega) hq
  have b_471 : ∀ (s0 : Int32) (γ : St) (H : Heap) (locs : List Loc) (ls : Array Slot) (cells slots : Nat), lv_has ls 1 [(0, .ref (kA κ 7 0))] → HE κ γ H → va_S (AA κ) s.heap H locs → cells + (802) ≤ 1127 → slots + (14823) ≤ 17572 → x_L_pools_471 s0 γ = res → W p l e (headSpec [Cond.code yL_pools cL_pools 1 (some .boolean)] ({ frames := 10, cells := 1127, slots := 17572, locals := 227 } : Room)).room s m ([.ref (kA κ 7 0)] : List Value).toArray below meth c H locs cells slots (MQ below (QL κ res.2.2 (some (.int res.2.1))) ([.ref (kA κ 7 0)] : List Value).toArray s 1127 17572 (AA κ)) (F0 m 471 ls [.int s0]) := by
    intro s0 γ H locs ls cells slots hl hH hS hc1 hc2 hq
    refine lv_bipush (v := (-71)) hx hb dL_pools_471 (by decide) ?_
    refine lv_icmp_ne (tgt := 492) hx hb dL_pools_473 (by decide) (fun c467 => ?_) (fun c467 => ?_)
    · have hq := ifne hq c467
      exact b_492 γ _ _ _ _ _ (lv_sub hl [] rfl) hH hS (by omega) (by omega) hq
    · have hq := ifpe hq c467
      refine lv_aload_n hx hb dL_pools_476 rfl (lv_at hl 0 rfl) ?_
      refine lv_bipush (v := 18) hx hb dL_pools_477 (by decide) ?_
      refine lv_iconst (v := 1) hx hb dL_pools_479 (by decide) ?_
      refine lv_iconst (v := 1) hx hb dL_pools_480 (by decide) ?_
      refine lv_iconst (v := 0) hx hb dL_pools_481 (by decide) ?_
      refine lv_iconst (v := 0) hx hb dL_pools_482 (by decide) ?_
      refine lv_iconst (v := 0) hx hb dL_pools_483 (by decide) ?_
      refine e_callW (rest := []) hC hl hH hS (c_L_call l hfl κ γ 18 1 1 0 0 0) tw_430 tw_431 tw_37 tw_432 hd_L_call ⟨Nat.le_of_ble_eq_true rfl, Nat.le_of_ble_eq_true rfl⟩ rfl rfl rfl rfl (Nat.le_of_ble_eq_true rfl) dL_pools_484 ⟨by show _ ≤ 1127; omega, by show _ ≤ 17572; omega⟩ rfl (fun H locs hH hS => ?_)
      exact b_487 ((x_L_call 18 1 1 0 0 0 γ).1) (x_L_call 18 1 1 0 0 0 γ).2 _ _ _ _ _ (lv_sub hl [0] rfl) hH hS (by omega) (by omega) hq
  have b_455 : ∀ (s0 : Int32) (γ : St) (H : Heap) (locs : List Loc) (ls : Array Slot) (cells slots : Nat), lv_has ls 1 [(0, .ref (kA κ 7 0))] → HE κ γ H → va_S (AA κ) s.heap H locs → cells + (805) ≤ 1127 → slots + (14888) ≤ 17572 → x_L_pools_455 s0 γ = res → W p l e (headSpec [Cond.code yL_pools cL_pools 1 (some .boolean)] ({ frames := 10, cells := 1127, slots := 17572, locals := 227 } : Room)).room s m ([.ref (kA κ 7 0)] : List Value).toArray below meth c H locs cells slots (MQ below (QL κ res.2.2 (some (.int res.2.1))) ([.ref (kA κ 7 0)] : List Value).toArray s 1127 17572 (AA κ)) (F0 m 455 ls [.int s0]) := by
    intro s0 γ H locs ls cells slots hl hH hS hc1 hc2 hq
    refine lv_bipush (v := (-71)) hx hb dL_pools_455 (by decide) ?_
    refine lv_icmp_ne (tgt := 492) hx hb dL_pools_457 (by decide) (fun c468 => ?_) (fun c468 => ?_)
    · have hq := ifne hq c468
      exact b_492 γ _ _ _ _ _ (lv_sub hl [] rfl) hH hS (by omega) (by omega) hq
    · have hq := ifpe hq c468
      refine lv_aload_n hx hb dL_pools_460 rfl (lv_at hl 0 rfl) ?_
      refine lv_bipush (v := 18) hx hb dL_pools_461 (by decide) ?_
      refine lv_iconst (v := 0) hx hb dL_pools_463 (by decide) ?_
      refine lv_iconst (v := 2) hx hb dL_pools_464 (by decide) ?_
      refine lv_iconst (v := 0) hx hb dL_pools_465 (by decide) ?_
      refine lv_iconst (v := 0) hx hb dL_pools_466 (by decide) ?_
      refine lv_iconst (v := 0) hx hb dL_pools_467 (by decide) ?_
      refine e_callW (rest := []) hC hl hH hS (c_L_call l hfl κ γ 18 0 2 0 0 0) tw_430 tw_431 tw_37 tw_432 hd_L_call ⟨Nat.le_of_ble_eq_true rfl, Nat.le_of_ble_eq_true rfl⟩ rfl rfl rfl rfl (Nat.le_of_ble_eq_true rfl) dL_pools_468 ⟨by show _ ≤ 1127; omega, by show _ ≤ 17572; omega⟩ rfl (fun H locs hH hS => ?_)
      exact b_471 ((x_L_call 18 0 2 0 0 0 γ).1) (x_L_call 18 0 2 0 0 0 γ).2 _ _ _ _ _ (lv_sub hl [0] rfl) hH hS (by omega) (by omega) hq
  have b_439 : ∀ (s0 : Int32) (γ : St) (H : Heap) (locs : List Loc) (ls : Array Slot) (cells slots : Nat), lv_has ls 1 [(0, .ref (kA κ 7 0))] → HE κ γ H → va_S (AA κ) s.heap H locs → cells + (808) ≤ 1127 → slots + (14953) ≤ 17572 → x_L_pools_439 s0 γ = res → W p l e (headSpec [Cond.code yL_pools cL_pools 1 (some .boolean)] ({ frames := 10, cells := 1127, slots := 17572, locals := 227 } : Room)).room s m ([.ref (kA κ 7 0)] : List Value).toArray below meth c H locs cells slots (MQ below (QL κ res.2.2 (some (.int res.2.1))) ([.ref (kA κ 7 0)] : List Value).toArray s 1127 17572 (AA κ)) (F0 m 439 ls [.int s0]) := by
    intro s0 γ H locs ls cells slots hl hH hS hc1 hc2 hq
    refine lv_bipush (v := (-73)) hx hb dL_pools_439 (by decide) ?_
    refine lv_icmp_ne (tgt := 492) hx hb dL_pools_441 (by decide) (fun c469 => ?_) (fun c469 => ?_)
    · have hq := ifne hq c469
      exact b_492 γ _ _ _ _ _ (lv_sub hl [] rfl) hH hS (by omega) (by omega) hq
    · have hq := ifpe hq c469
      refine lv_aload_n hx hb dL_pools_444 rfl (lv_at hl 0 rfl) ?_
      refine lv_bipush (v := 18) hx hb dL_pools_445 (by decide) ?_
      refine lv_iconst (v := 2) hx hb dL_pools_447 (by decide) ?_
      refine lv_iconst (v := 0) hx hb dL_pools_448 (by decide) ?_
      refine lv_iconst (v := 0) hx hb dL_pools_449 (by decide) ?_
      refine lv_iconst (v := 0) hx hb dL_pools_450 (by decide) ?_
      refine lv_iconst (v := 0) hx hb dL_pools_451 (by decide) ?_
      refine e_callW (rest := []) hC hl hH hS (c_L_call l hfl κ γ 18 2 0 0 0 0) tw_430 tw_431 tw_37 tw_432 hd_L_call ⟨Nat.le_of_ble_eq_true rfl, Nat.le_of_ble_eq_true rfl⟩ rfl rfl rfl rfl (Nat.le_of_ble_eq_true rfl) dL_pools_452 ⟨by show _ ≤ 1127; omega, by show _ ≤ 17572; omega⟩ rfl (fun H locs hH hS => ?_)
      exact b_455 ((x_L_call 18 2 0 0 0 0 γ).1) (x_L_call 18 2 0 0 0 0 γ).2 _ _ _ _ _ (lv_sub hl [0] rfl) hH hS (by omega) (by omega) hq
  have b_425 : ∀ (s0 : Int32) (γ : St) (H : Heap) (locs : List Loc) (ls : Array Slot) (cells slots : Nat), lv_has ls 1 [(0, .ref (kA κ 7 0))] → HE κ γ H → va_S (AA κ) s.heap H locs → cells + (811) ≤ 1127 → slots + (15018) ≤ 17572 → x_L_pools_425 s0 γ = res → W p l e (headSpec [Cond.code yL_pools cL_pools 1 (some .boolean)] ({ frames := 10, cells := 1127, slots := 17572, locals := 227 } : Room)).room s m ([.ref (kA κ 7 0)] : List Value).toArray below meth c H locs cells slots (MQ below (QL κ res.2.2 (some (.int res.2.1))) ([.ref (kA κ 7 0)] : List Value).toArray s 1127 17572 (AA κ)) (F0 m 425 ls [.int s0]) := by
    intro s0 γ H locs ls cells slots hl hH hS hc1 hc2 hq
    refine lv_if_eq (tgt := 492) hx hb dL_pools_425 (by decide) (fun c470 => ?_) (fun c470 => ?_)
    · have hq := ifpe hq c470
      exact b_492 γ _ _ _ _ _ (lv_sub hl [] rfl) hH hS (by omega) (by omega) hq
    · have hq := ifne hq c470
      refine lv_aload_n hx hb dL_pools_428 rfl (lv_at hl 0 rfl) ?_
      refine lv_bipush (v := 12) hx hb dL_pools_429 (by decide) ?_
      refine lv_iconst (v := 1) hx hb dL_pools_431 (by decide) ?_
      refine lv_iconst (v := 0) hx hb dL_pools_432 (by decide) ?_
      refine lv_iconst (v := 0) hx hb dL_pools_433 (by decide) ?_
      refine lv_iconst (v := 0) hx hb dL_pools_434 (by decide) ?_
      refine lv_iconst (v := 0) hx hb dL_pools_435 (by decide) ?_
      refine e_callW (rest := []) hC hl hH hS (c_L_call l hfl κ γ 12 1 0 0 0 0) tw_430 tw_431 tw_37 tw_432 hd_L_call ⟨Nat.le_of_ble_eq_true rfl, Nat.le_of_ble_eq_true rfl⟩ rfl rfl rfl rfl (Nat.le_of_ble_eq_true rfl) dL_pools_436 ⟨by show _ ≤ 1127; omega, by show _ ≤ 17572; omega⟩ rfl (fun H locs hH hS => ?_)
      exact b_439 ((x_L_call 12 1 0 0 0 0 γ).1) (x_L_call 12 1 0 0 0 0 γ).2 _ _ _ _ _ (lv_sub hl [0] rfl) hH hS (by omega) (by omega) hq
  have b_412 : ∀ (s0 : Int32) (γ : St) (H : Heap) (locs : List Loc) (ls : Array Slot) (cells slots : Nat), lv_has ls 1 [(0, .ref (kA κ 7 0))] → HE κ γ H → va_S (AA κ) s.heap H locs → cells + (817) ≤ 1127 → slots + (15054) ≤ 17572 → x_L_pools_412 s0 γ = res → W p l e (headSpec [Cond.code yL_pools cL_pools 1 (some .boolean)] ({ frames := 10, cells := 1127, slots := 17572, locals := 227 } : Room)).room s m ([.ref (kA κ 7 0)] : List Value).toArray below meth c H locs cells slots (MQ below (QL κ res.2.2 (some (.int res.2.1))) ([.ref (kA κ 7 0)] : List Value).toArray s 1127 17572 (AA κ)) (F0 m 412 ls [.int s0]) := by
    intro s0 γ H locs ls cells slots hl hH hS hc1 hc2 hq
    refine lv_iconst (v := 3) hx hb dL_pools_412 (by decide) ?_
    refine lv_icmp_ne (tgt := 492) hx hb dL_pools_413 (by decide) (fun c471 => ?_) (fun c471 => ?_)
    · have hq := ifne hq c471
      exact b_492 γ _ _ _ _ _ (lv_sub hl [] rfl) hH hS (by omega) (by omega) hq
    · have hq := ifpe hq c471
      refine lv_aload_n hx hb dL_pools_416 rfl (lv_at hl 0 rfl) ?_
      refine lv_iconst (v := 1) hx hb dL_pools_417 (by decide) ?_
      refine lv_iconst (v := 0) hx hb dL_pools_418 (by decide) ?_
      refine lv_iconst (v := 3) hx hb dL_pools_419 (by decide) ?_
      refine lv_iconst (v := 2) hx hb dL_pools_420 (by decide) ?_
      refine lv_iconst (v := 3) hx hb dL_pools_421 (by decide) ?_
      by_cases he472 : (x_L_match 1 0 3 2 3 γ).1 = 0
      rotate_left
      · exact flag_bad (ifne hq he472) hk
      have hq := ifpe hq he472
      refine e_callS (rest := []) hC hl hH hS (c_L_match l hfl κ γ 1 0 3 2 3 he472) tw_933 tw_934 tw_37 tw_935 hd_L_match ⟨Nat.le_of_ble_eq_true rfl, Nat.le_of_ble_eq_true rfl⟩ rfl rfl rfl rfl (Nat.le_of_ble_eq_true rfl) dL_pools_422 ⟨by show _ ≤ 1127; omega, by show _ ≤ 17572; omega⟩ rfl (fun H locs hH hS => ?_)
      exact b_425 ((x_L_match 1 0 3 2 3 γ).2.1) (x_L_match 1 0 3 2 3 γ).2.2 _ _ _ _ _ (lv_sub hl [0] rfl) hH hS (by omega) (by omega) hq
  have b_402 : ∀ (s0 : Int32) (γ : St) (H : Heap) (locs : List Loc) (ls : Array Slot) (cells slots : Nat), lv_has ls 1 [(0, .ref (kA κ 7 0))] → HE κ γ H → va_S (AA κ) s.heap H locs → cells + (819) ≤ 1127 → slots + (15066) ≤ 17572 → x_L_pools_402 s0 γ = res → W p l e (headSpec [Cond.code yL_pools cL_pools 1 (some .boolean)] ({ frames := 10, cells := 1127, slots := 17572, locals := 227 } : Room)).room s m ([.ref (kA κ 7 0)] : List Value).toArray below meth c H locs cells slots (MQ below (QL κ res.2.2 (some (.int res.2.1))) ([.ref (kA κ 7 0)] : List Value).toArray s 1127 17572 (AA κ)) (F0 m 402 ls [.int s0]) := by
    intro s0 γ H locs ls cells slots hl hH hS hc1 hc2 hq
    refine lv_if_eq (tgt := 492) hx hb dL_pools_402 (by decide) (fun c473 => ?_) (fun c473 => ?_)
    · have hq := ifpe hq c473
      exact b_492 γ _ _ _ _ _ (lv_sub hl [] rfl) hH hS (by omega) (by omega) hq
    · have hq := ifne hq c473
      refine lv_aload_n hx hb dL_pools_405 rfl (lv_at hl 0 rfl) ?_
      refine lv_iconst (v := 1) hx hb dL_pools_406 (by decide) ?_
      refine lv_iconst (v := 0) hx hb dL_pools_407 (by decide) ?_
      refine lv_iconst (v := 0) hx hb dL_pools_408 (by decide) ?_
      refine e_xcallV (rest := []) hC hl hH hS (co_wins l hfl κ γ 1 0 0) tw_822 tw_823 tw_824 tw_38 tw_825 hd_X7_wins ⟨Nat.le_of_ble_eq_true rfl, Nat.le_of_ble_eq_true rfl⟩ rfl rfl rfl rfl (Nat.le_of_ble_eq_true rfl) dL_pools_409 ⟨by show _ ≤ 1127; omega, by show _ ≤ 17572; omega⟩ rfl (fun he474 ce q9 H locs hH hS hce hcv hcl => ?_) (fun he474 H locs hH hS => ?_)
      · exact flag_bad (ifne hq he474) hk
      have hq := ifpe hq he474
      exact b_412 ((x_X7_wins 1 0 0 γ).2.1) (x_X7_wins 1 0 0 γ).2.2 _ _ _ _ _ (lv_sub hl [0] rfl) hH hS (by omega) (by omega) hq
  have b_389 : ∀ (s0 : Int32) (γ : St) (H : Heap) (locs : List Loc) (ls : Array Slot) (cells slots : Nat), lv_has ls 1 [(0, .ref (kA κ 7 0))] → HE κ γ H → va_S (AA κ) s.heap H locs → cells + (825) ≤ 1127 → slots + (15102) ≤ 17572 → x_L_pools_389 s0 γ = res → W p l e (headSpec [Cond.code yL_pools cL_pools 1 (some .boolean)] ({ frames := 10, cells := 1127, slots := 17572, locals := 227 } : Room)).room s m ([.ref (kA κ 7 0)] : List Value).toArray below meth c H locs cells slots (MQ below (QL κ res.2.2 (some (.int res.2.1))) ([.ref (kA κ 7 0)] : List Value).toArray s 1127 17572 (AA κ)) (F0 m 389 ls [.int s0]) := by
    intro s0 γ H locs ls cells slots hl hH hS hc1 hc2 hq
    refine lv_iconst (v := 2) hx hb dL_pools_389 (by decide) ?_
    refine lv_icmp_ne (tgt := 492) hx hb dL_pools_390 (by decide) (fun c475 => ?_) (fun c475 => ?_)
    · have hq := ifne hq c475
      exact b_492 γ _ _ _ _ _ (lv_sub hl [] rfl) hH hS (by omega) (by omega) hq
    · have hq := ifpe hq c475
      refine lv_aload_n hx hb dL_pools_393 rfl (lv_at hl 0 rfl) ?_
      refine lv_iconst (v := 1) hx hb dL_pools_394 (by decide) ?_
      refine lv_iconst (v := 0) hx hb dL_pools_395 (by decide) ?_
      refine lv_iconst (v := 3) hx hb dL_pools_396 (by decide) ?_
      refine lv_iconst (v := 2) hx hb dL_pools_397 (by decide) ?_
      refine lv_iconst (v := (-1)) hx hb dL_pools_398 (by decide) ?_
      by_cases he476 : (x_L_match 1 0 3 2 ((-1)) γ).1 = 0
      rotate_left
      · exact flag_bad (ifne hq he476) hk
      have hq := ifpe hq he476
      refine e_callS (rest := []) hC hl hH hS (c_L_match l hfl κ γ 1 0 3 2 ((-1)) he476) tw_933 tw_934 tw_37 tw_935 hd_L_match ⟨Nat.le_of_ble_eq_true rfl, Nat.le_of_ble_eq_true rfl⟩ rfl rfl rfl rfl (Nat.le_of_ble_eq_true rfl) dL_pools_399 ⟨by show _ ≤ 1127; omega, by show _ ≤ 17572; omega⟩ rfl (fun H locs hH hS => ?_)
      exact b_402 ((x_L_match 1 0 3 2 ((-1)) γ).2.1) (x_L_match 1 0 3 2 ((-1)) γ).2.2 _ _ _ _ _ (lv_sub hl [0] rfl) hH hS (by omega) (by omega) hq
  have b_377 : ∀ (s0 : Int32) (γ : St) (H : Heap) (locs : List Loc) (ls : Array Slot) (cells slots : Nat), lv_has ls 1 [(0, .ref (kA κ 7 0))] → HE κ γ H → va_S (AA κ) s.heap H locs → cells + (827) ≤ 1127 → slots + (15114) ≤ 17572 → x_L_pools_377 s0 γ = res → W p l e (headSpec [Cond.code yL_pools cL_pools 1 (some .boolean)] ({ frames := 10, cells := 1127, slots := 17572, locals := 227 } : Room)).room s m ([.ref (kA κ 7 0)] : List Value).toArray below meth c H locs cells slots (MQ below (QL κ res.2.2 (some (.int res.2.1))) ([.ref (kA κ 7 0)] : List Value).toArray s 1127 17572 (AA κ)) (F0 m 377 ls [.int s0]) := by
    intro s0 γ H locs ls cells slots hl hH hS hc1 hc2 hq
    refine lv_bipush (v := (-72)) hx hb dL_pools_377 (by decide) ?_
    refine lv_icmp_ne (tgt := 492) hx hb dL_pools_379 (by decide) (fun c477 => ?_) (fun c477 => ?_)
    · have hq := ifne hq c477
      exact b_492 γ _ _ _ _ _ (lv_sub hl [] rfl) hH hS (by omega) (by omega) hq
    · have hq := ifpe hq c477
      refine lv_aload_n hx hb dL_pools_382 rfl (lv_at hl 0 rfl) ?_
      refine lv_iconst (v := 0) hx hb dL_pools_383 (by decide) ?_
      refine lv_iconst (v := 1) hx hb dL_pools_384 (by decide) ?_
      refine lv_iconst (v := 1) hx hb dL_pools_385 (by decide) ?_
      refine e_xcallV (rest := []) hC hl hH hS (co_wins l hfl κ γ 0 1 1) tw_822 tw_823 tw_824 tw_38 tw_825 hd_X7_wins ⟨Nat.le_of_ble_eq_true rfl, Nat.le_of_ble_eq_true rfl⟩ rfl rfl rfl rfl (Nat.le_of_ble_eq_true rfl) dL_pools_386 ⟨by show _ ≤ 1127; omega, by show _ ≤ 17572; omega⟩ rfl (fun he478 ce q9 H locs hH hS hce hcv hcl => ?_) (fun he478 H locs hH hS => ?_)
      · exact flag_bad (ifne hq he478) hk
      have hq := ifpe hq he478
      exact b_389 ((x_X7_wins 0 1 1 γ).2.1) (x_X7_wins 0 1 1 γ).2.2 _ _ _ _ _ (lv_sub hl [0] rfl) hH hS (by omega) (by omega) hq
  have b_361 : ∀ (s0 : Int32) (γ : St) (H : Heap) (locs : List Loc) (ls : Array Slot) (cells slots : Nat), lv_has ls 1 [(0, .ref (kA κ 7 0))] → HE κ γ H → va_S (AA κ) s.heap H locs → cells + (830) ≤ 1127 → slots + (15179) ≤ 17572 → x_L_pools_361 s0 γ = res → W p l e (headSpec [Cond.code yL_pools cL_pools 1 (some .boolean)] ({ frames := 10, cells := 1127, slots := 17572, locals := 227 } : Room)).room s m ([.ref (kA κ 7 0)] : List Value).toArray below meth c H locs cells slots (MQ below (QL κ res.2.2 (some (.int res.2.1))) ([.ref (kA κ 7 0)] : List Value).toArray s 1127 17572 (AA κ)) (F0 m 361 ls [.int s0]) := by
    intro s0 γ H locs ls cells slots hl hH hS hc1 hc2 hq
    refine lv_bipush (v := (-72)) hx hb dL_pools_361 (by decide) ?_
    refine lv_icmp_ne (tgt := 492) hx hb dL_pools_363 (by decide) (fun c479 => ?_) (fun c479 => ?_)
    · have hq := ifne hq c479
      exact b_492 γ _ _ _ _ _ (lv_sub hl [] rfl) hH hS (by omega) (by omega) hq
    · have hq := ifpe hq c479
      refine lv_aload_n hx hb dL_pools_366 rfl (lv_at hl 0 rfl) ?_
      refine lv_bipush (v := 18) hx hb dL_pools_367 (by decide) ?_
      refine lv_iconst (v := 0) hx hb dL_pools_369 (by decide) ?_
      refine lv_iconst (v := 1) hx hb dL_pools_370 (by decide) ?_
      refine lv_iconst (v := 3) hx hb dL_pools_371 (by decide) ?_
      refine lv_iconst (v := 0) hx hb dL_pools_372 (by decide) ?_
      refine lv_iconst (v := 0) hx hb dL_pools_373 (by decide) ?_
      refine e_callW (rest := []) hC hl hH hS (c_L_call l hfl κ γ 18 0 1 3 0 0) tw_430 tw_431 tw_37 tw_432 hd_L_call ⟨Nat.le_of_ble_eq_true rfl, Nat.le_of_ble_eq_true rfl⟩ rfl rfl rfl rfl (Nat.le_of_ble_eq_true rfl) dL_pools_374 ⟨by show _ ≤ 1127; omega, by show _ ≤ 17572; omega⟩ rfl (fun H locs hH hS => ?_)
      exact b_377 ((x_L_call 18 0 1 3 0 0 γ).1) (x_L_call 18 0 1 3 0 0 γ).2 _ _ _ _ _ (lv_sub hl [0] rfl) hH hS (by omega) (by omega) hq
  have b_345 : ∀ (s0 : Int32) (γ : St) (H : Heap) (locs : List Loc) (ls : Array Slot) (cells slots : Nat), lv_has ls 1 [(0, .ref (kA κ 7 0))] → HE κ γ H → va_S (AA κ) s.heap H locs → cells + (833) ≤ 1127 → slots + (15244) ≤ 17572 → x_L_pools_345 s0 γ = res → W p l e (headSpec [Cond.code yL_pools cL_pools 1 (some .boolean)] ({ frames := 10, cells := 1127, slots := 17572, locals := 227 } : Room)).room s m ([.ref (kA κ 7 0)] : List Value).toArray below meth c H locs cells slots (MQ below (QL κ res.2.2 (some (.int res.2.1))) ([.ref (kA κ 7 0)] : List Value).toArray s 1127 17572 (AA κ)) (F0 m 345 ls [.int s0]) := by
    intro s0 γ H locs ls cells slots hl hH hS hc1 hc2 hq
    refine lv_bipush (v := (-73)) hx hb dL_pools_345 (by decide) ?_
    refine lv_icmp_ne (tgt := 492) hx hb dL_pools_347 (by decide) (fun c480 => ?_) (fun c480 => ?_)
    · have hq := ifne hq c480
      exact b_492 γ _ _ _ _ _ (lv_sub hl [] rfl) hH hS (by omega) (by omega) hq
    · have hq := ifpe hq c480
      refine lv_aload_n hx hb dL_pools_350 rfl (lv_at hl 0 rfl) ?_
      refine lv_bipush (v := 12) hx hb dL_pools_351 (by decide) ?_
      refine lv_iconst (v := 0) hx hb dL_pools_353 (by decide) ?_
      refine lv_iconst (v := 1) hx hb dL_pools_354 (by decide) ?_
      refine lv_iconst (v := 2) hx hb dL_pools_355 (by decide) ?_
      refine lv_iconst (v := 0) hx hb dL_pools_356 (by decide) ?_
      refine lv_iconst (v := 0) hx hb dL_pools_357 (by decide) ?_
      refine e_callW (rest := []) hC hl hH hS (c_L_call l hfl κ γ 12 0 1 2 0 0) tw_430 tw_431 tw_37 tw_432 hd_L_call ⟨Nat.le_of_ble_eq_true rfl, Nat.le_of_ble_eq_true rfl⟩ rfl rfl rfl rfl (Nat.le_of_ble_eq_true rfl) dL_pools_358 ⟨by show _ ≤ 1127; omega, by show _ ≤ 17572; omega⟩ rfl (fun H locs hH hS => ?_)
      exact b_361 ((x_L_call 12 0 1 2 0 0 γ).1) (x_L_call 12 0 1 2 0 0 γ).2 _ _ _ _ _ (lv_sub hl [0] rfl) hH hS (by omega) (by omega) hq
  have b_329 : ∀ (s0 : Int32) (γ : St) (H : Heap) (locs : List Loc) (ls : Array Slot) (cells slots : Nat), lv_has ls 1 [(0, .ref (kA κ 7 0))] → HE κ γ H → va_S (AA κ) s.heap H locs → cells + (836) ≤ 1127 → slots + (15309) ≤ 17572 → x_L_pools_329 s0 γ = res → W p l e (headSpec [Cond.code yL_pools cL_pools 1 (some .boolean)] ({ frames := 10, cells := 1127, slots := 17572, locals := 227 } : Room)).room s m ([.ref (kA κ 7 0)] : List Value).toArray below meth c H locs cells slots (MQ below (QL κ res.2.2 (some (.int res.2.1))) ([.ref (kA κ 7 0)] : List Value).toArray s 1127 17572 (AA κ)) (F0 m 329 ls [.int s0]) := by
    intro s0 γ H locs ls cells slots hl hH hS hc1 hc2 hq
    refine lv_bipush (v := (-73)) hx hb dL_pools_329 (by decide) ?_
    refine lv_icmp_ne (tgt := 492) hx hb dL_pools_331 (by decide) (fun c481 => ?_) (fun c481 => ?_)
    · have hq := ifne hq c481
      exact b_492 γ _ _ _ _ _ (lv_sub hl [] rfl) hH hS (by omega) (by omega) hq
    · have hq := ifpe hq c481
      refine lv_aload_n hx hb dL_pools_334 rfl (lv_at hl 0 rfl) ?_
      refine lv_bipush (v := 12) hx hb dL_pools_335 (by decide) ?_
      refine lv_iconst (v := 0) hx hb dL_pools_337 (by decide) ?_
      refine lv_iconst (v := 0) hx hb dL_pools_338 (by decide) ?_
      refine lv_iconst (v := 0) hx hb dL_pools_339 (by decide) ?_
      refine lv_iconst (v := 0) hx hb dL_pools_340 (by decide) ?_
      refine lv_iconst (v := 0) hx hb dL_pools_341 (by decide) ?_
      refine e_callW (rest := []) hC hl hH hS (c_L_call l hfl κ γ 12 0 0 0 0 0) tw_430 tw_431 tw_37 tw_432 hd_L_call ⟨Nat.le_of_ble_eq_true rfl, Nat.le_of_ble_eq_true rfl⟩ rfl rfl rfl rfl (Nat.le_of_ble_eq_true rfl) dL_pools_342 ⟨by show _ ≤ 1127; omega, by show _ ≤ 17572; omega⟩ rfl (fun H locs hH hS => ?_)
      exact b_345 ((x_L_call 12 0 0 0 0 0 γ).1) (x_L_call 12 0 0 0 0 0 γ).2 _ _ _ _ _ (lv_sub hl [0] rfl) hH hS (by omega) (by omega) hq
  have b_315 : ∀ (s0 : Int32) (γ : St) (H : Heap) (locs : List Loc) (ls : Array Slot) (cells slots : Nat), lv_has ls 1 [(0, .ref (kA κ 7 0))] → HE κ γ H → va_S (AA κ) s.heap H locs → cells + (839) ≤ 1127 → slots + (15374) ≤ 17572 → x_L_pools_315 s0 γ = res → W p l e (headSpec [Cond.code yL_pools cL_pools 1 (some .boolean)] ({ frames := 10, cells := 1127, slots := 17572, locals := 227 } : Room)).room s m ([.ref (kA κ 7 0)] : List Value).toArray below meth c H locs cells slots (MQ below (QL κ res.2.2 (some (.int res.2.1))) ([.ref (kA κ 7 0)] : List Value).toArray s 1127 17572 (AA κ)) (F0 m 315 ls [.int s0]) := by
    intro s0 γ H locs ls cells slots hl hH hS hc1 hc2 hq
    refine lv_if_eq (tgt := 492) hx hb dL_pools_315 (by decide) (fun c482 => ?_) (fun c482 => ?_)
    · have hq := ifpe hq c482
      exact b_492 γ _ _ _ _ _ (lv_sub hl [] rfl) hH hS (by omega) (by omega) hq
    · have hq := ifne hq c482
      refine lv_aload_n hx hb dL_pools_318 rfl (lv_at hl 0 rfl) ?_
      refine lv_bipush (v := 12) hx hb dL_pools_319 (by decide) ?_
      refine lv_iconst (v := 1) hx hb dL_pools_321 (by decide) ?_
      refine lv_iconst (v := 0) hx hb dL_pools_322 (by decide) ?_
      refine lv_iconst (v := 0) hx hb dL_pools_323 (by decide) ?_
      refine lv_iconst (v := 0) hx hb dL_pools_324 (by decide) ?_
      refine lv_iconst (v := 0) hx hb dL_pools_325 (by decide) ?_
      refine e_callW (rest := []) hC hl hH hS (c_L_call l hfl κ γ 12 1 0 0 0 0) tw_430 tw_431 tw_37 tw_432 hd_L_call ⟨Nat.le_of_ble_eq_true rfl, Nat.le_of_ble_eq_true rfl⟩ rfl rfl rfl rfl (Nat.le_of_ble_eq_true rfl) dL_pools_326 ⟨by show _ ≤ 1127; omega, by show _ ≤ 17572; omega⟩ rfl (fun H locs hH hS => ?_)
      exact b_329 ((x_L_call 12 1 0 0 0 0 γ).1) (x_L_call 12 1 0 0 0 0 γ).2 _ _ _ _ _ (lv_sub hl [0] rfl) hH hS (by omega) (by omega) hq
  have b_303 : ∀ (s0 : Int32) (γ : St) (H : Heap) (locs : List Loc) (ls : Array Slot) (cells slots : Nat), lv_has ls 1 [(0, .ref (kA κ 7 0))] → HE κ γ H → va_S (AA κ) s.heap H locs → cells + (845) ≤ 1127 → slots + (15410) ≤ 17572 → x_L_pools_303 s0 γ = res → W p l e (headSpec [Cond.code yL_pools cL_pools 1 (some .boolean)] ({ frames := 10, cells := 1127, slots := 17572, locals := 227 } : Room)).room s m ([.ref (kA κ 7 0)] : List Value).toArray below meth c H locs cells slots (MQ below (QL κ res.2.2 (some (.int res.2.1))) ([.ref (kA κ 7 0)] : List Value).toArray s 1127 17572 (AA κ)) (F0 m 303 ls [.int s0]) := by
    intro s0 γ H locs ls cells slots hl hH hS hc1 hc2 hq
    refine lv_if_eq (tgt := 492) hx hb dL_pools_303 (by decide) (fun c483 => ?_) (fun c483 => ?_)
    · have hq := ifpe hq c483
      exact b_492 γ _ _ _ _ _ (lv_sub hl [] rfl) hH hS (by omega) (by omega) hq
    · have hq := ifne hq c483
      refine lv_aload_n hx hb dL_pools_306 rfl (lv_at hl 0 rfl) ?_
      refine lv_iconst (v := 1) hx hb dL_pools_307 (by decide) ?_
      refine lv_iconst (v := 0) hx hb dL_pools_308 (by decide) ?_
      refine lv_iconst (v := 3) hx hb dL_pools_309 (by decide) ?_
      refine lv_iconst (v := (-1)) hx hb dL_pools_310 (by decide) ?_
      refine lv_iconst (v := (-1)) hx hb dL_pools_311 (by decide) ?_
      by_cases he484 : (x_L_match 1 0 3 ((-1)) ((-1)) γ).1 = 0
      rotate_left
      · exact flag_bad (ifne hq he484) hk
      have hq := ifpe hq he484
      refine e_callS (rest := []) hC hl hH hS (c_L_match l hfl κ γ 1 0 3 ((-1)) ((-1)) he484) tw_933 tw_934 tw_37 tw_935 hd_L_match ⟨Nat.le_of_ble_eq_true rfl, Nat.le_of_ble_eq_true rfl⟩ rfl rfl rfl rfl (Nat.le_of_ble_eq_true rfl) dL_pools_312 ⟨by show _ ≤ 1127; omega, by show _ ≤ 17572; omega⟩ rfl (fun H locs hH hS => ?_)
      exact b_315 ((x_L_match 1 0 3 ((-1)) ((-1)) γ).2.1) (x_L_match 1 0 3 ((-1)) ((-1)) γ).2.2 _ _ _ _ _ (lv_sub hl [0] rfl) hH hS (by omega) (by omega) hq
  have b_291 : ∀ (s0 : Int32) (γ : St) (H : Heap) (locs : List Loc) (ls : Array Slot) (cells slots : Nat), lv_has ls 1 [(0, .ref (kA κ 7 0))] → HE κ γ H → va_S (AA κ) s.heap H locs → cells + (851) ≤ 1127 → slots + (15446) ≤ 17572 → x_L_pools_291 s0 γ = res → W p l e (headSpec [Cond.code yL_pools cL_pools 1 (some .boolean)] ({ frames := 10, cells := 1127, slots := 17572, locals := 227 } : Room)).room s m ([.ref (kA κ 7 0)] : List Value).toArray below meth c H locs cells slots (MQ below (QL κ res.2.2 (some (.int res.2.1))) ([.ref (kA κ 7 0)] : List Value).toArray s 1127 17572 (AA κ)) (F0 m 291 ls [.int s0]) := by
    intro s0 γ H locs ls cells slots hl hH hS hc1 hc2 hq
    refine lv_if_eq (tgt := 492) hx hb dL_pools_291 (by decide) (fun c485 => ?_) (fun c485 => ?_)
    · have hq := ifpe hq c485
      exact b_492 γ _ _ _ _ _ (lv_sub hl [] rfl) hH hS (by omega) (by omega) hq
    · have hq := ifne hq c485
      refine lv_aload_n hx hb dL_pools_294 rfl (lv_at hl 0 rfl) ?_
      refine lv_iconst (v := 0) hx hb dL_pools_295 (by decide) ?_
      refine lv_iconst (v := 1) hx hb dL_pools_296 (by decide) ?_
      refine lv_iconst (v := 0) hx hb dL_pools_297 (by decide) ?_
      refine lv_iconst (v := 2) hx hb dL_pools_298 (by decide) ?_
      refine lv_iconst (v := (-1)) hx hb dL_pools_299 (by decide) ?_
      by_cases he486 : (x_L_match 0 1 0 2 ((-1)) γ).1 = 0
      rotate_left
      · exact flag_bad (ifne hq he486) hk
      have hq := ifpe hq he486
      refine e_callS (rest := []) hC hl hH hS (c_L_match l hfl κ γ 0 1 0 2 ((-1)) he486) tw_933 tw_934 tw_37 tw_935 hd_L_match ⟨Nat.le_of_ble_eq_true rfl, Nat.le_of_ble_eq_true rfl⟩ rfl rfl rfl rfl (Nat.le_of_ble_eq_true rfl) dL_pools_300 ⟨by show _ ≤ 1127; omega, by show _ ≤ 17572; omega⟩ rfl (fun H locs hH hS => ?_)
      exact b_303 ((x_L_match 0 1 0 2 ((-1)) γ).2.1) (x_L_match 0 1 0 2 ((-1)) γ).2.2 _ _ _ _ _ (lv_sub hl [0] rfl) hH hS (by omega) (by omega) hq
  have b_278 : ∀ (s0 : Int32) (γ : St) (H : Heap) (locs : List Loc) (ls : Array Slot) (cells slots : Nat), lv_has ls 1 [(0, .ref (kA κ 7 0))] → HE κ γ H → va_S (AA κ) s.heap H locs → cells + (857) ≤ 1127 → slots + (15482) ≤ 17572 → x_L_pools_278 s0 γ = res → W p l e (headSpec [Cond.code yL_pools cL_pools 1 (some .boolean)] ({ frames := 10, cells := 1127, slots := 17572, locals := 227 } : Room)).room s m ([.ref (kA κ 7 0)] : List Value).toArray below meth c H locs cells slots (MQ below (QL κ res.2.2 (some (.int res.2.1))) ([.ref (kA κ 7 0)] : List Value).toArray s 1127 17572 (AA κ)) (F0 m 278 ls [.int s0]) := by
    intro s0 γ H locs ls cells slots hl hH hS hc1 hc2 hq
    refine lv_iconst (v := 4) hx hb dL_pools_278 (by decide) ?_
    refine lv_icmp_ne (tgt := 492) hx hb dL_pools_279 (by decide) (fun c487 => ?_) (fun c487 => ?_)
    · have hq := ifne hq c487
      exact b_492 γ _ _ _ _ _ (lv_sub hl [] rfl) hH hS (by omega) (by omega) hq
    · have hq := ifpe hq c487
      refine lv_aload_n hx hb dL_pools_282 rfl (lv_at hl 0 rfl) ?_
      refine lv_iconst (v := 0) hx hb dL_pools_283 (by decide) ?_
      refine lv_iconst (v := 0) hx hb dL_pools_284 (by decide) ?_
      refine lv_iconst (v := 3) hx hb dL_pools_285 (by decide) ?_
      refine lv_iconst (v := (-1)) hx hb dL_pools_286 (by decide) ?_
      refine lv_iconst (v := 3) hx hb dL_pools_287 (by decide) ?_
      by_cases he488 : (x_L_match 0 0 3 ((-1)) 3 γ).1 = 0
      rotate_left
      · exact flag_bad (ifne hq he488) hk
      have hq := ifpe hq he488
      refine e_callS (rest := []) hC hl hH hS (c_L_match l hfl κ γ 0 0 3 ((-1)) 3 he488) tw_933 tw_934 tw_37 tw_935 hd_L_match ⟨Nat.le_of_ble_eq_true rfl, Nat.le_of_ble_eq_true rfl⟩ rfl rfl rfl rfl (Nat.le_of_ble_eq_true rfl) dL_pools_288 ⟨by show _ ≤ 1127; omega, by show _ ≤ 17572; omega⟩ rfl (fun H locs hH hS => ?_)
      exact b_291 ((x_L_match 0 0 3 ((-1)) 3 γ).2.1) (x_L_match 0 0 3 ((-1)) 3 γ).2.2 _ _ _ _ _ (lv_sub hl [0] rfl) hH hS (by omega) (by omega) hq
  have b_270 : ∀ (s0 : Int32) (γ : St) (H : Heap) (locs : List Loc) (ls : Array Slot) (cells slots : Nat), lv_has ls 1 [(0, .ref (kA κ 7 0))] → HE κ γ H → va_S (AA κ) s.heap H locs → cells + (858) ≤ 1127 → slots + (15488) ≤ 17572 → x_L_pools_270 s0 γ = res → W p l e (headSpec [Cond.code yL_pools cL_pools 1 (some .boolean)] ({ frames := 10, cells := 1127, slots := 17572, locals := 227 } : Room)).room s m ([.ref (kA κ 7 0)] : List Value).toArray below meth c H locs cells slots (MQ below (QL κ res.2.2 (some (.int res.2.1))) ([.ref (kA κ 7 0)] : List Value).toArray s 1127 17572 (AA κ)) (F0 m 270 ls [.int s0]) := by
    intro s0 γ H locs ls cells slots hl hH hS hc1 hc2 hq
    refine lv_if_eq (tgt := 492) hx hb dL_pools_270 (by decide) (fun c489 => ?_) (fun c489 => ?_)
    · have hq := ifpe hq c489
      exact b_492 γ _ _ _ _ _ (lv_sub hl [] rfl) hH hS (by omega) (by omega) hq
    · have hq := ifne hq c489
      refine lv_aload_n hx hb dL_pools_273 rfl (lv_at hl 0 rfl) ?_
      refine lv_iconst (v := 0) hx hb dL_pools_274 (by decide) ?_
      refine e_xcallV (rest := []) hC hl hH hS (co_tableau l hfl κ γ 0) tw_789 tw_790 tw_791 tw_38 tw_792 hd_X7_tableau ⟨Nat.le_of_ble_eq_true rfl, Nat.le_of_ble_eq_true rfl⟩ rfl rfl rfl rfl (Nat.le_of_ble_eq_true rfl) dL_pools_275 ⟨by show _ ≤ 1127; omega, by show _ ≤ 17572; omega⟩ rfl (fun he490 ce q9 H locs hH hS hce hcv hcl => ?_) (fun he490 H locs hH hS => ?_)
      · exact flag_bad (ifne hq he490) hk
      have hq := ifpe hq he490
      exact b_278 ((x_X7_tableau 0 γ).2.1) (x_X7_tableau 0 γ).2.2 _ _ _ _ _ (lv_sub hl [0] rfl) hH hS (by omega) (by omega) hq
  have b_258 : ∀ (s0 : Int32) (γ : St) (H : Heap) (locs : List Loc) (ls : Array Slot) (cells slots : Nat), lv_has ls 1 [(0, .ref (kA κ 7 0))] → HE κ γ H → va_S (AA κ) s.heap H locs → cells + (863) ≤ 1127 → slots + (15518) ≤ 17572 → x_L_pools_258 s0 γ = res → W p l e (headSpec [Cond.code yL_pools cL_pools 1 (some .boolean)] ({ frames := 10, cells := 1127, slots := 17572, locals := 227 } : Room)).room s m ([.ref (kA κ 7 0)] : List Value).toArray below meth c H locs cells slots (MQ below (QL κ res.2.2 (some (.int res.2.1))) ([.ref (kA κ 7 0)] : List Value).toArray s 1127 17572 (AA κ)) (F0 m 258 ls [.int s0]) := by
    intro s0 γ H locs ls cells slots hl hH hS hc1 hc2 hq
    refine lv_if_eq (tgt := 492) hx hb dL_pools_258 (by decide) (fun c491 => ?_) (fun c491 => ?_)
    · have hq := ifpe hq c491
      exact b_492 γ _ _ _ _ _ (lv_sub hl [] rfl) hH hS (by omega) (by omega) hq
    · have hq := ifne hq c491
      refine lv_aload_n hx hb dL_pools_261 rfl (lv_at hl 0 rfl) ?_
      refine lv_iconst (v := 0) hx hb dL_pools_262 (by decide) ?_
      refine lv_iconst (v := 3) hx hb dL_pools_263 (by decide) ?_
      refine lv_iconst (v := 0) hx hb dL_pools_264 (by decide) ?_
      refine lv_iconst (v := 2) hx hb dL_pools_265 (by decide) ?_
      refine lv_iconst (v := (-1)) hx hb dL_pools_266 (by decide) ?_
      by_cases he492 : (x_L_ranks 0 3 0 2 ((-1)) γ).1 = 0
      rotate_left
      · exact flag_bad (ifne hq he492) hk
      have hq := ifpe hq he492
      refine e_callS (rest := []) hC hl hH hS (c_L_ranks l hfl κ γ 0 3 0 2 ((-1)) he492) tw_924 tw_925 tw_37 tw_926 hd_L_ranks ⟨Nat.le_of_ble_eq_true rfl, Nat.le_of_ble_eq_true rfl⟩ rfl rfl rfl rfl (Nat.le_of_ble_eq_true rfl) dL_pools_267 ⟨by show _ ≤ 1127; omega, by show _ ≤ 17572; omega⟩ rfl (fun H locs hH hS => ?_)
      exact b_270 ((x_L_ranks 0 3 0 2 ((-1)) γ).2.1) (x_L_ranks 0 3 0 2 ((-1)) γ).2.2 _ _ _ _ _ (lv_sub hl [0] rfl) hH hS (by omega) (by omega) hq
  have b_245 : ∀ (s0 : Int32) (γ : St) (H : Heap) (locs : List Loc) (ls : Array Slot) (cells slots : Nat), lv_has ls 1 [(0, .ref (kA κ 7 0))] → HE κ γ H → va_S (AA κ) s.heap H locs → cells + (887) ≤ 1127 → slots + (15662) ≤ 17572 → x_L_pools_245 s0 γ = res → W p l e (headSpec [Cond.code yL_pools cL_pools 1 (some .boolean)] ({ frames := 10, cells := 1127, slots := 17572, locals := 227 } : Room)).room s m ([.ref (kA κ 7 0)] : List Value).toArray below meth c H locs cells slots (MQ below (QL κ res.2.2 (some (.int res.2.1))) ([.ref (kA κ 7 0)] : List Value).toArray s 1127 17572 (AA κ)) (F0 m 245 ls [.int s0]) := by
    intro s0 γ H locs ls cells slots hl hH hS hc1 hc2 hq
    refine lv_if_eq (tgt := 492) hx hb dL_pools_245 (by decide) (fun c493 => ?_) (fun c493 => ?_)
    · have hq := ifpe hq c493
      exact b_492 γ _ _ _ _ _ (lv_sub hl [] rfl) hH hS (by omega) (by omega) hq
    · have hq := ifne hq c493
      refine lv_aload_n hx hb dL_pools_248 rfl (lv_at hl 0 rfl) ?_
      refine lv_iconst (v := 0) hx hb dL_pools_249 (by decide) ?_
      refine lv_iconst (v := 2) hx hb dL_pools_250 (by decide) ?_
      refine lv_iconst (v := 2) hx hb dL_pools_251 (by decide) ?_
      refine lv_iconst (v := 0) hx hb dL_pools_252 (by decide) ?_
      refine lv_iconst (v := 0) hx hb dL_pools_253 (by decide) ?_
      refine lv_iconst (v := 2) hx hb dL_pools_254 (by decide) ?_
      by_cases he494 : (x_L_table 0 2 2 0 0 2 γ).1 = 0
      rotate_left
      · exact flag_bad (ifne hq he494) hk
      have hq := ifpe hq he494
      refine e_callS (rest := []) hC hl hH hS (c_L_table l hfl κ γ 0 2 2 0 0 2 he494) tw_930 tw_931 tw_37 tw_932 hd_L_table ⟨Nat.le_of_ble_eq_true rfl, Nat.le_of_ble_eq_true rfl⟩ rfl rfl rfl rfl (Nat.le_of_ble_eq_true rfl) dL_pools_255 ⟨by show _ ≤ 1127; omega, by show _ ≤ 17572; omega⟩ rfl (fun H locs hH hS => ?_)
      exact b_258 ((x_L_table 0 2 2 0 0 2 γ).2.1) (x_L_table 0 2 2 0 0 2 γ).2.2 _ _ _ _ _ (lv_sub hl [0] rfl) hH hS (by omega) (by omega) hq
  have b_232 : ∀ (s0 : Int32) (γ : St) (H : Heap) (locs : List Loc) (ls : Array Slot) (cells slots : Nat), lv_has ls 1 [(0, .ref (kA κ 7 0))] → HE κ γ H → va_S (AA κ) s.heap H locs → cells + (911) ≤ 1127 → slots + (15806) ≤ 17572 → x_L_pools_232 s0 γ = res → W p l e (headSpec [Cond.code yL_pools cL_pools 1 (some .boolean)] ({ frames := 10, cells := 1127, slots := 17572, locals := 227 } : Room)).room s m ([.ref (kA κ 7 0)] : List Value).toArray below meth c H locs cells slots (MQ below (QL κ res.2.2 (some (.int res.2.1))) ([.ref (kA κ 7 0)] : List Value).toArray s 1127 17572 (AA κ)) (F0 m 232 ls [.int s0]) := by
    intro s0 γ H locs ls cells slots hl hH hS hc1 hc2 hq
    refine lv_if_eq (tgt := 492) hx hb dL_pools_232 (by decide) (fun c495 => ?_) (fun c495 => ?_)
    · have hq := ifpe hq c495
      exact b_492 γ _ _ _ _ _ (lv_sub hl [] rfl) hH hS (by omega) (by omega) hq
    · have hq := ifne hq c495
      refine lv_aload_n hx hb dL_pools_235 rfl (lv_at hl 0 rfl) ?_
      refine lv_iconst (v := 0) hx hb dL_pools_236 (by decide) ?_
      refine lv_iconst (v := 3) hx hb dL_pools_237 (by decide) ?_
      refine lv_iconst (v := 2) hx hb dL_pools_238 (by decide) ?_
      refine lv_iconst (v := 2) hx hb dL_pools_239 (by decide) ?_
      refine lv_iconst (v := 2) hx hb dL_pools_240 (by decide) ?_
      refine lv_iconst (v := 0) hx hb dL_pools_241 (by decide) ?_
      by_cases he496 : (x_L_table 0 3 2 2 2 0 γ).1 = 0
      rotate_left
      · exact flag_bad (ifne hq he496) hk
      have hq := ifpe hq he496
      refine e_callS (rest := []) hC hl hH hS (c_L_table l hfl κ γ 0 3 2 2 2 0 he496) tw_930 tw_931 tw_37 tw_932 hd_L_table ⟨Nat.le_of_ble_eq_true rfl, Nat.le_of_ble_eq_true rfl⟩ rfl rfl rfl rfl (Nat.le_of_ble_eq_true rfl) dL_pools_242 ⟨by show _ ≤ 1127; omega, by show _ ≤ 17572; omega⟩ rfl (fun H locs hH hS => ?_)
      exact b_245 ((x_L_table 0 3 2 2 2 0 γ).2.1) (x_L_table 0 3 2 2 2 0 γ).2.2 _ _ _ _ _ (lv_sub hl [0] rfl) hH hS (by omega) (by omega) hq
  have b_219 : ∀ (s0 : Int32) (γ : St) (H : Heap) (locs : List Loc) (ls : Array Slot) (cells slots : Nat), lv_has ls 1 [(0, .ref (kA κ 7 0))] → HE κ γ H → va_S (AA κ) s.heap H locs → cells + (935) ≤ 1127 → slots + (15950) ≤ 17572 → x_L_pools_219 s0 γ = res → W p l e (headSpec [Cond.code yL_pools cL_pools 1 (some .boolean)] ({ frames := 10, cells := 1127, slots := 17572, locals := 227 } : Room)).room s m ([.ref (kA κ 7 0)] : List Value).toArray below meth c H locs cells slots (MQ below (QL κ res.2.2 (some (.int res.2.1))) ([.ref (kA κ 7 0)] : List Value).toArray s 1127 17572 (AA κ)) (F0 m 219 ls [.int s0]) := by
    intro s0 γ H locs ls cells slots hl hH hS hc1 hc2 hq
    refine lv_if_eq (tgt := 492) hx hb dL_pools_219 (by decide) (fun c497 => ?_) (fun c497 => ?_)
    · have hq := ifpe hq c497
      exact b_492 γ _ _ _ _ _ (lv_sub hl [] rfl) hH hS (by omega) (by omega) hq
    · have hq := ifne hq c497
      refine lv_aload_n hx hb dL_pools_222 rfl (lv_at hl 0 rfl) ?_
      refine lv_iconst (v := 0) hx hb dL_pools_223 (by decide) ?_
      refine lv_iconst (v := 0) hx hb dL_pools_224 (by decide) ?_
      refine lv_iconst (v := 2) hx hb dL_pools_225 (by decide) ?_
      refine lv_iconst (v := 1) hx hb dL_pools_226 (by decide) ?_
      refine lv_iconst (v := 1) hx hb dL_pools_227 (by decide) ?_
      refine lv_iconst (v := 1) hx hb dL_pools_228 (by decide) ?_
      by_cases he498 : (x_L_table 0 0 2 1 1 1 γ).1 = 0
      rotate_left
      · exact flag_bad (ifne hq he498) hk
      have hq := ifpe hq he498
      refine e_callS (rest := []) hC hl hH hS (c_L_table l hfl κ γ 0 0 2 1 1 1 he498) tw_930 tw_931 tw_37 tw_932 hd_L_table ⟨Nat.le_of_ble_eq_true rfl, Nat.le_of_ble_eq_true rfl⟩ rfl rfl rfl rfl (Nat.le_of_ble_eq_true rfl) dL_pools_229 ⟨by show _ ≤ 1127; omega, by show _ ≤ 17572; omega⟩ rfl (fun H locs hH hS => ?_)
      exact b_232 ((x_L_table 0 0 2 1 1 1 γ).2.1) (x_L_table 0 0 2 1 1 1 γ).2.2 _ _ _ _ _ (lv_sub hl [0] rfl) hH hS (by omega) (by omega) hq
  have b_204 : ∀ (s0 : Int32) (γ : St) (H : Heap) (locs : List Loc) (ls : Array Slot) (cells slots : Nat), lv_has ls 1 [(0, .ref (kA κ 7 0))] → HE κ γ H → va_S (AA κ) s.heap H locs → cells + (959) ≤ 1127 → slots + (16094) ≤ 17572 → x_L_pools_204 s0 γ = res → W p l e (headSpec [Cond.code yL_pools cL_pools 1 (some .boolean)] ({ frames := 10, cells := 1127, slots := 17572, locals := 227 } : Room)).room s m ([.ref (kA κ 7 0)] : List Value).toArray below meth c H locs cells slots (MQ below (QL κ res.2.2 (some (.int res.2.1))) ([.ref (kA κ 7 0)] : List Value).toArray s 1127 17572 (AA κ)) (F0 m 204 ls [.int s0]) := by
    intro s0 γ H locs ls cells slots hl hH hS hc1 hc2 hq
    refine lv_bipush (v := (-73)) hx hb dL_pools_204 (by decide) ?_
    refine lv_icmp_ne (tgt := 492) hx hb dL_pools_206 (by decide) (fun c499 => ?_) (fun c499 => ?_)
    · have hq := ifne hq c499
      exact b_492 γ _ _ _ _ _ (lv_sub hl [] rfl) hH hS (by omega) (by omega) hq
    · have hq := ifpe hq c499
      refine lv_aload_n hx hb dL_pools_209 rfl (lv_at hl 0 rfl) ?_
      refine lv_iconst (v := 0) hx hb dL_pools_210 (by decide) ?_
      refine lv_iconst (v := 1) hx hb dL_pools_211 (by decide) ?_
      refine lv_iconst (v := 0) hx hb dL_pools_212 (by decide) ?_
      refine lv_iconst (v := 0) hx hb dL_pools_213 (by decide) ?_
      refine lv_iconst (v := 0) hx hb dL_pools_214 (by decide) ?_
      refine lv_iconst (v := 0) hx hb dL_pools_215 (by decide) ?_
      by_cases he500 : (x_L_table 0 1 0 0 0 0 γ).1 = 0
      rotate_left
      · exact flag_bad (ifne hq he500) hk
      have hq := ifpe hq he500
      refine e_callS (rest := []) hC hl hH hS (c_L_table l hfl κ γ 0 1 0 0 0 0 he500) tw_930 tw_931 tw_37 tw_932 hd_L_table ⟨Nat.le_of_ble_eq_true rfl, Nat.le_of_ble_eq_true rfl⟩ rfl rfl rfl rfl (Nat.le_of_ble_eq_true rfl) dL_pools_216 ⟨by show _ ≤ 1127; omega, by show _ ≤ 17572; omega⟩ rfl (fun H locs hH hS => ?_)
      exact b_219 ((x_L_table 0 1 0 0 0 0 γ).2.1) (x_L_table 0 1 0 0 0 0 γ).2.2 _ _ _ _ _ (lv_sub hl [0] rfl) hH hS (by omega) (by omega) hq
  have b_189 : ∀ (s0 : Int32) (γ : St) (H : Heap) (locs : List Loc) (ls : Array Slot) (cells slots : Nat), lv_has ls 1 [(0, .ref (kA κ 7 0))] → HE κ γ H → va_S (AA κ) s.heap H locs → cells + (962) ≤ 1127 → slots + (16159) ≤ 17572 → x_L_pools_189 s0 γ = res → W p l e (headSpec [Cond.code yL_pools cL_pools 1 (some .boolean)] ({ frames := 10, cells := 1127, slots := 17572, locals := 227 } : Room)).room s m ([.ref (kA κ 7 0)] : List Value).toArray below meth c H locs cells slots (MQ below (QL κ res.2.2 (some (.int res.2.1))) ([.ref (kA κ 7 0)] : List Value).toArray s 1127 17572 (AA κ)) (F0 m 189 ls [.int s0]) := by
    intro s0 γ H locs ls cells slots hl hH hS hc1 hc2 hq
    refine lv_iconst (v := 3) hx hb dL_pools_189 (by decide) ?_
    refine lv_icmp_ne (tgt := 492) hx hb dL_pools_190 (by decide) (fun c501 => ?_) (fun c501 => ?_)
    · have hq := ifne hq c501
      exact b_492 γ _ _ _ _ _ (lv_sub hl [] rfl) hH hS (by omega) (by omega) hq
    · have hq := ifpe hq c501
      refine lv_aload_n hx hb dL_pools_193 rfl (lv_at hl 0 rfl) ?_
      refine lv_bipush (v := 10) hx hb dL_pools_194 (by decide) ?_
      refine lv_iconst (v := 0) hx hb dL_pools_196 (by decide) ?_
      refine lv_iconst (v := 1) hx hb dL_pools_197 (by decide) ?_
      refine lv_iconst (v := 0) hx hb dL_pools_198 (by decide) ?_
      refine lv_iconst (v := 0) hx hb dL_pools_199 (by decide) ?_
      refine lv_iconst (v := 0) hx hb dL_pools_200 (by decide) ?_
      refine e_callW (rest := []) hC hl hH hS (c_L_call l hfl κ γ 10 0 1 0 0 0) tw_430 tw_431 tw_37 tw_432 hd_L_call ⟨Nat.le_of_ble_eq_true rfl, Nat.le_of_ble_eq_true rfl⟩ rfl rfl rfl rfl (Nat.le_of_ble_eq_true rfl) dL_pools_201 ⟨by show _ ≤ 1127; omega, by show _ ≤ 17572; omega⟩ rfl (fun H locs hH hS => ?_)
      exact b_204 ((x_L_call 10 0 1 0 0 0 γ).1) (x_L_call 10 0 1 0 0 0 γ).2 _ _ _ _ _ (lv_sub hl [0] rfl) hH hS (by omega) (by omega) hq
  have b_178 : ∀ (s0 : Int32) (γ : St) (H : Heap) (locs : List Loc) (ls : Array Slot) (cells slots : Nat), lv_has ls 1 [(0, .ref (kA κ 7 0))] → HE κ γ H → va_S (AA κ) s.heap H locs → cells + (964) ≤ 1127 → slots + (16171) ≤ 17572 → x_L_pools_178 s0 γ = res → W p l e (headSpec [Cond.code yL_pools cL_pools 1 (some .boolean)] ({ frames := 10, cells := 1127, slots := 17572, locals := 227 } : Room)).room s m ([.ref (kA κ 7 0)] : List Value).toArray below meth c H locs cells slots (MQ below (QL κ res.2.2 (some (.int res.2.1))) ([.ref (kA κ 7 0)] : List Value).toArray s 1127 17572 (AA κ)) (F0 m 178 ls [.int s0]) := by
    intro s0 γ H locs ls cells slots hl hH hS hc1 hc2 hq
    refine lv_bipush (v := (-71)) hx hb dL_pools_178 (by decide) ?_
    refine lv_icmp_ne (tgt := 492) hx hb dL_pools_180 (by decide) (fun c502 => ?_) (fun c502 => ?_)
    · have hq := ifne hq c502
      exact b_492 γ _ _ _ _ _ (lv_sub hl [] rfl) hH hS (by omega) (by omega) hq
    · have hq := ifpe hq c502
      refine lv_aload_n hx hb dL_pools_183 rfl (lv_at hl 0 rfl) ?_
      refine lv_iconst (v := 0) hx hb dL_pools_184 (by decide) ?_
      refine lv_iconst (v := 1) hx hb dL_pools_185 (by decide) ?_
      refine e_xcallV (rest := []) hC hl hH hS (co_withdraw l hfl κ γ 0 1) tw_776 tw_777 tw_778 tw_38 tw_779 hd_X7_withdraw ⟨Nat.le_of_ble_eq_true rfl, Nat.le_of_ble_eq_true rfl⟩ rfl rfl rfl rfl (Nat.le_of_ble_eq_true rfl) dL_pools_186 ⟨by show _ ≤ 1127; omega, by show _ ≤ 17572; omega⟩ rfl (fun he503 ce q9 H locs hH hS hce hcv hcl => ?_) (fun he503 H locs hH hS => ?_)
      · exact flag_bad (ifne hq he503) hk
      have hq := ifpe hq he503
      exact b_189 ((x_X7_withdraw 0 1 γ).2.1) (x_X7_withdraw 0 1 γ).2.2 _ _ _ _ _ (lv_sub hl [0] rfl) hH hS (by omega) (by omega) hq
  have b_162 : ∀ (s0 : Int32) (γ : St) (H : Heap) (locs : List Loc) (ls : Array Slot) (cells slots : Nat), lv_has ls 1 [(0, .ref (kA κ 7 0))] → HE κ γ H → va_S (AA κ) s.heap H locs → cells + (967) ≤ 1127 → slots + (16236) ≤ 17572 → x_L_pools_162 s0 γ = res → W p l e (headSpec [Cond.code yL_pools cL_pools 1 (some .boolean)] ({ frames := 10, cells := 1127, slots := 17572, locals := 227 } : Room)).room s m ([.ref (kA κ 7 0)] : List Value).toArray below meth c H locs cells slots (MQ below (QL κ res.2.2 (some (.int res.2.1))) ([.ref (kA κ 7 0)] : List Value).toArray s 1127 17572 (AA κ)) (F0 m 162 ls [.int s0]) := by
    intro s0 γ H locs ls cells slots hl hH hS hc1 hc2 hq
    refine lv_bipush (v := (-71)) hx hb dL_pools_162 (by decide) ?_
    refine lv_icmp_ne (tgt := 492) hx hb dL_pools_164 (by decide) (fun c504 => ?_) (fun c504 => ?_)
    · have hq := ifne hq c504
      exact b_492 γ _ _ _ _ _ (lv_sub hl [] rfl) hH hS (by omega) (by omega) hq
    · have hq := ifpe hq c504
      refine lv_aload_n hx hb dL_pools_167 rfl (lv_at hl 0 rfl) ?_
      refine lv_bipush (v := 18) hx hb dL_pools_168 (by decide) ?_
      refine lv_iconst (v := 0) hx hb dL_pools_170 (by decide) ?_
      refine lv_iconst (v := 0) hx hb dL_pools_171 (by decide) ?_
      refine lv_iconst (v := 0) hx hb dL_pools_172 (by decide) ?_
      refine lv_iconst (v := 0) hx hb dL_pools_173 (by decide) ?_
      refine lv_iconst (v := 0) hx hb dL_pools_174 (by decide) ?_
      refine e_callW (rest := []) hC hl hH hS (c_L_call l hfl κ γ 18 0 0 0 0 0) tw_430 tw_431 tw_37 tw_432 hd_L_call ⟨Nat.le_of_ble_eq_true rfl, Nat.le_of_ble_eq_true rfl⟩ rfl rfl rfl rfl (Nat.le_of_ble_eq_true rfl) dL_pools_175 ⟨by show _ ≤ 1127; omega, by show _ ≤ 17572; omega⟩ rfl (fun H locs hH hS => ?_)
      exact b_178 ((x_L_call 18 0 0 0 0 0 γ).1) (x_L_call 18 0 0 0 0 0 γ).2 _ _ _ _ _ (lv_sub hl [0] rfl) hH hS (by omega) (by omega) hq
  have b_148 : ∀ (s0 : Int32) (γ : St) (H : Heap) (locs : List Loc) (ls : Array Slot) (cells slots : Nat), lv_has ls 1 [(0, .ref (kA κ 7 0))] → HE κ γ H → va_S (AA κ) s.heap H locs → cells + (970) ≤ 1127 → slots + (16301) ≤ 17572 → x_L_pools_148 s0 γ = res → W p l e (headSpec [Cond.code yL_pools cL_pools 1 (some .boolean)] ({ frames := 10, cells := 1127, slots := 17572, locals := 227 } : Room)).room s m ([.ref (kA κ 7 0)] : List Value).toArray below meth c H locs cells slots (MQ below (QL κ res.2.2 (some (.int res.2.1))) ([.ref (kA κ 7 0)] : List Value).toArray s 1127 17572 (AA κ)) (F0 m 148 ls [.int s0]) := by
    intro s0 γ H locs ls cells slots hl hH hS hc1 hc2 hq
    refine lv_if_eq (tgt := 492) hx hb dL_pools_148 (by decide) (fun c505 => ?_) (fun c505 => ?_)
    · have hq := ifpe hq c505
      exact b_492 γ _ _ _ _ _ (lv_sub hl [] rfl) hH hS (by omega) (by omega) hq
    · have hq := ifne hq c505
      refine lv_aload_n hx hb dL_pools_151 rfl (lv_at hl 0 rfl) ?_
      refine lv_bipush (v := 12) hx hb dL_pools_152 (by decide) ?_
      refine lv_iconst (v := 0) hx hb dL_pools_154 (by decide) ?_
      refine lv_iconst (v := 0) hx hb dL_pools_155 (by decide) ?_
      refine lv_iconst (v := 0) hx hb dL_pools_156 (by decide) ?_
      refine lv_iconst (v := 0) hx hb dL_pools_157 (by decide) ?_
      refine lv_iconst (v := 0) hx hb dL_pools_158 (by decide) ?_
      refine e_callW (rest := []) hC hl hH hS (c_L_call l hfl κ γ 12 0 0 0 0 0) tw_430 tw_431 tw_37 tw_432 hd_L_call ⟨Nat.le_of_ble_eq_true rfl, Nat.le_of_ble_eq_true rfl⟩ rfl rfl rfl rfl (Nat.le_of_ble_eq_true rfl) dL_pools_159 ⟨by show _ ≤ 1127; omega, by show _ ≤ 17572; omega⟩ rfl (fun H locs hH hS => ?_)
      exact b_162 ((x_L_call 12 0 0 0 0 0 γ).1) (x_L_call 12 0 0 0 0 0 γ).2 _ _ _ _ _ (lv_sub hl [0] rfl) hH hS (by omega) (by omega) hq
  have b_136 : ∀ (s0 : Int32) (γ : St) (H : Heap) (locs : List Loc) (ls : Array Slot) (cells slots : Nat), lv_has ls 1 [(0, .ref (kA κ 7 0))] → HE κ γ H → va_S (AA κ) s.heap H locs → cells + (975) ≤ 1127 → slots + (16331) ≤ 17572 → x_L_pools_136 s0 γ = res → W p l e (headSpec [Cond.code yL_pools cL_pools 1 (some .boolean)] ({ frames := 10, cells := 1127, slots := 17572, locals := 227 } : Room)).room s m ([.ref (kA κ 7 0)] : List Value).toArray below meth c H locs cells slots (MQ below (QL κ res.2.2 (some (.int res.2.1))) ([.ref (kA κ 7 0)] : List Value).toArray s 1127 17572 (AA κ)) (F0 m 136 ls [.int s0]) := by
    intro s0 γ H locs ls cells slots hl hH hS hc1 hc2 hq
    refine lv_if_eq (tgt := 492) hx hb dL_pools_136 (by decide) (fun c506 => ?_) (fun c506 => ?_)
    · have hq := ifpe hq c506
      exact b_492 γ _ _ _ _ _ (lv_sub hl [] rfl) hH hS (by omega) (by omega) hq
    · have hq := ifne hq c506
      refine lv_aload_n hx hb dL_pools_139 rfl (lv_at hl 0 rfl) ?_
      refine lv_iconst (v := 0) hx hb dL_pools_140 (by decide) ?_
      refine lv_iconst (v := 0) hx hb dL_pools_141 (by decide) ?_
      refine lv_iconst (v := 1) hx hb dL_pools_142 (by decide) ?_
      refine lv_iconst (v := 3) hx hb dL_pools_143 (by decide) ?_
      refine lv_iconst (v := 2) hx hb dL_pools_144 (by decide) ?_
      by_cases he507 : (x_L_ranks 0 0 1 3 2 γ).1 = 0
      rotate_left
      · exact flag_bad (ifne hq he507) hk
      have hq := ifpe hq he507
      refine e_callS (rest := []) hC hl hH hS (c_L_ranks l hfl κ γ 0 0 1 3 2 he507) tw_924 tw_925 tw_37 tw_926 hd_L_ranks ⟨Nat.le_of_ble_eq_true rfl, Nat.le_of_ble_eq_true rfl⟩ rfl rfl rfl rfl (Nat.le_of_ble_eq_true rfl) dL_pools_145 ⟨by show _ ≤ 1127; omega, by show _ ≤ 17572; omega⟩ rfl (fun H locs hH hS => ?_)
      exact b_148 ((x_L_ranks 0 0 1 3 2 γ).2.1) (x_L_ranks 0 0 1 3 2 γ).2.2 _ _ _ _ _ (lv_sub hl [0] rfl) hH hS (by omega) (by omega) hq
  have b_123 : ∀ (s0 : Int32) (γ : St) (H : Heap) (locs : List Loc) (ls : Array Slot) (cells slots : Nat), lv_has ls 1 [(0, .ref (kA κ 7 0))] → HE κ γ H → va_S (AA κ) s.heap H locs → cells + (999) ≤ 1127 → slots + (16475) ≤ 17572 → x_L_pools_123 s0 γ = res → W p l e (headSpec [Cond.code yL_pools cL_pools 1 (some .boolean)] ({ frames := 10, cells := 1127, slots := 17572, locals := 227 } : Room)).room s m ([.ref (kA κ 7 0)] : List Value).toArray below meth c H locs cells slots (MQ below (QL κ res.2.2 (some (.int res.2.1))) ([.ref (kA κ 7 0)] : List Value).toArray s 1127 17572 (AA κ)) (F0 m 123 ls [.int s0]) := by
    intro s0 γ H locs ls cells slots hl hH hS hc1 hc2 hq
    refine lv_if_eq (tgt := 492) hx hb dL_pools_123 (by decide) (fun c508 => ?_) (fun c508 => ?_)
    · have hq := ifpe hq c508
      exact b_492 γ _ _ _ _ _ (lv_sub hl [] rfl) hH hS (by omega) (by omega) hq
    · have hq := ifne hq c508
      refine lv_aload_n hx hb dL_pools_126 rfl (lv_at hl 0 rfl) ?_
      refine lv_iconst (v := 0) hx hb dL_pools_127 (by decide) ?_
      refine lv_iconst (v := 3) hx hb dL_pools_128 (by decide) ?_
      refine lv_iconst (v := 3) hx hb dL_pools_129 (by decide) ?_
      refine lv_iconst (v := 2) hx hb dL_pools_130 (by decide) ?_
      refine lv_iconst (v := 2) hx hb dL_pools_131 (by decide) ?_
      refine lv_iconst (v := 1) hx hb dL_pools_132 (by decide) ?_
      by_cases he509 : (x_L_table 0 3 3 2 2 1 γ).1 = 0
      rotate_left
      · exact flag_bad (ifne hq he509) hk
      have hq := ifpe hq he509
      refine e_callS (rest := []) hC hl hH hS (c_L_table l hfl κ γ 0 3 3 2 2 1 he509) tw_930 tw_931 tw_37 tw_932 hd_L_table ⟨Nat.le_of_ble_eq_true rfl, Nat.le_of_ble_eq_true rfl⟩ rfl rfl rfl rfl (Nat.le_of_ble_eq_true rfl) dL_pools_133 ⟨by show _ ≤ 1127; omega, by show _ ≤ 17572; omega⟩ rfl (fun H locs hH hS => ?_)
      exact b_136 ((x_L_table 0 3 3 2 2 1 γ).2.1) (x_L_table 0 3 3 2 2 1 γ).2.2 _ _ _ _ _ (lv_sub hl [0] rfl) hH hS (by omega) (by omega) hq
  have b_110 : ∀ (s0 : Int32) (γ : St) (H : Heap) (locs : List Loc) (ls : Array Slot) (cells slots : Nat), lv_has ls 1 [(0, .ref (kA κ 7 0))] → HE κ γ H → va_S (AA κ) s.heap H locs → cells + (1023) ≤ 1127 → slots + (16619) ≤ 17572 → x_L_pools_110 s0 γ = res → W p l e (headSpec [Cond.code yL_pools cL_pools 1 (some .boolean)] ({ frames := 10, cells := 1127, slots := 17572, locals := 227 } : Room)).room s m ([.ref (kA κ 7 0)] : List Value).toArray below meth c H locs cells slots (MQ below (QL κ res.2.2 (some (.int res.2.1))) ([.ref (kA κ 7 0)] : List Value).toArray s 1127 17572 (AA κ)) (F0 m 110 ls [.int s0]) := by
    intro s0 γ H locs ls cells slots hl hH hS hc1 hc2 hq
    refine lv_if_eq (tgt := 492) hx hb dL_pools_110 (by decide) (fun c510 => ?_) (fun c510 => ?_)
    · have hq := ifpe hq c510
      exact b_492 γ _ _ _ _ _ (lv_sub hl [] rfl) hH hS (by omega) (by omega) hq
    · have hq := ifne hq c510
      refine lv_aload_n hx hb dL_pools_113 rfl (lv_at hl 0 rfl) ?_
      refine lv_iconst (v := 0) hx hb dL_pools_114 (by decide) ?_
      refine lv_iconst (v := 2) hx hb dL_pools_115 (by decide) ?_
      refine lv_iconst (v := 3) hx hb dL_pools_116 (by decide) ?_
      refine lv_iconst (v := 0) hx hb dL_pools_117 (by decide) ?_
      refine lv_iconst (v := 0) hx hb dL_pools_118 (by decide) ?_
      refine lv_iconst (v := 3) hx hb dL_pools_119 (by decide) ?_
      by_cases he511 : (x_L_table 0 2 3 0 0 3 γ).1 = 0
      rotate_left
      · exact flag_bad (ifne hq he511) hk
      have hq := ifpe hq he511
      refine e_callS (rest := []) hC hl hH hS (c_L_table l hfl κ γ 0 2 3 0 0 3 he511) tw_930 tw_931 tw_37 tw_932 hd_L_table ⟨Nat.le_of_ble_eq_true rfl, Nat.le_of_ble_eq_true rfl⟩ rfl rfl rfl rfl (Nat.le_of_ble_eq_true rfl) dL_pools_120 ⟨by show _ ≤ 1127; omega, by show _ ≤ 17572; omega⟩ rfl (fun H locs hH hS => ?_)
      exact b_123 ((x_L_table 0 2 3 0 0 3 γ).2.1) (x_L_table 0 2 3 0 0 3 γ).2.2 _ _ _ _ _ (lv_sub hl [0] rfl) hH hS (by omega) (by omega) hq
  have b_97 : ∀ (s0 : Int32) (γ : St) (H : Heap) (locs : List Loc) (ls : Array Slot) (cells slots : Nat), lv_has ls 1 [(0, .ref (kA κ 7 0))] → HE κ γ H → va_S (AA κ) s.heap H locs → cells + (1047) ≤ 1127 → slots + (16763) ≤ 17572 → x_L_pools_97 s0 γ = res → W p l e (headSpec [Cond.code yL_pools cL_pools 1 (some .boolean)] ({ frames := 10, cells := 1127, slots := 17572, locals := 227 } : Room)).room s m ([.ref (kA κ 7 0)] : List Value).toArray below meth c H locs cells slots (MQ below (QL κ res.2.2 (some (.int res.2.1))) ([.ref (kA κ 7 0)] : List Value).toArray s 1127 17572 (AA κ)) (F0 m 97 ls [.int s0]) := by
    intro s0 γ H locs ls cells slots hl hH hS hc1 hc2 hq
    refine lv_if_eq (tgt := 492) hx hb dL_pools_97 (by decide) (fun c512 => ?_) (fun c512 => ?_)
    · have hq := ifpe hq c512
      exact b_492 γ _ _ _ _ _ (lv_sub hl [] rfl) hH hS (by omega) (by omega) hq
    · have hq := ifne hq c512
      refine lv_aload_n hx hb dL_pools_100 rfl (lv_at hl 0 rfl) ?_
      refine lv_iconst (v := 0) hx hb dL_pools_101 (by decide) ?_
      refine lv_iconst (v := 1) hx hb dL_pools_102 (by decide) ?_
      refine lv_iconst (v := 3) hx hb dL_pools_103 (by decide) ?_
      refine lv_iconst (v := 2) hx hb dL_pools_104 (by decide) ?_
      refine lv_iconst (v := 2) hx hb dL_pools_105 (by decide) ?_
      refine lv_iconst (v := 1) hx hb dL_pools_106 (by decide) ?_
      by_cases he513 : (x_L_table 0 1 3 2 2 1 γ).1 = 0
      rotate_left
      · exact flag_bad (ifne hq he513) hk
      have hq := ifpe hq he513
      refine e_callS (rest := []) hC hl hH hS (c_L_table l hfl κ γ 0 1 3 2 2 1 he513) tw_930 tw_931 tw_37 tw_932 hd_L_table ⟨Nat.le_of_ble_eq_true rfl, Nat.le_of_ble_eq_true rfl⟩ rfl rfl rfl rfl (Nat.le_of_ble_eq_true rfl) dL_pools_107 ⟨by show _ ≤ 1127; omega, by show _ ≤ 17572; omega⟩ rfl (fun H locs hH hS => ?_)
      exact b_110 ((x_L_table 0 1 3 2 2 1 γ).2.1) (x_L_table 0 1 3 2 2 1 γ).2.2 _ _ _ _ _ (lv_sub hl [0] rfl) hH hS (by omega) (by omega) hq
  have b_84 : ∀ (s0 : Int32) (γ : St) (H : Heap) (locs : List Loc) (ls : Array Slot) (cells slots : Nat), lv_has ls 1 [(0, .ref (kA κ 7 0))] → HE κ γ H → va_S (AA κ) s.heap H locs → cells + (1071) ≤ 1127 → slots + (16907) ≤ 17572 → x_L_pools_84 s0 γ = res → W p l e (headSpec [Cond.code yL_pools cL_pools 1 (some .boolean)] ({ frames := 10, cells := 1127, slots := 17572, locals := 227 } : Room)).room s m ([.ref (kA κ 7 0)] : List Value).toArray below meth c H locs cells slots (MQ below (QL κ res.2.2 (some (.int res.2.1))) ([.ref (kA κ 7 0)] : List Value).toArray s 1127 17572 (AA κ)) (F0 m 84 ls [.int s0]) := by
    intro s0 γ H locs ls cells slots hl hH hS hc1 hc2 hq
    refine lv_if_eq (tgt := 492) hx hb dL_pools_84 (by decide) (fun c514 => ?_) (fun c514 => ?_)
    · have hq := ifpe hq c514
      exact b_492 γ _ _ _ _ _ (lv_sub hl [] rfl) hH hS (by omega) (by omega) hq
    · have hq := ifne hq c514
      refine lv_aload_n hx hb dL_pools_87 rfl (lv_at hl 0 rfl) ?_
      refine lv_iconst (v := 0) hx hb dL_pools_88 (by decide) ?_
      refine lv_iconst (v := 0) hx hb dL_pools_89 (by decide) ?_
      refine lv_iconst (v := 3) hx hb dL_pools_90 (by decide) ?_
      refine lv_iconst (v := 2) hx hb dL_pools_91 (by decide) ?_
      refine lv_iconst (v := 2) hx hb dL_pools_92 (by decide) ?_
      refine lv_iconst (v := 1) hx hb dL_pools_93 (by decide) ?_
      by_cases he515 : (x_L_table 0 0 3 2 2 1 γ).1 = 0
      rotate_left
      · exact flag_bad (ifne hq he515) hk
      have hq := ifpe hq he515
      refine e_callS (rest := []) hC hl hH hS (c_L_table l hfl κ γ 0 0 3 2 2 1 he515) tw_930 tw_931 tw_37 tw_932 hd_L_table ⟨Nat.le_of_ble_eq_true rfl, Nat.le_of_ble_eq_true rfl⟩ rfl rfl rfl rfl (Nat.le_of_ble_eq_true rfl) dL_pools_94 ⟨by show _ ≤ 1127; omega, by show _ ≤ 17572; omega⟩ rfl (fun H locs hH hS => ?_)
      exact b_97 ((x_L_table 0 0 3 2 2 1 γ).2.1) (x_L_table 0 0 3 2 2 1 γ).2.2 _ _ _ _ _ (lv_sub hl [0] rfl) hH hS (by omega) (by omega) hq
  have b_73 : ∀ (s0 : Int32) (γ : St) (H : Heap) (locs : List Loc) (ls : Array Slot) (cells slots : Nat), lv_has ls 1 [(0, .ref (kA κ 7 0))] → HE κ γ H → va_S (AA κ) s.heap H locs → cells + (1079) ≤ 1127 → slots + (17002) ≤ 17572 → x_L_pools_73 s0 γ = res → W p l e (headSpec [Cond.code yL_pools cL_pools 1 (some .boolean)] ({ frames := 10, cells := 1127, slots := 17572, locals := 227 } : Room)).room s m ([.ref (kA κ 7 0)] : List Value).toArray below meth c H locs cells slots (MQ below (QL κ res.2.2 (some (.int res.2.1))) ([.ref (kA κ 7 0)] : List Value).toArray s 1127 17572 (AA κ)) (F0 m 73 ls [.int s0]) := by
    intro s0 γ H locs ls cells slots hl hH hS hc1 hc2 hq
    refine lv_if_eq (tgt := 492) hx hb dL_pools_73 (by decide) (fun c516 => ?_) (fun c516 => ?_)
    · have hq := ifpe hq c516
      exact b_492 γ _ _ _ _ _ (lv_sub hl [] rfl) hH hS (by omega) (by omega) hq
    · have hq := ifne hq c516
      refine lv_aload_n hx hb dL_pools_76 rfl (lv_at hl 0 rfl) ?_
      refine lv_iconst (v := 2) hx hb dL_pools_77 (by decide) ?_
      refine lv_iconst (v := 3) hx hb dL_pools_78 (by decide) ?_
      refine lv_iconst (v := 1) hx hb dL_pools_79 (by decide) ?_
      refine lv_iconst (v := 0) hx hb dL_pools_80 (by decide) ?_
      by_cases he517 : (x_L_quick 2 3 1 0 γ).1 = 0
      rotate_left
      · exact flag_bad (ifne hq he517) hk
      have hq := ifpe hq he517
      refine e_callS (rest := []) hC hl hH hS (c_L_quick l hfl κ γ 2 3 1 0 he517) tw_927 tw_928 tw_37 tw_929 hd_L_quick ⟨Nat.le_of_ble_eq_true rfl, Nat.le_of_ble_eq_true rfl⟩ rfl rfl rfl rfl (Nat.le_of_ble_eq_true rfl) dL_pools_81 ⟨by show _ ≤ 1127; omega, by show _ ≤ 17572; omega⟩ rfl (fun H locs hH hS => ?_)
      exact b_84 ((x_L_quick 2 3 1 0 γ).2.1) (x_L_quick 2 3 1 0 γ).2.2 _ _ _ _ _ (lv_sub hl [0] rfl) hH hS (by omega) (by omega) hq
  have b_62 : ∀ (s0 : Int32) (γ : St) (H : Heap) (locs : List Loc) (ls : Array Slot) (cells slots : Nat), lv_has ls 1 [(0, .ref (kA κ 7 0))] → HE κ γ H → va_S (AA κ) s.heap H locs → cells + (1087) ≤ 1127 → slots + (17097) ≤ 17572 → x_L_pools_62 s0 γ = res → W p l e (headSpec [Cond.code yL_pools cL_pools 1 (some .boolean)] ({ frames := 10, cells := 1127, slots := 17572, locals := 227 } : Room)).room s m ([.ref (kA κ 7 0)] : List Value).toArray below meth c H locs cells slots (MQ below (QL κ res.2.2 (some (.int res.2.1))) ([.ref (kA κ 7 0)] : List Value).toArray s 1127 17572 (AA κ)) (F0 m 62 ls [.int s0]) := by
    intro s0 γ H locs ls cells slots hl hH hS hc1 hc2 hq
    refine lv_if_eq (tgt := 492) hx hb dL_pools_62 (by decide) (fun c518 => ?_) (fun c518 => ?_)
    · have hq := ifpe hq c518
      exact b_492 γ _ _ _ _ _ (lv_sub hl [] rfl) hH hS (by omega) (by omega) hq
    · have hq := ifne hq c518
      refine lv_aload_n hx hb dL_pools_65 rfl (lv_at hl 0 rfl) ?_
      refine lv_iconst (v := 3) hx hb dL_pools_66 (by decide) ?_
      refine lv_iconst (v := 1) hx hb dL_pools_67 (by decide) ?_
      refine lv_iconst (v := 1) hx hb dL_pools_68 (by decide) ?_
      refine lv_iconst (v := 0) hx hb dL_pools_69 (by decide) ?_
      by_cases he519 : (x_L_quick 3 1 1 0 γ).1 = 0
      rotate_left
      · exact flag_bad (ifne hq he519) hk
      have hq := ifpe hq he519
      refine e_callS (rest := []) hC hl hH hS (c_L_quick l hfl κ γ 3 1 1 0 he519) tw_927 tw_928 tw_37 tw_929 hd_L_quick ⟨Nat.le_of_ble_eq_true rfl, Nat.le_of_ble_eq_true rfl⟩ rfl rfl rfl rfl (Nat.le_of_ble_eq_true rfl) dL_pools_70 ⟨by show _ ≤ 1127; omega, by show _ ≤ 17572; omega⟩ rfl (fun H locs hH hS => ?_)
      exact b_73 ((x_L_quick 3 1 1 0 γ).2.1) (x_L_quick 3 1 1 0 γ).2.2 _ _ _ _ _ (lv_sub hl [0] rfl) hH hS (by omega) (by omega) hq
  have b_51 : ∀ (s0 : Int32) (γ : St) (H : Heap) (locs : List Loc) (ls : Array Slot) (cells slots : Nat), lv_has ls 1 [(0, .ref (kA κ 7 0))] → HE κ γ H → va_S (AA κ) s.heap H locs → cells + (1095) ≤ 1127 → slots + (17192) ≤ 17572 → x_L_pools_51 s0 γ = res → W p l e (headSpec [Cond.code yL_pools cL_pools 1 (some .boolean)] ({ frames := 10, cells := 1127, slots := 17572, locals := 227 } : Room)).room s m ([.ref (kA κ 7 0)] : List Value).toArray below meth c H locs cells slots (MQ below (QL κ res.2.2 (some (.int res.2.1))) ([.ref (kA κ 7 0)] : List Value).toArray s 1127 17572 (AA κ)) (F0 m 51 ls [.int s0]) := by
    intro s0 γ H locs ls cells slots hl hH hS hc1 hc2 hq
    refine lv_if_eq (tgt := 492) hx hb dL_pools_51 (by decide) (fun c520 => ?_) (fun c520 => ?_)
    · have hq := ifpe hq c520
      exact b_492 γ _ _ _ _ _ (lv_sub hl [] rfl) hH hS (by omega) (by omega) hq
    · have hq := ifne hq c520
      refine lv_aload_n hx hb dL_pools_54 rfl (lv_at hl 0 rfl) ?_
      refine lv_iconst (v := 3) hx hb dL_pools_55 (by decide) ?_
      refine lv_iconst (v := 0) hx hb dL_pools_56 (by decide) ?_
      refine lv_iconst (v := 0) hx hb dL_pools_57 (by decide) ?_
      refine lv_iconst (v := 0) hx hb dL_pools_58 (by decide) ?_
      by_cases he521 : (x_L_quick 3 0 0 0 γ).1 = 0
      rotate_left
      · exact flag_bad (ifne hq he521) hk
      have hq := ifpe hq he521
      refine e_callS (rest := []) hC hl hH hS (c_L_quick l hfl κ γ 3 0 0 0 he521) tw_927 tw_928 tw_37 tw_929 hd_L_quick ⟨Nat.le_of_ble_eq_true rfl, Nat.le_of_ble_eq_true rfl⟩ rfl rfl rfl rfl (Nat.le_of_ble_eq_true rfl) dL_pools_59 ⟨by show _ ≤ 1127; omega, by show _ ≤ 17572; omega⟩ rfl (fun H locs hH hS => ?_)
      exact b_62 ((x_L_quick 3 0 0 0 γ).2.1) (x_L_quick 3 0 0 0 γ).2.2 _ _ _ _ _ (lv_sub hl [0] rfl) hH hS (by omega) (by omega) hq
  have b_40 : ∀ (s0 : Int32) (γ : St) (H : Heap) (locs : List Loc) (ls : Array Slot) (cells slots : Nat), lv_has ls 1 [(0, .ref (kA κ 7 0))] → HE κ γ H → va_S (AA κ) s.heap H locs → cells + (1103) ≤ 1127 → slots + (17287) ≤ 17572 → x_L_pools_40 s0 γ = res → W p l e (headSpec [Cond.code yL_pools cL_pools 1 (some .boolean)] ({ frames := 10, cells := 1127, slots := 17572, locals := 227 } : Room)).room s m ([.ref (kA κ 7 0)] : List Value).toArray below meth c H locs cells slots (MQ below (QL κ res.2.2 (some (.int res.2.1))) ([.ref (kA κ 7 0)] : List Value).toArray s 1127 17572 (AA κ)) (F0 m 40 ls [.int s0]) := by
    intro s0 γ H locs ls cells slots hl hH hS hc1 hc2 hq
    refine lv_if_eq (tgt := 492) hx hb dL_pools_40 (by decide) (fun c522 => ?_) (fun c522 => ?_)
    · have hq := ifpe hq c522
      exact b_492 γ _ _ _ _ _ (lv_sub hl [] rfl) hH hS (by omega) (by omega) hq
    · have hq := ifne hq c522
      refine lv_aload_n hx hb dL_pools_43 rfl (lv_at hl 0 rfl) ?_
      refine lv_iconst (v := 2) hx hb dL_pools_44 (by decide) ?_
      refine lv_iconst (v := 1) hx hb dL_pools_45 (by decide) ?_
      refine lv_iconst (v := 1) hx hb dL_pools_46 (by decide) ?_
      refine lv_iconst (v := 0) hx hb dL_pools_47 (by decide) ?_
      by_cases he523 : (x_L_quick 2 1 1 0 γ).1 = 0
      rotate_left
      · exact flag_bad (ifne hq he523) hk
      have hq := ifpe hq he523
      refine e_callS (rest := []) hC hl hH hS (c_L_quick l hfl κ γ 2 1 1 0 he523) tw_927 tw_928 tw_37 tw_929 hd_L_quick ⟨Nat.le_of_ble_eq_true rfl, Nat.le_of_ble_eq_true rfl⟩ rfl rfl rfl rfl (Nat.le_of_ble_eq_true rfl) dL_pools_48 ⟨by show _ ≤ 1127; omega, by show _ ≤ 17572; omega⟩ rfl (fun H locs hH hS => ?_)
      exact b_51 ((x_L_quick 2 1 1 0 γ).2.1) (x_L_quick 2 1 1 0 γ).2.2 _ _ _ _ _ (lv_sub hl [0] rfl) hH hS (by omega) (by omega) hq
  have b_29 : ∀ (s0 : Int32) (γ : St) (H : Heap) (locs : List Loc) (ls : Array Slot) (cells slots : Nat), lv_has ls 1 [(0, .ref (kA κ 7 0))] → HE κ γ H → va_S (AA κ) s.heap H locs → cells + (1111) ≤ 1127 → slots + (17382) ≤ 17572 → x_L_pools_29 s0 γ = res → W p l e (headSpec [Cond.code yL_pools cL_pools 1 (some .boolean)] ({ frames := 10, cells := 1127, slots := 17572, locals := 227 } : Room)).room s m ([.ref (kA κ 7 0)] : List Value).toArray below meth c H locs cells slots (MQ below (QL κ res.2.2 (some (.int res.2.1))) ([.ref (kA κ 7 0)] : List Value).toArray s 1127 17572 (AA κ)) (F0 m 29 ls [.int s0]) := by
    intro s0 γ H locs ls cells slots hl hH hS hc1 hc2 hq
    refine lv_if_eq (tgt := 492) hx hb dL_pools_29 (by decide) (fun c524 => ?_) (fun c524 => ?_)
    · have hq := ifpe hq c524
      exact b_492 γ _ _ _ _ _ (lv_sub hl [] rfl) hH hS (by omega) (by omega) hq
    · have hq := ifne hq c524
      refine lv_aload_n hx hb dL_pools_32 rfl (lv_at hl 0 rfl) ?_
      refine lv_iconst (v := 0) hx hb dL_pools_33 (by decide) ?_
      refine lv_iconst (v := 2) hx hb dL_pools_34 (by decide) ?_
      refine lv_iconst (v := 0) hx hb dL_pools_35 (by decide) ?_
      refine lv_iconst (v := 0) hx hb dL_pools_36 (by decide) ?_
      by_cases he525 : (x_L_quick 0 2 0 0 γ).1 = 0
      rotate_left
      · exact flag_bad (ifne hq he525) hk
      have hq := ifpe hq he525
      refine e_callS (rest := []) hC hl hH hS (c_L_quick l hfl κ γ 0 2 0 0 he525) tw_927 tw_928 tw_37 tw_929 hd_L_quick ⟨Nat.le_of_ble_eq_true rfl, Nat.le_of_ble_eq_true rfl⟩ rfl rfl rfl rfl (Nat.le_of_ble_eq_true rfl) dL_pools_37 ⟨by show _ ≤ 1127; omega, by show _ ≤ 17572; omega⟩ rfl (fun H locs hH hS => ?_)
      exact b_40 ((x_L_quick 0 2 0 0 γ).2.1) (x_L_quick 0 2 0 0 γ).2.2 _ _ _ _ _ (lv_sub hl [0] rfl) hH hS (by omega) (by omega) hq
  have b_18 : ∀ (s0 : Int32) (γ : St) (H : Heap) (locs : List Loc) (ls : Array Slot) (cells slots : Nat), lv_has ls 1 [(0, .ref (kA κ 7 0))] → HE κ γ H → va_S (AA κ) s.heap H locs → cells + (1119) ≤ 1127 → slots + (17477) ≤ 17572 → x_L_pools_18 s0 γ = res → W p l e (headSpec [Cond.code yL_pools cL_pools 1 (some .boolean)] ({ frames := 10, cells := 1127, slots := 17572, locals := 227 } : Room)).room s m ([.ref (kA κ 7 0)] : List Value).toArray below meth c H locs cells slots (MQ below (QL κ res.2.2 (some (.int res.2.1))) ([.ref (kA κ 7 0)] : List Value).toArray s 1127 17572 (AA κ)) (F0 m 18 ls [.int s0]) := by
    intro s0 γ H locs ls cells slots hl hH hS hc1 hc2 hq
    refine lv_if_eq (tgt := 492) hx hb dL_pools_18 (by decide) (fun c526 => ?_) (fun c526 => ?_)
    · have hq := ifpe hq c526
      exact b_492 γ _ _ _ _ _ (lv_sub hl [] rfl) hH hS (by omega) (by omega) hq
    · have hq := ifne hq c526
      refine lv_aload_n hx hb dL_pools_21 rfl (lv_at hl 0 rfl) ?_
      refine lv_iconst (v := 0) hx hb dL_pools_22 (by decide) ?_
      refine lv_iconst (v := 1) hx hb dL_pools_23 (by decide) ?_
      refine lv_iconst (v := 0) hx hb dL_pools_24 (by decide) ?_
      refine lv_iconst (v := 0) hx hb dL_pools_25 (by decide) ?_
      by_cases he527 : (x_L_quick 0 1 0 0 γ).1 = 0
      rotate_left
      · exact flag_bad (ifne hq he527) hk
      have hq := ifpe hq he527
      refine e_callS (rest := []) hC hl hH hS (c_L_quick l hfl κ γ 0 1 0 0 he527) tw_927 tw_928 tw_37 tw_929 hd_L_quick ⟨Nat.le_of_ble_eq_true rfl, Nat.le_of_ble_eq_true rfl⟩ rfl rfl rfl rfl (Nat.le_of_ble_eq_true rfl) dL_pools_26 ⟨by show _ ≤ 1127; omega, by show _ ≤ 17572; omega⟩ rfl (fun H locs hH hS => ?_)
      exact b_29 ((x_L_quick 0 1 0 0 γ).2.1) (x_L_quick 0 1 0 0 γ).2.2 _ _ _ _ _ (lv_sub hl [0] rfl) hH hS (by omega) (by omega) hq
  have b_6 : ∀ (s0 : Int32) (γ : St) (H : Heap) (locs : List Loc) (ls : Array Slot) (cells slots : Nat), lv_has ls 1 [(0, .ref (kA κ 7 0))] → HE κ γ H → va_S (AA κ) s.heap H locs → cells + (1124) ≤ 1127 → slots + (17507) ≤ 17572 → x_L_pools_6 s0 γ = res → W p l e (headSpec [Cond.code yL_pools cL_pools 1 (some .boolean)] ({ frames := 10, cells := 1127, slots := 17572, locals := 227 } : Room)).room s m ([.ref (kA κ 7 0)] : List Value).toArray below meth c H locs cells slots (MQ below (QL κ res.2.2 (some (.int res.2.1))) ([.ref (kA κ 7 0)] : List Value).toArray s 1127 17572 (AA κ)) (F0 m 6 ls [.int s0]) := by
    intro s0 γ H locs ls cells slots hl hH hS hc1 hc2 hq
    refine lv_if_ne (tgt := 492) hx hb dL_pools_6 (by decide) (fun c528 => ?_) (fun c528 => ?_)
    · have hq := ifne hq c528
      exact b_492 γ _ _ _ _ _ (lv_sub hl [] rfl) hH hS (by omega) (by omega) hq
    · have hq := ifpe hq c528
      refine lv_aload_n hx hb dL_pools_9 rfl (lv_at hl 0 rfl) ?_
      refine lv_iconst (v := 0) hx hb dL_pools_10 (by decide) ?_
      refine lv_iconst (v := 0) hx hb dL_pools_11 (by decide) ?_
      refine lv_iconst (v := 1) hx hb dL_pools_12 (by decide) ?_
      refine lv_iconst (v := 2) hx hb dL_pools_13 (by decide) ?_
      refine lv_iconst (v := 3) hx hb dL_pools_14 (by decide) ?_
      by_cases he529 : (x_L_ranks 0 0 1 2 3 γ).1 = 0
      rotate_left
      · exact flag_bad (ifne hq he529) hk
      have hq := ifpe hq he529
      refine e_callS (rest := []) hC hl hH hS (c_L_ranks l hfl κ γ 0 0 1 2 3 he529) tw_924 tw_925 tw_37 tw_926 hd_L_ranks ⟨Nat.le_of_ble_eq_true rfl, Nat.le_of_ble_eq_true rfl⟩ rfl rfl rfl rfl (Nat.le_of_ble_eq_true rfl) dL_pools_15 ⟨by show _ ≤ 1127; omega, by show _ ≤ 17572; omega⟩ rfl (fun H locs hH hS => ?_)
      exact b_18 ((x_L_ranks 0 0 1 2 3 γ).2.1) (x_L_ranks 0 0 1 2 3 γ).2.2 _ _ _ _ _ (lv_sub hl [0] rfl) hH hS (by omega) (by omega) hq
  refine lv_aload_n hx hb dL_pools_0 rfl (lv_at hl 0 rfl) ?_
  refine lv_bipush (v := 15) hx hb dL_pools_1 (by decide) ?_
  refine e_xcallV (rest := []) hC hl hH hS (co_pool l hfl κ γ 15) tw_743 tw_744 tw_745 tw_38 tw_746 hd_X7_pool ⟨Nat.le_of_ble_eq_true rfl, Nat.le_of_ble_eq_true rfl⟩ rfl rfl rfl rfl (Nat.le_of_ble_eq_true rfl) dL_pools_3 ⟨by show _ ≤ 1127; omega, by show _ ≤ 17572; omega⟩ rfl (fun he530 ce q9 H locs hH hS hce hcv hcl => ?_) (fun he530 H locs hH hS => ?_)
  · exact flag_bad (ifne hq he530) hk
  have hq := ifpe hq he530
  exact b_6 ((x_X7_pool 15 γ).2.1) (x_X7_pool 15 γ).2.2 _ _ _ _ _ (lv_sub hl [0] rfl) hH hS (by omega) (by omega) hq
