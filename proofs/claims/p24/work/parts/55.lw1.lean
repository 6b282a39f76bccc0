set_option maxRecDepth 20000 in
set_option maxHeartbeats 4000000 in
theorem c_L_foil (l : Launch) (hfl : l.stackTraces = false) (κ : KP) (γ : St) (hk : (x_L_foil γ).1 = 0) : Met l yL_foil [Cond.code yL_foil cL_foil 2 (some .boolean)] ({ frames := 11, cells := 1075, slots := 21490, locals := 241 } : Room) (va_Pc [.ref (kA κ 7 0)] (GW κ γ)) (QL κ (x_L_foil γ).2.2 (some (.int (x_L_foil γ).2.1))) 1075 21490 (AA κ) := by
  generalize hq : x_L_foil γ = res at hk ⊢
  refine Met.ofW (cc := cL_foil) (maxL := 2) (ret := (some .boolean)) (by decide) rfl ?_
  intro p e s m args below meth c s₁ B hml9 hv
  obtain ⟨rfl, hH, hK9, hB9, hX9, hZ9⟩ := hv
  have hC : CX κ cL_foil "PhrasehallLaw" 2 p l s m ([.ref (kA κ 7 0)] : List Value).toArray meth c := ⟨B.exec, B.bytes, findClass_of_methodNamed B.named, fun w hw => tw_use (List.mem_filter.mp hw).2 (State.WarmedH.refl s) (hX9.1 w hw), hK9, hX9, hZ9, hB9, hml9, B.notSynchronized⟩
  obtain ⟨hx, hb, hown, hT, -, -, -, -, hml, -⟩ := id hC
  have hr := B.returns
  have hS : va_S (AA κ) s.heap s.heap [] := va_S.rf
  have hl := lv_entry ([.ref (kA κ 7 0)]) (n := 2) (Nat.le_of_ble_eq_true rfl)
  rw [lg_entry_eq]
  generalize (lg_sl ([.ref (kA κ 7 0)]) ++ List.replicate (2 - (lg_sl ([.ref (kA κ 7 0)])).length) Slot.unset).toArray = ls at hl ⊢
  have hl : lv_has ls 2 [(0, .ref (kA κ 7 0))] := hl
  have hc1 : 0 + 1075 ≤ 1075 := Nat.le_of_ble_eq_true rfl
  have hc2 : 0 + 21490 ≤ 21490 := Nat.le_of_ble_eq_true rfl
  have b_48 : ∀ (γ : St) (H : Heap) (locs : List Loc) (ls : Array Slot) (cells slots : Nat), lv_has ls 2 [] → HE κ γ H → va_S (AA κ) s.heap H locs → cells + (0) ≤ 1075 → slots + (0) ≤ 21490 → x_L_foil_48 γ = res → W p l e (headSpec [Cond.code yL_foil cL_foil 2 (some .boolean)] ({ frames := 11, cells := 1075, slots := 21490, locals := 241 } : Room)).room s m ([.ref (kA κ 7 0)] : List Value).toArray below meth c H locs cells slots (MQ below (QL κ res.2.2 (some (.int res.2.1))) ([.ref (kA κ 7 0)] : List Value).toArray s 1075 21490 (AA κ)) (F0 m 48 ls []) := by
    intro γ H locs ls cells slots hl hH hS hc1 hc2 hq
    refine lv_iconst (v := 0) hx hb dL_foil_48 (by decide) ?_
    subst hq
    exact er_z hC hr rfl hH hS rfl rfl (by omega) (by omega) dL_foil_49
  have b_125 : ∀ (γ : St) (H : Heap) (locs : List Loc) (ls : Array Slot) (cells slots : Nat), lv_has ls 2 [] → HE κ γ H → va_S (AA κ) s.heap H locs → cells + (0) ≤ 1075 → slots + (0) ≤ 21490 → x_L_foil_125 γ = res → W p l e (headSpec [Cond.code yL_foil cL_foil 2 (some .boolean)] ({ frames := 11, cells := 1075, slots := 21490, locals := 241 } : Room)).room s m ([.ref (kA κ 7 0)] : List Value).toArray below meth c H locs cells slots (MQ below (QL κ res.2.2 (some (.int res.2.1))) ([.ref (kA κ 7 0)] : List Value).toArray s 1075 21490 (AA κ)) (F0 m 125 ls []) := by
    intro γ H locs ls cells slots hl hH hS hc1 hc2 hq
    refine lv_iconst (v := 0) hx hb dL_foil_125 (by decide) ?_
    subst hq
    exact er_z hC hr rfl hH hS rfl rfl (by omega) (by omega) dL_foil_126
  have b_180 : ∀ (γ : St) (H : Heap) (locs : List Loc) (ls : Array Slot) (cells slots : Nat), lv_has ls 2 [] → HE κ γ H → va_S (AA κ) s.heap H locs → cells + (0) ≤ 1075 → slots + (0) ≤ 21490 → x_L_foil_180 γ = res → W p l e (headSpec [Cond.code yL_foil cL_foil 2 (some .boolean)] ({ frames := 11, cells := 1075, slots := 21490, locals := 241 } : Room)).room s m ([.ref (kA κ 7 0)] : List Value).toArray below meth c H locs cells slots (MQ below (QL κ res.2.2 (some (.int res.2.1))) ([.ref (kA κ 7 0)] : List Value).toArray s 1075 21490 (AA κ)) (F0 m 180 ls []) := by
    intro γ H locs ls cells slots hl hH hS hc1 hc2 hq
    refine lv_iconst (v := 0) hx hb dL_foil_180 (by decide) ?_
    subst hq
    exact er_z hC hr rfl hH hS rfl rfl (by omega) (by omega) dL_foil_181
  have b_276 : ∀ (γ : St) (H : Heap) (locs : List Loc) (ls : Array Slot) (cells slots : Nat), lv_has ls 2 [] → HE κ γ H → va_S (AA κ) s.heap H locs → cells + (0) ≤ 1075 → slots + (0) ≤ 21490 → x_L_foil_276 γ = res → W p l e (headSpec [Cond.code yL_foil cL_foil 2 (some .boolean)] ({ frames := 11, cells := 1075, slots := 21490, locals := 241 } : Room)).room s m ([.ref (kA κ 7 0)] : List Value).toArray below meth c H locs cells slots (MQ below (QL κ res.2.2 (some (.int res.2.1))) ([.ref (kA κ 7 0)] : List Value).toArray s 1075 21490 (AA κ)) (F0 m 276 ls []) := by
    intro γ H locs ls cells slots hl hH hS hc1 hc2 hq
    refine lv_iconst (v := 0) hx hb dL_foil_276 (by decide) ?_
    subst hq
    exact er_z hC hr rfl hH hS rfl rfl (by omega) (by omega) dL_foil_277
  have b_432 : ∀ (γ : St) (H : Heap) (locs : List Loc) (ls : Array Slot) (cells slots : Nat), lv_has ls 2 [] → HE κ γ H → va_S (AA κ) s.heap H locs → cells + (0) ≤ 1075 → slots + (0) ≤ 21490 → x_L_foil_432 γ = res → W p l e (headSpec [Cond.code yL_foil cL_foil 2 (some .boolean)] ({ frames := 11, cells := 1075, slots := 21490, locals := 241 } : Room)).room s m ([.ref (kA κ 7 0)] : List Value).toArray below meth c H locs cells slots (MQ below (QL κ res.2.2 (some (.int res.2.1))) ([.ref (kA κ 7 0)] : List Value).toArray s 1075 21490 (AA κ)) (F0 m 432 ls []) := by
    intro γ H locs ls cells slots hl hH hS hc1 hc2 hq
    refine lv_iconst (v := 0) hx hb dL_foil_432 (by decide) ?_
    subst hq
    exact er_z hC hr rfl hH hS rfl rfl (by omega) (by omega) dL_foil_433
  have b_607 : ∀ (γ : St) (H : Heap) (locs : List Loc) (ls : Array Slot) (cells slots : Nat), lv_has ls 2 [] → HE κ γ H → va_S (AA κ) s.heap H locs → cells + (0) ≤ 1075 → slots + (0) ≤ 21490 → x_L_foil_607 γ = res → W p l e (headSpec [Cond.code yL_foil cL_foil 2 (some .boolean)] ({ frames := 11, cells := 1075, slots := 21490, locals := 241 } : Room)).room s m ([.ref (kA κ 7 0)] : List Value).toArray below meth c H locs cells slots (MQ below (QL κ res.2.2 (some (.int res.2.1))) ([.ref (kA κ 7 0)] : List Value).toArray s 1075 21490 (AA κ)) (F0 m 607 ls []) := by
    intro γ H locs ls cells slots hl hH hS hc1 hc2 hq
    refine lv_iconst (v := 0) hx hb dL_foil_607 (by decide) ?_
    subst hq
    exact er_z hC hr rfl hH hS rfl rfl (by omega) (by omega) dL_foil_608
  have b_888 : ∀ (γ : St) (H : Heap) (locs : List Loc) (ls : Array Slot) (cells slots : Nat), lv_has ls 2 [] → HE κ γ H → va_S (AA κ) s.heap H locs → cells + (0) ≤ 1075 → slots + (0) ≤ 21490 → x_L_foil_888 γ = res → W p l e (headSpec [Cond.code yL_foil cL_foil 2 (some .boolean)] ({ frames := 11, cells := 1075, slots := 21490, locals := 241 } : Room)).room s m ([.ref (kA κ 7 0)] : List Value).toArray below meth c H locs cells slots (MQ below (QL κ res.2.2 (some (.int res.2.1))) ([.ref (kA κ 7 0)] : List Value).toArray s 1075 21490 (AA κ)) (F0 m 888 ls []) := by
    intro γ H locs ls cells slots hl hH hS hc1 hc2 hq
    refine lv_iconst (v := 0) hx hb dL_foil_888 (by decide) ?_
    subst hq
    exact er_z hC hr rfl hH hS rfl rfl (by omega) (by omega) dL_foil_889
  have b_879 : ∀ (s0 : Int32) (γ : St) (H : Heap) (locs : List Loc) (ls : Array Slot) (cells slots : Nat), lv_has ls 2 [] → HE κ γ H → va_S (AA κ) s.heap H locs → cells + (0) ≤ 1075 → slots + (0) ≤ 21490 → x_L_foil_879 s0 γ = res → W p l e (headSpec [Cond.code yL_foil cL_foil 2 (some .boolean)] ({ frames := 11, cells := 1075, slots := 21490, locals := 241 } : Room)).room s m ([.ref (kA κ 7 0)] : List Value).toArray below meth c H locs cells slots (MQ below (QL κ res.2.2 (some (.int res.2.1))) ([.ref (kA κ 7 0)] : List Value).toArray s 1075 21490 (AA κ)) (F0 m 879 ls [.int s0]) := by
    intro s0 γ H locs ls cells slots hl hH hS hc1 hc2 hq
    refine lv_bipush (v := (-73)) hx hb dL_foil_879 (by decide) ?_
    refine lv_icmp_ne (tgt := 888) hx hb dL_foil_881 (by decide) (fun c469 => ?_) (fun c469 => ?_)
    · have hq := ifne hq c469
      exact b_888 γ _ _ _ _ _ (lv_sub hl [] rfl) hH hS (by omega) (by omega) hq
    · have hq := ifpe hq c469
      refine lv_iconst (v := 1) hx hb dL_foil_884 (by decide) ?_
      refine lv_goto (tgt := 889) hx hb dL_foil_885 (by decide) ?_
      subst hq
      exact er_z hC hr rfl hH hS rfl rfl (by omega) (by omega) dL_foil_889
  have b_864 : ∀ (s0 : Int32) (γ : St) (H : Heap) (locs : List Loc) (ls : Array Slot) (cells slots : Nat), lv_has ls 2 [(0, .ref (kA κ 7 0))] → HE κ γ H → va_S (AA κ) s.heap H locs → cells + (3) ≤ 1075 → slots + (65) ≤ 21490 → x_L_foil_864 s0 γ = res → W p l e (headSpec [Cond.code yL_foil cL_foil 2 (some .boolean)] ({ frames := 11, cells := 1075, slots := 21490, locals := 241 } : Room)).room s m ([.ref (kA κ 7 0)] : List Value).toArray below meth c H locs cells slots (MQ below (QL κ res.2.2 (some (.int res.2.1))) ([.ref (kA κ 7 0)] : List Value).toArray s 1075 21490 (AA κ)) (F0 m 864 ls [.int s0]) := by
    intro s0 γ H locs ls cells slots hl hH hS hc1 hc2 hq
    refine lv_bipush (v := (-73)) hx hb dL_foil_864 (by decide) ?_
    refine lv_icmp_ne (tgt := 888) hx hb dL_foil_866 (by decide) (fun c470 => ?_) (fun c470 => ?_)
    · have hq := ifne hq c470
      exact b_888 γ _ _ _ _ _ (lv_sub hl [] rfl) hH hS (by omega) (by omega) hq
    · have hq := ifpe hq c470
      refine lv_aload_n hx hb dL_foil_869 rfl (lv_at hl 0 rfl) ?_
      refine lv_iconst (v := 3) hx hb dL_foil_870 (by decide) ?_
      refine lv_iconst (v := 0) hx hb dL_foil_871 (by decide) ?_
      refine lv_iconst (v := 0) hx hb dL_foil_872 (by decide) ?_
      refine lv_iconst (v := 0) hx hb dL_foil_873 (by decide) ?_
      refine lv_iconst (v := 0) hx hb dL_foil_874 (by decide) ?_
      refine lv_iconst (v := 0) hx hb dL_foil_875 (by decide) ?_
      refine e_callW (rest := []) hC hl hH hS (c_L_call l hfl κ γ 3 0 0 0 0 0) tw_430 tw_431 tw_37 tw_432 hd_L_call ⟨Nat.le_of_ble_eq_true rfl, Nat.le_of_ble_eq_true rfl⟩ rfl rfl rfl rfl (Nat.le_of_ble_eq_true rfl) dL_foil_876 ⟨by show _ ≤ 1075; omega, by show _ ≤ 21490; omega⟩ rfl (fun H locs hH hS => ?_)
      exact b_879 ((x_L_call 3 0 0 0 0 0 γ).1) (x_L_call 3 0 0 0 0 0 γ).2 _ _ _ _ _ (lv_sub hl [] rfl) hH hS (by omega) (by omega) hq
  have b_849 : ∀ (s0 : Int32) (γ : St) (H : Heap) (locs : List Loc) (ls : Array Slot) (cells slots : Nat), lv_has ls 2 [(0, .ref (kA κ 7 0))] → HE κ γ H → va_S (AA κ) s.heap H locs → cells + (6) ≤ 1075 → slots + (130) ≤ 21490 → x_L_foil_849 s0 γ = res → W p l e (headSpec [Cond.code yL_foil cL_foil 2 (some .boolean)] ({ frames := 11, cells := 1075, slots := 21490, locals := 241 } : Room)).room s m ([.ref (kA κ 7 0)] : List Value).toArray below meth c H locs cells slots (MQ below (QL κ res.2.2 (some (.int res.2.1))) ([.ref (kA κ 7 0)] : List Value).toArray s 1075 21490 (AA κ)) (F0 m 849 ls [.int s0]) := by
    intro s0 γ H locs ls cells slots hl hH hS hc1 hc2 hq
    refine lv_bipush (v := (-73)) hx hb dL_foil_849 (by decide) ?_
    refine lv_icmp_ne (tgt := 888) hx hb dL_foil_851 (by decide) (fun c471 => ?_) (fun c471 => ?_)
    · have hq := ifne hq c471
      exact b_888 γ _ _ _ _ _ (lv_sub hl [] rfl) hH hS (by omega) (by omega) hq
    · have hq := ifpe hq c471
      refine lv_aload_n hx hb dL_foil_854 rfl (lv_at hl 0 rfl) ?_
      refine lv_iconst (v := 2) hx hb dL_foil_855 (by decide) ?_
      refine lv_iconst (v := 0) hx hb dL_foil_856 (by decide) ?_
      refine lv_iconst (v := 0) hx hb dL_foil_857 (by decide) ?_
      refine lv_iconst (v := 0) hx hb dL_foil_858 (by decide) ?_
      refine lv_iconst (v := 0) hx hb dL_foil_859 (by decide) ?_
      refine lv_iconst (v := 0) hx hb dL_foil_860 (by decide) ?_
      refine e_callW (rest := []) hC hl hH hS (c_L_call l hfl κ γ 2 0 0 0 0 0) tw_430 tw_431 tw_37 tw_432 hd_L_call ⟨Nat.le_of_ble_eq_true rfl, Nat.le_of_ble_eq_true rfl⟩ rfl rfl rfl rfl (Nat.le_of_ble_eq_true rfl) dL_foil_861 ⟨by show _ ≤ 1075; omega, by show _ ≤ 21490; omega⟩ rfl (fun H locs hH hS => ?_)
      exact b_864 ((x_L_call 2 0 0 0 0 0 γ).1) (x_L_call 2 0 0 0 0 0 γ).2 _ _ _ _ _ (lv_sub hl [0] rfl) hH hS (by omega) (by omega) hq
  have b_833 : ∀ (s0 : Int32) (γ : St) (H : Heap) (locs : List Loc) (ls : Array Slot) (cells slots : Nat), lv_has ls 2 [(0, .ref (kA κ 7 0))] → HE κ γ H → va_S (AA κ) s.heap H locs → cells + (9) ≤ 1075 → slots + (195) ≤ 21490 → x_L_foil_833 s0 γ = res → W p l e (headSpec [Cond.code yL_foil cL_foil 2 (some .boolean)] ({ frames := 11, cells := 1075, slots := 21490, locals := 241 } : Room)).room s m ([.ref (kA κ 7 0)] : List Value).toArray below meth c H locs cells slots (MQ below (QL κ res.2.2 (some (.int res.2.1))) ([.ref (kA κ 7 0)] : List Value).toArray s 1075 21490 (AA κ)) (F0 m 833 ls [.int s0]) := by
    intro s0 γ H locs ls cells slots hl hH hS hc1 hc2 hq
    refine lv_bipush (v := (-73)) hx hb dL_foil_833 (by decide) ?_
    refine lv_icmp_ne (tgt := 888) hx hb dL_foil_835 (by decide) (fun c472 => ?_) (fun c472 => ?_)
    · have hq := ifne hq c472
      exact b_888 γ _ _ _ _ _ (lv_sub hl [] rfl) hH hS (by omega) (by omega) hq
    · have hq := ifpe hq c472
      refine lv_aload_n hx hb dL_foil_838 rfl (lv_at hl 0 rfl) ?_
      refine lv_bipush (v := 6) hx hb dL_foil_839 (by decide) ?_
      refine lv_iconst (v := 1) hx hb dL_foil_841 (by decide) ?_
      refine lv_iconst (v := 0) hx hb dL_foil_842 (by decide) ?_
      refine lv_iconst (v := 0) hx hb dL_foil_843 (by decide) ?_
      refine lv_iconst (v := 0) hx hb dL_foil_844 (by decide) ?_
      refine lv_iconst (v := 0) hx hb dL_foil_845 (by decide) ?_
      refine e_callW (rest := []) hC hl hH hS (c_L_call l hfl κ γ 6 1 0 0 0 0) tw_430 tw_431 tw_37 tw_432 hd_L_call ⟨Nat.le_of_ble_eq_true rfl, Nat.le_of_ble_eq_true rfl⟩ rfl rfl rfl rfl (Nat.le_of_ble_eq_true rfl) dL_foil_846 ⟨by show _ ≤ 1075; omega, by show _ ≤ 21490; omega⟩ rfl (fun H locs hH hS => ?_)
      exact b_849 ((x_L_call 6 1 0 0 0 0 γ).1) (x_L_call 6 1 0 0 0 0 γ).2 _ _ _ _ _ (lv_sub hl [0] rfl) hH hS (by omega) (by omega) hq
  have b_818 : ∀ (s0 : Int32) (γ : St) (H : Heap) (locs : List Loc) (ls : Array Slot) (cells slots : Nat), lv_has ls 2 [(0, .ref (kA κ 7 0))] → HE κ γ H → va_S (AA κ) s.heap H locs → cells + (12) ≤ 1075 → slots + (260) ≤ 21490 → x_L_foil_818 s0 γ = res → W p l e (headSpec [Cond.code yL_foil cL_foil 2 (some .boolean)] ({ frames := 11, cells := 1075, slots := 21490, locals := 241 } : Room)).room s m ([.ref (kA κ 7 0)] : List Value).toArray below meth c H locs cells slots (MQ below (QL κ res.2.2 (some (.int res.2.1))) ([.ref (kA κ 7 0)] : List Value).toArray s 1075 21490 (AA κ)) (F0 m 818 ls [.int s0]) := by
    intro s0 γ H locs ls cells slots hl hH hS hc1 hc2 hq
    refine lv_bipush (v := (-73)) hx hb dL_foil_818 (by decide) ?_
    refine lv_icmp_ne (tgt := 888) hx hb dL_foil_820 (by decide) (fun c473 => ?_) (fun c473 => ?_)
    · have hq := ifne hq c473
      exact b_888 γ _ _ _ _ _ (lv_sub hl [] rfl) hH hS (by omega) (by omega) hq
    · have hq := ifpe hq c473
      refine lv_aload_n hx hb dL_foil_823 rfl (lv_at hl 0 rfl) ?_
      refine lv_iconst (v := 5) hx hb dL_foil_824 (by decide) ?_
      refine lv_iconst (v := 0) hx hb dL_foil_825 (by decide) ?_
      refine lv_iconst (v := 1) hx hb dL_foil_826 (by decide) ?_
      refine lv_iconst (v := 0) hx hb dL_foil_827 (by decide) ?_
      refine lv_iconst (v := 0) hx hb dL_foil_828 (by decide) ?_
      refine lv_iconst (v := 0) hx hb dL_foil_829 (by decide) ?_
      refine e_callW (rest := []) hC hl hH hS (c_L_call l hfl κ γ 5 0 1 0 0 0) tw_430 tw_431 tw_37 tw_432 hd_L_call ⟨Nat.le_of_ble_eq_true rfl, Nat.le_of_ble_eq_true rfl⟩ rfl rfl rfl rfl (Nat.le_of_ble_eq_true rfl) dL_foil_830 ⟨by show _ ≤ 1075; omega, by show _ ≤ 21490; omega⟩ rfl (fun H locs hH hS => ?_)
      exact b_833 ((x_L_call 5 0 1 0 0 0 γ).1) (x_L_call 5 0 1 0 0 0 γ).2 _ _ _ _ _ (lv_sub hl [0] rfl) hH hS (by omega) (by omega) hq
  have b_802 : ∀ (s0 : Int32) (γ : St) (H : Heap) (locs : List Loc) (ls : Array Slot) (cells slots : Nat), lv_has ls 2 [(0, .ref (kA κ 7 0))] → HE κ γ H → va_S (AA κ) s.heap H locs → cells + (15) ≤ 1075 → slots + (325) ≤ 21490 → x_L_foil_802 s0 γ = res → W p l e (headSpec [Cond.code yL_foil cL_foil 2 (some .boolean)] ({ frames := 11, cells := 1075, slots := 21490, locals := 241 } : Room)).room s m ([.ref (kA κ 7 0)] : List Value).toArray below meth c H locs cells slots (MQ below (QL κ res.2.2 (some (.int res.2.1))) ([.ref (kA κ 7 0)] : List Value).toArray s 1075 21490 (AA κ)) (F0 m 802 ls [.int s0]) := by
    intro s0 γ H locs ls cells slots hl hH hS hc1 hc2 hq
    refine lv_bipush (v := (-73)) hx hb dL_foil_802 (by decide) ?_
    refine lv_icmp_ne (tgt := 888) hx hb dL_foil_804 (by decide) (fun c474 => ?_) (fun c474 => ?_)
    · have hq := ifne hq c474
      exact b_888 γ _ _ _ _ _ (lv_sub hl [] rfl) hH hS (by omega) (by omega) hq
    · have hq := ifpe hq c474
      refine lv_aload_n hx hb dL_foil_807 rfl (lv_at hl 0 rfl) ?_
      refine lv_bipush (v := 7) hx hb dL_foil_808 (by decide) ?_
      refine lv_iconst (v := 0) hx hb dL_foil_810 (by decide) ?_
      refine lv_iconst (v := 0) hx hb dL_foil_811 (by decide) ?_
      refine lv_iconst (v := 0) hx hb dL_foil_812 (by decide) ?_
      refine lv_iconst (v := 0) hx hb dL_foil_813 (by decide) ?_
      refine lv_iconst (v := 0) hx hb dL_foil_814 (by decide) ?_
      refine e_callW (rest := []) hC hl hH hS (c_L_call l hfl κ γ 7 0 0 0 0 0) tw_430 tw_431 tw_37 tw_432 hd_L_call ⟨Nat.le_of_ble_eq_true rfl, Nat.le_of_ble_eq_true rfl⟩ rfl rfl rfl rfl (Nat.le_of_ble_eq_true rfl) dL_foil_815 ⟨by show _ ≤ 1075; omega, by show _ ≤ 21490; omega⟩ rfl (fun H locs hH hS => ?_)
      exact b_818 ((x_L_call 7 0 0 0 0 0 γ).1) (x_L_call 7 0 0 0 0 0 γ).2 _ _ _ _ _ (lv_sub hl [0] rfl) hH hS (by omega) (by omega) hq
  have b_789 : ∀ (s0 : Int32) (γ : St) (H : Heap) (locs : List Loc) (ls : Array Slot) (cells slots : Nat), lv_has ls 2 [(0, .ref (kA κ 7 0))] → HE κ γ H → va_S (AA κ) s.heap H locs → cells + (18) ≤ 1075 → slots + (390) ≤ 21490 → x_L_foil_789 s0 γ = res → W p l e (headSpec [Cond.code yL_foil cL_foil 2 (some .boolean)] ({ frames := 11, cells := 1075, slots := 21490, locals := 241 } : Room)).room s m ([.ref (kA κ 7 0)] : List Value).toArray below meth c H locs cells slots (MQ below (QL κ res.2.2 (some (.int res.2.1))) ([.ref (kA κ 7 0)] : List Value).toArray s 1075 21490 (AA κ)) (F0 m 789 ls [.int s0]) := by
    intro s0 γ H locs ls cells slots hl hH hS hc1 hc2 hq
    refine lv_if_eq (tgt := 888) hx hb dL_foil_789 (by decide) (fun c475 => ?_) (fun c475 => ?_)
    · have hq := ifpe hq c475
      exact b_888 γ _ _ _ _ _ (lv_sub hl [] rfl) hH hS (by omega) (by omega) hq
    · have hq := ifne hq c475
      refine lv_aload_n hx hb dL_foil_792 rfl (lv_at hl 0 rfl) ?_
      refine lv_iconst (v := 4) hx hb dL_foil_793 (by decide) ?_
      refine lv_iconst (v := 0) hx hb dL_foil_794 (by decide) ?_
      refine lv_iconst (v := 0) hx hb dL_foil_795 (by decide) ?_
      refine lv_iconst (v := 0) hx hb dL_foil_796 (by decide) ?_
      refine lv_iconst (v := 0) hx hb dL_foil_797 (by decide) ?_
      refine lv_iconst (v := 0) hx hb dL_foil_798 (by decide) ?_
      refine e_callW (rest := []) hC hl hH hS (c_L_call l hfl κ γ 4 0 0 0 0 0) tw_430 tw_431 tw_37 tw_432 hd_L_call ⟨Nat.le_of_ble_eq_true rfl, Nat.le_of_ble_eq_true rfl⟩ rfl rfl rfl rfl (Nat.le_of_ble_eq_true rfl) dL_foil_799 ⟨by show _ ≤ 1075; omega, by show _ ≤ 21490; omega⟩ rfl (fun H locs hH hS => ?_)
      exact b_802 ((x_L_call 4 0 0 0 0 0 γ).1) (x_L_call 4 0 0 0 0 0 γ).2 _ _ _ _ _ (lv_sub hl [0] rfl) hH hS (by omega) (by omega) hq
  have b_773 : ∀ (s0 : Int32) (γ : St) (H : Heap) (locs : List Loc) (ls : Array Slot) (cells slots : Nat), lv_has ls 2 [(0, .ref (kA κ 7 0))] → HE κ γ H → va_S (AA κ) s.heap H locs → cells + (24) ≤ 1075 → slots + (426) ≤ 21490 → x_L_foil_773 s0 γ = res → W p l e (headSpec [Cond.code yL_foil cL_foil 2 (some .boolean)] ({ frames := 11, cells := 1075, slots := 21490, locals := 241 } : Room)).room s m ([.ref (kA κ 7 0)] : List Value).toArray below meth c H locs cells slots (MQ below (QL κ res.2.2 (some (.int res.2.1))) ([.ref (kA κ 7 0)] : List Value).toArray s 1075 21490 (AA κ)) (F0 m 773 ls [.int s0]) := by
    intro s0 γ H locs ls cells slots hl hH hS hc1 hc2 hq
    refine lv_iconst (v := (-1)) hx hb dL_foil_773 (by decide) ?_
    refine lv_icmp_ne (tgt := 888) hx hb dL_foil_774 (by decide) (fun c476 => ?_) (fun c476 => ?_)
    · have hq := ifne hq c476
      exact b_888 γ _ _ _ _ _ (lv_sub hl [] rfl) hH hS (by omega) (by omega) hq
    · have hq := ifpe hq c476
      refine lv_aload_n hx hb dL_foil_777 rfl (lv_at hl 0 rfl) ?_
      refine lv_iconst (v := 0) hx hb dL_foil_778 (by decide) ?_
      refine lv_bipush (v := 7) hx hb dL_foil_779 (by decide) ?_
      refine lv_iconst (v := 3) hx hb dL_foil_781 (by decide) ?_
      refine lv_iconst (v := 0) hx hb dL_foil_782 (by decide) ?_
      refine lv_iconst (v := 0) hx hb dL_foil_783 (by decide) ?_
      refine lv_iconst (v := 0) hx hb dL_foil_784 (by decide) ?_
      refine lv_iconst (v := (-1)) hx hb dL_foil_785 (by decide) ?_
      by_cases he477 : (x_L_bout 0 7 3 0 0 0 ((-1)) γ).1 = 0
      rotate_left
      · exact flag_bad (ifne hq he477) hk
      have hq := ifpe hq he477
      refine e_callS (rest := []) hC hl hH hS (c_L_bout l hfl κ γ 0 7 3 0 0 0 ((-1)) he477) tw_880 tw_881 tw_37 tw_882 hd_L_bout ⟨Nat.le_of_ble_eq_true rfl, Nat.le_of_ble_eq_true rfl⟩ rfl rfl rfl rfl (Nat.le_of_ble_eq_true rfl) dL_foil_786 ⟨by show _ ≤ 1075; omega, by show _ ≤ 21490; omega⟩ rfl (fun H locs hH hS => ?_)
      exact b_789 ((x_L_bout 0 7 3 0 0 0 ((-1)) γ).2.1) (x_L_bout 0 7 3 0 0 0 ((-1)) γ).2.2 _ _ _ _ _ (lv_sub hl [0] rfl) hH hS (by omega) (by omega) hq
  have b_757 : ∀ (s0 : Int32) (γ : St) (H : Heap) (locs : List Loc) (ls : Array Slot) (cells slots : Nat), lv_has ls 2 [(0, .ref (kA κ 7 0))] → HE κ γ H → va_S (AA κ) s.heap H locs → cells + (25) ≤ 1075 → slots + (432) ≤ 21490 → x_L_foil_757 s0 γ = res → W p l e (headSpec [Cond.code yL_foil cL_foil 2 (some .boolean)] ({ frames := 11, cells := 1075, slots := 21490, locals := 241 } : Room)).room s m ([.ref (kA κ 7 0)] : List Value).toArray below meth c H locs cells slots (MQ below (QL κ res.2.2 (some (.int res.2.1))) ([.ref (kA κ 7 0)] : List Value).toArray s 1075 21490 (AA κ)) (F0 m 757 ls [.int s0]) := by
    intro s0 γ H locs ls cells slots hl hH hS hc1 hc2 hq
    refine lv_if_ne (tgt := 888) hx hb dL_foil_757 (by decide) (fun c478 => ?_) (fun c478 => ?_)
    · have hq := ifne hq c478
      exact b_888 γ _ _ _ _ _ (lv_sub hl [] rfl) hH hS (by omega) (by omega) hq
    · have hq := ifpe hq c478
      refine lv_aload_n hx hb dL_foil_760 rfl (lv_at hl 0 rfl) ?_
      refine lv_iconst (v := 1) hx hb dL_foil_761 (by decide) ?_
      refine e_xcallV (rest := []) hC hl hH hS (co_lamp l hfl κ γ 1) tw_837 tw_838 tw_839 tw_38 tw_840 hd_X7_lamp ⟨Nat.le_of_ble_eq_true rfl, Nat.le_of_ble_eq_true rfl⟩ rfl rfl rfl rfl (Nat.le_of_ble_eq_true rfl) dL_foil_762 ⟨by show _ ≤ 1075; omega, by show _ ≤ 21490; omega⟩ rfl (fun he479 ce q9 H locs hH hS hce hcv hcl => ?_) (fun he479 H locs hH hS => ?_)
      · exact flag_bad (ifne hq he479) hk
      have hq := ifpe hq he479
      refine lv_iconst (v := (-1)) hx hb dL_foil_765 (by decide) ?_
      refine lv_icmp_ne (tgt := 888) hx hb dL_foil_766 (by decide) (fun c480 => ?_) (fun c480 => ?_)
      · have hq := ifne hq c480
        exact b_888 (x_X7_lamp 1 γ).2.2 _ _ _ _ _ (lv_sub hl [] rfl) hH hS (by omega) (by omega) hq
      · have hq := ifpe hq c480
        refine lv_aload_n hx hb dL_foil_769 rfl (lv_at hl 0 rfl) ?_
        refine e_callV (rest := []) hC hl hH hS (co_holder l κ (x_X7_lamp 1 γ).2.2) tw_845 tw_846 tw_847 tw_38 tw_848 hd_X7_holder ⟨Nat.le_of_ble_eq_true rfl, Nat.le_of_ble_eq_true rfl⟩ rfl rfl rfl rfl (Nat.le_of_ble_eq_true rfl) dL_foil_770 ⟨by show _ ≤ 1075; omega, by show _ ≤ 21490; omega⟩ rfl (fun H locs hH hS => ?_)
        exact b_773 ((x_X7_holder (x_X7_lamp 1 γ).2.2).1) (x_X7_holder (x_X7_lamp 1 γ).2.2).2 _ _ _ _ _ (lv_sub hl [0] rfl) hH hS (by omega) (by omega) hq
  have b_750 : ∀ (s0 : Int32) (γ : St) (H : Heap) (locs : List Loc) (ls : Array Slot) (cells slots : Nat), lv_has ls 2 [(0, .ref (kA κ 7 0))] → HE κ γ H → va_S (AA κ) s.heap H locs → cells + (26) ≤ 1075 → slots + (438) ≤ 21490 → x_L_foil_750 s0 γ = res → W p l e (headSpec [Cond.code yL_foil cL_foil 2 (some .boolean)] ({ frames := 11, cells := 1075, slots := 21490, locals := 241 } : Room)).room s m ([.ref (kA κ 7 0)] : List Value).toArray below meth c H locs cells slots (MQ below (QL κ res.2.2 (some (.int res.2.1))) ([.ref (kA κ 7 0)] : List Value).toArray s 1075 21490 (AA κ)) (F0 m 750 ls [.int s0]) := by
    intro s0 γ H locs ls cells slots hl hH hS hc1 hc2 hq
    refine lv_if_eq (tgt := 888) hx hb dL_foil_750 (by decide) (fun c481 => ?_) (fun c481 => ?_)
    · have hq := ifpe hq c481
      exact b_888 γ _ _ _ _ _ (lv_sub hl [] rfl) hH hS (by omega) (by omega) hq
    · have hq := ifne hq c481
      refine lv_aload_n hx hb dL_foil_753 rfl (lv_at hl 0 rfl) ?_
      refine e_xcallV (rest := []) hC hl hH hS (co_end l hfl κ γ) tw_729 tw_730 tw_731 tw_38 tw_732 hd_X7_end ⟨Nat.le_of_ble_eq_true rfl, Nat.le_of_ble_eq_true rfl⟩ rfl rfl rfl rfl (Nat.le_of_ble_eq_true rfl) dL_foil_754 ⟨by show _ ≤ 1075; omega, by show _ ≤ 21490; omega⟩ rfl (fun he482 ce q9 H locs hH hS hce hcv hcl => ?_) (fun he482 H locs hH hS => ?_)
      · exact flag_bad (ifne hq he482) hk
      have hq := ifpe hq he482
      exact b_757 ((x_X7_end γ).2.1) (x_X7_end γ).2.2 _ _ _ _ _ (lv_sub hl [0] rfl) hH hS (by omega) (by omega) hq
  have b_739 : ∀ (s0 : Int32) (γ : St) (H : Heap) (locs : List Loc) (ls : Array Slot) (cells slots : Nat), lv_has ls 2 [(0, .ref (kA κ 7 0))] → HE κ γ H → va_S (AA κ) s.heap H locs → cells + (640) ≤ 1075 → slots + (13710) ≤ 21490 → x_L_foil_739 s0 γ = res → W p l e (headSpec [Cond.code yL_foil cL_foil 2 (some .boolean)] ({ frames := 11, cells := 1075, slots := 21490, locals := 241 } : Room)).room s m ([.ref (kA κ 7 0)] : List Value).toArray below meth c H locs cells slots (MQ below (QL κ res.2.2 (some (.int res.2.1))) ([.ref (kA κ 7 0)] : List Value).toArray s 1075 21490 (AA κ)) (F0 m 739 ls [.int s0]) := by
    intro s0 γ H locs ls cells slots hl hH hS hc1 hc2 hq
    refine lv_iconst (v := 2) hx hb dL_foil_739 (by decide) ?_
    refine lv_icmp_ne (tgt := 888) hx hb dL_foil_740 (by decide) (fun c483 => ?_) (fun c483 => ?_)
    · have hq := ifne hq c483
      exact b_888 γ _ _ _ _ _ (lv_sub hl [] rfl) hH hS (by omega) (by omega) hq
    · have hq := ifpe hq c483
      refine lv_aload_n hx hb dL_foil_743 rfl (lv_at hl 0 rfl) ?_
      refine lv_iconst (v := 4) hx hb dL_foil_744 (by decide) ?_
      refine lv_iconst (v := 0) hx hb dL_foil_745 (by decide) ?_
      refine lv_iconst (v := 1) hx hb dL_foil_746 (by decide) ?_
      by_cases he484 : (x_L_refuses 4 0 1 γ).1 = 0
      rotate_left
      · exact flag_bad (ifne hq he484) hk
      have hq := ifpe hq he484
      refine e_callS (rest := []) hC hl hH hS (c_L_refuses l hfl κ γ 4 0 1 he484) tw_841 tw_842 tw_37 tw_843 hd_L_refuses ⟨Nat.le_of_ble_eq_true rfl, Nat.le_of_ble_eq_true rfl⟩ rfl rfl rfl rfl (Nat.le_of_ble_eq_true rfl) dL_foil_747 ⟨by show _ ≤ 1075; omega, by show _ ≤ 21490; omega⟩ rfl (fun H locs hH hS => ?_)
      exact b_750 ((x_L_refuses 4 0 1 γ).2.1) (x_L_refuses 4 0 1 γ).2.2 _ _ _ _ _ (lv_sub hl [0] rfl) hH hS (by omega) (by omega) hq
  have b_724 : ∀ (s0 : Int32) (γ : St) (H : Heap) (locs : List Loc) (ls : Array Slot) (cells slots : Nat), lv_has ls 2 [(0, .ref (kA κ 7 0))] → HE κ γ H → va_S (AA κ) s.heap H locs → cells + (641) ≤ 1075 → slots + (13716) ≤ 21490 → x_L_foil_724 s0 γ = res → W p l e (headSpec [Cond.code yL_foil cL_foil 2 (some .boolean)] ({ frames := 11, cells := 1075, slots := 21490, locals := 241 } : Room)).room s m ([.ref (kA κ 7 0)] : List Value).toArray below meth c H locs cells slots (MQ below (QL κ res.2.2 (some (.int res.2.1))) ([.ref (kA κ 7 0)] : List Value).toArray s 1075 21490 (AA κ)) (F0 m 724 ls [.int s0]) := by
    intro s0 γ H locs ls cells slots hl hH hS hc1 hc2 hq
    refine lv_bipush (v := (-73)) hx hb dL_foil_724 (by decide) ?_
    refine lv_icmp_ne (tgt := 888) hx hb dL_foil_726 (by decide) (fun c485 => ?_) (fun c485 => ?_)
    · have hq := ifne hq c485
      exact b_888 γ _ _ _ _ _ (lv_sub hl [] rfl) hH hS (by omega) (by omega) hq
    · have hq := ifpe hq c485
      refine lv_aload_n hx hb dL_foil_729 rfl (lv_at hl 0 rfl) ?_
      refine lv_iconst (v := 1) hx hb dL_foil_730 (by decide) ?_
      refine lv_bipush (v := 50) hx hb dL_foil_731 (by decide) ?_
      refine lv_bipush (v := 20) hx hb dL_foil_733 (by decide) ?_
      refine lv_iconst (v := 0) hx hb dL_foil_735 (by decide) ?_
      refine e_xcallV (rest := []) hC hl hH hS (co_hit l hfl κ γ 1 50 20 0) tw_555 tw_556 tw_557 tw_38 tw_558 hd_X7_hit ⟨Nat.le_of_ble_eq_true rfl, Nat.le_of_ble_eq_true rfl⟩ rfl rfl rfl rfl (Nat.le_of_ble_eq_true rfl) dL_foil_736 ⟨by show _ ≤ 1075; omega, by show _ ≤ 21490; omega⟩ rfl (fun he486 ce q9 H locs hH hS hce hcv hcl => ?_) (fun he486 H locs hH hS => ?_)
      · exact flag_bad (ifne hq he486) hk
      have hq := ifpe hq he486
      exact b_739 ((x_X7_hit 1 50 20 0 γ).2.1) (x_X7_hit 1 50 20 0 γ).2.2 _ _ _ _ _ (lv_sub hl [0] rfl) hH hS (by omega) (by omega) hq
  have b_707 : ∀ (s0 : Int32) (γ : St) (H : Heap) (locs : List Loc) (ls : Array Slot) (cells slots : Nat), lv_has ls 2 [(0, .ref (kA κ 7 0))] → HE κ γ H → va_S (AA κ) s.heap H locs → cells + (644) ≤ 1075 → slots + (13781) ≤ 21490 → x_L_foil_707 s0 γ = res → W p l e (headSpec [Cond.code yL_foil cL_foil 2 (some .boolean)] ({ frames := 11, cells := 1075, slots := 21490, locals := 241 } : Room)).room s m ([.ref (kA κ 7 0)] : List Value).toArray below meth c H locs cells slots (MQ below (QL κ res.2.2 (some (.int res.2.1))) ([.ref (kA κ 7 0)] : List Value).toArray s 1075 21490 (AA κ)) (F0 m 707 ls [.int s0]) := by
    intro s0 γ H locs ls cells slots hl hH hS hc1 hc2 hq
    refine lv_bipush (v := (-73)) hx hb dL_foil_707 (by decide) ?_
    refine lv_icmp_ne (tgt := 888) hx hb dL_foil_709 (by decide) (fun c487 => ?_) (fun c487 => ?_)
    · have hq := ifne hq c487
      exact b_888 γ _ _ _ _ _ (lv_sub hl [] rfl) hH hS (by omega) (by omega) hq
    · have hq := ifpe hq c487
      refine lv_aload_n hx hb dL_foil_712 rfl (lv_at hl 0 rfl) ?_
      refine lv_iconst (v := 3) hx hb dL_foil_713 (by decide) ?_
      refine lv_iconst (v := 1) hx hb dL_foil_714 (by decide) ?_
      refine lv_bipush (v := 49) hx hb dL_foil_715 (by decide) ?_
      refine lv_bipush (v := 20) hx hb dL_foil_717 (by decide) ?_
      refine lv_iconst (v := 0) hx hb dL_foil_719 (by decide) ?_
      refine lv_iconst (v := 0) hx hb dL_foil_720 (by decide) ?_
      refine e_callW (rest := []) hC hl hH hS (c_L_call l hfl κ γ 3 1 49 20 0 0) tw_430 tw_431 tw_37 tw_432 hd_L_call ⟨Nat.le_of_ble_eq_true rfl, Nat.le_of_ble_eq_true rfl⟩ rfl rfl rfl rfl (Nat.le_of_ble_eq_true rfl) dL_foil_721 ⟨by show _ ≤ 1075; omega, by show _ ≤ 21490; omega⟩ rfl (fun H locs hH hS => ?_)
      exact b_724 ((x_L_call 3 1 49 20 0 0 γ).1) (x_L_call 3 1 49 20 0 0 γ).2 _ _ _ _ _ (lv_sub hl [0] rfl) hH hS (by omega) (by omega) hq
  have b_692 : ∀ (s0 : Int32) (γ : St) (H : Heap) (locs : List Loc) (ls : Array Slot) (cells slots : Nat), lv_has ls 2 [(0, .ref (kA κ 7 0))] → HE κ γ H → va_S (AA κ) s.heap H locs → cells + (647) ≤ 1075 → slots + (13846) ≤ 21490 → x_L_foil_692 s0 γ = res → W p l e (headSpec [Cond.code yL_foil cL_foil 2 (some .boolean)] ({ frames := 11, cells := 1075, slots := 21490, locals := 241 } : Room)).room s m ([.ref (kA κ 7 0)] : List Value).toArray below meth c H locs cells slots (MQ below (QL κ res.2.2 (some (.int res.2.1))) ([.ref (kA κ 7 0)] : List Value).toArray s 1075 21490 (AA κ)) (F0 m 692 ls [.int s0]) := by
    intro s0 γ H locs ls cells slots hl hH hS hc1 hc2 hq
    refine lv_iconst (v := 1) hx hb dL_foil_692 (by decide) ?_
    refine lv_icmp_ne (tgt := 888) hx hb dL_foil_693 (by decide) (fun c488 => ?_) (fun c488 => ?_)
    · have hq := ifne hq c488
      exact b_888 γ _ _ _ _ _ (lv_sub hl [] rfl) hH hS (by omega) (by omega) hq
    · have hq := ifpe hq c488
      refine lv_aload_n hx hb dL_foil_696 rfl (lv_at hl 0 rfl) ?_
      refine lv_iconst (v := 2) hx hb dL_foil_697 (by decide) ?_
      refine lv_iconst (v := 1) hx hb dL_foil_698 (by decide) ?_
      refine lv_iconst (v := 0) hx hb dL_foil_699 (by decide) ?_
      refine lv_bipush (v := 49) hx hb dL_foil_700 (by decide) ?_
      refine lv_iconst (v := 0) hx hb dL_foil_702 (by decide) ?_
      refine lv_iconst (v := 0) hx hb dL_foil_703 (by decide) ?_
      refine e_callW (rest := []) hC hl hH hS (c_L_call l hfl κ γ 2 1 0 49 0 0) tw_430 tw_431 tw_37 tw_432 hd_L_call ⟨Nat.le_of_ble_eq_true rfl, Nat.le_of_ble_eq_true rfl⟩ rfl rfl rfl rfl (Nat.le_of_ble_eq_true rfl) dL_foil_704 ⟨by show _ ≤ 1075; omega, by show _ ≤ 21490; omega⟩ rfl (fun H locs hH hS => ?_)
      exact b_707 ((x_L_call 2 1 0 49 0 0 γ).1) (x_L_call 2 1 0 49 0 0 γ).2 _ _ _ _ _ (lv_sub hl [0] rfl) hH hS (by omega) (by omega) hq
  have b_681 : ∀ (s0 : Int32) (γ : St) (H : Heap) (locs : List Loc) (ls : Array Slot) (cells slots : Nat), lv_has ls 2 [(0, .ref (kA κ 7 0))] → HE κ γ H → va_S (AA κ) s.heap H locs → cells + (648) ≤ 1075 → slots + (13852) ≤ 21490 → x_L_foil_681 s0 γ = res → W p l e (headSpec [Cond.code yL_foil cL_foil 2 (some .boolean)] ({ frames := 11, cells := 1075, slots := 21490, locals := 241 } : Room)).room s m ([.ref (kA κ 7 0)] : List Value).toArray below meth c H locs cells slots (MQ below (QL κ res.2.2 (some (.int res.2.1))) ([.ref (kA κ 7 0)] : List Value).toArray s 1075 21490 (AA κ)) (F0 m 681 ls [.int s0]) := by
    intro s0 γ H locs ls cells slots hl hH hS hc1 hc2 hq
    refine lv_if_eq (tgt := 888) hx hb dL_foil_681 (by decide) (fun c489 => ?_) (fun c489 => ?_)
    · have hq := ifpe hq c489
      exact b_888 γ _ _ _ _ _ (lv_sub hl [] rfl) hH hS (by omega) (by omega) hq
    · have hq := ifne hq c489
      refine lv_aload_n hx hb dL_foil_684 rfl (lv_at hl 0 rfl) ?_
      refine lv_iconst (v := 1) hx hb dL_foil_685 (by decide) ?_
      refine lv_iconst (v := 0) hx hb dL_foil_686 (by decide) ?_
      refine lv_bipush (v := 50) hx hb dL_foil_687 (by decide) ?_
      refine e_xcallV (rest := []) hC hl hH hS (co_act l hfl κ γ 1 0 50) tw_517 tw_518 tw_519 tw_38 tw_520 hd_X7_act ⟨Nat.le_of_ble_eq_true rfl, Nat.le_of_ble_eq_true rfl⟩ rfl rfl rfl rfl (Nat.le_of_ble_eq_true rfl) dL_foil_689 ⟨by show _ ≤ 1075; omega, by show _ ≤ 21490; omega⟩ rfl (fun he490 ce q9 H locs hH hS hce hcv hcl => ?_) (fun he490 H locs hH hS => ?_)
      · exact flag_bad (ifne hq he490) hk
      have hq := ifpe hq he490
      exact b_692 ((x_X7_act 1 0 50 γ).2.1) (x_X7_act 1 0 50 γ).2.2 _ _ _ _ _ (lv_sub hl [0] rfl) hH hS (by omega) (by omega) hq
  have b_667 : ∀ (s0 : Int32) (γ : St) (H : Heap) (locs : List Loc) (ls : Array Slot) (cells slots : Nat), lv_has ls 2 [(0, .ref (kA κ 7 0))] → HE κ γ H → va_S (AA κ) s.heap H locs → cells + (652) ≤ 1075 → slots + (13876) ≤ 21490 → x_L_foil_667 s0 γ = res → W p l e (headSpec [Cond.code yL_foil cL_foil 2 (some .boolean)] ({ frames := 11, cells := 1075, slots := 21490, locals := 241 } : Room)).room s m ([.ref (kA κ 7 0)] : List Value).toArray below meth c H locs cells slots (MQ below (QL κ res.2.2 (some (.int res.2.1))) ([.ref (kA κ 7 0)] : List Value).toArray s 1075 21490 (AA κ)) (F0 m 667 ls [.int s0]) := by
    intro s0 γ H locs ls cells slots hl hH hS hc1 hc2 hq
    refine lv_bipush (v := (-73)) hx hb dL_foil_667 (by decide) ?_
    refine lv_icmp_ne (tgt := 888) hx hb dL_foil_669 (by decide) (fun c491 => ?_) (fun c491 => ?_)
    · have hq := ifne hq c491
      exact b_888 γ _ _ _ _ _ (lv_sub hl [] rfl) hH hS (by omega) (by omega) hq
    · have hq := ifpe hq c491
      refine lv_aload_n hx hb dL_foil_672 rfl (lv_at hl 0 rfl) ?_
      refine lv_iconst (v := (-1)) hx hb dL_foil_673 (by decide) ?_
      refine lv_iconst (v := (-1)) hx hb dL_foil_674 (by decide) ?_
      refine lv_iconst (v := (-1)) hx hb dL_foil_675 (by decide) ?_
      refine lv_iconst (v := 0) hx hb dL_foil_676 (by decide) ?_
      refine lv_iconst (v := 0) hx hb dL_foil_677 (by decide) ?_
      by_cases he492 : (x_L_judged ((-1)) ((-1)) ((-1)) 0 0 γ).1 = 0
      rotate_left
      · exact flag_bad (ifne hq he492) hk
      have hq := ifpe hq he492
      refine e_callS (rest := []) hC hl hH hS (c_L_judged l hfl κ γ ((-1)) ((-1)) ((-1)) 0 0 he492) tw_853 tw_854 tw_37 tw_855 hd_L_judged ⟨Nat.le_of_ble_eq_true rfl, Nat.le_of_ble_eq_true rfl⟩ rfl rfl rfl rfl (Nat.le_of_ble_eq_true rfl) dL_foil_678 ⟨by show _ ≤ 1075; omega, by show _ ≤ 21490; omega⟩ rfl (fun H locs hH hS => ?_)
      exact b_681 ((x_L_judged ((-1)) ((-1)) ((-1)) 0 0 γ).2.1) (x_L_judged ((-1)) ((-1)) ((-1)) 0 0 γ).2.2 _ _ _ _ _ (lv_sub hl [0] rfl) hH hS (by omega) (by omega) hq
  have b_611 : ∀ (k611 : Nat) (a1 : Int32) (γ : St) (H : Heap) (locs : List Loc) (ls : Array Slot) (cells slots : Nat), lv_has ls 2 [(0, .ref (kA κ 7 0)), (1, .int a1)] → HE κ γ H → va_S (AA κ) s.heap H locs → cells + (655 + 3 * k611) ≤ 1075 → slots + (13941 + 65 * k611) ≤ 21490 → x_L_foil_611 k611 a1 γ = res → W p l e (headSpec [Cond.code yL_foil cL_foil 2 (some .boolean)] ({ frames := 11, cells := 1075, slots := 21490, locals := 241 } : Room)).room s m ([.ref (kA κ 7 0)] : List Value).toArray below meth c H locs cells slots (MQ below (QL κ res.2.2 (some (.int res.2.1))) ([.ref (kA κ 7 0)] : List Value).toArray s 1075 21490 (AA κ)) (F0 m 611 ls []) := by
    intro k611
    induction k611 with
    | zero =>
      intro a1 γ H locs ls cells slots hl hH hS hc1 hc2 hq
      exact flag_bad hq hk
    | succ k611 ih_611 =>
      have b_644 : ∀ (a1 : Int32) (s0 : Int32) (s1 : Int32) (γ : St) (H : Heap) (locs : List Loc) (ls : Array Slot) (cells slots : Nat), lv_has ls 2 [(0, .ref (kA κ 7 0)), (1, .int a1)] → HE κ γ H → va_S (AA κ) s.heap H locs → cells + (655 + 3 * k611) ≤ 1075 → slots + (13941 + 65 * k611) ≤ 21490 → x_L_foil_644 (x_L_foil_611 k611) a1 s0 s1 γ = res → W p l e (headSpec [Cond.code yL_foil cL_foil 2 (some .boolean)] ({ frames := 11, cells := 1075, slots := 21490, locals := 241 } : Room)).room s m ([.ref (kA κ 7 0)] : List Value).toArray below meth c H locs cells slots (MQ below (QL κ res.2.2 (some (.int res.2.1))) ([.ref (kA κ 7 0)] : List Value).toArray s 1075 21490 (AA κ)) (F0 m 644 ls [.int s0, .int s1]) := by
        intro a1 s0 s1 γ H locs ls cells slots hl hH hS hc1 hc2 hq
        refine lv_icmp_eq (tgt := 649) hx hb dL_foil_644 (by decide) (fun c493 => ?_) (fun c493 => ?_)
        · have hq := ifpe hq c493
          refine lv_iinc (v := a1 + 1) (lv' := [(1, .int (a1 + 1)), (0, .ref (kA κ 7 0))]) hx hb dL_foil_649 hl (k := 1) rfl rfl (by decide) rfl (fun ls hl => ?_)
          refine lv_goto (tgt := 611) hx hb dL_foil_652 (by decide) ?_
          exact ih_611 (a1 + 1) γ _ _ _ _ _ (lv_sub hl [1, 0] rfl) hH hS (by omega) (by omega) hq
        · have hq := ifne hq c493
          refine lv_iconst (v := 0) hx hb dL_foil_647 (by decide) ?_
          subst hq
          exact er_z hC hr rfl hH hS rfl rfl (by omega) (by omega) dL_foil_648
      have b_630 : ∀ (a1 : Int32) (s0 : Int32) (γ : St) (H : Heap) (locs : List Loc) (ls : Array Slot) (cells slots : Nat), lv_has ls 2 [(0, .ref (kA κ 7 0)), (1, .int a1)] → HE κ γ H → va_S (AA κ) s.heap H locs → cells + (655 + 3 * k611) ≤ 1075 → slots + (13941 + 65 * k611) ≤ 21490 → x_L_foil_630 (x_L_foil_611 k611) a1 s0 γ = res → W p l e (headSpec [Cond.code yL_foil cL_foil 2 (some .boolean)] ({ frames := 11, cells := 1075, slots := 21490, locals := 241 } : Room)).room s m ([.ref (kA κ 7 0)] : List Value).toArray below meth c H locs cells slots (MQ below (QL κ res.2.2 (some (.int res.2.1))) ([.ref (kA κ 7 0)] : List Value).toArray s 1075 21490 (AA κ)) (F0 m 630 ls [.int s0]) := by
        intro a1 s0 γ H locs ls cells slots hl hH hS hc1 hc2 hq
        refine lv_iload_n hx hb dL_foil_630 rfl (lv_at hl 1 rfl) ?_
        refine lv_bipush (v := 24) hx hb dL_foil_631 (by decide) ?_
        refine lv_icmp_ge (tgt := 642) hx hb dL_foil_633 (by decide) (fun c494 => ?_) (fun c494 => ?_)
        · have hq := ifpe hq c494
          refine lv_bipush (v := (-73)) hx hb dL_foil_642 (by decide) ?_
          exact b_644 a1 ((-73)) s0 γ _ _ _ _ _ (lv_sub hl [0, 1] rfl) hH hS (by omega) (by omega) hq
        · have hq := ifne hq c494
          refine lv_iload_n hx hb dL_foil_636 rfl (lv_at hl 1 rfl) ?_
          refine lv_iconst (v := 1) hx hb dL_foil_637 (by decide) ?_
          refine lv_iadd hx hb dL_foil_638 ?_
          refine lv_goto (tgt := 644) hx hb dL_foil_639 (by decide) ?_
          exact b_644 a1 (a1 + 1) s0 γ _ _ _ _ _ (lv_sub hl [0, 1] rfl) hH hS (by omega) (by omega) hq
      intro a1 γ H locs ls cells slots hl hH hS hc1 hc2 hq
      refine lv_iload_n hx hb dL_foil_611 rfl (lv_at hl 1 rfl) ?_
      refine lv_bipush (v := 25) hx hb dL_foil_612 (by decide) ?_
      refine lv_icmp_ge (tgt := 655) hx hb dL_foil_614 (by decide) (fun c495 => ?_) (fun c495 => ?_)
      · have hq := ifpe hq c495
        refine lv_aload_n hx hb dL_foil_655 rfl (lv_at hl 0 rfl) ?_
        refine lv_iconst (v := 3) hx hb dL_foil_656 (by decide) ?_
        refine lv_iconst (v := 0) hx hb dL_foil_657 (by decide) ?_
        refine lv_bipush (v := 99) hx hb dL_foil_658 (by decide) ?_
        refine lv_bipush (v := 20) hx hb dL_foil_660 (by decide) ?_
        refine lv_iconst (v := 0) hx hb dL_foil_662 (by decide) ?_
        refine lv_iconst (v := 0) hx hb dL_foil_663 (by decide) ?_
        refine e_callW (rest := []) hC hl hH hS (c_L_call l hfl κ γ 3 0 99 20 0 0) tw_430 tw_431 tw_37 tw_432 hd_L_call ⟨Nat.le_of_ble_eq_true rfl, Nat.le_of_ble_eq_true rfl⟩ rfl rfl rfl rfl (Nat.le_of_ble_eq_true rfl) dL_foil_664 ⟨by show _ ≤ 1075; omega, by show _ ≤ 21490; omega⟩ rfl (fun H locs hH hS => ?_)
        exact b_667 ((x_L_call 3 0 99 20 0 0 γ).1) (x_L_call 3 0 99 20 0 0 γ).2 _ _ _ _ _ (lv_sub hl [0] rfl) hH hS (by omega) (by omega) hq
      · have hq := ifne hq c495
        refine lv_aload_n hx hb dL_foil_617 rfl (lv_at hl 0 rfl) ?_
        refine lv_iconst (v := 2) hx hb dL_foil_618 (by decide) ?_
        refine lv_iload_n hx hb dL_foil_619 rfl (lv_at hl 1 rfl) ?_
        refine lv_iconst (v := 2) hx hb dL_foil_620 (by decide) ?_
        refine lv_irem hx hb dL_foil_621 (by decide) ?_
        refine lv_bipush (v := 6) hx hb dL_foil_622 (by decide) ?_
        refine lv_iload_n hx hb dL_foil_624 rfl (lv_at hl 1 rfl) ?_
        refine lv_iconst (v := 0) hx hb dL_foil_625 (by decide) ?_
        refine lv_iconst (v := 0) hx hb dL_foil_626 (by decide) ?_
        refine e_callW (rest := []) hC hl hH hS (c_L_call l hfl κ γ 2 (a1 - a1 / 2 * 2) 6 a1 0 0) tw_430 tw_431 tw_37 tw_432 hd_L_call ⟨Nat.le_of_ble_eq_true rfl, Nat.le_of_ble_eq_true rfl⟩ rfl rfl rfl rfl (Nat.le_of_ble_eq_true rfl) dL_foil_627 ⟨by show _ ≤ 1075; omega, by show _ ≤ 21490; omega⟩ rfl (fun H locs hH hS => ?_)
        exact b_630 a1 ((x_L_call 2 (a1 - a1 / 2 * 2) 6 a1 0 0 γ).1) (x_L_call 2 (a1 - a1 / 2 * 2) 6 a1 0 0 γ).2 _ _ _ _ _ (lv_sub hl [0, 1] rfl) hH hS (by omega) (by omega) hq
  have b_604 : ∀ (s0 : Int32) (γ : St) (H : Heap) (locs : List Loc) (ls : Array Slot) (cells slots : Nat), lv_has ls 2 [(0, .ref (kA κ 7 0))] → HE κ γ H → va_S (AA κ) s.heap H locs → cells + (733) ≤ 1075 → slots + (15631) ≤ 21490 → x_L_foil_604 s0 γ = res → W p l e (headSpec [Cond.code yL_foil cL_foil 2 (some .boolean)] ({ frames := 11, cells := 1075, slots := 21490, locals := 241 } : Room)).room s m ([.ref (kA κ 7 0)] : List Value).toArray below meth c H locs cells slots (MQ below (QL κ res.2.2 (some (.int res.2.1))) ([.ref (kA κ 7 0)] : List Value).toArray s 1075 21490 (AA κ)) (F0 m 604 ls [.int s0]) := by
    intro s0 γ H locs ls cells slots hl hH hS hc1 hc2 hq
    refine lv_if_ne (tgt := 609) hx hb dL_foil_604 (by decide) (fun c496 => ?_) (fun c496 => ?_)
    · have hq := ifne hq c496
      refine lv_iconst (v := 0) hx hb dL_foil_609 (by decide) ?_
      refine lv_istore_n (lv' := [(1, .int 0), (0, .ref (kA κ 7 0))]) hx hb dL_foil_610 rfl hl (by decide) rfl (fun ls hl => ?_)
      exact b_611 26 0 γ _ _ _ _ _ (lv_sub hl [1, 0] rfl) hH hS (by omega) (by omega) hq
    · have hq := ifpe hq c496
      exact b_607 γ _ _ _ _ _ (lv_sub hl [] rfl) hH hS (by omega) (by omega) hq
  have b_591 : ∀ (s0 : Int32) (γ : St) (H : Heap) (locs : List Loc) (ls : Array Slot) (cells slots : Nat), lv_has ls 2 [(0, .ref (kA κ 7 0))] → HE κ γ H → va_S (AA κ) s.heap H locs → cells + (737) ≤ 1075 → slots + (15655) ≤ 21490 → x_L_foil_591 s0 γ = res → W p l e (headSpec [Cond.code yL_foil cL_foil 2 (some .boolean)] ({ frames := 11, cells := 1075, slots := 21490, locals := 241 } : Room)).room s m ([.ref (kA κ 7 0)] : List Value).toArray below meth c H locs cells slots (MQ below (QL κ res.2.2 (some (.int res.2.1))) ([.ref (kA κ 7 0)] : List Value).toArray s 1075 21490 (AA κ)) (F0 m 591 ls [.int s0]) := by
    intro s0 γ H locs ls cells slots hl hH hS hc1 hc2 hq
    refine lv_if_eq (tgt := 607) hx hb dL_foil_591 (by decide) (fun c497 => ?_) (fun c497 => ?_)
    · have hq := ifpe hq c497
      exact b_607 γ _ _ _ _ _ (lv_sub hl [] rfl) hH hS (by omega) (by omega) hq
    · have hq := ifne hq c497
      refine lv_aload_n hx hb dL_foil_594 rfl (lv_at hl 0 rfl) ?_
      refine lv_iconst (v := 1) hx hb dL_foil_595 (by decide) ?_
      refine lv_iconst (v := 1) hx hb dL_foil_596 (by decide) ?_
      refine lv_iconst (v := 0) hx hb dL_foil_597 (by decide) ?_
      refine lv_iconst (v := 2) hx hb dL_foil_598 (by decide) ?_
      refine lv_bipush (v := 6) hx hb dL_foil_599 (by decide) ?_
      by_cases he498 : (x_L_judged 1 1 0 2 6 γ).1 = 0
      rotate_left
      · exact flag_bad (ifne hq he498) hk
      have hq := ifpe hq he498
      refine e_callS (rest := []) hC hl hH hS (c_L_judged l hfl κ γ 1 1 0 2 6 he498) tw_853 tw_854 tw_37 tw_855 hd_L_judged ⟨Nat.le_of_ble_eq_true rfl, Nat.le_of_ble_eq_true rfl⟩ rfl rfl rfl rfl (Nat.le_of_ble_eq_true rfl) dL_foil_601 ⟨by show _ ≤ 1075; omega, by show _ ≤ 21490; omega⟩ rfl (fun H locs hH hS => ?_)
      exact b_604 ((x_L_judged 1 1 0 2 6 γ).2.1) (x_L_judged 1 1 0 2 6 γ).2.2 _ _ _ _ _ (lv_sub hl [0] rfl) hH hS (by omega) (by omega) hq
  have b_577 : ∀ (s0 : Int32) (γ : St) (H : Heap) (locs : List Loc) (ls : Array Slot) (cells slots : Nat), lv_has ls 2 [(0, .ref (kA κ 7 0))] → HE κ γ H → va_S (AA κ) s.heap H locs → cells + (749) ≤ 1075 → slots + (15915) ≤ 21490 → x_L_foil_577 s0 γ = res → W p l e (headSpec [Cond.code yL_foil cL_foil 2 (some .boolean)] ({ frames := 11, cells := 1075, slots := 21490, locals := 241 } : Room)).room s m ([.ref (kA κ 7 0)] : List Value).toArray below meth c H locs cells slots (MQ below (QL κ res.2.2 (some (.int res.2.1))) ([.ref (kA κ 7 0)] : List Value).toArray s 1075 21490 (AA κ)) (F0 m 577 ls [.int s0]) := by
    intro s0 γ H locs ls cells slots hl hH hS hc1 hc2 hq
    refine lv_if_eq (tgt := 607) hx hb dL_foil_577 (by decide) (fun c499 => ?_) (fun c499 => ?_)
    · have hq := ifpe hq c499
      exact b_607 γ _ _ _ _ _ (lv_sub hl [] rfl) hH hS (by omega) (by omega) hq
    · have hq := ifne hq c499
      refine lv_aload_n hx hb dL_foil_580 rfl (lv_at hl 0 rfl) ?_
      refine lv_ldc (v := 100000000) hx hb hown (hT _ tw_864) dL_foil_581 ?_
      refine lv_ldc (v := 80000014) hx hb hown (hT _ tw_904) dL_foil_583 ?_
      refine lv_ldc (v := 171600014) hx hb hown (hT _ tw_905) dL_foil_585 ?_
      refine lv_iconst (v := (-1)) hx hb dL_foil_587 (by decide) ?_
      by_cases he500 : (x_L_phrase 100000000 80000014 171600014 ((-1)) γ).1 = 0
      rotate_left
      · exact flag_bad (ifne hq he500) hk
      have hq := ifpe hq he500
      refine e_callS (rest := []) hC hl hH hS (c_L_phrase l hfl κ γ 100000000 80000014 171600014 ((-1)) he500) tw_858 tw_859 tw_37 tw_860 hd_L_phrase ⟨Nat.le_of_ble_eq_true rfl, Nat.le_of_ble_eq_true rfl⟩ rfl rfl rfl rfl (Nat.le_of_ble_eq_true rfl) dL_foil_588 ⟨by show _ ≤ 1075; omega, by show _ ≤ 21490; omega⟩ rfl (fun H locs hH hS => ?_)
      exact b_591 ((x_L_phrase 100000000 80000014 171600014 ((-1)) γ).2.1) (x_L_phrase 100000000 80000014 171600014 ((-1)) γ).2.2 _ _ _ _ _ (lv_sub hl [0] rfl) hH hS (by omega) (by omega) hq
  have b_565 : ∀ (s0 : Int32) (γ : St) (H : Heap) (locs : List Loc) (ls : Array Slot) (cells slots : Nat), lv_has ls 2 [(0, .ref (kA κ 7 0))] → HE κ γ H → va_S (AA κ) s.heap H locs → cells + (753) ≤ 1075 → slots + (15939) ≤ 21490 → x_L_foil_565 s0 γ = res → W p l e (headSpec [Cond.code yL_foil cL_foil 2 (some .boolean)] ({ frames := 11, cells := 1075, slots := 21490, locals := 241 } : Room)).room s m ([.ref (kA κ 7 0)] : List Value).toArray below meth c H locs cells slots (MQ below (QL κ res.2.2 (some (.int res.2.1))) ([.ref (kA κ 7 0)] : List Value).toArray s 1075 21490 (AA κ)) (F0 m 565 ls [.int s0]) := by
    intro s0 γ H locs ls cells slots hl hH hS hc1 hc2 hq
    refine lv_if_eq (tgt := 607) hx hb dL_foil_565 (by decide) (fun c501 => ?_) (fun c501 => ?_)
    · have hq := ifpe hq c501
      exact b_607 γ _ _ _ _ _ (lv_sub hl [] rfl) hH hS (by omega) (by omega) hq
    · have hq := ifne hq c501
      refine lv_aload_n hx hb dL_foil_568 rfl (lv_at hl 0 rfl) ?_
      refine lv_iconst (v := 1) hx hb dL_foil_569 (by decide) ?_
      refine lv_iconst (v := 0) hx hb dL_foil_570 (by decide) ?_
      refine lv_iconst (v := 1) hx hb dL_foil_571 (by decide) ?_
      refine lv_iconst (v := 0) hx hb dL_foil_572 (by decide) ?_
      refine lv_iconst (v := 2) hx hb dL_foil_573 (by decide) ?_
      by_cases he502 : (x_L_judged 1 0 1 0 2 γ).1 = 0
      rotate_left
      · exact flag_bad (ifne hq he502) hk
      have hq := ifpe hq he502
      refine e_callS (rest := []) hC hl hH hS (c_L_judged l hfl κ γ 1 0 1 0 2 he502) tw_853 tw_854 tw_37 tw_855 hd_L_judged ⟨Nat.le_of_ble_eq_true rfl, Nat.le_of_ble_eq_true rfl⟩ rfl rfl rfl rfl (Nat.le_of_ble_eq_true rfl) dL_foil_574 ⟨by show _ ≤ 1075; omega, by show _ ≤ 21490; omega⟩ rfl (fun H locs hH hS => ?_)
      exact b_577 ((x_L_judged 1 0 1 0 2 γ).2.1) (x_L_judged 1 0 1 0 2 γ).2.2 _ _ _ _ _ (lv_sub hl [0] rfl) hH hS (by omega) (by omega) hq
  have b_551 : ∀ (s0 : Int32) (γ : St) (H : Heap) (locs : List Loc) (ls : Array Slot) (cells slots : Nat), lv_has ls 2 [(0, .ref (kA κ 7 0))] → HE κ γ H → va_S (AA κ) s.heap H locs → cells + (765) ≤ 1075 → slots + (16199) ≤ 21490 → x_L_foil_551 s0 γ = res → W p l e (headSpec [Cond.code yL_foil cL_foil 2 (some .boolean)] ({ frames := 11, cells := 1075, slots := 21490, locals := 241 } : Room)).room s m ([.ref (kA κ 7 0)] : List Value).toArray below meth c H locs cells slots (MQ below (QL κ res.2.2 (some (.int res.2.1))) ([.ref (kA κ 7 0)] : List Value).toArray s 1075 21490 (AA κ)) (F0 m 551 ls [.int s0]) := by
    intro s0 γ H locs ls cells slots hl hH hS hc1 hc2 hq
    refine lv_if_eq (tgt := 607) hx hb dL_foil_551 (by decide) (fun c503 => ?_) (fun c503 => ?_)
    · have hq := ifpe hq c503
      exact b_607 γ _ _ _ _ _ (lv_sub hl [] rfl) hH hS (by omega) (by omega) hq
    · have hq := ifne hq c503
      refine lv_aload_n hx hb dL_foil_554 rfl (lv_at hl 0 rfl) ?_
      refine lv_ldc (v := 100000000) hx hb hown (hT _ tw_864) dL_foil_555 ?_
      refine lv_ldc (v := 180000014) hx hb hown (hT _ tw_902) dL_foil_557 ?_
      refine lv_ldc (v := 73000014) hx hb hown (hT _ tw_903) dL_foil_559 ?_
      refine lv_iconst (v := (-1)) hx hb dL_foil_561 (by decide) ?_
      by_cases he504 : (x_L_phrase 100000000 180000014 73000014 ((-1)) γ).1 = 0
      rotate_left
      · exact flag_bad (ifne hq he504) hk
      have hq := ifpe hq he504
      refine e_callS (rest := []) hC hl hH hS (c_L_phrase l hfl κ γ 100000000 180000014 73000014 ((-1)) he504) tw_858 tw_859 tw_37 tw_860 hd_L_phrase ⟨Nat.le_of_ble_eq_true rfl, Nat.le_of_ble_eq_true rfl⟩ rfl rfl rfl rfl (Nat.le_of_ble_eq_true rfl) dL_foil_562 ⟨by show _ ≤ 1075; omega, by show _ ≤ 21490; omega⟩ rfl (fun H locs hH hS => ?_)
      exact b_565 ((x_L_phrase 100000000 180000014 73000014 ((-1)) γ).2.1) (x_L_phrase 100000000 180000014 73000014 ((-1)) γ).2.2 _ _ _ _ _ (lv_sub hl [0] rfl) hH hS (by omega) (by omega) hq
  have b_536 : ∀ (s0 : Int32) (γ : St) (H : Heap) (locs : List Loc) (ls : Array Slot) (cells slots : Nat), lv_has ls 2 [(0, .ref (kA κ 7 0))] → HE κ γ H → va_S (AA κ) s.heap H locs → cells + (771) ≤ 1075 → slots + (16235) ≤ 21490 → x_L_foil_536 s0 γ = res → W p l e (headSpec [Cond.code yL_foil cL_foil 2 (some .boolean)] ({ frames := 11, cells := 1075, slots := 21490, locals := 241 } : Room)).room s m ([.ref (kA κ 7 0)] : List Value).toArray below meth c H locs cells slots (MQ below (QL κ res.2.2 (some (.int res.2.1))) ([.ref (kA κ 7 0)] : List Value).toArray s 1075 21490 (AA κ)) (F0 m 536 ls [.int s0]) := by
    intro s0 γ H locs ls cells slots hl hH hS hc1 hc2 hq
    refine lv_if_eq (tgt := 607) hx hb dL_foil_536 (by decide) (fun c505 => ?_) (fun c505 => ?_)
    · have hq := ifpe hq c505
      exact b_607 γ _ _ _ _ _ (lv_sub hl [] rfl) hH hS (by omega) (by omega) hq
    · have hq := ifne hq c505
      refine lv_aload_n hx hb dL_foil_539 rfl (lv_at hl 0 rfl) ?_
      refine lv_iconst (v := 0) hx hb dL_foil_540 (by decide) ?_
      refine lv_bipush (v := 7) hx hb dL_foil_541 (by decide) ?_
      refine lv_iconst (v := 2) hx hb dL_foil_543 (by decide) ?_
      refine lv_iconst (v := (-1)) hx hb dL_foil_544 (by decide) ?_
      refine lv_iconst (v := 0) hx hb dL_foil_545 (by decide) ?_
      refine lv_iconst (v := 0) hx hb dL_foil_546 (by decide) ?_
      refine lv_iconst (v := (-1)) hx hb dL_foil_547 (by decide) ?_
      by_cases he506 : (x_L_bout 0 7 2 ((-1)) 0 0 ((-1)) γ).1 = 0
      rotate_left
      · exact flag_bad (ifne hq he506) hk
      have hq := ifpe hq he506
      refine e_callS (rest := []) hC hl hH hS (c_L_bout l hfl κ γ 0 7 2 ((-1)) 0 0 ((-1)) he506) tw_880 tw_881 tw_37 tw_882 hd_L_bout ⟨Nat.le_of_ble_eq_true rfl, Nat.le_of_ble_eq_true rfl⟩ rfl rfl rfl rfl (Nat.le_of_ble_eq_true rfl) dL_foil_548 ⟨by show _ ≤ 1075; omega, by show _ ≤ 21490; omega⟩ rfl (fun H locs hH hS => ?_)
      exact b_551 ((x_L_bout 0 7 2 ((-1)) 0 0 ((-1)) γ).2.1) (x_L_bout 0 7 2 ((-1)) 0 0 ((-1)) γ).2.2 _ _ _ _ _ (lv_sub hl [0] rfl) hH hS (by omega) (by omega) hq
  have b_524 : ∀ (s0 : Int32) (γ : St) (H : Heap) (locs : List Loc) (ls : Array Slot) (cells slots : Nat), lv_has ls 2 [(0, .ref (kA κ 7 0))] → HE κ γ H → va_S (AA κ) s.heap H locs → cells + (775) ≤ 1075 → slots + (16259) ≤ 21490 → x_L_foil_524 s0 γ = res → W p l e (headSpec [Cond.code yL_foil cL_foil 2 (some .boolean)] ({ frames := 11, cells := 1075, slots := 21490, locals := 241 } : Room)).room s m ([.ref (kA κ 7 0)] : List Value).toArray below meth c H locs cells slots (MQ below (QL κ res.2.2 (some (.int res.2.1))) ([.ref (kA κ 7 0)] : List Value).toArray s 1075 21490 (AA κ)) (F0 m 524 ls [.int s0]) := by
    intro s0 γ H locs ls cells slots hl hH hS hc1 hc2 hq
    refine lv_if_eq (tgt := 607) hx hb dL_foil_524 (by decide) (fun c507 => ?_) (fun c507 => ?_)
    · have hq := ifpe hq c507
      exact b_607 γ _ _ _ _ _ (lv_sub hl [] rfl) hH hS (by omega) (by omega) hq
    · have hq := ifne hq c507
      refine lv_aload_n hx hb dL_foil_527 rfl (lv_at hl 0 rfl) ?_
      refine lv_iconst (v := (-1)) hx hb dL_foil_528 (by decide) ?_
      refine lv_iconst (v := 0) hx hb dL_foil_529 (by decide) ?_
      refine lv_iconst (v := (-1)) hx hb dL_foil_530 (by decide) ?_
      refine lv_iconst (v := 1) hx hb dL_foil_531 (by decide) ?_
      refine lv_iconst (v := 1) hx hb dL_foil_532 (by decide) ?_
      by_cases he508 : (x_L_judged ((-1)) 0 ((-1)) 1 1 γ).1 = 0
      rotate_left
      · exact flag_bad (ifne hq he508) hk
      have hq := ifpe hq he508
      refine e_callS (rest := []) hC hl hH hS (c_L_judged l hfl κ γ ((-1)) 0 ((-1)) 1 1 he508) tw_853 tw_854 tw_37 tw_855 hd_L_judged ⟨Nat.le_of_ble_eq_true rfl, Nat.le_of_ble_eq_true rfl⟩ rfl rfl rfl rfl (Nat.le_of_ble_eq_true rfl) dL_foil_533 ⟨by show _ ≤ 1075; omega, by show _ ≤ 21490; omega⟩ rfl (fun H locs hH hS => ?_)
      exact b_536 ((x_L_judged ((-1)) 0 ((-1)) 1 1 γ).2.1) (x_L_judged ((-1)) 0 ((-1)) 1 1 γ).2.2 _ _ _ _ _ (lv_sub hl [0] rfl) hH hS (by omega) (by omega) hq
  have b_511 : ∀ (s0 : Int32) (γ : St) (H : Heap) (locs : List Loc) (ls : Array Slot) (cells slots : Nat), lv_has ls 2 [(0, .ref (kA κ 7 0))] → HE κ γ H → va_S (AA κ) s.heap H locs → cells + (787) ≤ 1075 → slots + (16519) ≤ 21490 → x_L_foil_511 s0 γ = res → W p l e (headSpec [Cond.code yL_foil cL_foil 2 (some .boolean)] ({ frames := 11, cells := 1075, slots := 21490, locals := 241 } : Room)).room s m ([.ref (kA κ 7 0)] : List Value).toArray below meth c H locs cells slots (MQ below (QL κ res.2.2 (some (.int res.2.1))) ([.ref (kA κ 7 0)] : List Value).toArray s 1075 21490 (AA κ)) (F0 m 511 ls [.int s0]) := by
    intro s0 γ H locs ls cells slots hl hH hS hc1 hc2 hq
    refine lv_if_eq (tgt := 607) hx hb dL_foil_511 (by decide) (fun c509 => ?_) (fun c509 => ?_)
    · have hq := ifpe hq c509
      exact b_607 γ _ _ _ _ _ (lv_sub hl [] rfl) hH hS (by omega) (by omega) hq
    · have hq := ifne hq c509
      refine lv_aload_n hx hb dL_foil_514 rfl (lv_at hl 0 rfl) ?_
      refine lv_ldc (v := 70000014) hx hb hown (hT _ tw_900) dL_foil_515 ?_
      refine lv_ldc (v := 173010020) hx hb hown (hT _ tw_901) dL_foil_517 ?_
      refine lv_iconst (v := (-1)) hx hb dL_foil_519 (by decide) ?_
      refine lv_iconst (v := (-1)) hx hb dL_foil_520 (by decide) ?_
      by_cases he510 : (x_L_phrase 70000014 173010020 ((-1)) ((-1)) γ).1 = 0
      rotate_left
      · exact flag_bad (ifne hq he510) hk
      have hq := ifpe hq he510
      refine e_callS (rest := []) hC hl hH hS (c_L_phrase l hfl κ γ 70000014 173010020 ((-1)) ((-1)) he510) tw_858 tw_859 tw_37 tw_860 hd_L_phrase ⟨Nat.le_of_ble_eq_true rfl, Nat.le_of_ble_eq_true rfl⟩ rfl rfl rfl rfl (Nat.le_of_ble_eq_true rfl) dL_foil_521 ⟨by show _ ≤ 1075; omega, by show _ ≤ 21490; omega⟩ rfl (fun H locs hH hS => ?_)
      exact b_524 ((x_L_phrase 70000014 173010020 ((-1)) ((-1)) γ).2.1) (x_L_phrase 70000014 173010020 ((-1)) ((-1)) γ).2.2 _ _ _ _ _ (lv_sub hl [0] rfl) hH hS (by omega) (by omega) hq
  have b_498 : ∀ (s0 : Int32) (γ : St) (H : Heap) (locs : List Loc) (ls : Array Slot) (cells slots : Nat), lv_has ls 2 [(0, .ref (kA κ 7 0))] → HE κ γ H → va_S (AA κ) s.heap H locs → cells + (791) ≤ 1075 → slots + (16543) ≤ 21490 → x_L_foil_498 s0 γ = res → W p l e (headSpec [Cond.code yL_foil cL_foil 2 (some .boolean)] ({ frames := 11, cells := 1075, slots := 21490, locals := 241 } : Room)).room s m ([.ref (kA κ 7 0)] : List Value).toArray below meth c H locs cells slots (MQ below (QL κ res.2.2 (some (.int res.2.1))) ([.ref (kA κ 7 0)] : List Value).toArray s 1075 21490 (AA κ)) (F0 m 498 ls [.int s0]) := by
    intro s0 γ H locs ls cells slots hl hH hS hc1 hc2 hq
    refine lv_if_eq (tgt := 607) hx hb dL_foil_498 (by decide) (fun c511 => ?_) (fun c511 => ?_)
    · have hq := ifpe hq c511
      exact b_607 γ _ _ _ _ _ (lv_sub hl [] rfl) hH hS (by omega) (by omega) hq
    · have hq := ifne hq c511
      refine lv_aload_n hx hb dL_foil_501 rfl (lv_at hl 0 rfl) ?_
      refine lv_iconst (v := (-1)) hx hb dL_foil_502 (by decide) ?_
      refine lv_iconst (v := 0) hx hb dL_foil_503 (by decide) ?_
      refine lv_iconst (v := 0) hx hb dL_foil_504 (by decide) ?_
      refine lv_iconst (v := 1) hx hb dL_foil_505 (by decide) ?_
      refine lv_bipush (v := 6) hx hb dL_foil_506 (by decide) ?_
      by_cases he512 : (x_L_judged ((-1)) 0 0 1 6 γ).1 = 0
      rotate_left
      · exact flag_bad (ifne hq he512) hk
      have hq := ifpe hq he512
      refine e_callS (rest := []) hC hl hH hS (c_L_judged l hfl κ γ ((-1)) 0 0 1 6 he512) tw_853 tw_854 tw_37 tw_855 hd_L_judged ⟨Nat.le_of_ble_eq_true rfl, Nat.le_of_ble_eq_true rfl⟩ rfl rfl rfl rfl (Nat.le_of_ble_eq_true rfl) dL_foil_508 ⟨by show _ ≤ 1075; omega, by show _ ≤ 21490; omega⟩ rfl (fun H locs hH hS => ?_)
      exact b_511 ((x_L_judged ((-1)) 0 0 1 6 γ).2.1) (x_L_judged ((-1)) 0 0 1 6 γ).2.2 _ _ _ _ _ (lv_sub hl [0] rfl) hH hS (by omega) (by omega) hq
  have b_484 : ∀ (s0 : Int32) (γ : St) (H : Heap) (locs : List Loc) (ls : Array Slot) (cells slots : Nat), lv_has ls 2 [(0, .ref (kA κ 7 0))] → HE κ γ H → va_S (AA κ) s.heap H locs → cells + (803) ≤ 1075 → slots + (16803) ≤ 21490 → x_L_foil_484 s0 γ = res → W p l e (headSpec [Cond.code yL_foil cL_foil 2 (some .boolean)] ({ frames := 11, cells := 1075, slots := 21490, locals := 241 } : Room)).room s m ([.ref (kA κ 7 0)] : List Value).toArray below meth c H locs cells slots (MQ below (QL κ res.2.2 (some (.int res.2.1))) ([.ref (kA κ 7 0)] : List Value).toArray s 1075 21490 (AA κ)) (F0 m 484 ls [.int s0]) := by
    intro s0 γ H locs ls cells slots hl hH hS hc1 hc2 hq
    refine lv_if_eq (tgt := 607) hx hb dL_foil_484 (by decide) (fun c513 => ?_) (fun c513 => ?_)
    · have hq := ifpe hq c513
      exact b_607 γ _ _ _ _ _ (lv_sub hl [] rfl) hH hS (by omega) (by omega) hq
    · have hq := ifne hq c513
      refine lv_aload_n hx hb dL_foil_487 rfl (lv_at hl 0 rfl) ?_
      refine lv_iconst (v := 0) hx hb dL_foil_488 (by decide) ?_
      refine lv_ldc (v := 70050020) hx hb hown (hT _ tw_897) dL_foil_489 ?_
      refine lv_ldc (v := 170060020) hx hb hown (hT _ tw_898) dL_foil_491 ?_
      refine lv_ldc (v := 60070000) hx hb hown (hT _ tw_899) dL_foil_493 ?_
      by_cases he514 : (x_L_phrase 0 70050020 170060020 60070000 γ).1 = 0
      rotate_left
      · exact flag_bad (ifne hq he514) hk
      have hq := ifpe hq he514
      refine e_callS (rest := []) hC hl hH hS (c_L_phrase l hfl κ γ 0 70050020 170060020 60070000 he514) tw_858 tw_859 tw_37 tw_860 hd_L_phrase ⟨Nat.le_of_ble_eq_true rfl, Nat.le_of_ble_eq_true rfl⟩ rfl rfl rfl rfl (Nat.le_of_ble_eq_true rfl) dL_foil_495 ⟨by show _ ≤ 1075; omega, by show _ ≤ 21490; omega⟩ rfl (fun H locs hH hS => ?_)
      exact b_498 ((x_L_phrase 0 70050020 170060020 60070000 γ).2.1) (x_L_phrase 0 70050020 170060020 60070000 γ).2.2 _ _ _ _ _ (lv_sub hl [0] rfl) hH hS (by omega) (by omega) hq
  have b_471 : ∀ (s0 : Int32) (γ : St) (H : Heap) (locs : List Loc) (ls : Array Slot) (cells slots : Nat), lv_has ls 2 [(0, .ref (kA κ 7 0))] → HE κ γ H → va_S (AA κ) s.heap H locs → cells + (807) ≤ 1075 → slots + (16827) ≤ 21490 → x_L_foil_471 s0 γ = res → W p l e (headSpec [Cond.code yL_foil cL_foil 2 (some .boolean)] ({ frames := 11, cells := 1075, slots := 21490, locals := 241 } : Room)).room s m ([.ref (kA κ 7 0)] : List Value).toArray below meth c H locs cells slots (MQ below (QL κ res.2.2 (some (.int res.2.1))) ([.ref (kA κ 7 0)] : List Value).toArray s 1075 21490 (AA κ)) (F0 m 471 ls [.int s0]) := by
    intro s0 γ H locs ls cells slots hl hH hS hc1 hc2 hq
    refine lv_if_eq (tgt := 607) hx hb dL_foil_471 (by decide) (fun c515 => ?_) (fun c515 => ?_)
    · have hq := ifpe hq c515
      exact b_607 γ _ _ _ _ _ (lv_sub hl [] rfl) hH hS (by omega) (by omega) hq
    · have hq := ifne hq c515
      refine lv_aload_n hx hb dL_foil_474 rfl (lv_at hl 0 rfl) ?_
      refine lv_iconst (v := 1) hx hb dL_foil_475 (by decide) ?_
      refine lv_iconst (v := 0) hx hb dL_foil_476 (by decide) ?_
      refine lv_iconst (v := 0) hx hb dL_foil_477 (by decide) ?_
      refine lv_iconst (v := 2) hx hb dL_foil_478 (by decide) ?_
      refine lv_bipush (v := 6) hx hb dL_foil_479 (by decide) ?_
      by_cases he516 : (x_L_judged 1 0 0 2 6 γ).1 = 0
      rotate_left
      · exact flag_bad (ifne hq he516) hk
      have hq := ifpe hq he516
      refine e_callS (rest := []) hC hl hH hS (c_L_judged l hfl κ γ 1 0 0 2 6 he516) tw_853 tw_854 tw_37 tw_855 hd_L_judged ⟨Nat.le_of_ble_eq_true rfl, Nat.le_of_ble_eq_true rfl⟩ rfl rfl rfl rfl (Nat.le_of_ble_eq_true rfl) dL_foil_481 ⟨by show _ ≤ 1075; omega, by show _ ≤ 21490; omega⟩ rfl (fun H locs hH hS => ?_)
      exact b_484 ((x_L_judged 1 0 0 2 6 γ).2.1) (x_L_judged 1 0 0 2 6 γ).2.2 _ _ _ _ _ (lv_sub hl [0] rfl) hH hS (by omega) (by omega) hq
  have b_457 : ∀ (s0 : Int32) (γ : St) (H : Heap) (locs : List Loc) (ls : Array Slot) (cells slots : Nat), lv_has ls 2 [(0, .ref (kA κ 7 0))] → HE κ γ H → va_S (AA κ) s.heap H locs → cells + (819) ≤ 1075 → slots + (17087) ≤ 21490 → x_L_foil_457 s0 γ = res → W p l e (headSpec [Cond.code yL_foil cL_foil 2 (some .boolean)] ({ frames := 11, cells := 1075, slots := 21490, locals := 241 } : Room)).room s m ([.ref (kA κ 7 0)] : List Value).toArray below meth c H locs cells slots (MQ below (QL κ res.2.2 (some (.int res.2.1))) ([.ref (kA κ 7 0)] : List Value).toArray s 1075 21490 (AA κ)) (F0 m 457 ls [.int s0]) := by
    intro s0 γ H locs ls cells slots hl hH hS hc1 hc2 hq
    refine lv_if_eq (tgt := 607) hx hb dL_foil_457 (by decide) (fun c517 => ?_) (fun c517 => ?_)
    · have hq := ifpe hq c517
      exact b_607 γ _ _ _ _ _ (lv_sub hl [] rfl) hH hS (by omega) (by omega) hq
    · have hq := ifne hq c517
      refine lv_aload_n hx hb dL_foil_460 rfl (lv_at hl 0 rfl) ?_
      refine lv_ldc (v := 100000000) hx hb hown (hT _ tw_864) dL_foil_461 ?_
      refine lv_ldc (v := 70100020) hx hb hown (hT _ tw_894) dL_foil_463 ?_
      refine lv_ldc (v := 171590020) hx hb hown (hT _ tw_896) dL_foil_465 ?_
      refine lv_iconst (v := (-1)) hx hb dL_foil_467 (by decide) ?_
      by_cases he518 : (x_L_phrase 100000000 70100020 171590020 ((-1)) γ).1 = 0
      rotate_left
      · exact flag_bad (ifne hq he518) hk
      have hq := ifpe hq he518
      refine e_callS (rest := []) hC hl hH hS (c_L_phrase l hfl κ γ 100000000 70100020 171590020 ((-1)) he518) tw_858 tw_859 tw_37 tw_860 hd_L_phrase ⟨Nat.le_of_ble_eq_true rfl, Nat.le_of_ble_eq_true rfl⟩ rfl rfl rfl rfl (Nat.le_of_ble_eq_true rfl) dL_foil_468 ⟨by show _ ≤ 1075; omega, by show _ ≤ 21490; omega⟩ rfl (fun H locs hH hS => ?_)
      exact b_471 ((x_L_phrase 100000000 70100020 171590020 ((-1)) γ).2.1) (x_L_phrase 100000000 70100020 171590020 ((-1)) γ).2.2 _ _ _ _ _ (lv_sub hl [0] rfl) hH hS (by omega) (by omega) hq
  have b_445 : ∀ (s0 : Int32) (γ : St) (H : Heap) (locs : List Loc) (ls : Array Slot) (cells slots : Nat), lv_has ls 2 [(0, .ref (kA κ 7 0))] → HE κ γ H → va_S (AA κ) s.heap H locs → cells + (823) ≤ 1075 → slots + (17111) ≤ 21490 → x_L_foil_445 s0 γ = res → W p l e (headSpec [Cond.code yL_foil cL_foil 2 (some .boolean)] ({ frames := 11, cells := 1075, slots := 21490, locals := 241 } : Room)).room s m ([.ref (kA κ 7 0)] : List Value).toArray below meth c H locs cells slots (MQ below (QL κ res.2.2 (some (.int res.2.1))) ([.ref (kA κ 7 0)] : List Value).toArray s 1075 21490 (AA κ)) (F0 m 445 ls [.int s0]) := by
    intro s0 γ H locs ls cells slots hl hH hS hc1 hc2 hq
    refine lv_if_eq (tgt := 607) hx hb dL_foil_445 (by decide) (fun c519 => ?_) (fun c519 => ?_)
    · have hq := ifpe hq c519
      exact b_607 γ _ _ _ _ _ (lv_sub hl [] rfl) hH hS (by omega) (by omega) hq
    · have hq := ifne hq c519
      refine lv_aload_n hx hb dL_foil_448 rfl (lv_at hl 0 rfl) ?_
      refine lv_iconst (v := 1) hx hb dL_foil_449 (by decide) ?_
      refine lv_iconst (v := 0) hx hb dL_foil_450 (by decide) ?_
      refine lv_iconst (v := 0) hx hb dL_foil_451 (by decide) ?_
      refine lv_iconst (v := 1) hx hb dL_foil_452 (by decide) ?_
      refine lv_iconst (v := 5) hx hb dL_foil_453 (by decide) ?_
      by_cases he520 : (x_L_judged 1 0 0 1 5 γ).1 = 0
      rotate_left
      · exact flag_bad (ifne hq he520) hk
      have hq := ifpe hq he520
      refine e_callS (rest := []) hC hl hH hS (c_L_judged l hfl κ γ 1 0 0 1 5 he520) tw_853 tw_854 tw_37 tw_855 hd_L_judged ⟨Nat.le_of_ble_eq_true rfl, Nat.le_of_ble_eq_true rfl⟩ rfl rfl rfl rfl (Nat.le_of_ble_eq_true rfl) dL_foil_454 ⟨by show _ ≤ 1075; omega, by show _ ≤ 21490; omega⟩ rfl (fun H locs hH hS => ?_)
      exact b_457 ((x_L_judged 1 0 0 1 5 γ).2.1) (x_L_judged 1 0 0 1 5 γ).2.2 _ _ _ _ _ (lv_sub hl [0] rfl) hH hS (by omega) (by omega) hq
  have b_429 : ∀ (s0 : Int32) (γ : St) (H : Heap) (locs : List Loc) (ls : Array Slot) (cells slots : Nat), lv_has ls 2 [(0, .ref (kA κ 7 0))] → HE κ γ H → va_S (AA κ) s.heap H locs → cells + (835) ≤ 1075 → slots + (17371) ≤ 21490 → x_L_foil_429 s0 γ = res → W p l e (headSpec [Cond.code yL_foil cL_foil 2 (some .boolean)] ({ frames := 11, cells := 1075, slots := 21490, locals := 241 } : Room)).room s m ([.ref (kA κ 7 0)] : List Value).toArray below meth c H locs cells slots (MQ below (QL κ res.2.2 (some (.int res.2.1))) ([.ref (kA κ 7 0)] : List Value).toArray s 1075 21490 (AA κ)) (F0 m 429 ls [.int s0]) := by
    intro s0 γ H locs ls cells slots hl hH hS hc1 hc2 hq
    refine lv_if_ne (tgt := 434) hx hb dL_foil_429 (by decide) (fun c521 => ?_) (fun c521 => ?_)
    · have hq := ifne hq c521
      refine lv_aload_n hx hb dL_foil_434 rfl (lv_at hl 0 rfl) ?_
      refine lv_ldc (v := 100000000) hx hb hown (hT _ tw_864) dL_foil_435 ?_
      refine lv_ldc (v := 70100020) hx hb hown (hT _ tw_894) dL_foil_437 ?_
      refine lv_ldc (v := 171600020) hx hb hown (hT _ tw_895) dL_foil_439 ?_
      refine lv_iconst (v := (-1)) hx hb dL_foil_441 (by decide) ?_
      by_cases he522 : (x_L_phrase 100000000 70100020 171600020 ((-1)) γ).1 = 0
      rotate_left
      · exact flag_bad (ifne hq he522) hk
      have hq := ifpe hq he522
      refine e_callS (rest := []) hC hl hH hS (c_L_phrase l hfl κ γ 100000000 70100020 171600020 ((-1)) he522) tw_858 tw_859 tw_37 tw_860 hd_L_phrase ⟨Nat.le_of_ble_eq_true rfl, Nat.le_of_ble_eq_true rfl⟩ rfl rfl rfl rfl (Nat.le_of_ble_eq_true rfl) dL_foil_442 ⟨by show _ ≤ 1075; omega, by show _ ≤ 21490; omega⟩ rfl (fun H locs hH hS => ?_)
      exact b_445 ((x_L_phrase 100000000 70100020 171600020 ((-1)) γ).2.1) (x_L_phrase 100000000 70100020 171600020 ((-1)) γ).2.2 _ _ _ _ _ (lv_sub hl [0] rfl) hH hS (by omega) (by omega) hq
    · have hq := ifpe hq c521
      exact b_432 γ _ _ _ _ _ (lv_sub hl [] rfl) hH hS (by omega) (by omega) hq
  have b_417 : ∀ (s0 : Int32) (γ : St) (H : Heap) (locs : List Loc) (ls : Array Slot) (cells slots : Nat), lv_has ls 2 [(0, .ref (kA κ 7 0))] → HE κ γ H → va_S (AA κ) s.heap H locs → cells + (839) ≤ 1075 → slots + (17395) ≤ 21490 → x_L_foil_417 s0 γ = res → W p l e (headSpec [Cond.code yL_foil cL_foil 2 (some .boolean)] ({ frames := 11, cells := 1075, slots := 21490, locals := 241 } : Room)).room s m ([.ref (kA κ 7 0)] : List Value).toArray below meth c H locs cells slots (MQ below (QL κ res.2.2 (some (.int res.2.1))) ([.ref (kA κ 7 0)] : List Value).toArray s 1075 21490 (AA κ)) (F0 m 417 ls [.int s0]) := by
    intro s0 γ H locs ls cells slots hl hH hS hc1 hc2 hq
    refine lv_if_eq (tgt := 432) hx hb dL_foil_417 (by decide) (fun c523 => ?_) (fun c523 => ?_)
    · have hq := ifpe hq c523
      exact b_432 γ _ _ _ _ _ (lv_sub hl [] rfl) hH hS (by omega) (by omega) hq
    · have hq := ifne hq c523
      refine lv_aload_n hx hb dL_foil_420 rfl (lv_at hl 0 rfl) ?_
      refine lv_iconst (v := (-1)) hx hb dL_foil_421 (by decide) ?_
      refine lv_iconst (v := (-1)) hx hb dL_foil_422 (by decide) ?_
      refine lv_iconst (v := (-1)) hx hb dL_foil_423 (by decide) ?_
      refine lv_iconst (v := 0) hx hb dL_foil_424 (by decide) ?_
      refine lv_iconst (v := 0) hx hb dL_foil_425 (by decide) ?_
      by_cases he524 : (x_L_judged ((-1)) ((-1)) ((-1)) 0 0 γ).1 = 0
      rotate_left
      · exact flag_bad (ifne hq he524) hk
      have hq := ifpe hq he524
      refine e_callS (rest := []) hC hl hH hS (c_L_judged l hfl κ γ ((-1)) ((-1)) ((-1)) 0 0 he524) tw_853 tw_854 tw_37 tw_855 hd_L_judged ⟨Nat.le_of_ble_eq_true rfl, Nat.le_of_ble_eq_true rfl⟩ rfl rfl rfl rfl (Nat.le_of_ble_eq_true rfl) dL_foil_426 ⟨by show _ ≤ 1075; omega, by show _ ≤ 21490; omega⟩ rfl (fun H locs hH hS => ?_)
      exact b_429 ((x_L_judged ((-1)) ((-1)) ((-1)) 0 0 γ).2.1) (x_L_judged ((-1)) ((-1)) ((-1)) 0 0 γ).2.2 _ _ _ _ _ (lv_sub hl [0] rfl) hH hS (by omega) (by omega) hq
  have b_403 : ∀ (s0 : Int32) (γ : St) (H : Heap) (locs : List Loc) (ls : Array Slot) (cells slots : Nat), lv_has ls 2 [(0, .ref (kA κ 7 0))] → HE κ γ H → va_S (AA κ) s.heap H locs → cells + (851) ≤ 1075 → slots + (17655) ≤ 21490 → x_L_foil_403 s0 γ = res → W p l e (headSpec [Cond.code yL_foil cL_foil 2 (some .boolean)] ({ frames := 11, cells := 1075, slots := 21490, locals := 241 } : Room)).room s m ([.ref (kA κ 7 0)] : List Value).toArray below meth c H locs cells slots (MQ below (QL κ res.2.2 (some (.int res.2.1))) ([.ref (kA κ 7 0)] : List Value).toArray s 1075 21490 (AA κ)) (F0 m 403 ls [.int s0]) := by
    intro s0 γ H locs ls cells slots hl hH hS hc1 hc2 hq
    refine lv_if_eq (tgt := 432) hx hb dL_foil_403 (by decide) (fun c525 => ?_) (fun c525 => ?_)
    · have hq := ifpe hq c525
      exact b_432 γ _ _ _ _ _ (lv_sub hl [] rfl) hH hS (by omega) (by omega) hq
    · have hq := ifne hq c525
      refine lv_aload_n hx hb dL_foil_406 rfl (lv_at hl 0 rfl) ?_
      refine lv_iconst (v := 0) hx hb dL_foil_407 (by decide) ?_
      refine lv_ldc (v := 130100000) hx hb hown (hT _ tw_887) dL_foil_408 ?_
      refine lv_ldc (v := 40200000) hx hb hown (hT _ tw_892) dL_foil_410 ?_
      refine lv_ldc (v := 150200000) hx hb hown (hT _ tw_893) dL_foil_412 ?_
      by_cases he526 : (x_L_phrase 0 130100000 40200000 150200000 γ).1 = 0
      rotate_left
      · exact flag_bad (ifne hq he526) hk
      have hq := ifpe hq he526
      refine e_callS (rest := []) hC hl hH hS (c_L_phrase l hfl κ γ 0 130100000 40200000 150200000 he526) tw_858 tw_859 tw_37 tw_860 hd_L_phrase ⟨Nat.le_of_ble_eq_true rfl, Nat.le_of_ble_eq_true rfl⟩ rfl rfl rfl rfl (Nat.le_of_ble_eq_true rfl) dL_foil_414 ⟨by show _ ≤ 1075; omega, by show _ ≤ 21490; omega⟩ rfl (fun H locs hH hS => ?_)
      exact b_417 ((x_L_phrase 0 130100000 40200000 150200000 γ).2.1) (x_L_phrase 0 130100000 40200000 150200000 γ).2.2 _ _ _ _ _ (lv_sub hl [0] rfl) hH hS (by omega) (by omega) hq
  have b_391 : ∀ (s0 : Int32) (γ : St) (H : Heap) (locs : List Loc) (ls : Array Slot) (cells slots : Nat), lv_has ls 2 [(0, .ref (kA κ 7 0))] → HE κ γ H → va_S (AA κ) s.heap H locs → cells + (855) ≤ 1075 → slots + (17679) ≤ 21490 → x_L_foil_391 s0 γ = res → W p l e (headSpec [Cond.code yL_foil cL_foil 2 (some .boolean)] ({ frames := 11, cells := 1075, slots := 21490, locals := 241 } : Room)).room s m ([.ref (kA κ 7 0)] : List Value).toArray below meth c H locs cells slots (MQ below (QL κ res.2.2 (some (.int res.2.1))) ([.ref (kA κ 7 0)] : List Value).toArray s 1075 21490 (AA κ)) (F0 m 391 ls [.int s0]) := by
    intro s0 γ H locs ls cells slots hl hH hS hc1 hc2 hq
    refine lv_if_eq (tgt := 432) hx hb dL_foil_391 (by decide) (fun c527 => ?_) (fun c527 => ?_)
    · have hq := ifpe hq c527
      exact b_432 γ _ _ _ _ _ (lv_sub hl [] rfl) hH hS (by omega) (by omega) hq
    · have hq := ifne hq c527
      refine lv_aload_n hx hb dL_foil_394 rfl (lv_at hl 0 rfl) ?_
      refine lv_iconst (v := 0) hx hb dL_foil_395 (by decide) ?_
      refine lv_iconst (v := (-1)) hx hb dL_foil_396 (by decide) ?_
      refine lv_iconst (v := (-1)) hx hb dL_foil_397 (by decide) ?_
      refine lv_iconst (v := 0) hx hb dL_foil_398 (by decide) ?_
      refine lv_iconst (v := 0) hx hb dL_foil_399 (by decide) ?_
      by_cases he528 : (x_L_judged 0 ((-1)) ((-1)) 0 0 γ).1 = 0
      rotate_left
      · exact flag_bad (ifne hq he528) hk
      have hq := ifpe hq he528
      refine e_callS (rest := []) hC hl hH hS (c_L_judged l hfl κ γ 0 ((-1)) ((-1)) 0 0 he528) tw_853 tw_854 tw_37 tw_855 hd_L_judged ⟨Nat.le_of_ble_eq_true rfl, Nat.le_of_ble_eq_true rfl⟩ rfl rfl rfl rfl (Nat.le_of_ble_eq_true rfl) dL_foil_400 ⟨by show _ ≤ 1075; omega, by show _ ≤ 21490; omega⟩ rfl (fun H locs hH hS => ?_)
      exact b_403 ((x_L_judged 0 ((-1)) ((-1)) 0 0 γ).2.1) (x_L_judged 0 ((-1)) ((-1)) 0 0 γ).2.2 _ _ _ _ _ (lv_sub hl [0] rfl) hH hS (by omega) (by omega) hq
  have b_377 : ∀ (s0 : Int32) (γ : St) (H : Heap) (locs : List Loc) (ls : Array Slot) (cells slots : Nat), lv_has ls 2 [(0, .ref (kA κ 7 0))] → HE κ γ H → va_S (AA κ) s.heap H locs → cells + (867) ≤ 1075 → slots + (17939) ≤ 21490 → x_L_foil_377 s0 γ = res → W p l e (headSpec [Cond.code yL_foil cL_foil 2 (some .boolean)] ({ frames := 11, cells := 1075, slots := 21490, locals := 241 } : Room)).room s m ([.ref (kA κ 7 0)] : List Value).toArray below meth c H locs cells slots (MQ below (QL κ res.2.2 (some (.int res.2.1))) ([.ref (kA κ 7 0)] : List Value).toArray s 1075 21490 (AA κ)) (F0 m 377 ls [.int s0]) := by
    intro s0 γ H locs ls cells slots hl hH hS hc1 hc2 hq
    refine lv_if_eq (tgt := 432) hx hb dL_foil_377 (by decide) (fun c529 => ?_) (fun c529 => ?_)
    · have hq := ifpe hq c529
      exact b_432 γ _ _ _ _ _ (lv_sub hl [] rfl) hH hS (by omega) (by omega) hq
    · have hq := ifne hq c529
      refine lv_aload_n hx hb dL_foil_380 rfl (lv_at hl 0 rfl) ?_
      refine lv_ldc (v := 10000000) hx hb hown (hT _ tw_865) dL_foil_381 ?_
      refine lv_ldc (v := 130100000) hx hb hown (hT _ tw_887) dL_foil_383 ?_
      refine lv_ldc (v := 140200000) hx hb hown (hT _ tw_891) dL_foil_385 ?_
      refine lv_iconst (v := (-1)) hx hb dL_foil_387 (by decide) ?_
      by_cases he530 : (x_L_phrase 10000000 130100000 140200000 ((-1)) γ).1 = 0
      rotate_left
      · exact flag_bad (ifne hq he530) hk
      have hq := ifpe hq he530
      refine e_callS (rest := []) hC hl hH hS (c_L_phrase l hfl κ γ 10000000 130100000 140200000 ((-1)) he530) tw_858 tw_859 tw_37 tw_860 hd_L_phrase ⟨Nat.le_of_ble_eq_true rfl, Nat.le_of_ble_eq_true rfl⟩ rfl rfl rfl rfl (Nat.le_of_ble_eq_true rfl) dL_foil_388 ⟨by show _ ≤ 1075; omega, by show _ ≤ 21490; omega⟩ rfl (fun H locs hH hS => ?_)
      exact b_391 ((x_L_phrase 10000000 130100000 140200000 ((-1)) γ).2.1) (x_L_phrase 10000000 130100000 140200000 ((-1)) γ).2.2 _ _ _ _ _ (lv_sub hl [0] rfl) hH hS (by omega) (by omega) hq
  have b_365 : ∀ (s0 : Int32) (γ : St) (H : Heap) (locs : List Loc) (ls : Array Slot) (cells slots : Nat), lv_has ls 2 [(0, .ref (kA κ 7 0))] → HE κ γ H → va_S (AA κ) s.heap H locs → cells + (871) ≤ 1075 → slots + (17963) ≤ 21490 → x_L_foil_365 s0 γ = res → W p l e (headSpec [Cond.code yL_foil cL_foil 2 (some .boolean)] ({ frames := 11, cells := 1075, slots := 21490, locals := 241 } : Room)).room s m ([.ref (kA κ 7 0)] : List Value).toArray below meth c H locs cells slots (MQ below (QL κ res.2.2 (some (.int res.2.1))) ([.ref (kA κ 7 0)] : List Value).toArray s 1075 21490 (AA κ)) (F0 m 365 ls [.int s0]) := by
    intro s0 γ H locs ls cells slots hl hH hS hc1 hc2 hq
    refine lv_if_eq (tgt := 432) hx hb dL_foil_365 (by decide) (fun c531 => ?_) (fun c531 => ?_)
    · have hq := ifpe hq c531
      exact b_432 γ _ _ _ _ _ (lv_sub hl [] rfl) hH hS (by omega) (by omega) hq
    · have hq := ifne hq c531
      refine lv_aload_n hx hb dL_foil_368 rfl (lv_at hl 0 rfl) ?_
      refine lv_iconst (v := 0) hx hb dL_foil_369 (by decide) ?_
      refine lv_iconst (v := 0) hx hb dL_foil_370 (by decide) ?_
      refine lv_iconst (v := (-1)) hx hb dL_foil_371 (by decide) ?_
      refine lv_iconst (v := 1) hx hb dL_foil_372 (by decide) ?_
      refine lv_iconst (v := 1) hx hb dL_foil_373 (by decide) ?_
      by_cases he532 : (x_L_judged 0 0 ((-1)) 1 1 γ).1 = 0
      rotate_left
      · exact flag_bad (ifne hq he532) hk
      have hq := ifpe hq he532
      refine e_callS (rest := []) hC hl hH hS (c_L_judged l hfl κ γ 0 0 ((-1)) 1 1 he532) tw_853 tw_854 tw_37 tw_855 hd_L_judged ⟨Nat.le_of_ble_eq_true rfl, Nat.le_of_ble_eq_true rfl⟩ rfl rfl rfl rfl (Nat.le_of_ble_eq_true rfl) dL_foil_374 ⟨by show _ ≤ 1075; omega, by show _ ≤ 21490; omega⟩ rfl (fun H locs hH hS => ?_)
      exact b_377 ((x_L_judged 0 0 ((-1)) 1 1 γ).2.1) (x_L_judged 0 0 ((-1)) 1 1 γ).2.2 _ _ _ _ _ (lv_sub hl [0] rfl) hH hS (by omega) (by omega) hq
  have b_351 : ∀ (s0 : Int32) (γ : St) (H : Heap) (locs : List Loc) (ls : Array Slot) (cells slots : Nat), lv_has ls 2 [(0, .ref (kA κ 7 0))] → HE κ γ H → va_S (AA κ) s.heap H locs → cells + (883) ≤ 1075 → slots + (18223) ≤ 21490 → x_L_foil_351 s0 γ = res → W p l e (headSpec [Cond.code yL_foil cL_foil 2 (some .boolean)] ({ frames := 11, cells := 1075, slots := 21490, locals := 241 } : Room)).room s m ([.ref (kA κ 7 0)] : List Value).toArray below meth c H locs cells slots (MQ below (QL κ res.2.2 (some (.int res.2.1))) ([.ref (kA κ 7 0)] : List Value).toArray s 1075 21490 (AA κ)) (F0 m 351 ls [.int s0]) := by
    intro s0 γ H locs ls cells slots hl hH hS hc1 hc2 hq
    refine lv_if_eq (tgt := 432) hx hb dL_foil_351 (by decide) (fun c533 => ?_) (fun c533 => ?_)
    · have hq := ifpe hq c533
      exact b_432 γ _ _ _ _ _ (lv_sub hl [] rfl) hH hS (by omega) (by omega) hq
    · have hq := ifne hq c533
      refine lv_aload_n hx hb dL_foil_354 rfl (lv_at hl 0 rfl) ?_
      refine lv_iconst (v := 0) hx hb dL_foil_355 (by decide) ?_
      refine lv_ldc (v := 130100000) hx hb hown (hT _ tw_887) dL_foil_356 ?_
      refine lv_ldc (v := 53110000) hx hb hown (hT _ tw_889) dL_foil_358 ?_
      refine lv_ldc (v := 73120999) hx hb hown (hT _ tw_890) dL_foil_360 ?_
      by_cases he534 : (x_L_phrase 0 130100000 53110000 73120999 γ).1 = 0
      rotate_left
      · exact flag_bad (ifne hq he534) hk
      have hq := ifpe hq he534
      refine e_callS (rest := []) hC hl hH hS (c_L_phrase l hfl κ γ 0 130100000 53110000 73120999 he534) tw_858 tw_859 tw_37 tw_860 hd_L_phrase ⟨Nat.le_of_ble_eq_true rfl, Nat.le_of_ble_eq_true rfl⟩ rfl rfl rfl rfl (Nat.le_of_ble_eq_true rfl) dL_foil_362 ⟨by show _ ≤ 1075; omega, by show _ ≤ 21490; omega⟩ rfl (fun H locs hH hS => ?_)
      exact b_365 ((x_L_phrase 0 130100000 53110000 73120999 γ).2.1) (x_L_phrase 0 130100000 53110000 73120999 γ).2.2 _ _ _ _ _ (lv_sub hl [0] rfl) hH hS (by omega) (by omega) hq
  have b_339 : ∀ (s0 : Int32) (γ : St) (H : Heap) (locs : List Loc) (ls : Array Slot) (cells slots : Nat), lv_has ls 2 [(0, .ref (kA κ 7 0))] → HE κ γ H → va_S (AA κ) s.heap H locs → cells + (887) ≤ 1075 → slots + (18247) ≤ 21490 → x_L_foil_339 s0 γ = res → W p l e (headSpec [Cond.code yL_foil cL_foil 2 (some .boolean)] ({ frames := 11, cells := 1075, slots := 21490, locals := 241 } : Room)).room s m ([.ref (kA κ 7 0)] : List Value).toArray below meth c H locs cells slots (MQ below (QL κ res.2.2 (some (.int res.2.1))) ([.ref (kA κ 7 0)] : List Value).toArray s 1075 21490 (AA κ)) (F0 m 339 ls [.int s0]) := by
    intro s0 γ H locs ls cells slots hl hH hS hc1 hc2 hq
    refine lv_if_eq (tgt := 432) hx hb dL_foil_339 (by decide) (fun c535 => ?_) (fun c535 => ?_)
    · have hq := ifpe hq c535
      exact b_432 γ _ _ _ _ _ (lv_sub hl [] rfl) hH hS (by omega) (by omega) hq
    · have hq := ifne hq c535
      refine lv_aload_n hx hb dL_foil_342 rfl (lv_at hl 0 rfl) ?_
      refine lv_iconst (v := (-1)) hx hb dL_foil_343 (by decide) ?_
      refine lv_iconst (v := (-1)) hx hb dL_foil_344 (by decide) ?_
      refine lv_iconst (v := (-1)) hx hb dL_foil_345 (by decide) ?_
      refine lv_iconst (v := 0) hx hb dL_foil_346 (by decide) ?_
      refine lv_iconst (v := 0) hx hb dL_foil_347 (by decide) ?_
      by_cases he536 : (x_L_judged ((-1)) ((-1)) ((-1)) 0 0 γ).1 = 0
      rotate_left
      · exact flag_bad (ifne hq he536) hk
      have hq := ifpe hq he536
      refine e_callS (rest := []) hC hl hH hS (c_L_judged l hfl κ γ ((-1)) ((-1)) ((-1)) 0 0 he536) tw_853 tw_854 tw_37 tw_855 hd_L_judged ⟨Nat.le_of_ble_eq_true rfl, Nat.le_of_ble_eq_true rfl⟩ rfl rfl rfl rfl (Nat.le_of_ble_eq_true rfl) dL_foil_348 ⟨by show _ ≤ 1075; omega, by show _ ≤ 21490; omega⟩ rfl (fun H locs hH hS => ?_)
      exact b_351 ((x_L_judged ((-1)) ((-1)) ((-1)) 0 0 γ).2.1) (x_L_judged ((-1)) ((-1)) ((-1)) 0 0 γ).2.2 _ _ _ _ _ (lv_sub hl [0] rfl) hH hS (by omega) (by omega) hq
  have b_326 : ∀ (s0 : Int32) (γ : St) (H : Heap) (locs : List Loc) (ls : Array Slot) (cells slots : Nat), lv_has ls 2 [(0, .ref (kA κ 7 0))] → HE κ γ H → va_S (AA κ) s.heap H locs → cells + (899) ≤ 1075 → slots + (18507) ≤ 21490 → x_L_foil_326 s0 γ = res → W p l e (headSpec [Cond.code yL_foil cL_foil 2 (some .boolean)] ({ frames := 11, cells := 1075, slots := 21490, locals := 241 } : Room)).room s m ([.ref (kA κ 7 0)] : List Value).toArray below meth c H locs cells slots (MQ below (QL κ res.2.2 (some (.int res.2.1))) ([.ref (kA κ 7 0)] : List Value).toArray s 1075 21490 (AA κ)) (F0 m 326 ls [.int s0]) := by
    intro s0 γ H locs ls cells slots hl hH hS hc1 hc2 hq
    refine lv_if_eq (tgt := 432) hx hb dL_foil_326 (by decide) (fun c537 => ?_) (fun c537 => ?_)
    · have hq := ifpe hq c537
      exact b_432 γ _ _ _ _ _ (lv_sub hl [] rfl) hH hS (by omega) (by omega) hq
    · have hq := ifne hq c537
      refine lv_aload_n hx hb dL_foil_329 rfl (lv_at hl 0 rfl) ?_
      refine lv_iconst (v := 0) hx hb dL_foil_330 (by decide) ?_
      refine lv_ldc (v := 130100000) hx hb hown (hT _ tw_887) dL_foil_331 ?_
      refine lv_ldc (v := 53100000) hx hb hown (hT _ tw_888) dL_foil_333 ?_
      refine lv_iconst (v := (-1)) hx hb dL_foil_335 (by decide) ?_
      by_cases he538 : (x_L_phrase 0 130100000 53100000 ((-1)) γ).1 = 0
      rotate_left
      · exact flag_bad (ifne hq he538) hk
      have hq := ifpe hq he538
      refine e_callS (rest := []) hC hl hH hS (c_L_phrase l hfl κ γ 0 130100000 53100000 ((-1)) he538) tw_858 tw_859 tw_37 tw_860 hd_L_phrase ⟨Nat.le_of_ble_eq_true rfl, Nat.le_of_ble_eq_true rfl⟩ rfl rfl rfl rfl (Nat.le_of_ble_eq_true rfl) dL_foil_336 ⟨by show _ ≤ 1075; omega, by show _ ≤ 21490; omega⟩ rfl (fun H locs hH hS => ?_)
      exact b_339 ((x_L_phrase 0 130100000 53100000 ((-1)) γ).2.1) (x_L_phrase 0 130100000 53100000 ((-1)) γ).2.2 _ _ _ _ _ (lv_sub hl [0] rfl) hH hS (by omega) (by omega) hq
  have b_314 : ∀ (s0 : Int32) (γ : St) (H : Heap) (locs : List Loc) (ls : Array Slot) (cells slots : Nat), lv_has ls 2 [(0, .ref (kA κ 7 0))] → HE κ γ H → va_S (AA κ) s.heap H locs → cells + (903) ≤ 1075 → slots + (18531) ≤ 21490 → x_L_foil_314 s0 γ = res → W p l e (headSpec [Cond.code yL_foil cL_foil 2 (some .boolean)] ({ frames := 11, cells := 1075, slots := 21490, locals := 241 } : Room)).room s m ([.ref (kA κ 7 0)] : List Value).toArray below meth c H locs cells slots (MQ below (QL κ res.2.2 (some (.int res.2.1))) ([.ref (kA κ 7 0)] : List Value).toArray s 1075 21490 (AA κ)) (F0 m 314 ls [.int s0]) := by
    intro s0 γ H locs ls cells slots hl hH hS hc1 hc2 hq
    refine lv_if_eq (tgt := 432) hx hb dL_foil_314 (by decide) (fun c539 => ?_) (fun c539 => ?_)
    · have hq := ifpe hq c539
      exact b_432 γ _ _ _ _ _ (lv_sub hl [] rfl) hH hS (by omega) (by omega) hq
    · have hq := ifne hq c539
      refine lv_aload_n hx hb dL_foil_317 rfl (lv_at hl 0 rfl) ?_
      refine lv_iconst (v := (-1)) hx hb dL_foil_318 (by decide) ?_
      refine lv_iconst (v := (-1)) hx hb dL_foil_319 (by decide) ?_
      refine lv_iconst (v := (-1)) hx hb dL_foil_320 (by decide) ?_
      refine lv_iconst (v := 0) hx hb dL_foil_321 (by decide) ?_
      refine lv_iconst (v := 0) hx hb dL_foil_322 (by decide) ?_
      by_cases he540 : (x_L_judged ((-1)) ((-1)) ((-1)) 0 0 γ).1 = 0
      rotate_left
      · exact flag_bad (ifne hq he540) hk
      have hq := ifpe hq he540
      refine e_callS (rest := []) hC hl hH hS (c_L_judged l hfl κ γ ((-1)) ((-1)) ((-1)) 0 0 he540) tw_853 tw_854 tw_37 tw_855 hd_L_judged ⟨Nat.le_of_ble_eq_true rfl, Nat.le_of_ble_eq_true rfl⟩ rfl rfl rfl rfl (Nat.le_of_ble_eq_true rfl) dL_foil_323 ⟨by show _ ≤ 1075; omega, by show _ ≤ 21490; omega⟩ rfl (fun H locs hH hS => ?_)
      exact b_326 ((x_L_judged ((-1)) ((-1)) ((-1)) 0 0 γ).2.1) (x_L_judged ((-1)) ((-1)) ((-1)) 0 0 γ).2.2 _ _ _ _ _ (lv_sub hl [0] rfl) hH hS (by omega) (by omega) hq
  have b_301 : ∀ (s0 : Int32) (γ : St) (H : Heap) (locs : List Loc) (ls : Array Slot) (cells slots : Nat), lv_has ls 2 [(0, .ref (kA κ 7 0))] → HE κ γ H → va_S (AA κ) s.heap H locs → cells + (915) ≤ 1075 → slots + (18791) ≤ 21490 → x_L_foil_301 s0 γ = res → W p l e (headSpec [Cond.code yL_foil cL_foil 2 (some .boolean)] ({ frames := 11, cells := 1075, slots := 21490, locals := 241 } : Room)).room s m ([.ref (kA κ 7 0)] : List Value).toArray below meth c H locs cells slots (MQ below (QL κ res.2.2 (some (.int res.2.1))) ([.ref (kA κ 7 0)] : List Value).toArray s 1075 21490 (AA κ)) (F0 m 301 ls [.int s0]) := by
    intro s0 γ H locs ls cells slots hl hH hS hc1 hc2 hq
    refine lv_if_eq (tgt := 432) hx hb dL_foil_301 (by decide) (fun c541 => ?_) (fun c541 => ?_)
    · have hq := ifpe hq c541
      exact b_432 γ _ _ _ _ _ (lv_sub hl [] rfl) hH hS (by omega) (by omega) hq
    · have hq := ifne hq c541
      refine lv_aload_n hx hb dL_foil_304 rfl (lv_at hl 0 rfl) ?_
      refine lv_iconst (v := 0) hx hb dL_foil_305 (by decide) ?_
      refine lv_ldc (v := 130500000) hx hb hown (hT _ tw_883) dL_foil_306 ?_
      refine lv_ldc (v := 143510000) hx hb hown (hT _ tw_886) dL_foil_308 ?_
      refine lv_iconst (v := (-1)) hx hb dL_foil_310 (by decide) ?_
      by_cases he542 : (x_L_phrase 0 130500000 143510000 ((-1)) γ).1 = 0
      rotate_left
      · exact flag_bad (ifne hq he542) hk
      have hq := ifpe hq he542
      refine e_callS (rest := []) hC hl hH hS (c_L_phrase l hfl κ γ 0 130500000 143510000 ((-1)) he542) tw_858 tw_859 tw_37 tw_860 hd_L_phrase ⟨Nat.le_of_ble_eq_true rfl, Nat.le_of_ble_eq_true rfl⟩ rfl rfl rfl rfl (Nat.le_of_ble_eq_true rfl) dL_foil_311 ⟨by show _ ≤ 1075; omega, by show _ ≤ 21490; omega⟩ rfl (fun H locs hH hS => ?_)
      exact b_314 ((x_L_phrase 0 130500000 143510000 ((-1)) γ).2.1) (x_L_phrase 0 130500000 143510000 ((-1)) γ).2.2 _ _ _ _ _ (lv_sub hl [0] rfl) hH hS (by omega) (by omega) hq
  have b_289 : ∀ (s0 : Int32) (γ : St) (H : Heap) (locs : List Loc) (ls : Array Slot) (cells slots : Nat), lv_has ls 2 [(0, .ref (kA κ 7 0))] → HE κ γ H → va_S (AA κ) s.heap H locs → cells + (919) ≤ 1075 → slots + (18815) ≤ 21490 → x_L_foil_289 s0 γ = res → W p l e (headSpec [Cond.code yL_foil cL_foil 2 (some .boolean)] ({ frames := 11, cells := 1075, slots := 21490, locals := 241 } : Room)).room s m ([.ref (kA κ 7 0)] : List Value).toArray below meth c H locs cells slots (MQ below (QL κ res.2.2 (some (.int res.2.1))) ([.ref (kA κ 7 0)] : List Value).toArray s 1075 21490 (AA κ)) (F0 m 289 ls [.int s0]) := by
    intro s0 γ H locs ls cells slots hl hH hS hc1 hc2 hq
    refine lv_if_eq (tgt := 432) hx hb dL_foil_289 (by decide) (fun c543 => ?_) (fun c543 => ?_)
    · have hq := ifpe hq c543
      exact b_432 γ _ _ _ _ _ (lv_sub hl [] rfl) hH hS (by omega) (by omega) hq
    · have hq := ifne hq c543
      refine lv_aload_n hx hb dL_foil_292 rfl (lv_at hl 0 rfl) ?_
      refine lv_iconst (v := 1) hx hb dL_foil_293 (by decide) ?_
      refine lv_iconst (v := (-1)) hx hb dL_foil_294 (by decide) ?_
      refine lv_iconst (v := 0) hx hb dL_foil_295 (by decide) ?_
      refine lv_iconst (v := 2) hx hb dL_foil_296 (by decide) ?_
      refine lv_iconst (v := 1) hx hb dL_foil_297 (by decide) ?_
      by_cases he544 : (x_L_judged 1 ((-1)) 0 2 1 γ).1 = 0
      rotate_left
      · exact flag_bad (ifne hq he544) hk
      have hq := ifpe hq he544
      refine e_callS (rest := []) hC hl hH hS (c_L_judged l hfl κ γ 1 ((-1)) 0 2 1 he544) tw_853 tw_854 tw_37 tw_855 hd_L_judged ⟨Nat.le_of_ble_eq_true rfl, Nat.le_of_ble_eq_true rfl⟩ rfl rfl rfl rfl (Nat.le_of_ble_eq_true rfl) dL_foil_298 ⟨by show _ ≤ 1075; omega, by show _ ≤ 21490; omega⟩ rfl (fun H locs hH hS => ?_)
      exact b_301 ((x_L_judged 1 ((-1)) 0 2 1 γ).2.1) (x_L_judged 1 ((-1)) 0 2 1 γ).2.2 _ _ _ _ _ (lv_sub hl [0] rfl) hH hS (by omega) (by omega) hq
  have b_273 : ∀ (s0 : Int32) (γ : St) (H : Heap) (locs : List Loc) (ls : Array Slot) (cells slots : Nat), lv_has ls 2 [(0, .ref (kA κ 7 0))] → HE κ γ H → va_S (AA κ) s.heap H locs → cells + (931) ≤ 1075 → slots + (19075) ≤ 21490 → x_L_foil_273 s0 γ = res → W p l e (headSpec [Cond.code yL_foil cL_foil 2 (some .boolean)] ({ frames := 11, cells := 1075, slots := 21490, locals := 241 } : Room)).room s m ([.ref (kA κ 7 0)] : List Value).toArray below meth c H locs cells slots (MQ below (QL κ res.2.2 (some (.int res.2.1))) ([.ref (kA κ 7 0)] : List Value).toArray s 1075 21490 (AA κ)) (F0 m 273 ls [.int s0]) := by
    intro s0 γ H locs ls cells slots hl hH hS hc1 hc2 hq
    refine lv_if_ne (tgt := 278) hx hb dL_foil_273 (by decide) (fun c545 => ?_) (fun c545 => ?_)
    · have hq := ifne hq c545
      refine lv_aload_n hx hb dL_foil_278 rfl (lv_at hl 0 rfl) ?_
      refine lv_iconst (v := 0) hx hb dL_foil_279 (by decide) ?_
      refine lv_ldc (v := 130500000) hx hb hown (hT _ tw_883) dL_foil_280 ?_
      refine lv_ldc (v := 143500000) hx hb hown (hT _ tw_884) dL_foil_282 ?_
      refine lv_ldc (v := 173600020) hx hb hown (hT _ tw_885) dL_foil_284 ?_
      by_cases he546 : (x_L_phrase 0 130500000 143500000 173600020 γ).1 = 0
      rotate_left
      · exact flag_bad (ifne hq he546) hk
      have hq := ifpe hq he546
      refine e_callS (rest := []) hC hl hH hS (c_L_phrase l hfl κ γ 0 130500000 143500000 173600020 he546) tw_858 tw_859 tw_37 tw_860 hd_L_phrase ⟨Nat.le_of_ble_eq_true rfl, Nat.le_of_ble_eq_true rfl⟩ rfl rfl rfl rfl (Nat.le_of_ble_eq_true rfl) dL_foil_286 ⟨by show _ ≤ 1075; omega, by show _ ≤ 21490; omega⟩ rfl (fun H locs hH hS => ?_)
      exact b_289 ((x_L_phrase 0 130500000 143500000 173600020 γ).2.1) (x_L_phrase 0 130500000 143500000 173600020 γ).2.2 _ _ _ _ _ (lv_sub hl [0] rfl) hH hS (by omega) (by omega) hq
    · have hq := ifpe hq c545
      exact b_276 γ _ _ _ _ _ (lv_sub hl [] rfl) hH hS (by omega) (by omega) hq
  have b_259 : ∀ (s0 : Int32) (γ : St) (H : Heap) (locs : List Loc) (ls : Array Slot) (cells slots : Nat), lv_has ls 2 [(0, .ref (kA κ 7 0))] → HE κ γ H → va_S (AA κ) s.heap H locs → cells + (937) ≤ 1075 → slots + (19111) ≤ 21490 → x_L_foil_259 s0 γ = res → W p l e (headSpec [Cond.code yL_foil cL_foil 2 (some .boolean)] ({ frames := 11, cells := 1075, slots := 21490, locals := 241 } : Room)).room s m ([.ref (kA κ 7 0)] : List Value).toArray below meth c H locs cells slots (MQ below (QL κ res.2.2 (some (.int res.2.1))) ([.ref (kA κ 7 0)] : List Value).toArray s 1075 21490 (AA κ)) (F0 m 259 ls [.int s0]) := by
    intro s0 γ H locs ls cells slots hl hH hS hc1 hc2 hq
    refine lv_if_eq (tgt := 276) hx hb dL_foil_259 (by decide) (fun c547 => ?_) (fun c547 => ?_)
    · have hq := ifpe hq c547
      exact b_276 γ _ _ _ _ _ (lv_sub hl [] rfl) hH hS (by omega) (by omega) hq
    · have hq := ifne hq c547
      refine lv_aload_n hx hb dL_foil_262 rfl (lv_at hl 0 rfl) ?_
      refine lv_iconst (v := 0) hx hb dL_foil_263 (by decide) ?_
      refine lv_iconst (v := 3) hx hb dL_foil_264 (by decide) ?_
      refine lv_iconst (v := 0) hx hb dL_foil_265 (by decide) ?_
      refine lv_iconst (v := (-1)) hx hb dL_foil_266 (by decide) ?_
      refine lv_iconst (v := 0) hx hb dL_foil_267 (by decide) ?_
      refine lv_iconst (v := 0) hx hb dL_foil_268 (by decide) ?_
      refine lv_iconst (v := (-1)) hx hb dL_foil_269 (by decide) ?_
      by_cases he548 : (x_L_bout 0 3 0 ((-1)) 0 0 ((-1)) γ).1 = 0
      rotate_left
      · exact flag_bad (ifne hq he548) hk
      have hq := ifpe hq he548
      refine e_callS (rest := []) hC hl hH hS (c_L_bout l hfl κ γ 0 3 0 ((-1)) 0 0 ((-1)) he548) tw_880 tw_881 tw_37 tw_882 hd_L_bout ⟨Nat.le_of_ble_eq_true rfl, Nat.le_of_ble_eq_true rfl⟩ rfl rfl rfl rfl (Nat.le_of_ble_eq_true rfl) dL_foil_270 ⟨by show _ ≤ 1075; omega, by show _ ≤ 21490; omega⟩ rfl (fun H locs hH hS => ?_)
      exact b_273 ((x_L_bout 0 3 0 ((-1)) 0 0 ((-1)) γ).2.1) (x_L_bout 0 3 0 ((-1)) 0 0 ((-1)) γ).2.2 _ _ _ _ _ (lv_sub hl [0] rfl) hH hS (by omega) (by omega) hq
  have b_247 : ∀ (s0 : Int32) (γ : St) (H : Heap) (locs : List Loc) (ls : Array Slot) (cells slots : Nat), lv_has ls 2 [(0, .ref (kA κ 7 0))] → HE κ γ H → va_S (AA κ) s.heap H locs → cells + (941) ≤ 1075 → slots + (19135) ≤ 21490 → x_L_foil_247 s0 γ = res → W p l e (headSpec [Cond.code yL_foil cL_foil 2 (some .boolean)] ({ frames := 11, cells := 1075, slots := 21490, locals := 241 } : Room)).room s m ([.ref (kA κ 7 0)] : List Value).toArray below meth c H locs cells slots (MQ below (QL κ res.2.2 (some (.int res.2.1))) ([.ref (kA κ 7 0)] : List Value).toArray s 1075 21490 (AA κ)) (F0 m 247 ls [.int s0]) := by
    intro s0 γ H locs ls cells slots hl hH hS hc1 hc2 hq
    refine lv_if_eq (tgt := 276) hx hb dL_foil_247 (by decide) (fun c549 => ?_) (fun c549 => ?_)
    · have hq := ifpe hq c549
      exact b_276 γ _ _ _ _ _ (lv_sub hl [] rfl) hH hS (by omega) (by omega) hq
    · have hq := ifne hq c549
      refine lv_aload_n hx hb dL_foil_250 rfl (lv_at hl 0 rfl) ?_
      refine lv_iconst (v := 1) hx hb dL_foil_251 (by decide) ?_
      refine lv_iconst (v := (-1)) hx hb dL_foil_252 (by decide) ?_
      refine lv_iconst (v := (-1)) hx hb dL_foil_253 (by decide) ?_
      refine lv_iconst (v := 0) hx hb dL_foil_254 (by decide) ?_
      refine lv_iconst (v := 0) hx hb dL_foil_255 (by decide) ?_
      by_cases he550 : (x_L_judged 1 ((-1)) ((-1)) 0 0 γ).1 = 0
      rotate_left
      · exact flag_bad (ifne hq he550) hk
      have hq := ifpe hq he550
      refine e_callS (rest := []) hC hl hH hS (c_L_judged l hfl κ γ 1 ((-1)) ((-1)) 0 0 he550) tw_853 tw_854 tw_37 tw_855 hd_L_judged ⟨Nat.le_of_ble_eq_true rfl, Nat.le_of_ble_eq_true rfl⟩ rfl rfl rfl rfl (Nat.le_of_ble_eq_true rfl) dL_foil_256 ⟨by show _ ≤ 1075; omega, by show _ ≤ 21490; omega⟩ rfl (fun H locs hH hS => ?_)
      exact b_259 ((x_L_judged 1 ((-1)) ((-1)) 0 0 γ).2.1) (x_L_judged 1 ((-1)) ((-1)) 0 0 γ).2.2 _ _ _ _ _ (lv_sub hl [0] rfl) hH hS (by omega) (by omega) hq
  have b_233 : ∀ (s0 : Int32) (γ : St) (H : Heap) (locs : List Loc) (ls : Array Slot) (cells slots : Nat), lv_has ls 2 [(0, .ref (kA κ 7 0))] → HE κ γ H → va_S (AA κ) s.heap H locs → cells + (953) ≤ 1075 → slots + (19395) ≤ 21490 → x_L_foil_233 s0 γ = res → W p l e (headSpec [Cond.code yL_foil cL_foil 2 (some .boolean)] ({ frames := 11, cells := 1075, slots := 21490, locals := 241 } : Room)).room s m ([.ref (kA κ 7 0)] : List Value).toArray below meth c H locs cells slots (MQ below (QL κ res.2.2 (some (.int res.2.1))) ([.ref (kA κ 7 0)] : List Value).toArray s 1075 21490 (AA κ)) (F0 m 233 ls [.int s0]) := by
    intro s0 γ H locs ls cells slots hl hH hS hc1 hc2 hq
    refine lv_if_eq (tgt := 276) hx hb dL_foil_233 (by decide) (fun c551 => ?_) (fun c551 => ?_)
    · have hq := ifpe hq c551
      exact b_276 γ _ _ _ _ _ (lv_sub hl [] rfl) hH hS (by omega) (by omega) hq
    · have hq := ifne hq c551
      refine lv_aload_n hx hb dL_foil_236 rfl (lv_at hl 0 rfl) ?_
      refine lv_ldc (v := 10000000) hx hb hown (hT _ tw_865) dL_foil_237 ?_
      refine lv_ldc (v := 120200000) hx hb hown (hT _ tw_877) dL_foil_239 ?_
      refine lv_ldc (v := 610000) hx hb hown (hT _ tw_879) dL_foil_241 ?_
      refine lv_iconst (v := (-1)) hx hb dL_foil_243 (by decide) ?_
      by_cases he552 : (x_L_phrase 10000000 120200000 610000 ((-1)) γ).1 = 0
      rotate_left
      · exact flag_bad (ifne hq he552) hk
      have hq := ifpe hq he552
      refine e_callS (rest := []) hC hl hH hS (c_L_phrase l hfl κ γ 10000000 120200000 610000 ((-1)) he552) tw_858 tw_859 tw_37 tw_860 hd_L_phrase ⟨Nat.le_of_ble_eq_true rfl, Nat.le_of_ble_eq_true rfl⟩ rfl rfl rfl rfl (Nat.le_of_ble_eq_true rfl) dL_foil_244 ⟨by show _ ≤ 1075; omega, by show _ ≤ 21490; omega⟩ rfl (fun H locs hH hS => ?_)
      exact b_247 ((x_L_phrase 10000000 120200000 610000 ((-1)) γ).2.1) (x_L_phrase 10000000 120200000 610000 ((-1)) γ).2.2 _ _ _ _ _ (lv_sub hl [0] rfl) hH hS (by omega) (by omega) hq
  have b_221 : ∀ (s0 : Int32) (γ : St) (H : Heap) (locs : List Loc) (ls : Array Slot) (cells slots : Nat), lv_has ls 2 [(0, .ref (kA κ 7 0))] → HE κ γ H → va_S (AA κ) s.heap H locs → cells + (957) ≤ 1075 → slots + (19419) ≤ 21490 → x_L_foil_221 s0 γ = res → W p l e (headSpec [Cond.code yL_foil cL_foil 2 (some .boolean)] ({ frames := 11, cells := 1075, slots := 21490, locals := 241 } : Room)).room s m ([.ref (kA κ 7 0)] : List Value).toArray below meth c H locs cells slots (MQ below (QL κ res.2.2 (some (.int res.2.1))) ([.ref (kA κ 7 0)] : List Value).toArray s 1075 21490 (AA κ)) (F0 m 221 ls [.int s0]) := by
    intro s0 γ H locs ls cells slots hl hH hS hc1 hc2 hq
    refine lv_if_eq (tgt := 276) hx hb dL_foil_221 (by decide) (fun c553 => ?_) (fun c553 => ?_)
    · have hq := ifpe hq c553
      exact b_276 γ _ _ _ _ _ (lv_sub hl [] rfl) hH hS (by omega) (by omega) hq
    · have hq := ifne hq c553
      refine lv_aload_n hx hb dL_foil_224 rfl (lv_at hl 0 rfl) ?_
      refine lv_iconst (v := (-1)) hx hb dL_foil_225 (by decide) ?_
      refine lv_iconst (v := (-1)) hx hb dL_foil_226 (by decide) ?_
      refine lv_iconst (v := (-1)) hx hb dL_foil_227 (by decide) ?_
      refine lv_iconst (v := 0) hx hb dL_foil_228 (by decide) ?_
      refine lv_iconst (v := 0) hx hb dL_foil_229 (by decide) ?_
      by_cases he554 : (x_L_judged ((-1)) ((-1)) ((-1)) 0 0 γ).1 = 0
      rotate_left
      · exact flag_bad (ifne hq he554) hk
      have hq := ifpe hq he554
      refine e_callS (rest := []) hC hl hH hS (c_L_judged l hfl κ γ ((-1)) ((-1)) ((-1)) 0 0 he554) tw_853 tw_854 tw_37 tw_855 hd_L_judged ⟨Nat.le_of_ble_eq_true rfl, Nat.le_of_ble_eq_true rfl⟩ rfl rfl rfl rfl (Nat.le_of_ble_eq_true rfl) dL_foil_230 ⟨by show _ ≤ 1075; omega, by show _ ≤ 21490; omega⟩ rfl (fun H locs hH hS => ?_)
      exact b_233 ((x_L_judged ((-1)) ((-1)) ((-1)) 0 0 γ).2.1) (x_L_judged ((-1)) ((-1)) ((-1)) 0 0 γ).2.2 _ _ _ _ _ (lv_sub hl [0] rfl) hH hS (by omega) (by omega) hq
  have b_207 : ∀ (s0 : Int32) (γ : St) (H : Heap) (locs : List Loc) (ls : Array Slot) (cells slots : Nat), lv_has ls 2 [(0, .ref (kA κ 7 0))] → HE κ γ H → va_S (AA κ) s.heap H locs → cells + (969) ≤ 1075 → slots + (19679) ≤ 21490 → x_L_foil_207 s0 γ = res → W p l e (headSpec [Cond.code yL_foil cL_foil 2 (some .boolean)] ({ frames := 11, cells := 1075, slots := 21490, locals := 241 } : Room)).room s m ([.ref (kA κ 7 0)] : List Value).toArray below meth c H locs cells slots (MQ below (QL κ res.2.2 (some (.int res.2.1))) ([.ref (kA κ 7 0)] : List Value).toArray s 1075 21490 (AA κ)) (F0 m 207 ls [.int s0]) := by
    intro s0 γ H locs ls cells slots hl hH hS hc1 hc2 hq
    refine lv_if_eq (tgt := 276) hx hb dL_foil_207 (by decide) (fun c555 => ?_) (fun c555 => ?_)
    · have hq := ifpe hq c555
      exact b_276 γ _ _ _ _ _ (lv_sub hl [] rfl) hH hS (by omega) (by omega) hq
    · have hq := ifne hq c555
      refine lv_aload_n hx hb dL_foil_210 rfl (lv_at hl 0 rfl) ?_
      refine lv_ldc (v := 10000000) hx hb hown (hT _ tw_865) dL_foil_211 ?_
      refine lv_ldc (v := 120200000) hx hb hown (hT _ tw_877) dL_foil_213 ?_
      refine lv_ldc (v := 600000) hx hb hown (hT _ tw_878) dL_foil_215 ?_
      refine lv_iconst (v := (-1)) hx hb dL_foil_217 (by decide) ?_
      by_cases he556 : (x_L_phrase 10000000 120200000 600000 ((-1)) γ).1 = 0
      rotate_left
      · exact flag_bad (ifne hq he556) hk
      have hq := ifpe hq he556
      refine e_callS (rest := []) hC hl hH hS (c_L_phrase l hfl κ γ 10000000 120200000 600000 ((-1)) he556) tw_858 tw_859 tw_37 tw_860 hd_L_phrase ⟨Nat.le_of_ble_eq_true rfl, Nat.le_of_ble_eq_true rfl⟩ rfl rfl rfl rfl (Nat.le_of_ble_eq_true rfl) dL_foil_218 ⟨by show _ ≤ 1075; omega, by show _ ≤ 21490; omega⟩ rfl (fun H locs hH hS => ?_)
      exact b_221 ((x_L_phrase 10000000 120200000 600000 ((-1)) γ).2.1) (x_L_phrase 10000000 120200000 600000 ((-1)) γ).2.2 _ _ _ _ _ (lv_sub hl [0] rfl) hH hS (by omega) (by omega) hq
  have b_194 : ∀ (s0 : Int32) (γ : St) (H : Heap) (locs : List Loc) (ls : Array Slot) (cells slots : Nat), lv_has ls 2 [(0, .ref (kA κ 7 0))] → HE κ γ H → va_S (AA κ) s.heap H locs → cells + (973) ≤ 1075 → slots + (19703) ≤ 21490 → x_L_foil_194 s0 γ = res → W p l e (headSpec [Cond.code yL_foil cL_foil 2 (some .boolean)] ({ frames := 11, cells := 1075, slots := 21490, locals := 241 } : Room)).room s m ([.ref (kA κ 7 0)] : List Value).toArray below meth c H locs cells slots (MQ below (QL κ res.2.2 (some (.int res.2.1))) ([.ref (kA κ 7 0)] : List Value).toArray s 1075 21490 (AA κ)) (F0 m 194 ls [.int s0]) := by
    intro s0 γ H locs ls cells slots hl hH hS hc1 hc2 hq
    refine lv_if_eq (tgt := 276) hx hb dL_foil_194 (by decide) (fun c557 => ?_) (fun c557 => ?_)
    · have hq := ifpe hq c557
      exact b_276 γ _ _ _ _ _ (lv_sub hl [] rfl) hH hS (by omega) (by omega) hq
    · have hq := ifne hq c557
      refine lv_aload_n hx hb dL_foil_197 rfl (lv_at hl 0 rfl) ?_
      refine lv_iconst (v := 0) hx hb dL_foil_198 (by decide) ?_
      refine lv_iconst (v := 0) hx hb dL_foil_199 (by decide) ?_
      refine lv_iconst (v := 0) hx hb dL_foil_200 (by decide) ?_
      refine lv_iconst (v := 1) hx hb dL_foil_201 (by decide) ?_
      refine lv_bipush (v := 6) hx hb dL_foil_202 (by decide) ?_
      by_cases he558 : (x_L_judged 0 0 0 1 6 γ).1 = 0
      rotate_left
      · exact flag_bad (ifne hq he558) hk
      have hq := ifpe hq he558
      refine e_callS (rest := []) hC hl hH hS (c_L_judged l hfl κ γ 0 0 0 1 6 he558) tw_853 tw_854 tw_37 tw_855 hd_L_judged ⟨Nat.le_of_ble_eq_true rfl, Nat.le_of_ble_eq_true rfl⟩ rfl rfl rfl rfl (Nat.le_of_ble_eq_true rfl) dL_foil_204 ⟨by show _ ≤ 1075; omega, by show _ ≤ 21490; omega⟩ rfl (fun H locs hH hS => ?_)
      exact b_207 ((x_L_judged 0 0 0 1 6 γ).2.1) (x_L_judged 0 0 0 1 6 γ).2.2 _ _ _ _ _ (lv_sub hl [0] rfl) hH hS (by omega) (by omega) hq
  have b_177 : ∀ (s0 : Int32) (γ : St) (H : Heap) (locs : List Loc) (ls : Array Slot) (cells slots : Nat), lv_has ls 2 [(0, .ref (kA κ 7 0))] → HE κ γ H → va_S (AA κ) s.heap H locs → cells + (985) ≤ 1075 → slots + (19963) ≤ 21490 → x_L_foil_177 s0 γ = res → W p l e (headSpec [Cond.code yL_foil cL_foil 2 (some .boolean)] ({ frames := 11, cells := 1075, slots := 21490, locals := 241 } : Room)).room s m ([.ref (kA κ 7 0)] : List Value).toArray below meth c H locs cells slots (MQ below (QL κ res.2.2 (some (.int res.2.1))) ([.ref (kA κ 7 0)] : List Value).toArray s 1075 21490 (AA κ)) (F0 m 177 ls [.int s0]) := by
    intro s0 γ H locs ls cells slots hl hH hS hc1 hc2 hq
    refine lv_if_ne (tgt := 182) hx hb dL_foil_177 (by decide) (fun c559 => ?_) (fun c559 => ?_)
    · have hq := ifne hq c559
      refine lv_aload_n hx hb dL_foil_182 rfl (lv_at hl 0 rfl) ?_
      refine lv_ldc (v := 10000000) hx hb hown (hT _ tw_865) dL_foil_183 ?_
      refine lv_ldc (v := 100100000) hx hb hown (hT _ tw_874) dL_foil_185 ?_
      refine lv_ldc (v := 171000020) hx hb hown (hT _ tw_875) dL_foil_187 ?_
      refine lv_ldc (v := 71100020) hx hb hown (hT _ tw_876) dL_foil_189 ?_
      by_cases he560 : (x_L_phrase 10000000 100100000 171000020 71100020 γ).1 = 0
      rotate_left
      · exact flag_bad (ifne hq he560) hk
      have hq := ifpe hq he560
      refine e_callS (rest := []) hC hl hH hS (c_L_phrase l hfl κ γ 10000000 100100000 171000020 71100020 he560) tw_858 tw_859 tw_37 tw_860 hd_L_phrase ⟨Nat.le_of_ble_eq_true rfl, Nat.le_of_ble_eq_true rfl⟩ rfl rfl rfl rfl (Nat.le_of_ble_eq_true rfl) dL_foil_191 ⟨by show _ ≤ 1075; omega, by show _ ≤ 21490; omega⟩ rfl (fun H locs hH hS => ?_)
      exact b_194 ((x_L_phrase 10000000 100100000 171000020 71100020 γ).2.1) (x_L_phrase 10000000 100100000 171000020 71100020 γ).2.2 _ _ _ _ _ (lv_sub hl [0] rfl) hH hS (by omega) (by omega) hq
    · have hq := ifpe hq c559
      exact b_180 γ _ _ _ _ _ (lv_sub hl [] rfl) hH hS (by omega) (by omega) hq
  have b_164 : ∀ (s0 : Int32) (γ : St) (H : Heap) (locs : List Loc) (ls : Array Slot) (cells slots : Nat), lv_has ls 2 [(0, .ref (kA κ 7 0))] → HE κ γ H → va_S (AA κ) s.heap H locs → cells + (989) ≤ 1075 → slots + (19987) ≤ 21490 → x_L_foil_164 s0 γ = res → W p l e (headSpec [Cond.code yL_foil cL_foil 2 (some .boolean)] ({ frames := 11, cells := 1075, slots := 21490, locals := 241 } : Room)).room s m ([.ref (kA κ 7 0)] : List Value).toArray below meth c H locs cells slots (MQ below (QL κ res.2.2 (some (.int res.2.1))) ([.ref (kA κ 7 0)] : List Value).toArray s 1075 21490 (AA κ)) (F0 m 164 ls [.int s0]) := by
    intro s0 γ H locs ls cells slots hl hH hS hc1 hc2 hq
    refine lv_if_eq (tgt := 180) hx hb dL_foil_164 (by decide) (fun c561 => ?_) (fun c561 => ?_)
    · have hq := ifpe hq c561
      exact b_180 γ _ _ _ _ _ (lv_sub hl [] rfl) hH hS (by omega) (by omega) hq
    · have hq := ifne hq c561
      refine lv_aload_n hx hb dL_foil_167 rfl (lv_at hl 0 rfl) ?_
      refine lv_iconst (v := 0) hx hb dL_foil_168 (by decide) ?_
      refine lv_iconst (v := 0) hx hb dL_foil_169 (by decide) ?_
      refine lv_iconst (v := 0) hx hb dL_foil_170 (by decide) ?_
      refine lv_iconst (v := 1) hx hb dL_foil_171 (by decide) ?_
      refine lv_bipush (v := 6) hx hb dL_foil_172 (by decide) ?_
      by_cases he562 : (x_L_judged 0 0 0 1 6 γ).1 = 0
      rotate_left
      · exact flag_bad (ifne hq he562) hk
      have hq := ifpe hq he562
      refine e_callS (rest := []) hC hl hH hS (c_L_judged l hfl κ γ 0 0 0 1 6 he562) tw_853 tw_854 tw_37 tw_855 hd_L_judged ⟨Nat.le_of_ble_eq_true rfl, Nat.le_of_ble_eq_true rfl⟩ rfl rfl rfl rfl (Nat.le_of_ble_eq_true rfl) dL_foil_174 ⟨by show _ ≤ 1075; omega, by show _ ≤ 21490; omega⟩ rfl (fun H locs hH hS => ?_)
      exact b_177 ((x_L_judged 0 0 0 1 6 γ).2.1) (x_L_judged 0 0 0 1 6 γ).2.2 _ _ _ _ _ (lv_sub hl [0] rfl) hH hS (by omega) (by omega) hq
  have b_150 : ∀ (s0 : Int32) (γ : St) (H : Heap) (locs : List Loc) (ls : Array Slot) (cells slots : Nat), lv_has ls 2 [(0, .ref (kA κ 7 0))] → HE κ γ H → va_S (AA κ) s.heap H locs → cells + (1001) ≤ 1075 → slots + (20247) ≤ 21490 → x_L_foil_150 s0 γ = res → W p l e (headSpec [Cond.code yL_foil cL_foil 2 (some .boolean)] ({ frames := 11, cells := 1075, slots := 21490, locals := 241 } : Room)).room s m ([.ref (kA κ 7 0)] : List Value).toArray below meth c H locs cells slots (MQ below (QL κ res.2.2 (some (.int res.2.1))) ([.ref (kA κ 7 0)] : List Value).toArray s 1075 21490 (AA κ)) (F0 m 150 ls [.int s0]) := by
    intro s0 γ H locs ls cells slots hl hH hS hc1 hc2 hq
    refine lv_if_eq (tgt := 180) hx hb dL_foil_150 (by decide) (fun c563 => ?_) (fun c563 => ?_)
    · have hq := ifpe hq c563
      exact b_180 γ _ _ _ _ _ (lv_sub hl [] rfl) hH hS (by omega) (by omega) hq
    · have hq := ifne hq c563
      refine lv_aload_n hx hb dL_foil_153 rfl (lv_at hl 0 rfl) ?_
      refine lv_iconst (v := 0) hx hb dL_foil_154 (by decide) ?_
      refine lv_ldc (v := 100410000) hx hb hown (hT _ tw_873) dL_foil_155 ?_
      refine lv_ldc (v := 70500020) hx hb hown (hT _ tw_871) dL_foil_157 ?_
      refine lv_ldc (v := 170600020) hx hb hown (hT _ tw_872) dL_foil_159 ?_
      by_cases he564 : (x_L_phrase 0 100410000 70500020 170600020 γ).1 = 0
      rotate_left
      · exact flag_bad (ifne hq he564) hk
      have hq := ifpe hq he564
      refine e_callS (rest := []) hC hl hH hS (c_L_phrase l hfl κ γ 0 100410000 70500020 170600020 he564) tw_858 tw_859 tw_37 tw_860 hd_L_phrase ⟨Nat.le_of_ble_eq_true rfl, Nat.le_of_ble_eq_true rfl⟩ rfl rfl rfl rfl (Nat.le_of_ble_eq_true rfl) dL_foil_161 ⟨by show _ ≤ 1075; omega, by show _ ≤ 21490; omega⟩ rfl (fun H locs hH hS => ?_)
      exact b_164 ((x_L_phrase 0 100410000 70500020 170600020 γ).2.1) (x_L_phrase 0 100410000 70500020 170600020 γ).2.2 _ _ _ _ _ (lv_sub hl [0] rfl) hH hS (by omega) (by omega) hq
  have b_138 : ∀ (s0 : Int32) (γ : St) (H : Heap) (locs : List Loc) (ls : Array Slot) (cells slots : Nat), lv_has ls 2 [(0, .ref (kA κ 7 0))] → HE κ γ H → va_S (AA κ) s.heap H locs → cells + (1005) ≤ 1075 → slots + (20271) ≤ 21490 → x_L_foil_138 s0 γ = res → W p l e (headSpec [Cond.code yL_foil cL_foil 2 (some .boolean)] ({ frames := 11, cells := 1075, slots := 21490, locals := 241 } : Room)).room s m ([.ref (kA κ 7 0)] : List Value).toArray below meth c H locs cells slots (MQ below (QL κ res.2.2 (some (.int res.2.1))) ([.ref (kA κ 7 0)] : List Value).toArray s 1075 21490 (AA κ)) (F0 m 138 ls [.int s0]) := by
    intro s0 γ H locs ls cells slots hl hH hS hc1 hc2 hq
    refine lv_if_eq (tgt := 180) hx hb dL_foil_138 (by decide) (fun c565 => ?_) (fun c565 => ?_)
    · have hq := ifpe hq c565
      exact b_180 γ _ _ _ _ _ (lv_sub hl [] rfl) hH hS (by omega) (by omega) hq
    · have hq := ifne hq c565
      refine lv_aload_n hx hb dL_foil_141 rfl (lv_at hl 0 rfl) ?_
      refine lv_iconst (v := (-1)) hx hb dL_foil_142 (by decide) ?_
      refine lv_iconst (v := 0) hx hb dL_foil_143 (by decide) ?_
      refine lv_iconst (v := 0) hx hb dL_foil_144 (by decide) ?_
      refine lv_iconst (v := 0) hx hb dL_foil_145 (by decide) ?_
      refine lv_iconst (v := 4) hx hb dL_foil_146 (by decide) ?_
      by_cases he566 : (x_L_judged ((-1)) 0 0 0 4 γ).1 = 0
      rotate_left
      · exact flag_bad (ifne hq he566) hk
      have hq := ifpe hq he566
      refine e_callS (rest := []) hC hl hH hS (c_L_judged l hfl κ γ ((-1)) 0 0 0 4 he566) tw_853 tw_854 tw_37 tw_855 hd_L_judged ⟨Nat.le_of_ble_eq_true rfl, Nat.le_of_ble_eq_true rfl⟩ rfl rfl rfl rfl (Nat.le_of_ble_eq_true rfl) dL_foil_147 ⟨by show _ ≤ 1075; omega, by show _ ≤ 21490; omega⟩ rfl (fun H locs hH hS => ?_)
      exact b_150 ((x_L_judged ((-1)) 0 0 0 4 γ).2.1) (x_L_judged ((-1)) 0 0 0 4 γ).2.2 _ _ _ _ _ (lv_sub hl [0] rfl) hH hS (by omega) (by omega) hq
  have b_122 : ∀ (s0 : Int32) (γ : St) (H : Heap) (locs : List Loc) (ls : Array Slot) (cells slots : Nat), lv_has ls 2 [(0, .ref (kA κ 7 0))] → HE κ γ H → va_S (AA κ) s.heap H locs → cells + (1017) ≤ 1075 → slots + (20531) ≤ 21490 → x_L_foil_122 s0 γ = res → W p l e (headSpec [Cond.code yL_foil cL_foil 2 (some .boolean)] ({ frames := 11, cells := 1075, slots := 21490, locals := 241 } : Room)).room s m ([.ref (kA κ 7 0)] : List Value).toArray below meth c H locs cells slots (MQ below (QL κ res.2.2 (some (.int res.2.1))) ([.ref (kA κ 7 0)] : List Value).toArray s 1075 21490 (AA κ)) (F0 m 122 ls [.int s0]) := by
    intro s0 γ H locs ls cells slots hl hH hS hc1 hc2 hq
    refine lv_if_ne (tgt := 127) hx hb dL_foil_122 (by decide) (fun c567 => ?_) (fun c567 => ?_)
    · have hq := ifne hq c567
      refine lv_aload_n hx hb dL_foil_127 rfl (lv_at hl 0 rfl) ?_
      refine lv_iconst (v := 0) hx hb dL_foil_128 (by decide) ?_
      refine lv_ldc (v := 100400000) hx hb hown (hT _ tw_870) dL_foil_129 ?_
      refine lv_ldc (v := 70500020) hx hb hown (hT _ tw_871) dL_foil_131 ?_
      refine lv_ldc (v := 170600020) hx hb hown (hT _ tw_872) dL_foil_133 ?_
      by_cases he568 : (x_L_phrase 0 100400000 70500020 170600020 γ).1 = 0
      rotate_left
      · exact flag_bad (ifne hq he568) hk
      have hq := ifpe hq he568
      refine e_callS (rest := []) hC hl hH hS (c_L_phrase l hfl κ γ 0 100400000 70500020 170600020 he568) tw_858 tw_859 tw_37 tw_860 hd_L_phrase ⟨Nat.le_of_ble_eq_true rfl, Nat.le_of_ble_eq_true rfl⟩ rfl rfl rfl rfl (Nat.le_of_ble_eq_true rfl) dL_foil_135 ⟨by show _ ≤ 1075; omega, by show _ ≤ 21490; omega⟩ rfl (fun H locs hH hS => ?_)
      exact b_138 ((x_L_phrase 0 100400000 70500020 170600020 γ).2.1) (x_L_phrase 0 100400000 70500020 170600020 γ).2.2 _ _ _ _ _ (lv_sub hl [0] rfl) hH hS (by omega) (by omega) hq
    · have hq := ifpe hq c567
      exact b_125 γ _ _ _ _ _ (lv_sub hl [] rfl) hH hS (by omega) (by omega) hq
  have b_110 : ∀ (s0 : Int32) (γ : St) (H : Heap) (locs : List Loc) (ls : Array Slot) (cells slots : Nat), lv_has ls 2 [(0, .ref (kA κ 7 0))] → HE κ γ H → va_S (AA κ) s.heap H locs → cells + (1021) ≤ 1075 → slots + (20555) ≤ 21490 → x_L_foil_110 s0 γ = res → W p l e (headSpec [Cond.code yL_foil cL_foil 2 (some .boolean)] ({ frames := 11, cells := 1075, slots := 21490, locals := 241 } : Room)).room s m ([.ref (kA κ 7 0)] : List Value).toArray below meth c H locs cells slots (MQ below (QL κ res.2.2 (some (.int res.2.1))) ([.ref (kA κ 7 0)] : List Value).toArray s 1075 21490 (AA κ)) (F0 m 110 ls [.int s0]) := by
    intro s0 γ H locs ls cells slots hl hH hS hc1 hc2 hq
    refine lv_if_eq (tgt := 125) hx hb dL_foil_110 (by decide) (fun c569 => ?_) (fun c569 => ?_)
    · have hq := ifpe hq c569
      exact b_125 γ _ _ _ _ _ (lv_sub hl [] rfl) hH hS (by omega) (by omega) hq
    · have hq := ifne hq c569
      refine lv_aload_n hx hb dL_foil_113 rfl (lv_at hl 0 rfl) ?_
      refine lv_iconst (v := (-1)) hx hb dL_foil_114 (by decide) ?_
      refine lv_iconst (v := (-1)) hx hb dL_foil_115 (by decide) ?_
      refine lv_iconst (v := (-1)) hx hb dL_foil_116 (by decide) ?_
      refine lv_iconst (v := 0) hx hb dL_foil_117 (by decide) ?_
      refine lv_iconst (v := 0) hx hb dL_foil_118 (by decide) ?_
      by_cases he570 : (x_L_judged ((-1)) ((-1)) ((-1)) 0 0 γ).1 = 0
      rotate_left
      · exact flag_bad (ifne hq he570) hk
      have hq := ifpe hq he570
      refine e_callS (rest := []) hC hl hH hS (c_L_judged l hfl κ γ ((-1)) ((-1)) ((-1)) 0 0 he570) tw_853 tw_854 tw_37 tw_855 hd_L_judged ⟨Nat.le_of_ble_eq_true rfl, Nat.le_of_ble_eq_true rfl⟩ rfl rfl rfl rfl (Nat.le_of_ble_eq_true rfl) dL_foil_119 ⟨by show _ ≤ 1075; omega, by show _ ≤ 21490; omega⟩ rfl (fun H locs hH hS => ?_)
      exact b_122 ((x_L_judged ((-1)) ((-1)) ((-1)) 0 0 γ).2.1) (x_L_judged ((-1)) ((-1)) ((-1)) 0 0 γ).2.2 _ _ _ _ _ (lv_sub hl [0] rfl) hH hS (by omega) (by omega) hq
  have b_97 : ∀ (s0 : Int32) (γ : St) (H : Heap) (locs : List Loc) (ls : Array Slot) (cells slots : Nat), lv_has ls 2 [(0, .ref (kA κ 7 0))] → HE κ γ H → va_S (AA κ) s.heap H locs → cells + (1033) ≤ 1075 → slots + (20815) ≤ 21490 → x_L_foil_97 s0 γ = res → W p l e (headSpec [Cond.code yL_foil cL_foil 2 (some .boolean)] ({ frames := 11, cells := 1075, slots := 21490, locals := 241 } : Room)).room s m ([.ref (kA κ 7 0)] : List Value).toArray below meth c H locs cells slots (MQ below (QL κ res.2.2 (some (.int res.2.1))) ([.ref (kA κ 7 0)] : List Value).toArray s 1075 21490 (AA κ)) (F0 m 97 ls [.int s0]) := by
    intro s0 γ H locs ls cells slots hl hH hS hc1 hc2 hq
    refine lv_if_eq (tgt := 125) hx hb dL_foil_97 (by decide) (fun c571 => ?_) (fun c571 => ?_)
    · have hq := ifpe hq c571
      exact b_125 γ _ _ _ _ _ (lv_sub hl [] rfl) hH hS (by omega) (by omega) hq
    · have hq := ifne hq c571
      refine lv_aload_n hx hb dL_foil_100 rfl (lv_at hl 0 rfl) ?_
      refine lv_ldc (v := 90100500) hx hb hown (hT _ tw_868) dL_foil_101 ?_
      refine lv_ldc (v := 190100500) hx hb hown (hT _ tw_869) dL_foil_103 ?_
      refine lv_iconst (v := (-1)) hx hb dL_foil_105 (by decide) ?_
      refine lv_iconst (v := (-1)) hx hb dL_foil_106 (by decide) ?_
      by_cases he572 : (x_L_phrase 90100500 190100500 ((-1)) ((-1)) γ).1 = 0
      rotate_left
      · exact flag_bad (ifne hq he572) hk
      have hq := ifpe hq he572
      refine e_callS (rest := []) hC hl hH hS (c_L_phrase l hfl κ γ 90100500 190100500 ((-1)) ((-1)) he572) tw_858 tw_859 tw_37 tw_860 hd_L_phrase ⟨Nat.le_of_ble_eq_true rfl, Nat.le_of_ble_eq_true rfl⟩ rfl rfl rfl rfl (Nat.le_of_ble_eq_true rfl) dL_foil_107 ⟨by show _ ≤ 1075; omega, by show _ ≤ 21490; omega⟩ rfl (fun H locs hH hS => ?_)
      exact b_110 ((x_L_phrase 90100500 190100500 ((-1)) ((-1)) γ).2.1) (x_L_phrase 90100500 190100500 ((-1)) ((-1)) γ).2.2 _ _ _ _ _ (lv_sub hl [0] rfl) hH hS (by omega) (by omega) hq
  have b_85 : ∀ (s0 : Int32) (γ : St) (H : Heap) (locs : List Loc) (ls : Array Slot) (cells slots : Nat), lv_has ls 2 [(0, .ref (kA κ 7 0))] → HE κ γ H → va_S (AA κ) s.heap H locs → cells + (1037) ≤ 1075 → slots + (20839) ≤ 21490 → x_L_foil_85 s0 γ = res → W p l e (headSpec [Cond.code yL_foil cL_foil 2 (some .boolean)] ({ frames := 11, cells := 1075, slots := 21490, locals := 241 } : Room)).room s m ([.ref (kA κ 7 0)] : List Value).toArray below meth c H locs cells slots (MQ below (QL κ res.2.2 (some (.int res.2.1))) ([.ref (kA κ 7 0)] : List Value).toArray s 1075 21490 (AA κ)) (F0 m 85 ls [.int s0]) := by
    intro s0 γ H locs ls cells slots hl hH hS hc1 hc2 hq
    refine lv_if_eq (tgt := 125) hx hb dL_foil_85 (by decide) (fun c573 => ?_) (fun c573 => ?_)
    · have hq := ifpe hq c573
      exact b_125 γ _ _ _ _ _ (lv_sub hl [] rfl) hH hS (by omega) (by omega) hq
    · have hq := ifne hq c573
      refine lv_aload_n hx hb dL_foil_88 rfl (lv_at hl 0 rfl) ?_
      refine lv_iconst (v := (-1)) hx hb dL_foil_89 (by decide) ?_
      refine lv_iconst (v := (-1)) hx hb dL_foil_90 (by decide) ?_
      refine lv_iconst (v := 1) hx hb dL_foil_91 (by decide) ?_
      refine lv_iconst (v := 0) hx hb dL_foil_92 (by decide) ?_
      refine lv_iconst (v := 2) hx hb dL_foil_93 (by decide) ?_
      by_cases he574 : (x_L_judged ((-1)) ((-1)) 1 0 2 γ).1 = 0
      rotate_left
      · exact flag_bad (ifne hq he574) hk
      have hq := ifpe hq he574
      refine e_callS (rest := []) hC hl hH hS (c_L_judged l hfl κ γ ((-1)) ((-1)) 1 0 2 he574) tw_853 tw_854 tw_37 tw_855 hd_L_judged ⟨Nat.le_of_ble_eq_true rfl, Nat.le_of_ble_eq_true rfl⟩ rfl rfl rfl rfl (Nat.le_of_ble_eq_true rfl) dL_foil_94 ⟨by show _ ≤ 1075; omega, by show _ ≤ 21490; omega⟩ rfl (fun H locs hH hS => ?_)
      exact b_97 ((x_L_judged ((-1)) ((-1)) 1 0 2 γ).2.1) (x_L_judged ((-1)) ((-1)) 1 0 2 γ).2.2 _ _ _ _ _ (lv_sub hl [0] rfl) hH hS (by omega) (by omega) hq
  have b_72 : ∀ (s0 : Int32) (γ : St) (H : Heap) (locs : List Loc) (ls : Array Slot) (cells slots : Nat), lv_has ls 2 [(0, .ref (kA κ 7 0))] → HE κ γ H → va_S (AA κ) s.heap H locs → cells + (1049) ≤ 1075 → slots + (21099) ≤ 21490 → x_L_foil_72 s0 γ = res → W p l e (headSpec [Cond.code yL_foil cL_foil 2 (some .boolean)] ({ frames := 11, cells := 1075, slots := 21490, locals := 241 } : Room)).room s m ([.ref (kA κ 7 0)] : List Value).toArray below meth c H locs cells slots (MQ below (QL κ res.2.2 (some (.int res.2.1))) ([.ref (kA κ 7 0)] : List Value).toArray s 1075 21490 (AA κ)) (F0 m 72 ls [.int s0]) := by
    intro s0 γ H locs ls cells slots hl hH hS hc1 hc2 hq
    refine lv_if_eq (tgt := 125) hx hb dL_foil_72 (by decide) (fun c575 => ?_) (fun c575 => ?_)
    · have hq := ifpe hq c575
      exact b_125 γ _ _ _ _ _ (lv_sub hl [] rfl) hH hS (by omega) (by omega) hq
    · have hq := ifne hq c575
      refine lv_aload_n hx hb dL_foil_75 rfl (lv_at hl 0 rfl) ?_
      refine lv_ldc (v := 71000013) hx hb hown (hT _ tw_866) dL_foil_76 ?_
      refine lv_ldc (v := 181200020) hx hb hown (hT _ tw_867) dL_foil_78 ?_
      refine lv_iconst (v := (-1)) hx hb dL_foil_80 (by decide) ?_
      refine lv_iconst (v := (-1)) hx hb dL_foil_81 (by decide) ?_
      by_cases he576 : (x_L_phrase 71000013 181200020 ((-1)) ((-1)) γ).1 = 0
      rotate_left
      · exact flag_bad (ifne hq he576) hk
      have hq := ifpe hq he576
      refine e_callS (rest := []) hC hl hH hS (c_L_phrase l hfl κ γ 71000013 181200020 ((-1)) ((-1)) he576) tw_858 tw_859 tw_37 tw_860 hd_L_phrase ⟨Nat.le_of_ble_eq_true rfl, Nat.le_of_ble_eq_true rfl⟩ rfl rfl rfl rfl (Nat.le_of_ble_eq_true rfl) dL_foil_82 ⟨by show _ ≤ 1075; omega, by show _ ≤ 21490; omega⟩ rfl (fun H locs hH hS => ?_)
      exact b_85 ((x_L_phrase 71000013 181200020 ((-1)) ((-1)) γ).2.1) (x_L_phrase 71000013 181200020 ((-1)) ((-1)) γ).2.2 _ _ _ _ _ (lv_sub hl [0] rfl) hH hS (by omega) (by omega) hq
  have b_60 : ∀ (s0 : Int32) (γ : St) (H : Heap) (locs : List Loc) (ls : Array Slot) (cells slots : Nat), lv_has ls 2 [(0, .ref (kA κ 7 0))] → HE κ γ H → va_S (AA κ) s.heap H locs → cells + (1053) ≤ 1075 → slots + (21123) ≤ 21490 → x_L_foil_60 s0 γ = res → W p l e (headSpec [Cond.code yL_foil cL_foil 2 (some .boolean)] ({ frames := 11, cells := 1075, slots := 21490, locals := 241 } : Room)).room s m ([.ref (kA κ 7 0)] : List Value).toArray below meth c H locs cells slots (MQ below (QL κ res.2.2 (some (.int res.2.1))) ([.ref (kA κ 7 0)] : List Value).toArray s 1075 21490 (AA κ)) (F0 m 60 ls [.int s0]) := by
    intro s0 γ H locs ls cells slots hl hH hS hc1 hc2 hq
    refine lv_if_eq (tgt := 125) hx hb dL_foil_60 (by decide) (fun c577 => ?_) (fun c577 => ?_)
    · have hq := ifpe hq c577
      exact b_125 γ _ _ _ _ _ (lv_sub hl [] rfl) hH hS (by omega) (by omega) hq
    · have hq := ifne hq c577
      refine lv_aload_n hx hb dL_foil_63 rfl (lv_at hl 0 rfl) ?_
      refine lv_iconst (v := 0) hx hb dL_foil_64 (by decide) ?_
      refine lv_iconst (v := 0) hx hb dL_foil_65 (by decide) ?_
      refine lv_iconst (v := (-1)) hx hb dL_foil_66 (by decide) ?_
      refine lv_iconst (v := 1) hx hb dL_foil_67 (by decide) ?_
      refine lv_iconst (v := 1) hx hb dL_foil_68 (by decide) ?_
      by_cases he578 : (x_L_judged 0 0 ((-1)) 1 1 γ).1 = 0
      rotate_left
      · exact flag_bad (ifne hq he578) hk
      have hq := ifpe hq he578
      refine e_callS (rest := []) hC hl hH hS (c_L_judged l hfl κ γ 0 0 ((-1)) 1 1 he578) tw_853 tw_854 tw_37 tw_855 hd_L_judged ⟨Nat.le_of_ble_eq_true rfl, Nat.le_of_ble_eq_true rfl⟩ rfl rfl rfl rfl (Nat.le_of_ble_eq_true rfl) dL_foil_69 ⟨by show _ ≤ 1075; omega, by show _ ≤ 21490; omega⟩ rfl (fun H locs hH hS => ?_)
      exact b_72 ((x_L_judged 0 0 ((-1)) 1 1 γ).2.1) (x_L_judged 0 0 ((-1)) 1 1 γ).2.2 _ _ _ _ _ (lv_sub hl [0] rfl) hH hS (by omega) (by omega) hq
  have b_45 : ∀ (s0 : Int32) (γ : St) (H : Heap) (locs : List Loc) (ls : Array Slot) (cells slots : Nat), lv_has ls 2 [(0, .ref (kA κ 7 0))] → HE κ γ H → va_S (AA κ) s.heap H locs → cells + (1065) ≤ 1075 → slots + (21383) ≤ 21490 → x_L_foil_45 s0 γ = res → W p l e (headSpec [Cond.code yL_foil cL_foil 2 (some .boolean)] ({ frames := 11, cells := 1075, slots := 21490, locals := 241 } : Room)).room s m ([.ref (kA κ 7 0)] : List Value).toArray below meth c H locs cells slots (MQ below (QL κ res.2.2 (some (.int res.2.1))) ([.ref (kA κ 7 0)] : List Value).toArray s 1075 21490 (AA κ)) (F0 m 45 ls [.int s0]) := by
    intro s0 γ H locs ls cells slots hl hH hS hc1 hc2 hq
    refine lv_if_ne (tgt := 50) hx hb dL_foil_45 (by decide) (fun c579 => ?_) (fun c579 => ?_)
    · have hq := ifne hq c579
      refine lv_aload_n hx hb dL_foil_50 rfl (lv_at hl 0 rfl) ?_
      refine lv_ldc (v := 1000000) hx hb hown (hT _ tw_856) dL_foil_51 ?_
      refine lv_ldc (v := 71500014) hx hb hown (hT _ tw_857) dL_foil_53 ?_
      refine lv_iconst (v := (-1)) hx hb dL_foil_55 (by decide) ?_
      refine lv_iconst (v := (-1)) hx hb dL_foil_56 (by decide) ?_
      by_cases he580 : (x_L_phrase 1000000 71500014 ((-1)) ((-1)) γ).1 = 0
      rotate_left
      · exact flag_bad (ifne hq he580) hk
      have hq := ifpe hq he580
      refine e_callS (rest := []) hC hl hH hS (c_L_phrase l hfl κ γ 1000000 71500014 ((-1)) ((-1)) he580) tw_858 tw_859 tw_37 tw_860 hd_L_phrase ⟨Nat.le_of_ble_eq_true rfl, Nat.le_of_ble_eq_true rfl⟩ rfl rfl rfl rfl (Nat.le_of_ble_eq_true rfl) dL_foil_57 ⟨by show _ ≤ 1075; omega, by show _ ≤ 21490; omega⟩ rfl (fun H locs hH hS => ?_)
      exact b_60 ((x_L_phrase 1000000 71500014 ((-1)) ((-1)) γ).2.1) (x_L_phrase 1000000 71500014 ((-1)) ((-1)) γ).2.2 _ _ _ _ _ (lv_sub hl [0] rfl) hH hS (by omega) (by omega) hq
    · have hq := ifpe hq c579
      exact b_48 γ _ _ _ _ _ (lv_sub hl [] rfl) hH hS (by omega) (by omega) hq
  have b_23 : ∀ (s0 : Int32) (γ : St) (H : Heap) (locs : List Loc) (ls : Array Slot) (cells slots : Nat), lv_has ls 2 [(0, .ref (kA κ 7 0))] → HE κ γ H → va_S (AA κ) s.heap H locs → cells + (1069) ≤ 1075 → slots + (21407) ≤ 21490 → x_L_foil_23 s0 γ = res → W p l e (headSpec [Cond.code yL_foil cL_foil 2 (some .boolean)] ({ frames := 11, cells := 1075, slots := 21490, locals := 241 } : Room)).room s m ([.ref (kA κ 7 0)] : List Value).toArray below meth c H locs cells slots (MQ below (QL κ res.2.2 (some (.int res.2.1))) ([.ref (kA κ 7 0)] : List Value).toArray s 1075 21490 (AA κ)) (F0 m 23 ls [.int s0]) := by
    intro s0 γ H locs ls cells slots hl hH hS hc1 hc2 hq
    refine lv_bipush (v := (-73)) hx hb dL_foil_23 (by decide) ?_
    refine lv_icmp_ne (tgt := 48) hx hb dL_foil_25 (by decide) (fun c581 => ?_) (fun c581 => ?_)
    · have hq := ifne hq c581
      exact b_48 γ _ _ _ _ _ (lv_sub hl [] rfl) hH hS (by omega) (by omega) hq
    · have hq := ifpe hq c581
      refine lv_aload_n hx hb dL_foil_28 rfl (lv_at hl 0 rfl) ?_
      refine e_callV (rest := []) hC hl hH hS (co_reason l κ γ) tw_250 tw_251 tw_252 tw_38 tw_253 hd_X7_reason ⟨Nat.le_of_ble_eq_true rfl, Nat.le_of_ble_eq_true rfl⟩ rfl rfl rfl rfl (Nat.le_of_ble_eq_true rfl) dL_foil_29 ⟨by show _ ≤ 1075; omega, by show _ ≤ 21490; omega⟩ rfl (fun H locs hH hS => ?_)
      refine lv_iconst (v := (-1)) hx hb dL_foil_32 (by decide) ?_
      refine lv_icmp_ne (tgt := 48) hx hb dL_foil_33 (by decide) (fun c582 => ?_) (fun c582 => ?_)
      · have hq := ifne hq c582
        exact b_48 γ _ _ _ _ _ (lv_sub hl [] rfl) hH hS (by omega) (by omega) hq
      · have hq := ifpe hq c582
        refine lv_aload_n hx hb dL_foil_36 rfl (lv_at hl 0 rfl) ?_
        refine lv_iconst (v := (-1)) hx hb dL_foil_37 (by decide) ?_
        refine lv_iconst (v := (-1)) hx hb dL_foil_38 (by decide) ?_
        refine lv_iconst (v := (-1)) hx hb dL_foil_39 (by decide) ?_
        refine lv_iconst (v := 0) hx hb dL_foil_40 (by decide) ?_
        refine lv_iconst (v := 0) hx hb dL_foil_41 (by decide) ?_
        by_cases he583 : (x_L_judged ((-1)) ((-1)) ((-1)) 0 0 γ).1 = 0
        rotate_left
        · exact flag_bad (ifne hq he583) hk
        have hq := ifpe hq he583
        refine e_callS (rest := []) hC hl hH hS (c_L_judged l hfl κ γ ((-1)) ((-1)) ((-1)) 0 0 he583) tw_853 tw_854 tw_37 tw_855 hd_L_judged ⟨Nat.le_of_ble_eq_true rfl, Nat.le_of_ble_eq_true rfl⟩ rfl rfl rfl rfl (Nat.le_of_ble_eq_true rfl) dL_foil_42 ⟨by show _ ≤ 1075; omega, by show _ ≤ 21490; omega⟩ rfl (fun H locs hH hS => ?_)
        exact b_45 ((x_L_judged ((-1)) ((-1)) ((-1)) 0 0 γ).2.1) (x_L_judged ((-1)) ((-1)) ((-1)) 0 0 γ).2.2 _ _ _ _ _ (lv_sub hl [0] rfl) hH hS (by omega) (by omega) hq
  have b_10 : ∀ (s0 : Int32) (γ : St) (H : Heap) (locs : List Loc) (ls : Array Slot) (cells slots : Nat), lv_has ls 2 [(0, .ref (kA κ 7 0))] → HE κ γ H → va_S (AA κ) s.heap H locs → cells + (1072) ≤ 1075 → slots + (21472) ≤ 21490 → x_L_foil_10 s0 γ = res → W p l e (headSpec [Cond.code yL_foil cL_foil 2 (some .boolean)] ({ frames := 11, cells := 1075, slots := 21490, locals := 241 } : Room)).room s m ([.ref (kA κ 7 0)] : List Value).toArray below meth c H locs cells slots (MQ below (QL κ res.2.2 (some (.int res.2.1))) ([.ref (kA κ 7 0)] : List Value).toArray s 1075 21490 (AA κ)) (F0 m 10 ls [.int s0]) := by
    intro s0 γ H locs ls cells slots hl hH hS hc1 hc2 hq
    refine lv_if_ne (tgt := 48) hx hb dL_foil_10 (by decide) (fun c584 => ?_) (fun c584 => ?_)
    · have hq := ifne hq c584
      exact b_48 γ _ _ _ _ _ (lv_sub hl [] rfl) hH hS (by omega) (by omega) hq
    · have hq := ifpe hq c584
      refine lv_aload_n hx hb dL_foil_13 rfl (lv_at hl 0 rfl) ?_
      refine lv_iconst (v := 1) hx hb dL_foil_14 (by decide) ?_
      refine lv_iconst (v := 2) hx hb dL_foil_15 (by decide) ?_
      refine lv_iconst (v := 3) hx hb dL_foil_16 (by decide) ?_
      refine lv_iconst (v := 0) hx hb dL_foil_17 (by decide) ?_
      refine lv_iconst (v := 5) hx hb dL_foil_18 (by decide) ?_
      refine lv_iconst (v := (-1)) hx hb dL_foil_19 (by decide) ?_
      refine e_callW (rest := []) hC hl hH hS (c_L_call l hfl κ γ 1 2 3 0 5 ((-1))) tw_430 tw_431 tw_37 tw_432 hd_L_call ⟨Nat.le_of_ble_eq_true rfl, Nat.le_of_ble_eq_true rfl⟩ rfl rfl rfl rfl (Nat.le_of_ble_eq_true rfl) dL_foil_20 ⟨by show _ ≤ 1075; omega, by show _ ≤ 21490; omega⟩ rfl (fun H locs hH hS => ?_)
      exact b_23 ((x_L_call 1 2 3 0 5 ((-1)) γ).1) (x_L_call 1 2 3 0 5 ((-1)) γ).2 _ _ _ _ _ (lv_sub hl [0] rfl) hH hS (by omega) (by omega) hq
  refine lv_aload_n hx hb dL_foil_0 rfl (lv_at hl 0 rfl) ?_
  refine lv_iconst (v := 0) hx hb dL_foil_1 (by decide) ?_
  refine lv_iconst (v := 1) hx hb dL_foil_2 (by decide) ?_
  refine lv_iconst (v := 0) hx hb dL_foil_3 (by decide) ?_
  refine lv_bipush (v := 9) hx hb dL_foil_4 (by decide) ?_
  refine lv_iconst (v := (-1)) hx hb dL_foil_6 (by decide) ?_
  refine e_xcallV (rest := []) hC hl hH hS (co_begin l hfl κ γ 0 1 0 9 ((-1))) tw_436 tw_437 tw_438 tw_38 tw_439 hd_X7_begin ⟨Nat.le_of_ble_eq_true rfl, Nat.le_of_ble_eq_true rfl⟩ rfl rfl rfl rfl (Nat.le_of_ble_eq_true rfl) dL_foil_7 ⟨by show _ ≤ 1075; omega, by show _ ≤ 21490; omega⟩ rfl (fun he585 ce q9 H locs hH hS hce hcv hcl => ?_) (fun he585 H locs hH hS => ?_)
  · exact flag_bad (ifne hq he585) hk
  have hq := ifpe hq he585
  exact b_10 ((x_X7_begin 0 1 0 9 ((-1)) γ).2.1) (x_X7_begin 0 1 0 9 ((-1)) γ).2.2 _ _ _ _ _ (lv_sub hl [0] rfl) hH hS (by omega) (by omega) hq
