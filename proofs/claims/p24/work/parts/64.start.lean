theorem sr_tbl : ∀ q ∈ SR, Cond.stringRef "Phrasehall" q.1 q.2 ∈ lw_tbl := by decide +kernel
set_option maxRecDepth 100000 in
theorem nc_flat : ∀ q ∈ NC, Cond.not (.castable q.1 q.2) ∈ flatC (Jvm.Cond.and given_1 narrow_1) := by decide +kernel
set_option maxRecDepth 100000 in
theorem us_flat : Cond.isRef (.static Bundle.tN "UNASSIGNED_STACK" Bundle.steD) ∈ flatC (Jvm.Cond.and given_1 narrow_1) ∧ Cond.isRef (.static Bundle.tN "SUPPRESSED_SENTINEL" Bundle.listD) ∈ flatC (Jvm.Cond.and given_1 narrow_1) := by decide +kernel
set_option maxRecDepth 100000 in
set_option maxHeartbeats 8000000 in
theorem start_open (hLA : (x_LA γS).1 = 0 ∧ (x_LA γS).2.1 = 1) (hLM : (x_L_most γS).1 = 0 ∧ (x_L_most γS).2.1 = 1) (hLB : ∀ (xs : Nat → Int32) (L : Nat), L ≤ 260 → (x_LB xs L γS).1 = 0 ∧ (x_LB xs L γS).2.1 = 1) {p : Program} {e : Env} {s : State} {m : MethodId} {below : List Frame} {meth : Method} {c : Code} (l : Launch) (hflags : l.flags = flags0) {b L : Nat} {xs : Nat → Int32} (hL : L ≤ 260) (C0 : lw_At p s m meth c b L xs) : W p l e room_1 s m #[Value.ref b] below meth c s.heap [] 0 0 (lw_Z below #[Value.ref b] s) (entryFrame m ([Value.ref b] : List Value).toArray 21) := by
  obtain ⟨hx, hb, hown9, hml9, hown, hts, hX, hbl, hlk, hgv⟩ := id C0
  have hr := hown9
  have hml := hml9
  have hfl : l.stackTraces = false := by unfold Launch.stackTraces; rw [hflags]; decide +kernel
  have hA : ∀ q : Nat, s.heap.size ≤ q → (fun q : Nat => s.heap.size ≤ q) q := fun _ h => h
  have hflat := flat_of_before _ hgv
  have hT : ∀ w ∈ TW, w.before #[Value.ref b] s = true := fun w hw => hts w (List.mem_filter.mp hw).1
  obtain ⟨c0, iS0, hKn0⟩ := u_known (C := RX0) (T := TX0) (N := 10) (n := 10) hT inX0 (hT _ tw_359)
  obtain ⟨c1, iS1, hKn1⟩ := u_known (C := RX1) (T := TX1) (N := 3) (n := 3) hT inX1 (hT _ tw_120)
  obtain ⟨c2, iS2, hKn2⟩ := u_known (C := RX2) (T := TX2) (N := 4) (n := 4) hT inX2 (hT _ tw_455)
  obtain ⟨c3, iS3, hKn3⟩ := u_known (C := RX3) (T := TX3) (N := 1) (n := 1) hT inX3 (hT _ tw_137)
  obtain ⟨c4, iS4, hKn4⟩ := u_known (C := RX4) (T := TX4) (N := 7) (n := 7) hT inX4 (hT _ tw_67)
  obtain ⟨c5, iS5, hKn5⟩ := u_known (C := RX5) (T := TX5) (N := 5) (n := 5) hT inX5 (hT _ tw_373)
  obtain ⟨c6, iS6, hKn6⟩ := u_known (C := RX6) (T := TX6) (N := 5) (n := 5) hT inX6 (hT _ tw_73)
  obtain ⟨c7, iS7, hKn7⟩ := u_known (C := RX7) (T := TX7) (N := 10) (n := 10) hT inX7 (hT _ tw_55)
  obtain ⟨D, hKc⟩ : ∃ D : va_G, ∀ (k : Nat) (q : vw_C), vwCl[k]? = some q → u_Kn s q.1 q.2.1 q.2.2 (D.1 k) (D.2 k) := by
    refine ⟨(fun k => if k = 0 then c0 else if k = 1 then c1 else if k = 2 then c2 else if k = 3 then c3 else if k = 4 then c4 else if k = 5 then c5 else if k = 6 then c6 else c7, fun k => if k = 0 then iS0 else if k = 1 then iS1 else if k = 2 then iS2 else if k = 3 then iS3 else if k = 4 then iS4 else if k = 5 then iS5 else if k = 6 then iS6 else iS7), ?_⟩
    intro k q hq
    match k, hq with
    | 0, hq => cases hq; exact hKn0
    | 1, hq => cases hq; exact hKn1
    | 2, hq => cases hq; exact hKn2
    | 3, hq => cases hq; exact hKn3
    | 4, hq => cases hq; exact hKn4
    | 5, hq => cases hq; exact hKn5
    | 6, hq => cases hq; exact hKn6
    | 7, hq => cases hq; exact hKn7
    | k + 8, hq => simp [vwCl] at hq
  obtain ⟨kA0, kk0, cm0, f01, f02, f03⟩ := Cond.arrayClass_spec (show (Cond.arrayClass .int).holds #[Value.ref b] s none s [] = true from hT _ tw_95)
  have hAO2 : va_AO "Phrasehall$Bout" s := va_AO.of (hts _ (List.mem_of_getElem? (i := 63) (by decide +kernel)))
  have hAO3 : va_AO "Phrasehall$Pool" s := va_AO.of (hts _ (List.mem_of_getElem? (i := 65) (by decide +kernel)))
  obtain ⟨cm2, kA2, kk2, f21, f22, f23, f24, f25⟩ := Cond.arrayOver_spec hAO2
  obtain ⟨cm3, kA3, kk3, f31, f32, f33, f34, f35⟩ := Cond.arrayOver_spec hAO3
  obtain ⟨kc, hkc⟩ : ∃ kc : Nat → ClassId, kc = fun k => if k = 0 then kA0 else if k = 1 then kA0 else if k = 2 then kA2 else kA3 := ⟨_, rfl⟩
  have g0 : kc 0 = kA0 := by rw [hkc]; rfl
  have g1 : kc 1 = kA0 := by rw [hkc]; rfl
  have g2 : kc 2 = kA2 := by rw [hkc]; rfl
  have g3 : kc 3 = kA3 := by rw [hkc]; rfl
  have hK : va_K D vwCl [(kc 0, .int), (kc 1, .int), (kc 2, .object "Phrasehall$Bout"), (kc 3, .object "Phrasehall$Pool")] s := by
    refine ⟨hKc, fun k q h => ?_⟩
    match k, h with
    | 0, h => cases h; rw [g0]; exact ⟨fun N z => ⟨(fun k h => by cases h), kk0, f02, cm0, f03⟩, f01⟩
    | 1, h => cases h; rw [g1]; exact ⟨fun N z => ⟨(fun k h => by cases h), kk0, f02, cm0, f03⟩, f01⟩
    | 2, h => cases h; rw [g2]; exact ⟨fun N z => ⟨(fun k h => by cases h), kk2, f23, cm2, f24⟩, kk2, cm2, f23, f24, f21, f25⟩
    | 3, h => cases h; rw [g3]; exact ⟨fun N z => ⟨(fun k h => by cases h), kk3, f33, cm3, f34⟩, kk3, cm3, f33, f34, f31, f35⟩
    | k + 4, h => simp at h
  have hXT : XT s := by
    refine ⟨fun w hw => tw_use (List.mem_filter.mp hw).2 (State.WarmedH.refl s) (hT w hw), fun w hw => ?_, fun q hq => ?_, fun q hq => va_Nc.of (hflat _ (nc_flat q hq))⟩
    · have h1 := List.mem_filter.mp hw
      have ho : w.onTables = true := by
        have h2 := h1.2
        cases w <;> first | rfl | (simp [kwd] at h2)
      exact va_tabs ho rfl (hts w h1.1)
    · have h1 := hts _ (sr_tbl q hq)
      obtain ⟨_, _, _, sa, _, _, _, _, _, h2⟩ := Cond.stringRef_spec hKn7.2.1 (show (Cond.stringRef "Phrasehall" q.1 q.2).holds #[Value.ref b] s none s [] = true from h1)
      exact ⟨sa, vk_R.of h1 h2⟩
  have hZ : XZ s.heap.size s s.heap := ⟨vx_Zqof (hts _ (List.mem_of_getElem? (i := 209) (by decide +kernel))) (hT _ tw_43) (hflat _ us_flat.1) (fun a ha => Nat.not_le.mpr ha), vx_Zqof (hts _ (List.mem_of_getElem? (i := 211) (by decide +kernel))) (hT _ tw_43) (hflat _ us_flat.2) (fun a ha => Nat.not_le.mpr ha)⟩
  obtain ⟨A, hAe⟩ : ∃ A : Nat → Prop, A = fun q : Nat => s.heap.size ≤ q := ⟨_, rfl⟩
  rw [← hAe] at hA
  have hS : va_S A s.heap s.heap [] := va_S.rf
  have hP : va_P D vwCl [] s.heap := fun k q h => by simp at h
  have hD : va_D A [] := ⟨fun i j p q h => by simp at h, fun k q h => by simp at h⟩
  have hl := lv_entry ([.ref b]) (n := 21) (Nat.le_of_ble_eq_true rfl)
  rw [lg_entry_eq]
  generalize (lg_sl ([.ref b]) ++ List.replicate (21 - (lg_sl ([.ref b])).length) Slot.unset).toArray = ls at hl ⊢
  have hl : lv_has ls 21 [(0, .ref b)] := hl
  refine va_new (ci := 7) (fs := [.null, .null, .null, .null, .null, .int 0, .int 0, .int 0, .null, .int 0]) (C := RX7) (T := TX7) (N := 10) hx hb hT inX7 tyX7 tyX7_ok hown (hT _ tw_54) (hT _ tw_55) (hT _ tw_38) hK hP hD hS hA rfl (df_7) (Nat.le_of_ble_eq_true rfl) (Nat.le_of_ble_eq_true rfl) dL_law_0 (fun q0 H hP hD hS => ?_)
  have hP : va_P D vwCl [(q0, .inr (7, [.null, .null, .null, .null, .null, .int 0, .int 0, .int 0, .null, .int 0]))] H := hP
  have hD : va_D A [(q0, .inr (7, [.null, .null, .null, .null, .null, .int 0, .int 0, .int 0, .null, .int 0]))] := hD
  refine W.widen (k := 1) (n := 10) (Nat.le_of_ble_eq_true rfl) (Nat.le_of_ble_eq_true rfl) ?_
  refine lv_dup hx hb dL_law_3 rfl ?_
  have hPc := hP.sub (ws' := [(q0, .inr (7, [.null, .null, .null, .null, .null, .int 0, .int 0, .int 0, .null, .int 0]))]) [0] rfl
  have hDc := hD.sub (ws' := [(q0, .inr (7, [.null, .null, .null, .null, .null, .int 0, .int 0, .int 0, .null, .int 0]))]) [0] (by decide) rfl
  have hFc := va_free (wc := [(q0, .inr (7, [.null, .null, .null, .null, .null, .int 0, .int 0, .int 0, .null, .int 0]))]) hD hS hA [0] rfl
  refine va_callv (va_runI (As := []) (rest := [.ref q0]) ⟨hx, hb, hml, hown, hT⟩ (ci_7 l D kc q0 H.size) (cwI 0 hT (gi1 tw_58) rfl rfl rfl (hT _ tw_38) (hT _ tw_56) (hT _ tw_57) rfl ⟨by decide +kernel, by decide +kernel, by decide +kernel⟩ ⟨Nat.le_of_ble_eq_true rfl, Nat.le_of_ble_eq_true rfl⟩) ⟨CBO.blind, fun U hU hW => ⟨rfl, by rw [hU], by rw [hU]; exact hPc, va_K.moved hW.alike hK, hDc.weaken (fun _ _ _ _ => trivial), hXT.warm hW, va_AO.moved hW.alike hAO2, va_AO.moved hW.alike hAO3⟩⟩ rfl rfl hl.1 rfl (lv_room (Nat.le_of_ble_eq_true rfl)) dL_law_4 ⟨Nat.le_of_ble_eq_true rfl, Nat.le_of_ble_eq_true rfl⟩) hS (fun q _ h => hFc q h) hFc (fun u t H1 locs ht hvm hw hB hz1 hk1 hS => ?_)
  obtain ⟨q1, q2, q3, q4, q5, q6, q7, q8, q9, q10, q11, q12, q13, hP1, hD1⟩ := hB
  rw [ht] at hP1
  obtain ⟨hP, hD⟩ := va_join (wr := []) (w1 := [(q0, .inr (7, [.ref q1, .ref q2, .ref q3, .ref q10, .ref q13, .int 0, .int 0, .int 0, .null, .int ((-1))])), (q1, .inl (kc 2, (80, .inr (.inr (.inr (.inr (fun _ => none))))))), (q2, .inl (kc 3, (6, .inr (.inr (.inr (.inr (fun _ => none))))))), (q3, .inr (4, [.ref q4, .ref q5, .ref q6, .ref q7, .ref q8, .ref q9, .int 0])), (q4, .inl (kc 0, (24, .inl (fun _ => 0)))), (q5, .inl (kc 0, (24, .inl (fun _ => 0)))), (q6, .inl (kc 0, (24, .inl (fun _ => 0)))), (q7, .inl (kc 0, (24, .inl (fun _ => 0)))), (q8, .inl (kc 0, (24, .inl (fun _ => 0)))), (q9, .inr (6, [.int ((-1)), .int ((-1)), .int 0, .int ((-1)), .int 0])), (q10, .inr (1, [.ref q11, .ref q12, .int 0])), (q11, .inl (kc 0, (32, .inl (fun _ => 0)))), (q12, .inl (kc 0, (16, .inl (fun _ => 0)))), (q13, .inr (3, [.long 0]))]) hP hD [0] [] rfl rfl (by decide) (by decide) hk1 hFc hP1 hD1
  generalize H1 = H at hP hS ⊢
  have hP : va_P D vwCl [(q0, .inr (7, [.ref q1, .ref q2, .ref q3, .ref q10, .ref q13, .int 0, .int 0, .int 0, .null, .int ((-1))])), (q1, .inl (kc 2, (80, .inr (.inr (.inr (.inr (fun _ => none))))))), (q2, .inl (kc 3, (6, .inr (.inr (.inr (.inr (fun _ => none))))))), (q3, .inr (4, [.ref q4, .ref q5, .ref q6, .ref q7, .ref q8, .ref q9, .int 0])), (q4, .inl (kc 0, (24, .inl (fun _ => 0)))), (q5, .inl (kc 0, (24, .inl (fun _ => 0)))), (q6, .inl (kc 0, (24, .inl (fun _ => 0)))), (q7, .inl (kc 0, (24, .inl (fun _ => 0)))), (q8, .inl (kc 0, (24, .inl (fun _ => 0)))), (q9, .inr (6, [.int ((-1)), .int ((-1)), .int 0, .int ((-1)), .int 0])), (q10, .inr (1, [.ref q11, .ref q12, .int 0])), (q11, .inl (kc 0, (32, .inl (fun _ => 0)))), (q12, .inl (kc 0, (16, .inl (fun _ => 0)))), (q13, .inr (3, [.long 0]))] H := hP
  have hD : va_D A [(q0, .inr (7, [.ref q1, .ref q2, .ref q3, .ref q10, .ref q13, .int 0, .int 0, .int 0, .null, .int ((-1))])), (q1, .inl (kc 2, (80, .inr (.inr (.inr (.inr (fun _ => none))))))), (q2, .inl (kc 3, (6, .inr (.inr (.inr (.inr (fun _ => none))))))), (q3, .inr (4, [.ref q4, .ref q5, .ref q6, .ref q7, .ref q8, .ref q9, .int 0])), (q4, .inl (kc 0, (24, .inl (fun _ => 0)))), (q5, .inl (kc 0, (24, .inl (fun _ => 0)))), (q6, .inl (kc 0, (24, .inl (fun _ => 0)))), (q7, .inl (kc 0, (24, .inl (fun _ => 0)))), (q8, .inl (kc 0, (24, .inl (fun _ => 0)))), (q9, .inr (6, [.int ((-1)), .int ((-1)), .int 0, .int ((-1)), .int 0])), (q10, .inr (1, [.ref q11, .ref q12, .int 0])), (q11, .inl (kc 0, (32, .inl (fun _ => 0)))), (q12, .inl (kc 0, (16, .inl (fun _ => 0)))), (q13, .inr (3, [.long 0]))] := hD
  refine W.widen (k := 14) (n := 280) (Nat.le_of_ble_eq_true rfl) (Nat.le_of_ble_eq_true rfl) ?_
  refine lv_astore_n (lv' := [(1, .ref q0), (0, .ref b)]) hx hb dL_law_7 rfl hl (by decide) rfl (fun ls hl => ?_)
  rw [hAe] at hD hS
  have hH := HE_S (B0 := s.heap.size) (D := D) (kc := kc) (q0 := q0) (q1 := q1) (q2 := q2) (q3 := q3) (q4 := q4) (q5 := q5) (q6 := q6) (q7 := q7) (q8 := q8) (q9 := q9) (q10 := q10) (q11 := q11) (q12 := q12) (q13 := q13) hP hD
  have hC : CX (κS D kc s.heap.size (adS q0 q1 q2 q3 q4 q5 q6 q7 q8 q9 q10 q11 q12 q13)) cL_law "PhrasehallLaw" 21 p l s m #[Value.ref b] meth c := ⟨hx, hb, hown, hT, hK, hXT, hZ, Nat.le_refl _, hml, hlk⟩
  refine w_LA hfl rfl hLA.1 hLA.2 (fun H locs ls cells slots hl hH hS hc1 hc2 => ?_) hC hH hS (lv_sub hl [1, 0] rfl) (Nat.le_of_ble_eq_true rfl) (Nat.le_of_ble_eq_true rfl)
  refine e_callM (rest := []) hC hl hS hAO2 hAO3 (c_L_most l hfl _ hLM.1) tw_936 tw_937 tw_37 tw_938 hd_L_most ⟨Nat.le_of_ble_eq_true rfl, Nat.le_of_ble_eq_true rfl⟩ rfl rfl rfl (Nat.le_of_ble_eq_true rfl) dL_law_64 ⟨by show _ ≤ 600086; omega, by show _ ≤ 7301442; omega⟩ rfl (fun H locs hS => ?_)
  rw [hLM.2]
  refine lv_if_ne (tgt := 72) hx hb dL_law_67 (by decide) (fun c1 => ?_) (fun c1 => absurd c1 (by decide))
  refine W.widen (k := 5275) (n := 95116) (by omega) (by omega) ?_
  have hS : va_S A s.heap H locs := by rw [hAe]; exact hS
  have hP : va_P D vwCl [] H := fun k q h => by simp at h
  have hD : va_D A [] := ⟨fun i j p q h => by simp at h, fun k q h => by simp at h⟩
  clear hH hC
  refine va_new (ci := 7) (fs := [.null, .null, .null, .null, .null, .int 0, .int 0, .int 0, .null, .int 0]) (C := RX7) (T := TX7) (N := 10) hx hb hT inX7 tyX7 tyX7_ok hown (hT _ tw_54) (hT _ tw_55) (hT _ tw_38) hK hP hD hS hA rfl (df_7) (Nat.le_of_ble_eq_true rfl) (Nat.le_of_ble_eq_true rfl) dL_law_72 (fun q0 H hP hD hS => ?_)
  have hP : va_P D vwCl [(q0, .inr (7, [.null, .null, .null, .null, .null, .int 0, .int 0, .int 0, .null, .int 0]))] H := hP
  have hD : va_D A [(q0, .inr (7, [.null, .null, .null, .null, .null, .int 0, .int 0, .int 0, .null, .int 0]))] := hD
  refine W.widen (k := 5276) (n := 95126) (Nat.le_of_ble_eq_true rfl) (Nat.le_of_ble_eq_true rfl) ?_
  refine lv_dup hx hb dL_law_75 rfl ?_
  have hPc := hP.sub (ws' := [(q0, .inr (7, [.null, .null, .null, .null, .null, .int 0, .int 0, .int 0, .null, .int 0]))]) [0] rfl
  have hDc := hD.sub (ws' := [(q0, .inr (7, [.null, .null, .null, .null, .null, .int 0, .int 0, .int 0, .null, .int 0]))]) [0] (by decide) rfl
  have hFc := va_free (wc := [(q0, .inr (7, [.null, .null, .null, .null, .null, .int 0, .int 0, .int 0, .null, .int 0]))]) hD hS hA [0] rfl
  refine va_callv (va_runI (As := []) (rest := [.ref q0]) ⟨hx, hb, hml, hown, hT⟩ (ci_7 l D kc q0 H.size) (cwI 0 hT (gi1 tw_58) rfl rfl rfl (hT _ tw_38) (hT _ tw_56) (hT _ tw_57) rfl ⟨by decide +kernel, by decide +kernel, by decide +kernel⟩ ⟨Nat.le_of_ble_eq_true rfl, Nat.le_of_ble_eq_true rfl⟩) ⟨CBO.blind, fun U hU hW => ⟨rfl, by rw [hU], by rw [hU]; exact hPc, va_K.moved hW.alike hK, hDc.weaken (fun _ _ _ _ => trivial), hXT.warm hW, va_AO.moved hW.alike hAO2, va_AO.moved hW.alike hAO3⟩⟩ rfl rfl hl.1 rfl (lv_room (Nat.le_of_ble_eq_true rfl)) dL_law_76 ⟨Nat.le_of_ble_eq_true rfl, Nat.le_of_ble_eq_true rfl⟩) hS (fun q _ h => hFc q h) hFc (fun u t H1 locs ht hvm hw hB hz1 hk1 hS => ?_)
  obtain ⟨q1, q2, q3, q4, q5, q6, q7, q8, q9, q10, q11, q12, q13, hP1, hD1⟩ := hB
  rw [ht] at hP1
  obtain ⟨hP, hD⟩ := va_join (wr := []) (w1 := [(q0, .inr (7, [.ref q1, .ref q2, .ref q3, .ref q10, .ref q13, .int 0, .int 0, .int 0, .null, .int ((-1))])), (q1, .inl (kc 2, (80, .inr (.inr (.inr (.inr (fun _ => none))))))), (q2, .inl (kc 3, (6, .inr (.inr (.inr (.inr (fun _ => none))))))), (q3, .inr (4, [.ref q4, .ref q5, .ref q6, .ref q7, .ref q8, .ref q9, .int 0])), (q4, .inl (kc 0, (24, .inl (fun _ => 0)))), (q5, .inl (kc 0, (24, .inl (fun _ => 0)))), (q6, .inl (kc 0, (24, .inl (fun _ => 0)))), (q7, .inl (kc 0, (24, .inl (fun _ => 0)))), (q8, .inl (kc 0, (24, .inl (fun _ => 0)))), (q9, .inr (6, [.int ((-1)), .int ((-1)), .int 0, .int ((-1)), .int 0])), (q10, .inr (1, [.ref q11, .ref q12, .int 0])), (q11, .inl (kc 0, (32, .inl (fun _ => 0)))), (q12, .inl (kc 0, (16, .inl (fun _ => 0)))), (q13, .inr (3, [.long 0]))]) hP hD [0] [] rfl rfl (by decide) (by decide) hk1 hFc hP1 hD1
  generalize H1 = H at hP hS ⊢
  have hP : va_P D vwCl [(q0, .inr (7, [.ref q1, .ref q2, .ref q3, .ref q10, .ref q13, .int 0, .int 0, .int 0, .null, .int ((-1))])), (q1, .inl (kc 2, (80, .inr (.inr (.inr (.inr (fun _ => none))))))), (q2, .inl (kc 3, (6, .inr (.inr (.inr (.inr (fun _ => none))))))), (q3, .inr (4, [.ref q4, .ref q5, .ref q6, .ref q7, .ref q8, .ref q9, .int 0])), (q4, .inl (kc 0, (24, .inl (fun _ => 0)))), (q5, .inl (kc 0, (24, .inl (fun _ => 0)))), (q6, .inl (kc 0, (24, .inl (fun _ => 0)))), (q7, .inl (kc 0, (24, .inl (fun _ => 0)))), (q8, .inl (kc 0, (24, .inl (fun _ => 0)))), (q9, .inr (6, [.int ((-1)), .int ((-1)), .int 0, .int ((-1)), .int 0])), (q10, .inr (1, [.ref q11, .ref q12, .int 0])), (q11, .inl (kc 0, (32, .inl (fun _ => 0)))), (q12, .inl (kc 0, (16, .inl (fun _ => 0)))), (q13, .inr (3, [.long 0]))] H := hP
  have hD : va_D A [(q0, .inr (7, [.ref q1, .ref q2, .ref q3, .ref q10, .ref q13, .int 0, .int 0, .int 0, .null, .int ((-1))])), (q1, .inl (kc 2, (80, .inr (.inr (.inr (.inr (fun _ => none))))))), (q2, .inl (kc 3, (6, .inr (.inr (.inr (.inr (fun _ => none))))))), (q3, .inr (4, [.ref q4, .ref q5, .ref q6, .ref q7, .ref q8, .ref q9, .int 0])), (q4, .inl (kc 0, (24, .inl (fun _ => 0)))), (q5, .inl (kc 0, (24, .inl (fun _ => 0)))), (q6, .inl (kc 0, (24, .inl (fun _ => 0)))), (q7, .inl (kc 0, (24, .inl (fun _ => 0)))), (q8, .inl (kc 0, (24, .inl (fun _ => 0)))), (q9, .inr (6, [.int ((-1)), .int ((-1)), .int 0, .int ((-1)), .int 0])), (q10, .inr (1, [.ref q11, .ref q12, .int 0])), (q11, .inl (kc 0, (32, .inl (fun _ => 0)))), (q12, .inl (kc 0, (16, .inl (fun _ => 0)))), (q13, .inr (3, [.long 0]))] := hD
  refine W.widen (k := 5289) (n := 95396) (Nat.le_of_ble_eq_true rfl) (Nat.le_of_ble_eq_true rfl) ?_
  refine lv_astore_n (lv' := [(2, .ref q0), (0, .ref b)]) hx hb dL_law_79 rfl hl (by decide) rfl (fun ls hl => ?_)
  rw [hAe] at hD hS
  have hH := HE_S (B0 := s.heap.size) (D := D) (kc := kc) (q0 := q0) (q1 := q1) (q2 := q2) (q3 := q3) (q4 := q4) (q5 := q5) (q6 := q6) (q7 := q7) (q8 := q8) (q9 := q9) (q10 := q10) (q11 := q11) (q12 := q12) (q13 := q13) hP hD
  have hC : CX (κS D kc s.heap.size (adS q0 q1 q2 q3 q4 q5 q6 q7 q8 q9 q10 q11 q12 q13)) cL_law "PhrasehallLaw" 21 p l s m #[Value.ref b] meth c := ⟨hx, hb, hown, hT, hK, hXT, hZ, Nat.le_refl _, hml, hlk⟩
  exact w_LB hfl rfl (hLB xs L hL).1 (hLB xs L hL).2 hr rfl hX hbl hC hH hS (lv_sub hl [1, 0] rfl) (Nat.le_of_ble_eq_true rfl) (Nat.le_of_ble_eq_true rfl)
