set_option maxRecDepth 100000 in
set_option maxHeartbeats 8000000 in
theorem w_L_most {p : Program} {l : Launch} (hfl : l.stackTraces = false) {e : Env} {s : State} {m : MethodId} {below : List Frame} {meth : Method} {c : Code} {κ : KP} {γ : St} {res : Nat × Int32 × St} (hq : x_L_most γ = res) (hk : res.1 = 0) (hr : meth.sig.returnType = some .boolean) {H : Heap} {locs : List Loc} {ls : Array Slot} {cells slots : Nat} (hC : CX κ cL_most "PhrasehallLaw" 2 p l s m ([] : List Value).toArray meth c) (hH : HE κ γ H) (hS : va_S (AA κ) s.heap H locs) (hl : lv_has ls 2 [(0, .ref (kA κ 7 0))]) (hc1 : cells + 1416 ≤ 1430) (hc2 : slots + 22972 ≤ 23252) : W p l e (headSpec [Cond.code yL_most cL_most 2 (some .boolean)] ({ frames := 10, cells := 1430, slots := 23252, locals := 227 } : Room)).room s m ([] : List Value).toArray below meth c H locs cells slots (MQ below (QL κ res.2.2 (some (.int res.2.1))) ([] : List Value).toArray s 1430 23252 (AA κ)) (F0 m 8 ls []) := by
  obtain ⟨hx, hb, hown, hT, -, -, -, -, hml, hlk⟩ := id hC
  have b_290 : ∀ (γ : St) (H : Heap) (locs : List Loc) (ls : Array Slot) (cells slots : Nat), lv_has ls 2 [] → HE κ γ H → va_S (AA κ) s.heap H locs → cells + (0) ≤ 1430 → slots + (0) ≤ 23252 → x_L_most_290 γ = res → W p l e (headSpec [Cond.code yL_most cL_most 2 (some .boolean)] ({ frames := 10, cells := 1430, slots := 23252, locals := 227 } : Room)).room s m ([] : List Value).toArray below meth c H locs cells slots (MQ below (QL κ res.2.2 (some (.int res.2.1))) ([] : List Value).toArray s 1430 23252 (AA κ)) (F0 m 290 ls []) := by
    intro γ H locs ls cells slots hl hH hS hc1 hc2 hq
    refine lv_iconst (v := 0) hx hb dL_most_290 (by decide) ?_
    subst hq
    exact er_z hC hr rfl hH hS rfl rfl (by omega) (by omega) dL_most_291
  have b_391 : ∀ (γ : St) (H : Heap) (locs : List Loc) (ls : Array Slot) (cells slots : Nat), lv_has ls 2 [] → HE κ γ H → va_S (AA κ) s.heap H locs → cells + (0) ≤ 1430 → slots + (0) ≤ 23252 → x_L_most_391 γ = res → W p l e (headSpec [Cond.code yL_most cL_most 2 (some .boolean)] ({ frames := 10, cells := 1430, slots := 23252, locals := 227 } : Room)).room s m ([] : List Value).toArray below meth c H locs cells slots (MQ below (QL κ res.2.2 (some (.int res.2.1))) ([] : List Value).toArray s 1430 23252 (AA κ)) (F0 m 391 ls []) := by
    intro γ H locs ls cells slots hl hH hS hc1 hc2 hq
    refine lv_iconst (v := 0) hx hb dL_most_391 (by decide) ?_
    subst hq
    exact er_z hC hr rfl hH hS rfl rfl (by omega) (by omega) dL_most_392
  have b_384 : ∀ (s0 : Int32) (γ : St) (H : Heap) (locs : List Loc) (ls : Array Slot) (cells slots : Nat), lv_has ls 2 [] → HE κ γ H → va_S (AA κ) s.heap H locs → cells + (0) ≤ 1430 → slots + (0) ≤ 23252 → x_L_most_384 s0 γ = res → W p l e (headSpec [Cond.code yL_most cL_most 2 (some .boolean)] ({ frames := 10, cells := 1430, slots := 23252, locals := 227 } : Room)).room s m ([] : List Value).toArray below meth c H locs cells slots (MQ below (QL κ res.2.2 (some (.int res.2.1))) ([] : List Value).toArray s 1430 23252 (AA κ)) (F0 m 384 ls [.int s0]) := by
    intro s0 γ H locs ls cells slots hl hH hS hc1 hc2 hq
    refine lv_if_eq (tgt := 391) hx hb dL_most_384 (by decide) (fun c193 => ?_) (fun c193 => ?_)
    · have hq := ifpe hq c193
      exact b_391 γ _ _ _ _ _ (lv_sub hl [] rfl) hH hS (by omega) (by omega) hq
    · have hq := ifne hq c193
      refine lv_iconst (v := 1) hx hb dL_most_387 (by decide) ?_
      refine lv_goto (tgt := 392) hx hb dL_most_388 (by decide) ?_
      subst hq
      exact er_z hC hr rfl hH hS rfl rfl (by omega) (by omega) dL_most_392
  have b_347 : ∀ (s0 : Int32) (γ : St) (H : Heap) (locs : List Loc) (ls : Array Slot) (cells slots : Nat), lv_has ls 2 [(0, .ref (kA κ 7 0))] → HE κ γ H → va_S (AA κ) s.heap H locs → cells + (616) ≤ 1430 → slots + (13284) ≤ 23252 → x_L_most_347 s0 γ = res → W p l e (headSpec [Cond.code yL_most cL_most 2 (some .boolean)] ({ frames := 10, cells := 1430, slots := 23252, locals := 227 } : Room)).room s m ([] : List Value).toArray below meth c H locs cells slots (MQ below (QL κ res.2.2 (some (.int res.2.1))) ([] : List Value).toArray s 1430 23252 (AA κ)) (F0 m 347 ls [.int s0]) := by
    intro s0 γ H locs ls cells slots hl hH hS hc1 hc2 hq
    refine lv_bipush (v := (-73)) hx hb dL_most_347 (by decide) ?_
    refine lv_icmp_ne (tgt := 391) hx hb dL_most_349 (by decide) (fun c194 => ?_) (fun c194 => ?_)
    · have hq := ifne hq c194
      exact b_391 γ _ _ _ _ _ (lv_sub hl [] rfl) hH hS (by omega) (by omega) hq
    · have hq := ifpe hq c194
      refine lv_aload_n hx hb dL_most_352 rfl (lv_at hl 0 rfl) ?_
      refine lv_bipush (v := 79) hx hb dL_most_353 (by decide) ?_
      refine lv_iconst (v := 1) hx hb dL_most_355 (by decide) ?_
      refine e_xcallV (rest := []) hC hl hH hS (co_ofBout l hfl κ γ 79 1) tw_254 tw_255 tw_256 tw_38 tw_257 hd_X7_ofBout ⟨Nat.le_of_ble_eq_true rfl, Nat.le_of_ble_eq_true rfl⟩ rfl rfl rfl rfl (Nat.le_of_ble_eq_true rfl) dL_most_356 ⟨by show _ ≤ 1430; omega, by show _ ≤ 23252; omega⟩ rfl (fun he195 ce q9 H locs hH hS hce hcv hcl => ?_) (fun he195 H locs hH hS => ?_)
      · exact flag_bad (ifne hq he195) hk
      have hq := ifpe hq he195
      refine lv_iconst (v := 1) hx hb dL_most_359 (by decide) ?_
      refine lv_icmp_ne (tgt := 391) hx hb dL_most_360 (by decide) (fun c196 => ?_) (fun c196 => ?_)
      · have hq := ifne hq c196
        exact b_391 (x_X7_ofBout 79 1 γ).2.2 _ _ _ _ _ (lv_sub hl [] rfl) hH hS (by omega) (by omega) hq
      · have hq := ifpe hq c196
        refine lv_aload_n hx hb dL_most_363 rfl (lv_at hl 0 rfl) ?_
        refine lv_bipush (v := 79) hx hb dL_most_364 (by decide) ?_
        refine lv_iconst (v := 2) hx hb dL_most_366 (by decide) ?_
        refine e_xcallV (rest := []) hC hl hH hS (co_ofBout l hfl κ (x_X7_ofBout 79 1 γ).2.2 79 2) tw_254 tw_255 tw_256 tw_38 tw_257 hd_X7_ofBout ⟨Nat.le_of_ble_eq_true rfl, Nat.le_of_ble_eq_true rfl⟩ rfl rfl rfl rfl (Nat.le_of_ble_eq_true rfl) dL_most_367 ⟨by show _ ≤ 1430; omega, by show _ ≤ 23252; omega⟩ rfl (fun he197 ce q9 H locs hH hS hce hcv hcl => ?_) (fun he197 H locs hH hS => ?_)
        · exact flag_bad (ifne hq he197) hk
        have hq := ifpe hq he197
        refine lv_iconst (v := 1) hx hb dL_most_370 (by decide) ?_
        refine lv_icmp_ne (tgt := 391) hx hb dL_most_371 (by decide) (fun c198 => ?_) (fun c198 => ?_)
        · have hq := ifne hq c198
          exact b_391 (x_X7_ofBout 79 2 (x_X7_ofBout 79 1 γ).2.2).2.2 _ _ _ _ _ (lv_sub hl [] rfl) hH hS (by omega) (by omega) hq
        · have hq := ifpe hq c198
          refine lv_aload_n hx hb dL_most_374 rfl (lv_at hl 0 rfl) ?_
          refine lv_bipush (v := 12) hx hb dL_most_375 (by decide) ?_
          refine lv_bipush (v := 6) hx hb dL_most_377 (by decide) ?_
          refine lv_bipush (v := 80) hx hb dL_most_379 (by decide) ?_
          by_cases he199 : (x_L_refuses 12 6 80 (x_X7_ofBout 79 2 (x_X7_ofBout 79 1 γ).2.2).2.2).1 = 0
          rotate_left
          · exact flag_bad (ifne hq he199) hk
          have hq := ifpe hq he199
          refine e_callS (rest := []) hC hl hH hS (c_L_refuses l hfl κ (x_X7_ofBout 79 2 (x_X7_ofBout 79 1 γ).2.2).2.2 12 6 80 he199) tw_841 tw_842 tw_37 tw_843 hd_L_refuses ⟨Nat.le_of_ble_eq_true rfl, Nat.le_of_ble_eq_true rfl⟩ rfl rfl rfl rfl (Nat.le_of_ble_eq_true rfl) dL_most_381 ⟨by show _ ≤ 1430; omega, by show _ ≤ 23252; omega⟩ rfl (fun H locs hH hS => ?_)
          exact b_384 ((x_L_refuses 12 6 80 (x_X7_ofBout 79 2 (x_X7_ofBout 79 1 γ).2.2).2.2).2.1) (x_L_refuses 12 6 80 (x_X7_ofBout 79 2 (x_X7_ofBout 79 1 γ).2.2).2.2).2.2 _ _ _ _ _ (lv_sub hl [] rfl) hH hS (by omega) (by omega) hq
  have b_294 : ∀ (k294 : Nat) (a1 : Int32) (γ : St) (H : Heap) (locs : List Loc) (ls : Array Slot) (cells slots : Nat), lv_has ls 2 [(0, .ref (kA κ 7 0)), (1, .int a1)] → HE κ γ H → va_S (AA κ) s.heap H locs → cells + (619 + 8 * k294) ≤ 1430 → slots + (13349 + 95 * k294) ≤ 23252 → x_L_most_294 k294 a1 γ = res → W p l e (headSpec [Cond.code yL_most cL_most 2 (some .boolean)] ({ frames := 10, cells := 1430, slots := 23252, locals := 227 } : Room)).room s m ([] : List Value).toArray below meth c H locs cells slots (MQ below (QL κ res.2.2 (some (.int res.2.1))) ([] : List Value).toArray s 1430 23252 (AA κ)) (F0 m 294 ls []) := by
    intro k294
    induction k294 with
    | zero =>
      intro a1 γ H locs ls cells slots hl hH hS hc1 hc2 hq
      exact flag_bad hq hk
    | succ k294 ih_294 =>
      have b_326 : ∀ (a1 : Int32) (s0 : Int32) (γ : St) (H : Heap) (locs : List Loc) (ls : Array Slot) (cells slots : Nat), lv_has ls 2 [(0, .ref (kA κ 7 0)), (1, .int a1)] → HE κ γ H → va_S (AA κ) s.heap H locs → cells + (619 + 8 * k294) ≤ 1430 → slots + (13349 + 95 * k294) ≤ 23252 → x_L_most_326 (x_L_most_294 k294) a1 s0 γ = res → W p l e (headSpec [Cond.code yL_most cL_most 2 (some .boolean)] ({ frames := 10, cells := 1430, slots := 23252, locals := 227 } : Room)).room s m ([] : List Value).toArray below meth c H locs cells slots (MQ below (QL κ res.2.2 (some (.int res.2.1))) ([] : List Value).toArray s 1430 23252 (AA κ)) (F0 m 326 ls [.int s0]) := by
        intro a1 s0 γ H locs ls cells slots hl hH hS hc1 hc2 hq
        refine lv_if_ne (tgt := 331) hx hb dL_most_326 (by decide) (fun c200 => ?_) (fun c200 => ?_)
        · have hq := ifne hq c200
          refine lv_iinc (v := a1 + 1) (lv' := [(1, .int (a1 + 1)), (0, .ref (kA κ 7 0))]) hx hb dL_most_331 hl (k := 1) rfl rfl (by decide) rfl (fun ls hl => ?_)
          refine lv_goto (tgt := 294) hx hb dL_most_334 (by decide) ?_
          exact ih_294 (a1 + 1) γ _ _ _ _ _ (lv_sub hl [1, 0] rfl) hH hS (by omega) (by omega) hq
        · have hq := ifpe hq c200
          refine lv_iconst (v := 0) hx hb dL_most_329 (by decide) ?_
          subst hq
          exact er_z hC hr rfl hH hS rfl rfl (by omega) (by omega) dL_most_330
      intro a1 γ H locs ls cells slots hl hH hS hc1 hc2 hq
      refine lv_iload_n hx hb dL_most_294 rfl (lv_at hl 1 rfl) ?_
      refine lv_bipush (v := 80) hx hb dL_most_295 (by decide) ?_
      refine lv_icmp_ge (tgt := 337) hx hb dL_most_297 (by decide) (fun c201 => ?_) (fun c201 => ?_)
      · have hq := ifpe hq c201
        refine lv_aload_n hx hb dL_most_337 rfl (lv_at hl 0 rfl) ?_
        refine lv_iconst (v := 1) hx hb dL_most_338 (by decide) ?_
        refine lv_iconst (v := 0) hx hb dL_most_339 (by decide) ?_
        refine lv_iconst (v := 1) hx hb dL_most_340 (by decide) ?_
        refine lv_iconst (v := 0) hx hb dL_most_341 (by decide) ?_
        refine lv_iconst (v := 5) hx hb dL_most_342 (by decide) ?_
        refine lv_iconst (v := (-1)) hx hb dL_most_343 (by decide) ?_
        refine e_callW (rest := []) hC hl hH hS (c_L_call l hfl κ γ 1 0 1 0 5 ((-1))) tw_430 tw_431 tw_37 tw_432 hd_L_call ⟨Nat.le_of_ble_eq_true rfl, Nat.le_of_ble_eq_true rfl⟩ rfl rfl rfl rfl (Nat.le_of_ble_eq_true rfl) dL_most_344 ⟨by show _ ≤ 1430; omega, by show _ ≤ 23252; omega⟩ rfl (fun H locs hH hS => ?_)
        exact b_347 ((x_L_call 1 0 1 0 5 ((-1)) γ).1) (x_L_call 1 0 1 0 5 ((-1)) γ).2 _ _ _ _ _ (lv_sub hl [0] rfl) hH hS (by omega) (by omega) hq
      · have hq := ifne hq c201
        refine lv_aload_n hx hb dL_most_300 rfl (lv_at hl 0 rfl) ?_
        refine lv_iload_n hx hb dL_most_301 rfl (lv_at hl 1 rfl) ?_
        refine lv_bipush (v := 12) hx hb dL_most_302 (by decide) ?_
        refine lv_irem hx hb dL_most_304 (by decide) ?_
        refine lv_iload_n hx hb dL_most_305 rfl (lv_at hl 1 rfl) ?_
        refine lv_iconst (v := 1) hx hb dL_most_306 (by decide) ?_
        refine lv_iadd hx hb dL_most_307 ?_
        refine lv_iload_n hx hb dL_most_308 rfl (lv_at hl 1 rfl) ?_
        refine lv_bipush (v := 12) hx hb dL_most_309 (by decide) ?_
        refine lv_idiv hx hb dL_most_311 (by decide) ?_
        refine lv_iadd hx hb dL_most_312 ?_
        refine lv_bipush (v := 12) hx hb dL_most_313 (by decide) ?_
        refine lv_irem hx hb dL_most_315 (by decide) ?_
        refine lv_iload_n hx hb dL_most_316 rfl (lv_at hl 1 rfl) ?_
        refine lv_iconst (v := 2) hx hb dL_most_317 (by decide) ?_
        refine lv_irem hx hb dL_most_318 (by decide) ?_
        refine lv_iload_n hx hb dL_most_319 rfl (lv_at hl 1 rfl) ?_
        refine lv_bipush (v := 6) hx hb dL_most_320 (by decide) ?_
        refine lv_irem hx hb dL_most_322 (by decide) ?_
        by_cases he202 : (x_L_quick (a1 - a1 / 12 * 12) (((a1 + 1) + (a1 / 12)) - ((a1 + 1) + (a1 / 12)) / 12 * 12) (a1 - a1 / 2 * 2) (a1 - a1 / 6 * 6) γ).1 = 0
        rotate_left
        · exact flag_bad (ifne hq he202) hk
        have hq := ifpe hq he202
        refine e_callS (rest := []) hC hl hH hS (c_L_quick l hfl κ γ (a1 - a1 / 12 * 12) (((a1 + 1) + (a1 / 12)) - ((a1 + 1) + (a1 / 12)) / 12 * 12) (a1 - a1 / 2 * 2) (a1 - a1 / 6 * 6) he202) tw_927 tw_928 tw_37 tw_929 hd_L_quick ⟨Nat.le_of_ble_eq_true rfl, Nat.le_of_ble_eq_true rfl⟩ rfl rfl rfl rfl (Nat.le_of_ble_eq_true rfl) dL_most_323 ⟨by show _ ≤ 1430; omega, by show _ ≤ 23252; omega⟩ rfl (fun H locs hH hS => ?_)
        exact b_326 a1 ((x_L_quick (a1 - a1 / 12 * 12) (((a1 + 1) + (a1 / 12)) - ((a1 + 1) + (a1 / 12)) / 12 * 12) (a1 - a1 / 2 * 2) (a1 - a1 / 6 * 6) γ).2.1) (x_L_quick (a1 - a1 / 12 * 12) (((a1 + 1) + (a1 / 12)) - ((a1 + 1) + (a1 / 12)) / 12 * 12) (a1 - a1 / 2 * 2) (a1 - a1 / 6 * 6) γ).2.2 _ _ _ _ _ (lv_sub hl [0, 1] rfl) hH hS (by omega) (by omega) hq
  have b_287 : ∀ (s0 : Int32) (γ : St) (H : Heap) (locs : List Loc) (ls : Array Slot) (cells slots : Nat), lv_has ls 2 [(0, .ref (kA κ 7 0))] → HE κ γ H → va_S (AA κ) s.heap H locs → cells + (1267) ≤ 1430 → slots + (21044) ≤ 23252 → x_L_most_287 s0 γ = res → W p l e (headSpec [Cond.code yL_most cL_most 2 (some .boolean)] ({ frames := 10, cells := 1430, slots := 23252, locals := 227 } : Room)).room s m ([] : List Value).toArray below meth c H locs cells slots (MQ below (QL κ res.2.2 (some (.int res.2.1))) ([] : List Value).toArray s 1430 23252 (AA κ)) (F0 m 287 ls [.int s0]) := by
    intro s0 γ H locs ls cells slots hl hH hS hc1 hc2 hq
    refine lv_if_ne (tgt := 292) hx hb dL_most_287 (by decide) (fun c203 => ?_) (fun c203 => ?_)
    · have hq := ifne hq c203
      refine lv_iconst (v := 0) hx hb dL_most_292 (by decide) ?_
      refine lv_istore_n (lv' := [(1, .int 0), (0, .ref (kA κ 7 0))]) hx hb dL_most_293 rfl hl (by decide) rfl (fun ls hl => ?_)
      exact b_294 81 0 γ _ _ _ _ _ (lv_sub hl [1, 0] rfl) hH hS (by omega) (by omega) hq
    · have hq := ifpe hq c203
      exact b_290 γ _ _ _ _ _ (lv_sub hl [] rfl) hH hS (by omega) (by omega) hq
  have b_274 : ∀ (s0 : Int32) (γ : St) (H : Heap) (locs : List Loc) (ls : Array Slot) (cells slots : Nat), lv_has ls 2 [(0, .ref (kA κ 7 0))] → HE κ γ H → va_S (AA κ) s.heap H locs → cells + (1273) ≤ 1430 → slots + (21080) ≤ 23252 → x_L_most_274 s0 γ = res → W p l e (headSpec [Cond.code yL_most cL_most 2 (some .boolean)] ({ frames := 10, cells := 1430, slots := 23252, locals := 227 } : Room)).room s m ([] : List Value).toArray below meth c H locs cells slots (MQ below (QL κ res.2.2 (some (.int res.2.1))) ([] : List Value).toArray s 1430 23252 (AA κ)) (F0 m 274 ls [.int s0]) := by
    intro s0 γ H locs ls cells slots hl hH hS hc1 hc2 hq
    refine lv_iconst (v := 5) hx hb dL_most_274 (by decide) ?_
    refine lv_icmp_ne (tgt := 290) hx hb dL_most_275 (by decide) (fun c204 => ?_) (fun c204 => ?_)
    · have hq := ifne hq c204
      exact b_290 γ _ _ _ _ _ (lv_sub hl [] rfl) hH hS (by omega) (by omega) hq
    · have hq := ifpe hq c204
      refine lv_aload_n hx hb dL_most_278 rfl (lv_at hl 0 rfl) ?_
      refine lv_iconst (v := 2) hx hb dL_most_279 (by decide) ?_
      refine lv_iconst (v := 1) hx hb dL_most_280 (by decide) ?_
      refine lv_iconst (v := (-1)) hx hb dL_most_281 (by decide) ?_
      refine lv_iconst (v := 5) hx hb dL_most_282 (by decide) ?_
      refine lv_iconst (v := (-1)) hx hb dL_most_283 (by decide) ?_
      by_cases he205 : (x_L_match 2 1 ((-1)) 5 ((-1)) γ).1 = 0
      rotate_left
      · exact flag_bad (ifne hq he205) hk
      have hq := ifpe hq he205
      refine e_callS (rest := []) hC hl hH hS (c_L_match l hfl κ γ 2 1 ((-1)) 5 ((-1)) he205) tw_933 tw_934 tw_37 tw_935 hd_L_match ⟨Nat.le_of_ble_eq_true rfl, Nat.le_of_ble_eq_true rfl⟩ rfl rfl rfl rfl (Nat.le_of_ble_eq_true rfl) dL_most_284 ⟨by show _ ≤ 1430; omega, by show _ ≤ 23252; omega⟩ rfl (fun H locs hH hS => ?_)
      exact b_287 ((x_L_match 2 1 ((-1)) 5 ((-1)) γ).2.1) (x_L_match 2 1 ((-1)) 5 ((-1)) γ).2.2 _ _ _ _ _ (lv_sub hl [0] rfl) hH hS (by omega) (by omega) hq
  have b_263 : ∀ (s0 : Int32) (γ : St) (H : Heap) (locs : List Loc) (ls : Array Slot) (cells slots : Nat), lv_has ls 2 [(0, .ref (kA κ 7 0))] → HE κ γ H → va_S (AA κ) s.heap H locs → cells + (1275) ≤ 1430 → slots + (21092) ≤ 23252 → x_L_most_263 s0 γ = res → W p l e (headSpec [Cond.code yL_most cL_most 2 (some .boolean)] ({ frames := 10, cells := 1430, slots := 23252, locals := 227 } : Room)).room s m ([] : List Value).toArray below meth c H locs cells slots (MQ below (QL κ res.2.2 (some (.int res.2.1))) ([] : List Value).toArray s 1430 23252 (AA κ)) (F0 m 263 ls [.int s0]) := by
    intro s0 γ H locs ls cells slots hl hH hS hc1 hc2 hq
    refine lv_iconst (v := 5) hx hb dL_most_263 (by decide) ?_
    refine lv_icmp_ne (tgt := 290) hx hb dL_most_264 (by decide) (fun c206 => ?_) (fun c206 => ?_)
    · have hq := ifne hq c206
      exact b_290 γ _ _ _ _ _ (lv_sub hl [] rfl) hH hS (by omega) (by omega) hq
    · have hq := ifpe hq c206
      refine lv_aload_n hx hb dL_most_267 rfl (lv_at hl 0 rfl) ?_
      refine lv_iconst (v := 1) hx hb dL_most_268 (by decide) ?_
      refine lv_iconst (v := 3) hx hb dL_most_269 (by decide) ?_
      refine lv_iconst (v := 1) hx hb dL_most_270 (by decide) ?_
      refine e_xcallV (rest := []) hC hl hH hS (co_wins l hfl κ γ 1 3 1) tw_822 tw_823 tw_824 tw_38 tw_825 hd_X7_wins ⟨Nat.le_of_ble_eq_true rfl, Nat.le_of_ble_eq_true rfl⟩ rfl rfl rfl rfl (Nat.le_of_ble_eq_true rfl) dL_most_271 ⟨by show _ ≤ 1430; omega, by show _ ≤ 23252; omega⟩ rfl (fun he207 ce q9 H locs hH hS hce hcv hcl => ?_) (fun he207 H locs hH hS => ?_)
      · exact flag_bad (ifne hq he207) hk
      have hq := ifpe hq he207
      exact b_274 ((x_X7_wins 1 3 1 γ).2.1) (x_X7_wins 1 3 1 γ).2.2 _ _ _ _ _ (lv_sub hl [0] rfl) hH hS (by omega) (by omega) hq
  have b_252 : ∀ (s0 : Int32) (γ : St) (H : Heap) (locs : List Loc) (ls : Array Slot) (cells slots : Nat), lv_has ls 2 [(0, .ref (kA κ 7 0))] → HE κ γ H → va_S (AA κ) s.heap H locs → cells + (1277) ≤ 1430 → slots + (21104) ≤ 23252 → x_L_most_252 s0 γ = res → W p l e (headSpec [Cond.code yL_most cL_most 2 (some .boolean)] ({ frames := 10, cells := 1430, slots := 23252, locals := 227 } : Room)).room s m ([] : List Value).toArray below meth c H locs cells slots (MQ below (QL κ res.2.2 (some (.int res.2.1))) ([] : List Value).toArray s 1430 23252 (AA κ)) (F0 m 252 ls [.int s0]) := by
    intro s0 γ H locs ls cells slots hl hH hS hc1 hc2 hq
    refine lv_if_eq (tgt := 290) hx hb dL_most_252 (by decide) (fun c208 => ?_) (fun c208 => ?_)
    · have hq := ifpe hq c208
      exact b_290 γ _ _ _ _ _ (lv_sub hl [] rfl) hH hS (by omega) (by omega) hq
    · have hq := ifne hq c208
      refine lv_aload_n hx hb dL_most_255 rfl (lv_at hl 0 rfl) ?_
      refine lv_iconst (v := 0) hx hb dL_most_256 (by decide) ?_
      refine lv_bipush (v := 7) hx hb dL_most_257 (by decide) ?_
      refine lv_iconst (v := 0) hx hb dL_most_259 (by decide) ?_
      refine e_xcallV (rest := []) hC hl hH hS (co_wins l hfl κ γ 0 7 0) tw_822 tw_823 tw_824 tw_38 tw_825 hd_X7_wins ⟨Nat.le_of_ble_eq_true rfl, Nat.le_of_ble_eq_true rfl⟩ rfl rfl rfl rfl (Nat.le_of_ble_eq_true rfl) dL_most_260 ⟨by show _ ≤ 1430; omega, by show _ ≤ 23252; omega⟩ rfl (fun he209 ce q9 H locs hH hS hce hcv hcl => ?_) (fun he209 H locs hH hS => ?_)
      · exact flag_bad (ifne hq he209) hk
      have hq := ifpe hq he209
      exact b_263 ((x_X7_wins 0 7 0 γ).2.1) (x_X7_wins 0 7 0 γ).2.2 _ _ _ _ _ (lv_sub hl [0] rfl) hH hS (by omega) (by omega) hq
  have b_240 : ∀ (s0 : Int32) (γ : St) (H : Heap) (locs : List Loc) (ls : Array Slot) (cells slots : Nat), lv_has ls 2 [(0, .ref (kA κ 7 0))] → HE κ γ H → va_S (AA κ) s.heap H locs → cells + (1283) ≤ 1430 → slots + (21140) ≤ 23252 → x_L_most_240 s0 γ = res → W p l e (headSpec [Cond.code yL_most cL_most 2 (some .boolean)] ({ frames := 10, cells := 1430, slots := 23252, locals := 227 } : Room)).room s m ([] : List Value).toArray below meth c H locs cells slots (MQ below (QL κ res.2.2 (some (.int res.2.1))) ([] : List Value).toArray s 1430 23252 (AA κ)) (F0 m 240 ls [.int s0]) := by
    intro s0 γ H locs ls cells slots hl hH hS hc1 hc2 hq
    refine lv_if_eq (tgt := 290) hx hb dL_most_240 (by decide) (fun c210 => ?_) (fun c210 => ?_)
    · have hq := ifpe hq c210
      exact b_290 γ _ _ _ _ _ (lv_sub hl [] rfl) hH hS (by omega) (by omega) hq
    · have hq := ifne hq c210
      refine lv_aload_n hx hb dL_most_243 rfl (lv_at hl 0 rfl) ?_
      refine lv_iconst (v := 3) hx hb dL_most_244 (by decide) ?_
      refine lv_iconst (v := 0) hx hb dL_most_245 (by decide) ?_
      refine lv_iconst (v := (-1)) hx hb dL_most_246 (by decide) ?_
      refine lv_iconst (v := (-1)) hx hb dL_most_247 (by decide) ?_
      refine lv_iconst (v := (-1)) hx hb dL_most_248 (by decide) ?_
      by_cases he211 : (x_L_match 3 0 ((-1)) ((-1)) ((-1)) γ).1 = 0
      rotate_left
      · exact flag_bad (ifne hq he211) hk
      have hq := ifpe hq he211
      refine e_callS (rest := []) hC hl hH hS (c_L_match l hfl κ γ 3 0 ((-1)) ((-1)) ((-1)) he211) tw_933 tw_934 tw_37 tw_935 hd_L_match ⟨Nat.le_of_ble_eq_true rfl, Nat.le_of_ble_eq_true rfl⟩ rfl rfl rfl rfl (Nat.le_of_ble_eq_true rfl) dL_most_249 ⟨by show _ ≤ 1430; omega, by show _ ≤ 23252; omega⟩ rfl (fun H locs hH hS => ?_)
      exact b_252 ((x_L_match 3 0 ((-1)) ((-1)) ((-1)) γ).2.1) (x_L_match 3 0 ((-1)) ((-1)) ((-1)) γ).2.2 _ _ _ _ _ (lv_sub hl [0] rfl) hH hS (by omega) (by omega) hq
  have b_228 : ∀ (s0 : Int32) (γ : St) (H : Heap) (locs : List Loc) (ls : Array Slot) (cells slots : Nat), lv_has ls 2 [(0, .ref (kA κ 7 0))] → HE κ γ H → va_S (AA κ) s.heap H locs → cells + (1289) ≤ 1430 → slots + (21176) ≤ 23252 → x_L_most_228 s0 γ = res → W p l e (headSpec [Cond.code yL_most cL_most 2 (some .boolean)] ({ frames := 10, cells := 1430, slots := 23252, locals := 227 } : Room)).room s m ([] : List Value).toArray below meth c H locs cells slots (MQ below (QL κ res.2.2 (some (.int res.2.1))) ([] : List Value).toArray s 1430 23252 (AA κ)) (F0 m 228 ls [.int s0]) := by
    intro s0 γ H locs ls cells slots hl hH hS hc1 hc2 hq
    refine lv_if_eq (tgt := 290) hx hb dL_most_228 (by decide) (fun c212 => ?_) (fun c212 => ?_)
    · have hq := ifpe hq c212
      exact b_290 γ _ _ _ _ _ (lv_sub hl [] rfl) hH hS (by omega) (by omega) hq
    · have hq := ifne hq c212
      refine lv_aload_n hx hb dL_most_231 rfl (lv_at hl 0 rfl) ?_
      refine lv_iconst (v := 1) hx hb dL_most_232 (by decide) ?_
      refine lv_iconst (v := 3) hx hb dL_most_233 (by decide) ?_
      refine lv_iconst (v := 2) hx hb dL_most_234 (by decide) ?_
      refine lv_iconst (v := (-1)) hx hb dL_most_235 (by decide) ?_
      refine lv_iconst (v := (-1)) hx hb dL_most_236 (by decide) ?_
      by_cases he213 : (x_L_match 1 3 2 ((-1)) ((-1)) γ).1 = 0
      rotate_left
      · exact flag_bad (ifne hq he213) hk
      have hq := ifpe hq he213
      refine e_callS (rest := []) hC hl hH hS (c_L_match l hfl κ γ 1 3 2 ((-1)) ((-1)) he213) tw_933 tw_934 tw_37 tw_935 hd_L_match ⟨Nat.le_of_ble_eq_true rfl, Nat.le_of_ble_eq_true rfl⟩ rfl rfl rfl rfl (Nat.le_of_ble_eq_true rfl) dL_most_237 ⟨by show _ ≤ 1430; omega, by show _ ≤ 23252; omega⟩ rfl (fun H locs hH hS => ?_)
      exact b_240 ((x_L_match 1 3 2 ((-1)) ((-1)) γ).2.1) (x_L_match 1 3 2 ((-1)) ((-1)) γ).2.2 _ _ _ _ _ (lv_sub hl [0] rfl) hH hS (by omega) (by omega) hq
  have b_216 : ∀ (s0 : Int32) (γ : St) (H : Heap) (locs : List Loc) (ls : Array Slot) (cells slots : Nat), lv_has ls 2 [(0, .ref (kA κ 7 0))] → HE κ γ H → va_S (AA κ) s.heap H locs → cells + (1295) ≤ 1430 → slots + (21212) ≤ 23252 → x_L_most_216 s0 γ = res → W p l e (headSpec [Cond.code yL_most cL_most 2 (some .boolean)] ({ frames := 10, cells := 1430, slots := 23252, locals := 227 } : Room)).room s m ([] : List Value).toArray below meth c H locs cells slots (MQ below (QL κ res.2.2 (some (.int res.2.1))) ([] : List Value).toArray s 1430 23252 (AA κ)) (F0 m 216 ls [.int s0]) := by
    intro s0 γ H locs ls cells slots hl hH hS hc1 hc2 hq
    refine lv_if_eq (tgt := 290) hx hb dL_most_216 (by decide) (fun c214 => ?_) (fun c214 => ?_)
    · have hq := ifpe hq c214
      exact b_290 γ _ _ _ _ _ (lv_sub hl [] rfl) hH hS (by omega) (by omega) hq
    · have hq := ifne hq c214
      refine lv_aload_n hx hb dL_most_219 rfl (lv_at hl 0 rfl) ?_
      refine lv_iconst (v := 1) hx hb dL_most_220 (by decide) ?_
      refine lv_iconst (v := 1) hx hb dL_most_221 (by decide) ?_
      refine lv_iconst (v := 3) hx hb dL_most_222 (by decide) ?_
      refine lv_iconst (v := (-1)) hx hb dL_most_223 (by decide) ?_
      refine lv_iconst (v := (-1)) hx hb dL_most_224 (by decide) ?_
      by_cases he215 : (x_L_match 1 1 3 ((-1)) ((-1)) γ).1 = 0
      rotate_left
      · exact flag_bad (ifne hq he215) hk
      have hq := ifpe hq he215
      refine e_callS (rest := []) hC hl hH hS (c_L_match l hfl κ γ 1 1 3 ((-1)) ((-1)) he215) tw_933 tw_934 tw_37 tw_935 hd_L_match ⟨Nat.le_of_ble_eq_true rfl, Nat.le_of_ble_eq_true rfl⟩ rfl rfl rfl rfl (Nat.le_of_ble_eq_true rfl) dL_most_225 ⟨by show _ ≤ 1430; omega, by show _ ≤ 23252; omega⟩ rfl (fun H locs hH hS => ?_)
      exact b_228 ((x_L_match 1 1 3 ((-1)) ((-1)) γ).2.1) (x_L_match 1 1 3 ((-1)) ((-1)) γ).2.2 _ _ _ _ _ (lv_sub hl [0] rfl) hH hS (by omega) (by omega) hq
  have b_204 : ∀ (s0 : Int32) (γ : St) (H : Heap) (locs : List Loc) (ls : Array Slot) (cells slots : Nat), lv_has ls 2 [(0, .ref (kA κ 7 0))] → HE κ γ H → va_S (AA κ) s.heap H locs → cells + (1301) ≤ 1430 → slots + (21248) ≤ 23252 → x_L_most_204 s0 γ = res → W p l e (headSpec [Cond.code yL_most cL_most 2 (some .boolean)] ({ frames := 10, cells := 1430, slots := 23252, locals := 227 } : Room)).room s m ([] : List Value).toArray below meth c H locs cells slots (MQ below (QL κ res.2.2 (some (.int res.2.1))) ([] : List Value).toArray s 1430 23252 (AA κ)) (F0 m 204 ls [.int s0]) := by
    intro s0 γ H locs ls cells slots hl hH hS hc1 hc2 hq
    refine lv_if_eq (tgt := 290) hx hb dL_most_204 (by decide) (fun c216 => ?_) (fun c216 => ?_)
    · have hq := ifpe hq c216
      exact b_290 γ _ _ _ _ _ (lv_sub hl [] rfl) hH hS (by omega) (by omega) hq
    · have hq := ifne hq c216
      refine lv_aload_n hx hb dL_most_207 rfl (lv_at hl 0 rfl) ?_
      refine lv_iconst (v := 1) hx hb dL_most_208 (by decide) ?_
      refine lv_iconst (v := 0) hx hb dL_most_209 (by decide) ?_
      refine lv_iconst (v := 0) hx hb dL_most_210 (by decide) ?_
      refine lv_iconst (v := (-1)) hx hb dL_most_211 (by decide) ?_
      refine lv_iconst (v := (-1)) hx hb dL_most_212 (by decide) ?_
      by_cases he217 : (x_L_match 1 0 0 ((-1)) ((-1)) γ).1 = 0
      rotate_left
      · exact flag_bad (ifne hq he217) hk
      have hq := ifpe hq he217
      refine e_callS (rest := []) hC hl hH hS (c_L_match l hfl κ γ 1 0 0 ((-1)) ((-1)) he217) tw_933 tw_934 tw_37 tw_935 hd_L_match ⟨Nat.le_of_ble_eq_true rfl, Nat.le_of_ble_eq_true rfl⟩ rfl rfl rfl rfl (Nat.le_of_ble_eq_true rfl) dL_most_213 ⟨by show _ ≤ 1430; omega, by show _ ≤ 23252; omega⟩ rfl (fun H locs hH hS => ?_)
      exact b_216 ((x_L_match 1 0 0 ((-1)) ((-1)) γ).2.1) (x_L_match 1 0 0 ((-1)) ((-1)) γ).2.2 _ _ _ _ _ (lv_sub hl [0] rfl) hH hS (by omega) (by omega) hq
  have b_190 : ∀ (s0 : Int32) (γ : St) (H : Heap) (locs : List Loc) (ls : Array Slot) (cells slots : Nat), lv_has ls 2 [(0, .ref (kA κ 7 0))] → HE κ γ H → va_S (AA κ) s.heap H locs → cells + (1307) ≤ 1430 → slots + (21284) ≤ 23252 → x_L_most_190 s0 γ = res → W p l e (headSpec [Cond.code yL_most cL_most 2 (some .boolean)] ({ frames := 10, cells := 1430, slots := 23252, locals := 227 } : Room)).room s m ([] : List Value).toArray below meth c H locs cells slots (MQ below (QL κ res.2.2 (some (.int res.2.1))) ([] : List Value).toArray s 1430 23252 (AA κ)) (F0 m 190 ls [.int s0]) := by
    intro s0 γ H locs ls cells slots hl hH hS hc1 hc2 hq
    refine lv_if_eq (tgt := 290) hx hb dL_most_190 (by decide) (fun c218 => ?_) (fun c218 => ?_)
    · have hq := ifpe hq c218
      exact b_290 γ _ _ _ _ _ (lv_sub hl [] rfl) hH hS (by omega) (by omega) hq
    · have hq := ifne hq c218
      refine lv_aload_n hx hb dL_most_193 rfl (lv_at hl 0 rfl) ?_
      refine lv_iconst (v := 0) hx hb dL_most_194 (by decide) ?_
      refine lv_bipush (v := 7) hx hb dL_most_195 (by decide) ?_
      refine lv_iconst (v := 5) hx hb dL_most_197 (by decide) ?_
      refine lv_bipush (v := 10) hx hb dL_most_198 (by decide) ?_
      refine lv_iconst (v := (-1)) hx hb dL_most_200 (by decide) ?_
      by_cases he219 : (x_L_match 0 7 5 10 ((-1)) γ).1 = 0
      rotate_left
      · exact flag_bad (ifne hq he219) hk
      have hq := ifpe hq he219
      refine e_callS (rest := []) hC hl hH hS (c_L_match l hfl κ γ 0 7 5 10 ((-1)) he219) tw_933 tw_934 tw_37 tw_935 hd_L_match ⟨Nat.le_of_ble_eq_true rfl, Nat.le_of_ble_eq_true rfl⟩ rfl rfl rfl rfl (Nat.le_of_ble_eq_true rfl) dL_most_201 ⟨by show _ ≤ 1430; omega, by show _ ≤ 23252; omega⟩ rfl (fun H locs hH hS => ?_)
      exact b_204 ((x_L_match 0 7 5 10 ((-1)) γ).2.1) (x_L_match 0 7 5 10 ((-1)) γ).2.2 _ _ _ _ _ (lv_sub hl [0] rfl) hH hS (by omega) (by omega) hq
  have b_177 : ∀ (s0 : Int32) (γ : St) (H : Heap) (locs : List Loc) (ls : Array Slot) (cells slots : Nat), lv_has ls 2 [(0, .ref (kA κ 7 0))] → HE κ γ H → va_S (AA κ) s.heap H locs → cells + (1313) ≤ 1430 → slots + (21320) ≤ 23252 → x_L_most_177 s0 γ = res → W p l e (headSpec [Cond.code yL_most cL_most 2 (some .boolean)] ({ frames := 10, cells := 1430, slots := 23252, locals := 227 } : Room)).room s m ([] : List Value).toArray below meth c H locs cells slots (MQ below (QL κ res.2.2 (some (.int res.2.1))) ([] : List Value).toArray s 1430 23252 (AA κ)) (F0 m 177 ls [.int s0]) := by
    intro s0 γ H locs ls cells slots hl hH hS hc1 hc2 hq
    refine lv_if_eq (tgt := 290) hx hb dL_most_177 (by decide) (fun c220 => ?_) (fun c220 => ?_)
    · have hq := ifpe hq c220
      exact b_290 γ _ _ _ _ _ (lv_sub hl [] rfl) hH hS (by omega) (by omega) hq
    · have hq := ifne hq c220
      refine lv_aload_n hx hb dL_most_180 rfl (lv_at hl 0 rfl) ?_
      refine lv_iconst (v := 0) hx hb dL_most_181 (by decide) ?_
      refine lv_bipush (v := 6) hx hb dL_most_182 (by decide) ?_
      refine lv_iconst (v := 2) hx hb dL_most_184 (by decide) ?_
      refine lv_iconst (v := (-1)) hx hb dL_most_185 (by decide) ?_
      refine lv_iconst (v := 2) hx hb dL_most_186 (by decide) ?_
      by_cases he221 : (x_L_match 0 6 2 ((-1)) 2 γ).1 = 0
      rotate_left
      · exact flag_bad (ifne hq he221) hk
      have hq := ifpe hq he221
      refine e_callS (rest := []) hC hl hH hS (c_L_match l hfl κ γ 0 6 2 ((-1)) 2 he221) tw_933 tw_934 tw_37 tw_935 hd_L_match ⟨Nat.le_of_ble_eq_true rfl, Nat.le_of_ble_eq_true rfl⟩ rfl rfl rfl rfl (Nat.le_of_ble_eq_true rfl) dL_most_187 ⟨by show _ ≤ 1430; omega, by show _ ≤ 23252; omega⟩ rfl (fun H locs hH hS => ?_)
      exact b_190 ((x_L_match 0 6 2 ((-1)) 2 γ).2.1) (x_L_match 0 6 2 ((-1)) 2 γ).2.2 _ _ _ _ _ (lv_sub hl [0] rfl) hH hS (by omega) (by omega) hq
  have b_163 : ∀ (s0 : Int32) (γ : St) (H : Heap) (locs : List Loc) (ls : Array Slot) (cells slots : Nat), lv_has ls 2 [(0, .ref (kA κ 7 0))] → HE κ γ H → va_S (AA κ) s.heap H locs → cells + (1319) ≤ 1430 → slots + (21356) ≤ 23252 → x_L_most_163 s0 γ = res → W p l e (headSpec [Cond.code yL_most cL_most 2 (some .boolean)] ({ frames := 10, cells := 1430, slots := 23252, locals := 227 } : Room)).room s m ([] : List Value).toArray below meth c H locs cells slots (MQ below (QL κ res.2.2 (some (.int res.2.1))) ([] : List Value).toArray s 1430 23252 (AA κ)) (F0 m 163 ls [.int s0]) := by
    intro s0 γ H locs ls cells slots hl hH hS hc1 hc2 hq
    refine lv_if_eq (tgt := 290) hx hb dL_most_163 (by decide) (fun c222 => ?_) (fun c222 => ?_)
    · have hq := ifpe hq c222
      exact b_290 γ _ _ _ _ _ (lv_sub hl [] rfl) hH hS (by omega) (by omega) hq
    · have hq := ifne hq c222
      refine lv_aload_n hx hb dL_most_166 rfl (lv_at hl 0 rfl) ?_
      refine lv_iconst (v := 0) hx hb dL_most_167 (by decide) ?_
      refine lv_iconst (v := 5) hx hb dL_most_168 (by decide) ?_
      refine lv_bipush (v := 6) hx hb dL_most_169 (by decide) ?_
      refine lv_bipush (v := 9) hx hb dL_most_171 (by decide) ?_
      refine lv_iconst (v := (-1)) hx hb dL_most_173 (by decide) ?_
      by_cases he223 : (x_L_match 0 5 6 9 ((-1)) γ).1 = 0
      rotate_left
      · exact flag_bad (ifne hq he223) hk
      have hq := ifpe hq he223
      refine e_callS (rest := []) hC hl hH hS (c_L_match l hfl κ γ 0 5 6 9 ((-1)) he223) tw_933 tw_934 tw_37 tw_935 hd_L_match ⟨Nat.le_of_ble_eq_true rfl, Nat.le_of_ble_eq_true rfl⟩ rfl rfl rfl rfl (Nat.le_of_ble_eq_true rfl) dL_most_174 ⟨by show _ ≤ 1430; omega, by show _ ≤ 23252; omega⟩ rfl (fun H locs hH hS => ?_)
      exact b_177 ((x_L_match 0 5 6 9 ((-1)) γ).2.1) (x_L_match 0 5 6 9 ((-1)) γ).2.2 _ _ _ _ _ (lv_sub hl [0] rfl) hH hS (by omega) (by omega) hq
  have b_151 : ∀ (s0 : Int32) (γ : St) (H : Heap) (locs : List Loc) (ls : Array Slot) (cells slots : Nat), lv_has ls 2 [(0, .ref (kA κ 7 0))] → HE κ γ H → va_S (AA κ) s.heap H locs → cells + (1325) ≤ 1430 → slots + (21392) ≤ 23252 → x_L_most_151 s0 γ = res → W p l e (headSpec [Cond.code yL_most cL_most 2 (some .boolean)] ({ frames := 10, cells := 1430, slots := 23252, locals := 227 } : Room)).room s m ([] : List Value).toArray below meth c H locs cells slots (MQ below (QL κ res.2.2 (some (.int res.2.1))) ([] : List Value).toArray s 1430 23252 (AA κ)) (F0 m 151 ls [.int s0]) := by
    intro s0 γ H locs ls cells slots hl hH hS hc1 hc2 hq
    refine lv_if_eq (tgt := 290) hx hb dL_most_151 (by decide) (fun c224 => ?_) (fun c224 => ?_)
    · have hq := ifpe hq c224
      exact b_290 γ _ _ _ _ _ (lv_sub hl [] rfl) hH hS (by omega) (by omega) hq
    · have hq := ifne hq c224
      refine lv_aload_n hx hb dL_most_154 rfl (lv_at hl 0 rfl) ?_
      refine lv_iconst (v := 0) hx hb dL_most_155 (by decide) ?_
      refine lv_iconst (v := 4) hx hb dL_most_156 (by decide) ?_
      refine lv_iconst (v := 1) hx hb dL_most_157 (by decide) ?_
      refine lv_iconst (v := (-1)) hx hb dL_most_158 (by decide) ?_
      refine lv_iconst (v := 1) hx hb dL_most_159 (by decide) ?_
      by_cases he225 : (x_L_match 0 4 1 ((-1)) 1 γ).1 = 0
      rotate_left
      · exact flag_bad (ifne hq he225) hk
      have hq := ifpe hq he225
      refine e_callS (rest := []) hC hl hH hS (c_L_match l hfl κ γ 0 4 1 ((-1)) 1 he225) tw_933 tw_934 tw_37 tw_935 hd_L_match ⟨Nat.le_of_ble_eq_true rfl, Nat.le_of_ble_eq_true rfl⟩ rfl rfl rfl rfl (Nat.le_of_ble_eq_true rfl) dL_most_160 ⟨by show _ ≤ 1430; omega, by show _ ≤ 23252; omega⟩ rfl (fun H locs hH hS => ?_)
      exact b_163 ((x_L_match 0 4 1 ((-1)) 1 γ).2.1) (x_L_match 0 4 1 ((-1)) 1 γ).2.2 _ _ _ _ _ (lv_sub hl [0] rfl) hH hS (by omega) (by omega) hq
  have b_138 : ∀ (s0 : Int32) (γ : St) (H : Heap) (locs : List Loc) (ls : Array Slot) (cells slots : Nat), lv_has ls 2 [(0, .ref (kA κ 7 0))] → HE κ γ H → va_S (AA κ) s.heap H locs → cells + (1331) ≤ 1430 → slots + (21428) ≤ 23252 → x_L_most_138 s0 γ = res → W p l e (headSpec [Cond.code yL_most cL_most 2 (some .boolean)] ({ frames := 10, cells := 1430, slots := 23252, locals := 227 } : Room)).room s m ([] : List Value).toArray below meth c H locs cells slots (MQ below (QL κ res.2.2 (some (.int res.2.1))) ([] : List Value).toArray s 1430 23252 (AA κ)) (F0 m 138 ls [.int s0]) := by
    intro s0 γ H locs ls cells slots hl hH hS hc1 hc2 hq
    refine lv_if_eq (tgt := 290) hx hb dL_most_138 (by decide) (fun c226 => ?_) (fun c226 => ?_)
    · have hq := ifpe hq c226
      exact b_290 γ _ _ _ _ _ (lv_sub hl [] rfl) hH hS (by omega) (by omega) hq
    · have hq := ifne hq c226
      refine lv_aload_n hx hb dL_most_141 rfl (lv_at hl 0 rfl) ?_
      refine lv_iconst (v := 0) hx hb dL_most_142 (by decide) ?_
      refine lv_iconst (v := 3) hx hb dL_most_143 (by decide) ?_
      refine lv_iconst (v := 4) hx hb dL_most_144 (by decide) ?_
      refine lv_bipush (v := 11) hx hb dL_most_145 (by decide) ?_
      refine lv_iconst (v := (-1)) hx hb dL_most_147 (by decide) ?_
      by_cases he227 : (x_L_match 0 3 4 11 ((-1)) γ).1 = 0
      rotate_left
      · exact flag_bad (ifne hq he227) hk
      have hq := ifpe hq he227
      refine e_callS (rest := []) hC hl hH hS (c_L_match l hfl κ γ 0 3 4 11 ((-1)) he227) tw_933 tw_934 tw_37 tw_935 hd_L_match ⟨Nat.le_of_ble_eq_true rfl, Nat.le_of_ble_eq_true rfl⟩ rfl rfl rfl rfl (Nat.le_of_ble_eq_true rfl) dL_most_148 ⟨by show _ ≤ 1430; omega, by show _ ≤ 23252; omega⟩ rfl (fun H locs hH hS => ?_)
      exact b_151 ((x_L_match 0 3 4 11 ((-1)) γ).2.1) (x_L_match 0 3 4 11 ((-1)) γ).2.2 _ _ _ _ _ (lv_sub hl [0] rfl) hH hS (by omega) (by omega) hq
  have b_126 : ∀ (s0 : Int32) (γ : St) (H : Heap) (locs : List Loc) (ls : Array Slot) (cells slots : Nat), lv_has ls 2 [(0, .ref (kA κ 7 0))] → HE κ γ H → va_S (AA κ) s.heap H locs → cells + (1337) ≤ 1430 → slots + (21464) ≤ 23252 → x_L_most_126 s0 γ = res → W p l e (headSpec [Cond.code yL_most cL_most 2 (some .boolean)] ({ frames := 10, cells := 1430, slots := 23252, locals := 227 } : Room)).room s m ([] : List Value).toArray below meth c H locs cells slots (MQ below (QL κ res.2.2 (some (.int res.2.1))) ([] : List Value).toArray s 1430 23252 (AA κ)) (F0 m 126 ls [.int s0]) := by
    intro s0 γ H locs ls cells slots hl hH hS hc1 hc2 hq
    refine lv_if_eq (tgt := 290) hx hb dL_most_126 (by decide) (fun c228 => ?_) (fun c228 => ?_)
    · have hq := ifpe hq c228
      exact b_290 γ _ _ _ _ _ (lv_sub hl [] rfl) hH hS (by omega) (by omega) hq
    · have hq := ifne hq c228
      refine lv_aload_n hx hb dL_most_129 rfl (lv_at hl 0 rfl) ?_
      refine lv_iconst (v := 0) hx hb dL_most_130 (by decide) ?_
      refine lv_iconst (v := 2) hx hb dL_most_131 (by decide) ?_
      refine lv_iconst (v := 3) hx hb dL_most_132 (by decide) ?_
      refine lv_iconst (v := (-1)) hx hb dL_most_133 (by decide) ?_
      refine lv_iconst (v := 3) hx hb dL_most_134 (by decide) ?_
      by_cases he229 : (x_L_match 0 2 3 ((-1)) 3 γ).1 = 0
      rotate_left
      · exact flag_bad (ifne hq he229) hk
      have hq := ifpe hq he229
      refine e_callS (rest := []) hC hl hH hS (c_L_match l hfl κ γ 0 2 3 ((-1)) 3 he229) tw_933 tw_934 tw_37 tw_935 hd_L_match ⟨Nat.le_of_ble_eq_true rfl, Nat.le_of_ble_eq_true rfl⟩ rfl rfl rfl rfl (Nat.le_of_ble_eq_true rfl) dL_most_135 ⟨by show _ ≤ 1430; omega, by show _ ≤ 23252; omega⟩ rfl (fun H locs hH hS => ?_)
      exact b_138 ((x_L_match 0 2 3 ((-1)) 3 γ).2.1) (x_L_match 0 2 3 ((-1)) 3 γ).2.2 _ _ _ _ _ (lv_sub hl [0] rfl) hH hS (by omega) (by omega) hq
  have b_112 : ∀ (s0 : Int32) (γ : St) (H : Heap) (locs : List Loc) (ls : Array Slot) (cells slots : Nat), lv_has ls 2 [(0, .ref (kA κ 7 0))] → HE κ γ H → va_S (AA κ) s.heap H locs → cells + (1343) ≤ 1430 → slots + (21500) ≤ 23252 → x_L_most_112 s0 γ = res → W p l e (headSpec [Cond.code yL_most cL_most 2 (some .boolean)] ({ frames := 10, cells := 1430, slots := 23252, locals := 227 } : Room)).room s m ([] : List Value).toArray below meth c H locs cells slots (MQ below (QL κ res.2.2 (some (.int res.2.1))) ([] : List Value).toArray s 1430 23252 (AA κ)) (F0 m 112 ls [.int s0]) := by
    intro s0 γ H locs ls cells slots hl hH hS hc1 hc2 hq
    refine lv_if_eq (tgt := 290) hx hb dL_most_112 (by decide) (fun c230 => ?_) (fun c230 => ?_)
    · have hq := ifpe hq c230
      exact b_290 γ _ _ _ _ _ (lv_sub hl [] rfl) hH hS (by omega) (by omega) hq
    · have hq := ifne hq c230
      refine lv_aload_n hx hb dL_most_115 rfl (lv_at hl 0 rfl) ?_
      refine lv_iconst (v := 0) hx hb dL_most_116 (by decide) ?_
      refine lv_iconst (v := 1) hx hb dL_most_117 (by decide) ?_
      refine lv_bipush (v := 7) hx hb dL_most_118 (by decide) ?_
      refine lv_bipush (v := 8) hx hb dL_most_120 (by decide) ?_
      refine lv_iconst (v := (-1)) hx hb dL_most_122 (by decide) ?_
      by_cases he231 : (x_L_match 0 1 7 8 ((-1)) γ).1 = 0
      rotate_left
      · exact flag_bad (ifne hq he231) hk
      have hq := ifpe hq he231
      refine e_callS (rest := []) hC hl hH hS (c_L_match l hfl κ γ 0 1 7 8 ((-1)) he231) tw_933 tw_934 tw_37 tw_935 hd_L_match ⟨Nat.le_of_ble_eq_true rfl, Nat.le_of_ble_eq_true rfl⟩ rfl rfl rfl rfl (Nat.le_of_ble_eq_true rfl) dL_most_123 ⟨by show _ ≤ 1430; omega, by show _ ≤ 23252; omega⟩ rfl (fun H locs hH hS => ?_)
      exact b_126 ((x_L_match 0 1 7 8 ((-1)) γ).2.1) (x_L_match 0 1 7 8 ((-1)) γ).2.2 _ _ _ _ _ (lv_sub hl [0] rfl) hH hS (by omega) (by omega) hq
  have b_98 : ∀ (s0 : Int32) (γ : St) (H : Heap) (locs : List Loc) (ls : Array Slot) (cells slots : Nat), lv_has ls 2 [(0, .ref (kA κ 7 0))] → HE κ γ H → va_S (AA κ) s.heap H locs → cells + (1349) ≤ 1430 → slots + (21536) ≤ 23252 → x_L_most_98 s0 γ = res → W p l e (headSpec [Cond.code yL_most cL_most 2 (some .boolean)] ({ frames := 10, cells := 1430, slots := 23252, locals := 227 } : Room)).room s m ([] : List Value).toArray below meth c H locs cells slots (MQ below (QL κ res.2.2 (some (.int res.2.1))) ([] : List Value).toArray s 1430 23252 (AA κ)) (F0 m 98 ls [.int s0]) := by
    intro s0 γ H locs ls cells slots hl hH hS hc1 hc2 hq
    refine lv_bipush (v := 16) hx hb dL_most_98 (by decide) ?_
    refine lv_icmp_ne (tgt := 290) hx hb dL_most_100 (by decide) (fun c232 => ?_) (fun c232 => ?_)
    · have hq := ifne hq c232
      exact b_290 γ _ _ _ _ _ (lv_sub hl [] rfl) hH hS (by omega) (by omega) hq
    · have hq := ifpe hq c232
      refine lv_aload_n hx hb dL_most_103 rfl (lv_at hl 0 rfl) ?_
      refine lv_iconst (v := 0) hx hb dL_most_104 (by decide) ?_
      refine lv_iconst (v := 0) hx hb dL_most_105 (by decide) ?_
      refine lv_iconst (v := 0) hx hb dL_most_106 (by decide) ?_
      refine lv_iconst (v := (-1)) hx hb dL_most_107 (by decide) ?_
      refine lv_iconst (v := 0) hx hb dL_most_108 (by decide) ?_
      by_cases he233 : (x_L_match 0 0 0 ((-1)) 0 γ).1 = 0
      rotate_left
      · exact flag_bad (ifne hq he233) hk
      have hq := ifpe hq he233
      refine e_callS (rest := []) hC hl hH hS (c_L_match l hfl κ γ 0 0 0 ((-1)) 0 he233) tw_933 tw_934 tw_37 tw_935 hd_L_match ⟨Nat.le_of_ble_eq_true rfl, Nat.le_of_ble_eq_true rfl⟩ rfl rfl rfl rfl (Nat.le_of_ble_eq_true rfl) dL_most_109 ⟨by show _ ≤ 1430; omega, by show _ ≤ 23252; omega⟩ rfl (fun H locs hH hS => ?_)
      exact b_112 ((x_L_match 0 0 0 ((-1)) 0 γ).2.1) (x_L_match 0 0 0 ((-1)) 0 γ).2.2 _ _ _ _ _ (lv_sub hl [0] rfl) hH hS (by omega) (by omega) hq
  have b_51 : ∀ (k51 : Nat) (a1 : Int32) (γ : St) (H : Heap) (locs : List Loc) (ls : Array Slot) (cells slots : Nat), lv_has ls 2 [(0, .ref (kA κ 7 0)), (1, .int a1)] → HE κ γ H → va_S (AA κ) s.heap H locs → cells + (1350 + 3 * k51) ≤ 1430 → slots + (21542 + 65 * k51) ≤ 23252 → x_L_most_51 k51 a1 γ = res → W p l e (headSpec [Cond.code yL_most cL_most 2 (some .boolean)] ({ frames := 10, cells := 1430, slots := 23252, locals := 227 } : Room)).room s m ([] : List Value).toArray below meth c H locs cells slots (MQ below (QL κ res.2.2 (some (.int res.2.1))) ([] : List Value).toArray s 1430 23252 (AA κ)) (F0 m 51 ls []) := by
    intro k51
    induction k51 with
    | zero =>
      intro a1 γ H locs ls cells slots hl hH hS hc1 hc2 hq
      exact flag_bad hq hk
    | succ k51 ih_51 =>
      have b_82 : ∀ (a1 : Int32) (s0 : Int32) (s1 : Int32) (γ : St) (H : Heap) (locs : List Loc) (ls : Array Slot) (cells slots : Nat), lv_has ls 2 [(0, .ref (kA κ 7 0)), (1, .int a1)] → HE κ γ H → va_S (AA κ) s.heap H locs → cells + (1350 + 3 * k51) ≤ 1430 → slots + (21542 + 65 * k51) ≤ 23252 → x_L_most_82 (x_L_most_51 k51) a1 s0 s1 γ = res → W p l e (headSpec [Cond.code yL_most cL_most 2 (some .boolean)] ({ frames := 10, cells := 1430, slots := 23252, locals := 227 } : Room)).room s m ([] : List Value).toArray below meth c H locs cells slots (MQ below (QL κ res.2.2 (some (.int res.2.1))) ([] : List Value).toArray s 1430 23252 (AA κ)) (F0 m 82 ls [.int s0, .int s1]) := by
        intro a1 s0 s1 γ H locs ls cells slots hl hH hS hc1 hc2 hq
        refine lv_icmp_eq (tgt := 87) hx hb dL_most_82 (by decide) (fun c234 => ?_) (fun c234 => ?_)
        · have hq := ifpe hq c234
          refine lv_iinc (v := a1 + 1) (lv' := [(1, .int (a1 + 1)), (0, .ref (kA κ 7 0))]) hx hb dL_most_87 hl (k := 1) rfl rfl (by decide) rfl (fun ls hl => ?_)
          refine lv_goto (tgt := 51) hx hb dL_most_90 (by decide) ?_
          exact ih_51 (a1 + 1) γ _ _ _ _ _ (lv_sub hl [1, 0] rfl) hH hS (by omega) (by omega) hq
        · have hq := ifne hq c234
          refine lv_iconst (v := 0) hx hb dL_most_85 (by decide) ?_
          subst hq
          exact er_z hC hr rfl hH hS rfl rfl (by omega) (by omega) dL_most_86
      have b_70 : ∀ (a1 : Int32) (s0 : Int32) (γ : St) (H : Heap) (locs : List Loc) (ls : Array Slot) (cells slots : Nat), lv_has ls 2 [(0, .ref (kA κ 7 0)), (1, .int a1)] → HE κ γ H → va_S (AA κ) s.heap H locs → cells + (1350 + 3 * k51) ≤ 1430 → slots + (21542 + 65 * k51) ≤ 23252 → x_L_most_70 (x_L_most_51 k51) a1 s0 γ = res → W p l e (headSpec [Cond.code yL_most cL_most 2 (some .boolean)] ({ frames := 10, cells := 1430, slots := 23252, locals := 227 } : Room)).room s m ([] : List Value).toArray below meth c H locs cells slots (MQ below (QL κ res.2.2 (some (.int res.2.1))) ([] : List Value).toArray s 1430 23252 (AA κ)) (F0 m 70 ls [.int s0]) := by
        intro a1 s0 γ H locs ls cells slots hl hH hS hc1 hc2 hq
        refine lv_iload_n hx hb dL_most_70 rfl (lv_at hl 1 rfl) ?_
        refine lv_bipush (v := 6) hx hb dL_most_71 (by decide) ?_
        refine lv_icmp_ge (tgt := 80) hx hb dL_most_73 (by decide) (fun c235 => ?_) (fun c235 => ?_)
        · have hq := ifpe hq c235
          refine lv_bipush (v := (-73)) hx hb dL_most_80 (by decide) ?_
          exact b_82 a1 ((-73)) s0 γ _ _ _ _ _ (lv_sub hl [0, 1] rfl) hH hS (by omega) (by omega) hq
        · have hq := ifne hq c235
          refine lv_iload_n hx hb dL_most_76 rfl (lv_at hl 1 rfl) ?_
          refine lv_goto (tgt := 82) hx hb dL_most_77 (by decide) ?_
          exact b_82 a1 a1 s0 γ _ _ _ _ _ (lv_sub hl [0, 1] rfl) hH hS (by omega) (by omega) hq
      intro a1 γ H locs ls cells slots hl hH hS hc1 hc2 hq
      refine lv_iload_n hx hb dL_most_51 rfl (lv_at hl 1 rfl) ?_
      refine lv_bipush (v := 7) hx hb dL_most_52 (by decide) ?_
      refine lv_icmp_ge (tgt := 93) hx hb dL_most_54 (by decide) (fun c236 => ?_) (fun c236 => ?_)
      · have hq := ifpe hq c236
        refine lv_aload_n hx hb dL_most_93 rfl (lv_at hl 0 rfl) ?_
        refine lv_iconst (v := 5) hx hb dL_most_94 (by decide) ?_
        refine e_xcallV (rest := []) hC hl hH hS (co_tableau l hfl κ γ 5) tw_789 tw_790 tw_791 tw_38 tw_792 hd_X7_tableau ⟨Nat.le_of_ble_eq_true rfl, Nat.le_of_ble_eq_true rfl⟩ rfl rfl rfl rfl (Nat.le_of_ble_eq_true rfl) dL_most_95 ⟨by show _ ≤ 1430; omega, by show _ ≤ 23252; omega⟩ rfl (fun he237 ce q9 H locs hH hS hce hcv hcl => ?_) (fun he237 H locs hH hS => ?_)
        · exact flag_bad (ifne hq he237) hk
        have hq := ifpe hq he237
        exact b_98 ((x_X7_tableau 5 γ).2.1) (x_X7_tableau 5 γ).2.2 _ _ _ _ _ (lv_sub hl [0] rfl) hH hS (by omega) (by omega) hq
      · have hq := ifne hq c236
        refine lv_aload_n hx hb dL_most_57 rfl (lv_at hl 0 rfl) ?_
        refine lv_bipush (v := 9) hx hb dL_most_58 (by decide) ?_
        refine lv_sipush (v := 4095) hx hb dL_most_60 (by decide) ?_
        refine lv_iconst (v := 0) hx hb dL_most_63 (by decide) ?_
        refine lv_iconst (v := 0) hx hb dL_most_64 (by decide) ?_
        refine lv_iconst (v := 0) hx hb dL_most_65 (by decide) ?_
        refine lv_iconst (v := 0) hx hb dL_most_66 (by decide) ?_
        refine e_callW (rest := []) hC hl hH hS (c_L_call l hfl κ γ 9 4095 0 0 0 0) tw_430 tw_431 tw_37 tw_432 hd_L_call ⟨Nat.le_of_ble_eq_true rfl, Nat.le_of_ble_eq_true rfl⟩ rfl rfl rfl rfl (Nat.le_of_ble_eq_true rfl) dL_most_67 ⟨by show _ ≤ 1430; omega, by show _ ≤ 23252; omega⟩ rfl (fun H locs hH hS => ?_)
        exact b_70 a1 ((x_L_call 9 4095 0 0 0 0 γ).1) (x_L_call 9 4095 0 0 0 0 γ).2 _ _ _ _ _ (lv_sub hl [0, 1] rfl) hH hS (by omega) (by omega) hq
  have b_10 : ∀ (k10 : Nat) (a1 : Int32) (γ : St) (H : Heap) (locs : List Loc) (ls : Array Slot) (cells slots : Nat), lv_has ls 2 [(0, .ref (kA κ 7 0)), (1, .int a1)] → HE κ γ H → va_S (AA κ) s.heap H locs → cells + (1374 + 3 * k10) ≤ 1430 → slots + (22062 + 65 * k10) ≤ 23252 → x_L_most_10 k10 a1 γ = res → W p l e (headSpec [Cond.code yL_most cL_most 2 (some .boolean)] ({ frames := 10, cells := 1430, slots := 23252, locals := 227 } : Room)).room s m ([] : List Value).toArray below meth c H locs cells slots (MQ below (QL κ res.2.2 (some (.int res.2.1))) ([] : List Value).toArray s 1430 23252 (AA κ)) (F0 m 10 ls []) := by
    intro k10
    induction k10 with
    | zero =>
      intro a1 γ H locs ls cells slots hl hH hS hc1 hc2 hq
      exact flag_bad hq hk
    | succ k10 ih_10 =>
      have b_38 : ∀ (a1 : Int32) (s0 : Int32) (s1 : Int32) (γ : St) (H : Heap) (locs : List Loc) (ls : Array Slot) (cells slots : Nat), lv_has ls 2 [(0, .ref (kA κ 7 0)), (1, .int a1)] → HE κ γ H → va_S (AA κ) s.heap H locs → cells + (1374 + 3 * k10) ≤ 1430 → slots + (22062 + 65 * k10) ≤ 23252 → x_L_most_38 (x_L_most_10 k10) a1 s0 s1 γ = res → W p l e (headSpec [Cond.code yL_most cL_most 2 (some .boolean)] ({ frames := 10, cells := 1430, slots := 23252, locals := 227 } : Room)).room s m ([] : List Value).toArray below meth c H locs cells slots (MQ below (QL κ res.2.2 (some (.int res.2.1))) ([] : List Value).toArray s 1430 23252 (AA κ)) (F0 m 38 ls [.int s0, .int s1]) := by
        intro a1 s0 s1 γ H locs ls cells slots hl hH hS hc1 hc2 hq
        refine lv_icmp_eq (tgt := 43) hx hb dL_most_38 (by decide) (fun c238 => ?_) (fun c238 => ?_)
        · have hq := ifpe hq c238
          refine lv_iinc (v := a1 + 1) (lv' := [(1, .int (a1 + 1)), (0, .ref (kA κ 7 0))]) hx hb dL_most_43 hl (k := 1) rfl rfl (by decide) rfl (fun ls hl => ?_)
          refine lv_goto (tgt := 10) hx hb dL_most_46 (by decide) ?_
          exact ih_10 (a1 + 1) γ _ _ _ _ _ (lv_sub hl [1, 0] rfl) hH hS (by omega) (by omega) hq
        · have hq := ifne hq c238
          refine lv_iconst (v := 0) hx hb dL_most_41 (by decide) ?_
          subst hq
          exact er_z hC hr rfl hH hS rfl rfl (by omega) (by omega) dL_most_42
      have b_26 : ∀ (a1 : Int32) (s0 : Int32) (γ : St) (H : Heap) (locs : List Loc) (ls : Array Slot) (cells slots : Nat), lv_has ls 2 [(0, .ref (kA κ 7 0)), (1, .int a1)] → HE κ γ H → va_S (AA κ) s.heap H locs → cells + (1374 + 3 * k10) ≤ 1430 → slots + (22062 + 65 * k10) ≤ 23252 → x_L_most_26 (x_L_most_10 k10) a1 s0 γ = res → W p l e (headSpec [Cond.code yL_most cL_most 2 (some .boolean)] ({ frames := 10, cells := 1430, slots := 23252, locals := 227 } : Room)).room s m ([] : List Value).toArray below meth c H locs cells slots (MQ below (QL κ res.2.2 (some (.int res.2.1))) ([] : List Value).toArray s 1430 23252 (AA κ)) (F0 m 26 ls [.int s0]) := by
        intro a1 s0 γ H locs ls cells slots hl hH hS hc1 hc2 hq
        refine lv_iload_n hx hb dL_most_26 rfl (lv_at hl 1 rfl) ?_
        refine lv_bipush (v := 12) hx hb dL_most_27 (by decide) ?_
        refine lv_icmp_ge (tgt := 36) hx hb dL_most_29 (by decide) (fun c239 => ?_) (fun c239 => ?_)
        · have hq := ifpe hq c239
          refine lv_bipush (v := (-73)) hx hb dL_most_36 (by decide) ?_
          exact b_38 a1 ((-73)) s0 γ _ _ _ _ _ (lv_sub hl [0, 1] rfl) hH hS (by omega) (by omega) hq
        · have hq := ifne hq c239
          refine lv_iload_n hx hb dL_most_32 rfl (lv_at hl 1 rfl) ?_
          refine lv_goto (tgt := 38) hx hb dL_most_33 (by decide) ?_
          exact b_38 a1 a1 s0 γ _ _ _ _ _ (lv_sub hl [0, 1] rfl) hH hS (by omega) (by omega) hq
      intro a1 γ H locs ls cells slots hl hH hS hc1 hc2 hq
      refine lv_iload_n hx hb dL_most_10 rfl (lv_at hl 1 rfl) ?_
      refine lv_bipush (v := 13) hx hb dL_most_11 (by decide) ?_
      refine lv_icmp_ge (tgt := 49) hx hb dL_most_13 (by decide) (fun c240 => ?_) (fun c240 => ?_)
      · have hq := ifpe hq c240
        refine lv_iconst (v := 0) hx hb dL_most_49 (by decide) ?_
        refine lv_istore_n (lv' := [(1, .int 0), (0, .ref (kA κ 7 0))]) hx hb dL_most_50 rfl hl (by decide) rfl (fun ls hl => ?_)
        exact b_51 8 0 γ _ _ _ _ _ (lv_sub hl [1, 0] rfl) hH hS (by omega) (by omega) hq
      · have hq := ifne hq c240
        refine lv_aload_n hx hb dL_most_16 rfl (lv_at hl 0 rfl) ?_
        refine lv_iconst (v := 0) hx hb dL_most_17 (by decide) ?_
        refine lv_iconst (v := 0) hx hb dL_most_18 (by decide) ?_
        refine lv_iconst (v := 0) hx hb dL_most_19 (by decide) ?_
        refine lv_iconst (v := 0) hx hb dL_most_20 (by decide) ?_
        refine lv_iconst (v := 0) hx hb dL_most_21 (by decide) ?_
        refine lv_iconst (v := 0) hx hb dL_most_22 (by decide) ?_
        refine e_callW (rest := []) hC hl hH hS (c_L_call l hfl κ γ 0 0 0 0 0 0) tw_430 tw_431 tw_37 tw_432 hd_L_call ⟨Nat.le_of_ble_eq_true rfl, Nat.le_of_ble_eq_true rfl⟩ rfl rfl rfl rfl (Nat.le_of_ble_eq_true rfl) dL_most_23 ⟨by show _ ≤ 1430; omega, by show _ ≤ 23252; omega⟩ rfl (fun H locs hH hS => ?_)
        exact b_26 a1 ((x_L_call 0 0 0 0 0 0 γ).1) (x_L_call 0 0 0 0 0 0 γ).2 _ _ _ _ _ (lv_sub hl [0, 1] rfl) hH hS (by omega) (by omega) hq
  refine lv_iconst (v := 0) hx hb dL_most_8 (by decide) ?_
  refine lv_istore_n (lv' := [(1, .int 0), (0, .ref (kA κ 7 0))]) hx hb dL_most_9 rfl hl (by decide) rfl (fun ls hl => ?_)
  exact b_10 14 0 γ _ _ _ _ _ (lv_sub hl [1, 0] rfl) hH hS (by omega) (by omega) hq
set_option maxRecDepth 20000 in
set_option maxHeartbeats 8000000 in
theorem c_L_most (l : Launch) (hfl : l.stackTraces = false) (κ : KP) (hk : (x_L_most γS).1 = 0) : Met l yL_most [Cond.code yL_most cL_most 2 (some .boolean)] ({ frames := 10, cells := 1430, slots := 23252, locals := 227 } : Room) (va_Pc [] (GM κ)) (QM κ (some (.int (x_L_most γS).2.1))) 1430 23252 (AA κ) := by
  refine Met.ofW (cc := cL_most) (maxL := 2) (ret := (some .boolean)) (by decide) rfl ?_
  intro p e s m args below meth c s₁ B hml9 hv
  obtain ⟨rfl, hK9, hB9, hX9, hZ9, hAO2, hAO3⟩ := hv
  obtain ⟨D, kc, B0, kA9, kN9, kO9⟩ := κ
  have hK : va_K D vwCl [(kc 0, .int), (kc 1, .int), (kc 2, .object "Phrasehall$Bout"), (kc 3, .object "Phrasehall$Pool")] s := hK9
  have hB0 : B0 ≤ s.heap.size := hB9
  have hXT := hX9
  have hx := B.exec
  have hb : c.code = cL_most := B.bytes
  have hown : s.vm.findClass "PhrasehallLaw" = some m.cls := findClass_of_methodNamed B.named
  have hT : ∀ w ∈ TW, w.before ([] : List Value).toArray s = true := fun w hw => tw_use (List.mem_filter.mp hw).2 (State.WarmedH.refl s) (hX9.1 w hw)
  have hml := hml9
  have hr := B.returns
  obtain ⟨A, hAe⟩ : ∃ A : Nat → Prop, A = fun q : Nat => B0 ≤ q := ⟨_, rfl⟩
  have hA : ∀ q : Nat, s.heap.size ≤ q → A q := fun q h => by rw [hAe]; exact Nat.le_trans hB0 h
  have hS : va_S A s.heap s.heap [] := va_S.rf
  have hP : va_P D vwCl [] s.heap := fun k q h => by simp at h
  have hD : va_D A [] := ⟨fun i j p q h => by simp at h, fun k q h => by simp at h⟩
  have hl := lv_entry ([] : List Value) (n := 2) (Nat.le_of_ble_eq_true rfl)
  rw [lg_entry_eq]
  generalize (lg_sl ([] : List Value) ++ List.replicate (2 - (lg_sl ([] : List Value)).length) Slot.unset).toArray = ls at hl ⊢
  have hl : lv_has ls 2 [] := hl
  refine va_new (ci := 7) (fs := [.null, .null, .null, .null, .null, .int 0, .int 0, .int 0, .null, .int 0]) (C := RX7) (T := TX7) (N := 10) hx hb hT inX7 tyX7 tyX7_ok hown (hT _ tw_54) (hT _ tw_55) (hT _ tw_38) hK hP hD hS hA rfl (df_7) (Nat.le_of_ble_eq_true rfl) (Nat.le_of_ble_eq_true rfl) dL_most_0 (fun q0 H hP hD hS => ?_)
  have hP : va_P D vwCl [(q0, .inr (7, [.null, .null, .null, .null, .null, .int 0, .int 0, .int 0, .null, .int 0]))] H := hP
  have hD : va_D A [(q0, .inr (7, [.null, .null, .null, .null, .null, .int 0, .int 0, .int 0, .null, .int 0]))] := hD
  refine W.widen (k := 1) (n := 10) (Nat.le_of_ble_eq_true rfl) (Nat.le_of_ble_eq_true rfl) ?_
  refine lv_dup hx hb dL_most_3 rfl ?_
  have hPc := hP.sub (ws' := [(q0, .inr (7, [.null, .null, .null, .null, .null, .int 0, .int 0, .int 0, .null, .int 0]))]) [0] rfl
  have hDc := hD.sub (ws' := [(q0, .inr (7, [.null, .null, .null, .null, .null, .int 0, .int 0, .int 0, .null, .int 0]))]) [0] (by decide) rfl
  have hFc := va_free (wc := [(q0, .inr (7, [.null, .null, .null, .null, .null, .int 0, .int 0, .int 0, .null, .int 0]))]) hD hS hA [0] rfl
  refine va_callv (va_runI (As := []) (rest := [.ref q0]) ⟨hx, hb, hml, hown, hT⟩ (ci_7 l D kc q0 H.size) (cwI 0 hT (gi1 tw_58) rfl rfl rfl (hT _ tw_38) (hT _ tw_56) (hT _ tw_57) rfl ⟨by decide +kernel, by decide +kernel, by decide +kernel⟩ ⟨Nat.le_of_ble_eq_true rfl, Nat.le_of_ble_eq_true rfl⟩) ⟨CBO.blind, fun U hU hW => ⟨rfl, by rw [hU], by rw [hU]; exact hPc, va_K.moved hW.alike hK, hDc.weaken (fun _ _ _ _ => trivial), hXT.warm hW, va_AO.moved hW.alike hAO2, va_AO.moved hW.alike hAO3⟩⟩ rfl rfl hl.1 rfl (lv_room (Nat.le_of_ble_eq_true rfl)) dL_most_4 ⟨Nat.le_of_ble_eq_true rfl, Nat.le_of_ble_eq_true rfl⟩) hS (fun q _ h => hFc q h) hFc (fun u t H1 locs ht hvm hw hB hz1 hk1 hS => ?_)
  obtain ⟨q1, q2, q3, q4, q5, q6, q7, q8, q9, q10, q11, q12, q13, hP1, hD1⟩ := hB
  rw [ht] at hP1
  obtain ⟨hP, hD⟩ := va_join (wr := []) (w1 := [(q0, .inr (7, [.ref q1, .ref q2, .ref q3, .ref q10, .ref q13, .int 0, .int 0, .int 0, .null, .int ((-1))])), (q1, .inl (kc 2, (80, .inr (.inr (.inr (.inr (fun _ => none))))))), (q2, .inl (kc 3, (6, .inr (.inr (.inr (.inr (fun _ => none))))))), (q3, .inr (4, [.ref q4, .ref q5, .ref q6, .ref q7, .ref q8, .ref q9, .int 0])), (q4, .inl (kc 0, (24, .inl (fun _ => 0)))), (q5, .inl (kc 0, (24, .inl (fun _ => 0)))), (q6, .inl (kc 0, (24, .inl (fun _ => 0)))), (q7, .inl (kc 0, (24, .inl (fun _ => 0)))), (q8, .inl (kc 0, (24, .inl (fun _ => 0)))), (q9, .inr (6, [.int ((-1)), .int ((-1)), .int 0, .int ((-1)), .int 0])), (q10, .inr (1, [.ref q11, .ref q12, .int 0])), (q11, .inl (kc 0, (32, .inl (fun _ => 0)))), (q12, .inl (kc 0, (16, .inl (fun _ => 0)))), (q13, .inr (3, [.long 0]))]) hP hD [0] [] rfl rfl (by decide) (by decide) hk1 hFc hP1 hD1
  generalize H1 = H at hP hS ⊢
  have hP : va_P D vwCl [(q0, .inr (7, [.ref q1, .ref q2, .ref q3, .ref q10, .ref q13, .int 0, .int 0, .int 0, .null, .int ((-1))])), (q1, .inl (kc 2, (80, .inr (.inr (.inr (.inr (fun _ => none))))))), (q2, .inl (kc 3, (6, .inr (.inr (.inr (.inr (fun _ => none))))))), (q3, .inr (4, [.ref q4, .ref q5, .ref q6, .ref q7, .ref q8, .ref q9, .int 0])), (q4, .inl (kc 0, (24, .inl (fun _ => 0)))), (q5, .inl (kc 0, (24, .inl (fun _ => 0)))), (q6, .inl (kc 0, (24, .inl (fun _ => 0)))), (q7, .inl (kc 0, (24, .inl (fun _ => 0)))), (q8, .inl (kc 0, (24, .inl (fun _ => 0)))), (q9, .inr (6, [.int ((-1)), .int ((-1)), .int 0, .int ((-1)), .int 0])), (q10, .inr (1, [.ref q11, .ref q12, .int 0])), (q11, .inl (kc 0, (32, .inl (fun _ => 0)))), (q12, .inl (kc 0, (16, .inl (fun _ => 0)))), (q13, .inr (3, [.long 0]))] H := hP
  have hD : va_D A [(q0, .inr (7, [.ref q1, .ref q2, .ref q3, .ref q10, .ref q13, .int 0, .int 0, .int 0, .null, .int ((-1))])), (q1, .inl (kc 2, (80, .inr (.inr (.inr (.inr (fun _ => none))))))), (q2, .inl (kc 3, (6, .inr (.inr (.inr (.inr (fun _ => none))))))), (q3, .inr (4, [.ref q4, .ref q5, .ref q6, .ref q7, .ref q8, .ref q9, .int 0])), (q4, .inl (kc 0, (24, .inl (fun _ => 0)))), (q5, .inl (kc 0, (24, .inl (fun _ => 0)))), (q6, .inl (kc 0, (24, .inl (fun _ => 0)))), (q7, .inl (kc 0, (24, .inl (fun _ => 0)))), (q8, .inl (kc 0, (24, .inl (fun _ => 0)))), (q9, .inr (6, [.int ((-1)), .int ((-1)), .int 0, .int ((-1)), .int 0])), (q10, .inr (1, [.ref q11, .ref q12, .int 0])), (q11, .inl (kc 0, (32, .inl (fun _ => 0)))), (q12, .inl (kc 0, (16, .inl (fun _ => 0)))), (q13, .inr (3, [.long 0]))] := hD
  refine W.widen (k := 14) (n := 280) (Nat.le_of_ble_eq_true rfl) (Nat.le_of_ble_eq_true rfl) ?_
  refine lv_astore_n (lv' := [(0, .ref q0)]) hx hb dL_most_7 rfl hl (by decide) rfl (fun ls hl => ?_)
  rw [hAe] at hD hS
  have hH := HE_S (B0 := B0) (D := D) (kc := kc) (q0 := q0) (q1 := q1) (q2 := q2) (q3 := q3) (q4 := q4) (q5 := q5) (q6 := q6) (q7 := q7) (q8 := q8) (q9 := q9) (q10 := q10) (q11 := q11) (q12 := q12) (q13 := q13) hP hD
  have hC : CX (κS D kc B0 (adS q0 q1 q2 q3 q4 q5 q6 q7 q8 q9 q10 q11 q12 q13)) cL_most "PhrasehallLaw" 2 p l s m ([] : List Value).toArray meth c := ⟨hx, hb, hown, hT, hK, hXT, hZ9, hB0, hml, B.notSynchronized⟩
  exact MQ_M (κ := (D, kc, B0, kA9, kN9, kO9)) (κ' := κS D kc B0 (adS q0 q1 q2 q3 q4 q5 q6 q7 q8 q9 q10 q11 q12 q13)) rfl (w_L_most hfl rfl hk hr hC hH hS (lv_sub hl [0] rfl) (Nat.le_of_ble_eq_true rfl) (Nat.le_of_ble_eq_true rfl))
