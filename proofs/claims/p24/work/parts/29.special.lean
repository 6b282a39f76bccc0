set_option maxRecDepth 20000 in
set_option maxHeartbeats 4000000 in
theorem c_X7_begin (l : Launch) (hfl : l.stackTraces = false) (κ : KP) (γ : St) (y1 : Int32) (y2 : Int32) (y3 : Int32) (y4 : Int32) (y5 : Int32) (hnb : kN κ = (gV γ 7 0 6).toNatClampNeg) (hk : ok_X7_begin y1 y2 y3 y4 y5 γ) : vx_Met l yX7_begin [Cond.code yX7_begin cX7_begin 7 (some .int)] ({ frames := 6, cells := 3, slots := 18, locals := 90 } : Room) (va_Pc [.ref (kA κ 7 0), .int y1, .int y2, .int y3, .int y4, .int y5] (GG κ γ)) (QE κ (((x_X7_begin y1 y2 y3 y4 y5 γ)).2.2) (((x_X7_begin y1 y2 y3 y4 y5 γ)).1) (some (.int (((x_X7_begin y1 y2 y3 y4 y5 γ)).2.1))) (kN κ + 1) (kO κ)) (XX κ (((x_X7_begin y1 y2 y3 y4 y5 γ)).2.2) (((x_X7_begin y1 y2 y3 y4 y5 γ)).1)) 3 18 (AA κ) := by
  generalize hq : x_X7_begin y1 y2 y3 y4 y5 γ = res
  refine vx_ofW (cc := cX7_begin) (maxL := 7) (ret := (some .int)) (by decide) rfl ?_
  intro p e s m args below meth c s₁ B hml9 ht hv
  obtain ⟨rfl, hH, hK9, hB9, hX9, hZ9⟩ := hv
  have hC : CX κ cX7_begin "Phrasehall" 7 p l s m ([.ref (kA κ 7 0), .int y1, .int y2, .int y3, .int y4, .int y5] : List Value).toArray meth c := ⟨B.exec, B.bytes, findClass_of_methodNamed B.named, fun w hw => tw_use (List.mem_filter.mp hw).2 (State.WarmedH.refl s) (hX9.1 w hw), hK9, hX9, hZ9, hB9, hml9, B.notSynchronized⟩
  obtain ⟨hx, hb, hown, hT, -, -, -, -, hml, -⟩ := id hC
  have hr := B.returns
  have hS : va_S (AA κ) s.heap s.heap [] := va_S.rf
  have hl := lv_entry ([.ref (kA κ 7 0), .int y1, .int y2, .int y3, .int y4, .int y5]) (n := 7) (Nat.le_of_ble_eq_true rfl)
  rw [lg_entry_eq]
  generalize (lg_sl ([.ref (kA κ 7 0), .int y1, .int y2, .int y3, .int y4, .int y5]) ++ List.replicate (7 - (lg_sl ([.ref (kA κ 7 0), .int y1, .int y2, .int y3, .int y4, .int y5])).length) Slot.unset).toArray = ls at hl ⊢
  have hl : lv_has ls 7 [(0, .ref (kA κ 7 0)), (1, .int y1), (2, .int y2), (3, .int y3), (4, .int y4), (5, .int y5)] := hl
  have b_35 : ∀ (γ : St) (H : Heap) (locs : List Loc) (ls : Array Slot), lv_has ls 7 [] → HR κ γ H → va_S (AA κ) s.heap H locs → (kN κ = (gV γ 7 0 6).toNatClampNeg) → ok_X7_begin_35 γ → x_X7_begin_35 γ = res → W p l e (headSpec [Cond.code yX7_begin cX7_begin 7 (some .int)] ({ frames := 6, cells := 3, slots := 18, locals := 90 } : Room)).room s m ([.ref (kA κ 7 0), .int y1, .int y2, .int y3, .int y4, .int y5] : List Value).toArray below meth c H locs 0 0 (vx_MQ below (QE κ res.2.2 (res.1) (some (.int res.2.1)) (kN κ + 1) (kO κ)) (XX κ (res.2.2) (res.1)) ([.ref (kA κ 7 0), .int y1, .int y2, .int y3, .int y4, .int y5] : List Value).toArray s 3 18 (AA κ)) (F0 m 35 ls []) := by
    intro  γ H locs ls hl hH hS hnb hk hq
    subst hq
    exact k_throw (en := 3) (text := "no such fencer or pool") hC hfl ht hl hH hS rfl (by decide) tw_262 tw_48 (List.mem_of_getElem? (i := 7) rfl) at_IOB ot_IOB fit_3 dX7_begin_35 dX7_begin_38 dX7_begin_39 dX7_begin_41 dX7_begin_44 (Nat.le_of_ble_eq_true rfl) (Nat.le_of_ble_eq_true rfl) (Nat.le_of_ble_eq_true rfl) (Nat.le_of_ble_eq_true rfl) (Nat.le_of_ble_eq_true rfl) (Nat.le_of_ble_eq_true rfl)
  have b_70 : ∀ (γ : St) (H : Heap) (locs : List Loc) (ls : Array Slot), lv_has ls 7 [] → HR κ γ H → va_S (AA κ) s.heap H locs → (kN κ = (gV γ 7 0 6).toNatClampNeg) → ok_X7_begin_70 γ → x_X7_begin_70 γ = res → W p l e (headSpec [Cond.code yX7_begin cX7_begin 7 (some .int)] ({ frames := 6, cells := 3, slots := 18, locals := 90 } : Room)).room s m ([.ref (kA κ 7 0), .int y1, .int y2, .int y3, .int y4, .int y5] : List Value).toArray below meth c H locs 0 0 (vx_MQ below (QE κ res.2.2 (res.1) (some (.int res.2.1)) (kN κ + 1) (kO κ)) (XX κ (res.2.2) (res.1)) ([.ref (kA κ 7 0), .int y1, .int y2, .int y3, .int y4, .int y5] : List Value).toArray s 3 18 (AA κ)) (F0 m 70 ls []) := by
    intro  γ H locs ls hl hH hS hnb hk hq
    subst hq
    exact k_throw (en := 2) (text := "fencers, weapon or touches do not make a bout") hC hfl ht hl hH hS rfl (by decide) tw_281 tw_46 (List.mem_of_getElem? (i := 8) rfl) at_IAE ot_IAE fit_2 dX7_begin_70 dX7_begin_73 dX7_begin_74 dX7_begin_76 dX7_begin_79 (Nat.le_of_ble_eq_true rfl) (Nat.le_of_ble_eq_true rfl) (Nat.le_of_ble_eq_true rfl) (Nat.le_of_ble_eq_true rfl) (Nat.le_of_ble_eq_true rfl) (Nat.le_of_ble_eq_true rfl)
  have b_162 : ∀ (γ : St) (H : Heap) (locs : List Loc) (ls : Array Slot), lv_has ls 7 [] → HR κ γ H → va_S (AA κ) s.heap H locs → (kN κ = (gV γ 7 0 6).toNatClampNeg) → ok_X7_begin_162 γ → x_X7_begin_162 γ = res → W p l e (headSpec [Cond.code yX7_begin cX7_begin 7 (some .int)] ({ frames := 6, cells := 3, slots := 18, locals := 90 } : Room)).room s m ([.ref (kA κ 7 0), .int y1, .int y2, .int y3, .int y4, .int y5] : List Value).toArray below meth c H locs 0 0 (vx_MQ below (QE κ res.2.2 (res.1) (some (.int res.2.1)) (kN κ + 1) (kO κ)) (XX κ (res.2.2) (res.1)) ([.ref (kA κ 7 0), .int y1, .int y2, .int y3, .int y4, .int y5] : List Value).toArray s 3 18 (AA κ)) (F0 m 162 ls []) := by
    intro  γ H locs ls hl hH hS hnb hk hq
    subst hq
    exact k_throw (en := 1) (text := "a bout is on the piste, or there were 80") hC hfl ht hl hH hS rfl (by decide) tw_182 tw_47 (List.mem_of_getElem? (i := 11) rfl) at_ISE ot_ISE fit_1 dX7_begin_162 dX7_begin_165 dX7_begin_166 dX7_begin_168 dX7_begin_171 (Nat.le_of_ble_eq_true rfl) (Nat.le_of_ble_eq_true rfl) (Nat.le_of_ble_eq_true rfl) (Nat.le_of_ble_eq_true rfl) (Nat.le_of_ble_eq_true rfl) (Nat.le_of_ble_eq_true rfl)
  have b_146 : ∀ (a1 : Int32) (a2 : Int32) (a3 : Int32) (a4 : Int32) (a5 : Int32) (γ : St) (H : Heap) (locs : List Loc) (ls : Array Slot), lv_has ls 7 [(0, .ref (kA κ 7 0)), (1, .int a1), (2, .int a2), (3, .int a3), (4, .int a4), (5, .int a5)] → HR κ γ H → va_S (AA κ) s.heap H locs → (kN κ = (gV γ 7 0 6).toNatClampNeg) → ok_X7_begin_146 a1 a2 a3 a4 a5 γ → x_X7_begin_146 a1 a2 a3 a4 a5 γ = res → W p l e (headSpec [Cond.code yX7_begin cX7_begin 7 (some .int)] ({ frames := 6, cells := 3, slots := 18, locals := 90 } : Room)).room s m ([.ref (kA κ 7 0), .int y1, .int y2, .int y3, .int y4, .int y5] : List Value).toArray below meth c H locs 0 0 (vx_MQ below (QE κ res.2.2 (res.1) (some (.int res.2.1)) (kN κ + 1) (kO κ)) (XX κ (res.2.2) (res.1)) ([.ref (kA κ 7 0), .int y1, .int y2, .int y3, .int y4, .int y5] : List Value).toArray s 3 18 (AA κ)) (F0 m 146 ls []) := by
    intro a1 a2 a3 a4 a5 γ H locs ls hl hH hS hnb hk hq
    refine lv_aload_n hx hb dX7_begin_146 rfl (lv_at hl 0 rfl) ?_
    refine hp_get (v := va_rf ((gR γ 7 8).map (kA κ 0))) (C := RX7) (T := TX7) (N := 10) hC inX7 hH lv_7 rfl rfl 8 (by decide) tw_155 rfl rfl dX7_begin_147 ?_
    have hw53 : ∀ b : Nat, gR γ 7 8 = some b → lv κ 0 b := fun b hb => hH.wt 7 8 b hb
    rcases ho55 : gR γ 7 8 with _ | b54
    · have hk := oc_n hk ho55
      have hq := oc_ne hq ho55
      have hl : lv_has ls 7 [(0, .ref (kA κ 7 0)), (1, .int a1), (2, .int a2), (3, .int a3), (4, .int a4), (5, .int a5)] := by first | exact hl | (rw [ho55] at hl; exact hl)
      refine lv_ifnonnullN hx hb dX7_begin_150 ?_
      refine lv_aload_n hx hb dX7_begin_153 rfl (lv_at hl 0 rfl) ?_
      refine hp_get (v := .int (gV γ 7 0 6)) (C := RX7) (T := TX7) (N := 10) hC inX7 hH lv_7 rfl rfl 6 (by decide) tw_153 rfl rfl dX7_begin_154 ?_
      refine lv_bipush (v := 80) hx hb dX7_begin_157 (by decide) ?_
      refine lv_icmp_lt (tgt := 172) hx hb dX7_begin_159 (by decide) (fun c57 => ?_) (fun c57 => ?_)
      · have hk := ifp hk c57
        have hq := ifpe hq c57
        refine lv_aload_n hx hb dX7_begin_172 rfl (lv_at hl 0 rfl) ?_
        exact X7_begin_tail hC hr (lv_sub hl [1, 2, 3, 4, 5] rfl) hH hS hnb hk hq (Nat.le_of_ble_eq_true rfl) (Nat.le_of_ble_eq_true rfl) (Nat.le_of_ble_eq_true rfl) (Nat.le_of_ble_eq_true rfl)
      · have hk := ifn hk c57
        have hq := ifne hq c57
        exact b_162 γ _ _ _ (lv_sub hl [] rfl) hH hS hnb hk hq
    · have hk := oc_s hk ho55
      have hq := oc_se hq ho55
      have hvb56 : lv κ 0 b54 := hw53 b54 ho55
      have hl : lv_has ls 7 [(0, .ref (kA κ 7 0)), (1, .int a1), (2, .int a2), (3, .int a3), (4, .int a4), (5, .int a5)] := by first | exact hl | (rw [ho55] at hl; exact hl)
      refine lv_ifnonnull (tgt := 162) hx hb dX7_begin_150 (by decide) ?_
      exact b_162 γ _ _ _ (lv_sub hl [] rfl) hH hS hnb hk hq
  have b_136 : ∀ (γ : St) (H : Heap) (locs : List Loc) (ls : Array Slot), lv_has ls 7 [] → HR κ γ H → va_S (AA κ) s.heap H locs → (kN κ = (gV γ 7 0 6).toNatClampNeg) → ok_X7_begin_136 γ → x_X7_begin_136 γ = res → W p l e (headSpec [Cond.code yX7_begin cX7_begin 7 (some .int)] ({ frames := 6, cells := 3, slots := 18, locals := 90 } : Room)).room s m ([.ref (kA κ 7 0), .int y1, .int y2, .int y3, .int y4, .int y5] : List Value).toArray below meth c H locs 0 0 (vx_MQ below (QE κ res.2.2 (res.1) (some (.int res.2.1)) (kN κ + 1) (kO κ)) (XX κ (res.2.2) (res.1)) ([.ref (kA κ 7 0), .int y1, .int y2, .int y3, .int y4, .int y5] : List Value).toArray s 3 18 (AA κ)) (F0 m 136 ls []) := by
    intro  γ H locs ls hl hH hS hnb hk hq
    subst hq
    exact k_throw (en := 1) (text := "one of them withdrew from the pool") hC hfl ht hl hH hS rfl (by decide) tw_182 tw_47 (List.mem_of_getElem? (i := 10) rfl) at_ISE ot_ISE fit_1 dX7_begin_136 dX7_begin_139 dX7_begin_140 dX7_begin_142 dX7_begin_145 (Nat.le_of_ble_eq_true rfl) (Nat.le_of_ble_eq_true rfl) (Nat.le_of_ble_eq_true rfl) (Nat.le_of_ble_eq_true rfl) (Nat.le_of_ble_eq_true rfl) (Nat.le_of_ble_eq_true rfl)
  have b_113 : ∀ (a1 : Int32) (a2 : Int32) (a3 : Int32) (a4 : Int32) (a5 : Int32) (q6 : Option Nat) (γ : St) (H : Heap) (locs : List Loc) (ls : Array Slot), lv_has ls 7 [(0, .ref (kA κ 7 0)), (1, .int a1), (2, .int a2), (3, .int a3), (4, .int a4), (5, .int a5), (6, va_rf ((q6).map (kA κ 5)))] → HR κ γ H → va_S (AA κ) s.heap H locs → (∀ b : Nat, q6 = some b → lv κ 5 b) → (kN κ = (gV γ 7 0 6).toNatClampNeg) → ok_X7_begin_113 a1 a2 a3 a4 a5 q6 γ → x_X7_begin_113 a1 a2 a3 a4 a5 q6 γ = res → W p l e (headSpec [Cond.code yX7_begin cX7_begin 7 (some .int)] ({ frames := 6, cells := 3, slots := 18, locals := 90 } : Room)).room s m ([.ref (kA κ 7 0), .int y1, .int y2, .int y3, .int y4, .int y5] : List Value).toArray below meth c H locs 0 0 (vx_MQ below (QE κ res.2.2 (res.1) (some (.int res.2.1)) (kN κ + 1) (kO κ)) (XX κ (res.2.2) (res.1)) ([.ref (kA κ 7 0), .int y1, .int y2, .int y3, .int y4, .int y5] : List Value).toArray s 3 18 (AA κ)) (F0 m 113 ls []) := by
    intro a1 a2 a3 a4 a5 q6 γ H locs ls hl hH hS hw_q6 hnb hk hq
    refine lv_aloadq hx hb dX7_begin_113 (lv_at hl 6 rfl) ?_
    rcases ho59 : q6 with _ | b58
    · have hk := oc_n hk ho59
      have hq := oc_ne hq ho59
      have hl : lv_has ls 7 [(0, .ref (kA κ 7 0)), (1, .int a1), (2, .int a2), (3, .int a3), (4, .int a4), (5, .int a5), (6, .null)] := by first | exact hl | (rw [ho59] at hl; exact hl)
      refine lv_ifnullN (tgt := 146) hx hb dX7_begin_115 (by decide) ?_
      exact b_146 a1 a2 a3 a4 a5 γ _ _ _ (lv_sub hl [0, 1, 2, 3, 4, 5] rfl) hH hS hnb hk hq
    · have hk := oc_s hk ho59
      have hq := oc_se hq ho59
      have hvb60 : lv κ 5 b58 := hw_q6 b58 ho59
      have hl : lv_has ls 7 [(0, .ref (kA κ 7 0)), (1, .int a1), (2, .int a2), (3, .int a3), (4, .int a4), (5, .int a5), (6, .ref (kA κ 5 b58))] := by first | exact hl | (rw [ho59] at hl; exact hl)
      refine lv_ifnull hx hb dX7_begin_115 ?_
      refine lv_aload hx hb dX7_begin_118 (lv_at hl 6 rfl) ?_
      refine lv_iload_n hx hb dX7_begin_120 rfl (lv_at hl 1 rfl) ?_
      refine k_callV (C := RX5) (T := TX5) (N := 5) (rest := []) hC hl hH hS (c_X5_isWithdrawn l κ γ b58 a1 hvb60) hvb60 rfl rfl tw_447 tw_345 tw_346 tw_49 tw_347 hd_X5_isWithdrawn ⟨Nat.le_of_ble_eq_true rfl, Nat.le_of_ble_eq_true rfl⟩ rfl rfl rfl rfl (Nat.le_of_ble_eq_true rfl) dX7_begin_121 ⟨Nat.le_of_ble_eq_true rfl, Nat.le_of_ble_eq_true rfl⟩ rfl (fun H locs hH hS => ?_)
      refine lv_if_ne (tgt := 136) hx hb dX7_begin_124 (by decide) (fun c61 => ?_) (fun c61 => ?_)
      · have hk := ifn hk c61
        have hq := ifne hq c61
        exact b_136 γ _ _ _ (lv_sub hl [] rfl) hH hS hnb hk hq
      · have hk := ifp hk c61
        have hq := ifpe hq c61
        refine lv_aload hx hb dX7_begin_127 (lv_at hl 6 rfl) ?_
        refine lv_iload_n hx hb dX7_begin_129 rfl (lv_at hl 2 rfl) ?_
        refine k_callV (C := RX5) (T := TX5) (N := 5) (rest := []) hC hl hH hS (c_X5_isWithdrawn l κ γ b58 a2 hvb60) hvb60 rfl rfl tw_447 tw_345 tw_346 tw_49 tw_347 hd_X5_isWithdrawn ⟨Nat.le_of_ble_eq_true rfl, Nat.le_of_ble_eq_true rfl⟩ rfl rfl rfl rfl (Nat.le_of_ble_eq_true rfl) dX7_begin_130 ⟨Nat.le_of_ble_eq_true rfl, Nat.le_of_ble_eq_true rfl⟩ rfl (fun H locs hH hS => ?_)
        refine lv_if_eq (tgt := 146) hx hb dX7_begin_133 (by decide) (fun c62 => ?_) (fun c62 => ?_)
        · have hk := ifp hk c62
          have hq := ifpe hq c62
          exact b_146 a1 a2 a3 a4 a5 γ _ _ _ (lv_sub hl [0, 1, 2, 3, 4, 5] rfl) hH hS hnb hk hq
        · have hk := ifn hk c62
          have hq := ifne hq c62
          exact b_136 γ _ _ _ (lv_sub hl [] rfl) hH hS hnb hk hq
  have b_103 : ∀ (γ : St) (H : Heap) (locs : List Loc) (ls : Array Slot), lv_has ls 7 [] → HR κ γ H → va_S (AA κ) s.heap H locs → (kN κ = (gV γ 7 0 6).toNatClampNeg) → ok_X7_begin_103 γ → x_X7_begin_103 γ = res → W p l e (headSpec [Cond.code yX7_begin cX7_begin 7 (some .int)] ({ frames := 6, cells := 3, slots := 18, locals := 90 } : Room)).room s m ([.ref (kA κ 7 0), .int y1, .int y2, .int y3, .int y4, .int y5] : List Value).toArray below meth c H locs 0 0 (vx_MQ below (QE κ res.2.2 (res.1) (some (.int res.2.1)) (kN κ + 1) (kO κ)) (XX κ (res.2.2) (res.1)) ([.ref (kA κ 7 0), .int y1, .int y2, .int y3, .int y4, .int y5] : List Value).toArray s 3 18 (AA κ)) (F0 m 103 ls []) := by
    intro  γ H locs ls hl hH hS hnb hk hq
    subst hq
    exact k_throw (en := 2) (text := "the pool does not have both") hC hfl ht hl hH hS rfl (by decide) tw_281 tw_46 (List.mem_of_getElem? (i := 9) rfl) at_IAE ot_IAE fit_2 dX7_begin_103 dX7_begin_106 dX7_begin_107 dX7_begin_109 dX7_begin_112 (Nat.le_of_ble_eq_true rfl) (Nat.le_of_ble_eq_true rfl) (Nat.le_of_ble_eq_true rfl) (Nat.le_of_ble_eq_true rfl) (Nat.le_of_ble_eq_true rfl) (Nat.le_of_ble_eq_true rfl)
  have b_45 : ∀ (a1 : Int32) (a2 : Int32) (a3 : Int32) (a4 : Int32) (a5 : Int32) (q6 : Option Nat) (γ : St) (H : Heap) (locs : List Loc) (ls : Array Slot), lv_has ls 7 [(0, .ref (kA κ 7 0)), (1, .int a1), (2, .int a2), (3, .int a3), (4, .int a4), (5, .int a5), (6, va_rf ((q6).map (kA κ 5)))] → HR κ γ H → va_S (AA κ) s.heap H locs → (∀ b : Nat, q6 = some b → lv κ 5 b) → (kN κ = (gV γ 7 0 6).toNatClampNeg) → ok_X7_begin_45 a1 a2 a3 a4 a5 q6 γ → x_X7_begin_45 a1 a2 a3 a4 a5 q6 γ = res → W p l e (headSpec [Cond.code yX7_begin cX7_begin 7 (some .int)] ({ frames := 6, cells := 3, slots := 18, locals := 90 } : Room)).room s m ([.ref (kA κ 7 0), .int y1, .int y2, .int y3, .int y4, .int y5] : List Value).toArray below meth c H locs 0 0 (vx_MQ below (QE κ res.2.2 (res.1) (some (.int res.2.1)) (kN κ + 1) (kO κ)) (XX κ (res.2.2) (res.1)) ([.ref (kA κ 7 0), .int y1, .int y2, .int y3, .int y4, .int y5] : List Value).toArray s 3 18 (AA κ)) (F0 m 45 ls []) := by
    intro a1 a2 a3 a4 a5 q6 γ H locs ls hl hH hS hw_q6 hnb hk hq
    refine lv_iload_n hx hb dX7_begin_45 rfl (lv_at hl 1 rfl) ?_
    refine lv_iload_n hx hb dX7_begin_46 rfl (lv_at hl 2 rfl) ?_
    refine lv_icmp_eq (tgt := 70) hx hb dX7_begin_47 (by decide) (fun c63 => ?_) (fun c63 => ?_)
    · have hk := ifp hk c63
      have hq := ifpe hq c63
      exact b_70 γ _ _ _ (lv_sub hl [] rfl) hH hS hnb hk hq
    · have hk := ifn hk c63
      have hq := ifne hq c63
      refine lv_iload_n hx hb dX7_begin_50 rfl (lv_at hl 3 rfl) ?_
      refine lv_iconst (v := 0) hx hb dX7_begin_51 (by decide) ?_
      refine lv_iconst (v := 2) hx hb dX7_begin_52 (by decide) ?_
      refine k_callS (rest := []) hC hl hH hS (c_X7_isWithin l κ γ a3 0 2) tw_278 tw_279 tw_38 tw_280 hd_X7_isWithin ⟨Nat.le_of_ble_eq_true rfl, Nat.le_of_ble_eq_true rfl⟩ rfl rfl rfl rfl (Nat.le_of_ble_eq_true rfl) dX7_begin_53 ⟨Nat.le_of_ble_eq_true rfl, Nat.le_of_ble_eq_true rfl⟩ rfl (fun H locs hH hS => ?_)
      refine lv_if_eq (tgt := 70) hx hb dX7_begin_56 (by decide) (fun c64 => ?_) (fun c64 => ?_)
      · have hk := ifp hk c64
        have hq := ifpe hq c64
        exact b_70 γ _ _ _ (lv_sub hl [] rfl) hH hS hnb hk hq
      · have hk := ifn hk c64
        have hq := ifne hq c64
        refine lv_iload hx hb dX7_begin_59 (lv_at hl 4 rfl) ?_
        refine lv_iconst (v := 1) hx hb dX7_begin_61 (by decide) ?_
        refine lv_bipush (v := 45) hx hb dX7_begin_62 (by decide) ?_
        refine k_callS (rest := []) hC hl hH hS (c_X7_isWithin l κ γ a4 1 45) tw_278 tw_279 tw_38 tw_280 hd_X7_isWithin ⟨Nat.le_of_ble_eq_true rfl, Nat.le_of_ble_eq_true rfl⟩ rfl rfl rfl rfl (Nat.le_of_ble_eq_true rfl) dX7_begin_64 ⟨Nat.le_of_ble_eq_true rfl, Nat.le_of_ble_eq_true rfl⟩ rfl (fun H locs hH hS => ?_)
        refine lv_if_ne (tgt := 80) hx hb dX7_begin_67 (by decide) (fun c65 => ?_) (fun c65 => ?_)
        · have hk := ifn hk c65
          have hq := ifne hq c65
          refine lv_aloadq hx hb dX7_begin_80 (lv_at hl 6 rfl) ?_
          rcases ho67 : q6 with _ | b66
          · have hk := oc_n hk ho67
            have hq := oc_ne hq ho67
            have hl : lv_has ls 7 [(0, .ref (kA κ 7 0)), (1, .int a1), (2, .int a2), (3, .int a3), (4, .int a4), (5, .int a5), (6, .null)] := by first | exact hl | (rw [ho67] at hl; exact hl)
            refine lv_ifnullN (tgt := 113) hx hb dX7_begin_82 (by decide) ?_
            exact b_113 a1 a2 a3 a4 a5 none γ _ _ _ (lv_sub hl [0, 1, 2, 3, 4, 5, 6] rfl) hH hS (fun b hb => by cases hb) hnb hk hq
          · have hk := oc_s hk ho67
            have hq := oc_se hq ho67
            have hvb68 : lv κ 5 b66 := hw_q6 b66 ho67
            have hl : lv_has ls 7 [(0, .ref (kA κ 7 0)), (1, .int a1), (2, .int a2), (3, .int a3), (4, .int a4), (5, .int a5), (6, .ref (kA κ 5 b66))] := by first | exact hl | (rw [ho67] at hl; exact hl)
            refine lv_ifnull hx hb dX7_begin_82 ?_
            refine lv_aload hx hb dX7_begin_85 (lv_at hl 6 rfl) ?_
            refine lv_iload_n hx hb dX7_begin_87 rfl (lv_at hl 1 rfl) ?_
            refine k_callV (C := RX5) (T := TX5) (N := 5) (rest := []) hC hl hH hS (c_X5_has l κ γ b66 a1 hvb68) hvb68 rfl rfl tw_313 tw_314 tw_315 tw_49 tw_316 hd_X5_has ⟨Nat.le_of_ble_eq_true rfl, Nat.le_of_ble_eq_true rfl⟩ rfl rfl rfl rfl (Nat.le_of_ble_eq_true rfl) dX7_begin_88 ⟨Nat.le_of_ble_eq_true rfl, Nat.le_of_ble_eq_true rfl⟩ rfl (fun H locs hH hS => ?_)
            refine lv_if_eq (tgt := 103) hx hb dX7_begin_91 (by decide) (fun c69 => ?_) (fun c69 => ?_)
            · have hk := ifp hk c69
              have hq := ifpe hq c69
              exact b_103 γ _ _ _ (lv_sub hl [] rfl) hH hS hnb hk hq
            · have hk := ifn hk c69
              have hq := ifne hq c69
              refine lv_aload hx hb dX7_begin_94 (lv_at hl 6 rfl) ?_
              refine lv_iload_n hx hb dX7_begin_96 rfl (lv_at hl 2 rfl) ?_
              refine k_callV (C := RX5) (T := TX5) (N := 5) (rest := []) hC hl hH hS (c_X5_has l κ γ b66 a2 hvb68) hvb68 rfl rfl tw_313 tw_314 tw_315 tw_49 tw_316 hd_X5_has ⟨Nat.le_of_ble_eq_true rfl, Nat.le_of_ble_eq_true rfl⟩ rfl rfl rfl rfl (Nat.le_of_ble_eq_true rfl) dX7_begin_97 ⟨Nat.le_of_ble_eq_true rfl, Nat.le_of_ble_eq_true rfl⟩ rfl (fun H locs hH hS => ?_)
              refine lv_if_ne (tgt := 113) hx hb dX7_begin_100 (by decide) (fun c70 => ?_) (fun c70 => ?_)
              · have hk := ifn hk c70
                have hq := ifne hq c70
                exact b_113 a1 a2 a3 a4 a5 (some b66) γ _ _ _ (lv_sub hl [0, 1, 2, 3, 4, 5, 6] rfl) hH hS (fun b hb => by cases hb; exact hvb68) hnb hk hq
              · have hk := ifp hk c70
                have hq := ifpe hq c70
                exact b_103 γ _ _ _ (lv_sub hl [] rfl) hH hS hnb hk hq
        · have hk := ifp hk c65
          have hq := ifpe hq c65
          exact b_70 γ _ _ _ (lv_sub hl [] rfl) hH hS hnb hk hq
  refine lv_aload_n hx hb dX7_begin_0 rfl (lv_at hl 0 rfl) ?_
  refine lv_iload hx hb dX7_begin_1 (lv_at hl 5 rfl) ?_
  obtain ⟨hc71, hk⟩ := hk
  have hw72 : ∀ b : Nat, (x_X7_poolOf y5 γ) = some b → lv κ 5 b := lvr_X7_poolOf hH.wt y5
  refine k_callV (C := RX7) (T := TX7) (N := 10) (rest := []) hC hl hH hS (c_X7_poolOf l κ γ y5 hc71) lv_7 rfl rfl tw_309 tw_311 tw_3 tw_38 tw_312 hd_X7_poolOf ⟨Nat.le_of_ble_eq_true rfl, Nat.le_of_ble_eq_true rfl⟩ rfl rfl rfl rfl (Nat.le_of_ble_eq_true rfl) dX7_begin_3 ⟨Nat.le_of_ble_eq_true rfl, Nat.le_of_ble_eq_true rfl⟩ rfl (fun H locs hH hS => ?_)
  refine lv_astoreq (lv' := [(6, va_rf (((x_X7_poolOf y5 γ)).map (kA κ 5))), (0, .ref (kA κ 7 0)), (1, .int y1), (2, .int y2), (3, .int y3), (4, .int y4), (5, .int y5)]) hx hb dX7_begin_6 hl (by decide) rfl (fun ls hl => ?_)
  refine lv_aload_n hx hb dX7_begin_8 rfl (lv_at hl 1 rfl) ?_
  refine lv_iload_n hx hb dX7_begin_9 rfl (lv_at hl 2 rfl) ?_
  refine k_callV (C := RX7) (T := TX7) (N := 10) (rest := []) hC hl hH hS (c_X7_isFencer l κ γ y1) lv_7 rfl rfl tw_440 tw_442 tw_13 tw_38 tw_443 hd_X7_isFencer ⟨Nat.le_of_ble_eq_true rfl, Nat.le_of_ble_eq_true rfl⟩ rfl rfl rfl rfl (Nat.le_of_ble_eq_true rfl) dX7_begin_10 ⟨Nat.le_of_ble_eq_true rfl, Nat.le_of_ble_eq_true rfl⟩ rfl (fun H locs hH hS => ?_)
  refine lv_if_eq (tgt := 35) hx hb dX7_begin_13 (by decide) (fun c73 => ?_) (fun c73 => ?_)
  · have hk := ifp hk c73
    have hq := ifpe hq c73
    exact b_35 γ _ _ _ (lv_sub hl [] rfl) hH hS hnb hk hq
  · have hk := ifn hk c73
    have hq := ifne hq c73
    refine lv_aload_n hx hb dX7_begin_16 rfl (lv_at hl 1 rfl) ?_
    refine lv_iload_n hx hb dX7_begin_17 rfl (lv_at hl 3 rfl) ?_
    refine k_callV (C := RX7) (T := TX7) (N := 10) (rest := []) hC hl hH hS (c_X7_isFencer l κ γ y2) lv_7 rfl rfl tw_440 tw_442 tw_13 tw_38 tw_443 hd_X7_isFencer ⟨Nat.le_of_ble_eq_true rfl, Nat.le_of_ble_eq_true rfl⟩ rfl rfl rfl rfl (Nat.le_of_ble_eq_true rfl) dX7_begin_18 ⟨Nat.le_of_ble_eq_true rfl, Nat.le_of_ble_eq_true rfl⟩ rfl (fun H locs hH hS => ?_)
    refine lv_if_eq (tgt := 35) hx hb dX7_begin_21 (by decide) (fun c74 => ?_) (fun c74 => ?_)
    · have hk := ifp hk c74
      have hq := ifpe hq c74
      exact b_35 γ _ _ _ (lv_sub hl [] rfl) hH hS hnb hk hq
    · have hk := ifn hk c74
      have hq := ifne hq c74
      refine lv_aloadq hx hb dX7_begin_24 (lv_at hl 0 rfl) ?_
      rcases ho76 : (x_X7_poolOf y5 γ) with _ | b75
      · have hk := oc_n hk ho76
        have hq := oc_ne hq ho76
        have hl : lv_has ls 7 [(6, .null), (0, .ref (kA κ 7 0)), (1, .int y1), (2, .int y2), (3, .int y3), (4, .int y4), (5, .int y5)] := by first | exact hl | (rw [ho76] at hl; exact hl)
        refine lv_ifnonnullN hx hb dX7_begin_26 ?_
        refine lv_iload hx hb dX7_begin_29 (lv_at hl 6 rfl) ?_
        refine lv_iconst (v := (-1)) hx hb dX7_begin_31 (by decide) ?_
        refine lv_icmp_eq (tgt := 45) hx hb dX7_begin_32 (by decide) (fun c78 => ?_) (fun c78 => ?_)
        · have hk := ifp hk c78
          have hq := ifpe hq c78
          exact b_45 y1 y2 y3 y4 y5 none γ _ _ _ (lv_sub hl [1, 2, 3, 4, 5, 6, 0] rfl) hH hS (fun b hb => by cases hb) hnb hk hq
        · have hk := ifn hk c78
          have hq := ifne hq c78
          exact b_35 γ _ _ _ (lv_sub hl [] rfl) hH hS hnb hk hq
      · have hk := oc_s hk ho76
        have hq := oc_se hq ho76
        have hvb77 : lv κ 5 b75 := hw72 b75 ho76
        have hl : lv_has ls 7 [(6, .ref (kA κ 5 b75)), (0, .ref (kA κ 7 0)), (1, .int y1), (2, .int y2), (3, .int y3), (4, .int y4), (5, .int y5)] := by first | exact hl | (rw [ho76] at hl; exact hl)
        refine lv_ifnonnull (tgt := 45) hx hb dX7_begin_26 (by decide) ?_
        exact b_45 y1 y2 y3 y4 y5 (some b75) γ _ _ _ (lv_sub hl [1, 2, 3, 4, 5, 6, 0] rfl) hH hS (fun b hb => by cases hb; exact hvb77) hnb hk hq
set_option maxRecDepth 20000 in
set_option maxHeartbeats 4000000 in
theorem c_X7_pool (l : Launch) (hfl : l.stackTraces = false) (κ : KP) (γ : St) (y1 : Int32) (hnb : kO κ = (gV γ 7 0 7).toNatClampNeg) (hk : ok_X7_pool y1 γ) : vx_Met l yX7_pool [Cond.code yX7_pool cX7_pool 4 (some .int)] ({ frames := 6, cells := 3, slots := 65, locals := 90 } : Room) (va_Pc [.ref (kA κ 7 0), .int y1] (GG κ γ)) (QE κ (((x_X7_pool y1 γ)).2.2) (((x_X7_pool y1 γ)).1) (some (.int (((x_X7_pool y1 γ)).2.1))) (kN κ) (kO κ + 1)) (XX κ (((x_X7_pool y1 γ)).2.2) (((x_X7_pool y1 γ)).1)) 3 65 (AA κ) := by
  generalize hq : x_X7_pool y1 γ = res
  refine vx_ofW (cc := cX7_pool) (maxL := 4) (ret := (some .int)) (by decide) rfl ?_
  intro p e s m args below meth c s₁ B hml9 ht hv
  obtain ⟨rfl, hH, hK9, hB9, hX9, hZ9⟩ := hv
  have hC : CX κ cX7_pool "Phrasehall" 4 p l s m ([.ref (kA κ 7 0), .int y1] : List Value).toArray meth c := ⟨B.exec, B.bytes, findClass_of_methodNamed B.named, fun w hw => tw_use (List.mem_filter.mp hw).2 (State.WarmedH.refl s) (hX9.1 w hw), hK9, hX9, hZ9, hB9, hml9, B.notSynchronized⟩
  obtain ⟨hx, hb, hown, hT, -, -, -, -, hml, -⟩ := id hC
  have hr := B.returns
  have hS : va_S (AA κ) s.heap s.heap [] := va_S.rf
  have hl := lv_entry ([.ref (kA κ 7 0), .int y1]) (n := 4) (Nat.le_of_ble_eq_true rfl)
  rw [lg_entry_eq]
  generalize (lg_sl ([.ref (kA κ 7 0), .int y1]) ++ List.replicate (4 - (lg_sl ([.ref (kA κ 7 0), .int y1])).length) Slot.unset).toArray = ls at hl ⊢
  have hl : lv_has ls 4 [(0, .ref (kA κ 7 0)), (1, .int y1)] := hl
  have b_22 : ∀ (γ : St) (H : Heap) (locs : List Loc) (ls : Array Slot), lv_has ls 4 [] → HR κ γ H → va_S (AA κ) s.heap H locs → (kO κ = (gV γ 7 0 7).toNatClampNeg) → ok_X7_pool_22 γ → x_X7_pool_22 γ = res → W p l e (headSpec [Cond.code yX7_pool cX7_pool 4 (some .int)] ({ frames := 6, cells := 3, slots := 65, locals := 90 } : Room)).room s m ([.ref (kA κ 7 0), .int y1] : List Value).toArray below meth c H locs 0 0 (vx_MQ below (QE κ res.2.2 (res.1) (some (.int res.2.1)) (kN κ) (kO κ + 1)) (XX κ (res.2.2) (res.1)) ([.ref (kA κ 7 0), .int y1] : List Value).toArray s 3 65 (AA κ)) (F0 m 22 ls []) := by
    intro  γ H locs ls hl hH hS hnb hk hq
    subst hq
    exact k_throw (en := 2) (text := "fencers are not there, or fewer than 2") hC hfl ht hl hH hS rfl (by decide) tw_281 tw_46 (List.mem_of_getElem? (i := 20) rfl) at_IAE ot_IAE fit_2 dX7_pool_22 dX7_pool_25 dX7_pool_26 dX7_pool_28 dX7_pool_31 (Nat.le_of_ble_eq_true rfl) (Nat.le_of_ble_eq_true rfl) (Nat.le_of_ble_eq_true rfl) (Nat.le_of_ble_eq_true rfl) (Nat.le_of_ble_eq_true rfl) (Nat.le_of_ble_eq_true rfl)
  refine lv_iload_n hx hb dX7_pool_0 rfl (lv_at hl 1 rfl) ?_
  refine lv_iconst (v := 1) hx hb dX7_pool_1 (by decide) ?_
  refine lv_aload_n hx hb dX7_pool_2 rfl (lv_at hl 0 rfl) ?_
  refine hp_get (v := .int (gV γ 7 0 5)) (C := RX7) (T := TX7) (N := 10) hC inX7 hH lv_7 rfl rfl 5 (by decide) tw_152 rfl rfl dX7_pool_3 ?_
  refine lv_ishl hx hb dX7_pool_6 ?_
  refine lv_ineg hx hb dX7_pool_7 ?_
  refine lv_iand hx hb dX7_pool_8 ?_
  refine lv_istore_n (lv' := [(2, .int (y1 &&& (-(1 <<< ((gV γ 7 0 5) &&& 31))))), (0, .ref (kA κ 7 0)), (1, .int y1)]) hx hb dX7_pool_9 rfl hl (by decide) rfl (fun ls hl => ?_)
  refine lv_iload_n hx hb dX7_pool_10 rfl (lv_at hl 0 rfl) ?_
  refine lv_if_ne (tgt := 22) hx hb dX7_pool_11 (by decide) (fun c7 => ?_) (fun c7 => ?_)
  · have hk := ifn hk c7
    have hq := ifne hq c7
    exact b_22 γ _ _ _ (lv_sub hl [] rfl) hH hS hnb hk hq
  · have hk := ifp hk c7
    have hq := ifpe hq c7
    refine lv_iload_n hx hb dX7_pool_14 rfl (lv_at hl 2 rfl) ?_
    refine k_callS (rest := []) hC hl hH hS (c_J6_bitCount_0f7a4 l κ γ y1) tw_747 tw_748 tw_53 tw_749 hd_J6_bitCount_0f7a4 ⟨Nat.le_of_ble_eq_true rfl, Nat.le_of_ble_eq_true rfl⟩ rfl rfl rfl rfl (Nat.le_of_ble_eq_true rfl) dX7_pool_15 ⟨Nat.le_of_ble_eq_true rfl, Nat.le_of_ble_eq_true rfl⟩ rfl (fun H locs hH hS => ?_)
    refine lv_iconst (v := 2) hx hb dX7_pool_18 (by decide) ?_
    refine lv_icmp_ge (tgt := 32) hx hb dX7_pool_19 (by decide) (fun c8 => ?_) (fun c8 => ?_)
    · have hk := ifp hk c8
      have hq := ifpe hq c8
      refine lv_aload_n hx hb dX7_pool_32 rfl (lv_at hl 1 rfl) ?_
      refine hp_get (v := .int (gV γ 7 0 7)) (C := RX7) (T := TX7) (N := 10) hC inX7 hH lv_7 rfl rfl 7 (by decide) tw_154 rfl rfl dX7_pool_33 ?_
      refine lv_bipush (v := 6) hx hb dX7_pool_36 (by decide) ?_
      refine lv_icmp_lt (tgt := 51) hx hb dX7_pool_38 (by decide) (fun c9 => ?_) (fun c9 => ?_)
      · have hk := ifp hk c9
        have hq := ifpe hq c9
        refine lv_aload_n hx hb dX7_pool_51 rfl (lv_at hl 1 rfl) ?_
        refine hp_get (v := .int (gV γ 7 0 7)) (C := RX7) (T := TX7) (N := 10) hC inX7 hH lv_7 rfl rfl 7 (by decide) tw_154 rfl rfl dX7_pool_52 ?_
        refine lv_istore_n (lv' := [(3, .int (gV γ 7 0 7)), (2, .int (y1 &&& (-(1 <<< ((gV γ 7 0 5) &&& 31))))), (0, .ref (kA κ 7 0)), (1, .int y1)]) hx hb dX7_pool_55 rfl hl (by decide) rfl (fun ls hl => ?_)
        refine lv_aload_n hx hb dX7_pool_56 rfl (lv_at hl 2 rfl) ?_
        refine hp_get (v := .ref (kA κ 10 0)) (C := RX7) (T := TX7) (N := 10) hC inX7 hH lv_7 rfl rfl 1 (by decide) tw_148 rfl rfl dX7_pool_57 ?_
        refine lv_iload_n hx hb dX7_pool_60 rfl (lv_at hl 0 rfl) ?_
        exact X7_pool_tail hC hr (lv_sub hl [2, 3, 0] rfl) hH hS hnb hk hq (Nat.le_of_ble_eq_true rfl) (Nat.le_of_ble_eq_true rfl) (Nat.le_of_ble_eq_true rfl) (Nat.le_of_ble_eq_true rfl)
      · have hk := ifn hk c9
        have hq := ifne hq c9
        subst hq
        exact k_throw (en := 1) (text := "there are 6 pools") hC hfl ht hl hH hS rfl (by decide) tw_182 tw_47 (List.mem_of_getElem? (i := 21) rfl) at_ISE ot_ISE fit_1 dX7_pool_41 dX7_pool_44 dX7_pool_45 dX7_pool_47 dX7_pool_50 (Nat.le_of_ble_eq_true rfl) (Nat.le_of_ble_eq_true rfl) (Nat.le_of_ble_eq_true rfl) (Nat.le_of_ble_eq_true rfl) (Nat.le_of_ble_eq_true rfl) (Nat.le_of_ble_eq_true rfl)
    · have hk := ifn hk c8
      have hq := ifne hq c8
      exact b_22 γ _ _ _ (lv_sub hl [] rfl) hH hS hnb hk hq
