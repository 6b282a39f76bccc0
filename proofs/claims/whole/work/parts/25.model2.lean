set_option maxRecDepth 20000 in
set_option maxHeartbeats 4000000 in
theorem c_X8_registered (l : Launch) (κ : KP) (γ : St) (y1 : Int32) (hk : ok_X8_registered y1 γ) : Met l yX8_registered [Cond.code yX8_registered cX8_registered 9 (some .int)] ({ frames := 1, cells := 0, slots := 0, locals := 20 } : Room) (va_Pc [.ref (kA κ 8 0), .int y1] (GG κ γ)) (QQ κ γ (some (.int ((x_X8_registered y1 γ))))) 0 0 (AA κ) := by
  generalize hq : x_X8_registered y1 γ = res
  refine Met.ofW (cc := cX8_registered) (maxL := 9) (ret := (some .int)) (by decide) rfl ?_
  intro p e s m args below meth c s₁ B hml9 hv
  obtain ⟨rfl, hH, hK9, hB9, hX9, hZ9⟩ := hv
  have hC : CX κ cX8_registered "PhrasehallModel" 9 p l s m ([.ref (kA κ 8 0), .int y1] : List Value).toArray meth c := ⟨B.exec, B.bytes, findClass_of_methodNamed B.named, fun w hw => tw_use (List.mem_filter.mp hw).2 (State.WarmedH.refl s) (hX9.1 w hw), hK9, hX9, hZ9, hB9, hml9, B.notSynchronized⟩
  obtain ⟨hx, hb, hown, hT, -, -, -, -, hml, -⟩ := id hC
  have hr := B.returns
  have hS : va_S (AA κ) s.heap s.heap [] := va_S.rf
  have hl := lv_entry ([.ref (kA κ 8 0), .int y1]) (n := 9) (Nat.le_of_ble_eq_true rfl)
  rw [lg_entry_eq]
  generalize (lg_sl ([.ref (kA κ 8 0), .int y1]) ++ List.replicate (9 - (lg_sl ([.ref (kA κ 8 0), .int y1])).length) Slot.unset).toArray = ls at hl ⊢
  have hl : lv_has ls 9 [(0, .ref (kA κ 8 0)), (1, .int y1)] := hl
  have b_28 : ∀ (k28 : Nat) (a1 : Int32) (a2 : Int32) (a3 : Int32) (a4 : Int32) (a5 : Int32) (H : Heap) (locs : List Loc) (ls : Array Slot), lv_has ls 9 [(0, .ref (kA κ 8 0)), (1, .int a1), (2, .int a2), (3, .int a3), (4, .int a4), (5, .int a5)] → HR κ γ H → va_S (AA κ) s.heap H locs → ok_X8_registered_28 k28 a1 a2 a3 a4 a5 γ → x_X8_registered_28 k28 a1 a2 a3 a4 a5 γ = res → W p l e (headSpec [Cond.code yX8_registered cX8_registered 9 (some .int)] ({ frames := 1, cells := 0, slots := 0, locals := 20 } : Room)).room s m ([.ref (kA κ 8 0), .int y1] : List Value).toArray below meth c H locs 0 0 (MQ below (QQ κ γ (some (.int res))) ([.ref (kA κ 8 0), .int y1] : List Value).toArray s 0 0 (AA κ)) (F0 m 28 ls []) := by
    intro k28
    induction k28 with
    | zero =>
      intro a1 a2 a3 a4 a5 H locs ls hl hH hS hk hq
      exact (show False from hk).elim
    | succ k28 ih_28 =>
      have b_210 : ∀ (a1 : Int32) (a2 : Int32) (a3 : Int32) (a4 : Int32) (a5 : Int32) (H : Heap) (locs : List Loc) (ls : Array Slot), lv_has ls 9 [(0, .ref (kA κ 8 0)), (1, .int a1), (2, .int a2), (3, .int a3), (4, .int a4), (5, .int a5)] → HR κ γ H → va_S (AA κ) s.heap H locs → ok_X8_registered_210 (ok_X8_registered_28 k28) a1 a2 a3 a4 a5 γ → x_X8_registered_210 (x_X8_registered_28 k28) a1 a2 a3 a4 a5 γ = res → W p l e (headSpec [Cond.code yX8_registered cX8_registered 9 (some .int)] ({ frames := 1, cells := 0, slots := 0, locals := 20 } : Room)).room s m ([.ref (kA κ 8 0), .int y1] : List Value).toArray below meth c H locs 0 0 (MQ below (QQ κ γ (some (.int res))) ([.ref (kA κ 8 0), .int y1] : List Value).toArray s 0 0 (AA κ)) (F0 m 210 ls []) := by
        intro a1 a2 a3 a4 a5 H locs ls hl hH hS hk hq
        refine lv_iinc (v := a5 + 1) (lv' := [(5, .int (a5 + 1)), (0, .ref (kA κ 8 0)), (1, .int a1), (2, .int a2), (3, .int a3), (4, .int a4)]) hx hb dX8_registered_210 hl (k := 5) rfl rfl (by decide) rfl (fun ls hl => ?_)
        refine lv_goto (tgt := 28) hx hb dX8_registered_213 (by decide) ?_
        exact ih_28 a1 a2 a3 a4 (a5 + 1) _ _ _ (lv_sub hl [1, 2, 3, 4, 5, 0] rfl) hH hS hk hq
      have b_208 : ∀ (a1 : Int32) (a2 : Int32) (a3 : Int32) (a5 : Int32) (s0 : Int32) (H : Heap) (locs : List Loc) (ls : Array Slot), lv_has ls 9 [(0, .ref (kA κ 8 0)), (1, .int a1), (2, .int a2), (3, .int a3), (5, .int a5)] → HR κ γ H → va_S (AA κ) s.heap H locs → ok_X8_registered_208 (ok_X8_registered_28 k28) a1 a2 a3 a5 s0 γ → x_X8_registered_208 (x_X8_registered_28 k28) a1 a2 a3 a5 s0 γ = res → W p l e (headSpec [Cond.code yX8_registered cX8_registered 9 (some .int)] ({ frames := 1, cells := 0, slots := 0, locals := 20 } : Room)).room s m ([.ref (kA κ 8 0), .int y1] : List Value).toArray below meth c H locs 0 0 (MQ below (QQ κ γ (some (.int res))) ([.ref (kA κ 8 0), .int y1] : List Value).toArray s 0 0 (AA κ)) (F0 m 208 ls [.int s0]) := by
        intro a1 a2 a3 a5 s0 H locs ls hl hH hS hk hq
        refine lv_istore (lv' := [(4, .int s0), (0, .ref (kA κ 8 0)), (1, .int a1), (2, .int a2), (3, .int a3), (5, .int a5)]) hx hb dX8_registered_208 hl (by decide) rfl (fun ls hl => ?_)
        exact b_210 a1 a2 a3 s0 a5 _ _ _ (lv_sub hl [1, 2, 3, 4, 0, 5] rfl) hH hS hk hq
      have b_189 : ∀ (a1 : Int32) (a2 : Int32) (a4 : Int32) (a5 : Int32) (s0 : Int32) (H : Heap) (locs : List Loc) (ls : Array Slot), lv_has ls 9 [(0, .ref (kA κ 8 0)), (1, .int a1), (2, .int a2), (4, .int a4), (5, .int a5)] → HR κ γ H → va_S (AA κ) s.heap H locs → ok_X8_registered_189 (ok_X8_registered_28 k28) a1 a2 a4 a5 s0 γ → x_X8_registered_189 (x_X8_registered_28 k28) a1 a2 a4 a5 s0 γ = res → W p l e (headSpec [Cond.code yX8_registered cX8_registered 9 (some .int)] ({ frames := 1, cells := 0, slots := 0, locals := 20 } : Room)).room s m ([.ref (kA κ 8 0), .int y1] : List Value).toArray below meth c H locs 0 0 (MQ below (QQ κ γ (some (.int res))) ([.ref (kA κ 8 0), .int y1] : List Value).toArray s 0 0 (AA κ)) (F0 m 189 ls [.int s0]) := by
        intro a1 a2 a4 a5 s0 H locs ls hl hH hS hk hq
        refine lv_istore_n (lv' := [(3, .int s0), (0, .ref (kA κ 8 0)), (1, .int a1), (2, .int a2), (4, .int a4), (5, .int a5)]) hx hb dX8_registered_189 rfl hl (by decide) rfl (fun ls hl => ?_)
        refine lv_aload_n hx hb dX8_registered_190 rfl (lv_at hl 1 rfl) ?_
        refine hp_get (v := .ref (kA κ 31 0)) (C := RX8) (T := TX8) (N := 32) hC inX8 hH lv_8 rfl rfl 18 (by decide) tw_940 rfl rfl dX8_registered_191 ?_
        refine lv_iload hx hb dX8_registered_194 (lv_at hl 5 rfl) ?_
        obtain ⟨hi82, hk⟩ := hk
        refine hp_ald (v := gV γ 31 0 ((a5 : Int32).toNatClampNeg)) hC hH lv_31 rfl hi82 rfl dX8_registered_196 ?_
        refine lv_iconst (v := 1) hx hb dX8_registered_197 (by decide) ?_
        refine lv_icmp_ne (tgt := 206) hx hb dX8_registered_198 (by decide) (fun c83 => ?_) (fun c83 => ?_)
        · have hk := ifn hk c83
          have hq := ifne hq c83
          refine lv_iload hx hb dX8_registered_206 (lv_at hl 4 rfl) ?_
          exact b_208 a1 a2 s0 a5 a4 _ _ _ (lv_sub hl [1, 2, 3, 0, 5] rfl) hH hS hk hq
        · have hk := ifp hk c83
          have hq := ifpe hq c83
          refine lv_iload hx hb dX8_registered_201 (lv_at hl 5 rfl) ?_
          refine lv_goto (tgt := 208) hx hb dX8_registered_203 (by decide) ?_
          exact b_208 a1 a2 s0 a5 a5 _ _ _ (lv_sub hl [1, 2, 3, 0, 5] rfl) hH hS hk hq
      have b_173 : ∀ (a1 : Int32) (a2 : Int32) (a3 : Int32) (a4 : Int32) (a5 : Int32) (H : Heap) (locs : List Loc) (ls : Array Slot), lv_has ls 9 [(0, .ref (kA κ 8 0)), (1, .int a1), (2, .int a2), (3, .int a3), (4, .int a4), (5, .int a5)] → HR κ γ H → va_S (AA κ) s.heap H locs → ok_X8_registered_173 (ok_X8_registered_28 k28) a1 a2 a3 a4 a5 γ → x_X8_registered_173 (x_X8_registered_28 k28) a1 a2 a3 a4 a5 γ = res → W p l e (headSpec [Cond.code yX8_registered cX8_registered 9 (some .int)] ({ frames := 1, cells := 0, slots := 0, locals := 20 } : Room)).room s m ([.ref (kA κ 8 0), .int y1] : List Value).toArray below meth c H locs 0 0 (MQ below (QQ κ γ (some (.int res))) ([.ref (kA κ 8 0), .int y1] : List Value).toArray s 0 0 (AA κ)) (F0 m 173 ls []) := by
        intro a1 a2 a3 a4 a5 H locs ls hl hH hS hk hq
        refine lv_aload_n hx hb dX8_registered_173 rfl (lv_at hl 0 rfl) ?_
        refine hp_get (v := .ref (kA κ 31 0)) (C := RX8) (T := TX8) (N := 32) hC inX8 hH lv_8 rfl rfl 18 (by decide) tw_940 rfl rfl dX8_registered_174 ?_
        refine lv_iload hx hb dX8_registered_177 (lv_at hl 5 rfl) ?_
        obtain ⟨hi84, hk⟩ := hk
        refine hp_ald (v := gV γ 31 0 ((a5 : Int32).toNatClampNeg)) hC hH lv_31 rfl hi84 rfl dX8_registered_179 ?_
        refine lv_if_ne (tgt := 188) hx hb dX8_registered_180 (by decide) (fun c85 => ?_) (fun c85 => ?_)
        · have hk := ifn hk c85
          have hq := ifne hq c85
          refine lv_iload_n hx hb dX8_registered_188 rfl (lv_at hl 3 rfl) ?_
          exact b_189 a1 a2 a4 a5 a3 _ _ _ (lv_sub hl [0, 1, 2, 4, 5] rfl) hH hS hk hq
        · have hk := ifp hk c85
          have hq := ifpe hq c85
          refine lv_iload hx hb dX8_registered_183 (lv_at hl 5 rfl) ?_
          refine lv_goto (tgt := 189) hx hb dX8_registered_185 (by decide) ?_
          exact b_189 a1 a2 a4 a5 a5 _ _ _ (lv_sub hl [0, 1, 2, 4, 5] rfl) hH hS hk hq
      have b_133 : ∀ (a1 : Int32) (a2 : Int32) (a3 : Int32) (a4 : Int32) (a5 : Int32) (a6 : Int32) (a7 : Int32) (s0 : Int32) (H : Heap) (locs : List Loc) (ls : Array Slot), lv_has ls 9 [(0, .ref (kA κ 8 0)), (1, .int a1), (2, .int a2), (3, .int a3), (4, .int a4), (5, .int a5), (6, .int a6), (7, .int a7)] → HR κ γ H → va_S (AA κ) s.heap H locs → ok_X8_registered_133 (ok_X8_registered_28 k28) a1 a2 a3 a4 a5 a6 a7 s0 γ → x_X8_registered_133 (x_X8_registered_28 k28) a1 a2 a3 a4 a5 a6 a7 s0 γ = res → W p l e (headSpec [Cond.code yX8_registered cX8_registered 9 (some .int)] ({ frames := 1, cells := 0, slots := 0, locals := 20 } : Room)).room s m ([.ref (kA κ 8 0), .int y1] : List Value).toArray below meth c H locs 0 0 (MQ below (QQ κ γ (some (.int res))) ([.ref (kA κ 8 0), .int y1] : List Value).toArray s 0 0 (AA κ)) (F0 m 133 ls [.int s0]) := by
        intro a1 a2 a3 a4 a5 a6 a7 s0 H locs ls hl hH hS hk hq
        refine lv_istore (lv' := [(8, .int s0), (0, .ref (kA κ 8 0)), (1, .int a1), (2, .int a2), (3, .int a3), (4, .int a4), (5, .int a5), (6, .int a6), (7, .int a7)]) hx hb dX8_registered_133 hl (by decide) rfl (fun ls hl => ?_)
        refine lv_iload hx hb dX8_registered_135 (lv_at hl 7 rfl) ?_
        refine lv_if_eq (tgt := 210) hx hb dX8_registered_137 (by decide) (fun c86 => ?_) (fun c86 => ?_)
        · have hk := ifp hk c86
          have hq := ifpe hq c86
          exact b_210 a1 a2 a3 a4 a5 _ _ _ (lv_sub hl [1, 2, 3, 4, 5, 6] rfl) hH hS hk hq
        · have hk := ifn hk c86
          have hq := ifne hq c86
          refine lv_iload hx hb dX8_registered_140 (lv_at hl 0 rfl) ?_
          refine lv_if_eq (tgt := 210) hx hb dX8_registered_142 (by decide) (fun c87 => ?_) (fun c87 => ?_)
          · have hk := ifp hk c87
            have hq := ifpe hq c87
            exact b_210 a1 a2 a3 a4 a5 _ _ _ (lv_sub hl [1, 2, 3, 4, 5, 6] rfl) hH hS hk hq
          · have hk := ifn hk c87
            have hq := ifne hq c87
            refine lv_iload hx hb dX8_registered_145 (lv_at hl 8 rfl) ?_
            refine lv_iconst (v := (-1)) hx hb dX8_registered_147 (by decide) ?_
            refine lv_icmp_eq (tgt := 173) hx hb dX8_registered_148 (by decide) (fun c88 => ?_) (fun c88 => ?_)
            · have hk := ifp hk c88
              have hq := ifpe hq c88
              exact b_173 a1 a2 a3 a4 a5 _ _ _ (lv_sub hl [1, 2, 3, 4, 5, 6] rfl) hH hS hk hq
            · have hk := ifn hk c88
              have hq := ifne hq c88
              refine lv_aload_n hx hb dX8_registered_151 rfl (lv_at hl 1 rfl) ?_
              refine hp_get (v := .ref (kA κ 33 0)) (C := RX8) (T := TX8) (N := 32) hC inX8 hH lv_8 rfl rfl 20 (by decide) tw_942 rfl rfl dX8_registered_152 ?_
              refine lv_iload hx hb dX8_registered_155 (lv_at hl 6 rfl) ?_
              obtain ⟨hi89, hk⟩ := hk
              refine hp_ald (v := gV γ 33 0 ((a5 : Int32).toNatClampNeg)) hC hH lv_33 rfl hi89 rfl dX8_registered_157 ?_
              refine lv_aload_n hx hb dX8_registered_158 rfl (lv_at hl 1 rfl) ?_
              refine hp_get (v := .ref (kA κ 33 0)) (C := RX8) (T := TX8) (N := 32) hC inX8 hH lv_8 rfl rfl 20 (by decide) tw_942 rfl rfl dX8_registered_159 ?_
              refine lv_iload hx hb dX8_registered_162 (lv_at hl 8 rfl) ?_
              obtain ⟨hi90, hk⟩ := hk
              refine hp_ald (v := gV γ 33 0 ((a7 : Int32).toNatClampNeg)) hC hH lv_33 rfl hi90 rfl dX8_registered_164 ?_
              refine lv_isub hx hb dX8_registered_165 ?_
              refine lv_iload_n hx hb dX8_registered_166 rfl (lv_at hl 3 rfl) ?_
              refine k_callS (rest := [.int ((gV γ 33 0 ((a5 : Int32).toNatClampNeg)) - (gV γ 33 0 ((a7 : Int32).toNatClampNeg)))]) hC hl hH hS (c_X8_locks l κ γ a2) tw_1081 tw_1082 tw_62 tw_1083 hd_X8_locks ⟨Nat.le_of_ble_eq_true rfl, Nat.le_of_ble_eq_true rfl⟩ rfl rfl rfl rfl (Nat.le_of_ble_eq_true rfl) dX8_registered_167 ⟨Nat.le_of_ble_eq_true rfl, Nat.le_of_ble_eq_true rfl⟩ rfl (fun H locs hH hS => ?_)
              refine lv_icmp_gt (tgt := 210) hx hb dX8_registered_170 (by decide) (fun c91 => ?_) (fun c91 => ?_)
              · have hk := ifp hk c91
                have hq := ifpe hq c91
                exact b_210 a1 a2 a3 a4 a5 _ _ _ (lv_sub hl [1, 2, 3, 4, 5, 6] rfl) hH hS hk hq
              · have hk := ifn hk c91
                have hq := ifne hq c91
                exact b_173 a1 a2 a3 a4 a5 _ _ _ (lv_sub hl [1, 2, 3, 4, 5, 6] rfl) hH hS hk hq
      have b_124 : ∀ (a1 : Int32) (a2 : Int32) (a3 : Int32) (a4 : Int32) (a5 : Int32) (a6 : Int32) (a7 : Int32) (s0 : Int32) (H : Heap) (locs : List Loc) (ls : Array Slot), lv_has ls 9 [(0, .ref (kA κ 8 0)), (1, .int a1), (2, .int a2), (3, .int a3), (4, .int a4), (5, .int a5), (6, .int a6), (7, .int a7)] → HR κ γ H → va_S (AA κ) s.heap H locs → ok_X8_registered_124 (ok_X8_registered_28 k28) a1 a2 a3 a4 a5 a6 a7 s0 γ → x_X8_registered_124 (x_X8_registered_28 k28) a1 a2 a3 a4 a5 a6 a7 s0 γ = res → W p l e (headSpec [Cond.code yX8_registered cX8_registered 9 (some .int)] ({ frames := 1, cells := 0, slots := 0, locals := 20 } : Room)).room s m ([.ref (kA κ 8 0), .int y1] : List Value).toArray below meth c H locs 0 0 (MQ below (QQ κ γ (some (.int res))) ([.ref (kA κ 8 0), .int y1] : List Value).toArray s 0 0 (AA κ)) (F0 m 124 ls [.int s0]) := by
        intro a1 a2 a3 a4 a5 a6 a7 s0 H locs ls hl hH hS hk hq
        refine lv_iconst (v := (-1)) hx hb dX8_registered_124 (by decide) ?_
        refine lv_icmp_ne (tgt := 132) hx hb dX8_registered_125 (by decide) (fun c92 => ?_) (fun c92 => ?_)
        · have hk := ifn hk c92
          have hq := ifne hq c92
          refine lv_iconst (v := 0) hx hb dX8_registered_132 (by decide) ?_
          exact b_133 a1 a2 a3 a4 a5 a6 a7 0 _ _ _ (lv_sub hl [0, 1, 2, 3, 4, 5, 6, 7] rfl) hH hS hk hq
        · have hk := ifp hk c92
          have hq := ifpe hq c92
          refine lv_iconst (v := 1) hx hb dX8_registered_128 (by decide) ?_
          refine lv_goto (tgt := 133) hx hb dX8_registered_129 (by decide) ?_
          exact b_133 a1 a2 a3 a4 a5 a6 a7 1 _ _ _ (lv_sub hl [0, 1, 2, 3, 4, 5, 6, 7] rfl) hH hS hk hq
      have b_106 : ∀ (a1 : Int32) (a2 : Int32) (a3 : Int32) (a4 : Int32) (a5 : Int32) (a6 : Int32) (s0 : Int32) (H : Heap) (locs : List Loc) (ls : Array Slot), lv_has ls 9 [(0, .ref (kA κ 8 0)), (1, .int a1), (2, .int a2), (3, .int a3), (4, .int a4), (5, .int a5), (6, .int a6)] → HR κ γ H → va_S (AA κ) s.heap H locs → ok_X8_registered_106 (ok_X8_registered_28 k28) a1 a2 a3 a4 a5 a6 s0 γ → x_X8_registered_106 (x_X8_registered_28 k28) a1 a2 a3 a4 a5 a6 s0 γ = res → W p l e (headSpec [Cond.code yX8_registered cX8_registered 9 (some .int)] ({ frames := 1, cells := 0, slots := 0, locals := 20 } : Room)).room s m ([.ref (kA κ 8 0), .int y1] : List Value).toArray below meth c H locs 0 0 (MQ below (QQ κ γ (some (.int res))) ([.ref (kA κ 8 0), .int y1] : List Value).toArray s 0 0 (AA κ)) (F0 m 106 ls [.int s0]) := by
        intro a1 a2 a3 a4 a5 a6 s0 H locs ls hl hH hS hk hq
        refine lv_istore (lv' := [(7, .int s0), (0, .ref (kA κ 8 0)), (1, .int a1), (2, .int a2), (3, .int a3), (4, .int a4), (5, .int a5), (6, .int a6)]) hx hb dX8_registered_106 hl (by decide) rfl (fun ls hl => ?_)
        refine lv_aload_n hx hb dX8_registered_108 rfl (lv_at hl 1 rfl) ?_
        refine hp_get (v := .ref (kA κ 31 0)) (C := RX8) (T := TX8) (N := 32) hC inX8 hH lv_8 rfl rfl 18 (by decide) tw_940 rfl rfl dX8_registered_109 ?_
        refine lv_iload hx hb dX8_registered_112 (lv_at hl 6 rfl) ?_
        obtain ⟨hi93, hk⟩ := hk
        refine hp_ald (v := gV γ 31 0 ((a5 : Int32).toNatClampNeg)) hC hH lv_31 rfl hi93 rfl dX8_registered_114 ?_
        refine lv_if_ne (tgt := 122) hx hb dX8_registered_115 (by decide) (fun c94 => ?_) (fun c94 => ?_)
        · have hk := ifn hk c94
          have hq := ifne hq c94
          refine lv_iload hx hb dX8_registered_122 (lv_at hl 5 rfl) ?_
          exact b_124 a1 a2 a3 a4 a5 a6 s0 a4 _ _ _ (lv_sub hl [1, 2, 3, 4, 5, 6, 7, 0] rfl) hH hS hk hq
        · have hk := ifp hk c94
          have hq := ifpe hq c94
          refine lv_iload_n hx hb dX8_registered_118 rfl (lv_at hl 4 rfl) ?_
          refine lv_goto (tgt := 124) hx hb dX8_registered_119 (by decide) ?_
          exact b_124 a1 a2 a3 a4 a5 a6 s0 a3 _ _ _ (lv_sub hl [1, 2, 3, 4, 5, 6, 7, 0] rfl) hH hS hk hq
      have b_93 : ∀ (a1 : Int32) (a2 : Int32) (a3 : Int32) (a4 : Int32) (a5 : Int32) (s0 : Int32) (H : Heap) (locs : List Loc) (ls : Array Slot), lv_has ls 9 [(0, .ref (kA κ 8 0)), (1, .int a1), (2, .int a2), (3, .int a3), (4, .int a4), (5, .int a5)] → HR κ γ H → va_S (AA κ) s.heap H locs → ok_X8_registered_93 (ok_X8_registered_28 k28) a1 a2 a3 a4 a5 s0 γ → x_X8_registered_93 (x_X8_registered_28 k28) a1 a2 a3 a4 a5 s0 γ = res → W p l e (headSpec [Cond.code yX8_registered cX8_registered 9 (some .int)] ({ frames := 1, cells := 0, slots := 0, locals := 20 } : Room)).room s m ([.ref (kA κ 8 0), .int y1] : List Value).toArray below meth c H locs 0 0 (MQ below (QQ κ γ (some (.int res))) ([.ref (kA κ 8 0), .int y1] : List Value).toArray s 0 0 (AA κ)) (F0 m 93 ls [.int s0]) := by
        intro a1 a2 a3 a4 a5 s0 H locs ls hl hH hS hk hq
        refine lv_istore (lv' := [(6, .int s0), (0, .ref (kA κ 8 0)), (1, .int a1), (2, .int a2), (3, .int a3), (4, .int a4), (5, .int a5)]) hx hb dX8_registered_93 hl (by decide) rfl (fun ls hl => ?_)
        refine lv_iload_n hx hb dX8_registered_95 rfl (lv_at hl 4 rfl) ?_
        refine lv_iconst (v := (-1)) hx hb dX8_registered_96 (by decide) ?_
        refine lv_icmp_eq (tgt := 104) hx hb dX8_registered_97 (by decide) (fun c95 => ?_) (fun c95 => ?_)
        · have hk := ifp hk c95
          have hq := ifpe hq c95
          refine lv_iload hx hb dX8_registered_104 (lv_at hl 5 rfl) ?_
          exact b_106 a1 a2 a3 a4 a5 s0 a4 _ _ _ (lv_sub hl [1, 2, 3, 4, 5, 6, 0] rfl) hH hS hk hq
        · have hk := ifn hk c95
          have hq := ifne hq c95
          refine lv_iload_n hx hb dX8_registered_100 rfl (lv_at hl 4 rfl) ?_
          refine lv_goto (tgt := 106) hx hb dX8_registered_101 (by decide) ?_
          exact b_106 a1 a2 a3 a4 a5 s0 a3 _ _ _ (lv_sub hl [1, 2, 3, 4, 5, 6, 0] rfl) hH hS hk hq
      have b_92 : ∀ (a1 : Int32) (a2 : Int32) (a3 : Int32) (a4 : Int32) (a5 : Int32) (H : Heap) (locs : List Loc) (ls : Array Slot), lv_has ls 9 [(0, .ref (kA κ 8 0)), (1, .int a1), (2, .int a2), (3, .int a3), (4, .int a4), (5, .int a5)] → HR κ γ H → va_S (AA κ) s.heap H locs → ok_X8_registered_92 (ok_X8_registered_28 k28) a1 a2 a3 a4 a5 γ → x_X8_registered_92 (x_X8_registered_28 k28) a1 a2 a3 a4 a5 γ = res → W p l e (headSpec [Cond.code yX8_registered cX8_registered 9 (some .int)] ({ frames := 1, cells := 0, slots := 0, locals := 20 } : Room)).room s m ([.ref (kA κ 8 0), .int y1] : List Value).toArray below meth c H locs 0 0 (MQ below (QQ κ γ (some (.int res))) ([.ref (kA κ 8 0), .int y1] : List Value).toArray s 0 0 (AA κ)) (F0 m 92 ls []) := by
        intro a1 a2 a3 a4 a5 H locs ls hl hH hS hk hq
        refine lv_iconst (v := 0) hx hb dX8_registered_92 (by decide) ?_
        exact b_93 a1 a2 a3 a4 a5 0 _ _ _ (lv_sub hl [0, 1, 2, 3, 4, 5] rfl) hH hS hk hq
      have b_88 : ∀ (a1 : Int32) (a2 : Int32) (a3 : Int32) (a4 : Int32) (a5 : Int32) (H : Heap) (locs : List Loc) (ls : Array Slot), lv_has ls 9 [(0, .ref (kA κ 8 0)), (1, .int a1), (2, .int a2), (3, .int a3), (4, .int a4), (5, .int a5)] → HR κ γ H → va_S (AA κ) s.heap H locs → ok_X8_registered_88 (ok_X8_registered_28 k28) a1 a2 a3 a4 a5 γ → x_X8_registered_88 (x_X8_registered_28 k28) a1 a2 a3 a4 a5 γ = res → W p l e (headSpec [Cond.code yX8_registered cX8_registered 9 (some .int)] ({ frames := 1, cells := 0, slots := 0, locals := 20 } : Room)).room s m ([.ref (kA κ 8 0), .int y1] : List Value).toArray below meth c H locs 0 0 (MQ below (QQ κ γ (some (.int res))) ([.ref (kA κ 8 0), .int y1] : List Value).toArray s 0 0 (AA κ)) (F0 m 88 ls []) := by
        intro a1 a2 a3 a4 a5 H locs ls hl hH hS hk hq
        refine lv_iconst (v := 1) hx hb dX8_registered_88 (by decide) ?_
        refine lv_goto (tgt := 93) hx hb dX8_registered_89 (by decide) ?_
        exact b_93 a1 a2 a3 a4 a5 1 _ _ _ (lv_sub hl [0, 1, 2, 3, 4, 5] rfl) hH hS hk hq
      intro a1 a2 a3 a4 a5 H locs ls hl hH hS hk hq
      refine lv_iload hx hb dX8_registered_28 (lv_at hl 5 rfl) ?_
      refine lv_aload_n hx hb dX8_registered_30 rfl (lv_at hl 0 rfl) ?_
      refine hp_get (v := .int (gV γ 8 0 17)) (C := RX8) (T := TX8) (N := 32) hC inX8 hH lv_8 rfl rfl 17 (by decide) tw_939 rfl rfl dX8_registered_31 ?_
      refine lv_icmp_ge (tgt := 216) hx hb dX8_registered_34 (by decide) (fun c96 => ?_) (fun c96 => ?_)
      · have hk := ifp hk c96
        have hq := ifpe hq c96
        refine lv_iload_n hx hb dX8_registered_216 rfl (lv_at hl 1 rfl) ?_
        refine lv_if_ne (tgt := 224) hx hb dX8_registered_217 (by decide) (fun c97 => ?_) (fun c97 => ?_)
        · have hk := ifn hk c97
          have hq := ifne hq c97
          refine lv_iload hx hb dX8_registered_224 (lv_at hl 4 rfl) ?_
          subst hq
          exact kr_i hC hr hH hS rfl rfl dX8_registered_226
        · have hk := ifp hk c97
          have hq := ifpe hq c97
          refine lv_iload_n hx hb dX8_registered_220 rfl (lv_at hl 3 rfl) ?_
          refine lv_goto (tgt := 226) hx hb dX8_registered_221 (by decide) ?_
          subst hq
          exact kr_i hC hr hH hS rfl rfl dX8_registered_226
      · have hk := ifn hk c96
        have hq := ifne hq c96
        refine lv_aload_n hx hb dX8_registered_37 rfl (lv_at hl 0 rfl) ?_
        refine hp_get (v := .ref (kA κ 32 0)) (C := RX8) (T := TX8) (N := 32) hC inX8 hH lv_8 rfl rfl 19 (by decide) tw_941 rfl rfl dX8_registered_38 ?_
        refine lv_iload hx hb dX8_registered_41 (lv_at hl 5 rfl) ?_
        obtain ⟨hi98, hk⟩ := hk
        refine hp_ald (v := gV γ 32 0 ((a5 : Int32).toNatClampNeg)) hC hH lv_32 rfl hi98 rfl dX8_registered_43 ?_
        refine lv_bipush (v := 7) hx hb dX8_registered_44 (by decide) ?_
        refine lv_icmp_ne (tgt := 92) hx hb dX8_registered_46 (by decide) (fun c99 => ?_) (fun c99 => ?_)
        · have hk := ifn hk c99
          have hq := ifne hq c99
          exact b_92 a1 a2 a3 a4 a5 _ _ _ (lv_sub hl [0, 1, 2, 3, 4, 5] rfl) hH hS hk hq
        · have hk := ifp hk c99
          have hq := ifpe hq c99
          refine lv_aload_n hx hb dX8_registered_49 rfl (lv_at hl 0 rfl) ?_
          refine hp_get (v := .ref (kA κ 34 0)) (C := RX8) (T := TX8) (N := 32) hC inX8 hH lv_8 rfl rfl 21 (by decide) tw_943 rfl rfl dX8_registered_50 ?_
          refine lv_iload hx hb dX8_registered_53 (lv_at hl 5 rfl) ?_
          obtain ⟨hi100, hk⟩ := hk
          refine hp_ald (v := gV γ 34 0 ((a5 : Int32).toNatClampNeg)) hC hH lv_34 rfl hi100 rfl dX8_registered_55 ?_
          refine lv_iload_n hx hb dX8_registered_56 rfl (lv_at hl 2 rfl) ?_
          refine k_callS (rest := [.int (gV γ 34 0 ((a5 : Int32).toNatClampNeg))]) hC hl hH hS (c_X8_least l κ γ a2) tw_1078 tw_1079 tw_62 tw_1080 hd_X8_least ⟨Nat.le_of_ble_eq_true rfl, Nat.le_of_ble_eq_true rfl⟩ rfl rfl rfl rfl (Nat.le_of_ble_eq_true rfl) dX8_registered_57 ⟨Nat.le_of_ble_eq_true rfl, Nat.le_of_ble_eq_true rfl⟩ rfl (fun H locs hH hS => ?_)
          refine lv_icmp_lt (tgt := 92) hx hb dX8_registered_60 (by decide) (fun c101 => ?_) (fun c101 => ?_)
          · have hk := ifp hk c101
            have hq := ifpe hq c101
            exact b_92 a1 a2 a3 a4 a5 _ _ _ (lv_sub hl [0, 1, 2, 3, 4, 5] rfl) hH hS hk hq
          · have hk := ifn hk c101
            have hq := ifne hq c101
            refine lv_aload_n hx hb dX8_registered_63 rfl (lv_at hl 0 rfl) ?_
            refine hp_get (v := .ref (kA κ 35 0)) (C := RX8) (T := TX8) (N := 32) hC inX8 hH lv_8 rfl rfl 22 (by decide) tw_944 rfl rfl dX8_registered_64 ?_
            refine lv_iload hx hb dX8_registered_67 (lv_at hl 5 rfl) ?_
            obtain ⟨hi102, hk⟩ := hk
            refine hp_ald (v := gV γ 35 0 ((a5 : Int32).toNatClampNeg)) hC hH lv_35 rfl hi102 rfl dX8_registered_69 ?_
            refine lv_if_eq (tgt := 88) hx hb dX8_registered_70 (by decide) (fun c103 => ?_) (fun c103 => ?_)
            · have hk := ifp hk c103
              have hq := ifpe hq c103
              exact b_88 a1 a2 a3 a4 a5 _ _ _ (lv_sub hl [0, 1, 2, 3, 4, 5] rfl) hH hS hk hq
            · have hk := ifn hk c103
              have hq := ifne hq c103
              refine lv_iload_n hx hb dX8_registered_73 rfl (lv_at hl 2 rfl) ?_
              refine lv_if_ne (tgt := 92) hx hb dX8_registered_74 (by decide) (fun c104 => ?_) (fun c104 => ?_)
              · have hk := ifn hk c104
                have hq := ifne hq c104
                exact b_92 a1 a2 a3 a4 a5 _ _ _ (lv_sub hl [0, 1, 2, 3, 4, 5] rfl) hH hS hk hq
              · have hk := ifp hk c104
                have hq := ifpe hq c104
                refine lv_aload_n hx hb dX8_registered_77 rfl (lv_at hl 0 rfl) ?_
                refine hp_get (v := .ref (kA κ 35 0)) (C := RX8) (T := TX8) (N := 32) hC inX8 hH lv_8 rfl rfl 22 (by decide) tw_944 rfl rfl dX8_registered_78 ?_
                refine lv_iload hx hb dX8_registered_81 (lv_at hl 5 rfl) ?_
                obtain ⟨hi105, hk⟩ := hk
                refine hp_ald (v := gV γ 35 0 ((a5 : Int32).toNatClampNeg)) hC hH lv_35 rfl hi105 rfl dX8_registered_83 ?_
                refine lv_iconst (v := 1) hx hb dX8_registered_84 (by decide) ?_
                refine lv_icmp_ne (tgt := 92) hx hb dX8_registered_85 (by decide) (fun c106 => ?_) (fun c106 => ?_)
                · have hk := ifn hk c106
                  have hq := ifne hq c106
                  exact b_92 a1 a2 a3 a4 a5 _ _ _ (lv_sub hl [0, 1, 2, 3, 4, 5] rfl) hH hS hk hq
                · have hk := ifp hk c106
                  have hq := ifpe hq c106
                  exact b_88 a1 a2 a3 a4 a5 _ _ _ (lv_sub hl [0, 1, 2, 3, 4, 5] rfl) hH hS hk hq
  refine lv_aload_n hx hb dX8_registered_0 rfl (lv_at hl 0 rfl) ?_
  refine hp_get (v := .int (gV γ 8 0 4)) (C := RX8) (T := TX8) (N := 32) hC inX8 hH lv_8 rfl rfl 4 (by decide) tw_926 rfl rfl dX8_registered_1 ?_
  refine lv_iconst (v := (-1)) hx hb dX8_registered_4 (by decide) ?_
  refine lv_icmp_ne (tgt := 10) hx hb dX8_registered_5 (by decide) (fun c107 => ?_) (fun c107 => ?_)
  · have hk := ifn hk c107
    have hq := ifne hq c107
    refine lv_aload_n hx hb dX8_registered_10 rfl (lv_at hl 0 rfl) ?_
    refine hp_get (v := .ref (kA κ 22 0)) (C := RX8) (T := TX8) (N := 32) hC inX8 hH lv_8 rfl rfl 7 (by decide) tw_929 rfl rfl dX8_registered_11 ?_
    refine lv_aload_n hx hb dX8_registered_14 rfl (lv_at hl 0 rfl) ?_
    refine hp_get (v := .int (gV γ 8 0 4)) (C := RX8) (T := TX8) (N := 32) hC inX8 hH lv_8 rfl rfl 4 (by decide) tw_926 rfl rfl dX8_registered_15 ?_
    obtain ⟨hi108, hk⟩ := hk
    refine hp_ald (v := gV γ 22 0 ((gV γ 8 0 4 : Int32).toNatClampNeg)) hC hH lv_22 rfl hi108 rfl dX8_registered_18 ?_
    refine lv_istore_n (lv' := [(2, .int (gV γ 22 0 ((gV γ 8 0 4 : Int32).toNatClampNeg))), (0, .ref (kA κ 8 0)), (1, .int y1)]) hx hb dX8_registered_19 rfl hl (by decide) rfl (fun ls hl => ?_)
    refine lv_iconst (v := (-1)) hx hb dX8_registered_20 (by decide) ?_
    refine lv_istore_n (lv' := [(3, .int ((-1))), (2, .int (gV γ 22 0 ((gV γ 8 0 4 : Int32).toNatClampNeg))), (0, .ref (kA κ 8 0)), (1, .int y1)]) hx hb dX8_registered_21 rfl hl (by decide) rfl (fun ls hl => ?_)
    refine lv_iconst (v := (-1)) hx hb dX8_registered_22 (by decide) ?_
    refine lv_istore (lv' := [(4, .int ((-1))), (3, .int ((-1))), (2, .int (gV γ 22 0 ((gV γ 8 0 4 : Int32).toNatClampNeg))), (0, .ref (kA κ 8 0)), (1, .int y1)]) hx hb dX8_registered_23 hl (by decide) rfl (fun ls hl => ?_)
    refine lv_iconst (v := 0) hx hb dX8_registered_25 (by decide) ?_
    refine lv_istore (lv' := [(5, .int 0), (4, .int ((-1))), (3, .int ((-1))), (2, .int (gV γ 22 0 ((gV γ 8 0 4 : Int32).toNatClampNeg))), (0, .ref (kA κ 8 0)), (1, .int y1)]) hx hb dX8_registered_26 hl (by decide) rfl (fun ls hl => ?_)
    exact b_28 fu y1 (gV γ 22 0 ((gV γ 8 0 4 : Int32).toNatClampNeg)) ((-1)) ((-1)) 0 _ _ _ (lv_sub hl [4, 5, 3, 2, 1, 0] rfl) hH hS hk hq
  · have hk := ifp hk c107
    have hq := ifpe hq c107
    refine lv_iconst (v := (-1)) hx hb dX8_registered_8 (by decide) ?_
    subst hq
    exact kr_i hC hr hH hS rfl rfl dX8_registered_9
set_option maxRecDepth 20000 in
set_option maxHeartbeats 4000000 in
theorem c_X8_rights (l : Launch) (κ : KP) (γ : St) (y1 : Int32) (hk : ok_X8_rights y1 γ) : Met l yX8_rights [Cond.code yX8_rights cX8_rights 11 (some .int)] ({ frames := 0, cells := 0, slots := 0, locals := 0 } : Room) (va_Pc [.ref (kA κ 8 0), .int y1] (GG κ γ)) (QQ κ (((x_X8_rights y1 γ)).2) (some (.int (((x_X8_rights y1 γ)).1)))) 0 0 (AA κ) := by
  generalize hq : x_X8_rights y1 γ = res
  refine Met.ofW (cc := cX8_rights) (maxL := 11) (ret := (some .int)) (by decide) rfl ?_
  intro p e s m args below meth c s₁ B hml9 hv
  obtain ⟨rfl, hH, hK9, hB9, hX9, hZ9⟩ := hv
  have hC : CX κ cX8_rights "PhrasehallModel" 11 p l s m ([.ref (kA κ 8 0), .int y1] : List Value).toArray meth c := ⟨B.exec, B.bytes, findClass_of_methodNamed B.named, fun w hw => tw_use (List.mem_filter.mp hw).2 (State.WarmedH.refl s) (hX9.1 w hw), hK9, hX9, hZ9, hB9, hml9, B.notSynchronized⟩
  obtain ⟨hx, hb, hown, hT, -, -, -, -, hml, -⟩ := id hC
  have hr := B.returns
  have hS : va_S (AA κ) s.heap s.heap [] := va_S.rf
  have hl := lv_entry ([.ref (kA κ 8 0), .int y1]) (n := 11) (Nat.le_of_ble_eq_true rfl)
  rw [lg_entry_eq]
  generalize (lg_sl ([.ref (kA κ 8 0), .int y1]) ++ List.replicate (11 - (lg_sl ([.ref (kA κ 8 0), .int y1])).length) Slot.unset).toArray = ls at hl ⊢
  have hl : lv_has ls 11 [(0, .ref (kA κ 8 0)), (1, .int y1)] := hl
  have b_18 : ∀ (k18 : Nat) (a1 : Int32) (a2 : Int32) (a3 : Int32) (a4 : Int32) (a5 : Int32) (a6 : Int32) (γ : St) (H : Heap) (locs : List Loc) (ls : Array Slot), lv_has ls 11 [(0, .ref (kA κ 8 0)), (1, .int a1), (2, .int a2), (3, .int a3), (4, .int a4), (5, .int a5), (6, .int a6)] → HR κ γ H → va_S (AA κ) s.heap H locs → ok_X8_rights_18 k18 a1 a2 a3 a4 a5 a6 γ → x_X8_rights_18 k18 a1 a2 a3 a4 a5 a6 γ = res → W p l e (headSpec [Cond.code yX8_rights cX8_rights 11 (some .int)] ({ frames := 0, cells := 0, slots := 0, locals := 0 } : Room)).room s m ([.ref (kA κ 8 0), .int y1] : List Value).toArray below meth c H locs 0 0 (MQ below (QQ κ (res.2) (some (.int res.1))) ([.ref (kA κ 8 0), .int y1] : List Value).toArray s 0 0 (AA κ)) (F0 m 18 ls []) := by
    intro k18
    induction k18 with
    | zero =>
      intro a1 a2 a3 a4 a5 a6 γ H locs ls hl hH hS hk hq
      exact (show False from hk).elim
    | succ k18 ih_18 =>
      have b_345 : ∀ (a1 : Int32) (a2 : Int32) (a3 : Int32) (a4 : Int32) (a5 : Int32) (a6 : Int32) (γ : St) (H : Heap) (locs : List Loc) (ls : Array Slot), lv_has ls 11 [(0, .ref (kA κ 8 0)), (1, .int a1), (2, .int a2), (3, .int a3), (4, .int a4), (5, .int a5), (6, .int a6)] → HR κ γ H → va_S (AA κ) s.heap H locs → ok_X8_rights_345 (ok_X8_rights_18 k18) a1 a2 a3 a4 a5 a6 γ → x_X8_rights_345 (x_X8_rights_18 k18) a1 a2 a3 a4 a5 a6 γ = res → W p l e (headSpec [Cond.code yX8_rights cX8_rights 11 (some .int)] ({ frames := 0, cells := 0, slots := 0, locals := 0 } : Room)).room s m ([.ref (kA κ 8 0), .int y1] : List Value).toArray below meth c H locs 0 0 (MQ below (QQ κ (res.2) (some (.int res.1))) ([.ref (kA κ 8 0), .int y1] : List Value).toArray s 0 0 (AA κ)) (F0 m 345 ls []) := by
        intro a1 a2 a3 a4 a5 a6 γ H locs ls hl hH hS hk hq
        refine lv_iinc (v := a6 + 1) (lv' := [(6, .int (a6 + 1)), (0, .ref (kA κ 8 0)), (1, .int a1), (2, .int a2), (3, .int a3), (4, .int a4), (5, .int a5)]) hx hb dX8_rights_345 hl (k := 6) rfl rfl (by decide) rfl (fun ls hl => ?_)
        refine lv_goto (tgt := 18) hx hb dX8_rights_348 (by decide) ?_
        exact ih_18 a1 a2 a3 a4 a5 (a6 + 1) γ _ _ _ (lv_sub hl [1, 2, 3, 4, 5, 6, 0] rfl) hH hS hk hq
      have b_150 : ∀ (a1 : Int32) (a2 : Int32) (a3 : Int32) (a4 : Int32) (a5 : Int32) (a6 : Int32) (a7 : Int32) (a8 : Int32) (a10 : Int32) (γ : St) (H : Heap) (locs : List Loc) (ls : Array Slot), lv_has ls 11 [(0, .ref (kA κ 8 0)), (1, .int a1), (2, .int a2), (3, .int a3), (4, .int a4), (5, .int a5), (6, .int a6), (7, .int a7), (8, .int a8), (10, .int a10)] → HR κ γ H → va_S (AA κ) s.heap H locs → ok_X8_rights_150 (ok_X8_rights_18 k18) a1 a2 a3 a4 a5 a6 a7 a8 a10 γ → x_X8_rights_150 (x_X8_rights_18 k18) a1 a2 a3 a4 a5 a6 a7 a8 a10 γ = res → W p l e (headSpec [Cond.code yX8_rights cX8_rights 11 (some .int)] ({ frames := 0, cells := 0, slots := 0, locals := 0 } : Room)).room s m ([.ref (kA κ 8 0), .int y1] : List Value).toArray below meth c H locs 0 0 (MQ below (QQ κ (res.2) (some (.int res.1))) ([.ref (kA κ 8 0), .int y1] : List Value).toArray s 0 0 (AA κ)) (F0 m 150 ls []) := by
        intro a1 a2 a3 a4 a5 a6 a7 a8 a10 γ H locs ls hl hH hS hk hq
        refine lv_iload hx hb dX8_rights_150 (lv_at hl 8 rfl) ?_
        refine lv_if_ne (tgt := 345) hx hb dX8_rights_152 (by decide) (fun c91 => ?_) (fun c91 => ?_)
        · have hk := ifn hk c91
          have hq := ifne hq c91
          exact b_345 a1 a2 a3 a4 a5 a6 γ _ _ _ (lv_sub hl [0, 1, 2, 3, 4, 5, 6] rfl) hH hS hk hq
        · have hk := ifp hk c91
          have hq := ifpe hq c91
          refine lv_aload_n hx hb dX8_rights_155 rfl (lv_at hl 0 rfl) ?_
          refine lv_iload hx hb dX8_rights_156 (lv_at hl 7 rfl) ?_
          refine hp_put (v := .int a7) (C := RX8) (T := TX8) (N := 32) hC inX8 tyX8_ok nmX8 hH lv_8 rfl hS rfl 30 (by decide) tw_952 rfl rfl rfl rfl (Nat.le_of_ble_eq_true rfl) (sV γ 8 0 30 a7) (pe_8_30 _ _ 0 a7) (fun _ _ _ h => cel_sV h) (WT_sV hH.wt) dX8_rights_158 (fun H locs hH hS => ?_)
          refine lv_iconst (v := 0) hx hb dX8_rights_161 (by decide) ?_
          refine lv_istore_n (lv' := [(2, .int 0), (0, .ref (kA κ 8 0)), (1, .int a1), (3, .int a3), (4, .int a4), (5, .int a5), (6, .int a6), (7, .int a7), (8, .int a8), (10, .int a10)]) hx hb dX8_rights_162 rfl hl (by decide) rfl (fun ls hl => ?_)
          refine lv_iload hx hb dX8_rights_163 (lv_at hl 9 rfl) ?_
          refine lv_istore_n (lv' := [(3, .int a10), (2, .int 0), (0, .ref (kA κ 8 0)), (1, .int a1), (4, .int a4), (5, .int a5), (6, .int a6), (7, .int a7), (8, .int a8), (10, .int a10)]) hx hb dX8_rights_165 rfl hl (by decide) rfl (fun ls hl => ?_)
          refine lv_goto (tgt := 345) hx hb dX8_rights_166 (by decide) ?_
          exact b_345 a1 0 a10 a4 a5 a6 (sV γ 8 0 30 a7) _ _ _ (lv_sub hl [2, 3, 1, 0, 4, 5, 6] rfl) hH hS hk hq
      have b_195 : ∀ (a1 : Int32) (a2 : Int32) (a3 : Int32) (a4 : Int32) (a5 : Int32) (a6 : Int32) (s0 : Int32) (γ : St) (H : Heap) (locs : List Loc) (ls : Array Slot), lv_has ls 11 [(0, .ref (kA κ 8 0)), (1, .int a1), (2, .int a2), (3, .int a3), (4, .int a4), (5, .int a5), (6, .int a6)] → HR κ γ H → va_S (AA κ) s.heap H locs → ok_X8_rights_195 (ok_X8_rights_18 k18) a1 a2 a3 a4 a5 a6 s0 γ → x_X8_rights_195 (x_X8_rights_18 k18) a1 a2 a3 a4 a5 a6 s0 γ = res → W p l e (headSpec [Cond.code yX8_rights cX8_rights 11 (some .int)] ({ frames := 0, cells := 0, slots := 0, locals := 0 } : Room)).room s m ([.ref (kA κ 8 0), .int y1] : List Value).toArray below meth c H locs 0 0 (MQ below (QQ κ (res.2) (some (.int res.1))) ([.ref (kA κ 8 0), .int y1] : List Value).toArray s 0 0 (AA κ)) (F0 m 195 ls [.int s0, .ref (kA κ 8 0)]) := by
        intro a1 a2 a3 a4 a5 a6 s0 γ H locs ls hl hH hS hk hq
        refine hp_put (v := .int s0) (C := RX8) (T := TX8) (N := 32) hC inX8 tyX8_ok nmX8 hH lv_8 rfl hS rfl 30 (by decide) tw_952 rfl rfl rfl rfl (Nat.le_of_ble_eq_true rfl) (sV γ 8 0 30 s0) (pe_8_30 _ _ 0 s0) (fun _ _ _ h => cel_sV h) (WT_sV hH.wt) dX8_rights_195 (fun H locs hH hS => ?_)
        refine lv_goto (tgt := 345) hx hb dX8_rights_198 (by decide) ?_
        exact b_345 a1 a2 a3 a4 a5 a6 (sV γ 8 0 30 s0) _ _ _ (lv_sub hl [0, 1, 2, 3, 4, 5, 6] rfl) hH hS hk hq
      have b_179 : ∀ (a1 : Int32) (a3 : Int32) (a4 : Int32) (a5 : Int32) (a6 : Int32) (a7 : Int32) (a9 : Int32) (s0 : Int32) (γ : St) (H : Heap) (locs : List Loc) (ls : Array Slot), lv_has ls 11 [(0, .ref (kA κ 8 0)), (1, .int a1), (3, .int a3), (4, .int a4), (5, .int a5), (6, .int a6), (7, .int a7), (9, .int a9)] → HR κ γ H → va_S (AA κ) s.heap H locs → ok_X8_rights_179 (ok_X8_rights_18 k18) a1 a3 a4 a5 a6 a7 a9 s0 γ → x_X8_rights_179 (x_X8_rights_18 k18) a1 a3 a4 a5 a6 a7 a9 s0 γ = res → W p l e (headSpec [Cond.code yX8_rights cX8_rights 11 (some .int)] ({ frames := 0, cells := 0, slots := 0, locals := 0 } : Room)).room s m ([.ref (kA κ 8 0), .int y1] : List Value).toArray below meth c H locs 0 0 (MQ below (QQ κ (res.2) (some (.int res.1))) ([.ref (kA κ 8 0), .int y1] : List Value).toArray s 0 0 (AA κ)) (F0 m 179 ls [.int s0]) := by
        intro a1 a3 a4 a5 a6 a7 a9 s0 γ H locs ls hl hH hS hk hq
        refine lv_istore_n (lv' := [(2, .int s0), (0, .ref (kA κ 8 0)), (1, .int a1), (3, .int a3), (4, .int a4), (5, .int a5), (6, .int a6), (7, .int a7), (9, .int a9)]) hx hb dX8_rights_179 rfl hl (by decide) rfl (fun ls hl => ?_)
        refine lv_aload_n hx hb dX8_rights_180 rfl (lv_at hl 1 rfl) ?_
        refine lv_iload hx hb dX8_rights_181 (lv_at hl 8 rfl) ?_
        refine lv_if_eq (tgt := 191) hx hb dX8_rights_183 (by decide) (fun c92 => ?_) (fun c92 => ?_)
        · have hk := ifp hk c92
          have hq := ifpe hq c92
          refine lv_aload_n hx hb dX8_rights_191 rfl (lv_at hl 1 rfl) ?_
          refine hp_get (v := .int (gV γ 8 0 30)) (C := RX8) (T := TX8) (N := 32) hC inX8 hH lv_8 rfl rfl 30 (by decide) tw_952 rfl rfl dX8_rights_192 ?_
          exact b_195 a1 s0 a3 a4 a5 a6 (gV γ 8 0 30) γ _ _ _ (lv_sub hl [1, 2, 0, 3, 4, 5, 6] rfl) hH hS hk hq
        · have hk := ifn hk c92
          have hq := ifne hq c92
          refine lv_iload hx hb dX8_rights_186 (lv_at hl 7 rfl) ?_
          refine lv_goto (tgt := 195) hx hb dX8_rights_188 (by decide) ?_
          exact b_195 a1 s0 a3 a4 a5 a6 a7 γ _ _ _ (lv_sub hl [1, 2, 0, 3, 4, 5, 6] rfl) hH hS hk hq
      have b_339 : ∀ (a1 : Int32) (a2 : Int32) (a3 : Int32) (a4 : Int32) (a5 : Int32) (a6 : Int32) (s0 : Int32) (γ : St) (H : Heap) (locs : List Loc) (ls : Array Slot), lv_has ls 11 [(0, .ref (kA κ 8 0)), (1, .int a1), (2, .int a2), (3, .int a3), (4, .int a4), (5, .int a5), (6, .int a6)] → HR κ γ H → va_S (AA κ) s.heap H locs → ok_X8_rights_339 (ok_X8_rights_18 k18) a1 a2 a3 a4 a5 a6 s0 γ → x_X8_rights_339 (x_X8_rights_18 k18) a1 a2 a3 a4 a5 a6 s0 γ = res → W p l e (headSpec [Cond.code yX8_rights cX8_rights 11 (some .int)] ({ frames := 0, cells := 0, slots := 0, locals := 0 } : Room)).room s m ([.ref (kA κ 8 0), .int y1] : List Value).toArray below meth c H locs 0 0 (MQ below (QQ κ (res.2) (some (.int res.1))) ([.ref (kA κ 8 0), .int y1] : List Value).toArray s 0 0 (AA κ)) (F0 m 339 ls [.int s0, .ref (kA κ 8 0)]) := by
        intro a1 a2 a3 a4 a5 a6 s0 γ H locs ls hl hH hS hk hq
        refine hp_put (v := .int s0) (C := RX8) (T := TX8) (N := 32) hC inX8 tyX8_ok nmX8 hH lv_8 rfl hS rfl 30 (by decide) tw_952 rfl rfl rfl rfl (Nat.le_of_ble_eq_true rfl) (sV γ 8 0 30 s0) (pe_8_30 _ _ 0 s0) (fun _ _ _ h => cel_sV h) (WT_sV hH.wt) dX8_rights_339 (fun H locs hH hS => ?_)
        refine lv_goto (tgt := 345) hx hb dX8_rights_342 (by decide) ?_
        exact b_345 a1 a2 a3 a4 a5 a6 (sV γ 8 0 30 s0) _ _ _ (lv_sub hl [0, 1, 2, 3, 4, 5, 6] rfl) hH hS hk hq
      have b_64 : ∀ (a1 : Int32) (a2 : Int32) (a3 : Int32) (a4 : Int32) (a5 : Int32) (a6 : Int32) (a7 : Int32) (a8 : Int32) (s0 : Int32) (γ : St) (H : Heap) (locs : List Loc) (ls : Array Slot), lv_has ls 11 [(0, .ref (kA κ 8 0)), (1, .int a1), (2, .int a2), (3, .int a3), (4, .int a4), (5, .int a5), (6, .int a6), (7, .int a7), (8, .int a8)] → HR κ γ H → va_S (AA κ) s.heap H locs → ok_X8_rights_64 (ok_X8_rights_18 k18) a1 a2 a3 a4 a5 a6 a7 a8 s0 γ → x_X8_rights_64 (x_X8_rights_18 k18) a1 a2 a3 a4 a5 a6 a7 a8 s0 γ = res → W p l e (headSpec [Cond.code yX8_rights cX8_rights 11 (some .int)] ({ frames := 0, cells := 0, slots := 0, locals := 0 } : Room)).room s m ([.ref (kA κ 8 0), .int y1] : List Value).toArray below meth c H locs 0 0 (MQ below (QQ κ (res.2) (some (.int res.1))) ([.ref (kA κ 8 0), .int y1] : List Value).toArray s 0 0 (AA κ)) (F0 m 64 ls [.int s0]) := by
        intro a1 a2 a3 a4 a5 a6 a7 a8 s0 γ H locs ls hl hH hS hk hq
        refine lv_istore (lv' := [(9, .int s0), (0, .ref (kA κ 8 0)), (1, .int a1), (2, .int a2), (3, .int a3), (4, .int a4), (5, .int a5), (6, .int a6), (7, .int a7), (8, .int a8)]) hx hb dX8_rights_64 hl (by decide) rfl (fun ls hl => ?_)
        refine lv_aload_n hx hb dX8_rights_66 rfl (lv_at hl 1 rfl) ?_
        refine hp_get (v := .ref (kA κ 33 0)) (C := RX8) (T := TX8) (N := 32) hC inX8 hH lv_8 rfl rfl 20 (by decide) tw_942 rfl rfl dX8_rights_67 ?_
        refine lv_iload hx hb dX8_rights_70 (lv_at hl 7 rfl) ?_
        obtain ⟨hi93, hk⟩ := hk
        refine hp_ald (v := gV γ 33 0 ((a6 : Int32).toNatClampNeg)) hC hH lv_33 rfl hi93 rfl dX8_rights_72 ?_
        refine lv_istore (lv' := [(10, .int (gV γ 33 0 ((a6 : Int32).toNatClampNeg))), (9, .int s0), (0, .ref (kA κ 8 0)), (1, .int a1), (2, .int a2), (3, .int a3), (4, .int a4), (5, .int a5), (6, .int a6), (7, .int a7), (8, .int a8)]) hx hb dX8_rights_73 hl (by decide) rfl (fun ls hl => ?_)
        refine lv_aload_n hx hb dX8_rights_75 rfl (lv_at hl 2 rfl) ?_
        refine hp_get (v := .ref (kA κ 32 0)) (C := RX8) (T := TX8) (N := 32) hC inX8 hH lv_8 rfl rfl 19 (by decide) tw_941 rfl rfl dX8_rights_76 ?_
        refine lv_iload hx hb dX8_rights_79 (lv_at hl 8 rfl) ?_
        obtain ⟨hi94, hk⟩ := hk
        refine hp_ald (v := gV γ 32 0 ((a6 : Int32).toNatClampNeg)) hC hH lv_32 rfl hi94 rfl dX8_rights_81 ?_
        by_cases c95 : (gV γ 32 0 ((a6 : Int32).toNatClampNeg)) = 0
        · have hk := ifp hk c95
          have hq := ifpe hq c95
          refine k_tabI (j := 0) (tgt := 124) c95 hx hb dX8_rights_82 (by decide) (by decide) rfl (by decide) ?_
          refine lv_iload hx hb dX8_rights_124 (lv_at hl 10 rfl) ?_
          refine lv_if_eq (tgt := 150) hx hb dX8_rights_126 (by decide) (fun c96 => ?_) (fun c96 => ?_)
          · have hk := ifp hk c96
            have hq := ifpe hq c96
            exact b_150 a1 a2 a3 a4 a5 a6 a7 a8 (gV γ 33 0 ((a6 : Int32).toNatClampNeg)) γ _ _ _ (lv_sub hl [2, 3, 4, 5, 6, 7, 8, 9, 10, 0] rfl) hH hS hk hq
          · have hk := ifn hk c96
            have hq := ifne hq c96
            refine lv_iload_n hx hb dX8_rights_129 rfl (lv_at hl 4 rfl) ?_
            refine lv_if_ne (tgt := 150) hx hb dX8_rights_130 (by decide) (fun c97 => ?_) (fun c97 => ?_)
            · have hk := ifn hk c97
              have hq := ifne hq c97
              exact b_150 a1 a2 a3 a4 a5 a6 a7 a8 (gV γ 33 0 ((a6 : Int32).toNatClampNeg)) γ _ _ _ (lv_sub hl [2, 3, 4, 5, 6, 7, 8, 9, 10, 0] rfl) hH hS hk hq
            · have hk := ifp hk c97
              have hq := ifpe hq c97
              refine lv_iload hx hb dX8_rights_133 (lv_at hl 0 rfl) ?_
              refine lv_iload_n hx hb dX8_rights_135 rfl (lv_at hl 5 rfl) ?_
              refine lv_isub hx hb dX8_rights_136 ?_
              refine lv_bipush (v := 40) hx hb dX8_rights_137 (by decide) ?_
              refine lv_icmp_gt (tgt := 150) hx hb dX8_rights_139 (by decide) (fun c98 => ?_) (fun c98 => ?_)
              · have hk := ifp hk c98
                have hq := ifpe hq c98
                exact b_150 a1 a2 a3 a4 a5 a6 a7 a8 (gV γ 33 0 ((a6 : Int32).toNatClampNeg)) γ _ _ _ (lv_sub hl [2, 3, 4, 5, 6, 7, 8, 9, 10, 0] rfl) hH hS hk hq
              · have hk := ifn hk c98
                have hq := ifne hq c98
                refine lv_aload_n hx hb dX8_rights_142 rfl (lv_at hl 2 rfl) ?_
                refine lv_iconst (v := (-1)) hx hb dX8_rights_143 (by decide) ?_
                refine hp_put (v := .int ((-1))) (C := RX8) (T := TX8) (N := 32) hC inX8 tyX8_ok nmX8 hH lv_8 rfl hS rfl 30 (by decide) tw_952 rfl rfl rfl rfl (Nat.le_of_ble_eq_true rfl) (sV γ 8 0 30 ((-1))) (pe_8_30 _ _ 0 ((-1))) (fun _ _ _ h => cel_sV h) (WT_sV hH.wt) dX8_rights_144 (fun H locs hH hS => ?_)
                refine lv_goto (tgt := 345) hx hb dX8_rights_147 (by decide) ?_
                exact b_345 a1 a2 a3 a4 a5 a6 (sV γ 8 0 30 ((-1))) _ _ _ (lv_sub hl [2, 3, 4, 5, 6, 7, 8] rfl) hH hS hk hq
        have hk := ifn hk c95
        have hq := ifne hq c95
        by_cases c99 : (gV γ 32 0 ((a6 : Int32).toNatClampNeg)) = 1
        · have hk := ifp hk c99
          have hq := ifpe hq c99
          refine k_tabI (j := 1) (tgt := 169) c99 hx hb dX8_rights_82 (by decide) (by decide) rfl (by decide) ?_
          refine lv_iload hx hb dX8_rights_169 (lv_at hl 1 rfl) ?_
          refine lv_if_eq (tgt := 178) hx hb dX8_rights_171 (by decide) (fun c100 => ?_) (fun c100 => ?_)
          · have hk := ifp hk c100
            have hq := ifpe hq c100
            refine lv_iload_n hx hb dX8_rights_178 rfl (lv_at hl 4 rfl) ?_
            exact b_179 a1 a3 a4 a5 a6 a7 s0 a2 γ _ _ _ (lv_sub hl [2, 3, 5, 6, 7, 8, 9, 1] rfl) hH hS hk hq
          · have hk := ifn hk c100
            have hq := ifne hq c100
            refine lv_iconst (v := 1) hx hb dX8_rights_174 (by decide) ?_
            refine lv_goto (tgt := 179) hx hb dX8_rights_175 (by decide) ?_
            exact b_179 a1 a3 a4 a5 a6 a7 s0 1 γ _ _ _ (lv_sub hl [2, 3, 5, 6, 7, 8, 9, 1] rfl) hH hS hk hq
        have hk := ifn hk c99
        have hq := ifne hq c99
        by_cases c101 : (gV γ 32 0 ((a6 : Int32).toNatClampNeg)) = 2
        · have hk := ifp hk c101
          have hq := ifpe hq c101
          refine k_tabI (j := 2) (tgt := 201) c101 hx hb dX8_rights_82 (by decide) (by decide) rfl (by decide) ?_
          refine lv_iload hx hb dX8_rights_201 (lv_at hl 10 rfl) ?_
          refine lv_if_eq (tgt := 345) hx hb dX8_rights_203 (by decide) (fun c102 => ?_) (fun c102 => ?_)
          · have hk := ifp hk c102
            have hq := ifpe hq c102
            exact b_345 a1 a2 a3 a4 a5 a6 γ _ _ _ (lv_sub hl [2, 3, 4, 5, 6, 7, 8] rfl) hH hS hk hq
          · have hk := ifn hk c102
            have hq := ifne hq c102
            refine lv_iload_n hx hb dX8_rights_206 rfl (lv_at hl 4 rfl) ?_
            refine lv_iconst (v := 1) hx hb dX8_rights_207 (by decide) ?_
            refine lv_icmp_ne (tgt := 345) hx hb dX8_rights_208 (by decide) (fun c103 => ?_) (fun c103 => ?_)
            · have hk := ifn hk c103
              have hq := ifne hq c103
              exact b_345 a1 a2 a3 a4 a5 a6 γ _ _ _ (lv_sub hl [2, 3, 4, 5, 6, 7, 8] rfl) hH hS hk hq
            · have hk := ifp hk c103
              have hq := ifpe hq c103
              refine lv_aload_n hx hb dX8_rights_211 rfl (lv_at hl 2 rfl) ?_
              refine lv_iload hx hb dX8_rights_212 (lv_at hl 9 rfl) ?_
              refine hp_put (v := .int a7) (C := RX8) (T := TX8) (N := 32) hC inX8 tyX8_ok nmX8 hH lv_8 rfl hS rfl 30 (by decide) tw_952 rfl rfl rfl rfl (Nat.le_of_ble_eq_true rfl) (sV γ 8 0 30 a7) (pe_8_30 _ _ 0 a7) (fun _ _ _ h => cel_sV h) (WT_sV hH.wt) dX8_rights_214 (fun H locs hH hS => ?_)
              refine lv_iconst (v := 0) hx hb dX8_rights_217 (by decide) ?_
              refine lv_istore_n (lv' := [(2, .int 0), (10, .int (gV γ 33 0 ((a6 : Int32).toNatClampNeg))), (9, .int s0), (0, .ref (kA κ 8 0)), (1, .int a1), (3, .int a3), (4, .int a4), (5, .int a5), (6, .int a6), (7, .int a7), (8, .int a8)]) hx hb dX8_rights_218 rfl hl (by decide) rfl (fun ls hl => ?_)
              refine lv_iload hx hb dX8_rights_219 (lv_at hl 1 rfl) ?_
              refine lv_istore_n (lv' := [(3, .int (gV γ 33 0 ((a6 : Int32).toNatClampNeg))), (2, .int 0), (10, .int (gV γ 33 0 ((a6 : Int32).toNatClampNeg))), (9, .int s0), (0, .ref (kA κ 8 0)), (1, .int a1), (4, .int a4), (5, .int a5), (6, .int a6), (7, .int a7), (8, .int a8)]) hx hb dX8_rights_221 rfl hl (by decide) rfl (fun ls hl => ?_)
              refine lv_goto (tgt := 345) hx hb dX8_rights_222 (by decide) ?_
              exact b_345 a1 0 (gV γ 33 0 ((a6 : Int32).toNatClampNeg)) a4 a5 a6 (sV γ 8 0 30 a7) _ _ _ (lv_sub hl [4, 5, 1, 0, 6, 7, 8] rfl) hH hS hk hq
        have hk := ifn hk c101
        have hq := ifne hq c101
        by_cases c104 : (gV γ 32 0 ((a6 : Int32).toNatClampNeg)) = 3
        · have hk := ifp hk c104
          have hq := ifpe hq c104
          refine k_tabI (j := 3) (tgt := 225) c104 hx hb dX8_rights_82 (by decide) (by decide) rfl (by decide) ?_
          refine lv_iload hx hb dX8_rights_225 (lv_at hl 10 rfl) ?_
          refine lv_if_eq (tgt := 345) hx hb dX8_rights_227 (by decide) (fun c105 => ?_) (fun c105 => ?_)
          · have hk := ifp hk c105
            have hq := ifpe hq c105
            exact b_345 a1 a2 a3 a4 a5 a6 γ _ _ _ (lv_sub hl [2, 3, 4, 5, 6, 7, 8] rfl) hH hS hk hq
          · have hk := ifn hk c105
            have hq := ifne hq c105
            refine lv_iload_n hx hb dX8_rights_230 rfl (lv_at hl 4 rfl) ?_
            refine lv_iconst (v := 1) hx hb dX8_rights_231 (by decide) ?_
            refine lv_icmp_eq (tgt := 345) hx hb dX8_rights_232 (by decide) (fun c106 => ?_) (fun c106 => ?_)
            · have hk := ifp hk c106
              have hq := ifpe hq c106
              exact b_345 a1 a2 a3 a4 a5 a6 γ _ _ _ (lv_sub hl [2, 3, 4, 5, 6, 7, 8] rfl) hH hS hk hq
            · have hk := ifn hk c106
              have hq := ifne hq c106
              refine lv_aload_n hx hb dX8_rights_235 rfl (lv_at hl 2 rfl) ?_
              refine lv_iconst (v := (-1)) hx hb dX8_rights_236 (by decide) ?_
              refine hp_put (v := .int ((-1))) (C := RX8) (T := TX8) (N := 32) hC inX8 tyX8_ok nmX8 hH lv_8 rfl hS rfl 30 (by decide) tw_952 rfl rfl rfl rfl (Nat.le_of_ble_eq_true rfl) (sV γ 8 0 30 ((-1))) (pe_8_30 _ _ 0 ((-1))) (fun _ _ _ h => cel_sV h) (WT_sV hH.wt) dX8_rights_237 (fun H locs hH hS => ?_)
              refine lv_iload hx hb dX8_rights_240 (lv_at hl 9 rfl) ?_
              refine lv_istore (lv' := [(4, .int a7), (10, .int (gV γ 33 0 ((a6 : Int32).toNatClampNeg))), (9, .int s0), (0, .ref (kA κ 8 0)), (1, .int a1), (2, .int a2), (3, .int a3), (5, .int a5), (6, .int a6), (7, .int a7), (8, .int a8)]) hx hb dX8_rights_242 hl (by decide) rfl (fun ls hl => ?_)
              refine lv_iload hx hb dX8_rights_244 (lv_at hl 1 rfl) ?_
              refine lv_istore (lv' := [(5, .int (gV γ 33 0 ((a6 : Int32).toNatClampNeg))), (4, .int a7), (10, .int (gV γ 33 0 ((a6 : Int32).toNatClampNeg))), (9, .int s0), (0, .ref (kA κ 8 0)), (1, .int a1), (2, .int a2), (3, .int a3), (6, .int a6), (7, .int a7), (8, .int a8)]) hx hb dX8_rights_246 hl (by decide) rfl (fun ls hl => ?_)
              refine lv_goto (tgt := 345) hx hb dX8_rights_248 (by decide) ?_
              exact b_345 a1 a2 a3 a7 (gV γ 33 0 ((a6 : Int32).toNatClampNeg)) a6 (sV γ 8 0 30 ((-1))) _ _ _ (lv_sub hl [4, 5, 6, 7, 1, 0, 8] rfl) hH hS hk hq
        have hk := ifn hk c104
        have hq := ifne hq c104
        by_cases c107 : (gV γ 32 0 ((a6 : Int32).toNatClampNeg)) = 4
        · have hk := ifp hk c107
          have hq := ifpe hq c107
          refine k_tabI (j := 4) (tgt := 251) c107 hx hb dX8_rights_82 (by decide) (by decide) rfl (by decide) ?_
          refine lv_iload hx hb dX8_rights_251 (lv_at hl 1 rfl) ?_
          refine lv_if_eq (tgt := 345) hx hb dX8_rights_253 (by decide) (fun c108 => ?_) (fun c108 => ?_)
          · have hk := ifp hk c108
            have hq := ifpe hq c108
            exact b_345 a1 a2 a3 a4 a5 a6 γ _ _ _ (lv_sub hl [2, 3, 4, 5, 6, 7, 8] rfl) hH hS hk hq
          · have hk := ifn hk c108
            have hq := ifne hq c108
            refine lv_iload hx hb dX8_rights_256 (lv_at hl 6 rfl) ?_
            refine lv_iload hx hb dX8_rights_258 (lv_at hl 9 rfl) ?_
            refine lv_icmp_ne (tgt := 345) hx hb dX8_rights_260 (by decide) (fun c109 => ?_) (fun c109 => ?_)
            · have hk := ifn hk c109
              have hq := ifne hq c109
              exact b_345 a1 a2 a3 a4 a5 a6 γ _ _ _ (lv_sub hl [2, 3, 4, 5, 6, 7, 8] rfl) hH hS hk hq
            · have hk := ifp hk c109
              have hq := ifpe hq c109
              refine lv_iload hx hb dX8_rights_263 (lv_at hl 0 rfl) ?_
              refine lv_iload hx hb dX8_rights_265 (lv_at hl 7 rfl) ?_
              refine lv_isub hx hb dX8_rights_267 ?_
              refine lv_sipush (v := 300) hx hb dX8_rights_268 (by decide) ?_
              refine lv_icmp_gt (tgt := 345) hx hb dX8_rights_271 (by decide) (fun c110 => ?_) (fun c110 => ?_)
              · have hk := ifp hk c110
                have hq := ifpe hq c110
                exact b_345 a1 a2 a3 a4 a5 a6 γ _ _ _ (lv_sub hl [2, 3, 4, 5, 6, 7, 8] rfl) hH hS hk hq
              · have hk := ifn hk c110
                have hq := ifne hq c110
                refine lv_aload_n hx hb dX8_rights_274 rfl (lv_at hl 2 rfl) ?_
                refine lv_iload hx hb dX8_rights_275 (lv_at hl 9 rfl) ?_
                refine hp_put (v := .int a7) (C := RX8) (T := TX8) (N := 32) hC inX8 tyX8_ok nmX8 hH lv_8 rfl hS rfl 30 (by decide) tw_952 rfl rfl rfl rfl (Nat.le_of_ble_eq_true rfl) (sV γ 8 0 30 a7) (pe_8_30 _ _ 0 a7) (fun _ _ _ h => cel_sV h) (WT_sV hH.wt) dX8_rights_277 (fun H locs hH hS => ?_)
                refine lv_iconst (v := 4) hx hb dX8_rights_280 (by decide) ?_
                refine lv_istore_n (lv' := [(2, .int 4), (10, .int (gV γ 33 0 ((a6 : Int32).toNatClampNeg))), (9, .int s0), (0, .ref (kA κ 8 0)), (1, .int a1), (3, .int a3), (4, .int a4), (5, .int a5), (6, .int a6), (7, .int a7), (8, .int a8)]) hx hb dX8_rights_281 rfl hl (by decide) rfl (fun ls hl => ?_)
                refine lv_goto (tgt := 345) hx hb dX8_rights_282 (by decide) ?_
                exact b_345 a1 4 a3 a4 a5 a6 (sV γ 8 0 30 a7) _ _ _ (lv_sub hl [3, 4, 0, 5, 6, 7, 8] rfl) hH hS hk hq
        have hk := ifn hk c107
        have hq := ifne hq c107
        by_cases c111 : (gV γ 32 0 ((a6 : Int32).toNatClampNeg)) = 5
        · have hk := ifp hk c111
          have hq := ifpe hq c111
          refine k_tabI (j := 5) (tgt := 285) c111 hx hb dX8_rights_82 (by decide) (by decide) rfl (by decide) ?_
          refine lv_iload hx hb dX8_rights_285 (lv_at hl 1 rfl) ?_
          refine lv_if_eq (tgt := 345) hx hb dX8_rights_287 (by decide) (fun c112 => ?_) (fun c112 => ?_)
          · have hk := ifp hk c112
            have hq := ifpe hq c112
            exact b_345 a1 a2 a3 a4 a5 a6 γ _ _ _ (lv_sub hl [2, 3, 4, 5, 6, 7, 8] rfl) hH hS hk hq
          · have hk := ifn hk c112
            have hq := ifne hq c112
            refine lv_iload hx hb dX8_rights_290 (lv_at hl 6 rfl) ?_
            refine lv_iconst (v := 1) hx hb dX8_rights_292 (by decide) ?_
            refine lv_iload hx hb dX8_rights_293 (lv_at hl 9 rfl) ?_
            refine lv_isub hx hb dX8_rights_295 ?_
            refine lv_icmp_ne (tgt := 345) hx hb dX8_rights_296 (by decide) (fun c113 => ?_) (fun c113 => ?_)
            · have hk := ifn hk c113
              have hq := ifne hq c113
              exact b_345 a1 a2 a3 a4 a5 a6 γ _ _ _ (lv_sub hl [2, 3, 4, 5, 6, 7, 8] rfl) hH hS hk hq
            · have hk := ifp hk c113
              have hq := ifpe hq c113
              refine lv_iload hx hb dX8_rights_299 (lv_at hl 0 rfl) ?_
              refine lv_iload hx hb dX8_rights_301 (lv_at hl 7 rfl) ?_
              refine lv_isub hx hb dX8_rights_303 ?_
              refine lv_sipush (v := 300) hx hb dX8_rights_304 (by decide) ?_
              refine lv_icmp_le (tgt := 345) hx hb dX8_rights_307 (by decide) (fun c114 => ?_) (fun c114 => ?_)
              · have hk := ifp hk c114
                have hq := ifpe hq c114
                exact b_345 a1 a2 a3 a4 a5 a6 γ _ _ _ (lv_sub hl [2, 3, 4, 5, 6, 7, 8] rfl) hH hS hk hq
              · have hk := ifn hk c114
                have hq := ifne hq c114
                refine lv_aload_n hx hb dX8_rights_310 rfl (lv_at hl 2 rfl) ?_
                refine lv_iload hx hb dX8_rights_311 (lv_at hl 9 rfl) ?_
                refine hp_put (v := .int a7) (C := RX8) (T := TX8) (N := 32) hC inX8 tyX8_ok nmX8 hH lv_8 rfl hS rfl 30 (by decide) tw_952 rfl rfl rfl rfl (Nat.le_of_ble_eq_true rfl) (sV γ 8 0 30 a7) (pe_8_30 _ _ 0 a7) (fun _ _ _ h => cel_sV h) (WT_sV hH.wt) dX8_rights_313 (fun H locs hH hS => ?_)
                refine lv_iconst (v := 5) hx hb dX8_rights_316 (by decide) ?_
                refine lv_istore_n (lv' := [(2, .int 5), (10, .int (gV γ 33 0 ((a6 : Int32).toNatClampNeg))), (9, .int s0), (0, .ref (kA κ 8 0)), (1, .int a1), (3, .int a3), (4, .int a4), (5, .int a5), (6, .int a6), (7, .int a7), (8, .int a8)]) hx hb dX8_rights_317 rfl hl (by decide) rfl (fun ls hl => ?_)
                refine lv_goto (tgt := 345) hx hb dX8_rights_318 (by decide) ?_
                exact b_345 a1 5 a3 a4 a5 a6 (sV γ 8 0 30 a7) _ _ _ (lv_sub hl [3, 4, 0, 5, 6, 7, 8] rfl) hH hS hk hq
        have hk := ifn hk c111
        have hq := ifne hq c111
        by_cases c115 : (gV γ 32 0 ((a6 : Int32).toNatClampNeg)) = 6
        · have hk := ifp hk c115
          have hq := ifpe hq c115
          refine k_tabI (j := 6) (tgt := 321) c115 hx hb dX8_rights_82 (by decide) (by decide) rfl (by decide) ?_
          refine lv_aload_n hx hb dX8_rights_321 rfl (lv_at hl 2 rfl) ?_
          refine lv_aload_n hx hb dX8_rights_322 rfl (lv_at hl 2 rfl) ?_
          refine hp_get (v := .int (gV γ 8 0 30)) (C := RX8) (T := TX8) (N := 32) hC inX8 hH lv_8 rfl rfl 30 (by decide) tw_952 rfl rfl dX8_rights_323 ?_
          refine lv_iload hx hb dX8_rights_326 (lv_at hl 9 rfl) ?_
          refine lv_icmp_ne (tgt := 335) hx hb dX8_rights_328 (by decide) (fun c116 => ?_) (fun c116 => ?_)
          · have hk := ifn hk c116
            have hq := ifne hq c116
            refine lv_aload_n hx hb dX8_rights_335 rfl (lv_at hl 2 rfl) ?_
            refine hp_get (v := .int (gV γ 8 0 30)) (C := RX8) (T := TX8) (N := 32) hC inX8 hH lv_8 rfl rfl 30 (by decide) tw_952 rfl rfl dX8_rights_336 ?_
            exact b_339 a1 a2 a3 a4 a5 a6 (gV γ 8 0 30) γ _ _ _ (lv_sub hl [2, 3, 4, 5, 6, 7, 8] rfl) hH hS hk hq
          · have hk := ifp hk c116
            have hq := ifpe hq c116
            refine lv_iconst (v := (-1)) hx hb dX8_rights_331 (by decide) ?_
            refine lv_goto (tgt := 339) hx hb dX8_rights_332 (by decide) ?_
            exact b_339 a1 a2 a3 a4 a5 a6 ((-1)) γ _ _ _ (lv_sub hl [2, 3, 4, 5, 6, 7, 8] rfl) hH hS hk hq
        have hk := ifn hk c115
        have hq := ifne hq c115
        refine lv_tableOut (tgt := 345) hx hb dX8_rights_82 (by have e0 := i32_ne (n := 0) (by decide) c95; have e1 := i32_ne (n := 1) (by decide) c99; have e2 := i32_ne (n := 2) (by decide) c101; have e3 := i32_ne (n := 3) (by decide) c104; have e4 := i32_ne (n := 4) (by decide) c107; have e5 := i32_ne (n := 5) (by decide) c111; have e6 := i32_ne (n := 6) (by decide) c115; omega) (by decide) ?_
        exact b_345 a1 a2 a3 a4 a5 a6 γ _ _ _ (lv_sub hl [2, 3, 4, 5, 6, 7, 8] rfl) hH hS hk hq
      have b_49 : ∀ (a1 : Int32) (a2 : Int32) (a3 : Int32) (a4 : Int32) (a5 : Int32) (a6 : Int32) (a7 : Int32) (s0 : Int32) (γ : St) (H : Heap) (locs : List Loc) (ls : Array Slot), lv_has ls 11 [(0, .ref (kA κ 8 0)), (1, .int a1), (2, .int a2), (3, .int a3), (4, .int a4), (5, .int a5), (6, .int a6), (7, .int a7)] → HR κ γ H → va_S (AA κ) s.heap H locs → ok_X8_rights_49 (ok_X8_rights_18 k18) a1 a2 a3 a4 a5 a6 a7 s0 γ → x_X8_rights_49 (x_X8_rights_18 k18) a1 a2 a3 a4 a5 a6 a7 s0 γ = res → W p l e (headSpec [Cond.code yX8_rights cX8_rights 11 (some .int)] ({ frames := 0, cells := 0, slots := 0, locals := 0 } : Room)).room s m ([.ref (kA κ 8 0), .int y1] : List Value).toArray below meth c H locs 0 0 (MQ below (QQ κ (res.2) (some (.int res.1))) ([.ref (kA κ 8 0), .int y1] : List Value).toArray s 0 0 (AA κ)) (F0 m 49 ls [.int s0]) := by
        intro a1 a2 a3 a4 a5 a6 a7 s0 γ H locs ls hl hH hS hk hq
        refine lv_istore (lv' := [(8, .int s0), (0, .ref (kA κ 8 0)), (1, .int a1), (2, .int a2), (3, .int a3), (4, .int a4), (5, .int a5), (6, .int a6), (7, .int a7)]) hx hb dX8_rights_49 hl (by decide) rfl (fun ls hl => ?_)
        refine lv_aload_n hx hb dX8_rights_51 rfl (lv_at hl 1 rfl) ?_
        refine hp_get (v := .int (gV γ 8 0 30)) (C := RX8) (T := TX8) (N := 32) hC inX8 hH lv_8 rfl rfl 30 (by decide) tw_952 rfl rfl dX8_rights_52 ?_
        refine lv_iconst (v := (-1)) hx hb dX8_rights_55 (by decide) ?_
        refine lv_icmp_ne (tgt := 63) hx hb dX8_rights_56 (by decide) (fun c117 => ?_) (fun c117 => ?_)
        · have hk := ifn hk c117
          have hq := ifne hq c117
          refine lv_iconst (v := 0) hx hb dX8_rights_63 (by decide) ?_
          exact b_64 a1 a2 a3 a4 a5 a6 a7 s0 0 γ _ _ _ (lv_sub hl [1, 2, 3, 4, 5, 6, 7, 8, 0] rfl) hH hS hk hq
        · have hk := ifp hk c117
          have hq := ifpe hq c117
          refine lv_iconst (v := 1) hx hb dX8_rights_59 (by decide) ?_
          refine lv_goto (tgt := 64) hx hb dX8_rights_60 (by decide) ?_
          exact b_64 a1 a2 a3 a4 a5 a6 a7 s0 1 γ _ _ _ (lv_sub hl [1, 2, 3, 4, 5, 6, 7, 8, 0] rfl) hH hS hk hq
      intro a1 a2 a3 a4 a5 a6 γ H locs ls hl hH hS hk hq
      refine lv_iload hx hb dX8_rights_18 (lv_at hl 6 rfl) ?_
      refine lv_iload_n hx hb dX8_rights_20 rfl (lv_at hl 1 rfl) ?_
      refine lv_icmp_ge (tgt := 351) hx hb dX8_rights_21 (by decide) (fun c118 => ?_) (fun c118 => ?_)
      · have hk := ifp hk c118
        have hq := ifpe hq c118
        refine lv_aload_n hx hb dX8_rights_351 rfl (lv_at hl 0 rfl) ?_
        refine hp_get (v := .int (gV γ 8 0 30)) (C := RX8) (T := TX8) (N := 32) hC inX8 hH lv_8 rfl rfl 30 (by decide) tw_952 rfl rfl dX8_rights_352 ?_
        subst hq
        exact kr_i hC hr hH hS rfl rfl dX8_rights_355
      · have hk := ifn hk c118
        have hq := ifne hq c118
        refine lv_aload_n hx hb dX8_rights_24 rfl (lv_at hl 0 rfl) ?_
        refine hp_get (v := .ref (kA κ 31 0)) (C := RX8) (T := TX8) (N := 32) hC inX8 hH lv_8 rfl rfl 18 (by decide) tw_940 rfl rfl dX8_rights_25 ?_
        refine lv_iload hx hb dX8_rights_28 (lv_at hl 6 rfl) ?_
        obtain ⟨hi119, hk⟩ := hk
        refine hp_ald (v := gV γ 31 0 ((a6 : Int32).toNatClampNeg)) hC hH lv_31 rfl hi119 rfl dX8_rights_30 ?_
        refine lv_istore (lv' := [(7, .int (gV γ 31 0 ((a6 : Int32).toNatClampNeg))), (0, .ref (kA κ 8 0)), (1, .int a1), (2, .int a2), (3, .int a3), (4, .int a4), (5, .int a5), (6, .int a6)]) hx hb dX8_rights_31 hl (by decide) rfl (fun ls hl => ?_)
        refine lv_aload_n hx hb dX8_rights_33 rfl (lv_at hl 1 rfl) ?_
        refine hp_get (v := .int (gV γ 8 0 30)) (C := RX8) (T := TX8) (N := 32) hC inX8 hH lv_8 rfl rfl 30 (by decide) tw_952 rfl rfl dX8_rights_34 ?_
        refine lv_iconst (v := 1) hx hb dX8_rights_37 (by decide) ?_
        refine lv_iload hx hb dX8_rights_38 (lv_at hl 0 rfl) ?_
        refine lv_isub hx hb dX8_rights_40 ?_
        refine lv_icmp_ne (tgt := 48) hx hb dX8_rights_41 (by decide) (fun c120 => ?_) (fun c120 => ?_)
        · have hk := ifn hk c120
          have hq := ifne hq c120
          refine lv_iconst (v := 0) hx hb dX8_rights_48 (by decide) ?_
          exact b_49 a1 a2 a3 a4 a5 a6 (gV γ 31 0 ((a6 : Int32).toNatClampNeg)) 0 γ _ _ _ (lv_sub hl [1, 2, 3, 4, 5, 6, 7, 0] rfl) hH hS hk hq
        · have hk := ifp hk c120
          have hq := ifpe hq c120
          refine lv_iconst (v := 1) hx hb dX8_rights_44 (by decide) ?_
          refine lv_goto (tgt := 49) hx hb dX8_rights_45 (by decide) ?_
          exact b_49 a1 a2 a3 a4 a5 a6 (gV γ 31 0 ((a6 : Int32).toNatClampNeg)) 1 γ _ _ _ (lv_sub hl [1, 2, 3, 4, 5, 6, 7, 0] rfl) hH hS hk hq
  refine lv_aload_n hx hb dX8_rights_0 rfl (lv_at hl 0 rfl) ?_
  refine lv_iconst (v := (-1)) hx hb dX8_rights_1 (by decide) ?_
  refine hp_put (v := .int ((-1))) (C := RX8) (T := TX8) (N := 32) hC inX8 tyX8_ok nmX8 hH lv_8 rfl hS rfl 30 (by decide) tw_952 rfl rfl rfl rfl (Nat.le_of_ble_eq_true rfl) (sV γ 8 0 30 ((-1))) (pe_8_30 _ _ 0 ((-1))) (fun _ _ _ h => cel_sV h) (WT_sV hH.wt) dX8_rights_2 (fun H locs hH hS => ?_)
  refine lv_iconst (v := (-1)) hx hb dX8_rights_5 (by decide) ?_
  refine lv_istore_n (lv' := [(2, .int ((-1))), (0, .ref (kA κ 8 0)), (1, .int y1)]) hx hb dX8_rights_6 rfl hl (by decide) rfl (fun ls hl => ?_)
  refine lv_iconst (v := 0) hx hb dX8_rights_7 (by decide) ?_
  refine lv_istore_n (lv' := [(3, .int 0), (2, .int ((-1))), (0, .ref (kA κ 8 0)), (1, .int y1)]) hx hb dX8_rights_8 rfl hl (by decide) rfl (fun ls hl => ?_)
  refine lv_iconst (v := (-1)) hx hb dX8_rights_9 (by decide) ?_
  refine lv_istore (lv' := [(4, .int ((-1))), (3, .int 0), (2, .int ((-1))), (0, .ref (kA κ 8 0)), (1, .int y1)]) hx hb dX8_rights_10 hl (by decide) rfl (fun ls hl => ?_)
  refine lv_iconst (v := 0) hx hb dX8_rights_12 (by decide) ?_
  refine lv_istore (lv' := [(5, .int 0), (4, .int ((-1))), (3, .int 0), (2, .int ((-1))), (0, .ref (kA κ 8 0)), (1, .int y1)]) hx hb dX8_rights_13 hl (by decide) rfl (fun ls hl => ?_)
  refine lv_iconst (v := 0) hx hb dX8_rights_15 (by decide) ?_
  refine lv_istore (lv' := [(6, .int 0), (5, .int 0), (4, .int ((-1))), (3, .int 0), (2, .int ((-1))), (0, .ref (kA κ 8 0)), (1, .int y1)]) hx hb dX8_rights_16 hl (by decide) rfl (fun ls hl => ?_)
  exact b_18 fu y1 ((-1)) 0 ((-1)) 0 0 (sV γ 8 0 30 ((-1))) _ _ _ (lv_sub hl [5, 6, 4, 3, 2, 1, 0] rfl) hH hS hk hq
set_option maxRecDepth 20000 in
set_option maxHeartbeats 4000000 in
theorem c_X8_ends (l : Launch) (κ : KP) (γ : St) (y1 : Int32) (hk : ok_X8_ends y1 γ) : Met l yX8_ends [Cond.code yX8_ends cX8_ends 2 none] ({ frames := 0, cells := 0, slots := 0, locals := 0 } : Room) (va_Pc [.ref (kA κ 8 0), .int y1] (GG κ γ)) (QQ κ ((x_X8_ends y1 γ)) none) 0 0 (AA κ) := by
  generalize hq : x_X8_ends y1 γ = res
  refine Met.ofW (cc := cX8_ends) (maxL := 2) (ret := none) (by decide) rfl ?_
  intro p e s m args below meth c s₁ B hml9 hv
  obtain ⟨rfl, hH, hK9, hB9, hX9, hZ9⟩ := hv
  have hC : CX κ cX8_ends "PhrasehallModel" 2 p l s m ([.ref (kA κ 8 0), .int y1] : List Value).toArray meth c := ⟨B.exec, B.bytes, findClass_of_methodNamed B.named, fun w hw => tw_use (List.mem_filter.mp hw).2 (State.WarmedH.refl s) (hX9.1 w hw), hK9, hX9, hZ9, hB9, hml9, B.notSynchronized⟩
  obtain ⟨hx, hb, hown, hT, -, -, -, -, hml, -⟩ := id hC
  have hr := B.returns
  have hS : va_S (AA κ) s.heap s.heap [] := va_S.rf
  have hl := lv_entry ([.ref (kA κ 8 0), .int y1]) (n := 2) (Nat.le_of_ble_eq_true rfl)
  rw [lg_entry_eq]
  generalize (lg_sl ([.ref (kA κ 8 0), .int y1]) ++ List.replicate (2 - (lg_sl ([.ref (kA κ 8 0), .int y1])).length) Slot.unset).toArray = ls at hl ⊢
  have hl : lv_has ls 2 [(0, .ref (kA κ 8 0)), (1, .int y1)] := hl
  refine lv_aload_n hx hb dX8_ends_0 rfl (lv_at hl 0 rfl) ?_
  refine hp_get (v := .ref (kA κ 25 0)) (C := RX8) (T := TX8) (N := 32) hC inX8 hH lv_8 rfl rfl 10 (by decide) tw_932 rfl rfl dX8_ends_1 ?_
  refine lv_aload_n hx hb dX8_ends_4 rfl (lv_at hl 0 rfl) ?_
  refine hp_get (v := .int (gV γ 8 0 4)) (C := RX8) (T := TX8) (N := 32) hC inX8 hH lv_8 rfl rfl 4 (by decide) tw_926 rfl rfl dX8_ends_5 ?_
  refine lv_iload_n hx hb dX8_ends_8 rfl (lv_at hl 1 rfl) ?_
  obtain ⟨hi3, hk⟩ := hk
  refine hp_ast hC hH lv_25 (fun _ => rfl) hS hi3 dX8_ends_9 (fun H locs hH hS => ?_)
  refine lv_aload_n hx hb dX8_ends_10 rfl (lv_at hl 0 rfl) ?_
  refine lv_iconst (v := (-1)) hx hb dX8_ends_11 (by decide) ?_
  refine hp_put (v := .int ((-1))) (C := RX8) (T := TX8) (N := 32) hC inX8 tyX8_ok nmX8 hH lv_8 rfl hS rfl 4 (by decide) tw_926 rfl rfl rfl rfl (Nat.le_of_ble_eq_true rfl) (sV (sV γ 25 0 ((gV γ 8 0 4 : Int32).toNatClampNeg) y1) 8 0 4 ((-1))) (pe_8_4 _ _ 0 ((-1))) (fun _ _ _ h => cel_sV h) (WT_sV hH.wt) dX8_ends_12 (fun H locs hH hS => ?_)
  refine lv_aload_n hx hb dX8_ends_15 rfl (lv_at hl 0 rfl) ?_
  refine lv_iconst (v := 0) hx hb dX8_ends_16 (by decide) ?_
  refine hp_put (v := .int 0) (C := RX8) (T := TX8) (N := 32) hC inX8 tyX8_ok nmX8 hH lv_8 rfl hS rfl 17 (by decide) tw_939 rfl rfl rfl rfl (Nat.le_of_ble_eq_true rfl) (sV (sV (sV γ 25 0 ((gV γ 8 0 4 : Int32).toNatClampNeg) y1) 8 0 4 ((-1))) 8 0 17 0) (pe_8_17 _ _ 0 0) (fun _ _ _ h => cel_sV h) (WT_sV hH.wt) dX8_ends_17 (fun H locs hH hS => ?_)
  subst hq
  exact kr_v hC hr hH hS rfl dX8_ends_20
set_option maxRecDepth 20000 in
set_option maxHeartbeats 4000000 in
theorem c_X8_ahead (l : Launch) (κ : KP) (γ : St) (hk : ok_X8_ahead γ) : Met l yX8_ahead [Cond.code yX8_ahead cX8_ahead 3 (some .int)] ({ frames := 0, cells := 0, slots := 0, locals := 0 } : Room) (va_Pc [.ref (kA κ 8 0)] (GG κ γ)) (QQ κ γ (some (.int ((x_X8_ahead γ))))) 0 0 (AA κ) := by
  generalize hq : x_X8_ahead γ = res
  refine Met.ofW (cc := cX8_ahead) (maxL := 3) (ret := (some .int)) (by decide) rfl ?_
  intro p e s m args below meth c s₁ B hml9 hv
  obtain ⟨rfl, hH, hK9, hB9, hX9, hZ9⟩ := hv
  have hC : CX κ cX8_ahead "PhrasehallModel" 3 p l s m ([.ref (kA κ 8 0)] : List Value).toArray meth c := ⟨B.exec, B.bytes, findClass_of_methodNamed B.named, fun w hw => tw_use (List.mem_filter.mp hw).2 (State.WarmedH.refl s) (hX9.1 w hw), hK9, hX9, hZ9, hB9, hml9, B.notSynchronized⟩
  obtain ⟨hx, hb, hown, hT, -, -, -, -, hml, -⟩ := id hC
  have hr := B.returns
  have hS : va_S (AA κ) s.heap s.heap [] := va_S.rf
  have hl := lv_entry ([.ref (kA κ 8 0)]) (n := 3) (Nat.le_of_ble_eq_true rfl)
  rw [lg_entry_eq]
  generalize (lg_sl ([.ref (kA κ 8 0)]) ++ List.replicate (3 - (lg_sl ([.ref (kA κ 8 0)])).length) Slot.unset).toArray = ls at hl ⊢
  have hl : lv_has ls 3 [(0, .ref (kA κ 8 0))] := hl
  refine lv_aload_n hx hb dX8_ahead_0 rfl (lv_at hl 0 rfl) ?_
  refine hp_get (v := .int (gV γ 8 0 4)) (C := RX8) (T := TX8) (N := 32) hC inX8 hH lv_8 rfl rfl 4 (by decide) tw_926 rfl rfl dX8_ahead_1 ?_
  refine lv_istore_n (lv' := [(1, .int (gV γ 8 0 4)), (0, .ref (kA κ 8 0))]) hx hb dX8_ahead_4 rfl hl (by decide) rfl (fun ls hl => ?_)
  refine lv_aload_n hx hb dX8_ahead_5 rfl (lv_at hl 1 rfl) ?_
  refine hp_get (v := .ref (kA κ 21 0)) (C := RX8) (T := TX8) (N := 32) hC inX8 hH lv_8 rfl rfl 6 (by decide) tw_928 rfl rfl dX8_ahead_6 ?_
  refine lv_iconst (v := 2) hx hb dX8_ahead_9 (by decide) ?_
  refine lv_iload_n hx hb dX8_ahead_10 rfl (lv_at hl 0 rfl) ?_
  refine lv_imul hx hb dX8_ahead_11 ?_
  obtain ⟨hi15, hk⟩ := hk
  refine hp_ald (v := gV γ 21 0 ((2 * (gV γ 8 0 4) : Int32).toNatClampNeg)) hC hH lv_21 rfl hi15 rfl dX8_ahead_12 ?_
  refine lv_aload_n hx hb dX8_ahead_13 rfl (lv_at hl 1 rfl) ?_
  refine hp_get (v := .ref (kA κ 21 0)) (C := RX8) (T := TX8) (N := 32) hC inX8 hH lv_8 rfl rfl 6 (by decide) tw_928 rfl rfl dX8_ahead_14 ?_
  refine lv_iconst (v := 2) hx hb dX8_ahead_17 (by decide) ?_
  refine lv_iload_n hx hb dX8_ahead_18 rfl (lv_at hl 0 rfl) ?_
  refine lv_imul hx hb dX8_ahead_19 ?_
  refine lv_iconst (v := 1) hx hb dX8_ahead_20 (by decide) ?_
  refine lv_iadd hx hb dX8_ahead_21 ?_
  obtain ⟨hi16, hk⟩ := hk
  refine hp_ald (v := gV γ 21 0 (((2 * (gV γ 8 0 4)) + 1 : Int32).toNatClampNeg)) hC hH lv_21 rfl hi16 rfl dX8_ahead_22 ?_
  refine lv_isub hx hb dX8_ahead_23 ?_
  refine lv_istore_n (lv' := [(2, .int ((gV γ 21 0 ((2 * (gV γ 8 0 4) : Int32).toNatClampNeg)) - (gV γ 21 0 (((2 * (gV γ 8 0 4)) + 1 : Int32).toNatClampNeg)))), (1, .int (gV γ 8 0 4)), (0, .ref (kA κ 8 0))]) hx hb dX8_ahead_24 rfl hl (by decide) rfl (fun ls hl => ?_)
  refine lv_iload_n hx hb dX8_ahead_25 rfl (lv_at hl 0 rfl) ?_
  refine lv_if_le (tgt := 33) hx hb dX8_ahead_26 (by decide) (fun c17 => ?_) (fun c17 => ?_)
  · have hk := ifp hk c17
    have hq := ifpe hq c17
    refine lv_iload_n hx hb dX8_ahead_33 rfl (lv_at hl 0 rfl) ?_
    refine lv_if_ge (tgt := 41) hx hb dX8_ahead_34 (by decide) (fun c18 => ?_) (fun c18 => ?_)
    · have hk := ifp hk c18
      have hq := ifpe hq c18
      refine lv_aload_n hx hb dX8_ahead_41 rfl (lv_at hl 2 rfl) ?_
      refine hp_get (v := .ref (kA κ 20 0)) (C := RX8) (T := TX8) (N := 32) hC inX8 hH lv_8 rfl rfl 5 (by decide) tw_927 rfl rfl dX8_ahead_42 ?_
      refine lv_iconst (v := 2) hx hb dX8_ahead_45 (by decide) ?_
      refine lv_iload_n hx hb dX8_ahead_46 rfl (lv_at hl 1 rfl) ?_
      refine lv_imul hx hb dX8_ahead_47 ?_
      obtain ⟨hi19, hk⟩ := hk
      refine hp_ald (v := gV γ 20 0 ((2 * (gV γ 8 0 4) : Int32).toNatClampNeg)) hC hH lv_20 rfl hi19 rfl dX8_ahead_48 ?_
      refine lv_aload_n hx hb dX8_ahead_49 rfl (lv_at hl 2 rfl) ?_
      refine hp_get (v := .ref (kA κ 20 0)) (C := RX8) (T := TX8) (N := 32) hC inX8 hH lv_8 rfl rfl 5 (by decide) tw_927 rfl rfl dX8_ahead_50 ?_
      refine lv_iconst (v := 2) hx hb dX8_ahead_53 (by decide) ?_
      refine lv_iload_n hx hb dX8_ahead_54 rfl (lv_at hl 1 rfl) ?_
      refine lv_imul hx hb dX8_ahead_55 ?_
      refine lv_iconst (v := 1) hx hb dX8_ahead_56 (by decide) ?_
      refine lv_iadd hx hb dX8_ahead_57 ?_
      obtain ⟨hi20, hk⟩ := hk
      refine hp_ald (v := gV γ 20 0 (((2 * (gV γ 8 0 4)) + 1 : Int32).toNatClampNeg)) hC hH lv_20 rfl hi20 rfl dX8_ahead_58 ?_
      refine lv_icmp_ge (tgt := 66) hx hb dX8_ahead_59 (by decide) (fun c21 => ?_) (fun c21 => ?_)
      · have hk := ifp hk c21
        have hq := ifpe hq c21
        refine lv_iconst (v := 1) hx hb dX8_ahead_66 (by decide) ?_
        subst hq
        exact kr_i hC hr hH hS rfl rfl dX8_ahead_67
      · have hk := ifn hk c21
        have hq := ifne hq c21
        refine lv_iconst (v := 0) hx hb dX8_ahead_62 (by decide) ?_
        refine lv_goto (tgt := 67) hx hb dX8_ahead_63 (by decide) ?_
        subst hq
        exact kr_i hC hr hH hS rfl rfl dX8_ahead_67
    · have hk := ifn hk c18
      have hq := ifne hq c18
      refine lv_iconst (v := 1) hx hb dX8_ahead_37 (by decide) ?_
      refine lv_goto (tgt := 67) hx hb dX8_ahead_38 (by decide) ?_
      subst hq
      exact kr_i hC hr hH hS rfl rfl dX8_ahead_67
  · have hk := ifn hk c17
    have hq := ifne hq c17
    refine lv_iconst (v := 0) hx hb dX8_ahead_29 (by decide) ?_
    refine lv_goto (tgt := 67) hx hb dX8_ahead_30 (by decide) ?_
    subst hq
    exact kr_i hC hr hH hS rfl rfl dX8_ahead_67
set_option maxRecDepth 20000 in
set_option maxHeartbeats 4000000 in
theorem c_X8_gives (l : Launch) (κ : KP) (γ : St) (y1 : Int32) (hk : ok_X8_gives y1 γ) : Met l yX8_gives [Cond.code yX8_gives cX8_gives 5 none] ({ frames := 1, cells := 0, slots := 0, locals := 22 } : Room) (va_Pc [.ref (kA κ 8 0), .int y1] (GG κ γ)) (QQ κ ((x_X8_gives y1 γ)) none) 0 0 (AA κ) := by
  generalize hq : x_X8_gives y1 γ = res
  refine Met.ofW (cc := cX8_gives) (maxL := 5) (ret := none) (by decide) rfl ?_
  intro p e s m args below meth c s₁ B hml9 hv
  obtain ⟨rfl, hH, hK9, hB9, hX9, hZ9⟩ := hv
  have hC : CX κ cX8_gives "PhrasehallModel" 5 p l s m ([.ref (kA κ 8 0), .int y1] : List Value).toArray meth c := ⟨B.exec, B.bytes, findClass_of_methodNamed B.named, fun w hw => tw_use (List.mem_filter.mp hw).2 (State.WarmedH.refl s) (hX9.1 w hw), hK9, hX9, hZ9, hB9, hml9, B.notSynchronized⟩
  obtain ⟨hx, hb, hown, hT, -, -, -, -, hml, -⟩ := id hC
  have hr := B.returns
  have hS : va_S (AA κ) s.heap s.heap [] := va_S.rf
  have hl := lv_entry ([.ref (kA κ 8 0), .int y1]) (n := 5) (Nat.le_of_ble_eq_true rfl)
  rw [lg_entry_eq]
  generalize (lg_sl ([.ref (kA κ 8 0), .int y1]) ++ List.replicate (5 - (lg_sl ([.ref (kA κ 8 0), .int y1])).length) Slot.unset).toArray = ls at hl ⊢
  have hl : lv_has ls 5 [(0, .ref (kA κ 8 0)), (1, .int y1)] := hl
  have b_128 : ∀ (γ : St) (H : Heap) (locs : List Loc) (ls : Array Slot), lv_has ls 5 [(0, .ref (kA κ 8 0))] → HR κ γ H → va_S (AA κ) s.heap H locs → ok_X8_gives_128 γ → x_X8_gives_128 γ = res → W p l e (headSpec [Cond.code yX8_gives cX8_gives 5 none] ({ frames := 1, cells := 0, slots := 0, locals := 22 } : Room)).room s m ([.ref (kA κ 8 0), .int y1] : List Value).toArray below meth c H locs 0 0 (MQ below (QQ κ res none) ([.ref (kA κ 8 0), .int y1] : List Value).toArray s 0 0 (AA κ)) (F0 m 128 ls []) := by
    intro  γ H locs ls hl hH hS hk hq
    refine lv_aload_n hx hb dX8_gives_128 rfl (lv_at hl 0 rfl) ?_
    refine lv_aload_n hx hb dX8_gives_129 rfl (lv_at hl 0 rfl) ?_
    obtain ⟨hc61, hk⟩ := hk
    refine k_callV (C := RX8) (T := TX8) (N := 32) (rest := [.ref (kA κ 8 0)]) hC hl hH hS (c_X8_ahead l κ γ hc61) lv_8 rfl rfl tw_1092 tw_1094 tw_45 tw_62 tw_1095 hd_X8_ahead ⟨Nat.le_of_ble_eq_true rfl, Nat.le_of_ble_eq_true rfl⟩ rfl rfl rfl rfl (Nat.le_of_ble_eq_true rfl) dX8_gives_130 ⟨Nat.le_of_ble_eq_true rfl, Nat.le_of_ble_eq_true rfl⟩ rfl (fun H locs hH hS => ?_)
    obtain ⟨hc62, hk⟩ := hk
    refine k_callV (C := RX8) (T := TX8) (N := 32) (rest := []) hC hl hH hS (c_X8_ends l κ γ ((x_X8_ahead γ)) hc62) lv_8 rfl rfl tw_1096 tw_1098 tw_46 tw_62 tw_1099 hd_X8_ends ⟨Nat.le_of_ble_eq_true rfl, Nat.le_of_ble_eq_true rfl⟩ rfl rfl rfl rfl (Nat.le_of_ble_eq_true rfl) dX8_gives_133 ⟨Nat.le_of_ble_eq_true rfl, Nat.le_of_ble_eq_true rfl⟩ rfl (fun H locs hH hS => ?_)
    subst hq
    exact kr_v hC hr hH hS rfl dX8_gives_136
  have b_103 : ∀ (a1 : Int32) (a2 : Int32) (a3 : Int32) (s0 : Int32) (γ : St) (H : Heap) (locs : List Loc) (ls : Array Slot), lv_has ls 5 [(0, .ref (kA κ 8 0)), (1, .int a1), (2, .int a2), (3, .int a3)] → HR κ γ H → va_S (AA κ) s.heap H locs → ok_X8_gives_103 a1 a2 a3 s0 γ → x_X8_gives_103 a1 a2 a3 s0 γ = res → W p l e (headSpec [Cond.code yX8_gives cX8_gives 5 none] ({ frames := 1, cells := 0, slots := 0, locals := 22 } : Room)).room s m ([.ref (kA κ 8 0), .int y1] : List Value).toArray below meth c H locs 0 0 (MQ below (QQ κ res none) ([.ref (kA κ 8 0), .int y1] : List Value).toArray s 0 0 (AA κ)) (F0 m 103 ls [.int s0]) := by
    intro a1 a2 a3 s0 γ H locs ls hl hH hS hk hq
    refine lv_istore (lv' := [(4, .int s0), (0, .ref (kA κ 8 0)), (1, .int a1), (2, .int a2), (3, .int a3)]) hx hb dX8_gives_103 hl (by decide) rfl (fun ls hl => ?_)
    refine lv_iload_n hx hb dX8_gives_105 rfl (lv_at hl 2 rfl) ?_
    refine lv_if_le (tgt := 136) hx hb dX8_gives_106 (by decide) (fun c63 => ?_) (fun c63 => ?_)
    · have hk := ifp hk c63
      have hq := ifpe hq c63
      subst hq
      exact kr_v hC hr hH hS rfl dX8_gives_136
    · have hk := ifn hk c63
      have hq := ifne hq c63
      refine lv_iload_n hx hb dX8_gives_109 rfl (lv_at hl 4 rfl) ?_
      refine lv_if_ne (tgt := 128) hx hb dX8_gives_110 (by decide) (fun c64 => ?_) (fun c64 => ?_)
      · have hk := ifn hk c64
        have hq := ifne hq c64
        exact b_128 γ _ _ _ (lv_sub hl [1] rfl) hH hS hk hq
      · have hk := ifp hk c64
        have hq := ifpe hq c64
        refine lv_aload_n hx hb dX8_gives_113 rfl (lv_at hl 1 rfl) ?_
        refine hp_get (v := .ref (kA κ 28 0)) (C := RX8) (T := TX8) (N := 32) hC inX8 hH lv_8 rfl rfl 13 (by decide) tw_935 rfl rfl dX8_gives_114 ?_
        refine lv_iload_n hx hb dX8_gives_117 rfl (lv_at hl 3 rfl) ?_
        obtain ⟨hi65, hk⟩ := hk
        refine hp_ald (v := gV γ 28 0 ((a2 : Int32).toNatClampNeg)) hC hH lv_28 rfl hi65 rfl dX8_gives_118 ?_
        refine lv_iconst (v := (-1)) hx hb dX8_gives_119 (by decide) ?_
        refine lv_icmp_eq (tgt := 136) hx hb dX8_gives_120 (by decide) (fun c66 => ?_) (fun c66 => ?_)
        · have hk := ifp hk c66
          have hq := ifpe hq c66
          subst hq
          exact kr_v hC hr hH hS rfl dX8_gives_136
        · have hk := ifn hk c66
          have hq := ifne hq c66
          refine lv_iload hx hb dX8_gives_123 (lv_at hl 0 rfl) ?_
          refine lv_if_eq (tgt := 136) hx hb dX8_gives_125 (by decide) (fun c67 => ?_) (fun c67 => ?_)
          · have hk := ifp hk c67
            have hq := ifpe hq c67
            subst hq
            exact kr_v hC hr hH hS rfl dX8_gives_136
          · have hk := ifn hk c67
            have hq := ifne hq c67
            exact b_128 γ _ _ _ (lv_sub hl [1] rfl) hH hS hk hq
  have b_76 : ∀ (a1 : Int32) (a2 : Int32) (s0 : Int32) (γ : St) (H : Heap) (locs : List Loc) (ls : Array Slot), lv_has ls 5 [(0, .ref (kA κ 8 0)), (1, .int a1), (2, .int a2)] → HR κ γ H → va_S (AA κ) s.heap H locs → ok_X8_gives_76 a1 a2 s0 γ → x_X8_gives_76 a1 a2 s0 γ = res → W p l e (headSpec [Cond.code yX8_gives cX8_gives 5 none] ({ frames := 1, cells := 0, slots := 0, locals := 22 } : Room)).room s m ([.ref (kA κ 8 0), .int y1] : List Value).toArray below meth c H locs 0 0 (MQ below (QQ κ res none) ([.ref (kA κ 8 0), .int y1] : List Value).toArray s 0 0 (AA κ)) (F0 m 76 ls [.int s0]) := by
    intro a1 a2 s0 γ H locs ls hl hH hS hk hq
    refine lv_istore_n (lv' := [(3, .int s0), (0, .ref (kA κ 8 0)), (1, .int a1), (2, .int a2)]) hx hb dX8_gives_76 rfl hl (by decide) rfl (fun ls hl => ?_)
    refine lv_aload_n hx hb dX8_gives_77 rfl (lv_at hl 1 rfl) ?_
    refine hp_get (v := .ref (kA κ 21 0)) (C := RX8) (T := TX8) (N := 32) hC inX8 hH lv_8 rfl rfl 6 (by decide) tw_928 rfl rfl dX8_gives_78 ?_
    refine lv_iconst (v := 2) hx hb dX8_gives_81 (by decide) ?_
    refine lv_iload_n hx hb dX8_gives_82 rfl (lv_at hl 3 rfl) ?_
    refine lv_imul hx hb dX8_gives_83 ?_
    obtain ⟨hi68, hk⟩ := hk
    refine hp_ald (v := gV γ 21 0 ((2 * a2 : Int32).toNatClampNeg)) hC hH lv_21 rfl hi68 rfl dX8_gives_84 ?_
    refine lv_aload_n hx hb dX8_gives_85 rfl (lv_at hl 1 rfl) ?_
    refine hp_get (v := .ref (kA κ 21 0)) (C := RX8) (T := TX8) (N := 32) hC inX8 hH lv_8 rfl rfl 6 (by decide) tw_928 rfl rfl dX8_gives_86 ?_
    refine lv_iconst (v := 2) hx hb dX8_gives_89 (by decide) ?_
    refine lv_iload_n hx hb dX8_gives_90 rfl (lv_at hl 3 rfl) ?_
    refine lv_imul hx hb dX8_gives_91 ?_
    refine lv_iconst (v := 1) hx hb dX8_gives_92 (by decide) ?_
    refine lv_iadd hx hb dX8_gives_93 ?_
    obtain ⟨hi69, hk⟩ := hk
    refine hp_ald (v := gV γ 21 0 (((2 * a2) + 1 : Int32).toNatClampNeg)) hC hH lv_21 rfl hi69 rfl dX8_gives_94 ?_
    refine lv_icmp_eq (tgt := 102) hx hb dX8_gives_95 (by decide) (fun c70 => ?_) (fun c70 => ?_)
    · have hk := ifp hk c70
      have hq := ifpe hq c70
      refine lv_iconst (v := 0) hx hb dX8_gives_102 (by decide) ?_
      exact b_103 a1 a2 s0 0 γ _ _ _ (lv_sub hl [1, 2, 3, 0] rfl) hH hS hk hq
    · have hk := ifn hk c70
      have hq := ifne hq c70
      refine lv_iconst (v := 1) hx hb dX8_gives_98 (by decide) ?_
      refine lv_goto (tgt := 103) hx hb dX8_gives_99 (by decide) ?_
      exact b_103 a1 a2 s0 1 γ _ _ _ (lv_sub hl [1, 2, 3, 0] rfl) hH hS hk hq
  have b_71 : ∀ (a1 : Int32) (a2 : Int32) (γ : St) (H : Heap) (locs : List Loc) (ls : Array Slot), lv_has ls 5 [(0, .ref (kA κ 8 0)), (1, .int a1), (2, .int a2)] → HR κ γ H → va_S (AA κ) s.heap H locs → ok_X8_gives_71 a1 a2 γ → x_X8_gives_71 a1 a2 γ = res → W p l e (headSpec [Cond.code yX8_gives cX8_gives 5 none] ({ frames := 1, cells := 0, slots := 0, locals := 22 } : Room)).room s m ([.ref (kA κ 8 0), .int y1] : List Value).toArray below meth c H locs 0 0 (MQ below (QQ κ res none) ([.ref (kA κ 8 0), .int y1] : List Value).toArray s 0 0 (AA κ)) (F0 m 71 ls []) := by
    intro a1 a2 γ H locs ls hl hH hS hk hq
    refine lv_iconst (v := 1) hx hb dX8_gives_71 (by decide) ?_
    refine lv_goto (tgt := 76) hx hb dX8_gives_72 (by decide) ?_
    exact b_76 a1 a2 1 γ _ _ _ (lv_sub hl [0, 1, 2] rfl) hH hS hk hq
  refine lv_aload_n hx hb dX8_gives_0 rfl (lv_at hl 0 rfl) ?_
  refine hp_get (v := .int (gV γ 8 0 4)) (C := RX8) (T := TX8) (N := 32) hC inX8 hH lv_8 rfl rfl 4 (by decide) tw_926 rfl rfl dX8_gives_1 ?_
  refine lv_istore_n (lv' := [(2, .int (gV γ 8 0 4)), (0, .ref (kA κ 8 0)), (1, .int y1)]) hx hb dX8_gives_4 rfl hl (by decide) rfl (fun ls hl => ?_)
  refine lv_aload_n hx hb dX8_gives_5 rfl (lv_at hl 1 rfl) ?_
  refine hp_get (v := .ref (kA κ 21 0)) (C := RX8) (T := TX8) (N := 32) hC inX8 hH lv_8 rfl rfl 6 (by decide) tw_928 rfl rfl dX8_gives_6 ?_
  refine lv_iconst (v := 2) hx hb dX8_gives_9 (by decide) ?_
  refine lv_iload_n hx hb dX8_gives_10 rfl (lv_at hl 0 rfl) ?_
  refine lv_imul hx hb dX8_gives_11 ?_
  refine lv_dup2_11 hx hb dX8_gives_12 rfl rfl ?_
  obtain ⟨hi71, hk⟩ := hk
  refine hp_ald (v := gV γ 21 0 ((2 * (gV γ 8 0 4) : Int32).toNatClampNeg)) hC hH lv_21 rfl hi71 rfl dX8_gives_13 ?_
  refine lv_iload_n hx hb dX8_gives_14 rfl (lv_at hl 2 rfl) ?_
  refine lv_iconst (v := 1) hx hb dX8_gives_15 (by decide) ?_
  refine lv_iand hx hb dX8_gives_16 ?_
  refine lv_iadd hx hb dX8_gives_17 ?_
  obtain ⟨hi72, hk⟩ := hk
  refine hp_ast hC hH lv_21 (fun _ => rfl) hS hi72 dX8_gives_18 (fun H locs hH hS => ?_)
  refine lv_aload_n hx hb dX8_gives_19 rfl (lv_at hl 1 rfl) ?_
  refine hp_get (v := .ref (kA κ 21 0)) (C := RX8) (T := TX8) (N := 32) hC inX8 hH lv_8 rfl rfl 6 (by decide) tw_928 rfl rfl dX8_gives_20 ?_
  refine lv_iconst (v := 2) hx hb dX8_gives_23 (by decide) ?_
  refine lv_iload_n hx hb dX8_gives_24 rfl (lv_at hl 0 rfl) ?_
  refine lv_imul hx hb dX8_gives_25 ?_
  refine lv_iconst (v := 1) hx hb dX8_gives_26 (by decide) ?_
  refine lv_iadd hx hb dX8_gives_27 ?_
  refine lv_dup2_11 hx hb dX8_gives_28 rfl rfl ?_
  obtain ⟨hi73, hk⟩ := hk
  refine hp_ald (v := gV (sV γ 21 0 ((2 * (gV γ 8 0 4) : Int32).toNatClampNeg) ((gV γ 21 0 ((2 * (gV γ 8 0 4) : Int32).toNatClampNeg)) + (y1 &&& 1))) 21 0 (((2 * (gV γ 8 0 4)) + 1 : Int32).toNatClampNeg)) hC hH lv_21 rfl hi73 rfl dX8_gives_29 ?_
  refine lv_iload_n hx hb dX8_gives_30 rfl (lv_at hl 2 rfl) ?_
  refine lv_iconst (v := 1) hx hb dX8_gives_31 (by decide) ?_
  refine lv_ishr hx hb dX8_gives_32 ?_
  refine lv_iadd hx hb dX8_gives_33 ?_
  obtain ⟨hi74, hk⟩ := hk
  refine hp_ast hC hH lv_21 (fun _ => rfl) hS hi74 dX8_gives_34 (fun H locs hH hS => ?_)
  refine lv_aload_n hx hb dX8_gives_35 rfl (lv_at hl 1 rfl) ?_
  refine hp_get (v := .ref (kA κ 21 0)) (C := RX8) (T := TX8) (N := 32) hC inX8 hH lv_8 rfl rfl 6 (by decide) tw_928 rfl rfl dX8_gives_36 ?_
  refine lv_iconst (v := 2) hx hb dX8_gives_39 (by decide) ?_
  refine lv_iload_n hx hb dX8_gives_40 rfl (lv_at hl 0 rfl) ?_
  refine lv_imul hx hb dX8_gives_41 ?_
  obtain ⟨hi75, hk⟩ := hk
  refine hp_ald (v := gV (sV (sV γ 21 0 ((2 * (gV γ 8 0 4) : Int32).toNatClampNeg) ((gV γ 21 0 ((2 * (gV γ 8 0 4) : Int32).toNatClampNeg)) + (y1 &&& 1))) 21 0 (((2 * (gV γ 8 0 4)) + 1 : Int32).toNatClampNeg) ((gV (sV γ 21 0 ((2 * (gV γ 8 0 4) : Int32).toNatClampNeg) ((gV γ 21 0 ((2 * (gV γ 8 0 4) : Int32).toNatClampNeg)) + (y1 &&& 1))) 21 0 (((2 * (gV γ 8 0 4)) + 1 : Int32).toNatClampNeg)) + (y1 >>> (1 &&& 31)))) 21 0 ((2 * (gV γ 8 0 4) : Int32).toNatClampNeg)) hC hH lv_21 rfl hi75 rfl dX8_gives_42 ?_
  refine lv_aload_n hx hb dX8_gives_43 rfl (lv_at hl 1 rfl) ?_
  refine hp_get (v := .ref (kA κ 23 0)) (C := RX8) (T := TX8) (N := 32) hC inX8 hH lv_8 rfl rfl 8 (by decide) tw_930 rfl rfl dX8_gives_44 ?_
  refine lv_iload_n hx hb dX8_gives_47 rfl (lv_at hl 0 rfl) ?_
  obtain ⟨hi76, hk⟩ := hk
  refine hp_ald (v := gV γ 23 0 ((gV γ 8 0 4 : Int32).toNatClampNeg)) hC hH lv_23 rfl hi76 rfl dX8_gives_48 ?_
  refine lv_icmp_ge (tgt := 71) hx hb dX8_gives_49 (by decide) (fun c77 => ?_) (fun c77 => ?_)
  · have hk := ifp hk c77
    have hq := ifpe hq c77
    exact b_71 y1 (gV γ 8 0 4) (sV (sV γ 21 0 ((2 * (gV γ 8 0 4) : Int32).toNatClampNeg) ((gV γ 21 0 ((2 * (gV γ 8 0 4) : Int32).toNatClampNeg)) + (y1 &&& 1))) 21 0 (((2 * (gV γ 8 0 4)) + 1 : Int32).toNatClampNeg) ((gV (sV γ 21 0 ((2 * (gV γ 8 0 4) : Int32).toNatClampNeg) ((gV γ 21 0 ((2 * (gV γ 8 0 4) : Int32).toNatClampNeg)) + (y1 &&& 1))) 21 0 (((2 * (gV γ 8 0 4)) + 1 : Int32).toNatClampNeg)) + (y1 >>> (1 &&& 31)))) _ _ _ (lv_sub hl [1, 2, 0] rfl) hH hS hk hq
  · have hk := ifn hk c77
    have hq := ifne hq c77
    refine lv_aload_n hx hb dX8_gives_52 rfl (lv_at hl 1 rfl) ?_
    refine hp_get (v := .ref (kA κ 21 0)) (C := RX8) (T := TX8) (N := 32) hC inX8 hH lv_8 rfl rfl 6 (by decide) tw_928 rfl rfl dX8_gives_53 ?_
    refine lv_iconst (v := 2) hx hb dX8_gives_56 (by decide) ?_
    refine lv_iload_n hx hb dX8_gives_57 rfl (lv_at hl 0 rfl) ?_
    refine lv_imul hx hb dX8_gives_58 ?_
    refine lv_iconst (v := 1) hx hb dX8_gives_59 (by decide) ?_
    refine lv_iadd hx hb dX8_gives_60 ?_
    obtain ⟨hi78, hk⟩ := hk
    refine hp_ald (v := gV (sV (sV γ 21 0 ((2 * (gV γ 8 0 4) : Int32).toNatClampNeg) ((gV γ 21 0 ((2 * (gV γ 8 0 4) : Int32).toNatClampNeg)) + (y1 &&& 1))) 21 0 (((2 * (gV γ 8 0 4)) + 1 : Int32).toNatClampNeg) ((gV (sV γ 21 0 ((2 * (gV γ 8 0 4) : Int32).toNatClampNeg) ((gV γ 21 0 ((2 * (gV γ 8 0 4) : Int32).toNatClampNeg)) + (y1 &&& 1))) 21 0 (((2 * (gV γ 8 0 4)) + 1 : Int32).toNatClampNeg)) + (y1 >>> (1 &&& 31)))) 21 0 (((2 * (gV γ 8 0 4)) + 1 : Int32).toNatClampNeg)) hC hH lv_21 rfl hi78 rfl dX8_gives_61 ?_
    refine lv_aload_n hx hb dX8_gives_62 rfl (lv_at hl 1 rfl) ?_
    refine hp_get (v := .ref (kA κ 23 0)) (C := RX8) (T := TX8) (N := 32) hC inX8 hH lv_8 rfl rfl 8 (by decide) tw_930 rfl rfl dX8_gives_63 ?_
    refine lv_iload_n hx hb dX8_gives_66 rfl (lv_at hl 0 rfl) ?_
    obtain ⟨hi79, hk⟩ := hk
    refine hp_ald (v := gV γ 23 0 ((gV γ 8 0 4 : Int32).toNatClampNeg)) hC hH lv_23 rfl hi79 rfl dX8_gives_67 ?_
    refine lv_icmp_lt (tgt := 75) hx hb dX8_gives_68 (by decide) (fun c80 => ?_) (fun c80 => ?_)
    · have hk := ifp hk c80
      have hq := ifpe hq c80
      refine lv_iconst (v := 0) hx hb dX8_gives_75 (by decide) ?_
      exact b_76 y1 (gV γ 8 0 4) 0 (sV (sV γ 21 0 ((2 * (gV γ 8 0 4) : Int32).toNatClampNeg) ((gV γ 21 0 ((2 * (gV γ 8 0 4) : Int32).toNatClampNeg)) + (y1 &&& 1))) 21 0 (((2 * (gV γ 8 0 4)) + 1 : Int32).toNatClampNeg) ((gV (sV γ 21 0 ((2 * (gV γ 8 0 4) : Int32).toNatClampNeg) ((gV γ 21 0 ((2 * (gV γ 8 0 4) : Int32).toNatClampNeg)) + (y1 &&& 1))) 21 0 (((2 * (gV γ 8 0 4)) + 1 : Int32).toNatClampNeg)) + (y1 >>> (1 &&& 31)))) _ _ _ (lv_sub hl [1, 2, 0] rfl) hH hS hk hq
    · have hk := ifn hk c80
      have hq := ifne hq c80
      exact b_71 y1 (gV γ 8 0 4) (sV (sV γ 21 0 ((2 * (gV γ 8 0 4) : Int32).toNatClampNeg) ((gV γ 21 0 ((2 * (gV γ 8 0 4) : Int32).toNatClampNeg)) + (y1 &&& 1))) 21 0 (((2 * (gV γ 8 0 4)) + 1 : Int32).toNatClampNeg) ((gV (sV γ 21 0 ((2 * (gV γ 8 0 4) : Int32).toNatClampNeg) ((gV γ 21 0 ((2 * (gV γ 8 0 4) : Int32).toNatClampNeg)) + (y1 &&& 1))) 21 0 (((2 * (gV γ 8 0 4)) + 1 : Int32).toNatClampNeg)) + (y1 >>> (1 &&& 31)))) _ _ _ (lv_sub hl [1, 2, 0] rfl) hH hS hk hq
set_option maxRecDepth 20000 in
set_option maxHeartbeats 4000000 in
theorem c_X8_given (l : Launch) (κ : KP) (γ : St) (hk : ok_X8_given γ) : Met l yX8_given [Cond.code yX8_given cX8_given 7 (some .int)] ({ frames := 2, cells := 0, slots := 0, locals := 48 } : Room) (va_Pc [.ref (kA κ 8 0)] (GG κ γ)) (QQ κ (((x_X8_given γ)).2) (some (.int (((x_X8_given γ)).1)))) 0 0 (AA κ) := by
  generalize hq : x_X8_given γ = res
  refine Met.ofW (cc := cX8_given) (maxL := 7) (ret := (some .int)) (by decide) rfl ?_
  intro p e s m args below meth c s₁ B hml9 hv
  obtain ⟨rfl, hH, hK9, hB9, hX9, hZ9⟩ := hv
  have hC : CX κ cX8_given "PhrasehallModel" 7 p l s m ([.ref (kA κ 8 0)] : List Value).toArray meth c := ⟨B.exec, B.bytes, findClass_of_methodNamed B.named, fun w hw => tw_use (List.mem_filter.mp hw).2 (State.WarmedH.refl s) (hX9.1 w hw), hK9, hX9, hZ9, hB9, hml9, B.notSynchronized⟩
  obtain ⟨hx, hb, hown, hT, -, -, -, -, hml, -⟩ := id hC
  have hr := B.returns
  have hS : va_S (AA κ) s.heap s.heap [] := va_S.rf
  have hl := lv_entry ([.ref (kA κ 8 0)]) (n := 7) (Nat.le_of_ble_eq_true rfl)
  rw [lg_entry_eq]
  generalize (lg_sl ([.ref (kA κ 8 0)]) ++ List.replicate (7 - (lg_sl ([.ref (kA κ 8 0)])).length) Slot.unset).toArray = ls at hl ⊢
  have hl : lv_has ls 7 [(0, .ref (kA κ 8 0))] := hl
  have b_65 : ∀ (a3 : Int32) (s0 : Int32) (γ : St) (H : Heap) (locs : List Loc) (ls : Array Slot), lv_has ls 7 [(0, .ref (kA κ 8 0)), (3, .int a3)] → HR κ γ H → va_S (AA κ) s.heap H locs → ok_X8_given_65 a3 s0 γ → x_X8_given_65 a3 s0 γ = res → W p l e (headSpec [Cond.code yX8_given cX8_given 7 (some .int)] ({ frames := 2, cells := 0, slots := 0, locals := 48 } : Room)).room s m ([.ref (kA κ 8 0)] : List Value).toArray below meth c H locs 0 0 (MQ below (QQ κ (res.2) (some (.int res.1))) ([.ref (kA κ 8 0)] : List Value).toArray s 0 0 (AA κ)) (F0 m 65 ls [.int s0, .ref (kA κ 8 0)]) := by
    intro a3 s0 γ H locs ls hl hH hS hk hq
    refine hp_put (v := .int s0) (C := RX8) (T := TX8) (N := 32) hC inX8 tyX8_ok nmX8 hH lv_8 rfl hS rfl 2 (by decide) tw_924 rfl rfl rfl rfl (Nat.le_of_ble_eq_true rfl) (sV γ 8 0 2 s0) (pe_8_2 _ _ 0 s0) (fun _ _ _ h => cel_sV h) (WT_sV hH.wt) dX8_given_65 (fun H locs hH hS => ?_)
    refine lv_aload_n hx hb dX8_given_68 rfl (lv_at hl 0 rfl) ?_
    refine hp_get (v := .ref (kA κ 35 0)) (C := RX8) (T := TX8) (N := 32) hC inX8 hH lv_8 rfl rfl 22 (by decide) tw_944 rfl rfl dX8_given_69 ?_
    refine lv_iload_n hx hb dX8_given_72 rfl (lv_at hl 1 rfl) ?_
    obtain ⟨hi103, hk⟩ := hk
    refine hp_ald (v := gV γ 35 0 ((a3 : Int32).toNatClampNeg)) hC hH lv_35 rfl hi103 rfl dX8_given_73 ?_
    refine lv_if_ne (tgt := 88) hx hb dX8_given_74 (by decide) (fun c104 => ?_) (fun c104 => ?_)
    · have hk := ifn hk c104
      have hq := ifne hq c104
      refine lv_iconst (v := 0) hx hb dX8_given_88 (by decide) ?_
      subst hq
      exact kr_i hC hr hH hS rfl rfl dX8_given_89
    · have hk := ifp hk c104
      have hq := ifpe hq c104
      refine lv_iconst (v := 1) hx hb dX8_given_77 (by decide) ?_
      refine lv_aload_n hx hb dX8_given_78 rfl (lv_at hl 0 rfl) ?_
      refine hp_get (v := .ref (kA κ 31 0)) (C := RX8) (T := TX8) (N := 32) hC inX8 hH lv_8 rfl rfl 18 (by decide) tw_940 rfl rfl dX8_given_79 ?_
      refine lv_iload_n hx hb dX8_given_82 rfl (lv_at hl 1 rfl) ?_
      obtain ⟨hi105, hk⟩ := hk
      refine hp_ald (v := gV γ 31 0 ((a3 : Int32).toNatClampNeg)) hC hH lv_31 rfl hi105 rfl dX8_given_83 ?_
      refine lv_ishl hx hb dX8_given_84 ?_
      refine lv_goto (tgt := 89) hx hb dX8_given_85 (by decide) ?_
      subst hq
      exact kr_i hC hr hH hS rfl rfl dX8_given_89
  have b_49 : ∀ (s0 : Int32) (γ : St) (H : Heap) (locs : List Loc) (ls : Array Slot), lv_has ls 7 [(0, .ref (kA κ 8 0))] → HR κ γ H → va_S (AA κ) s.heap H locs → ok_X8_given_49 s0 γ → x_X8_given_49 s0 γ = res → W p l e (headSpec [Cond.code yX8_given cX8_given 7 (some .int)] ({ frames := 2, cells := 0, slots := 0, locals := 48 } : Room)).room s m ([.ref (kA κ 8 0)] : List Value).toArray below meth c H locs 0 0 (MQ below (QQ κ (res.2) (some (.int res.1))) ([.ref (kA κ 8 0)] : List Value).toArray s 0 0 (AA κ)) (F0 m 49 ls [.int s0]) := by
    intro s0 γ H locs ls hl hH hS hk hq
    refine lv_istore_n (lv' := [(3, .int s0), (0, .ref (kA κ 8 0))]) hx hb dX8_given_49 rfl hl (by decide) rfl (fun ls hl => ?_)
    refine lv_aload_n hx hb dX8_given_50 rfl (lv_at hl 1 rfl) ?_
    refine lv_aload_n hx hb dX8_given_51 rfl (lv_at hl 1 rfl) ?_
    refine hp_get (v := .ref (kA κ 35 0)) (C := RX8) (T := TX8) (N := 32) hC inX8 hH lv_8 rfl rfl 22 (by decide) tw_944 rfl rfl dX8_given_52 ?_
    refine lv_iload_n hx hb dX8_given_55 rfl (lv_at hl 0 rfl) ?_
    obtain ⟨hi106, hk⟩ := hk
    refine hp_ald (v := gV γ 35 0 ((s0 : Int32).toNatClampNeg)) hC hH lv_35 rfl hi106 rfl dX8_given_56 ?_
    refine lv_if_ne (tgt := 64) hx hb dX8_given_57 (by decide) (fun c107 => ?_) (fun c107 => ?_)
    · have hk := ifn hk c107
      have hq := ifne hq c107
      refine lv_iconst (v := 2) hx hb dX8_given_64 (by decide) ?_
      exact b_65 s0 2 γ _ _ _ (lv_sub hl [1, 0] rfl) hH hS hk hq
    · have hk := ifp hk c107
      have hq := ifpe hq c107
      refine lv_iconst (v := 1) hx hb dX8_given_60 (by decide) ?_
      refine lv_goto (tgt := 65) hx hb dX8_given_61 (by decide) ?_
      exact b_65 s0 1 γ _ _ _ (lv_sub hl [1, 0] rfl) hH hS hk hq
  have b_39 : ∀ (a1 : Int32) (a2 : Int32) (γ : St) (H : Heap) (locs : List Loc) (ls : Array Slot), lv_has ls 7 [(0, .ref (kA κ 8 0)), (1, .int a1), (2, .int a2)] → HR κ γ H → va_S (AA κ) s.heap H locs → ok_X8_given_39 a1 a2 γ → x_X8_given_39 a1 a2 γ = res → W p l e (headSpec [Cond.code yX8_given cX8_given 7 (some .int)] ({ frames := 2, cells := 0, slots := 0, locals := 48 } : Room)).room s m ([.ref (kA κ 8 0)] : List Value).toArray below meth c H locs 0 0 (MQ below (QQ κ (res.2) (some (.int res.1))) ([.ref (kA κ 8 0)] : List Value).toArray s 0 0 (AA κ)) (F0 m 39 ls []) := by
    intro a1 a2 γ H locs ls hl hH hS hk hq
    refine lv_iload_n hx hb dX8_given_39 rfl (lv_at hl 1 rfl) ?_
    refine lv_iconst (v := (-1)) hx hb dX8_given_40 (by decide) ?_
    refine lv_icmp_ne (tgt := 48) hx hb dX8_given_41 (by decide) (fun c108 => ?_) (fun c108 => ?_)
    · have hk := ifn hk c108
      have hq := ifne hq c108
      refine lv_iload_n hx hb dX8_given_48 rfl (lv_at hl 1 rfl) ?_
      exact b_49 a1 γ _ _ _ (lv_sub hl [0] rfl) hH hS hk hq
    · have hk := ifp hk c108
      have hq := ifpe hq c108
      refine lv_iload_n hx hb dX8_given_44 rfl (lv_at hl 2 rfl) ?_
      refine lv_goto (tgt := 49) hx hb dX8_given_45 (by decide) ?_
      exact b_49 a2 γ _ _ _ (lv_sub hl [0] rfl) hH hS hk hq
  have b_269 : ∀ (a4 : Int32) (a5 : Int32) (s0 : Int32) (γ : St) (H : Heap) (locs : List Loc) (ls : Array Slot), lv_has ls 7 [(0, .ref (kA κ 8 0)), (4, .int a4), (5, .int a5)] → HR κ γ H → va_S (AA κ) s.heap H locs → ok_X8_given_269 a4 a5 s0 γ → x_X8_given_269 a4 a5 s0 γ = res → W p l e (headSpec [Cond.code yX8_given cX8_given 7 (some .int)] ({ frames := 2, cells := 0, slots := 0, locals := 48 } : Room)).room s m ([.ref (kA κ 8 0)] : List Value).toArray below meth c H locs 0 0 (MQ below (QQ κ (res.2) (some (.int res.1))) ([.ref (kA κ 8 0)] : List Value).toArray s 0 0 (AA κ)) (F0 m 269 ls [.int s0, .ref (kA κ 8 0)]) := by
    intro a4 a5 s0 γ H locs ls hl hH hS hk hq
    refine hp_put (v := .int s0) (C := RX8) (T := TX8) (N := 32) hC inX8 tyX8_ok nmX8 hH lv_8 rfl hS rfl 2 (by decide) tw_924 rfl rfl rfl rfl (Nat.le_of_ble_eq_true rfl) (sV γ 8 0 2 s0) (pe_8_2 _ _ 0 s0) (fun _ _ _ h => cel_sV h) (WT_sV hH.wt) dX8_given_269 (fun H locs hH hS => ?_)
    refine lv_aload_n hx hb dX8_given_272 rfl (lv_at hl 0 rfl) ?_
    refine hp_get (v := .ref (kA κ 35 0)) (C := RX8) (T := TX8) (N := 32) hC inX8 hH lv_8 rfl rfl 22 (by decide) tw_944 rfl rfl dX8_given_273 ?_
    refine lv_iload hx hb dX8_given_276 (lv_at hl 2 rfl) ?_
    obtain ⟨hi109, hk⟩ := hk
    refine hp_ald (v := gV γ 35 0 ((a5 : Int32).toNatClampNeg)) hC hH lv_35 rfl hi109 rfl dX8_given_278 ?_
    refine lv_if_ne (tgt := 289) hx hb dX8_given_279 (by decide) (fun c110 => ?_) (fun c110 => ?_)
    · have hk := ifn hk c110
      have hq := ifne hq c110
      refine lv_iconst (v := 0) hx hb dX8_given_289 (by decide) ?_
      subst hq
      exact kr_i hC hr hH hS rfl rfl dX8_given_290
    · have hk := ifp hk c110
      have hq := ifpe hq c110
      refine lv_iconst (v := 1) hx hb dX8_given_282 (by decide) ?_
      refine lv_iload hx hb dX8_given_283 (lv_at hl 1 rfl) ?_
      refine lv_ishl hx hb dX8_given_285 ?_
      refine lv_goto (tgt := 290) hx hb dX8_given_286 (by decide) ?_
      subst hq
      exact kr_i hC hr hH hS rfl rfl dX8_given_290
  have b_252 : ∀ (a4 : Int32) (a5 : Int32) (γ : St) (H : Heap) (locs : List Loc) (ls : Array Slot), lv_has ls 7 [(0, .ref (kA κ 8 0)), (4, .int a4), (5, .int a5)] → HR κ γ H → va_S (AA κ) s.heap H locs → ok_X8_given_252 a4 a5 γ → x_X8_given_252 a4 a5 γ = res → W p l e (headSpec [Cond.code yX8_given cX8_given 7 (some .int)] ({ frames := 2, cells := 0, slots := 0, locals := 48 } : Room)).room s m ([.ref (kA κ 8 0)] : List Value).toArray below meth c H locs 0 0 (MQ below (QQ κ (res.2) (some (.int res.1))) ([.ref (kA κ 8 0)] : List Value).toArray s 0 0 (AA κ)) (F0 m 252 ls []) := by
    intro a4 a5 γ H locs ls hl hH hS hk hq
    refine lv_aload_n hx hb dX8_given_252 rfl (lv_at hl 0 rfl) ?_
    refine lv_aload_n hx hb dX8_given_253 rfl (lv_at hl 0 rfl) ?_
    refine hp_get (v := .ref (kA κ 35 0)) (C := RX8) (T := TX8) (N := 32) hC inX8 hH lv_8 rfl rfl 22 (by decide) tw_944 rfl rfl dX8_given_254 ?_
    refine lv_iload hx hb dX8_given_257 (lv_at hl 2 rfl) ?_
    obtain ⟨hi111, hk⟩ := hk
    refine hp_ald (v := gV γ 35 0 ((a5 : Int32).toNatClampNeg)) hC hH lv_35 rfl hi111 rfl dX8_given_259 ?_
    refine lv_if_ne (tgt := 268) hx hb dX8_given_260 (by decide) (fun c112 => ?_) (fun c112 => ?_)
    · have hk := ifn hk c112
      have hq := ifne hq c112
      refine lv_iconst (v := 2) hx hb dX8_given_268 (by decide) ?_
      exact b_269 a4 a5 2 γ _ _ _ (lv_sub hl [0, 1, 2] rfl) hH hS hk hq
    · have hk := ifp hk c112
      have hq := ifpe hq c112
      refine lv_bipush (v := 6) hx hb dX8_given_263 (by decide) ?_
      refine lv_goto (tgt := 269) hx hb dX8_given_265 (by decide) ?_
      exact b_269 a4 a5 6 γ _ _ _ (lv_sub hl [0, 1, 2] rfl) hH hS hk hq
  have b_207 : ∀ (a4 : Int32) (a5 : Int32) (s0 : Int32) (γ : St) (H : Heap) (locs : List Loc) (ls : Array Slot), lv_has ls 7 [(0, .ref (kA κ 8 0)), (4, .int a4), (5, .int a5)] → HR κ γ H → va_S (AA κ) s.heap H locs → ok_X8_given_207 a4 a5 s0 γ → x_X8_given_207 a4 a5 s0 γ = res → W p l e (headSpec [Cond.code yX8_given cX8_given 7 (some .int)] ({ frames := 2, cells := 0, slots := 0, locals := 48 } : Room)).room s m ([.ref (kA κ 8 0)] : List Value).toArray below meth c H locs 0 0 (MQ below (QQ κ (res.2) (some (.int res.1))) ([.ref (kA κ 8 0)] : List Value).toArray s 0 0 (AA κ)) (F0 m 207 ls [.int s0]) := by
    intro a4 a5 s0 γ H locs ls hl hH hS hk hq
    refine lv_istore (lv' := [(6, .int s0), (0, .ref (kA κ 8 0)), (4, .int a4), (5, .int a5)]) hx hb dX8_given_207 hl (by decide) rfl (fun ls hl => ?_)
    refine lv_aload_n hx hb dX8_given_209 rfl (lv_at hl 1 rfl) ?_
    refine hp_get (v := .ref (kA κ 35 0)) (C := RX8) (T := TX8) (N := 32) hC inX8 hH lv_8 rfl rfl 22 (by decide) tw_944 rfl rfl dX8_given_210 ?_
    refine lv_iload hx hb dX8_given_213 (lv_at hl 0 rfl) ?_
    obtain ⟨hi113, hk⟩ := hk
    refine hp_ald (v := gV γ 35 0 ((s0 : Int32).toNatClampNeg)) hC hH lv_35 rfl hi113 rfl dX8_given_215 ?_
    refine lv_if_ne (tgt := 252) hx hb dX8_given_216 (by decide) (fun c114 => ?_) (fun c114 => ?_)
    · have hk := ifn hk c114
      have hq := ifne hq c114
      exact b_252 a4 a5 γ _ _ _ (lv_sub hl [1, 2, 3] rfl) hH hS hk hq
    · have hk := ifp hk c114
      have hq := ifpe hq c114
      refine lv_aload_n hx hb dX8_given_219 rfl (lv_at hl 1 rfl) ?_
      refine hp_get (v := .ref (kA κ 33 0)) (C := RX8) (T := TX8) (N := 32) hC inX8 hH lv_8 rfl rfl 20 (by decide) tw_942 rfl rfl dX8_given_220 ?_
      refine lv_iload hx hb dX8_given_223 (lv_at hl 3 rfl) ?_
      obtain ⟨hi115, hk⟩ := hk
      refine hp_ald (v := gV γ 33 0 ((a5 : Int32).toNatClampNeg)) hC hH lv_33 rfl hi115 rfl dX8_given_225 ?_
      refine lv_aload_n hx hb dX8_given_226 rfl (lv_at hl 1 rfl) ?_
      refine hp_get (v := .ref (kA κ 33 0)) (C := RX8) (T := TX8) (N := 32) hC inX8 hH lv_8 rfl rfl 20 (by decide) tw_942 rfl rfl dX8_given_227 ?_
      refine lv_iload hx hb dX8_given_230 (lv_at hl 0 rfl) ?_
      obtain ⟨hi116, hk⟩ := hk
      refine hp_ald (v := gV γ 33 0 ((s0 : Int32).toNatClampNeg)) hC hH lv_33 rfl hi116 rfl dX8_given_232 ?_
      refine lv_isub hx hb dX8_given_233 ?_
      refine lv_sipush (v := 150) hx hb dX8_given_234 (by decide) ?_
      refine lv_icmp_lt (tgt := 252) hx hb dX8_given_237 (by decide) (fun c117 => ?_) (fun c117 => ?_)
      · have hk := ifp hk c117
        have hq := ifpe hq c117
        exact b_252 a4 a5 γ _ _ _ (lv_sub hl [1, 2, 3] rfl) hH hS hk hq
      · have hk := ifn hk c117
        have hq := ifne hq c117
        refine lv_aload_n hx hb dX8_given_240 rfl (lv_at hl 1 rfl) ?_
        refine lv_iconst (v := 5) hx hb dX8_given_241 (by decide) ?_
        refine hp_put (v := .int 5) (C := RX8) (T := TX8) (N := 32) hC inX8 tyX8_ok nmX8 hH lv_8 rfl hS rfl 2 (by decide) tw_924 rfl rfl rfl rfl (Nat.le_of_ble_eq_true rfl) (sV γ 8 0 2 5) (pe_8_2 _ _ 0 5) (fun _ _ _ h => cel_sV h) (WT_sV hH.wt) dX8_given_242 (fun H locs hH hS => ?_)
        refine lv_iconst (v := 1) hx hb dX8_given_245 (by decide) ?_
        refine lv_iconst (v := 1) hx hb dX8_given_246 (by decide) ?_
        refine lv_iload hx hb dX8_given_247 (lv_at hl 2 rfl) ?_
        refine lv_isub hx hb dX8_given_249 ?_
        refine lv_ishl hx hb dX8_given_250 ?_
        subst hq
        exact kr_i hC hr hH hS rfl rfl dX8_given_251
  have b_195 : ∀ (a1 : Int32) (a2 : Int32) (a4 : Int32) (s0 : Int32) (γ : St) (H : Heap) (locs : List Loc) (ls : Array Slot), lv_has ls 7 [(0, .ref (kA κ 8 0)), (1, .int a1), (2, .int a2), (4, .int a4)] → HR κ γ H → va_S (AA κ) s.heap H locs → ok_X8_given_195 a1 a2 a4 s0 γ → x_X8_given_195 a1 a2 a4 s0 γ = res → W p l e (headSpec [Cond.code yX8_given cX8_given 7 (some .int)] ({ frames := 2, cells := 0, slots := 0, locals := 48 } : Room)).room s m ([.ref (kA κ 8 0)] : List Value).toArray below meth c H locs 0 0 (MQ below (QQ κ (res.2) (some (.int res.1))) ([.ref (kA κ 8 0)] : List Value).toArray s 0 0 (AA κ)) (F0 m 195 ls [.int s0]) := by
    intro a1 a2 a4 s0 γ H locs ls hl hH hS hk hq
    refine lv_istore (lv' := [(5, .int s0), (0, .ref (kA κ 8 0)), (1, .int a1), (2, .int a2), (4, .int a4)]) hx hb dX8_given_195 hl (by decide) rfl (fun ls hl => ?_)
    refine lv_iload hx hb dX8_given_197 (lv_at hl 4 rfl) ?_
    refine lv_if_ne (tgt := 206) hx hb dX8_given_199 (by decide) (fun c118 => ?_) (fun c118 => ?_)
    · have hk := ifn hk c118
      have hq := ifne hq c118
      refine lv_iload_n hx hb dX8_given_206 rfl (lv_at hl 2 rfl) ?_
      exact b_207 a4 s0 a1 γ _ _ _ (lv_sub hl [1, 4, 0] rfl) hH hS hk hq
    · have hk := ifp hk c118
      have hq := ifpe hq c118
      refine lv_iload_n hx hb dX8_given_202 rfl (lv_at hl 3 rfl) ?_
      refine lv_goto (tgt := 207) hx hb dX8_given_203 (by decide) ?_
      exact b_207 a4 s0 a2 γ _ _ _ (lv_sub hl [1, 4, 0] rfl) hH hS hk hq
  have b_170 : ∀ (a1 : Int32) (a2 : Int32) (s0 : Int32) (γ : St) (H : Heap) (locs : List Loc) (ls : Array Slot), lv_has ls 7 [(0, .ref (kA κ 8 0)), (1, .int a1), (2, .int a2)] → HR κ γ H → va_S (AA κ) s.heap H locs → ok_X8_given_170 a1 a2 s0 γ → x_X8_given_170 a1 a2 s0 γ = res → W p l e (headSpec [Cond.code yX8_given cX8_given 7 (some .int)] ({ frames := 2, cells := 0, slots := 0, locals := 48 } : Room)).room s m ([.ref (kA κ 8 0)] : List Value).toArray below meth c H locs 0 0 (MQ below (QQ κ (res.2) (some (.int res.1))) ([.ref (kA κ 8 0)] : List Value).toArray s 0 0 (AA κ)) (F0 m 170 ls [.int s0]) := by
    intro a1 a2 s0 γ H locs ls hl hH hS hk hq
    refine lv_istore (lv' := [(4, .int s0), (0, .ref (kA κ 8 0)), (1, .int a1), (2, .int a2)]) hx hb dX8_given_170 hl (by decide) rfl (fun ls hl => ?_)
    refine lv_iload hx hb dX8_given_172 (lv_at hl 0 rfl) ?_
    refine lv_iconst (v := (-1)) hx hb dX8_given_174 (by decide) ?_
    refine lv_icmp_ne (tgt := 185) hx hb dX8_given_175 (by decide) (fun c119 => ?_) (fun c119 => ?_)
    · have hk := ifn hk c119
      have hq := ifne hq c119
      refine lv_iload hx hb dX8_given_185 (lv_at hl 0 rfl) ?_
      refine lv_if_ne (tgt := 194) hx hb dX8_given_187 (by decide) (fun c120 => ?_) (fun c120 => ?_)
      · have hk := ifn hk c120
        have hq := ifne hq c120
        refine lv_iload_n hx hb dX8_given_194 rfl (lv_at hl 3 rfl) ?_
        exact b_195 a1 a2 s0 a2 γ _ _ _ (lv_sub hl [1, 2, 3, 0] rfl) hH hS hk hq
      · have hk := ifp hk c120
        have hq := ifpe hq c120
        refine lv_iload_n hx hb dX8_given_190 rfl (lv_at hl 2 rfl) ?_
        refine lv_goto (tgt := 195) hx hb dX8_given_191 (by decide) ?_
        exact b_195 a1 a2 s0 a1 γ _ _ _ (lv_sub hl [1, 2, 3, 0] rfl) hH hS hk hq
    · have hk := ifp hk c119
      have hq := ifpe hq c119
      refine lv_aload_n hx hb dX8_given_178 rfl (lv_at hl 1 rfl) ?_
      refine lv_iconst (v := 4) hx hb dX8_given_179 (by decide) ?_
      refine hp_put (v := .int 4) (C := RX8) (T := TX8) (N := 32) hC inX8 tyX8_ok nmX8 hH lv_8 rfl hS rfl 2 (by decide) tw_924 rfl rfl rfl rfl (Nat.le_of_ble_eq_true rfl) (sV γ 8 0 2 4) (pe_8_2 _ _ 0 4) (fun _ _ _ h => cel_sV h) (WT_sV hH.wt) dX8_given_180 (fun H locs hH hS => ?_)
      refine lv_iconst (v := 0) hx hb dX8_given_183 (by decide) ?_
      subst hq
      exact kr_i hC hr hH hS rfl rfl dX8_given_184
  have b_167 : ∀ (a1 : Int32) (a2 : Int32) (s0 : Int32) (γ : St) (H : Heap) (locs : List Loc) (ls : Array Slot), lv_has ls 7 [(0, .ref (kA κ 8 0)), (1, .int a1), (2, .int a2)] → HR κ γ H → va_S (AA κ) s.heap H locs → ok_X8_given_167 a1 a2 s0 γ → x_X8_given_167 a1 a2 s0 γ = res → W p l e (headSpec [Cond.code yX8_given cX8_given 7 (some .int)] ({ frames := 2, cells := 0, slots := 0, locals := 48 } : Room)).room s m ([.ref (kA κ 8 0)] : List Value).toArray below meth c H locs 0 0 (MQ below (QQ κ (res.2) (some (.int res.1))) ([.ref (kA κ 8 0)] : List Value).toArray s 0 0 (AA κ)) (F0 m 167 ls [.int s0, .ref (kA κ 8 0)]) := by
    intro a1 a2 s0 γ H locs ls hl hH hS hk hq
    obtain ⟨hc121, hk⟩ := hk
    refine k_callV (C := RX8) (T := TX8) (N := 32) (rest := []) hC hl hH hS (c_X8_rights l κ γ s0 hc121) lv_8 rfl rfl tw_1084 tw_1086 tw_43 tw_62 tw_1087 hd_X8_rights ⟨Nat.le_of_ble_eq_true rfl, Nat.le_of_ble_eq_true rfl⟩ rfl rfl rfl rfl (Nat.le_of_ble_eq_true rfl) dX8_given_167 ⟨Nat.le_of_ble_eq_true rfl, Nat.le_of_ble_eq_true rfl⟩ rfl (fun H locs hH hS => ?_)
    exact b_170 a1 a2 ((x_X8_rights s0 γ).1) (x_X8_rights s0 γ).2 _ _ _ (lv_sub hl [0, 1, 2] rfl) hH hS hk hq
  have b_154 : ∀ (γ : St) (H : Heap) (locs : List Loc) (ls : Array Slot), lv_has ls 7 [] → HR κ γ H → va_S (AA κ) s.heap H locs → ok_X8_given_154 γ → x_X8_given_154 γ = res → W p l e (headSpec [Cond.code yX8_given cX8_given 7 (some .int)] ({ frames := 2, cells := 0, slots := 0, locals := 48 } : Room)).room s m ([.ref (kA κ 8 0)] : List Value).toArray below meth c H locs 0 0 (MQ below (QQ κ (res.2) (some (.int res.1))) ([.ref (kA κ 8 0)] : List Value).toArray s 0 0 (AA κ)) (F0 m 154 ls []) := by
    intro  γ H locs ls hl hH hS hk hq
    refine lv_iconst (v := 3) hx hb dX8_given_154 (by decide) ?_
    subst hq
    exact kr_i hC hr hH hS rfl rfl dX8_given_155
  have b_29 : ∀ (a1 : Int32) (a2 : Int32) (γ : St) (H : Heap) (locs : List Loc) (ls : Array Slot), lv_has ls 7 [(0, .ref (kA κ 8 0)), (1, .int a1), (2, .int a2)] → HR κ γ H → va_S (AA κ) s.heap H locs → ok_X8_given_29 a1 a2 γ → x_X8_given_29 a1 a2 γ = res → W p l e (headSpec [Cond.code yX8_given cX8_given 7 (some .int)] ({ frames := 2, cells := 0, slots := 0, locals := 48 } : Room)).room s m ([.ref (kA κ 8 0)] : List Value).toArray below meth c H locs 0 0 (MQ below (QQ κ (res.2) (some (.int res.1))) ([.ref (kA κ 8 0)] : List Value).toArray s 0 0 (AA κ)) (F0 m 29 ls []) := by
    intro a1 a2 γ H locs ls hl hH hS hk hq
    refine lv_iload_n hx hb dX8_given_29 rfl (lv_at hl 1 rfl) ?_
    refine lv_iconst (v := (-1)) hx hb dX8_given_30 (by decide) ?_
    refine lv_icmp_eq (tgt := 39) hx hb dX8_given_31 (by decide) (fun c122 => ?_) (fun c122 => ?_)
    · have hk := ifp hk c122
      have hq := ifpe hq c122
      exact b_39 a1 a2 γ _ _ _ (lv_sub hl [0, 1, 2] rfl) hH hS hk hq
    · have hk := ifn hk c122
      have hq := ifne hq c122
      refine lv_iload_n hx hb dX8_given_34 rfl (lv_at hl 2 rfl) ?_
      refine lv_iconst (v := (-1)) hx hb dX8_given_35 (by decide) ?_
      refine lv_icmp_ne (tgt := 90) hx hb dX8_given_36 (by decide) (fun c123 => ?_) (fun c123 => ?_)
      · have hk := ifn hk c123
        have hq := ifne hq c123
        refine lv_aload_n hx hb dX8_given_90 rfl (lv_at hl 0 rfl) ?_
        refine hp_get (v := .int (gV γ 8 0 4)) (C := RX8) (T := TX8) (N := 32) hC inX8 hH lv_8 rfl rfl 4 (by decide) tw_926 rfl rfl dX8_given_91 ?_
        refine lv_istore_n (lv' := [(3, .int (gV γ 8 0 4)), (0, .ref (kA κ 8 0)), (1, .int a1), (2, .int a2)]) hx hb dX8_given_94 rfl hl (by decide) rfl (fun ls hl => ?_)
        refine lv_aload_n hx hb dX8_given_95 rfl (lv_at hl 1 rfl) ?_
        refine hp_get (v := .ref (kA κ 22 0)) (C := RX8) (T := TX8) (N := 32) hC inX8 hH lv_8 rfl rfl 7 (by decide) tw_929 rfl rfl dX8_given_96 ?_
        refine lv_iload_n hx hb dX8_given_99 rfl (lv_at hl 0 rfl) ?_
        obtain ⟨hi124, hk⟩ := hk
        refine hp_ald (v := gV γ 22 0 ((gV γ 8 0 4 : Int32).toNatClampNeg)) hC hH lv_22 rfl hi124 rfl dX8_given_100 ?_
        refine lv_iconst (v := 1) hx hb dX8_given_101 (by decide) ?_
        refine lv_icmp_ne (tgt := 156) hx hb dX8_given_102 (by decide) (fun c125 => ?_) (fun c125 => ?_)
        · have hk := ifn hk c125
          have hq := ifne hq c125
          refine lv_aload_n hx hb dX8_given_156 rfl (lv_at hl 1 rfl) ?_
          refine lv_iload_n hx hb dX8_given_157 rfl (lv_at hl 2 rfl) ?_
          refine lv_iload_n hx hb dX8_given_158 rfl (lv_at hl 3 rfl) ?_
          refine lv_icmp_le (tgt := 166) hx hb dX8_given_159 (by decide) (fun c126 => ?_) (fun c126 => ?_)
          · have hk := ifp hk c126
            have hq := ifpe hq c126
            refine lv_iload_n hx hb dX8_given_166 rfl (lv_at hl 3 rfl) ?_
            exact b_167 a1 a2 a2 γ _ _ _ (lv_sub hl [1, 2, 3] rfl) hH hS hk hq
          · have hk := ifn hk c126
            have hq := ifne hq c126
            refine lv_iload_n hx hb dX8_given_162 rfl (lv_at hl 2 rfl) ?_
            refine lv_goto (tgt := 167) hx hb dX8_given_163 (by decide) ?_
            exact b_167 a1 a2 a1 γ _ _ _ (lv_sub hl [1, 2, 3] rfl) hH hS hk hq
        · have hk := ifp hk c125
          have hq := ifpe hq c125
          refine lv_aload_n hx hb dX8_given_105 rfl (lv_at hl 1 rfl) ?_
          refine lv_iconst (v := 3) hx hb dX8_given_106 (by decide) ?_
          refine hp_put (v := .int 3) (C := RX8) (T := TX8) (N := 32) hC inX8 tyX8_ok nmX8 hH lv_8 rfl hS rfl 2 (by decide) tw_924 rfl rfl rfl rfl (Nat.le_of_ble_eq_true rfl) (sV γ 8 0 2 3) (pe_8_2 _ _ 0 3) (fun _ _ _ h => cel_sV h) (WT_sV hH.wt) dX8_given_107 (fun H locs hH hS => ?_)
          refine lv_aload_n hx hb dX8_given_110 rfl (lv_at hl 1 rfl) ?_
          refine hp_get (v := .ref (kA κ 21 0)) (C := RX8) (T := TX8) (N := 32) hC inX8 hH lv_8 rfl rfl 6 (by decide) tw_928 rfl rfl dX8_given_111 ?_
          refine lv_iconst (v := 2) hx hb dX8_given_114 (by decide) ?_
          refine lv_iload_n hx hb dX8_given_115 rfl (lv_at hl 0 rfl) ?_
          refine lv_imul hx hb dX8_given_116 ?_
          obtain ⟨hi127, hk⟩ := hk
          refine hp_ald (v := gV γ 21 0 ((2 * (gV γ 8 0 4) : Int32).toNatClampNeg)) hC hH lv_21 rfl hi127 rfl dX8_given_117 ?_
          refine lv_iconst (v := 1) hx hb dX8_given_118 (by decide) ?_
          refine lv_iadd hx hb dX8_given_119 ?_
          refine lv_aload_n hx hb dX8_given_120 rfl (lv_at hl 1 rfl) ?_
          refine hp_get (v := .ref (kA κ 23 0)) (C := RX8) (T := TX8) (N := 32) hC inX8 hH lv_8 rfl rfl 8 (by decide) tw_930 rfl rfl dX8_given_121 ?_
          refine lv_iload_n hx hb dX8_given_124 rfl (lv_at hl 0 rfl) ?_
          obtain ⟨hi128, hk⟩ := hk
          refine hp_ald (v := gV γ 23 0 ((gV γ 8 0 4 : Int32).toNatClampNeg)) hC hH lv_23 rfl hi128 rfl dX8_given_125 ?_
          refine lv_icmp_lt (tgt := 154) hx hb dX8_given_126 (by decide) (fun c129 => ?_) (fun c129 => ?_)
          · have hk := ifp hk c129
            have hq := ifpe hq c129
            exact b_154 (sV γ 8 0 2 3) _ _ _ (lv_sub hl [] rfl) hH hS hk hq
          · have hk := ifn hk c129
            have hq := ifne hq c129
            refine lv_aload_n hx hb dX8_given_129 rfl (lv_at hl 1 rfl) ?_
            refine hp_get (v := .ref (kA κ 21 0)) (C := RX8) (T := TX8) (N := 32) hC inX8 hH lv_8 rfl rfl 6 (by decide) tw_928 rfl rfl dX8_given_130 ?_
            refine lv_iconst (v := 2) hx hb dX8_given_133 (by decide) ?_
            refine lv_iload_n hx hb dX8_given_134 rfl (lv_at hl 0 rfl) ?_
            refine lv_imul hx hb dX8_given_135 ?_
            refine lv_iconst (v := 1) hx hb dX8_given_136 (by decide) ?_
            refine lv_iadd hx hb dX8_given_137 ?_
            obtain ⟨hi130, hk⟩ := hk
            refine hp_ald (v := gV γ 21 0 (((2 * (gV γ 8 0 4)) + 1 : Int32).toNatClampNeg)) hC hH lv_21 rfl hi130 rfl dX8_given_138 ?_
            refine lv_iconst (v := 1) hx hb dX8_given_139 (by decide) ?_
            refine lv_iadd hx hb dX8_given_140 ?_
            refine lv_aload_n hx hb dX8_given_141 rfl (lv_at hl 1 rfl) ?_
            refine hp_get (v := .ref (kA κ 23 0)) (C := RX8) (T := TX8) (N := 32) hC inX8 hH lv_8 rfl rfl 8 (by decide) tw_930 rfl rfl dX8_given_142 ?_
            refine lv_iload_n hx hb dX8_given_145 rfl (lv_at hl 0 rfl) ?_
            obtain ⟨hi131, hk⟩ := hk
            refine hp_ald (v := gV γ 23 0 ((gV γ 8 0 4 : Int32).toNatClampNeg)) hC hH lv_23 rfl hi131 rfl dX8_given_146 ?_
            refine lv_icmp_lt (tgt := 154) hx hb dX8_given_147 (by decide) (fun c132 => ?_) (fun c132 => ?_)
            · have hk := ifp hk c132
              have hq := ifpe hq c132
              exact b_154 (sV γ 8 0 2 3) _ _ _ (lv_sub hl [] rfl) hH hS hk hq
            · have hk := ifn hk c132
              have hq := ifne hq c132
              refine lv_iconst (v := 0) hx hb dX8_given_150 (by decide) ?_
              refine lv_goto (tgt := 155) hx hb dX8_given_151 (by decide) ?_
              subst hq
              exact kr_i hC hr hH hS rfl rfl dX8_given_155
      · have hk := ifp hk c123
        have hq := ifpe hq c123
        exact b_39 a1 a2 γ _ _ _ (lv_sub hl [0, 1, 2] rfl) hH hS hk hq
  refine lv_aload_n hx hb dX8_given_0 rfl (lv_at hl 0 rfl) ?_
  refine lv_iconst (v := 0) hx hb dX8_given_1 (by decide) ?_
  obtain ⟨hc133, hk⟩ := hk
  refine k_callV (C := RX8) (T := TX8) (N := 32) (rest := []) hC hl hH hS (c_X8_registered l κ γ 0 hc133) lv_8 rfl rfl tw_1074 tw_1076 tw_42 tw_62 tw_1077 hd_X8_registered ⟨Nat.le_of_ble_eq_true rfl, Nat.le_of_ble_eq_true rfl⟩ rfl rfl rfl rfl (Nat.le_of_ble_eq_true rfl) dX8_given_2 ⟨Nat.le_of_ble_eq_true rfl, Nat.le_of_ble_eq_true rfl⟩ rfl (fun H locs hH hS => ?_)
  refine lv_istore_n (lv' := [(1, .int ((x_X8_registered 0 γ))), (0, .ref (kA κ 8 0))]) hx hb dX8_given_5 rfl hl (by decide) rfl (fun ls hl => ?_)
  refine lv_aload_n hx hb dX8_given_6 rfl (lv_at hl 1 rfl) ?_
  refine lv_iconst (v := 1) hx hb dX8_given_7 (by decide) ?_
  obtain ⟨hc134, hk⟩ := hk
  refine k_callV (C := RX8) (T := TX8) (N := 32) (rest := []) hC hl hH hS (c_X8_registered l κ γ 1 hc134) lv_8 rfl rfl tw_1074 tw_1076 tw_42 tw_62 tw_1077 hd_X8_registered ⟨Nat.le_of_ble_eq_true rfl, Nat.le_of_ble_eq_true rfl⟩ rfl rfl rfl rfl (Nat.le_of_ble_eq_true rfl) dX8_given_8 ⟨Nat.le_of_ble_eq_true rfl, Nat.le_of_ble_eq_true rfl⟩ rfl (fun H locs hH hS => ?_)
  refine lv_istore_n (lv' := [(2, .int ((x_X8_registered 1 γ))), (1, .int ((x_X8_registered 0 γ))), (0, .ref (kA κ 8 0))]) hx hb dX8_given_11 rfl hl (by decide) rfl (fun ls hl => ?_)
  refine lv_iload_n hx hb dX8_given_12 rfl (lv_at hl 1 rfl) ?_
  refine lv_iconst (v := (-1)) hx hb dX8_given_13 (by decide) ?_
  refine lv_icmp_ne (tgt := 29) hx hb dX8_given_14 (by decide) (fun c135 => ?_) (fun c135 => ?_)
  · have hk := ifn hk c135
    have hq := ifne hq c135
    exact b_29 ((x_X8_registered 0 γ)) ((x_X8_registered 1 γ)) γ _ _ _ (lv_sub hl [2, 1, 0] rfl) hH hS hk hq
  · have hk := ifp hk c135
    have hq := ifpe hq c135
    refine lv_iload_n hx hb dX8_given_17 rfl (lv_at hl 0 rfl) ?_
    refine lv_iconst (v := (-1)) hx hb dX8_given_18 (by decide) ?_
    refine lv_icmp_ne (tgt := 29) hx hb dX8_given_19 (by decide) (fun c136 => ?_) (fun c136 => ?_)
    · have hk := ifn hk c136
      have hq := ifne hq c136
      exact b_29 ((x_X8_registered 0 γ)) ((x_X8_registered 1 γ)) γ _ _ _ (lv_sub hl [2, 1, 0] rfl) hH hS hk hq
    · have hk := ifp hk c136
      have hq := ifpe hq c136
      refine lv_aload_n hx hb dX8_given_22 rfl (lv_at hl 2 rfl) ?_
      refine lv_iconst (v := 0) hx hb dX8_given_23 (by decide) ?_
      refine hp_put (v := .int 0) (C := RX8) (T := TX8) (N := 32) hC inX8 tyX8_ok nmX8 hH lv_8 rfl hS rfl 2 (by decide) tw_924 rfl rfl rfl rfl (Nat.le_of_ble_eq_true rfl) (sV γ 8 0 2 0) (pe_8_2 _ _ 0 0) (fun _ _ _ h => cel_sV h) (WT_sV hH.wt) dX8_given_24 (fun H locs hH hS => ?_)
      refine lv_iconst (v := 0) hx hb dX8_given_27 (by decide) ?_
      subst hq
      exact kr_i hC hr hH hS rfl rfl dX8_given_28
set_option maxRecDepth 20000 in
set_option maxHeartbeats 4000000 in
theorem c_X8_judge (l : Launch) (κ : KP) (γ : St) (hk : ok_X8_judge γ) : Met l yX8_judge [Cond.code yX8_judge cX8_judge 2 (some .int)] ({ frames := 3, cells := 0, slots := 0, locals := 74 } : Room) (va_Pc [.ref (kA κ 8 0)] (GG κ γ)) (QQ κ (((x_X8_judge γ)).2) (some (.int (((x_X8_judge γ)).1)))) 0 0 (AA κ) := by
  generalize hq : x_X8_judge γ = res
  refine Met.ofW (cc := cX8_judge) (maxL := 2) (ret := (some .int)) (by decide) rfl ?_
  intro p e s m args below meth c s₁ B hml9 hv
  obtain ⟨rfl, hH, hK9, hB9, hX9, hZ9⟩ := hv
  have hC : CX κ cX8_judge "PhrasehallModel" 2 p l s m ([.ref (kA κ 8 0)] : List Value).toArray meth c := ⟨B.exec, B.bytes, findClass_of_methodNamed B.named, fun w hw => tw_use (List.mem_filter.mp hw).2 (State.WarmedH.refl s) (hX9.1 w hw), hK9, hX9, hZ9, hB9, hml9, B.notSynchronized⟩
  obtain ⟨hx, hb, hown, hT, -, -, -, -, hml, -⟩ := id hC
  have hr := B.returns
  have hS : va_S (AA κ) s.heap s.heap [] := va_S.rf
  have hl := lv_entry ([.ref (kA κ 8 0)]) (n := 2) (Nat.le_of_ble_eq_true rfl)
  rw [lg_entry_eq]
  generalize (lg_sl ([.ref (kA κ 8 0)]) ++ List.replicate (2 - (lg_sl ([.ref (kA κ 8 0)])).length) Slot.unset).toArray = ls at hl ⊢
  have hl : lv_has ls 2 [(0, .ref (kA κ 8 0))] := hl
  have b_57 : ∀ (a1 : Int32) (γ : St) (H : Heap) (locs : List Loc) (ls : Array Slot), lv_has ls 2 [(1, .int a1)] → HR κ γ H → va_S (AA κ) s.heap H locs → ok_X8_judge_57 a1 γ → x_X8_judge_57 a1 γ = res → W p l e (headSpec [Cond.code yX8_judge cX8_judge 2 (some .int)] ({ frames := 3, cells := 0, slots := 0, locals := 74 } : Room)).room s m ([.ref (kA κ 8 0)] : List Value).toArray below meth c H locs 0 0 (MQ below (QQ κ (res.2) (some (.int res.1))) ([.ref (kA κ 8 0)] : List Value).toArray s 0 0 (AA κ)) (F0 m 57 ls []) := by
    intro a1 γ H locs ls hl hH hS hk hq
    refine lv_iload_n hx hb dX8_judge_57 rfl (lv_at hl 0 rfl) ?_
    subst hq
    exact kr_i hC hr hH hS rfl rfl dX8_judge_58
  have b_49 : ∀ (a1 : Int32) (s0 : Int32) (γ : St) (H : Heap) (locs : List Loc) (ls : Array Slot), lv_has ls 2 [(0, .ref (kA κ 8 0)), (1, .int a1)] → HR κ γ H → va_S (AA κ) s.heap H locs → ok_X8_judge_49 a1 s0 γ → x_X8_judge_49 a1 s0 γ = res → W p l e (headSpec [Cond.code yX8_judge cX8_judge 2 (some .int)] ({ frames := 3, cells := 0, slots := 0, locals := 74 } : Room)).room s m ([.ref (kA κ 8 0)] : List Value).toArray below meth c H locs 0 0 (MQ below (QQ κ (res.2) (some (.int res.1))) ([.ref (kA κ 8 0)] : List Value).toArray s 0 0 (AA κ)) (F0 m 49 ls [.int s0, .ref (kA κ 8 0)]) := by
    intro a1 s0 γ H locs ls hl hH hS hk hq
    refine hp_put (v := .int s0) (C := RX8) (T := TX8) (N := 32) hC inX8 tyX8_ok nmX8 hH lv_8 rfl hS rfl 14 (by decide) tw_936 rfl rfl rfl rfl (Nat.le_of_ble_eq_true rfl) (sV γ 8 0 14 s0) (pe_8_14 _ _ 0 s0) (fun _ _ _ h => cel_sV h) (WT_sV hH.wt) dX8_judge_49 (fun H locs hH hS => ?_)
    refine lv_aload_n hx hb dX8_judge_52 rfl (lv_at hl 0 rfl) ?_
    refine lv_iload_n hx hb dX8_judge_53 rfl (lv_at hl 1 rfl) ?_
    obtain ⟨hc16, hk⟩ := hk
    refine k_callV (C := RX8) (T := TX8) (N := 32) (rest := []) hC hl hH hS (c_X8_gives l κ (sV γ 8 0 14 s0) a1 hc16) lv_8 rfl rfl tw_1088 tw_1090 tw_44 tw_62 tw_1091 hd_X8_gives ⟨Nat.le_of_ble_eq_true rfl, Nat.le_of_ble_eq_true rfl⟩ rfl rfl rfl rfl (Nat.le_of_ble_eq_true rfl) dX8_judge_54 ⟨Nat.le_of_ble_eq_true rfl, Nat.le_of_ble_eq_true rfl⟩ rfl (fun H locs hH hS => ?_)
    exact b_57 a1 (x_X8_gives a1 (sV γ 8 0 14 s0)) _ _ _ (lv_sub hl [1] rfl) hH hS hk hq
  have b_30 : ∀ (s0 : Int32) (γ : St) (H : Heap) (locs : List Loc) (ls : Array Slot), lv_has ls 2 [(0, .ref (kA κ 8 0))] → HR κ γ H → va_S (AA κ) s.heap H locs → ok_X8_judge_30 s0 γ → x_X8_judge_30 s0 γ = res → W p l e (headSpec [Cond.code yX8_judge cX8_judge 2 (some .int)] ({ frames := 3, cells := 0, slots := 0, locals := 74 } : Room)).room s m ([.ref (kA κ 8 0)] : List Value).toArray below meth c H locs 0 0 (MQ below (QQ κ (res.2) (some (.int res.1))) ([.ref (kA κ 8 0)] : List Value).toArray s 0 0 (AA κ)) (F0 m 30 ls [.int s0]) := by
    intro s0 γ H locs ls hl hH hS hk hq
    refine lv_istore_n (lv' := [(1, .int s0), (0, .ref (kA κ 8 0))]) hx hb dX8_judge_30 rfl hl (by decide) rfl (fun ls hl => ?_)
    refine lv_aload_n hx hb dX8_judge_31 rfl (lv_at hl 1 rfl) ?_
    refine lv_iconst (v := 0) hx hb dX8_judge_32 (by decide) ?_
    refine hp_put (v := .int 0) (C := RX8) (T := TX8) (N := 32) hC inX8 tyX8_ok nmX8 hH lv_8 rfl hS rfl 17 (by decide) tw_939 rfl rfl rfl rfl (Nat.le_of_ble_eq_true rfl) (sV γ 8 0 17 0) (pe_8_17 _ _ 0 0) (fun _ _ _ h => cel_sV h) (WT_sV hH.wt) dX8_judge_33 (fun H locs hH hS => ?_)
    refine lv_aload_n hx hb dX8_judge_36 rfl (lv_at hl 1 rfl) ?_
    refine lv_iload_n hx hb dX8_judge_37 rfl (lv_at hl 0 rfl) ?_
    refine lv_if_le (tgt := 45) hx hb dX8_judge_38 (by decide) (fun c17 => ?_) (fun c17 => ?_)
    · have hk := ifp hk c17
      have hq := ifpe hq c17
      refine lv_aload_n hx hb dX8_judge_45 rfl (lv_at hl 1 rfl) ?_
      refine hp_get (v := .int (gV γ 8 0 14)) (C := RX8) (T := TX8) (N := 32) hC inX8 hH lv_8 rfl rfl 14 (by decide) tw_936 rfl rfl dX8_judge_46 ?_
      exact b_49 s0 (gV γ 8 0 14) (sV γ 8 0 17 0) _ _ _ (lv_sub hl [1, 0] rfl) hH hS hk hq
    · have hk := ifn hk c17
      have hq := ifne hq c17
      refine lv_iconst (v := 0) hx hb dX8_judge_41 (by decide) ?_
      refine lv_goto (tgt := 49) hx hb dX8_judge_42 (by decide) ?_
      exact b_49 s0 0 (sV γ 8 0 17 0) _ _ _ (lv_sub hl [1, 0] rfl) hH hS hk hq
  have b_14 : ∀ (s0 : Int32) (γ : St) (H : Heap) (locs : List Loc) (ls : Array Slot), lv_has ls 2 [(0, .ref (kA κ 8 0))] → HR κ γ H → va_S (AA κ) s.heap H locs → ok_X8_judge_14 s0 γ → x_X8_judge_14 s0 γ = res → W p l e (headSpec [Cond.code yX8_judge cX8_judge 2 (some .int)] ({ frames := 3, cells := 0, slots := 0, locals := 74 } : Room)).room s m ([.ref (kA κ 8 0)] : List Value).toArray below meth c H locs 0 0 (MQ below (QQ κ (res.2) (some (.int res.1))) ([.ref (kA κ 8 0)] : List Value).toArray s 0 0 (AA κ)) (F0 m 14 ls [.int s0, .ref (kA κ 8 0)]) := by
    intro s0 γ H locs ls hl hH hS hk hq
    refine hp_put (v := .int s0) (C := RX8) (T := TX8) (N := 32) hC inX8 tyX8_ok nmX8 hH lv_8 rfl hS rfl 31 (by decide) tw_953 rfl rfl rfl rfl (Nat.le_of_ble_eq_true rfl) (sV γ 8 0 31 s0) (pe_8_31 _ _ 0 s0) (fun _ _ _ h => cel_sV h) (WT_sV hH.wt) dX8_judge_14 (fun H locs hH hS => ?_)
    refine lv_aload_n hx hb dX8_judge_17 rfl (lv_at hl 0 rfl) ?_
    refine hp_get (v := .int s0) (C := RX8) (T := TX8) (N := 32) hC inX8 hH lv_8 rfl rfl 31 (by decide) tw_953 rfl rfl dX8_judge_18 ?_
    refine lv_if_le (tgt := 26) hx hb dX8_judge_21 (by decide) (fun c18 => ?_) (fun c18 => ?_)
    · have hk := ifp hk c18
      have hq := ifpe hq c18
      refine lv_aload_n hx hb dX8_judge_26 rfl (lv_at hl 0 rfl) ?_
      obtain ⟨hc19, hk⟩ := hk
      refine k_callV (C := RX8) (T := TX8) (N := 32) (rest := []) hC hl hH hS (c_X8_given l κ (sV γ 8 0 31 s0) hc19) lv_8 rfl rfl tw_1070 tw_1072 tw_41 tw_62 tw_1073 hd_X8_given ⟨Nat.le_of_ble_eq_true rfl, Nat.le_of_ble_eq_true rfl⟩ rfl rfl rfl rfl (Nat.le_of_ble_eq_true rfl) dX8_judge_27 ⟨Nat.le_of_ble_eq_true rfl, Nat.le_of_ble_eq_true rfl⟩ rfl (fun H locs hH hS => ?_)
      exact b_30 ((x_X8_given (sV γ 8 0 31 s0)).1) (x_X8_given (sV γ 8 0 31 s0)).2 _ _ _ (lv_sub hl [0] rfl) hH hS hk hq
    · have hk := ifn hk c18
      have hq := ifne hq c18
      refine lv_iconst (v := 0) hx hb dX8_judge_24 (by decide) ?_
      subst hq
      exact kr_i hC hr hH hS rfl rfl dX8_judge_25
  refine lv_aload_n hx hb dX8_judge_0 rfl (lv_at hl 0 rfl) ?_
  refine lv_aload_n hx hb dX8_judge_1 rfl (lv_at hl 0 rfl) ?_
  refine hp_get (v := .int (gV γ 8 0 4)) (C := RX8) (T := TX8) (N := 32) hC inX8 hH lv_8 rfl rfl 4 (by decide) tw_926 rfl rfl dX8_judge_2 ?_
  refine lv_iconst (v := (-1)) hx hb dX8_judge_5 (by decide) ?_
  refine lv_icmp_ne (tgt := 13) hx hb dX8_judge_6 (by decide) (fun c20 => ?_) (fun c20 => ?_)
  · have hk := ifn hk c20
    have hq := ifne hq c20
    refine lv_iconst (v := 0) hx hb dX8_judge_13 (by decide) ?_
    exact b_14 0 γ _ _ _ (lv_sub hl [0] rfl) hH hS hk hq
  · have hk := ifp hk c20
    have hq := ifpe hq c20
    refine lv_iconst (v := 1) hx hb dX8_judge_9 (by decide) ?_
    refine lv_goto (tgt := 14) hx hb dX8_judge_10 (by decide) ?_
    exact b_14 1 γ _ _ _ (lv_sub hl [0] rfl) hH hS hk hq
set_option maxRecDepth 20000 in
set_option maxHeartbeats 4000000 in
theorem c_X8_card (l : Launch) (κ : KP) (γ : St) (y1 : Int32) (y2 : Int32) (hk : ok_X8_card y1 y2 γ) : Met l yX8_card [Cond.code yX8_card cX8_card 4 (some .int)] ({ frames := 2, cells := 0, slots := 0, locals := 46 } : Room) (va_Pc [.ref (kA κ 8 0), .int y1, .int y2] (GG κ γ)) (QQ κ (((x_X8_card y1 y2 γ)).2) (some (.int (((x_X8_card y1 y2 γ)).1)))) 0 0 (AA κ) := by
  generalize hq : x_X8_card y1 y2 γ = res
  refine Met.ofW (cc := cX8_card) (maxL := 4) (ret := (some .int)) (by decide) rfl ?_
  intro p e s m args below meth c s₁ B hml9 hv
  obtain ⟨rfl, hH, hK9, hB9, hX9, hZ9⟩ := hv
  have hC : CX κ cX8_card "PhrasehallModel" 4 p l s m ([.ref (kA κ 8 0), .int y1, .int y2] : List Value).toArray meth c := ⟨B.exec, B.bytes, findClass_of_methodNamed B.named, fun w hw => tw_use (List.mem_filter.mp hw).2 (State.WarmedH.refl s) (hX9.1 w hw), hK9, hX9, hZ9, hB9, hml9, B.notSynchronized⟩
  obtain ⟨hx, hb, hown, hT, -, -, -, -, hml, -⟩ := id hC
  have hr := B.returns
  have hS : va_S (AA κ) s.heap s.heap [] := va_S.rf
  have hl := lv_entry ([.ref (kA κ 8 0), .int y1, .int y2]) (n := 4) (Nat.le_of_ble_eq_true rfl)
  rw [lg_entry_eq]
  generalize (lg_sl ([.ref (kA κ 8 0), .int y1, .int y2]) ++ List.replicate (4 - (lg_sl ([.ref (kA κ 8 0), .int y1, .int y2])).length) Slot.unset).toArray = ls at hl ⊢
  have hl : lv_has ls 4 [(0, .ref (kA κ 8 0)), (1, .int y1), (2, .int y2)] := hl
  have b_147 : ∀ (a3 : Int32) (γ : St) (H : Heap) (locs : List Loc) (ls : Array Slot), lv_has ls 4 [(3, .int a3)] → HR κ γ H → va_S (AA κ) s.heap H locs → ok_X8_card_147 a3 γ → x_X8_card_147 a3 γ = res → W p l e (headSpec [Cond.code yX8_card cX8_card 4 (some .int)] ({ frames := 2, cells := 0, slots := 0, locals := 46 } : Room)).room s m ([.ref (kA κ 8 0), .int y1, .int y2] : List Value).toArray below meth c H locs 0 0 (MQ below (QQ κ (res.2) (some (.int res.1))) ([.ref (kA κ 8 0), .int y1, .int y2] : List Value).toArray s 0 0 (AA κ)) (F0 m 147 ls []) := by
    intro a3 γ H locs ls hl hH hS hk hq
    refine lv_iload_n hx hb dX8_card_147 rfl (lv_at hl 0 rfl) ?_
    subst hq
    exact kr_i hC hr hH hS rfl rfl dX8_card_148
  have b_132 : ∀ (a3 : Int32) (γ : St) (H : Heap) (locs : List Loc) (ls : Array Slot), lv_has ls 4 [(3, .int a3)] → HR κ γ H → va_S (AA κ) s.heap H locs → ok_X8_card_132 a3 γ → x_X8_card_132 a3 γ = res → W p l e (headSpec [Cond.code yX8_card cX8_card 4 (some .int)] ({ frames := 2, cells := 0, slots := 0, locals := 46 } : Room)).room s m ([.ref (kA κ 8 0), .int y1, .int y2] : List Value).toArray below meth c H locs 0 0 (MQ below (QQ κ (res.2) (some (.int res.1))) ([.ref (kA κ 8 0), .int y1, .int y2] : List Value).toArray s 0 0 (AA κ)) (F0 m 132 ls []) := by
    intro a3 γ H locs ls hl hH hS hk hq
    refine lv_goto (tgt := 147) hx hb dX8_card_132 (by decide) ?_
    exact b_147 a3 γ _ _ _ (lv_sub hl [0] rfl) hH hS hk hq
  have b_111 : ∀ (a1 : Int32) (a3 : Int32) (s0 : Int32) (s1 : Int32) (s2 : Int32) (γ : St) (H : Heap) (locs : List Loc) (ls : Array Slot), lv_has ls 4 [(0, .ref (kA κ 8 0)), (1, .int a1), (3, .int a3)] → HR κ γ H → va_S (AA κ) s.heap H locs → ok_X8_card_111 a1 a3 s0 s1 s2 γ → x_X8_card_111 a1 a3 s0 s1 s2 γ = res → W p l e (headSpec [Cond.code yX8_card cX8_card 4 (some .int)] ({ frames := 2, cells := 0, slots := 0, locals := 46 } : Room)).room s m ([.ref (kA κ 8 0), .int y1, .int y2] : List Value).toArray below meth c H locs 0 0 (MQ below (QQ κ (res.2) (some (.int res.1))) ([.ref (kA κ 8 0), .int y1, .int y2] : List Value).toArray s 0 0 (AA κ)) (F0 m 111 ls [.int s0, .int s1, .int s2, .ref (kA κ 30 0)]) := by
    intro a1 a3 s0 s1 s2 γ H locs ls hl hH hS hk hq
    refine lv_ior hx hb dX8_card_111 ?_
    obtain ⟨hi58, hk⟩ := hk
    refine hp_zst hC hH lv_30 (fun _ => rfl) hS hi58 dX8_card_112 (fun H locs hH hS => ?_)
    refine lv_iload_n hx hb dX8_card_113 rfl (lv_at hl 2 rfl) ?_
    refine lv_iconst (v := 2) hx hb dX8_card_114 (by decide) ?_
    refine lv_icmp_ne (tgt := 135) hx hb dX8_card_115 (by decide) (fun c59 => ?_) (fun c59 => ?_)
    · have hk := ifn hk c59
      have hq := ifne hq c59
      refine lv_iload_n hx hb dX8_card_135 rfl (lv_at hl 2 rfl) ?_
      refine lv_iconst (v := 3) hx hb dX8_card_136 (by decide) ?_
      refine lv_icmp_ne (tgt := 147) hx hb dX8_card_137 (by decide) (fun c60 => ?_) (fun c60 => ?_)
      · have hk := ifn hk c60
        have hq := ifne hq c60
        exact b_147 a3 (sV γ 30 0 ((s2 : Int32).toNatClampNeg) (vp_nar .boolean (s1 ||| s0))) _ _ _ (lv_sub hl [2] rfl) hH hS hk hq
      · have hk := ifp hk c60
        have hq := ifpe hq c60
        refine lv_aload_n hx hb dX8_card_140 rfl (lv_at hl 0 rfl) ?_
        refine lv_iconst (v := 1) hx hb dX8_card_141 (by decide) ?_
        refine lv_iload_n hx hb dX8_card_142 rfl (lv_at hl 1 rfl) ?_
        refine lv_isub hx hb dX8_card_143 ?_
        obtain ⟨hc61, hk⟩ := hk
        refine k_callV (C := RX8) (T := TX8) (N := 32) (rest := []) hC hl hH hS (c_X8_ends l κ (sV γ 30 0 ((s2 : Int32).toNatClampNeg) (vp_nar .boolean (s1 ||| s0))) (1 - a1) hc61) lv_8 rfl rfl tw_1096 tw_1098 tw_46 tw_62 tw_1099 hd_X8_ends ⟨Nat.le_of_ble_eq_true rfl, Nat.le_of_ble_eq_true rfl⟩ rfl rfl rfl rfl (Nat.le_of_ble_eq_true rfl) dX8_card_144 ⟨Nat.le_of_ble_eq_true rfl, Nat.le_of_ble_eq_true rfl⟩ rfl (fun H locs hH hS => ?_)
        exact b_147 a3 (x_X8_ends (1 - a1) (sV γ 30 0 ((s2 : Int32).toNatClampNeg) (vp_nar .boolean (s1 ||| s0)))) _ _ _ (lv_sub hl [2] rfl) hH hS hk hq
    · have hk := ifp hk c59
      have hq := ifpe hq c59
      refine lv_aload_n hx hb dX8_card_118 rfl (lv_at hl 0 rfl) ?_
      refine lv_iconst (v := 0) hx hb dX8_card_119 (by decide) ?_
      refine hp_put (v := .int 0) (C := RX8) (T := TX8) (N := 32) hC inX8 tyX8_ok nmX8 hH lv_8 rfl hS rfl 14 (by decide) tw_936 rfl rfl rfl rfl (Nat.le_of_ble_eq_true rfl) (sV (sV γ 30 0 ((s2 : Int32).toNatClampNeg) (vp_nar .boolean (s1 ||| s0))) 8 0 14 0) (pe_8_14 _ _ 0 0) (fun _ _ _ h => cel_sV h) (WT_sV hH.wt) dX8_card_120 (fun H locs hH hS => ?_)
      refine lv_aload_n hx hb dX8_card_123 rfl (lv_at hl 0 rfl) ?_
      refine lv_iconst (v := 1) hx hb dX8_card_124 (by decide) ?_
      refine lv_iconst (v := 1) hx hb dX8_card_125 (by decide) ?_
      refine lv_iload_n hx hb dX8_card_126 rfl (lv_at hl 1 rfl) ?_
      refine lv_isub hx hb dX8_card_127 ?_
      refine lv_ishl hx hb dX8_card_128 ?_
      obtain ⟨hc62, hk⟩ := hk
      refine k_callV (C := RX8) (T := TX8) (N := 32) (rest := []) hC hl hH hS (c_X8_gives l κ (sV (sV γ 30 0 ((s2 : Int32).toNatClampNeg) (vp_nar .boolean (s1 ||| s0))) 8 0 14 0) (1 <<< ((1 - a1) &&& 31)) hc62) lv_8 rfl rfl tw_1088 tw_1090 tw_44 tw_62 tw_1091 hd_X8_gives ⟨Nat.le_of_ble_eq_true rfl, Nat.le_of_ble_eq_true rfl⟩ rfl rfl rfl rfl (Nat.le_of_ble_eq_true rfl) dX8_card_129 ⟨Nat.le_of_ble_eq_true rfl, Nat.le_of_ble_eq_true rfl⟩ rfl (fun H locs hH hS => ?_)
      exact b_132 a3 (x_X8_gives (1 <<< ((1 - a1) &&& 31)) (sV (sV γ 30 0 ((s2 : Int32).toNatClampNeg) (vp_nar .boolean (s1 ||| s0))) 8 0 14 0)) _ _ _ (lv_sub hl [2] rfl) hH hS hk hq
  have b_83 : ∀ (a1 : Int32) (a2 : Int32) (s0 : Int32) (γ : St) (H : Heap) (locs : List Loc) (ls : Array Slot), lv_has ls 4 [(0, .ref (kA κ 8 0)), (1, .int a1), (2, .int a2)] → HR κ γ H → va_S (AA κ) s.heap H locs → ok_X8_card_83 a1 a2 s0 γ → x_X8_card_83 a1 a2 s0 γ = res → W p l e (headSpec [Cond.code yX8_card cX8_card 4 (some .int)] ({ frames := 2, cells := 0, slots := 0, locals := 46 } : Room)).room s m ([.ref (kA κ 8 0), .int y1, .int y2] : List Value).toArray below meth c H locs 0 0 (MQ below (QQ κ (res.2) (some (.int res.1))) ([.ref (kA κ 8 0), .int y1, .int y2] : List Value).toArray s 0 0 (AA κ)) (F0 m 83 ls [.int s0]) := by
    intro a1 a2 s0 γ H locs ls hl hH hS hk hq
    refine lv_istore_n (lv' := [(3, .int s0), (0, .ref (kA κ 8 0)), (1, .int a1), (2, .int a2)]) hx hb dX8_card_83 rfl hl (by decide) rfl (fun ls hl => ?_)
    refine lv_aload_n hx hb dX8_card_84 rfl (lv_at hl 1 rfl) ?_
    refine hp_get (v := .ref (kA κ 29 0)) (C := RX8) (T := TX8) (N := 32) hC inX8 hH lv_8 rfl rfl 15 (by decide) tw_937 rfl rfl dX8_card_85 ?_
    refine lv_iload_n hx hb dX8_card_88 rfl (lv_at hl 2 rfl) ?_
    refine lv_dup2_11 hx hb dX8_card_89 rfl rfl ?_
    obtain ⟨hi63, hk⟩ := hk
    refine hp_ald (v := gV γ 29 0 ((a1 : Int32).toNatClampNeg)) hC hH lv_29 rfl hi63 rfl dX8_card_90 ?_
    refine lv_iconst (v := 1) hx hb dX8_card_91 (by decide) ?_
    refine lv_iadd hx hb dX8_card_92 ?_
    obtain ⟨hi64, hk⟩ := hk
    refine hp_ast hC hH lv_29 (fun _ => rfl) hS hi64 dX8_card_93 (fun H locs hH hS => ?_)
    refine lv_aload_n hx hb dX8_card_94 rfl (lv_at hl 1 rfl) ?_
    refine hp_get (v := .ref (kA κ 30 0)) (C := RX8) (T := TX8) (N := 32) hC inX8 hH lv_8 rfl rfl 16 (by decide) tw_938 rfl rfl dX8_card_95 ?_
    refine lv_iload_n hx hb dX8_card_98 rfl (lv_at hl 2 rfl) ?_
    refine lv_dup2_11 hx hb dX8_card_99 rfl rfl ?_
    obtain ⟨hi65, hk⟩ := hk
    refine hp_zld (v := gV γ 30 0 ((a1 : Int32).toNatClampNeg)) hC hH lv_30 rfl hi65 rfl dX8_card_100 ?_
    refine lv_iload_n hx hb dX8_card_101 rfl (lv_at hl 3 rfl) ?_
    refine lv_iconst (v := 3) hx hb dX8_card_102 (by decide) ?_
    refine lv_icmp_ne (tgt := 110) hx hb dX8_card_103 (by decide) (fun c66 => ?_) (fun c66 => ?_)
    · have hk := ifn hk c66
      have hq := ifne hq c66
      refine lv_iconst (v := 0) hx hb dX8_card_110 (by decide) ?_
      exact b_111 a1 s0 0 (gV γ 30 0 ((a1 : Int32).toNatClampNeg)) a1 (sV γ 29 0 ((a1 : Int32).toNatClampNeg) ((gV γ 29 0 ((a1 : Int32).toNatClampNeg)) + 1)) _ _ _ (lv_sub hl [1, 2, 0] rfl) hH hS hk hq
    · have hk := ifp hk c66
      have hq := ifpe hq c66
      refine lv_iconst (v := 1) hx hb dX8_card_106 (by decide) ?_
      refine lv_goto (tgt := 111) hx hb dX8_card_107 (by decide) ?_
      exact b_111 a1 s0 1 (gV γ 30 0 ((a1 : Int32).toNatClampNeg)) a1 (sV γ 29 0 ((a1 : Int32).toNatClampNeg) ((gV γ 29 0 ((a1 : Int32).toNatClampNeg)) + 1)) _ _ _ (lv_sub hl [1, 2, 0] rfl) hH hS hk hq
  have b_82 : ∀ (a1 : Int32) (a2 : Int32) (γ : St) (H : Heap) (locs : List Loc) (ls : Array Slot), lv_has ls 4 [(0, .ref (kA κ 8 0)), (1, .int a1), (2, .int a2)] → HR κ γ H → va_S (AA κ) s.heap H locs → ok_X8_card_82 a1 a2 γ → x_X8_card_82 a1 a2 γ = res → W p l e (headSpec [Cond.code yX8_card cX8_card 4 (some .int)] ({ frames := 2, cells := 0, slots := 0, locals := 46 } : Room)).room s m ([.ref (kA κ 8 0), .int y1, .int y2] : List Value).toArray below meth c H locs 0 0 (MQ below (QQ κ (res.2) (some (.int res.1))) ([.ref (kA κ 8 0), .int y1, .int y2] : List Value).toArray s 0 0 (AA κ)) (F0 m 82 ls []) := by
    intro a1 a2 γ H locs ls hl hH hS hk hq
    refine lv_iconst (v := 2) hx hb dX8_card_82 (by decide) ?_
    exact b_83 a1 a2 2 γ _ _ _ (lv_sub hl [0, 1, 2] rfl) hH hS hk hq
  have b_64 : ∀ (a1 : Int32) (a2 : Int32) (γ : St) (H : Heap) (locs : List Loc) (ls : Array Slot), lv_has ls 4 [(0, .ref (kA κ 8 0)), (1, .int a1), (2, .int a2)] → HR κ γ H → va_S (AA κ) s.heap H locs → ok_X8_card_64 a1 a2 γ → x_X8_card_64 a1 a2 γ = res → W p l e (headSpec [Cond.code yX8_card cX8_card 4 (some .int)] ({ frames := 2, cells := 0, slots := 0, locals := 46 } : Room)).room s m ([.ref (kA κ 8 0), .int y1, .int y2] : List Value).toArray below meth c H locs 0 0 (MQ below (QQ κ (res.2) (some (.int res.1))) ([.ref (kA κ 8 0), .int y1, .int y2] : List Value).toArray s 0 0 (AA κ)) (F0 m 64 ls []) := by
    intro a1 a2 γ H locs ls hl hH hS hk hq
    refine lv_iload_n hx hb dX8_card_64 rfl (lv_at hl 2 rfl) ?_
    refine lv_iconst (v := 3) hx hb dX8_card_65 (by decide) ?_
    refine lv_icmp_ne (tgt := 82) hx hb dX8_card_66 (by decide) (fun c67 => ?_) (fun c67 => ?_)
    · have hk := ifn hk c67
      have hq := ifne hq c67
      exact b_82 a1 a2 γ _ _ _ (lv_sub hl [0, 1, 2] rfl) hH hS hk hq
    · have hk := ifp hk c67
      have hq := ifpe hq c67
      refine lv_aload_n hx hb dX8_card_69 rfl (lv_at hl 0 rfl) ?_
      refine hp_get (v := .ref (kA κ 30 0)) (C := RX8) (T := TX8) (N := 32) hC inX8 hH lv_8 rfl rfl 16 (by decide) tw_938 rfl rfl dX8_card_70 ?_
      refine lv_iload_n hx hb dX8_card_73 rfl (lv_at hl 1 rfl) ?_
      obtain ⟨hi68, hk⟩ := hk
      refine hp_zld (v := gV γ 30 0 ((a1 : Int32).toNatClampNeg)) hC hH lv_30 rfl hi68 rfl dX8_card_74 ?_
      refine lv_if_eq (tgt := 82) hx hb dX8_card_75 (by decide) (fun c69 => ?_) (fun c69 => ?_)
      · have hk := ifp hk c69
        have hq := ifpe hq c69
        exact b_82 a1 a2 γ _ _ _ (lv_sub hl [0, 1, 2] rfl) hH hS hk hq
      · have hk := ifn hk c69
        have hq := ifne hq c69
        refine lv_iconst (v := 3) hx hb dX8_card_78 (by decide) ?_
        refine lv_goto (tgt := 83) hx hb dX8_card_79 (by decide) ?_
        exact b_83 a1 a2 3 γ _ _ _ (lv_sub hl [0, 1, 2] rfl) hH hS hk hq
  have b_34 : ∀ (a1 : Int32) (a2 : Int32) (s0 : Int32) (γ : St) (H : Heap) (locs : List Loc) (ls : Array Slot), lv_has ls 4 [(0, .ref (kA κ 8 0)), (1, .int a1), (2, .int a2)] → HR κ γ H → va_S (AA κ) s.heap H locs → ok_X8_card_34 a1 a2 s0 γ → x_X8_card_34 a1 a2 s0 γ = res → W p l e (headSpec [Cond.code yX8_card cX8_card 4 (some .int)] ({ frames := 2, cells := 0, slots := 0, locals := 46 } : Room)).room s m ([.ref (kA κ 8 0), .int y1, .int y2] : List Value).toArray below meth c H locs 0 0 (MQ below (QQ κ (res.2) (some (.int res.1))) ([.ref (kA κ 8 0), .int y1, .int y2] : List Value).toArray s 0 0 (AA κ)) (F0 m 34 ls [.int s0, .ref (kA κ 8 0)]) := by
    intro a1 a2 s0 γ H locs ls hl hH hS hk hq
    refine hp_put (v := .int s0) (C := RX8) (T := TX8) (N := 32) hC inX8 tyX8_ok nmX8 hH lv_8 rfl hS rfl 31 (by decide) tw_953 rfl rfl rfl rfl (Nat.le_of_ble_eq_true rfl) (sV γ 8 0 31 s0) (pe_8_31 _ _ 0 s0) (fun _ _ _ h => cel_sV h) (WT_sV hH.wt) dX8_card_34 (fun H locs hH hS => ?_)
    refine lv_aload_n hx hb dX8_card_37 rfl (lv_at hl 0 rfl) ?_
    refine hp_get (v := .int s0) (C := RX8) (T := TX8) (N := 32) hC inX8 hH lv_8 rfl rfl 31 (by decide) tw_953 rfl rfl dX8_card_38 ?_
    refine lv_if_le (tgt := 46) hx hb dX8_card_41 (by decide) (fun c70 => ?_) (fun c70 => ?_)
    · have hk := ifp hk c70
      have hq := ifpe hq c70
      refine lv_iload_n hx hb dX8_card_46 rfl (lv_at hl 2 rfl) ?_
      refine lv_iconst (v := 1) hx hb dX8_card_47 (by decide) ?_
      refine lv_icmp_ne (tgt := 64) hx hb dX8_card_48 (by decide) (fun c71 => ?_) (fun c71 => ?_)
      · have hk := ifn hk c71
        have hq := ifne hq c71
        exact b_64 a1 a2 (sV γ 8 0 31 s0) _ _ _ (lv_sub hl [0, 1, 2] rfl) hH hS hk hq
      · have hk := ifp hk c71
        have hq := ifpe hq c71
        refine lv_aload_n hx hb dX8_card_51 rfl (lv_at hl 0 rfl) ?_
        refine hp_get (v := .ref (kA κ 29 0)) (C := RX8) (T := TX8) (N := 32) hC inX8 hH lv_8 rfl rfl 15 (by decide) tw_937 rfl rfl dX8_card_52 ?_
        refine lv_iload_n hx hb dX8_card_55 rfl (lv_at hl 1 rfl) ?_
        obtain ⟨hi72, hk⟩ := hk
        refine hp_ald (v := gV γ 29 0 ((a1 : Int32).toNatClampNeg)) hC hH lv_29 rfl hi72 rfl dX8_card_56 ?_
        refine lv_if_ne (tgt := 64) hx hb dX8_card_57 (by decide) (fun c73 => ?_) (fun c73 => ?_)
        · have hk := ifn hk c73
          have hq := ifne hq c73
          exact b_64 a1 a2 (sV γ 8 0 31 s0) _ _ _ (lv_sub hl [0, 1, 2] rfl) hH hS hk hq
        · have hk := ifp hk c73
          have hq := ifpe hq c73
          refine lv_iconst (v := 1) hx hb dX8_card_60 (by decide) ?_
          refine lv_goto (tgt := 83) hx hb dX8_card_61 (by decide) ?_
          exact b_83 a1 a2 1 (sV γ 8 0 31 s0) _ _ _ (lv_sub hl [0, 1, 2] rfl) hH hS hk hq
    · have hk := ifn hk c70
      have hq := ifne hq c70
      refine lv_iconst (v := 0) hx hb dX8_card_44 (by decide) ?_
      subst hq
      exact kr_i hC hr hH hS rfl rfl dX8_card_45
  have b_17 : ∀ (a1 : Int32) (a2 : Int32) (γ : St) (H : Heap) (locs : List Loc) (ls : Array Slot), lv_has ls 4 [(0, .ref (kA κ 8 0)), (1, .int a1), (2, .int a2)] → HR κ γ H → va_S (AA κ) s.heap H locs → ok_X8_card_17 a1 a2 γ → x_X8_card_17 a1 a2 γ = res → W p l e (headSpec [Cond.code yX8_card cX8_card 4 (some .int)] ({ frames := 2, cells := 0, slots := 0, locals := 46 } : Room)).room s m ([.ref (kA κ 8 0), .int y1, .int y2] : List Value).toArray below meth c H locs 0 0 (MQ below (QQ κ (res.2) (some (.int res.1))) ([.ref (kA κ 8 0), .int y1, .int y2] : List Value).toArray s 0 0 (AA κ)) (F0 m 17 ls [.ref (kA κ 8 0)]) := by
    intro a1 a2 γ H locs ls hl hH hS hk hq
    refine lv_iconst (v := 1) hx hb dX8_card_17 (by decide) ?_
    refine lv_goto (tgt := 34) hx hb dX8_card_18 (by decide) ?_
    exact b_34 a1 a2 1 γ _ _ _ (lv_sub hl [0, 1, 2] rfl) hH hS hk hq
  refine lv_aload_n hx hb dX8_card_0 rfl (lv_at hl 0 rfl) ?_
  refine lv_iload_n hx hb dX8_card_1 rfl (lv_at hl 1 rfl) ?_
  refine k_callS (rest := [.ref (kA κ 8 0)]) hC hl hH hS (c_X8_isSide l κ γ y1) tw_1050 tw_1051 tw_62 tw_1052 hd_X8_isSide ⟨Nat.le_of_ble_eq_true rfl, Nat.le_of_ble_eq_true rfl⟩ rfl rfl rfl rfl (Nat.le_of_ble_eq_true rfl) dX8_card_2 ⟨Nat.le_of_ble_eq_true rfl, Nat.le_of_ble_eq_true rfl⟩ rfl (fun H locs hH hS => ?_)
  refine lv_if_eq (tgt := 17) hx hb dX8_card_5 (by decide) (fun c74 => ?_) (fun c74 => ?_)
  · have hk := ifp hk c74
    have hq := ifpe hq c74
    exact b_17 y1 y2 γ _ _ _ (lv_sub hl [0, 1, 2] rfl) hH hS hk hq
  · have hk := ifn hk c74
    have hq := ifne hq c74
    refine lv_iload_n hx hb dX8_card_8 rfl (lv_at hl 2 rfl) ?_
    refine lv_iconst (v := 1) hx hb dX8_card_9 (by decide) ?_
    refine lv_iconst (v := 3) hx hb dX8_card_10 (by decide) ?_
    refine k_callS (rest := [.ref (kA κ 8 0)]) hC hl hH hS (c_X8_isIn l κ γ y2 1 3) tw_1036 tw_1037 tw_62 tw_1038 hd_X8_isIn ⟨Nat.le_of_ble_eq_true rfl, Nat.le_of_ble_eq_true rfl⟩ rfl rfl rfl rfl (Nat.le_of_ble_eq_true rfl) dX8_card_11 ⟨Nat.le_of_ble_eq_true rfl, Nat.le_of_ble_eq_true rfl⟩ rfl (fun H locs hH hS => ?_)
    refine lv_if_ne (tgt := 21) hx hb dX8_card_14 (by decide) (fun c75 => ?_) (fun c75 => ?_)
    · have hk := ifn hk c75
      have hq := ifne hq c75
      refine lv_aload_n hx hb dX8_card_21 rfl (lv_at hl 0 rfl) ?_
      refine hp_get (v := .int (gV γ 8 0 4)) (C := RX8) (T := TX8) (N := 32) hC inX8 hH lv_8 rfl rfl 4 (by decide) tw_926 rfl rfl dX8_card_22 ?_
      refine lv_iconst (v := (-1)) hx hb dX8_card_25 (by decide) ?_
      refine lv_icmp_ne (tgt := 33) hx hb dX8_card_26 (by decide) (fun c76 => ?_) (fun c76 => ?_)
      · have hk := ifn hk c76
        have hq := ifne hq c76
        refine lv_iconst (v := 0) hx hb dX8_card_33 (by decide) ?_
        exact b_34 y1 y2 0 γ _ _ _ (lv_sub hl [0, 1, 2] rfl) hH hS hk hq
      · have hk := ifp hk c76
        have hq := ifpe hq c76
        refine lv_iconst (v := 2) hx hb dX8_card_29 (by decide) ?_
        refine lv_goto (tgt := 34) hx hb dX8_card_30 (by decide) ?_
        exact b_34 y1 y2 2 γ _ _ _ (lv_sub hl [0, 1, 2] rfl) hH hS hk hq
    · have hk := ifp hk c75
      have hq := ifpe hq c75
      exact b_17 y1 y2 γ _ _ _ (lv_sub hl [0, 1, 2] rfl) hH hS hk hq
set_option maxRecDepth 20000 in
set_option maxHeartbeats 4000000 in
theorem c_X8_next (l : Launch) (κ : KP) (γ : St) (y0 : Int64)  : Met l yX8_next [Cond.code yX8_next cX8_next 2 (some .long)] ({ frames := 0, cells := 0, slots := 0, locals := 0 } : Room) (va_Pc [.long y0] (GG κ γ)) (QQ κ γ (some (.long ((x_X8_next y0 γ))))) 0 0 (AA κ) := by
  generalize hq : x_X8_next y0 γ = res
  refine Met.ofW (cc := cX8_next) (maxL := 2) (ret := (some .long)) (by decide) rfl ?_
  intro p e s m args below meth c s₁ B hml9 hv
  obtain ⟨rfl, hH, hK9, hB9, hX9, hZ9⟩ := hv
  have hC : CX κ cX8_next "PhrasehallModel" 2 p l s m ([.long y0] : List Value).toArray meth c := ⟨B.exec, B.bytes, findClass_of_methodNamed B.named, fun w hw => tw_use (List.mem_filter.mp hw).2 (State.WarmedH.refl s) (hX9.1 w hw), hK9, hX9, hZ9, hB9, hml9, B.notSynchronized⟩
  obtain ⟨hx, hb, hown, hT, -, -, -, -, hml, -⟩ := id hC
  have hr := B.returns
  have hS : va_S (AA κ) s.heap s.heap [] := va_S.rf
  have hl := lv_entry ([.long y0]) (n := 2) (Nat.le_of_ble_eq_true rfl)
  rw [lg_entry_eq]
  generalize (lg_sl ([.long y0]) ++ List.replicate (2 - (lg_sl ([.long y0])).length) Slot.unset).toArray = ls at hl ⊢
  have hl : lv_has ls 2 [(0, .long y0)] := hl
  refine lv_ldc2 (v := 1103515245) hx hb hown (hT _ tw_1115) dX8_next_0 ?_
  refine lv_lload_n hx hb dX8_next_3 rfl (lv_at hl 0 rfl) ?_
  refine lv_lmul hx hb dX8_next_4 ?_
  refine lv_ldc2 (v := 12345) hx hb hown (hT _ tw_1116) dX8_next_5 ?_
  refine lv_ladd hx hb dX8_next_8 ?_
  refine lv_ldc2 (v := 2147483648) hx hb hown (hT _ tw_1117) dX8_next_9 ?_
  refine lv_lrem hx hb dX8_next_12 (by decide) ?_
  subst hq
  exact kr_l hC hr hH hS rfl rfl dX8_next_13
set_option maxRecDepth 20000 in
set_option maxHeartbeats 4000000 in
theorem c_X8_second (l : Launch) (κ : KP) (γ : St) (hk : ok_X8_second γ) : Met l yX8_second [Cond.code yX8_second cX8_second 2 none] ({ frames := 2, cells := 0, slots := 0, locals := 46 } : Room) (va_Pc [.ref (kA κ 8 0)] (GG κ γ)) (QQ κ ((x_X8_second γ)) none) 0 0 (AA κ) := by
  generalize hq : x_X8_second γ = res
  refine Met.ofW (cc := cX8_second) (maxL := 2) (ret := none) (by decide) rfl ?_
  intro p e s m args below meth c s₁ B hml9 hv
  obtain ⟨rfl, hH, hK9, hB9, hX9, hZ9⟩ := hv
  have hC : CX κ cX8_second "PhrasehallModel" 2 p l s m ([.ref (kA κ 8 0)] : List Value).toArray meth c := ⟨B.exec, B.bytes, findClass_of_methodNamed B.named, fun w hw => tw_use (List.mem_filter.mp hw).2 (State.WarmedH.refl s) (hX9.1 w hw), hK9, hX9, hZ9, hB9, hml9, B.notSynchronized⟩
  obtain ⟨hx, hb, hown, hT, -, -, -, -, hml, -⟩ := id hC
  have hr := B.returns
  have hS : va_S (AA κ) s.heap s.heap [] := va_S.rf
  have hl := lv_entry ([.ref (kA κ 8 0)]) (n := 2) (Nat.le_of_ble_eq_true rfl)
  rw [lg_entry_eq]
  generalize (lg_sl ([.ref (kA κ 8 0)]) ++ List.replicate (2 - (lg_sl ([.ref (kA κ 8 0)])).length) Slot.unset).toArray = ls at hl ⊢
  have hl : lv_has ls 2 [(0, .ref (kA κ 8 0))] := hl
  have b_135 : ∀ (γ : St) (H : Heap) (locs : List Loc) (ls : Array Slot), lv_has ls 2 [] → HR κ γ H → va_S (AA κ) s.heap H locs → ok_X8_second_135 γ → x_X8_second_135 γ = res → W p l e (headSpec [Cond.code yX8_second cX8_second 2 none] ({ frames := 2, cells := 0, slots := 0, locals := 46 } : Room)).room s m ([.ref (kA κ 8 0)] : List Value).toArray below meth c H locs 0 0 (MQ below (QQ κ res none) ([.ref (kA κ 8 0)] : List Value).toArray s 0 0 (AA κ)) (F0 m 135 ls []) := by
    intro  γ H locs ls hl hH hS hk hq
    refine lv_goto (tgt := 193) hx hb dX8_second_135 (by decide) ?_
    subst hq
    exact kr_v hC hr hH hS rfl dX8_second_193
  have b_85 : ∀ (a1 : Int32) (γ : St) (H : Heap) (locs : List Loc) (ls : Array Slot), lv_has ls 2 [(0, .ref (kA κ 8 0)), (1, .int a1)] → HR κ γ H → va_S (AA κ) s.heap H locs → ok_X8_second_85 a1 γ → x_X8_second_85 a1 γ = res → W p l e (headSpec [Cond.code yX8_second cX8_second 2 none] ({ frames := 2, cells := 0, slots := 0, locals := 46 } : Room)).room s m ([.ref (kA κ 8 0)] : List Value).toArray below meth c H locs 0 0 (MQ below (QQ κ res none) ([.ref (kA κ 8 0)] : List Value).toArray s 0 0 (AA κ)) (F0 m 85 ls []) := by
    intro a1 γ H locs ls hl hH hS hk hq
    refine lv_aload_n hx hb dX8_second_85 rfl (lv_at hl 0 rfl) ?_
    refine hp_get (v := .int (gV γ 8 0 4)) (C := RX8) (T := TX8) (N := 32) hC inX8 hH lv_8 rfl rfl 4 (by decide) tw_926 rfl rfl dX8_second_86 ?_
    refine lv_iconst (v := (-1)) hx hb dX8_second_89 (by decide) ?_
    refine lv_icmp_ne (tgt := 94) hx hb dX8_second_90 (by decide) (fun c76 => ?_) (fun c76 => ?_)
    · have hk := ifn hk c76
      have hq := ifne hq c76
      refine lv_aload_n hx hb dX8_second_94 rfl (lv_at hl 0 rfl) ?_
      refine hp_get (v := .ref (kA κ 26 0)) (C := RX8) (T := TX8) (N := 32) hC inX8 hH lv_8 rfl rfl 11 (by decide) tw_933 rfl rfl dX8_second_95 ?_
      refine lv_iload_n hx hb dX8_second_98 rfl (lv_at hl 1 rfl) ?_
      obtain ⟨hi77, hk⟩ := hk
      refine hp_ald (v := gV γ 26 0 ((a1 : Int32).toNatClampNeg)) hC hH lv_26 rfl hi77 rfl dX8_second_99 ?_
      refine lv_sipush (v := 180) hx hb dX8_second_100 (by decide) ?_
      refine lv_icmp_ne (tgt := 171) hx hb dX8_second_103 (by decide) (fun c78 => ?_) (fun c78 => ?_)
      · have hk := ifn hk c78
        have hq := ifne hq c78
        refine lv_aload_n hx hb dX8_second_171 rfl (lv_at hl 0 rfl) ?_
        refine hp_get (v := .ref (kA κ 26 0)) (C := RX8) (T := TX8) (N := 32) hC inX8 hH lv_8 rfl rfl 11 (by decide) tw_933 rfl rfl dX8_second_172 ?_
        refine lv_iload_n hx hb dX8_second_175 rfl (lv_at hl 1 rfl) ?_
        obtain ⟨hi79, hk⟩ := hk
        refine hp_ald (v := gV γ 26 0 ((a1 : Int32).toNatClampNeg)) hC hH lv_26 rfl hi79 rfl dX8_second_176 ?_
        refine lv_sipush (v := 240) hx hb dX8_second_177 (by decide) ?_
        refine lv_icmp_ne (tgt := 193) hx hb dX8_second_180 (by decide) (fun c80 => ?_) (fun c80 => ?_)
        · have hk := ifn hk c80
          have hq := ifne hq c80
          subst hq
          exact kr_v hC hr hH hS rfl dX8_second_193
        · have hk := ifp hk c80
          have hq := ifpe hq c80
          refine lv_aload_n hx hb dX8_second_183 rfl (lv_at hl 0 rfl) ?_
          refine lv_aload_n hx hb dX8_second_184 rfl (lv_at hl 0 rfl) ?_
          refine hp_get (v := .ref (kA κ 28 0)) (C := RX8) (T := TX8) (N := 32) hC inX8 hH lv_8 rfl rfl 13 (by decide) tw_935 rfl rfl dX8_second_185 ?_
          refine lv_iload_n hx hb dX8_second_188 rfl (lv_at hl 1 rfl) ?_
          obtain ⟨hi81, hk⟩ := hk
          refine hp_ald (v := gV γ 28 0 ((a1 : Int32).toNatClampNeg)) hC hH lv_28 rfl hi81 rfl dX8_second_189 ?_
          obtain ⟨hc82, hk⟩ := hk
          refine k_callV (C := RX8) (T := TX8) (N := 32) (rest := []) hC hl hH hS (c_X8_ends l κ γ (gV γ 28 0 ((a1 : Int32).toNatClampNeg)) hc82) lv_8 rfl rfl tw_1096 tw_1098 tw_46 tw_62 tw_1099 hd_X8_ends ⟨Nat.le_of_ble_eq_true rfl, Nat.le_of_ble_eq_true rfl⟩ rfl rfl rfl rfl (Nat.le_of_ble_eq_true rfl) dX8_second_190 ⟨Nat.le_of_ble_eq_true rfl, Nat.le_of_ble_eq_true rfl⟩ rfl (fun H locs hH hS => ?_)
          subst hq
          exact kr_v hC hr hH hS rfl dX8_second_193
      · have hk := ifp hk c78
        have hq := ifpe hq c78
        refine lv_aload_n hx hb dX8_second_106 rfl (lv_at hl 0 rfl) ?_
        refine hp_get (v := .ref (kA κ 21 0)) (C := RX8) (T := TX8) (N := 32) hC inX8 hH lv_8 rfl rfl 6 (by decide) tw_928 rfl rfl dX8_second_107 ?_
        refine lv_iconst (v := 2) hx hb dX8_second_110 (by decide) ?_
        refine lv_iload_n hx hb dX8_second_111 rfl (lv_at hl 1 rfl) ?_
        refine lv_imul hx hb dX8_second_112 ?_
        obtain ⟨hi83, hk⟩ := hk
        refine hp_ald (v := gV γ 21 0 ((2 * a1 : Int32).toNatClampNeg)) hC hH lv_21 rfl hi83 rfl dX8_second_113 ?_
        refine lv_aload_n hx hb dX8_second_114 rfl (lv_at hl 0 rfl) ?_
        refine hp_get (v := .ref (kA κ 21 0)) (C := RX8) (T := TX8) (N := 32) hC inX8 hH lv_8 rfl rfl 6 (by decide) tw_928 rfl rfl dX8_second_115 ?_
        refine lv_iconst (v := 2) hx hb dX8_second_118 (by decide) ?_
        refine lv_iload_n hx hb dX8_second_119 rfl (lv_at hl 1 rfl) ?_
        refine lv_imul hx hb dX8_second_120 ?_
        refine lv_iconst (v := 1) hx hb dX8_second_121 (by decide) ?_
        refine lv_iadd hx hb dX8_second_122 ?_
        obtain ⟨hi84, hk⟩ := hk
        refine hp_ald (v := gV γ 21 0 (((2 * a1) + 1 : Int32).toNatClampNeg)) hC hH lv_21 rfl hi84 rfl dX8_second_123 ?_
        refine lv_icmp_eq (tgt := 138) hx hb dX8_second_124 (by decide) (fun c85 => ?_) (fun c85 => ?_)
        · have hk := ifp hk c85
          have hq := ifpe hq c85
          refine lv_aload_n hx hb dX8_second_138 rfl (lv_at hl 0 rfl) ?_
          refine lv_aload_n hx hb dX8_second_139 rfl (lv_at hl 0 rfl) ?_
          refine hp_get (v := .long (gL γ 8 1)) (C := RX8) (T := TX8) (N := 32) hC inX8 hH lv_8 rfl rfl 1 (by decide) tw_923 rfl rfl dX8_second_140 ?_
          refine k_callS (rest := [.ref (kA κ 8 0)]) hC hl hH hS (c_X8_next l κ γ (gL γ 8 1)) tw_1112 tw_1113 tw_62 tw_1114 hd_X8_next ⟨Nat.le_of_ble_eq_true rfl, Nat.le_of_ble_eq_true rfl⟩ rfl rfl rfl rfl (Nat.le_of_ble_eq_true rfl) dX8_second_143 ⟨Nat.le_of_ble_eq_true rfl, Nat.le_of_ble_eq_true rfl⟩ rfl (fun H locs hH hS => ?_)
          refine hp_put (v := .long ((x_X8_next (gL γ 8 1) γ))) (C := RX8) (T := TX8) (N := 32) hC inX8 tyX8_ok nmX8 hH lv_8 rfl hS rfl 1 (by decide) tw_923 rfl rfl rfl rfl (Nat.le_of_ble_eq_true rfl) (sL γ 8 1 ((x_X8_next (gL γ 8 1) γ))) (pl_8_1 _ _ ((x_X8_next (gL γ 8 1) γ))) (fun c9 n9 hl9 h => cel_sL (fun q => h ⟨q, lv_u8 n9 (by rw [← q]; exact hl9)⟩)) (WT_sL hH.wt) dX8_second_146 (fun H locs hH hS => ?_)
          refine lv_aload_n hx hb dX8_second_149 rfl (lv_at hl 0 rfl) ?_
          refine hp_get (v := .ref (kA κ 28 0)) (C := RX8) (T := TX8) (N := 32) hC inX8 hH lv_8 rfl rfl 13 (by decide) tw_935 rfl rfl dX8_second_150 ?_
          refine lv_iload_n hx hb dX8_second_153 rfl (lv_at hl 1 rfl) ?_
          refine lv_aload_n hx hb dX8_second_154 rfl (lv_at hl 0 rfl) ?_
          refine hp_get (v := .long ((x_X8_next (gL γ 8 1) γ))) (C := RX8) (T := TX8) (N := 32) hC inX8 hH lv_8 rfl rfl 1 (by decide) tw_923 rfl rfl dX8_second_155 ?_
          refine lv_ldc2 (v := 65536) hx hb hown (hT _ tw_1118) dX8_second_158 ?_
          refine lv_ldiv hx hb dX8_second_161 (by decide) ?_
          refine lv_ldc2 (v := 2) hx hb hown (hT _ tw_1119) dX8_second_162 ?_
          refine lv_lrem hx hb dX8_second_165 (by decide) ?_
          refine lv_l2i (v := ((((x_X8_next (gL γ 8 1) γ)) / 65536) - (((x_X8_next (gL γ 8 1) γ)) / 65536) / 2 * 2 : Int64).toInt32) hx hb dX8_second_166 rfl ?_
          obtain ⟨hi86, hk⟩ := hk
          refine hp_ast hC hH lv_28 (fun _ => rfl) hS hi86 dX8_second_167 (fun H locs hH hS => ?_)
          refine lv_goto (tgt := 193) hx hb dX8_second_168 (by decide) ?_
          subst hq
          exact kr_v hC hr hH hS rfl dX8_second_193
        · have hk := ifn hk c85
          have hq := ifne hq c85
          refine lv_aload_n hx hb dX8_second_127 rfl (lv_at hl 0 rfl) ?_
          refine lv_aload_n hx hb dX8_second_128 rfl (lv_at hl 0 rfl) ?_
          obtain ⟨hc87, hk⟩ := hk
          refine k_callV (C := RX8) (T := TX8) (N := 32) (rest := [.ref (kA κ 8 0)]) hC hl hH hS (c_X8_ahead l κ γ hc87) lv_8 rfl rfl tw_1092 tw_1094 tw_45 tw_62 tw_1095 hd_X8_ahead ⟨Nat.le_of_ble_eq_true rfl, Nat.le_of_ble_eq_true rfl⟩ rfl rfl rfl rfl (Nat.le_of_ble_eq_true rfl) dX8_second_129 ⟨Nat.le_of_ble_eq_true rfl, Nat.le_of_ble_eq_true rfl⟩ rfl (fun H locs hH hS => ?_)
          obtain ⟨hc88, hk⟩ := hk
          refine k_callV (C := RX8) (T := TX8) (N := 32) (rest := []) hC hl hH hS (c_X8_ends l κ γ ((x_X8_ahead γ)) hc88) lv_8 rfl rfl tw_1096 tw_1098 tw_46 tw_62 tw_1099 hd_X8_ends ⟨Nat.le_of_ble_eq_true rfl, Nat.le_of_ble_eq_true rfl⟩ rfl rfl rfl rfl (Nat.le_of_ble_eq_true rfl) dX8_second_132 ⟨Nat.le_of_ble_eq_true rfl, Nat.le_of_ble_eq_true rfl⟩ rfl (fun H locs hH hS => ?_)
          exact b_135 (x_X8_ends ((x_X8_ahead γ)) γ) _ _ _ (lv_sub hl [] rfl) hH hS hk hq
    · have hk := ifp hk c76
      have hq := ifpe hq c76
      subst hq
      exact kr_v hC hr hH hS rfl dX8_second_93
  have b_64 : ∀ (a1 : Int32) (γ : St) (H : Heap) (locs : List Loc) (ls : Array Slot), lv_has ls 2 [(0, .ref (kA κ 8 0)), (1, .int a1)] → HR κ γ H → va_S (AA κ) s.heap H locs → ok_X8_second_64 a1 γ → x_X8_second_64 a1 γ = res → W p l e (headSpec [Cond.code yX8_second cX8_second 2 none] ({ frames := 2, cells := 0, slots := 0, locals := 46 } : Room)).room s m ([.ref (kA κ 8 0)] : List Value).toArray below meth c H locs 0 0 (MQ below (QQ κ res none) ([.ref (kA κ 8 0)] : List Value).toArray s 0 0 (AA κ)) (F0 m 64 ls []) := by
    intro a1 γ H locs ls hl hH hS hk hq
    refine lv_goto (tgt := 85) hx hb dX8_second_64 (by decide) ?_
    exact b_85 a1 γ _ _ _ (lv_sub hl [0, 1] rfl) hH hS hk hq
  refine lv_aload_n hx hb dX8_second_0 rfl (lv_at hl 0 rfl) ?_
  refine hp_get (v := .int (gV γ 8 0 4)) (C := RX8) (T := TX8) (N := 32) hC inX8 hH lv_8 rfl rfl 4 (by decide) tw_926 rfl rfl dX8_second_1 ?_
  refine lv_istore_n (lv' := [(1, .int (gV γ 8 0 4)), (0, .ref (kA κ 8 0))]) hx hb dX8_second_4 rfl hl (by decide) rfl (fun ls hl => ?_)
  refine lv_aload_n hx hb dX8_second_5 rfl (lv_at hl 1 rfl) ?_
  refine hp_get (v := .ref (kA κ 26 0)) (C := RX8) (T := TX8) (N := 32) hC inX8 hH lv_8 rfl rfl 11 (by decide) tw_933 rfl rfl dX8_second_6 ?_
  refine lv_iload_n hx hb dX8_second_9 rfl (lv_at hl 0 rfl) ?_
  refine lv_dup2_11 hx hb dX8_second_10 rfl rfl ?_
  obtain ⟨hi89, hk⟩ := hk
  refine hp_ald (v := gV γ 26 0 ((gV γ 8 0 4 : Int32).toNatClampNeg)) hC hH lv_26 rfl hi89 rfl dX8_second_11 ?_
  refine lv_iconst (v := 1) hx hb dX8_second_12 (by decide) ?_
  refine lv_iadd hx hb dX8_second_13 ?_
  obtain ⟨hi90, hk⟩ := hk
  refine hp_ast hC hH lv_26 (fun _ => rfl) hS hi90 dX8_second_14 (fun H locs hH hS => ?_)
  refine lv_aload_n hx hb dX8_second_15 rfl (lv_at hl 1 rfl) ?_
  refine lv_dup hx hb dX8_second_16 rfl ?_
  refine hp_get (v := .int (gV γ 8 0 14)) (C := RX8) (T := TX8) (N := 32) hC inX8 hH lv_8 rfl rfl 14 (by decide) tw_936 rfl rfl dX8_second_17 ?_
  refine lv_iconst (v := 1) hx hb dX8_second_20 (by decide) ?_
  refine lv_iadd hx hb dX8_second_21 ?_
  refine hp_put (v := .int ((gV γ 8 0 14) + 1)) (C := RX8) (T := TX8) (N := 32) hC inX8 tyX8_ok nmX8 hH lv_8 rfl hS rfl 14 (by decide) tw_936 rfl rfl rfl rfl (Nat.le_of_ble_eq_true rfl) (sV (sV γ 26 0 ((gV γ 8 0 4 : Int32).toNatClampNeg) ((gV γ 26 0 ((gV γ 8 0 4 : Int32).toNatClampNeg)) + 1)) 8 0 14 ((gV γ 8 0 14) + 1)) (pe_8_14 _ _ 0 ((gV γ 8 0 14) + 1)) (fun _ _ _ h => cel_sV h) (WT_sV hH.wt) dX8_second_22 (fun H locs hH hS => ?_)
  refine lv_aload_n hx hb dX8_second_25 rfl (lv_at hl 1 rfl) ?_
  refine hp_get (v := .int ((gV γ 8 0 14) + 1)) (C := RX8) (T := TX8) (N := 32) hC inX8 hH lv_8 rfl rfl 14 (by decide) tw_936 rfl rfl dX8_second_26 ?_
  refine lv_bipush (v := 60) hx hb dX8_second_29 (by decide) ?_
  refine lv_icmp_ne (tgt := 85) hx hb dX8_second_31 (by decide) (fun c91 => ?_) (fun c91 => ?_)
  · have hk := ifn hk c91
    have hq := ifne hq c91
    exact b_85 (gV γ 8 0 4) (sV (sV γ 26 0 ((gV γ 8 0 4 : Int32).toNatClampNeg) ((gV γ 26 0 ((gV γ 8 0 4 : Int32).toNatClampNeg)) + 1)) 8 0 14 ((gV γ 8 0 14) + 1)) _ _ _ (lv_sub hl [1, 0] rfl) hH hS hk hq
  · have hk := ifp hk c91
    have hq := ifpe hq c91
    refine lv_aload_n hx hb dX8_second_34 rfl (lv_at hl 1 rfl) ?_
    refine lv_iconst (v := 0) hx hb dX8_second_35 (by decide) ?_
    refine hp_put (v := .int 0) (C := RX8) (T := TX8) (N := 32) hC inX8 tyX8_ok nmX8 hH lv_8 rfl hS rfl 14 (by decide) tw_936 rfl rfl rfl rfl (Nat.le_of_ble_eq_true rfl) (sV (sV (sV γ 26 0 ((gV γ 8 0 4 : Int32).toNatClampNeg) ((gV γ 26 0 ((gV γ 8 0 4 : Int32).toNatClampNeg)) + 1)) 8 0 14 ((gV γ 8 0 14) + 1)) 8 0 14 0) (pe_8_14 _ _ 0 0) (fun _ _ _ h => cel_sV h) (WT_sV hH.wt) dX8_second_36 (fun H locs hH hS => ?_)
    refine lv_aload_n hx hb dX8_second_39 rfl (lv_at hl 1 rfl) ?_
    refine hp_get (v := .ref (kA κ 27 0)) (C := RX8) (T := TX8) (N := 32) hC inX8 hH lv_8 rfl rfl 12 (by decide) tw_934 rfl rfl dX8_second_40 ?_
    refine lv_iload_n hx hb dX8_second_43 rfl (lv_at hl 0 rfl) ?_
    refine lv_dup2_11 hx hb dX8_second_44 rfl rfl ?_
    obtain ⟨hi92, hk⟩ := hk
    refine hp_ald (v := gV γ 27 0 ((gV γ 8 0 4 : Int32).toNatClampNeg)) hC hH lv_27 rfl hi92 rfl dX8_second_45 ?_
    refine lv_iconst (v := 1) hx hb dX8_second_46 (by decide) ?_
    refine lv_iadd hx hb dX8_second_47 ?_
    obtain ⟨hi93, hk⟩ := hk
    refine hp_ast hC hH lv_27 (fun _ => rfl) hS hi93 dX8_second_48 (fun H locs hH hS => ?_)
    refine lv_aload_n hx hb dX8_second_49 rfl (lv_at hl 1 rfl) ?_
    refine hp_get (v := .ref (kA κ 27 0)) (C := RX8) (T := TX8) (N := 32) hC inX8 hH lv_8 rfl rfl 12 (by decide) tw_934 rfl rfl dX8_second_50 ?_
    refine lv_iload_n hx hb dX8_second_53 rfl (lv_at hl 0 rfl) ?_
    obtain ⟨hi94, hk⟩ := hk
    refine hp_ald (v := gV (sV (sV (sV (sV γ 26 0 ((gV γ 8 0 4 : Int32).toNatClampNeg) ((gV γ 26 0 ((gV γ 8 0 4 : Int32).toNatClampNeg)) + 1)) 8 0 14 ((gV γ 8 0 14) + 1)) 8 0 14 0) 27 0 ((gV γ 8 0 4 : Int32).toNatClampNeg) ((gV γ 27 0 ((gV γ 8 0 4 : Int32).toNatClampNeg)) + 1)) 27 0 ((gV γ 8 0 4 : Int32).toNatClampNeg)) hC hH lv_27 rfl hi94 rfl dX8_second_54 ?_
    refine lv_iconst (v := 2) hx hb dX8_second_55 (by decide) ?_
    refine lv_icmp_ne (tgt := 67) hx hb dX8_second_56 (by decide) (fun c95 => ?_) (fun c95 => ?_)
    · have hk := ifn hk c95
      have hq := ifne hq c95
      refine lv_aload_n hx hb dX8_second_67 rfl (lv_at hl 1 rfl) ?_
      refine hp_get (v := .ref (kA κ 27 0)) (C := RX8) (T := TX8) (N := 32) hC inX8 hH lv_8 rfl rfl 12 (by decide) tw_934 rfl rfl dX8_second_68 ?_
      refine lv_iload_n hx hb dX8_second_71 rfl (lv_at hl 0 rfl) ?_
      obtain ⟨hi96, hk⟩ := hk
      refine hp_ald (v := gV (sV (sV (sV (sV γ 26 0 ((gV γ 8 0 4 : Int32).toNatClampNeg) ((gV γ 26 0 ((gV γ 8 0 4 : Int32).toNatClampNeg)) + 1)) 8 0 14 ((gV γ 8 0 14) + 1)) 8 0 14 0) 27 0 ((gV γ 8 0 4 : Int32).toNatClampNeg) ((gV γ 27 0 ((gV γ 8 0 4 : Int32).toNatClampNeg)) + 1)) 27 0 ((gV γ 8 0 4 : Int32).toNatClampNeg)) hC hH lv_27 rfl hi96 rfl dX8_second_72 ?_
      refine lv_iconst (v := 3) hx hb dX8_second_73 (by decide) ?_
      refine lv_icmp_ne (tgt := 85) hx hb dX8_second_74 (by decide) (fun c97 => ?_) (fun c97 => ?_)
      · have hk := ifn hk c97
        have hq := ifne hq c97
        exact b_85 (gV γ 8 0 4) (sV (sV (sV (sV γ 26 0 ((gV γ 8 0 4 : Int32).toNatClampNeg) ((gV γ 26 0 ((gV γ 8 0 4 : Int32).toNatClampNeg)) + 1)) 8 0 14 ((gV γ 8 0 14) + 1)) 8 0 14 0) 27 0 ((gV γ 8 0 4 : Int32).toNatClampNeg) ((gV γ 27 0 ((gV γ 8 0 4 : Int32).toNatClampNeg)) + 1)) _ _ _ (lv_sub hl [1, 0] rfl) hH hS hk hq
      · have hk := ifp hk c97
        have hq := ifpe hq c97
        refine lv_aload_n hx hb dX8_second_77 rfl (lv_at hl 1 rfl) ?_
        refine lv_aload_n hx hb dX8_second_78 rfl (lv_at hl 1 rfl) ?_
        obtain ⟨hc98, hk⟩ := hk
        refine k_callV (C := RX8) (T := TX8) (N := 32) (rest := [.ref (kA κ 8 0)]) hC hl hH hS (c_X8_ahead l κ (sV (sV (sV (sV γ 26 0 ((gV γ 8 0 4 : Int32).toNatClampNeg) ((gV γ 26 0 ((gV γ 8 0 4 : Int32).toNatClampNeg)) + 1)) 8 0 14 ((gV γ 8 0 14) + 1)) 8 0 14 0) 27 0 ((gV γ 8 0 4 : Int32).toNatClampNeg) ((gV γ 27 0 ((gV γ 8 0 4 : Int32).toNatClampNeg)) + 1)) hc98) lv_8 rfl rfl tw_1092 tw_1094 tw_45 tw_62 tw_1095 hd_X8_ahead ⟨Nat.le_of_ble_eq_true rfl, Nat.le_of_ble_eq_true rfl⟩ rfl rfl rfl rfl (Nat.le_of_ble_eq_true rfl) dX8_second_79 ⟨Nat.le_of_ble_eq_true rfl, Nat.le_of_ble_eq_true rfl⟩ rfl (fun H locs hH hS => ?_)
        obtain ⟨hc99, hk⟩ := hk
        refine k_callV (C := RX8) (T := TX8) (N := 32) (rest := []) hC hl hH hS (c_X8_ends l κ (sV (sV (sV (sV γ 26 0 ((gV γ 8 0 4 : Int32).toNatClampNeg) ((gV γ 26 0 ((gV γ 8 0 4 : Int32).toNatClampNeg)) + 1)) 8 0 14 ((gV γ 8 0 14) + 1)) 8 0 14 0) 27 0 ((gV γ 8 0 4 : Int32).toNatClampNeg) ((gV γ 27 0 ((gV γ 8 0 4 : Int32).toNatClampNeg)) + 1)) ((x_X8_ahead (sV (sV (sV (sV γ 26 0 ((gV γ 8 0 4 : Int32).toNatClampNeg) ((gV γ 26 0 ((gV γ 8 0 4 : Int32).toNatClampNeg)) + 1)) 8 0 14 ((gV γ 8 0 14) + 1)) 8 0 14 0) 27 0 ((gV γ 8 0 4 : Int32).toNatClampNeg) ((gV γ 27 0 ((gV γ 8 0 4 : Int32).toNatClampNeg)) + 1)))) hc99) lv_8 rfl rfl tw_1096 tw_1098 tw_46 tw_62 tw_1099 hd_X8_ends ⟨Nat.le_of_ble_eq_true rfl, Nat.le_of_ble_eq_true rfl⟩ rfl rfl rfl rfl (Nat.le_of_ble_eq_true rfl) dX8_second_82 ⟨Nat.le_of_ble_eq_true rfl, Nat.le_of_ble_eq_true rfl⟩ rfl (fun H locs hH hS => ?_)
        exact b_85 (gV γ 8 0 4) (x_X8_ends ((x_X8_ahead (sV (sV (sV (sV γ 26 0 ((gV γ 8 0 4 : Int32).toNatClampNeg) ((gV γ 26 0 ((gV γ 8 0 4 : Int32).toNatClampNeg)) + 1)) 8 0 14 ((gV γ 8 0 14) + 1)) 8 0 14 0) 27 0 ((gV γ 8 0 4 : Int32).toNatClampNeg) ((gV γ 27 0 ((gV γ 8 0 4 : Int32).toNatClampNeg)) + 1)))) (sV (sV (sV (sV γ 26 0 ((gV γ 8 0 4 : Int32).toNatClampNeg) ((gV γ 26 0 ((gV γ 8 0 4 : Int32).toNatClampNeg)) + 1)) 8 0 14 ((gV γ 8 0 14) + 1)) 8 0 14 0) 27 0 ((gV γ 8 0 4 : Int32).toNatClampNeg) ((gV γ 27 0 ((gV γ 8 0 4 : Int32).toNatClampNeg)) + 1))) _ _ _ (lv_sub hl [1, 0] rfl) hH hS hk hq
    · have hk := ifp hk c95
      have hq := ifpe hq c95
      refine lv_aload_n hx hb dX8_second_59 rfl (lv_at hl 1 rfl) ?_
      refine lv_iconst (v := 3) hx hb dX8_second_60 (by decide) ?_
      obtain ⟨hc100, hk⟩ := hk
      refine k_callV (C := RX8) (T := TX8) (N := 32) (rest := []) hC hl hH hS (c_X8_gives l κ (sV (sV (sV (sV γ 26 0 ((gV γ 8 0 4 : Int32).toNatClampNeg) ((gV γ 26 0 ((gV γ 8 0 4 : Int32).toNatClampNeg)) + 1)) 8 0 14 ((gV γ 8 0 14) + 1)) 8 0 14 0) 27 0 ((gV γ 8 0 4 : Int32).toNatClampNeg) ((gV γ 27 0 ((gV γ 8 0 4 : Int32).toNatClampNeg)) + 1)) 3 hc100) lv_8 rfl rfl tw_1088 tw_1090 tw_44 tw_62 tw_1091 hd_X8_gives ⟨Nat.le_of_ble_eq_true rfl, Nat.le_of_ble_eq_true rfl⟩ rfl rfl rfl rfl (Nat.le_of_ble_eq_true rfl) dX8_second_61 ⟨Nat.le_of_ble_eq_true rfl, Nat.le_of_ble_eq_true rfl⟩ rfl (fun H locs hH hS => ?_)
      exact b_64 (gV γ 8 0 4) (x_X8_gives 3 (sV (sV (sV (sV γ 26 0 ((gV γ 8 0 4 : Int32).toNatClampNeg) ((gV γ 26 0 ((gV γ 8 0 4 : Int32).toNatClampNeg)) + 1)) 8 0 14 ((gV γ 8 0 14) + 1)) 8 0 14 0) 27 0 ((gV γ 8 0 4 : Int32).toNatClampNeg) ((gV γ 27 0 ((gV γ 8 0 4 : Int32).toNatClampNeg)) + 1))) _ _ _ (lv_sub hl [1, 0] rfl) hH hS hk hq
set_option maxRecDepth 20000 in
set_option maxHeartbeats 4000000 in
theorem c_X8_clock (l : Launch) (κ : KP) (γ : St) (y1 : Int32) (hk : ok_X8_clock y1 γ) : Met l yX8_clock [Cond.code yX8_clock cX8_clock 3 (some .int)] ({ frames := 3, cells := 0, slots := 0, locals := 67 } : Room) (va_Pc [.ref (kA κ 8 0), .int y1] (GG κ γ)) (QQ κ (((x_X8_clock y1 γ)).2) (some (.int (((x_X8_clock y1 γ)).1)))) 0 0 (AA κ) := by
  generalize hq : x_X8_clock y1 γ = res
  refine Met.ofW (cc := cX8_clock) (maxL := 3) (ret := (some .int)) (by decide) rfl ?_
  intro p e s m args below meth c s₁ B hml9 hv
  obtain ⟨rfl, hH, hK9, hB9, hX9, hZ9⟩ := hv
  have hC : CX κ cX8_clock "PhrasehallModel" 3 p l s m ([.ref (kA κ 8 0), .int y1] : List Value).toArray meth c := ⟨B.exec, B.bytes, findClass_of_methodNamed B.named, fun w hw => tw_use (List.mem_filter.mp hw).2 (State.WarmedH.refl s) (hX9.1 w hw), hK9, hX9, hZ9, hB9, hml9, B.notSynchronized⟩
  obtain ⟨hx, hb, hown, hT, -, -, -, -, hml, -⟩ := id hC
  have hr := B.returns
  have hS : va_S (AA κ) s.heap s.heap [] := va_S.rf
  have hl := lv_entry ([.ref (kA κ 8 0), .int y1]) (n := 3) (Nat.le_of_ble_eq_true rfl)
  rw [lg_entry_eq]
  generalize (lg_sl ([.ref (kA κ 8 0), .int y1]) ++ List.replicate (3 - (lg_sl ([.ref (kA κ 8 0), .int y1])).length) Slot.unset).toArray = ls at hl ⊢
  have hl : lv_has ls 3 [(0, .ref (kA κ 8 0)), (1, .int y1)] := hl
  have b_100 : ∀ (s0 : Int32) (γ : St) (H : Heap) (locs : List Loc) (ls : Array Slot), lv_has ls 3 [(0, .ref (kA κ 8 0))] → HR κ γ H → va_S (AA κ) s.heap H locs → ok_X8_clock_100 s0 γ → x_X8_clock_100 s0 γ = res → W p l e (headSpec [Cond.code yX8_clock cX8_clock 3 (some .int)] ({ frames := 3, cells := 0, slots := 0, locals := 67 } : Room)).room s m ([.ref (kA κ 8 0), .int y1] : List Value).toArray below meth c H locs 0 0 (MQ below (QQ κ (res.2) (some (.int res.1))) ([.ref (kA κ 8 0), .int y1] : List Value).toArray s 0 0 (AA κ)) (F0 m 100 ls [.int s0]) := by
    intro s0 γ H locs ls hl hH hS hk hq
    refine lv_aload_n hx hb dX8_clock_100 rfl (lv_at hl 0 rfl) ?_
    refine hp_get (v := .ref (kA κ 26 0)) (C := RX8) (T := TX8) (N := 32) hC inX8 hH lv_8 rfl rfl 11 (by decide) tw_933 rfl rfl dX8_clock_101 ?_
    refine lv_aload_n hx hb dX8_clock_104 rfl (lv_at hl 0 rfl) ?_
    refine hp_get (v := .int (gV γ 8 0 4)) (C := RX8) (T := TX8) (N := 32) hC inX8 hH lv_8 rfl rfl 4 (by decide) tw_926 rfl rfl dX8_clock_105 ?_
    obtain ⟨hi31, hk⟩ := hk
    refine hp_ald (v := gV γ 26 0 ((gV γ 8 0 4 : Int32).toNatClampNeg)) hC hH lv_26 rfl hi31 rfl dX8_clock_108 ?_
    refine lv_isub hx hb dX8_clock_109 ?_
    subst hq
    exact kr_i hC hr hH hS rfl rfl dX8_clock_110
  have b_66 : ∀ (γ : St) (H : Heap) (locs : List Loc) (ls : Array Slot), lv_has ls 3 [(0, .ref (kA κ 8 0))] → HR κ γ H → va_S (AA κ) s.heap H locs → ok_X8_clock_66 γ → x_X8_clock_66 γ = res → W p l e (headSpec [Cond.code yX8_clock cX8_clock 3 (some .int)] ({ frames := 3, cells := 0, slots := 0, locals := 67 } : Room)).room s m ([.ref (kA κ 8 0), .int y1] : List Value).toArray below meth c H locs 0 0 (MQ below (QQ κ (res.2) (some (.int res.1))) ([.ref (kA κ 8 0), .int y1] : List Value).toArray s 0 0 (AA κ)) (F0 m 66 ls []) := by
    intro  γ H locs ls hl hH hS hk hq
    refine lv_aload_n hx hb dX8_clock_66 rfl (lv_at hl 0 rfl) ?_
    refine hp_get (v := .int (gV γ 8 0 4)) (C := RX8) (T := TX8) (N := 32) hC inX8 hH lv_8 rfl rfl 4 (by decide) tw_926 rfl rfl dX8_clock_67 ?_
    refine lv_iconst (v := (-1)) hx hb dX8_clock_70 (by decide) ?_
    refine lv_icmp_ne (tgt := 78) hx hb dX8_clock_71 (by decide) (fun c32 => ?_) (fun c32 => ?_)
    · have hk := ifn hk c32
      have hq := ifne hq c32
      refine lv_aload_n hx hb dX8_clock_78 rfl (lv_at hl 0 rfl) ?_
      refine hp_get (v := .ref (kA κ 28 0)) (C := RX8) (T := TX8) (N := 32) hC inX8 hH lv_8 rfl rfl 13 (by decide) tw_935 rfl rfl dX8_clock_79 ?_
      refine lv_aload_n hx hb dX8_clock_82 rfl (lv_at hl 0 rfl) ?_
      refine hp_get (v := .int (gV γ 8 0 4)) (C := RX8) (T := TX8) (N := 32) hC inX8 hH lv_8 rfl rfl 4 (by decide) tw_926 rfl rfl dX8_clock_83 ?_
      obtain ⟨hi33, hk⟩ := hk
      refine hp_ald (v := gV γ 28 0 ((gV γ 8 0 4 : Int32).toNatClampNeg)) hC hH lv_28 rfl hi33 rfl dX8_clock_86 ?_
      refine lv_iconst (v := (-1)) hx hb dX8_clock_87 (by decide) ?_
      refine lv_icmp_ne (tgt := 97) hx hb dX8_clock_88 (by decide) (fun c34 => ?_) (fun c34 => ?_)
      · have hk := ifn hk c34
        have hq := ifne hq c34
        refine lv_sipush (v := 240) hx hb dX8_clock_97 (by decide) ?_
        exact b_100 240 γ _ _ _ (lv_sub hl [0] rfl) hH hS hk hq
      · have hk := ifp hk c34
        have hq := ifpe hq c34
        refine lv_sipush (v := 180) hx hb dX8_clock_91 (by decide) ?_
        refine lv_goto (tgt := 100) hx hb dX8_clock_94 (by decide) ?_
        exact b_100 180 γ _ _ _ (lv_sub hl [0] rfl) hH hS hk hq
    · have hk := ifp hk c32
      have hq := ifpe hq c32
      refine lv_iconst (v := 0) hx hb dX8_clock_74 (by decide) ?_
      refine lv_goto (tgt := 110) hx hb dX8_clock_75 (by decide) ?_
      subst hq
      exact kr_i hC hr hH hS rfl rfl dX8_clock_110
  have b_43 : ∀ (k43 : Nat) (a1 : Int32) (a2 : Int32) (γ : St) (H : Heap) (locs : List Loc) (ls : Array Slot), lv_has ls 3 [(0, .ref (kA κ 8 0)), (1, .int a1), (2, .int a2)] → HR κ γ H → va_S (AA κ) s.heap H locs → ok_X8_clock_43 k43 a1 a2 γ → x_X8_clock_43 k43 a1 a2 γ = res → W p l e (headSpec [Cond.code yX8_clock cX8_clock 3 (some .int)] ({ frames := 3, cells := 0, slots := 0, locals := 67 } : Room)).room s m ([.ref (kA κ 8 0), .int y1] : List Value).toArray below meth c H locs 0 0 (MQ below (QQ κ (res.2) (some (.int res.1))) ([.ref (kA κ 8 0), .int y1] : List Value).toArray s 0 0 (AA κ)) (F0 m 43 ls []) := by
    intro k43
    induction k43 with
    | zero =>
      intro a1 a2 γ H locs ls hl hH hS hk hq
      exact (show False from hk).elim
    | succ k43 ih_43 =>
      have b_60 : ∀ (a1 : Int32) (a2 : Int32) (γ : St) (H : Heap) (locs : List Loc) (ls : Array Slot), lv_has ls 3 [(0, .ref (kA κ 8 0)), (1, .int a1), (2, .int a2)] → HR κ γ H → va_S (AA κ) s.heap H locs → ok_X8_clock_60 (ok_X8_clock_43 k43) a1 a2 γ → x_X8_clock_60 (x_X8_clock_43 k43) a1 a2 γ = res → W p l e (headSpec [Cond.code yX8_clock cX8_clock 3 (some .int)] ({ frames := 3, cells := 0, slots := 0, locals := 67 } : Room)).room s m ([.ref (kA κ 8 0), .int y1] : List Value).toArray below meth c H locs 0 0 (MQ below (QQ κ (res.2) (some (.int res.1))) ([.ref (kA κ 8 0), .int y1] : List Value).toArray s 0 0 (AA κ)) (F0 m 60 ls []) := by
        intro a1 a2 γ H locs ls hl hH hS hk hq
        refine lv_iinc (v := a2 + 1) (lv' := [(2, .int (a2 + 1)), (0, .ref (kA κ 8 0)), (1, .int a1)]) hx hb dX8_clock_60 hl (k := 2) rfl rfl (by decide) rfl (fun ls hl => ?_)
        refine lv_goto (tgt := 43) hx hb dX8_clock_63 (by decide) ?_
        exact ih_43 a1 (a2 + 1) γ _ _ _ (lv_sub hl [1, 2, 0] rfl) hH hS hk hq
      intro a1 a2 γ H locs ls hl hH hS hk hq
      refine lv_iload_n hx hb dX8_clock_43 rfl (lv_at hl 2 rfl) ?_
      refine lv_iload_n hx hb dX8_clock_44 rfl (lv_at hl 1 rfl) ?_
      refine lv_icmp_ge (tgt := 66) hx hb dX8_clock_45 (by decide) (fun c35 => ?_) (fun c35 => ?_)
      · have hk := ifp hk c35
        have hq := ifpe hq c35
        exact b_66 γ _ _ _ (lv_sub hl [0] rfl) hH hS hk hq
      · have hk := ifn hk c35
        have hq := ifne hq c35
        refine lv_aload_n hx hb dX8_clock_48 rfl (lv_at hl 0 rfl) ?_
        refine hp_get (v := .int (gV γ 8 0 4)) (C := RX8) (T := TX8) (N := 32) hC inX8 hH lv_8 rfl rfl 4 (by decide) tw_926 rfl rfl dX8_clock_49 ?_
        refine lv_iconst (v := (-1)) hx hb dX8_clock_52 (by decide) ?_
        refine lv_icmp_eq (tgt := 66) hx hb dX8_clock_53 (by decide) (fun c36 => ?_) (fun c36 => ?_)
        · have hk := ifp hk c36
          have hq := ifpe hq c36
          exact b_66 γ _ _ _ (lv_sub hl [0] rfl) hH hS hk hq
        · have hk := ifn hk c36
          have hq := ifne hq c36
          refine lv_aload_n hx hb dX8_clock_56 rfl (lv_at hl 0 rfl) ?_
          obtain ⟨hc37, hk⟩ := hk
          refine k_callV (C := RX8) (T := TX8) (N := 32) (rest := []) hC hl hH hS (c_X8_second l κ γ hc37) lv_8 rfl rfl tw_1108 tw_1110 tw_47 tw_62 tw_1111 hd_X8_second ⟨Nat.le_of_ble_eq_true rfl, Nat.le_of_ble_eq_true rfl⟩ rfl rfl rfl rfl (Nat.le_of_ble_eq_true rfl) dX8_clock_57 ⟨Nat.le_of_ble_eq_true rfl, Nat.le_of_ble_eq_true rfl⟩ rfl (fun H locs hH hS => ?_)
          exact b_60 a1 a2 (x_X8_second γ) _ _ _ (lv_sub hl [0, 1, 2] rfl) hH hS hk hq
  have b_29 : ∀ (a1 : Int32) (s0 : Int32) (γ : St) (H : Heap) (locs : List Loc) (ls : Array Slot), lv_has ls 3 [(0, .ref (kA κ 8 0)), (1, .int a1)] → HR κ γ H → va_S (AA κ) s.heap H locs → ok_X8_clock_29 a1 s0 γ → x_X8_clock_29 a1 s0 γ = res → W p l e (headSpec [Cond.code yX8_clock cX8_clock 3 (some .int)] ({ frames := 3, cells := 0, slots := 0, locals := 67 } : Room)).room s m ([.ref (kA κ 8 0), .int y1] : List Value).toArray below meth c H locs 0 0 (MQ below (QQ κ (res.2) (some (.int res.1))) ([.ref (kA κ 8 0), .int y1] : List Value).toArray s 0 0 (AA κ)) (F0 m 29 ls [.int s0, .ref (kA κ 8 0)]) := by
    intro a1 s0 γ H locs ls hl hH hS hk hq
    refine hp_put (v := .int s0) (C := RX8) (T := TX8) (N := 32) hC inX8 tyX8_ok nmX8 hH lv_8 rfl hS rfl 31 (by decide) tw_953 rfl rfl rfl rfl (Nat.le_of_ble_eq_true rfl) (sV γ 8 0 31 s0) (pe_8_31 _ _ 0 s0) (fun _ _ _ h => cel_sV h) (WT_sV hH.wt) dX8_clock_29 (fun H locs hH hS => ?_)
    refine lv_aload_n hx hb dX8_clock_32 rfl (lv_at hl 0 rfl) ?_
    refine hp_get (v := .int s0) (C := RX8) (T := TX8) (N := 32) hC inX8 hH lv_8 rfl rfl 31 (by decide) tw_953 rfl rfl dX8_clock_33 ?_
    refine lv_if_le (tgt := 41) hx hb dX8_clock_36 (by decide) (fun c38 => ?_) (fun c38 => ?_)
    · have hk := ifp hk c38
      have hq := ifpe hq c38
      refine lv_iconst (v := 0) hx hb dX8_clock_41 (by decide) ?_
      refine lv_istore_n (lv' := [(2, .int 0), (0, .ref (kA κ 8 0)), (1, .int a1)]) hx hb dX8_clock_42 rfl hl (by decide) rfl (fun ls hl => ?_)
      exact b_43 fu a1 0 (sV γ 8 0 31 s0) _ _ _ (lv_sub hl [1, 2, 0] rfl) hH hS hk hq
    · have hk := ifn hk c38
      have hq := ifne hq c38
      refine lv_iconst (v := 0) hx hb dX8_clock_39 (by decide) ?_
      subst hq
      exact kr_i hC hr hH hS rfl rfl dX8_clock_40
  refine lv_aload_n hx hb dX8_clock_0 rfl (lv_at hl 0 rfl) ?_
  refine lv_iload_n hx hb dX8_clock_1 rfl (lv_at hl 1 rfl) ?_
  refine lv_iconst (v := 1) hx hb dX8_clock_2 (by decide) ?_
  refine lv_sipush (v := 240) hx hb dX8_clock_3 (by decide) ?_
  refine k_callS (rest := [.ref (kA κ 8 0)]) hC hl hH hS (c_X8_isIn l κ γ y1 1 240) tw_1036 tw_1037 tw_62 tw_1038 hd_X8_isIn ⟨Nat.le_of_ble_eq_true rfl, Nat.le_of_ble_eq_true rfl⟩ rfl rfl rfl rfl (Nat.le_of_ble_eq_true rfl) dX8_clock_6 ⟨Nat.le_of_ble_eq_true rfl, Nat.le_of_ble_eq_true rfl⟩ rfl (fun H locs hH hS => ?_)
  refine lv_if_ne (tgt := 16) hx hb dX8_clock_9 (by decide) (fun c39 => ?_) (fun c39 => ?_)
  · have hk := ifn hk c39
    have hq := ifne hq c39
    refine lv_aload_n hx hb dX8_clock_16 rfl (lv_at hl 0 rfl) ?_
    refine hp_get (v := .int (gV γ 8 0 4)) (C := RX8) (T := TX8) (N := 32) hC inX8 hH lv_8 rfl rfl 4 (by decide) tw_926 rfl rfl dX8_clock_17 ?_
    refine lv_iconst (v := (-1)) hx hb dX8_clock_20 (by decide) ?_
    refine lv_icmp_ne (tgt := 28) hx hb dX8_clock_21 (by decide) (fun c40 => ?_) (fun c40 => ?_)
    · have hk := ifn hk c40
      have hq := ifne hq c40
      refine lv_iconst (v := 0) hx hb dX8_clock_28 (by decide) ?_
      exact b_29 y1 0 γ _ _ _ (lv_sub hl [0, 1] rfl) hH hS hk hq
    · have hk := ifp hk c40
      have hq := ifpe hq c40
      refine lv_iconst (v := 2) hx hb dX8_clock_24 (by decide) ?_
      refine lv_goto (tgt := 29) hx hb dX8_clock_25 (by decide) ?_
      exact b_29 y1 2 γ _ _ _ (lv_sub hl [0, 1] rfl) hH hS hk hq
  · have hk := ifp hk c39
    have hq := ifpe hq c39
    refine lv_iconst (v := 1) hx hb dX8_clock_12 (by decide) ?_
    refine lv_goto (tgt := 29) hx hb dX8_clock_13 (by decide) ?_
    exact b_29 y1 1 γ _ _ _ (lv_sub hl [0, 1] rfl) hH hS hk hq
set_option maxRecDepth 20000 in
set_option maxHeartbeats 4000000 in
theorem c_X8_end (l : Launch) (κ : KP) (γ : St) (hk : ok_X8_end γ) : Met l yX8_end [Cond.code yX8_end cX8_end 2 (some .int)] ({ frames := 1, cells := 0, slots := 0, locals := 22 } : Room) (va_Pc [.ref (kA κ 8 0)] (GG κ γ)) (QQ κ (((x_X8_end γ)).2) (some (.int (((x_X8_end γ)).1)))) 0 0 (AA κ) := by
  generalize hq : x_X8_end γ = res
  refine Met.ofW (cc := cX8_end) (maxL := 2) (ret := (some .int)) (by decide) rfl ?_
  intro p e s m args below meth c s₁ B hml9 hv
  obtain ⟨rfl, hH, hK9, hB9, hX9, hZ9⟩ := hv
  have hC : CX κ cX8_end "PhrasehallModel" 2 p l s m ([.ref (kA κ 8 0)] : List Value).toArray meth c := ⟨B.exec, B.bytes, findClass_of_methodNamed B.named, fun w hw => tw_use (List.mem_filter.mp hw).2 (State.WarmedH.refl s) (hX9.1 w hw), hK9, hX9, hZ9, hB9, hml9, B.notSynchronized⟩
  obtain ⟨hx, hb, hown, hT, -, -, -, -, hml, -⟩ := id hC
  have hr := B.returns
  have hS : va_S (AA κ) s.heap s.heap [] := va_S.rf
  have hl := lv_entry ([.ref (kA κ 8 0)]) (n := 2) (Nat.le_of_ble_eq_true rfl)
  rw [lg_entry_eq]
  generalize (lg_sl ([.ref (kA κ 8 0)]) ++ List.replicate (2 - (lg_sl ([.ref (kA κ 8 0)])).length) Slot.unset).toArray = ls at hl ⊢
  have hl : lv_has ls 2 [(0, .ref (kA κ 8 0))] := hl
  have b_36 : ∀ (a1 : Int32) (γ : St) (H : Heap) (locs : List Loc) (ls : Array Slot), lv_has ls 2 [(1, .int a1)] → HR κ γ H → va_S (AA κ) s.heap H locs → ok_X8_end_36 a1 γ → x_X8_end_36 a1 γ = res → W p l e (headSpec [Cond.code yX8_end cX8_end 2 (some .int)] ({ frames := 1, cells := 0, slots := 0, locals := 22 } : Room)).room s m ([.ref (kA κ 8 0)] : List Value).toArray below meth c H locs 0 0 (MQ below (QQ κ (res.2) (some (.int res.1))) ([.ref (kA κ 8 0)] : List Value).toArray s 0 0 (AA κ)) (F0 m 36 ls []) := by
    intro a1 γ H locs ls hl hH hS hk hq
    refine lv_iload_n hx hb dX8_end_36 rfl (lv_at hl 0 rfl) ?_
    subst hq
    exact kr_i hC hr hH hS rfl rfl dX8_end_37
  have b_14 : ∀ (s0 : Int32) (γ : St) (H : Heap) (locs : List Loc) (ls : Array Slot), lv_has ls 2 [(0, .ref (kA κ 8 0))] → HR κ γ H → va_S (AA κ) s.heap H locs → ok_X8_end_14 s0 γ → x_X8_end_14 s0 γ = res → W p l e (headSpec [Cond.code yX8_end cX8_end 2 (some .int)] ({ frames := 1, cells := 0, slots := 0, locals := 22 } : Room)).room s m ([.ref (kA κ 8 0)] : List Value).toArray below meth c H locs 0 0 (MQ below (QQ κ (res.2) (some (.int res.1))) ([.ref (kA κ 8 0)] : List Value).toArray s 0 0 (AA κ)) (F0 m 14 ls [.int s0, .ref (kA κ 8 0)]) := by
    intro s0 γ H locs ls hl hH hS hk hq
    refine hp_put (v := .int s0) (C := RX8) (T := TX8) (N := 32) hC inX8 tyX8_ok nmX8 hH lv_8 rfl hS rfl 31 (by decide) tw_953 rfl rfl rfl rfl (Nat.le_of_ble_eq_true rfl) (sV γ 8 0 31 s0) (pe_8_31 _ _ 0 s0) (fun _ _ _ h => cel_sV h) (WT_sV hH.wt) dX8_end_14 (fun H locs hH hS => ?_)
    refine lv_aload_n hx hb dX8_end_17 rfl (lv_at hl 0 rfl) ?_
    refine hp_get (v := .int s0) (C := RX8) (T := TX8) (N := 32) hC inX8 hH lv_8 rfl rfl 31 (by decide) tw_953 rfl rfl dX8_end_18 ?_
    refine lv_if_le (tgt := 26) hx hb dX8_end_21 (by decide) (fun c13 => ?_) (fun c13 => ?_)
    · have hk := ifp hk c13
      have hq := ifpe hq c13
      refine lv_aload_n hx hb dX8_end_26 rfl (lv_at hl 0 rfl) ?_
      obtain ⟨hc14, hk⟩ := hk
      refine k_callV (C := RX8) (T := TX8) (N := 32) (rest := []) hC hl hH hS (c_X8_ahead l κ (sV γ 8 0 31 s0) hc14) lv_8 rfl rfl tw_1092 tw_1094 tw_45 tw_62 tw_1095 hd_X8_ahead ⟨Nat.le_of_ble_eq_true rfl, Nat.le_of_ble_eq_true rfl⟩ rfl rfl rfl rfl (Nat.le_of_ble_eq_true rfl) dX8_end_27 ⟨Nat.le_of_ble_eq_true rfl, Nat.le_of_ble_eq_true rfl⟩ rfl (fun H locs hH hS => ?_)
      refine lv_istore_n (lv' := [(1, .int ((x_X8_ahead (sV γ 8 0 31 s0)))), (0, .ref (kA κ 8 0))]) hx hb dX8_end_30 rfl hl (by decide) rfl (fun ls hl => ?_)
      refine lv_aload_n hx hb dX8_end_31 rfl (lv_at hl 1 rfl) ?_
      refine lv_iload_n hx hb dX8_end_32 rfl (lv_at hl 0 rfl) ?_
      obtain ⟨hc15, hk⟩ := hk
      refine k_callV (C := RX8) (T := TX8) (N := 32) (rest := []) hC hl hH hS (c_X8_ends l κ (sV γ 8 0 31 s0) ((x_X8_ahead (sV γ 8 0 31 s0))) hc15) lv_8 rfl rfl tw_1096 tw_1098 tw_46 tw_62 tw_1099 hd_X8_ends ⟨Nat.le_of_ble_eq_true rfl, Nat.le_of_ble_eq_true rfl⟩ rfl rfl rfl rfl (Nat.le_of_ble_eq_true rfl) dX8_end_33 ⟨Nat.le_of_ble_eq_true rfl, Nat.le_of_ble_eq_true rfl⟩ rfl (fun H locs hH hS => ?_)
      exact b_36 ((x_X8_ahead (sV γ 8 0 31 s0))) (x_X8_ends ((x_X8_ahead (sV γ 8 0 31 s0))) (sV γ 8 0 31 s0)) _ _ _ (lv_sub hl [0] rfl) hH hS hk hq
    · have hk := ifn hk c13
      have hq := ifne hq c13
      refine lv_iconst (v := 0) hx hb dX8_end_24 (by decide) ?_
      subst hq
      exact kr_i hC hr hH hS rfl rfl dX8_end_25
  refine lv_aload_n hx hb dX8_end_0 rfl (lv_at hl 0 rfl) ?_
  refine lv_aload_n hx hb dX8_end_1 rfl (lv_at hl 0 rfl) ?_
  refine hp_get (v := .int (gV γ 8 0 4)) (C := RX8) (T := TX8) (N := 32) hC inX8 hH lv_8 rfl rfl 4 (by decide) tw_926 rfl rfl dX8_end_2 ?_
  refine lv_iconst (v := (-1)) hx hb dX8_end_5 (by decide) ?_
  refine lv_icmp_ne (tgt := 13) hx hb dX8_end_6 (by decide) (fun c16 => ?_) (fun c16 => ?_)
  · have hk := ifn hk c16
    have hq := ifne hq c16
    refine lv_iconst (v := 0) hx hb dX8_end_13 (by decide) ?_
    exact b_14 0 γ _ _ _ (lv_sub hl [0] rfl) hH hS hk hq
  · have hk := ifp hk c16
    have hq := ifpe hq c16
    refine lv_iconst (v := 1) hx hb dX8_end_9 (by decide) ?_
    refine lv_goto (tgt := 14) hx hb dX8_end_10 (by decide) ?_
    exact b_14 1 γ _ _ _ (lv_sub hl [0] rfl) hH hS hk hq
set_option maxRecDepth 20000 in
set_option maxHeartbeats 4000000 in
theorem c_X8_seed (l : Launch) (κ : KP) (γ : St) (y1 : Int32)  : Met l yX8_seed [Cond.code yX8_seed cX8_seed 2 none] ({ frames := 0, cells := 0, slots := 0, locals := 0 } : Room) (va_Pc [.ref (kA κ 8 0), .int y1] (GG κ γ)) (QQ κ ((x_X8_seed y1 γ)) none) 0 0 (AA κ) := by
  generalize hq : x_X8_seed y1 γ = res
  refine Met.ofW (cc := cX8_seed) (maxL := 2) (ret := none) (by decide) rfl ?_
  intro p e s m args below meth c s₁ B hml9 hv
  obtain ⟨rfl, hH, hK9, hB9, hX9, hZ9⟩ := hv
  have hC : CX κ cX8_seed "PhrasehallModel" 2 p l s m ([.ref (kA κ 8 0), .int y1] : List Value).toArray meth c := ⟨B.exec, B.bytes, findClass_of_methodNamed B.named, fun w hw => tw_use (List.mem_filter.mp hw).2 (State.WarmedH.refl s) (hX9.1 w hw), hK9, hX9, hZ9, hB9, hml9, B.notSynchronized⟩
  obtain ⟨hx, hb, hown, hT, -, -, -, -, hml, -⟩ := id hC
  have hr := B.returns
  have hS : va_S (AA κ) s.heap s.heap [] := va_S.rf
  have hl := lv_entry ([.ref (kA κ 8 0), .int y1]) (n := 2) (Nat.le_of_ble_eq_true rfl)
  rw [lg_entry_eq]
  generalize (lg_sl ([.ref (kA κ 8 0), .int y1]) ++ List.replicate (2 - (lg_sl ([.ref (kA κ 8 0), .int y1])).length) Slot.unset).toArray = ls at hl ⊢
  have hl : lv_has ls 2 [(0, .ref (kA κ 8 0)), (1, .int y1)] := hl
  have b_27 : ∀ (s0 : Int64) (γ : St) (H : Heap) (locs : List Loc) (ls : Array Slot), lv_has ls 2 [] → HR κ γ H → va_S (AA κ) s.heap H locs → x_X8_seed_27 s0 γ = res → W p l e (headSpec [Cond.code yX8_seed cX8_seed 2 none] ({ frames := 0, cells := 0, slots := 0, locals := 0 } : Room)).room s m ([.ref (kA κ 8 0), .int y1] : List Value).toArray below meth c H locs 0 0 (MQ below (QQ κ res none) ([.ref (kA κ 8 0), .int y1] : List Value).toArray s 0 0 (AA κ)) (F0 m 27 ls [.long s0, .ref (kA κ 8 0)]) := by
    intro s0 γ H locs ls hl hH hS hq
    refine hp_put (v := .long s0) (C := RX8) (T := TX8) (N := 32) hC inX8 tyX8_ok nmX8 hH lv_8 rfl hS rfl 1 (by decide) tw_923 rfl rfl rfl rfl (Nat.le_of_ble_eq_true rfl) (sL γ 8 1 s0) (pl_8_1 _ _ s0) (fun c9 n9 hl9 h => cel_sL (fun q => h ⟨q, lv_u8 n9 (by rw [← q]; exact hl9)⟩)) (WT_sL hH.wt) dX8_seed_27 (fun H locs hH hS => ?_)
    subst hq
    exact kr_v hC hr hH hS rfl dX8_seed_30
  have b_10 : ∀ (a1 : Int32) (s0 : Int32) (γ : St) (H : Heap) (locs : List Loc) (ls : Array Slot), lv_has ls 2 [(0, .ref (kA κ 8 0)), (1, .int a1)] → HR κ γ H → va_S (AA κ) s.heap H locs → x_X8_seed_10 a1 s0 γ = res → W p l e (headSpec [Cond.code yX8_seed cX8_seed 2 none] ({ frames := 0, cells := 0, slots := 0, locals := 0 } : Room)).room s m ([.ref (kA κ 8 0), .int y1] : List Value).toArray below meth c H locs 0 0 (MQ below (QQ κ res none) ([.ref (kA κ 8 0), .int y1] : List Value).toArray s 0 0 (AA κ)) (F0 m 10 ls [.int s0, .ref (kA κ 8 0)]) := by
    intro a1 s0 γ H locs ls hl hH hS hq
    refine hp_put (v := .int s0) (C := RX8) (T := TX8) (N := 32) hC inX8 tyX8_ok nmX8 hH lv_8 rfl hS rfl 31 (by decide) tw_953 rfl rfl rfl rfl (Nat.le_of_ble_eq_true rfl) (sV γ 8 0 31 s0) (pe_8_31 _ _ 0 s0) (fun _ _ _ h => cel_sV h) (WT_sV hH.wt) dX8_seed_10 (fun H locs hH hS => ?_)
    refine lv_aload_n hx hb dX8_seed_13 rfl (lv_at hl 0 rfl) ?_
    refine lv_iload_n hx hb dX8_seed_14 rfl (lv_at hl 1 rfl) ?_
    refine lv_if_ge (tgt := 25) hx hb dX8_seed_15 (by decide) (fun c7 => ?_) (fun c7 => ?_)
    · have hq := ifpe hq c7
      refine lv_iload_n hx hb dX8_seed_25 rfl (lv_at hl 1 rfl) ?_
      refine lv_i2l (v := (a1 : Int32).toInt64) hx hb dX8_seed_26 rfl ?_
      exact b_27 ((a1 : Int32).toInt64) (sV γ 8 0 31 s0) _ _ _ (lv_sub hl [] rfl) hH hS hq
    · have hq := ifne hq c7
      refine lv_aload_n hx hb dX8_seed_18 rfl (lv_at hl 0 rfl) ?_
      refine hp_get (v := .long (gL γ 8 1)) (C := RX8) (T := TX8) (N := 32) hC inX8 hH lv_8 rfl rfl 1 (by decide) tw_923 rfl rfl dX8_seed_19 ?_
      refine lv_goto (tgt := 27) hx hb dX8_seed_22 (by decide) ?_
      exact b_27 (gL γ 8 1) (sV γ 8 0 31 s0) _ _ _ (lv_sub hl [] rfl) hH hS hq
  refine lv_aload_n hx hb dX8_seed_0 rfl (lv_at hl 0 rfl) ?_
  refine lv_iload_n hx hb dX8_seed_1 rfl (lv_at hl 1 rfl) ?_
  refine lv_if_ge (tgt := 9) hx hb dX8_seed_2 (by decide) (fun c8 => ?_) (fun c8 => ?_)
  · have hq := ifpe hq c8
    refine lv_iconst (v := 0) hx hb dX8_seed_9 (by decide) ?_
    exact b_10 y1 0 γ _ _ _ (lv_sub hl [0, 1] rfl) hH hS hq
  · have hq := ifne hq c8
    refine lv_iconst (v := 1) hx hb dX8_seed_5 (by decide) ?_
    refine lv_goto (tgt := 10) hx hb dX8_seed_6 (by decide) ?_
    exact b_10 y1 1 γ _ _ _ (lv_sub hl [0, 1] rfl) hH hS hq
set_option maxRecDepth 20000 in
set_option maxHeartbeats 4000000 in
theorem c_X8_many (l : Launch) (κ : KP) (γ : St) (y0 : Int32) (hk : ok_X8_many y0 γ) : Met l yX8_many [Cond.code yX8_many cX8_many 3 (some .int)] ({ frames := 0, cells := 0, slots := 0, locals := 0 } : Room) (va_Pc [.int y0] (GG κ γ)) (QQ κ γ (some (.int ((x_X8_many y0 γ))))) 0 0 (AA κ) := by
  generalize hq : x_X8_many y0 γ = res
  refine Met.ofW (cc := cX8_many) (maxL := 3) (ret := (some .int)) (by decide) rfl ?_
  intro p e s m args below meth c s₁ B hml9 hv
  obtain ⟨rfl, hH, hK9, hB9, hX9, hZ9⟩ := hv
  have hC : CX κ cX8_many "PhrasehallModel" 3 p l s m ([.int y0] : List Value).toArray meth c := ⟨B.exec, B.bytes, findClass_of_methodNamed B.named, fun w hw => tw_use (List.mem_filter.mp hw).2 (State.WarmedH.refl s) (hX9.1 w hw), hK9, hX9, hZ9, hB9, hml9, B.notSynchronized⟩
  obtain ⟨hx, hb, hown, hT, -, -, -, -, hml, -⟩ := id hC
  have hr := B.returns
  have hS : va_S (AA κ) s.heap s.heap [] := va_S.rf
  have hl := lv_entry ([.int y0]) (n := 3) (Nat.le_of_ble_eq_true rfl)
  rw [lg_entry_eq]
  generalize (lg_sl ([.int y0]) ++ List.replicate (3 - (lg_sl ([.int y0])).length) Slot.unset).toArray = ls at hl ⊢
  have hl : lv_has ls 3 [(0, .int y0)] := hl
  have b_4 : ∀ (k4 : Nat) (a0 : Int32) (a1 : Int32) (a2 : Int32) (H : Heap) (locs : List Loc) (ls : Array Slot), lv_has ls 3 [(0, .int a0), (1, .int a1), (2, .int a2)] → HR κ γ H → va_S (AA κ) s.heap H locs → ok_X8_many_4 k4 a0 a1 a2 γ → x_X8_many_4 k4 a0 a1 a2 γ = res → W p l e (headSpec [Cond.code yX8_many cX8_many 3 (some .int)] ({ frames := 0, cells := 0, slots := 0, locals := 0 } : Room)).room s m ([.int y0] : List Value).toArray below meth c H locs 0 0 (MQ below (QQ κ γ (some (.int res))) ([.int y0] : List Value).toArray s 0 0 (AA κ)) (F0 m 4 ls []) := by
    intro k4
    induction k4 with
    | zero =>
      intro a0 a1 a2 H locs ls hl hH hS hk hq
      exact (show False from hk).elim
    | succ k4 ih_4 =>
      intro a0 a1 a2 H locs ls hl hH hS hk hq
      refine lv_iload_n hx hb dX8_many_4 rfl (lv_at hl 2 rfl) ?_
      refine lv_bipush (v := 32) hx hb dX8_many_5 (by decide) ?_
      refine lv_icmp_ge (tgt := 24) hx hb dX8_many_7 (by decide) (fun c4 => ?_) (fun c4 => ?_)
      · have hk := ifp hk c4
        have hq := ifpe hq c4
        refine lv_iload_n hx hb dX8_many_24 rfl (lv_at hl 1 rfl) ?_
        subst hq
        exact kr_i hC hr hH hS rfl rfl dX8_many_25
      · have hk := ifn hk c4
        have hq := ifne hq c4
        refine lv_iload_n hx hb dX8_many_10 rfl (lv_at hl 1 rfl) ?_
        refine lv_iload_n hx hb dX8_many_11 rfl (lv_at hl 0 rfl) ?_
        refine lv_iload_n hx hb dX8_many_12 rfl (lv_at hl 2 rfl) ?_
        refine lv_ishr hx hb dX8_many_13 ?_
        refine lv_iconst (v := 1) hx hb dX8_many_14 (by decide) ?_
        refine lv_iand hx hb dX8_many_15 ?_
        refine lv_iadd hx hb dX8_many_16 ?_
        refine lv_istore_n (lv' := [(1, .int (a1 + ((a0 >>> (a2 &&& 31)) &&& 1))), (0, .int a0), (2, .int a2)]) hx hb dX8_many_17 rfl hl (by decide) rfl (fun ls hl => ?_)
        refine lv_iinc (v := a2 + 1) (lv' := [(2, .int (a2 + 1)), (1, .int (a1 + ((a0 >>> (a2 &&& 31)) &&& 1))), (0, .int a0)]) hx hb dX8_many_18 hl (k := 2) rfl rfl (by decide) rfl (fun ls hl => ?_)
        refine lv_goto (tgt := 4) hx hb dX8_many_21 (by decide) ?_
        exact ih_4 a0 (a1 + ((a0 >>> (a2 &&& 31)) &&& 1)) (a2 + 1) _ _ _ (lv_sub hl [2, 1, 0] rfl) hH hS hk hq
  refine lv_iconst (v := 0) hx hb dX8_many_0 (by decide) ?_
  refine lv_istore_n (lv' := [(1, .int 0), (0, .int y0)]) hx hb dX8_many_1 rfl hl (by decide) rfl (fun ls hl => ?_)
  refine lv_iconst (v := 0) hx hb dX8_many_2 (by decide) ?_
  refine lv_istore_n (lv' := [(2, .int 0), (1, .int 0), (0, .int y0)]) hx hb dX8_many_3 rfl hl (by decide) rfl (fun ls hl => ?_)
  exact b_4 fu y0 0 0 _ _ _ (lv_sub hl [2, 1, 0] rfl) hH hS hk hq
set_option maxRecDepth 20000 in
set_option maxHeartbeats 4000000 in
theorem c_X8_pool (l : Launch) (κ : KP) (γ : St) (y1 : Int32) (hk : ok_X8_pool y1 γ) : Met l yX8_pool [Cond.code yX8_pool cX8_pool 2 (some .int)] ({ frames := 1, cells := 0, slots := 0, locals := 22 } : Room) (va_Pc [.ref (kA κ 8 0), .int y1] (GG κ γ)) (QQ κ (((x_X8_pool y1 γ)).2) (some (.int (((x_X8_pool y1 γ)).1)))) 0 0 (AA κ) := by
  generalize hq : x_X8_pool y1 γ = res
  refine Met.ofW (cc := cX8_pool) (maxL := 2) (ret := (some .int)) (by decide) rfl ?_
  intro p e s m args below meth c s₁ B hml9 hv
  obtain ⟨rfl, hH, hK9, hB9, hX9, hZ9⟩ := hv
  have hC : CX κ cX8_pool "PhrasehallModel" 2 p l s m ([.ref (kA κ 8 0), .int y1] : List Value).toArray meth c := ⟨B.exec, B.bytes, findClass_of_methodNamed B.named, fun w hw => tw_use (List.mem_filter.mp hw).2 (State.WarmedH.refl s) (hX9.1 w hw), hK9, hX9, hZ9, hB9, hml9, B.notSynchronized⟩
  obtain ⟨hx, hb, hown, hT, -, -, -, -, hml, -⟩ := id hC
  have hr := B.returns
  have hS : va_S (AA κ) s.heap s.heap [] := va_S.rf
  have hl := lv_entry ([.ref (kA κ 8 0), .int y1]) (n := 2) (Nat.le_of_ble_eq_true rfl)
  rw [lg_entry_eq]
  generalize (lg_sl ([.ref (kA κ 8 0), .int y1]) ++ List.replicate (2 - (lg_sl ([.ref (kA κ 8 0), .int y1])).length) Slot.unset).toArray = ls at hl ⊢
  have hl : lv_has ls 2 [(0, .ref (kA κ 8 0)), (1, .int y1)] := hl
  have b_41 : ∀ (a1 : Int32) (s0 : Int32) (γ : St) (H : Heap) (locs : List Loc) (ls : Array Slot), lv_has ls 2 [(0, .ref (kA κ 8 0)), (1, .int a1)] → HR κ γ H → va_S (AA κ) s.heap H locs → ok_X8_pool_41 a1 s0 γ → x_X8_pool_41 a1 s0 γ = res → W p l e (headSpec [Cond.code yX8_pool cX8_pool 2 (some .int)] ({ frames := 1, cells := 0, slots := 0, locals := 22 } : Room)).room s m ([.ref (kA κ 8 0), .int y1] : List Value).toArray below meth c H locs 0 0 (MQ below (QQ κ (res.2) (some (.int res.1))) ([.ref (kA κ 8 0), .int y1] : List Value).toArray s 0 0 (AA κ)) (F0 m 41 ls [.int s0, .ref (kA κ 8 0)]) := by
    intro a1 s0 γ H locs ls hl hH hS hk hq
    refine hp_put (v := .int s0) (C := RX8) (T := TX8) (N := 32) hC inX8 tyX8_ok nmX8 hH lv_8 rfl hS rfl 31 (by decide) tw_953 rfl rfl rfl rfl (Nat.le_of_ble_eq_true rfl) (sV γ 8 0 31 s0) (pe_8_31 _ _ 0 s0) (fun _ _ _ h => cel_sV h) (WT_sV hH.wt) dX8_pool_41 (fun H locs hH hS => ?_)
    refine lv_aload_n hx hb dX8_pool_44 rfl (lv_at hl 0 rfl) ?_
    refine hp_get (v := .int s0) (C := RX8) (T := TX8) (N := 32) hC inX8 hH lv_8 rfl rfl 31 (by decide) tw_953 rfl rfl dX8_pool_45 ?_
    refine lv_if_le (tgt := 53) hx hb dX8_pool_48 (by decide) (fun c22 => ?_) (fun c22 => ?_)
    · have hk := ifp hk c22
      have hq := ifpe hq c22
      refine lv_aload_n hx hb dX8_pool_53 rfl (lv_at hl 0 rfl) ?_
      refine hp_get (v := .ref (kA κ 36 0)) (C := RX8) (T := TX8) (N := 32) hC inX8 hH lv_8 rfl rfl 24 (by decide) tw_946 rfl rfl dX8_pool_54 ?_
      refine lv_aload_n hx hb dX8_pool_57 rfl (lv_at hl 0 rfl) ?_
      refine hp_get (v := .int (gV γ 8 0 23)) (C := RX8) (T := TX8) (N := 32) hC inX8 hH lv_8 rfl rfl 23 (by decide) tw_945 rfl rfl dX8_pool_58 ?_
      refine lv_iload_n hx hb dX8_pool_61 rfl (lv_at hl 1 rfl) ?_
      obtain ⟨hi23, hk⟩ := hk
      refine hp_ast hC hH lv_36 (fun _ => rfl) hS hi23 dX8_pool_62 (fun H locs hH hS => ?_)
      refine lv_aload_n hx hb dX8_pool_63 rfl (lv_at hl 0 rfl) ?_
      refine lv_dup hx hb dX8_pool_64 rfl ?_
      refine hp_get (v := .int (gV γ 8 0 23)) (C := RX8) (T := TX8) (N := 32) hC inX8 hH lv_8 rfl rfl 23 (by decide) tw_945 rfl rfl dX8_pool_65 ?_
      refine lv_iconst (v := 1) hx hb dX8_pool_68 (by decide) ?_
      refine lv_iadd hx hb dX8_pool_69 ?_
      refine hp_put (v := .int ((gV γ 8 0 23) + 1)) (C := RX8) (T := TX8) (N := 32) hC inX8 tyX8_ok nmX8 hH lv_8 rfl hS rfl 23 (by decide) tw_945 rfl rfl rfl rfl (Nat.le_of_ble_eq_true rfl) (sV (sV (sV γ 8 0 31 s0) 36 0 ((gV γ 8 0 23 : Int32).toNatClampNeg) a1) 8 0 23 ((gV γ 8 0 23) + 1)) (pe_8_23 _ _ 0 ((gV γ 8 0 23) + 1)) (fun _ _ _ h => cel_sV h) (WT_sV hH.wt) dX8_pool_70 (fun H locs hH hS => ?_)
      refine lv_aload_n hx hb dX8_pool_73 rfl (lv_at hl 0 rfl) ?_
      refine hp_get (v := .int ((gV γ 8 0 23) + 1)) (C := RX8) (T := TX8) (N := 32) hC inX8 hH lv_8 rfl rfl 23 (by decide) tw_945 rfl rfl dX8_pool_74 ?_
      refine lv_iconst (v := 1) hx hb dX8_pool_77 (by decide) ?_
      refine lv_isub hx hb dX8_pool_78 ?_
      subst hq
      exact kr_i hC hr hH hS rfl rfl dX8_pool_79
    · have hk := ifn hk c22
      have hq := ifne hq c22
      refine lv_iconst (v := 0) hx hb dX8_pool_51 (by decide) ?_
      subst hq
      exact kr_i hC hr hH hS rfl rfl dX8_pool_52
  have b_23 : ∀ (a1 : Int32) (γ : St) (H : Heap) (locs : List Loc) (ls : Array Slot), lv_has ls 2 [(0, .ref (kA κ 8 0)), (1, .int a1)] → HR κ γ H → va_S (AA κ) s.heap H locs → ok_X8_pool_23 a1 γ → x_X8_pool_23 a1 γ = res → W p l e (headSpec [Cond.code yX8_pool cX8_pool 2 (some .int)] ({ frames := 1, cells := 0, slots := 0, locals := 22 } : Room)).room s m ([.ref (kA κ 8 0), .int y1] : List Value).toArray below meth c H locs 0 0 (MQ below (QQ κ (res.2) (some (.int res.1))) ([.ref (kA κ 8 0), .int y1] : List Value).toArray s 0 0 (AA κ)) (F0 m 23 ls [.ref (kA κ 8 0)]) := by
    intro a1 γ H locs ls hl hH hS hk hq
    refine lv_iconst (v := 1) hx hb dX8_pool_23 (by decide) ?_
    refine lv_goto (tgt := 41) hx hb dX8_pool_24 (by decide) ?_
    exact b_41 a1 1 γ _ _ _ (lv_sub hl [0, 1] rfl) hH hS hk hq
  refine lv_aload_n hx hb dX8_pool_0 rfl (lv_at hl 0 rfl) ?_
  refine lv_iload_n hx hb dX8_pool_1 rfl (lv_at hl 1 rfl) ?_
  refine lv_if_lt (tgt := 23) hx hb dX8_pool_2 (by decide) (fun c24 => ?_) (fun c24 => ?_)
  · have hk := ifp hk c24
    have hq := ifpe hq c24
    exact b_23 y1 γ _ _ _ (lv_sub hl [0, 1] rfl) hH hS hk hq
  · have hk := ifn hk c24
    have hq := ifne hq c24
    refine lv_iload_n hx hb dX8_pool_5 rfl (lv_at hl 1 rfl) ?_
    refine lv_iconst (v := 1) hx hb dX8_pool_6 (by decide) ?_
    refine lv_aload_n hx hb dX8_pool_7 rfl (lv_at hl 0 rfl) ?_
    refine hp_get (v := .int (gV γ 8 0 0)) (C := RX8) (T := TX8) (N := 32) hC inX8 hH lv_8 rfl rfl 0 (by decide) tw_922 rfl rfl dX8_pool_8 ?_
    refine lv_ishl hx hb dX8_pool_11 ?_
    refine lv_icmp_ge (tgt := 23) hx hb dX8_pool_12 (by decide) (fun c25 => ?_) (fun c25 => ?_)
    · have hk := ifp hk c25
      have hq := ifpe hq c25
      exact b_23 y1 γ _ _ _ (lv_sub hl [0, 1] rfl) hH hS hk hq
    · have hk := ifn hk c25
      have hq := ifne hq c25
      refine lv_iload_n hx hb dX8_pool_15 rfl (lv_at hl 1 rfl) ?_
      obtain ⟨hc26, hk⟩ := hk
      refine k_callS (rest := [.ref (kA κ 8 0)]) hC hl hH hS (c_X8_many l κ γ y1 hc26) tw_1132 tw_1133 tw_62 tw_1134 hd_X8_many ⟨Nat.le_of_ble_eq_true rfl, Nat.le_of_ble_eq_true rfl⟩ rfl rfl rfl rfl (Nat.le_of_ble_eq_true rfl) dX8_pool_16 ⟨Nat.le_of_ble_eq_true rfl, Nat.le_of_ble_eq_true rfl⟩ rfl (fun H locs hH hS => ?_)
      refine lv_iconst (v := 2) hx hb dX8_pool_19 (by decide) ?_
      refine lv_icmp_ge (tgt := 27) hx hb dX8_pool_20 (by decide) (fun c27 => ?_) (fun c27 => ?_)
      · have hk := ifp hk c27
        have hq := ifpe hq c27
        refine lv_aload_n hx hb dX8_pool_27 rfl (lv_at hl 0 rfl) ?_
        refine hp_get (v := .int (gV γ 8 0 23)) (C := RX8) (T := TX8) (N := 32) hC inX8 hH lv_8 rfl rfl 23 (by decide) tw_945 rfl rfl dX8_pool_28 ?_
        refine lv_bipush (v := 6) hx hb dX8_pool_31 (by decide) ?_
        refine lv_icmp_ne (tgt := 40) hx hb dX8_pool_33 (by decide) (fun c28 => ?_) (fun c28 => ?_)
        · have hk := ifn hk c28
          have hq := ifne hq c28
          refine lv_iconst (v := 0) hx hb dX8_pool_40 (by decide) ?_
          exact b_41 y1 0 γ _ _ _ (lv_sub hl [0, 1] rfl) hH hS hk hq
        · have hk := ifp hk c28
          have hq := ifpe hq c28
          refine lv_iconst (v := 2) hx hb dX8_pool_36 (by decide) ?_
          refine lv_goto (tgt := 41) hx hb dX8_pool_37 (by decide) ?_
          exact b_41 y1 2 γ _ _ _ (lv_sub hl [0, 1] rfl) hH hS hk hq
      · have hk := ifn hk c27
        have hq := ifne hq c27
        exact b_23 y1 γ _ _ _ (lv_sub hl [0, 1] rfl) hH hS hk hq
set_option maxRecDepth 20000 in
set_option maxHeartbeats 4000000 in
theorem c_X8_isMember (l : Launch) (κ : KP) (γ : St) (y1 : Int32) (y2 : Int32) (hk : ok_X8_isMember y1 y2 γ) : Met l yX8_isMember [Cond.code yX8_isMember cX8_isMember 3 (some .boolean)] ({ frames := 2, cells := 0, slots := 0, locals := 43 } : Room) (va_Pc [.ref (kA κ 8 0), .int y1, .int y2] (GG κ γ)) (QQ κ γ (some (.int ((x_X8_isMember y1 y2 γ))))) 0 0 (AA κ) := by
  generalize hq : x_X8_isMember y1 y2 γ = res
  refine Met.ofW (cc := cX8_isMember) (maxL := 3) (ret := (some .boolean)) (by decide) rfl ?_
  intro p e s m args below meth c s₁ B hml9 hv
  obtain ⟨rfl, hH, hK9, hB9, hX9, hZ9⟩ := hv
  have hC : CX κ cX8_isMember "PhrasehallModel" 3 p l s m ([.ref (kA κ 8 0), .int y1, .int y2] : List Value).toArray meth c := ⟨B.exec, B.bytes, findClass_of_methodNamed B.named, fun w hw => tw_use (List.mem_filter.mp hw).2 (State.WarmedH.refl s) (hX9.1 w hw), hK9, hX9, hZ9, hB9, hml9, B.notSynchronized⟩
  obtain ⟨hx, hb, hown, hT, -, -, -, -, hml, -⟩ := id hC
  have hr := B.returns
  have hS : va_S (AA κ) s.heap s.heap [] := va_S.rf
  have hl := lv_entry ([.ref (kA κ 8 0), .int y1, .int y2]) (n := 3) (Nat.le_of_ble_eq_true rfl)
  rw [lg_entry_eq]
  generalize (lg_sl ([.ref (kA κ 8 0), .int y1, .int y2]) ++ List.replicate (3 - (lg_sl ([.ref (kA κ 8 0), .int y1, .int y2])).length) Slot.unset).toArray = ls at hl ⊢
  have hl : lv_has ls 3 [(0, .ref (kA κ 8 0)), (1, .int y1), (2, .int y2)] := hl
  have b_33 : ∀ (H : Heap) (locs : List Loc) (ls : Array Slot), lv_has ls 3 [] → HR κ γ H → va_S (AA κ) s.heap H locs → ok_X8_isMember_33 γ → x_X8_isMember_33 γ = res → W p l e (headSpec [Cond.code yX8_isMember cX8_isMember 3 (some .boolean)] ({ frames := 2, cells := 0, slots := 0, locals := 43 } : Room)).room s m ([.ref (kA κ 8 0), .int y1, .int y2] : List Value).toArray below meth c H locs 0 0 (MQ below (QQ κ γ (some (.int res))) ([.ref (kA κ 8 0), .int y1, .int y2] : List Value).toArray s 0 0 (AA κ)) (F0 m 33 ls []) := by
    intro  H locs ls hl hH hS hk hq
    refine lv_iconst (v := 0) hx hb dX8_isMember_33 (by decide) ?_
    subst hq
    exact kr_z hC hr rfl hH hS rfl rfl dX8_isMember_34
  refine lv_aload_n hx hb dX8_isMember_0 rfl (lv_at hl 0 rfl) ?_
  refine lv_iload_n hx hb dX8_isMember_1 rfl (lv_at hl 1 rfl) ?_
  refine k_callV (C := RX8) (T := TX8) (N := 32) (rest := []) hC hl hH hS (c_X8_isPool l κ γ y1) lv_8 rfl rfl tw_1039 tw_1041 tw_38 tw_62 tw_1042 hd_X8_isPool ⟨Nat.le_of_ble_eq_true rfl, Nat.le_of_ble_eq_true rfl⟩ rfl rfl rfl rfl (Nat.le_of_ble_eq_true rfl) dX8_isMember_2 ⟨Nat.le_of_ble_eq_true rfl, Nat.le_of_ble_eq_true rfl⟩ rfl (fun H locs hH hS => ?_)
  refine lv_if_eq (tgt := 33) hx hb dX8_isMember_5 (by decide) (fun c13 => ?_) (fun c13 => ?_)
  · have hk := ifp hk c13
    have hq := ifpe hq c13
    exact b_33 _ _ _ (lv_sub hl [] rfl) hH hS hk hq
  · have hk := ifn hk c13
    have hq := ifne hq c13
    refine lv_aload_n hx hb dX8_isMember_8 rfl (lv_at hl 0 rfl) ?_
    refine lv_iload_n hx hb dX8_isMember_9 rfl (lv_at hl 2 rfl) ?_
    refine k_callV (C := RX8) (T := TX8) (N := 32) (rest := []) hC hl hH hS (c_X8_isFencer l κ γ y2) lv_8 rfl rfl tw_1032 tw_1034 tw_37 tw_62 tw_1035 hd_X8_isFencer ⟨Nat.le_of_ble_eq_true rfl, Nat.le_of_ble_eq_true rfl⟩ rfl rfl rfl rfl (Nat.le_of_ble_eq_true rfl) dX8_isMember_10 ⟨Nat.le_of_ble_eq_true rfl, Nat.le_of_ble_eq_true rfl⟩ rfl (fun H locs hH hS => ?_)
    refine lv_if_eq (tgt := 33) hx hb dX8_isMember_13 (by decide) (fun c14 => ?_) (fun c14 => ?_)
    · have hk := ifp hk c14
      have hq := ifpe hq c14
      exact b_33 _ _ _ (lv_sub hl [] rfl) hH hS hk hq
    · have hk := ifn hk c14
      have hq := ifne hq c14
      refine lv_aload_n hx hb dX8_isMember_16 rfl (lv_at hl 0 rfl) ?_
      refine hp_get (v := .ref (kA κ 36 0)) (C := RX8) (T := TX8) (N := 32) hC inX8 hH lv_8 rfl rfl 24 (by decide) tw_946 rfl rfl dX8_isMember_17 ?_
      refine lv_iload_n hx hb dX8_isMember_20 rfl (lv_at hl 1 rfl) ?_
      obtain ⟨hi15, hk⟩ := hk
      refine hp_ald (v := gV γ 36 0 ((y1 : Int32).toNatClampNeg)) hC hH lv_36 rfl hi15 rfl dX8_isMember_21 ?_
      refine lv_iload_n hx hb dX8_isMember_22 rfl (lv_at hl 2 rfl) ?_
      refine k_callS (rest := []) hC hl hH hS (c_X8_has l κ γ (gV γ 36 0 ((y1 : Int32).toNatClampNeg)) y2) tw_1043 tw_1044 tw_62 tw_1045 hd_X8_has ⟨Nat.le_of_ble_eq_true rfl, Nat.le_of_ble_eq_true rfl⟩ rfl rfl rfl rfl (Nat.le_of_ble_eq_true rfl) dX8_isMember_23 ⟨Nat.le_of_ble_eq_true rfl, Nat.le_of_ble_eq_true rfl⟩ rfl (fun H locs hH hS => ?_)
      refine lv_if_eq (tgt := 33) hx hb dX8_isMember_26 (by decide) (fun c16 => ?_) (fun c16 => ?_)
      · have hk := ifp hk c16
        have hq := ifpe hq c16
        exact b_33 _ _ _ (lv_sub hl [] rfl) hH hS hk hq
      · have hk := ifn hk c16
        have hq := ifne hq c16
        refine lv_iconst (v := 1) hx hb dX8_isMember_29 (by decide) ?_
        refine lv_goto (tgt := 34) hx hb dX8_isMember_30 (by decide) ?_
        subst hq
        exact kr_z hC hr rfl hH hS rfl rfl dX8_isMember_34
set_option maxRecDepth 20000 in
set_option maxHeartbeats 4000000 in
theorem c_X8_sideIn (l : Launch) (κ : KP) (γ : St) (y1 : Int32) (y2 : Int32) (y3 : Int32) (hk : ok_X8_sideIn y1 y2 y3 γ) : Met l yX8_sideIn [Cond.code yX8_sideIn cX8_sideIn 7 (some .int)] ({ frames := 1, cells := 0, slots := 0, locals := 21 } : Room) (va_Pc [.ref (kA κ 8 0), .int y1, .int y2, .int y3] (GG κ γ)) (QQ κ γ (some (.int ((x_X8_sideIn y1 y2 y3 γ))))) 0 0 (AA κ) := by
  generalize hq : x_X8_sideIn y1 y2 y3 γ = res
  refine Met.ofW (cc := cX8_sideIn) (maxL := 7) (ret := (some .int)) (by decide) rfl ?_
  intro p e s m args below meth c s₁ B hml9 hv
  obtain ⟨rfl, hH, hK9, hB9, hX9, hZ9⟩ := hv
  have hC : CX κ cX8_sideIn "PhrasehallModel" 7 p l s m ([.ref (kA κ 8 0), .int y1, .int y2, .int y3] : List Value).toArray meth c := ⟨B.exec, B.bytes, findClass_of_methodNamed B.named, fun w hw => tw_use (List.mem_filter.mp hw).2 (State.WarmedH.refl s) (hX9.1 w hw), hK9, hX9, hZ9, hB9, hml9, B.notSynchronized⟩
  obtain ⟨hx, hb, hown, hT, -, -, -, -, hml, -⟩ := id hC
  have hr := B.returns
  have hS : va_S (AA κ) s.heap s.heap [] := va_S.rf
  have hl := lv_entry ([.ref (kA κ 8 0), .int y1, .int y2, .int y3]) (n := 7) (Nat.le_of_ble_eq_true rfl)
  rw [lg_entry_eq]
  generalize (lg_sl ([.ref (kA κ 8 0), .int y1, .int y2, .int y3]) ++ List.replicate (7 - (lg_sl ([.ref (kA κ 8 0), .int y1, .int y2, .int y3])).length) Slot.unset).toArray = ls at hl ⊢
  have hl : lv_has ls 7 [(0, .ref (kA κ 8 0)), (1, .int y1), (2, .int y2), (3, .int y3)] := hl
  have b_75 : ∀ (a3 : Int32) (a4 : Int32) (a5 : Int32) (s0 : Int32) (H : Heap) (locs : List Loc) (ls : Array Slot), lv_has ls 7 [(3, .int a3), (4, .int a4), (5, .int a5)] → HR κ γ H → va_S (AA κ) s.heap H locs → ok_X8_sideIn_75 a3 a4 a5 s0 γ → x_X8_sideIn_75 a3 a4 a5 s0 γ = res → W p l e (headSpec [Cond.code yX8_sideIn cX8_sideIn 7 (some .int)] ({ frames := 1, cells := 0, slots := 0, locals := 21 } : Room)).room s m ([.ref (kA κ 8 0), .int y1, .int y2, .int y3] : List Value).toArray below meth c H locs 0 0 (MQ below (QQ κ γ (some (.int res))) ([.ref (kA κ 8 0), .int y1, .int y2, .int y3] : List Value).toArray s 0 0 (AA κ)) (F0 m 75 ls [.int s0]) := by
    intro a3 a4 a5 s0 H locs ls hl hH hS hk hq
    refine lv_istore (lv' := [(6, .int s0), (3, .int a3), (4, .int a4), (5, .int a5)]) hx hb dX8_sideIn_75 hl (by decide) rfl (fun ls hl => ?_)
    refine lv_iload hx hb dX8_sideIn_77 (lv_at hl 0 rfl) ?_
    refine lv_if_ne (tgt := 86) hx hb dX8_sideIn_79 (by decide) (fun c40 => ?_) (fun c40 => ?_)
    · have hk := ifn hk c40
      have hq := ifne hq c40
      refine lv_iload hx hb dX8_sideIn_86 (lv_at hl 2 rfl) ?_
      refine lv_iload_n hx hb dX8_sideIn_88 rfl (lv_at hl 1 rfl) ?_
      refine lv_icmp_ne (tgt := 96) hx hb dX8_sideIn_89 (by decide) (fun c41 => ?_) (fun c41 => ?_)
      · have hk := ifn hk c41
        have hq := ifne hq c41
        refine lv_iload hx hb dX8_sideIn_96 (lv_at hl 3 rfl) ?_
        refine lv_iload_n hx hb dX8_sideIn_98 rfl (lv_at hl 1 rfl) ?_
        refine lv_icmp_ne (tgt := 106) hx hb dX8_sideIn_99 (by decide) (fun c42 => ?_) (fun c42 => ?_)
        · have hk := ifn hk c42
          have hq := ifne hq c42
          refine lv_iconst (v := (-1)) hx hb dX8_sideIn_106 (by decide) ?_
          subst hq
          exact kr_i hC hr hH hS rfl rfl dX8_sideIn_107
        · have hk := ifp hk c42
          have hq := ifpe hq c42
          refine lv_iconst (v := 1) hx hb dX8_sideIn_102 (by decide) ?_
          refine lv_goto (tgt := 107) hx hb dX8_sideIn_103 (by decide) ?_
          subst hq
          exact kr_i hC hr hH hS rfl rfl dX8_sideIn_107
      · have hk := ifp hk c41
        have hq := ifpe hq c41
        refine lv_iconst (v := 0) hx hb dX8_sideIn_92 (by decide) ?_
        refine lv_goto (tgt := 107) hx hb dX8_sideIn_93 (by decide) ?_
        subst hq
        exact kr_i hC hr hH hS rfl rfl dX8_sideIn_107
    · have hk := ifp hk c40
      have hq := ifpe hq c40
      refine lv_iconst (v := (-1)) hx hb dX8_sideIn_82 (by decide) ?_
      refine lv_goto (tgt := 107) hx hb dX8_sideIn_83 (by decide) ?_
      subst hq
      exact kr_i hC hr hH hS rfl rfl dX8_sideIn_107
  have b_74 : ∀ (a3 : Int32) (a4 : Int32) (a5 : Int32) (H : Heap) (locs : List Loc) (ls : Array Slot), lv_has ls 7 [(3, .int a3), (4, .int a4), (5, .int a5)] → HR κ γ H → va_S (AA κ) s.heap H locs → ok_X8_sideIn_74 a3 a4 a5 γ → x_X8_sideIn_74 a3 a4 a5 γ = res → W p l e (headSpec [Cond.code yX8_sideIn cX8_sideIn 7 (some .int)] ({ frames := 1, cells := 0, slots := 0, locals := 21 } : Room)).room s m ([.ref (kA κ 8 0), .int y1, .int y2, .int y3] : List Value).toArray below meth c H locs 0 0 (MQ below (QQ κ γ (some (.int res))) ([.ref (kA κ 8 0), .int y1, .int y2, .int y3] : List Value).toArray s 0 0 (AA κ)) (F0 m 74 ls []) := by
    intro a3 a4 a5 H locs ls hl hH hS hk hq
    refine lv_iconst (v := 0) hx hb dX8_sideIn_74 (by decide) ?_
    exact b_75 a3 a4 a5 0 _ _ _ (lv_sub hl [0, 1, 2] rfl) hH hS hk hq
  refine lv_aload_n hx hb dX8_sideIn_0 rfl (lv_at hl 0 rfl) ?_
  refine hp_get (v := .ref (kA κ 20 0)) (C := RX8) (T := TX8) (N := 32) hC inX8 hH lv_8 rfl rfl 5 (by decide) tw_927 rfl rfl dX8_sideIn_1 ?_
  refine lv_iconst (v := 2) hx hb dX8_sideIn_4 (by decide) ?_
  refine lv_iload_n hx hb dX8_sideIn_5 rfl (lv_at hl 1 rfl) ?_
  refine lv_imul hx hb dX8_sideIn_6 ?_
  obtain ⟨hi43, hk⟩ := hk
  refine hp_ald (v := gV γ 20 0 ((2 * y1 : Int32).toNatClampNeg)) hC hH lv_20 rfl hi43 rfl dX8_sideIn_7 ?_
  refine lv_istore (lv' := [(4, .int (gV γ 20 0 ((2 * y1 : Int32).toNatClampNeg))), (0, .ref (kA κ 8 0)), (1, .int y1), (2, .int y2), (3, .int y3)]) hx hb dX8_sideIn_8 hl (by decide) rfl (fun ls hl => ?_)
  refine lv_aload_n hx hb dX8_sideIn_10 rfl (lv_at hl 1 rfl) ?_
  refine hp_get (v := .ref (kA κ 20 0)) (C := RX8) (T := TX8) (N := 32) hC inX8 hH lv_8 rfl rfl 5 (by decide) tw_927 rfl rfl dX8_sideIn_11 ?_
  refine lv_iconst (v := 2) hx hb dX8_sideIn_14 (by decide) ?_
  refine lv_iload_n hx hb dX8_sideIn_15 rfl (lv_at hl 2 rfl) ?_
  refine lv_imul hx hb dX8_sideIn_16 ?_
  refine lv_iconst (v := 1) hx hb dX8_sideIn_17 (by decide) ?_
  refine lv_iadd hx hb dX8_sideIn_18 ?_
  obtain ⟨hi44, hk⟩ := hk
  refine hp_ald (v := gV γ 20 0 (((2 * y1) + 1 : Int32).toNatClampNeg)) hC hH lv_20 rfl hi44 rfl dX8_sideIn_19 ?_
  refine lv_istore (lv' := [(5, .int (gV γ 20 0 (((2 * y1) + 1 : Int32).toNatClampNeg))), (4, .int (gV γ 20 0 ((2 * y1 : Int32).toNatClampNeg))), (0, .ref (kA κ 8 0)), (1, .int y1), (2, .int y2), (3, .int y3)]) hx hb dX8_sideIn_20 hl (by decide) rfl (fun ls hl => ?_)
  refine lv_aload_n hx hb dX8_sideIn_22 rfl (lv_at hl 2 rfl) ?_
  refine hp_get (v := .ref (kA κ 24 0)) (C := RX8) (T := TX8) (N := 32) hC inX8 hH lv_8 rfl rfl 9 (by decide) tw_931 rfl rfl dX8_sideIn_23 ?_
  refine lv_iload_n hx hb dX8_sideIn_26 rfl (lv_at hl 3 rfl) ?_
  obtain ⟨hi45, hk⟩ := hk
  refine hp_ald (v := gV γ 24 0 ((y1 : Int32).toNatClampNeg)) hC hH lv_24 rfl hi45 rfl dX8_sideIn_27 ?_
  refine lv_iload_n hx hb dX8_sideIn_28 rfl (lv_at hl 4 rfl) ?_
  refine lv_icmp_ne (tgt := 74) hx hb dX8_sideIn_29 (by decide) (fun c46 => ?_) (fun c46 => ?_)
  · have hk := ifn hk c46
    have hq := ifne hq c46
    exact b_74 y3 (gV γ 20 0 ((2 * y1 : Int32).toNatClampNeg)) (gV γ 20 0 (((2 * y1) + 1 : Int32).toNatClampNeg)) _ _ _ (lv_sub hl [5, 1, 0] rfl) hH hS hk hq
  · have hk := ifp hk c46
    have hq := ifpe hq c46
    refine lv_aload_n hx hb dX8_sideIn_32 rfl (lv_at hl 2 rfl) ?_
    refine hp_get (v := .ref (kA κ 25 0)) (C := RX8) (T := TX8) (N := 32) hC inX8 hH lv_8 rfl rfl 10 (by decide) tw_932 rfl rfl dX8_sideIn_33 ?_
    refine lv_iload_n hx hb dX8_sideIn_36 rfl (lv_at hl 3 rfl) ?_
    obtain ⟨hi47, hk⟩ := hk
    refine hp_ald (v := gV γ 25 0 ((y1 : Int32).toNatClampNeg)) hC hH lv_25 rfl hi47 rfl dX8_sideIn_37 ?_
    refine lv_iconst (v := (-1)) hx hb dX8_sideIn_38 (by decide) ?_
    refine lv_icmp_eq (tgt := 74) hx hb dX8_sideIn_39 (by decide) (fun c48 => ?_) (fun c48 => ?_)
    · have hk := ifp hk c48
      have hq := ifpe hq c48
      exact b_74 y3 (gV γ 20 0 ((2 * y1 : Int32).toNatClampNeg)) (gV γ 20 0 (((2 * y1) + 1 : Int32).toNatClampNeg)) _ _ _ (lv_sub hl [5, 1, 0] rfl) hH hS hk hq
    · have hk := ifn hk c48
      have hq := ifne hq c48
      refine lv_aload_n hx hb dX8_sideIn_42 rfl (lv_at hl 2 rfl) ?_
      refine hp_get (v := .ref (kA κ 37 0)) (C := RX8) (T := TX8) (N := 32) hC inX8 hH lv_8 rfl rfl 25 (by decide) tw_947 rfl rfl dX8_sideIn_43 ?_
      refine lv_iload_n hx hb dX8_sideIn_46 rfl (lv_at hl 4 rfl) ?_
      obtain ⟨hi49, hk⟩ := hk
      refine hp_ald (v := gV γ 37 0 ((y2 : Int32).toNatClampNeg)) hC hH lv_37 rfl hi49 rfl dX8_sideIn_47 ?_
      refine lv_iload hx hb dX8_sideIn_48 (lv_at hl 1 rfl) ?_
      refine k_callS (rest := []) hC hl hH hS (c_X8_has l κ γ (gV γ 37 0 ((y2 : Int32).toNatClampNeg)) (gV γ 20 0 ((2 * y1 : Int32).toNatClampNeg))) tw_1043 tw_1044 tw_62 tw_1045 hd_X8_has ⟨Nat.le_of_ble_eq_true rfl, Nat.le_of_ble_eq_true rfl⟩ rfl rfl rfl rfl (Nat.le_of_ble_eq_true rfl) dX8_sideIn_50 ⟨Nat.le_of_ble_eq_true rfl, Nat.le_of_ble_eq_true rfl⟩ rfl (fun H locs hH hS => ?_)
      refine lv_if_ne (tgt := 74) hx hb dX8_sideIn_53 (by decide) (fun c50 => ?_) (fun c50 => ?_)
      · have hk := ifn hk c50
        have hq := ifne hq c50
        exact b_74 y3 (gV γ 20 0 ((2 * y1 : Int32).toNatClampNeg)) (gV γ 20 0 (((2 * y1) + 1 : Int32).toNatClampNeg)) _ _ _ (lv_sub hl [5, 1, 0] rfl) hH hS hk hq
      · have hk := ifp hk c50
        have hq := ifpe hq c50
        refine lv_aload_n hx hb dX8_sideIn_56 rfl (lv_at hl 2 rfl) ?_
        refine hp_get (v := .ref (kA κ 37 0)) (C := RX8) (T := TX8) (N := 32) hC inX8 hH lv_8 rfl rfl 25 (by decide) tw_947 rfl rfl dX8_sideIn_57 ?_
        refine lv_iload_n hx hb dX8_sideIn_60 rfl (lv_at hl 4 rfl) ?_
        obtain ⟨hi51, hk⟩ := hk
        refine hp_ald (v := gV γ 37 0 ((y2 : Int32).toNatClampNeg)) hC hH lv_37 rfl hi51 rfl dX8_sideIn_61 ?_
        refine lv_iload hx hb dX8_sideIn_62 (lv_at hl 0 rfl) ?_
        refine k_callS (rest := []) hC hl hH hS (c_X8_has l κ γ (gV γ 37 0 ((y2 : Int32).toNatClampNeg)) (gV γ 20 0 (((2 * y1) + 1 : Int32).toNatClampNeg))) tw_1043 tw_1044 tw_62 tw_1045 hd_X8_has ⟨Nat.le_of_ble_eq_true rfl, Nat.le_of_ble_eq_true rfl⟩ rfl rfl rfl rfl (Nat.le_of_ble_eq_true rfl) dX8_sideIn_64 ⟨Nat.le_of_ble_eq_true rfl, Nat.le_of_ble_eq_true rfl⟩ rfl (fun H locs hH hS => ?_)
        refine lv_if_ne (tgt := 74) hx hb dX8_sideIn_67 (by decide) (fun c52 => ?_) (fun c52 => ?_)
        · have hk := ifn hk c52
          have hq := ifne hq c52
          exact b_74 y3 (gV γ 20 0 ((2 * y1 : Int32).toNatClampNeg)) (gV γ 20 0 (((2 * y1) + 1 : Int32).toNatClampNeg)) _ _ _ (lv_sub hl [5, 1, 0] rfl) hH hS hk hq
        · have hk := ifp hk c52
          have hq := ifpe hq c52
          refine lv_iconst (v := 1) hx hb dX8_sideIn_70 (by decide) ?_
          refine lv_goto (tgt := 75) hx hb dX8_sideIn_71 (by decide) ?_
          exact b_75 y3 (gV γ 20 0 ((2 * y1 : Int32).toNatClampNeg)) (gV γ 20 0 (((2 * y1) + 1 : Int32).toNatClampNeg)) 1 _ _ _ (lv_sub hl [5, 1, 0] rfl) hH hS hk hq
set_option maxRecDepth 20000 in
set_option maxHeartbeats 4000000 in
theorem c_X8_tells (l : Launch) (κ : KP) (γ : St) (y1 : Int32) (y2 : Int32) (y3 : Int32) (hk : ok_X8_tells y1 y2 y3 γ) : Met l yX8_tells [Cond.code yX8_tells cX8_tells 7 (some .int)] ({ frames := 2, cells := 0, slots := 0, locals := 47 } : Room) (va_Pc [.ref (kA κ 8 0), .int y1, .int y2, .int y3] (GG κ γ)) (QQ κ γ (some (.int ((x_X8_tells y1 y2 y3 γ))))) 0 0 (AA κ) := by
  generalize hq : x_X8_tells y1 y2 y3 γ = res
  refine Met.ofW (cc := cX8_tells) (maxL := 7) (ret := (some .int)) (by decide) rfl ?_
  intro p e s m args below meth c s₁ B hml9 hv
  obtain ⟨rfl, hH, hK9, hB9, hX9, hZ9⟩ := hv
  have hC : CX κ cX8_tells "PhrasehallModel" 7 p l s m ([.ref (kA κ 8 0), .int y1, .int y2, .int y3] : List Value).toArray meth c := ⟨B.exec, B.bytes, findClass_of_methodNamed B.named, fun w hw => tw_use (List.mem_filter.mp hw).2 (State.WarmedH.refl s) (hX9.1 w hw), hK9, hX9, hZ9, hB9, hml9, B.notSynchronized⟩
  obtain ⟨hx, hb, hown, hT, -, -, -, -, hml, -⟩ := id hC
  have hr := B.returns
  have hS : va_S (AA κ) s.heap s.heap [] := va_S.rf
  have hl := lv_entry ([.ref (kA κ 8 0), .int y1, .int y2, .int y3]) (n := 7) (Nat.le_of_ble_eq_true rfl)
  rw [lg_entry_eq]
  generalize (lg_sl ([.ref (kA κ 8 0), .int y1, .int y2, .int y3]) ++ List.replicate (7 - (lg_sl ([.ref (kA κ 8 0), .int y1, .int y2, .int y3])).length) Slot.unset).toArray = ls at hl ⊢
  have hl : lv_has ls 7 [(0, .ref (kA κ 8 0)), (1, .int y1), (2, .int y2), (3, .int y3)] := hl
  have b_6 : ∀ (k6 : Nat) (a1 : Int32) (a2 : Int32) (a3 : Int32) (a4 : Int32) (a5 : Int32) (H : Heap) (locs : List Loc) (ls : Array Slot), lv_has ls 7 [(0, .ref (kA κ 8 0)), (1, .int a1), (2, .int a2), (3, .int a3), (4, .int a4), (5, .int a5)] → HR κ γ H → va_S (AA κ) s.heap H locs → ok_X8_tells_6 k6 a1 a2 a3 a4 a5 γ → x_X8_tells_6 k6 a1 a2 a3 a4 a5 γ = res → W p l e (headSpec [Cond.code yX8_tells cX8_tells 7 (some .int)] ({ frames := 2, cells := 0, slots := 0, locals := 47 } : Room)).room s m ([.ref (kA κ 8 0), .int y1, .int y2, .int y3] : List Value).toArray below meth c H locs 0 0 (MQ below (QQ κ γ (some (.int res))) ([.ref (kA κ 8 0), .int y1, .int y2, .int y3] : List Value).toArray s 0 0 (AA κ)) (F0 m 6 ls []) := by
    intro k6
    induction k6 with
    | zero =>
      intro a1 a2 a3 a4 a5 H locs ls hl hH hS hk hq
      exact (show False from hk).elim
    | succ k6 ih_6 =>
      have b_93 : ∀ (a1 : Int32) (a2 : Int32) (a3 : Int32) (a4 : Int32) (a5 : Int32) (H : Heap) (locs : List Loc) (ls : Array Slot), lv_has ls 7 [(0, .ref (kA κ 8 0)), (1, .int a1), (2, .int a2), (3, .int a3), (4, .int a4), (5, .int a5)] → HR κ γ H → va_S (AA κ) s.heap H locs → ok_X8_tells_93 (ok_X8_tells_6 k6) a1 a2 a3 a4 a5 γ → x_X8_tells_93 (x_X8_tells_6 k6) a1 a2 a3 a4 a5 γ = res → W p l e (headSpec [Cond.code yX8_tells cX8_tells 7 (some .int)] ({ frames := 2, cells := 0, slots := 0, locals := 47 } : Room)).room s m ([.ref (kA κ 8 0), .int y1, .int y2, .int y3] : List Value).toArray below meth c H locs 0 0 (MQ below (QQ κ γ (some (.int res))) ([.ref (kA κ 8 0), .int y1, .int y2, .int y3] : List Value).toArray s 0 0 (AA κ)) (F0 m 93 ls []) := by
        intro a1 a2 a3 a4 a5 H locs ls hl hH hS hk hq
        refine lv_iinc (v := a5 + 1) (lv' := [(5, .int (a5 + 1)), (0, .ref (kA κ 8 0)), (1, .int a1), (2, .int a2), (3, .int a3), (4, .int a4)]) hx hb dX8_tells_93 hl (k := 5) rfl rfl (by decide) rfl (fun ls hl => ?_)
        refine lv_goto (tgt := 6) hx hb dX8_tells_96 (by decide) ?_
        exact ih_6 a1 a2 a3 a4 (a5 + 1) _ _ _ (lv_sub hl [1, 2, 3, 4, 5, 0] rfl) hH hS hk hq
      have b_90 : ∀ (a1 : Int32) (a2 : Int32) (a3 : Int32) (a5 : Int32) (s0 : Int32) (s1 : Int32) (H : Heap) (locs : List Loc) (ls : Array Slot), lv_has ls 7 [(0, .ref (kA κ 8 0)), (1, .int a1), (2, .int a2), (3, .int a3), (5, .int a5)] → HR κ γ H → va_S (AA κ) s.heap H locs → ok_X8_tells_90 (ok_X8_tells_6 k6) a1 a2 a3 a5 s0 s1 γ → x_X8_tells_90 (x_X8_tells_6 k6) a1 a2 a3 a5 s0 s1 γ = res → W p l e (headSpec [Cond.code yX8_tells cX8_tells 7 (some .int)] ({ frames := 2, cells := 0, slots := 0, locals := 47 } : Room)).room s m ([.ref (kA κ 8 0), .int y1, .int y2, .int y3] : List Value).toArray below meth c H locs 0 0 (MQ below (QQ κ γ (some (.int res))) ([.ref (kA κ 8 0), .int y1, .int y2, .int y3] : List Value).toArray s 0 0 (AA κ)) (F0 m 90 ls [.int s0, .int s1]) := by
        intro a1 a2 a3 a5 s0 s1 H locs ls hl hH hS hk hq
        refine lv_iadd hx hb dX8_tells_90 ?_
        refine lv_istore (lv' := [(4, .int (s1 + s0)), (0, .ref (kA κ 8 0)), (1, .int a1), (2, .int a2), (3, .int a3), (5, .int a5)]) hx hb dX8_tells_91 hl (by decide) rfl (fun ls hl => ?_)
        exact b_93 a1 a2 a3 (s1 + s0) a5 _ _ _ (lv_sub hl [1, 2, 3, 4, 0, 5] rfl) hH hS hk hq
      have b_88 : ∀ (a1 : Int32) (a2 : Int32) (a3 : Int32) (a5 : Int32) (s0 : Int32) (s1 : Int32) (s3 : Int32) (H : Heap) (locs : List Loc) (ls : Array Slot), lv_has ls 7 [(0, .ref (kA κ 8 0)), (1, .int a1), (2, .int a2), (3, .int a3), (5, .int a5)] → HR κ γ H → va_S (AA κ) s.heap H locs → ok_X8_tells_88 (ok_X8_tells_6 k6) a1 a2 a3 a5 s0 s1 s3 γ → x_X8_tells_88 (x_X8_tells_6 k6) a1 a2 a3 a5 s0 s1 s3 γ = res → W p l e (headSpec [Cond.code yX8_tells cX8_tells 7 (some .int)] ({ frames := 2, cells := 0, slots := 0, locals := 47 } : Room)).room s m ([.ref (kA κ 8 0), .int y1, .int y2, .int y3] : List Value).toArray below meth c H locs 0 0 (MQ below (QQ κ γ (some (.int res))) ([.ref (kA κ 8 0), .int y1, .int y2, .int y3] : List Value).toArray s 0 0 (AA κ)) (F0 m 88 ls [.int s0, .int s1, .ref (kA κ 21 0), .int s3]) := by
        intro a1 a2 a3 a5 s0 s1 s3 H locs ls hl hH hS hk hq
        refine lv_iadd hx hb dX8_tells_88 ?_
        obtain ⟨hi28, hk⟩ := hk
        refine hp_ald (v := gV γ 21 0 ((s1 + s0 : Int32).toNatClampNeg)) hC hH lv_21 rfl hi28 rfl dX8_tells_89 ?_
        exact b_90 a1 a2 a3 a5 (gV γ 21 0 ((s1 + s0 : Int32).toNatClampNeg)) s3 _ _ _ (lv_sub hl [0, 1, 2, 3, 4] rfl) hH hS hk hq
      intro a1 a2 a3 a4 a5 H locs ls hl hH hS hk hq
      refine lv_iload hx hb dX8_tells_6 (lv_at hl 5 rfl) ?_
      refine lv_aload_n hx hb dX8_tells_8 rfl (lv_at hl 0 rfl) ?_
      refine hp_get (v := .int (gV γ 8 0 3)) (C := RX8) (T := TX8) (N := 32) hC inX8 hH lv_8 rfl rfl 3 (by decide) tw_925 rfl rfl dX8_tells_9 ?_
      refine lv_icmp_ge (tgt := 99) hx hb dX8_tells_12 (by decide) (fun c29 => ?_) (fun c29 => ?_)
      · have hk := ifp hk c29
        have hq := ifpe hq c29
        refine lv_iload hx hb dX8_tells_99 (lv_at hl 4 rfl) ?_
        subst hq
        exact kr_i hC hr hH hS rfl rfl dX8_tells_101
      · have hk := ifn hk c29
        have hq := ifne hq c29
        refine lv_aload_n hx hb dX8_tells_15 rfl (lv_at hl 0 rfl) ?_
        refine lv_iload hx hb dX8_tells_16 (lv_at hl 5 rfl) ?_
        refine lv_iload_n hx hb dX8_tells_18 rfl (lv_at hl 1 rfl) ?_
        refine lv_iload_n hx hb dX8_tells_19 rfl (lv_at hl 2 rfl) ?_
        obtain ⟨hc30, hk⟩ := hk
        refine k_callV (C := RX8) (T := TX8) (N := 32) (rest := []) hC hl hH hS (c_X8_sideIn l κ γ a5 a1 a2 hc30) lv_8 rfl rfl tw_1147 tw_1149 tw_50 tw_62 tw_1150 hd_X8_sideIn ⟨Nat.le_of_ble_eq_true rfl, Nat.le_of_ble_eq_true rfl⟩ rfl rfl rfl rfl (Nat.le_of_ble_eq_true rfl) dX8_tells_20 ⟨Nat.le_of_ble_eq_true rfl, Nat.le_of_ble_eq_true rfl⟩ rfl (fun H locs hH hS => ?_)
        refine lv_istore (lv' := [(6, .int ((x_X8_sideIn a5 a1 a2 γ))), (0, .ref (kA κ 8 0)), (1, .int a1), (2, .int a2), (3, .int a3), (4, .int a4), (5, .int a5)]) hx hb dX8_tells_23 hl (by decide) rfl (fun ls hl => ?_)
        refine lv_iload hx hb dX8_tells_25 (lv_at hl 0 rfl) ?_
        refine lv_iconst (v := (-1)) hx hb dX8_tells_27 (by decide) ?_
        refine lv_icmp_eq (tgt := 93) hx hb dX8_tells_28 (by decide) (fun c31 => ?_) (fun c31 => ?_)
        · have hk := ifp hk c31
          have hq := ifpe hq c31
          exact b_93 a1 a2 a3 a4 a5 _ _ _ (lv_sub hl [1, 2, 3, 4, 5, 6] rfl) hH hS hk hq
        · have hk := ifn hk c31
          have hq := ifne hq c31
          refine lv_iload hx hb dX8_tells_31 (lv_at hl 5 rfl) ?_
          refine lv_iload_n hx hb dX8_tells_33 rfl (lv_at hl 4 rfl) ?_
          refine lv_if_ne (tgt := 41) hx hb dX8_tells_34 (by decide) (fun c32 => ?_) (fun c32 => ?_)
          · have hk := ifn hk c32
            have hq := ifne hq c32
            refine lv_iload_n hx hb dX8_tells_41 rfl (lv_at hl 4 rfl) ?_
            refine lv_iconst (v := 1) hx hb dX8_tells_42 (by decide) ?_
            refine lv_icmp_ne (tgt := 66) hx hb dX8_tells_43 (by decide) (fun c33 => ?_) (fun c33 => ?_)
            · have hk := ifn hk c33
              have hq := ifne hq c33
              refine lv_aload_n hx hb dX8_tells_66 rfl (lv_at hl 1 rfl) ?_
              refine hp_get (v := .ref (kA κ 21 0)) (C := RX8) (T := TX8) (N := 32) hC inX8 hH lv_8 rfl rfl 6 (by decide) tw_928 rfl rfl dX8_tells_67 ?_
              refine lv_iconst (v := 2) hx hb dX8_tells_70 (by decide) ?_
              refine lv_iload hx hb dX8_tells_71 (lv_at hl 6 rfl) ?_
              refine lv_imul hx hb dX8_tells_73 ?_
              refine lv_iload_n hx hb dX8_tells_74 rfl (lv_at hl 4 rfl) ?_
              refine lv_iconst (v := 2) hx hb dX8_tells_75 (by decide) ?_
              refine lv_icmp_ne (tgt := 84) hx hb dX8_tells_76 (by decide) (fun c34 => ?_) (fun c34 => ?_)
              · have hk := ifn hk c34
                have hq := ifne hq c34
                refine lv_iconst (v := 1) hx hb dX8_tells_84 (by decide) ?_
                refine lv_iload hx hb dX8_tells_85 (lv_at hl 0 rfl) ?_
                refine lv_isub hx hb dX8_tells_87 ?_
                exact b_88 a1 a2 a3 a5 (1 - ((x_X8_sideIn a5 a1 a2 γ))) (2 * a5) a4 _ _ _ (lv_sub hl [1, 2, 3, 4, 6] rfl) hH hS hk hq
              · have hk := ifp hk c34
                have hq := ifpe hq c34
                refine lv_iload hx hb dX8_tells_79 (lv_at hl 0 rfl) ?_
                refine lv_goto (tgt := 88) hx hb dX8_tells_81 (by decide) ?_
                exact b_88 a1 a2 a3 a5 ((x_X8_sideIn a5 a1 a2 γ)) (2 * a5) a4 _ _ _ (lv_sub hl [1, 2, 3, 4, 6] rfl) hH hS hk hq
            · have hk := ifp hk c33
              have hq := ifpe hq c33
              refine lv_aload_n hx hb dX8_tells_46 rfl (lv_at hl 1 rfl) ?_
              refine hp_get (v := .ref (kA κ 25 0)) (C := RX8) (T := TX8) (N := 32) hC inX8 hH lv_8 rfl rfl 10 (by decide) tw_932 rfl rfl dX8_tells_47 ?_
              refine lv_iload hx hb dX8_tells_50 (lv_at hl 6 rfl) ?_
              obtain ⟨hi35, hk⟩ := hk
              refine hp_ald (v := gV γ 25 0 ((a5 : Int32).toNatClampNeg)) hC hH lv_25 rfl hi35 rfl dX8_tells_52 ?_
              refine lv_iload hx hb dX8_tells_53 (lv_at hl 0 rfl) ?_
              refine lv_icmp_ne (tgt := 62) hx hb dX8_tells_55 (by decide) (fun c36 => ?_) (fun c36 => ?_)
              · have hk := ifn hk c36
                have hq := ifne hq c36
                refine lv_iconst (v := 0) hx hb dX8_tells_62 (by decide) ?_
                refine lv_goto (tgt := 90) hx hb dX8_tells_63 (by decide) ?_
                exact b_90 a1 a2 a3 a5 0 a4 _ _ _ (lv_sub hl [1, 2, 3, 4, 6] rfl) hH hS hk hq
              · have hk := ifp hk c36
                have hq := ifpe hq c36
                refine lv_iconst (v := 1) hx hb dX8_tells_58 (by decide) ?_
                refine lv_goto (tgt := 90) hx hb dX8_tells_59 (by decide) ?_
                exact b_90 a1 a2 a3 a5 1 a4 _ _ _ (lv_sub hl [1, 2, 3, 4, 6] rfl) hH hS hk hq
          · have hk := ifp hk c32
            have hq := ifpe hq c32
            refine lv_iconst (v := 1) hx hb dX8_tells_37 (by decide) ?_
            refine lv_goto (tgt := 90) hx hb dX8_tells_38 (by decide) ?_
            exact b_90 a1 a2 a3 a5 1 a4 _ _ _ (lv_sub hl [1, 2, 3, 4, 6] rfl) hH hS hk hq
  refine lv_iconst (v := 0) hx hb dX8_tells_0 (by decide) ?_
  refine lv_istore (lv' := [(4, .int 0), (0, .ref (kA κ 8 0)), (1, .int y1), (2, .int y2), (3, .int y3)]) hx hb dX8_tells_1 hl (by decide) rfl (fun ls hl => ?_)
  refine lv_iconst (v := 0) hx hb dX8_tells_3 (by decide) ?_
  refine lv_istore (lv' := [(5, .int 0), (4, .int 0), (0, .ref (kA κ 8 0)), (1, .int y1), (2, .int y2), (3, .int y3)]) hx hb dX8_tells_4 hl (by decide) rfl (fun ls hl => ?_)
  exact b_6 fu y1 y2 y3 0 0 _ _ _ (lv_sub hl [2, 3, 4, 5, 1, 0] rfl) hH hS hk hq
set_option maxRecDepth 20000 in
set_option maxHeartbeats 4000000 in
theorem c_X8_withdraw (l : Launch) (κ : KP) (γ : St) (y1 : Int32) (y2 : Int32) (hk : ok_X8_withdraw y1 y2 γ) : Met l yX8_withdraw [Cond.code yX8_withdraw cX8_withdraw 5 (some .int)] ({ frames := 3, cells := 0, slots := 0, locals := 73 } : Room) (va_Pc [.ref (kA κ 8 0), .int y1, .int y2] (GG κ γ)) (QQ κ (((x_X8_withdraw y1 y2 γ)).2) (some (.int (((x_X8_withdraw y1 y2 γ)).1)))) 0 0 (AA κ) := by
  generalize hq : x_X8_withdraw y1 y2 γ = res
  refine Met.ofW (cc := cX8_withdraw) (maxL := 5) (ret := (some .int)) (by decide) rfl ?_
  intro p e s m args below meth c s₁ B hml9 hv
  obtain ⟨rfl, hH, hK9, hB9, hX9, hZ9⟩ := hv
  have hC : CX κ cX8_withdraw "PhrasehallModel" 5 p l s m ([.ref (kA κ 8 0), .int y1, .int y2] : List Value).toArray meth c := ⟨B.exec, B.bytes, findClass_of_methodNamed B.named, fun w hw => tw_use (List.mem_filter.mp hw).2 (State.WarmedH.refl s) (hX9.1 w hw), hK9, hX9, hZ9, hB9, hml9, B.notSynchronized⟩
  obtain ⟨hx, hb, hown, hT, -, -, -, -, hml, -⟩ := id hC
  have hr := B.returns
  have hS : va_S (AA κ) s.heap s.heap [] := va_S.rf
  have hl := lv_entry ([.ref (kA κ 8 0), .int y1, .int y2]) (n := 5) (Nat.le_of_ble_eq_true rfl)
  rw [lg_entry_eq]
  generalize (lg_sl ([.ref (kA κ 8 0), .int y1, .int y2]) ++ List.replicate (5 - (lg_sl ([.ref (kA κ 8 0), .int y1, .int y2])).length) Slot.unset).toArray = ls at hl ⊢
  have hl : lv_has ls 5 [(0, .ref (kA κ 8 0)), (1, .int y1), (2, .int y2)] := hl
  have b_109 : ∀ (a1 : Int32) (a2 : Int32) (s0 : Int32) (γ : St) (H : Heap) (locs : List Loc) (ls : Array Slot), lv_has ls 5 [(0, .ref (kA κ 8 0)), (1, .int a1), (2, .int a2)] → HR κ γ H → va_S (AA κ) s.heap H locs → ok_X8_withdraw_109 a1 a2 s0 γ → x_X8_withdraw_109 a1 a2 s0 γ = res → W p l e (headSpec [Cond.code yX8_withdraw cX8_withdraw 5 (some .int)] ({ frames := 3, cells := 0, slots := 0, locals := 73 } : Room)).room s m ([.ref (kA κ 8 0), .int y1, .int y2] : List Value).toArray below meth c H locs 0 0 (MQ below (QQ κ (res.2) (some (.int res.1))) ([.ref (kA κ 8 0), .int y1, .int y2] : List Value).toArray s 0 0 (AA κ)) (F0 m 109 ls [.int s0, .ref (kA κ 8 0)]) := by
    intro a1 a2 s0 γ H locs ls hl hH hS hk hq
    refine hp_put (v := .int s0) (C := RX8) (T := TX8) (N := 32) hC inX8 tyX8_ok nmX8 hH lv_8 rfl hS rfl 31 (by decide) tw_953 rfl rfl rfl rfl (Nat.le_of_ble_eq_true rfl) (sV γ 8 0 31 s0) (pe_8_31 _ _ 0 s0) (fun _ _ _ h => cel_sV h) (WT_sV hH.wt) dX8_withdraw_109 (fun H locs hH hS => ?_)
    refine lv_aload_n hx hb dX8_withdraw_112 rfl (lv_at hl 0 rfl) ?_
    refine hp_get (v := .int s0) (C := RX8) (T := TX8) (N := 32) hC inX8 hH lv_8 rfl rfl 31 (by decide) tw_953 rfl rfl dX8_withdraw_113 ?_
    refine lv_if_le (tgt := 121) hx hb dX8_withdraw_116 (by decide) (fun c52 => ?_) (fun c52 => ?_)
    · have hk := ifp hk c52
      have hq := ifpe hq c52
      refine lv_aload_n hx hb dX8_withdraw_121 rfl (lv_at hl 0 rfl) ?_
      refine lv_iload_n hx hb dX8_withdraw_122 rfl (lv_at hl 1 rfl) ?_
      refine lv_iload_n hx hb dX8_withdraw_123 rfl (lv_at hl 2 rfl) ?_
      refine lv_iconst (v := 0) hx hb dX8_withdraw_124 (by decide) ?_
      obtain ⟨hc53, hk⟩ := hk
      refine k_callV (C := RX8) (T := TX8) (N := 32) (rest := []) hC hl hH hS (c_X8_tells l κ (sV γ 8 0 31 s0) a1 a2 0 hc53) lv_8 rfl rfl tw_1143 tw_1145 tw_49 tw_62 tw_1146 hd_X8_tells ⟨Nat.le_of_ble_eq_true rfl, Nat.le_of_ble_eq_true rfl⟩ rfl rfl rfl rfl (Nat.le_of_ble_eq_true rfl) dX8_withdraw_125 ⟨Nat.le_of_ble_eq_true rfl, Nat.le_of_ble_eq_true rfl⟩ rfl (fun H locs hH hS => ?_)
      refine lv_istore (lv' := [(4, .int ((x_X8_tells a1 a2 0 (sV γ 8 0 31 s0)))), (0, .ref (kA κ 8 0)), (1, .int a1), (2, .int a2)]) hx hb dX8_withdraw_128 hl (by decide) rfl (fun ls hl => ?_)
      refine lv_aload_n hx hb dX8_withdraw_130 rfl (lv_at hl 1 rfl) ?_
      refine hp_get (v := .ref (kA κ 37 0)) (C := RX8) (T := TX8) (N := 32) hC inX8 hH lv_8 rfl rfl 25 (by decide) tw_947 rfl rfl dX8_withdraw_131 ?_
      refine lv_iload_n hx hb dX8_withdraw_134 rfl (lv_at hl 2 rfl) ?_
      refine lv_dup2_11 hx hb dX8_withdraw_135 rfl rfl ?_
      obtain ⟨hi54, hk⟩ := hk
      refine hp_ald (v := gV γ 37 0 ((a1 : Int32).toNatClampNeg)) hC hH lv_37 rfl hi54 rfl dX8_withdraw_136 ?_
      refine lv_iconst (v := 1) hx hb dX8_withdraw_137 (by decide) ?_
      refine lv_iload_n hx hb dX8_withdraw_138 rfl (lv_at hl 3 rfl) ?_
      refine lv_ishl hx hb dX8_withdraw_139 ?_
      refine lv_ior hx hb dX8_withdraw_140 ?_
      obtain ⟨hi55, hk⟩ := hk
      refine hp_ast hC hH lv_37 (fun _ => rfl) hS hi55 dX8_withdraw_141 (fun H locs hH hS => ?_)
      refine lv_iload hx hb dX8_withdraw_142 (lv_at hl 0 rfl) ?_
      subst hq
      exact kr_i hC hr hH hS rfl rfl dX8_withdraw_144
    · have hk := ifn hk c52
      have hq := ifne hq c52
      refine lv_iconst (v := 0) hx hb dX8_withdraw_119 (by decide) ?_
      subst hq
      exact kr_i hC hr hH hS rfl rfl dX8_withdraw_120
  have b_104 : ∀ (a1 : Int32) (a2 : Int32) (γ : St) (H : Heap) (locs : List Loc) (ls : Array Slot), lv_has ls 5 [(0, .ref (kA κ 8 0)), (1, .int a1), (2, .int a2)] → HR κ γ H → va_S (AA κ) s.heap H locs → ok_X8_withdraw_104 a1 a2 γ → x_X8_withdraw_104 a1 a2 γ = res → W p l e (headSpec [Cond.code yX8_withdraw cX8_withdraw 5 (some .int)] ({ frames := 3, cells := 0, slots := 0, locals := 73 } : Room)).room s m ([.ref (kA κ 8 0), .int y1, .int y2] : List Value).toArray below meth c H locs 0 0 (MQ below (QQ κ (res.2) (some (.int res.1))) ([.ref (kA κ 8 0), .int y1, .int y2] : List Value).toArray s 0 0 (AA κ)) (F0 m 104 ls [.ref (kA κ 8 0)]) := by
    intro a1 a2 γ H locs ls hl hH hS hk hq
    refine lv_iconst (v := 2) hx hb dX8_withdraw_104 (by decide) ?_
    refine lv_goto (tgt := 109) hx hb dX8_withdraw_105 (by decide) ?_
    exact b_109 a1 a2 2 γ _ _ _ (lv_sub hl [0, 1, 2] rfl) hH hS hk hq
  have b_85 : ∀ (a1 : Int32) (a2 : Int32) (s0 : Int32) (γ : St) (H : Heap) (locs : List Loc) (ls : Array Slot), lv_has ls 5 [(0, .ref (kA κ 8 0)), (1, .int a1), (2, .int a2)] → HR κ γ H → va_S (AA κ) s.heap H locs → ok_X8_withdraw_85 a1 a2 s0 γ → x_X8_withdraw_85 a1 a2 s0 γ = res → W p l e (headSpec [Cond.code yX8_withdraw cX8_withdraw 5 (some .int)] ({ frames := 3, cells := 0, slots := 0, locals := 73 } : Room)).room s m ([.ref (kA κ 8 0), .int y1, .int y2] : List Value).toArray below meth c H locs 0 0 (MQ below (QQ κ (res.2) (some (.int res.1))) ([.ref (kA κ 8 0), .int y1, .int y2] : List Value).toArray s 0 0 (AA κ)) (F0 m 85 ls [.int s0]) := by
    intro a1 a2 s0 γ H locs ls hl hH hS hk hq
    refine lv_istore_n (lv' := [(3, .int s0), (0, .ref (kA κ 8 0)), (1, .int a1), (2, .int a2)]) hx hb dX8_withdraw_85 rfl hl (by decide) rfl (fun ls hl => ?_)
    refine lv_aload_n hx hb dX8_withdraw_86 rfl (lv_at hl 1 rfl) ?_
    refine lv_iload_n hx hb dX8_withdraw_87 rfl (lv_at hl 0 rfl) ?_
    refine lv_if_ne (tgt := 104) hx hb dX8_withdraw_88 (by decide) (fun c56 => ?_) (fun c56 => ?_)
    · have hk := ifn hk c56
      have hq := ifne hq c56
      exact b_104 a1 a2 γ _ _ _ (lv_sub hl [1, 2, 3] rfl) hH hS hk hq
    · have hk := ifp hk c56
      have hq := ifpe hq c56
      refine lv_aload_n hx hb dX8_withdraw_91 rfl (lv_at hl 1 rfl) ?_
      refine hp_get (v := .ref (kA κ 37 0)) (C := RX8) (T := TX8) (N := 32) hC inX8 hH lv_8 rfl rfl 25 (by decide) tw_947 rfl rfl dX8_withdraw_92 ?_
      refine lv_iload_n hx hb dX8_withdraw_95 rfl (lv_at hl 2 rfl) ?_
      obtain ⟨hi57, hk⟩ := hk
      refine hp_ald (v := gV γ 37 0 ((a1 : Int32).toNatClampNeg)) hC hH lv_37 rfl hi57 rfl dX8_withdraw_96 ?_
      refine lv_iload_n hx hb dX8_withdraw_97 rfl (lv_at hl 3 rfl) ?_
      refine k_callS (rest := [.ref (kA κ 8 0)]) hC hl hH hS (c_X8_has l κ γ (gV γ 37 0 ((a1 : Int32).toNatClampNeg)) a2) tw_1043 tw_1044 tw_62 tw_1045 hd_X8_has ⟨Nat.le_of_ble_eq_true rfl, Nat.le_of_ble_eq_true rfl⟩ rfl rfl rfl rfl (Nat.le_of_ble_eq_true rfl) dX8_withdraw_98 ⟨Nat.le_of_ble_eq_true rfl, Nat.le_of_ble_eq_true rfl⟩ rfl (fun H locs hH hS => ?_)
      refine lv_if_eq (tgt := 108) hx hb dX8_withdraw_101 (by decide) (fun c58 => ?_) (fun c58 => ?_)
      · have hk := ifp hk c58
        have hq := ifpe hq c58
        refine lv_iconst (v := 0) hx hb dX8_withdraw_108 (by decide) ?_
        exact b_109 a1 a2 0 γ _ _ _ (lv_sub hl [1, 2, 3] rfl) hH hS hk hq
      · have hk := ifn hk c58
        have hq := ifne hq c58
        exact b_104 a1 a2 γ _ _ _ (lv_sub hl [1, 2, 3] rfl) hH hS hk hq
  have b_84 : ∀ (a1 : Int32) (a2 : Int32) (γ : St) (H : Heap) (locs : List Loc) (ls : Array Slot), lv_has ls 5 [(0, .ref (kA κ 8 0)), (1, .int a1), (2, .int a2)] → HR κ γ H → va_S (AA κ) s.heap H locs → ok_X8_withdraw_84 a1 a2 γ → x_X8_withdraw_84 a1 a2 γ = res → W p l e (headSpec [Cond.code yX8_withdraw cX8_withdraw 5 (some .int)] ({ frames := 3, cells := 0, slots := 0, locals := 73 } : Room)).room s m ([.ref (kA κ 8 0), .int y1, .int y2] : List Value).toArray below meth c H locs 0 0 (MQ below (QQ κ (res.2) (some (.int res.1))) ([.ref (kA κ 8 0), .int y1, .int y2] : List Value).toArray s 0 0 (AA κ)) (F0 m 84 ls []) := by
    intro a1 a2 γ H locs ls hl hH hS hk hq
    refine lv_iconst (v := 0) hx hb dX8_withdraw_84 (by decide) ?_
    exact b_85 a1 a2 0 γ _ _ _ (lv_sub hl [0, 1, 2] rfl) hH hS hk hq
  have b_80 : ∀ (a1 : Int32) (a2 : Int32) (γ : St) (H : Heap) (locs : List Loc) (ls : Array Slot), lv_has ls 5 [(0, .ref (kA κ 8 0)), (1, .int a1), (2, .int a2)] → HR κ γ H → va_S (AA κ) s.heap H locs → ok_X8_withdraw_80 a1 a2 γ → x_X8_withdraw_80 a1 a2 γ = res → W p l e (headSpec [Cond.code yX8_withdraw cX8_withdraw 5 (some .int)] ({ frames := 3, cells := 0, slots := 0, locals := 73 } : Room)).room s m ([.ref (kA κ 8 0), .int y1, .int y2] : List Value).toArray below meth c H locs 0 0 (MQ below (QQ κ (res.2) (some (.int res.1))) ([.ref (kA κ 8 0), .int y1, .int y2] : List Value).toArray s 0 0 (AA κ)) (F0 m 80 ls []) := by
    intro a1 a2 γ H locs ls hl hH hS hk hq
    refine lv_iconst (v := 1) hx hb dX8_withdraw_80 (by decide) ?_
    refine lv_goto (tgt := 85) hx hb dX8_withdraw_81 (by decide) ?_
    exact b_85 a1 a2 1 γ _ _ _ (lv_sub hl [0, 1, 2] rfl) hH hS hk hq
  have b_15 : ∀ (a1 : Int32) (a2 : Int32) (s0 : Int32) (γ : St) (H : Heap) (locs : List Loc) (ls : Array Slot), lv_has ls 5 [(0, .ref (kA κ 8 0)), (1, .int a1), (2, .int a2)] → HR κ γ H → va_S (AA κ) s.heap H locs → ok_X8_withdraw_15 a1 a2 s0 γ → x_X8_withdraw_15 a1 a2 s0 γ = res → W p l e (headSpec [Cond.code yX8_withdraw cX8_withdraw 5 (some .int)] ({ frames := 3, cells := 0, slots := 0, locals := 73 } : Room)).room s m ([.ref (kA κ 8 0), .int y1, .int y2] : List Value).toArray below meth c H locs 0 0 (MQ below (QQ κ (res.2) (some (.int res.1))) ([.ref (kA κ 8 0), .int y1, .int y2] : List Value).toArray s 0 0 (AA κ)) (F0 m 15 ls [.int s0, .ref (kA κ 8 0)]) := by
    intro a1 a2 s0 γ H locs ls hl hH hS hk hq
    refine hp_put (v := .int s0) (C := RX8) (T := TX8) (N := 32) hC inX8 tyX8_ok nmX8 hH lv_8 rfl hS rfl 31 (by decide) tw_953 rfl rfl rfl rfl (Nat.le_of_ble_eq_true rfl) (sV γ 8 0 31 s0) (pe_8_31 _ _ 0 s0) (fun _ _ _ h => cel_sV h) (WT_sV hH.wt) dX8_withdraw_15 (fun H locs hH hS => ?_)
    refine lv_aload_n hx hb dX8_withdraw_18 rfl (lv_at hl 0 rfl) ?_
    refine hp_get (v := .int s0) (C := RX8) (T := TX8) (N := 32) hC inX8 hH lv_8 rfl rfl 31 (by decide) tw_953 rfl rfl dX8_withdraw_19 ?_
    refine lv_if_le (tgt := 27) hx hb dX8_withdraw_22 (by decide) (fun c59 => ?_) (fun c59 => ?_)
    · have hk := ifp hk c59
      have hq := ifpe hq c59
      refine lv_aload_n hx hb dX8_withdraw_27 rfl (lv_at hl 0 rfl) ?_
      refine hp_get (v := .int (gV γ 8 0 4)) (C := RX8) (T := TX8) (N := 32) hC inX8 hH lv_8 rfl rfl 4 (by decide) tw_926 rfl rfl dX8_withdraw_28 ?_
      refine lv_iconst (v := (-1)) hx hb dX8_withdraw_31 (by decide) ?_
      refine lv_icmp_eq (tgt := 84) hx hb dX8_withdraw_32 (by decide) (fun c60 => ?_) (fun c60 => ?_)
      · have hk := ifp hk c60
        have hq := ifpe hq c60
        exact b_84 a1 a2 (sV γ 8 0 31 s0) _ _ _ (lv_sub hl [0, 1, 2] rfl) hH hS hk hq
      · have hk := ifn hk c60
        have hq := ifne hq c60
        refine lv_aload_n hx hb dX8_withdraw_35 rfl (lv_at hl 0 rfl) ?_
        refine hp_get (v := .ref (kA κ 24 0)) (C := RX8) (T := TX8) (N := 32) hC inX8 hH lv_8 rfl rfl 9 (by decide) tw_931 rfl rfl dX8_withdraw_36 ?_
        refine lv_aload_n hx hb dX8_withdraw_39 rfl (lv_at hl 0 rfl) ?_
        refine hp_get (v := .int (gV γ 8 0 4)) (C := RX8) (T := TX8) (N := 32) hC inX8 hH lv_8 rfl rfl 4 (by decide) tw_926 rfl rfl dX8_withdraw_40 ?_
        obtain ⟨hi61, hk⟩ := hk
        refine hp_ald (v := gV γ 24 0 ((gV γ 8 0 4 : Int32).toNatClampNeg)) hC hH lv_24 rfl hi61 rfl dX8_withdraw_43 ?_
        refine lv_iload_n hx hb dX8_withdraw_44 rfl (lv_at hl 1 rfl) ?_
        refine lv_icmp_ne (tgt := 84) hx hb dX8_withdraw_45 (by decide) (fun c62 => ?_) (fun c62 => ?_)
        · have hk := ifn hk c62
          have hq := ifne hq c62
          exact b_84 a1 a2 (sV γ 8 0 31 s0) _ _ _ (lv_sub hl [0, 1, 2] rfl) hH hS hk hq
        · have hk := ifp hk c62
          have hq := ifpe hq c62
          refine lv_aload_n hx hb dX8_withdraw_48 rfl (lv_at hl 0 rfl) ?_
          refine hp_get (v := .ref (kA κ 20 0)) (C := RX8) (T := TX8) (N := 32) hC inX8 hH lv_8 rfl rfl 5 (by decide) tw_927 rfl rfl dX8_withdraw_49 ?_
          refine lv_iconst (v := 2) hx hb dX8_withdraw_52 (by decide) ?_
          refine lv_aload_n hx hb dX8_withdraw_53 rfl (lv_at hl 0 rfl) ?_
          refine hp_get (v := .int (gV γ 8 0 4)) (C := RX8) (T := TX8) (N := 32) hC inX8 hH lv_8 rfl rfl 4 (by decide) tw_926 rfl rfl dX8_withdraw_54 ?_
          refine lv_imul hx hb dX8_withdraw_57 ?_
          obtain ⟨hi63, hk⟩ := hk
          refine hp_ald (v := gV γ 20 0 ((2 * (gV γ 8 0 4) : Int32).toNatClampNeg)) hC hH lv_20 rfl hi63 rfl dX8_withdraw_58 ?_
          refine lv_iload_n hx hb dX8_withdraw_59 rfl (lv_at hl 2 rfl) ?_
          refine lv_icmp_eq (tgt := 80) hx hb dX8_withdraw_60 (by decide) (fun c64 => ?_) (fun c64 => ?_)
          · have hk := ifp hk c64
            have hq := ifpe hq c64
            exact b_80 a1 a2 (sV γ 8 0 31 s0) _ _ _ (lv_sub hl [0, 1, 2] rfl) hH hS hk hq
          · have hk := ifn hk c64
            have hq := ifne hq c64
            refine lv_aload_n hx hb dX8_withdraw_63 rfl (lv_at hl 0 rfl) ?_
            refine hp_get (v := .ref (kA κ 20 0)) (C := RX8) (T := TX8) (N := 32) hC inX8 hH lv_8 rfl rfl 5 (by decide) tw_927 rfl rfl dX8_withdraw_64 ?_
            refine lv_iconst (v := 2) hx hb dX8_withdraw_67 (by decide) ?_
            refine lv_aload_n hx hb dX8_withdraw_68 rfl (lv_at hl 0 rfl) ?_
            refine hp_get (v := .int (gV γ 8 0 4)) (C := RX8) (T := TX8) (N := 32) hC inX8 hH lv_8 rfl rfl 4 (by decide) tw_926 rfl rfl dX8_withdraw_69 ?_
            refine lv_imul hx hb dX8_withdraw_72 ?_
            refine lv_iconst (v := 1) hx hb dX8_withdraw_73 (by decide) ?_
            refine lv_iadd hx hb dX8_withdraw_74 ?_
            obtain ⟨hi65, hk⟩ := hk
            refine hp_ald (v := gV γ 20 0 (((2 * (gV γ 8 0 4)) + 1 : Int32).toNatClampNeg)) hC hH lv_20 rfl hi65 rfl dX8_withdraw_75 ?_
            refine lv_iload_n hx hb dX8_withdraw_76 rfl (lv_at hl 2 rfl) ?_
            refine lv_icmp_ne (tgt := 84) hx hb dX8_withdraw_77 (by decide) (fun c66 => ?_) (fun c66 => ?_)
            · have hk := ifn hk c66
              have hq := ifne hq c66
              exact b_84 a1 a2 (sV γ 8 0 31 s0) _ _ _ (lv_sub hl [0, 1, 2] rfl) hH hS hk hq
            · have hk := ifp hk c66
              have hq := ifpe hq c66
              exact b_80 a1 a2 (sV γ 8 0 31 s0) _ _ _ (lv_sub hl [0, 1, 2] rfl) hH hS hk hq
    · have hk := ifn hk c59
      have hq := ifne hq c59
      refine lv_iconst (v := 0) hx hb dX8_withdraw_25 (by decide) ?_
      subst hq
      exact kr_i hC hr hH hS rfl rfl dX8_withdraw_26
  refine lv_aload_n hx hb dX8_withdraw_0 rfl (lv_at hl 0 rfl) ?_
  refine lv_aload_n hx hb dX8_withdraw_1 rfl (lv_at hl 0 rfl) ?_
  refine lv_iload_n hx hb dX8_withdraw_2 rfl (lv_at hl 1 rfl) ?_
  refine lv_iload_n hx hb dX8_withdraw_3 rfl (lv_at hl 2 rfl) ?_
  obtain ⟨hc67, hk⟩ := hk
  refine k_callV (C := RX8) (T := TX8) (N := 32) (rest := [.ref (kA κ 8 0)]) hC hl hH hS (c_X8_isMember l κ γ y1 y2 hc67) lv_8 rfl rfl tw_1139 tw_1141 tw_48 tw_62 tw_1142 hd_X8_isMember ⟨Nat.le_of_ble_eq_true rfl, Nat.le_of_ble_eq_true rfl⟩ rfl rfl rfl rfl (Nat.le_of_ble_eq_true rfl) dX8_withdraw_4 ⟨Nat.le_of_ble_eq_true rfl, Nat.le_of_ble_eq_true rfl⟩ rfl (fun H locs hH hS => ?_)
  refine lv_if_ne (tgt := 14) hx hb dX8_withdraw_7 (by decide) (fun c68 => ?_) (fun c68 => ?_)
  · have hk := ifn hk c68
    have hq := ifne hq c68
    refine lv_iconst (v := 0) hx hb dX8_withdraw_14 (by decide) ?_
    exact b_15 y1 y2 0 γ _ _ _ (lv_sub hl [0, 1, 2] rfl) hH hS hk hq
  · have hk := ifp hk c68
    have hq := ifpe hq c68
    refine lv_iconst (v := 1) hx hb dX8_withdraw_10 (by decide) ?_
    refine lv_goto (tgt := 15) hx hb dX8_withdraw_11 (by decide) ?_
    exact b_15 y1 y2 1 γ _ _ _ (lv_sub hl [0, 1, 2] rfl) hH hS hk hq
set_option maxRecDepth 20000 in
set_option maxHeartbeats 4000000 in
theorem c_X8_isBetter (l : Launch) (κ : KP) (γ : St) (y1 : Int32) (y2 : Int32) (y3 : Int32) (hk : ok_X8_isBetter y1 y2 y3 γ) : Met l yX8_isBetter [Cond.code yX8_isBetter cX8_isBetter 10 (some .boolean)] ({ frames := 3, cells := 0, slots := 0, locals := 73 } : Room) (va_Pc [.ref (kA κ 8 0), .int y1, .int y2, .int y3] (GG κ γ)) (QQ κ γ (some (.int ((x_X8_isBetter y1 y2 y3 γ))))) 0 0 (AA κ) := by
  generalize hq : x_X8_isBetter y1 y2 y3 γ = res
  refine Met.ofW (cc := cX8_isBetter) (maxL := 10) (ret := (some .boolean)) (by decide) rfl ?_
  intro p e s m args below meth c s₁ B hml9 hv
  obtain ⟨rfl, hH, hK9, hB9, hX9, hZ9⟩ := hv
  have hC : CX κ cX8_isBetter "PhrasehallModel" 10 p l s m ([.ref (kA κ 8 0), .int y1, .int y2, .int y3] : List Value).toArray meth c := ⟨B.exec, B.bytes, findClass_of_methodNamed B.named, fun w hw => tw_use (List.mem_filter.mp hw).2 (State.WarmedH.refl s) (hX9.1 w hw), hK9, hX9, hZ9, hB9, hml9, B.notSynchronized⟩
  obtain ⟨hx, hb, hown, hT, -, -, -, -, hml, -⟩ := id hC
  have hr := B.returns
  have hS : va_S (AA κ) s.heap s.heap [] := va_S.rf
  have hl := lv_entry ([.ref (kA κ 8 0), .int y1, .int y2, .int y3]) (n := 10) (Nat.le_of_ble_eq_true rfl)
  rw [lg_entry_eq]
  generalize (lg_sl ([.ref (kA κ 8 0), .int y1, .int y2, .int y3]) ++ List.replicate (10 - (lg_sl ([.ref (kA κ 8 0), .int y1, .int y2, .int y3])).length) Slot.unset).toArray = ls at hl ⊢
  have hl : lv_has ls 10 [(0, .ref (kA κ 8 0)), (1, .int y1), (2, .int y2), (3, .int y3)] := hl
  have b_55 : ∀ (a1 : Int32) (a2 : Int32) (a3 : Int32) (s0 : Int32) (s1 : Int32) (s2 : Int32) (H : Heap) (locs : List Loc) (ls : Array Slot), lv_has ls 10 [(0, .ref (kA κ 8 0)), (1, .int a1), (2, .int a2), (3, .int a3)] → HR κ γ H → va_S (AA κ) s.heap H locs → ok_X8_isBetter_55 a1 a2 a3 s0 s1 s2 γ → x_X8_isBetter_55 a1 a2 a3 s0 s1 s2 γ = res → W p l e (headSpec [Cond.code yX8_isBetter cX8_isBetter 10 (some .boolean)] ({ frames := 3, cells := 0, slots := 0, locals := 73 } : Room)).room s m ([.ref (kA κ 8 0), .int y1, .int y2, .int y3] : List Value).toArray below meth c H locs 0 0 (MQ below (QQ κ γ (some (.int res))) ([.ref (kA κ 8 0), .int y1, .int y2, .int y3] : List Value).toArray s 0 0 (AA κ)) (F0 m 55 ls [.int s0, .int s1, .int s2]) := by
    intro a1 a2 a3 s0 s1 s2 H locs ls hl hH hS hk hq
    refine lv_imul hx hb dX8_isBetter_55 ?_
    refine lv_isub hx hb dX8_isBetter_56 ?_
    refine lv_istore (lv' := [(6, .int (s2 - (s1 * s0))), (0, .ref (kA κ 8 0)), (1, .int a1), (2, .int a2), (3, .int a3)]) hx hb dX8_isBetter_57 hl (by decide) rfl (fun ls hl => ?_)
    refine lv_iload hx hb dX8_isBetter_59 (lv_at hl 0 rfl) ?_
    refine lv_if_eq (tgt := 75) hx hb dX8_isBetter_61 (by decide) (fun c52 => ?_) (fun c52 => ?_)
    · have hk := ifp hk c52
      have hq := ifpe hq c52
      refine lv_aload_n hx hb dX8_isBetter_75 rfl (lv_at hl 1 rfl) ?_
      refine lv_iload_n hx hb dX8_isBetter_76 rfl (lv_at hl 2 rfl) ?_
      refine lv_iload_n hx hb dX8_isBetter_77 rfl (lv_at hl 3 rfl) ?_
      refine lv_iconst (v := 2) hx hb dX8_isBetter_78 (by decide) ?_
      obtain ⟨hc53, hk⟩ := hk
      refine k_callV (C := RX8) (T := TX8) (N := 32) (rest := []) hC hl hH hS (c_X8_tells l κ γ a1 a2 2 hc53) lv_8 rfl rfl tw_1143 tw_1145 tw_49 tw_62 tw_1146 hd_X8_tells ⟨Nat.le_of_ble_eq_true rfl, Nat.le_of_ble_eq_true rfl⟩ rfl rfl rfl rfl (Nat.le_of_ble_eq_true rfl) dX8_isBetter_79 ⟨Nat.le_of_ble_eq_true rfl, Nat.le_of_ble_eq_true rfl⟩ rfl (fun H locs hH hS => ?_)
      refine lv_istore (lv' := [(7, .int ((x_X8_tells a1 a2 2 γ))), (6, .int (s2 - (s1 * s0))), (0, .ref (kA κ 8 0)), (1, .int a1), (2, .int a2), (3, .int a3)]) hx hb dX8_isBetter_82 hl (by decide) rfl (fun ls hl => ?_)
      refine lv_aload_n hx hb dX8_isBetter_84 rfl (lv_at hl 2 rfl) ?_
      refine lv_iload_n hx hb dX8_isBetter_85 rfl (lv_at hl 3 rfl) ?_
      refine lv_iload_n hx hb dX8_isBetter_86 rfl (lv_at hl 5 rfl) ?_
      refine lv_iconst (v := 2) hx hb dX8_isBetter_87 (by decide) ?_
      obtain ⟨hc54, hk⟩ := hk
      refine k_callV (C := RX8) (T := TX8) (N := 32) (rest := []) hC hl hH hS (c_X8_tells l κ γ a1 a3 2 hc54) lv_8 rfl rfl tw_1143 tw_1145 tw_49 tw_62 tw_1146 hd_X8_tells ⟨Nat.le_of_ble_eq_true rfl, Nat.le_of_ble_eq_true rfl⟩ rfl rfl rfl rfl (Nat.le_of_ble_eq_true rfl) dX8_isBetter_88 ⟨Nat.le_of_ble_eq_true rfl, Nat.le_of_ble_eq_true rfl⟩ rfl (fun H locs hH hS => ?_)
      refine lv_istore (lv' := [(8, .int ((x_X8_tells a1 a3 2 γ))), (7, .int ((x_X8_tells a1 a2 2 γ))), (6, .int (s2 - (s1 * s0))), (0, .ref (kA κ 8 0)), (1, .int a1), (2, .int a2), (3, .int a3)]) hx hb dX8_isBetter_91 hl (by decide) rfl (fun ls hl => ?_)
      refine lv_iload hx hb dX8_isBetter_93 (lv_at hl 1 rfl) ?_
      refine lv_aload_n hx hb dX8_isBetter_95 rfl (lv_at hl 3 rfl) ?_
      refine lv_iload_n hx hb dX8_isBetter_96 rfl (lv_at hl 4 rfl) ?_
      refine lv_iload_n hx hb dX8_isBetter_97 rfl (lv_at hl 5 rfl) ?_
      refine lv_iconst (v := 3) hx hb dX8_isBetter_98 (by decide) ?_
      obtain ⟨hc55, hk⟩ := hk
      refine k_callV (C := RX8) (T := TX8) (N := 32) (rest := [.int ((x_X8_tells a1 a2 2 γ))]) hC hl hH hS (c_X8_tells l κ γ a1 a2 3 hc55) lv_8 rfl rfl tw_1143 tw_1145 tw_49 tw_62 tw_1146 hd_X8_tells ⟨Nat.le_of_ble_eq_true rfl, Nat.le_of_ble_eq_true rfl⟩ rfl rfl rfl rfl (Nat.le_of_ble_eq_true rfl) dX8_isBetter_99 ⟨Nat.le_of_ble_eq_true rfl, Nat.le_of_ble_eq_true rfl⟩ rfl (fun H locs hH hS => ?_)
      refine lv_isub hx hb dX8_isBetter_102 ?_
      refine lv_iload hx hb dX8_isBetter_103 (lv_at hl 0 rfl) ?_
      refine lv_isub hx hb dX8_isBetter_105 ?_
      refine lv_aload_n hx hb dX8_isBetter_106 rfl (lv_at hl 3 rfl) ?_
      refine lv_iload_n hx hb dX8_isBetter_107 rfl (lv_at hl 4 rfl) ?_
      refine lv_iload_n hx hb dX8_isBetter_108 rfl (lv_at hl 6 rfl) ?_
      refine lv_iconst (v := 3) hx hb dX8_isBetter_109 (by decide) ?_
      obtain ⟨hc56, hk⟩ := hk
      refine k_callV (C := RX8) (T := TX8) (N := 32) (rest := [.int ((((x_X8_tells a1 a2 2 γ)) - ((x_X8_tells a1 a2 3 γ))) - ((x_X8_tells a1 a3 2 γ)))]) hC hl hH hS (c_X8_tells l κ γ a1 a3 3 hc56) lv_8 rfl rfl tw_1143 tw_1145 tw_49 tw_62 tw_1146 hd_X8_tells ⟨Nat.le_of_ble_eq_true rfl, Nat.le_of_ble_eq_true rfl⟩ rfl rfl rfl rfl (Nat.le_of_ble_eq_true rfl) dX8_isBetter_110 ⟨Nat.le_of_ble_eq_true rfl, Nat.le_of_ble_eq_true rfl⟩ rfl (fun H locs hH hS => ?_)
      refine lv_iadd hx hb dX8_isBetter_113 ?_
      refine lv_istore (lv' := [(9, .int (((((x_X8_tells a1 a2 2 γ)) - ((x_X8_tells a1 a2 3 γ))) - ((x_X8_tells a1 a3 2 γ))) + ((x_X8_tells a1 a3 3 γ)))), (8, .int ((x_X8_tells a1 a3 2 γ))), (7, .int ((x_X8_tells a1 a2 2 γ))), (6, .int (s2 - (s1 * s0))), (0, .ref (kA κ 8 0)), (1, .int a1), (2, .int a2), (3, .int a3)]) hx hb dX8_isBetter_114 hl (by decide) rfl (fun ls hl => ?_)
      refine lv_iload hx hb dX8_isBetter_116 (lv_at hl 0 rfl) ?_
      refine lv_if_eq (tgt := 134) hx hb dX8_isBetter_118 (by decide) (fun c57 => ?_) (fun c57 => ?_)
      · have hk := ifp hk c57
        have hq := ifpe hq c57
        refine lv_iload hx hb dX8_isBetter_134 (lv_at hl 2 rfl) ?_
        refine lv_iload hx hb dX8_isBetter_136 (lv_at hl 1 rfl) ?_
        refine lv_icmp_eq (tgt := 156) hx hb dX8_isBetter_138 (by decide) (fun c58 => ?_) (fun c58 => ?_)
        · have hk := ifp hk c58
          have hq := ifpe hq c58
          refine lv_iload_n hx hb dX8_isBetter_156 rfl (lv_at hl 6 rfl) ?_
          refine lv_iload_n hx hb dX8_isBetter_157 rfl (lv_at hl 7 rfl) ?_
          refine lv_icmp_ge (tgt := 165) hx hb dX8_isBetter_158 (by decide) (fun c59 => ?_) (fun c59 => ?_)
          · have hk := ifp hk c59
            have hq := ifpe hq c59
            refine lv_iconst (v := 0) hx hb dX8_isBetter_165 (by decide) ?_
            subst hq
            exact kr_z hC hr rfl hH hS rfl rfl dX8_isBetter_166
          · have hk := ifn hk c59
            have hq := ifne hq c59
            refine lv_iconst (v := 1) hx hb dX8_isBetter_161 (by decide) ?_
            refine lv_goto (tgt := 166) hx hb dX8_isBetter_162 (by decide) ?_
            subst hq
            exact kr_z hC hr rfl hH hS rfl rfl dX8_isBetter_166
        · have hk := ifn hk c58
          have hq := ifne hq c58
          refine lv_iload hx hb dX8_isBetter_141 (lv_at hl 2 rfl) ?_
          refine lv_iload hx hb dX8_isBetter_143 (lv_at hl 1 rfl) ?_
          refine lv_icmp_le (tgt := 152) hx hb dX8_isBetter_145 (by decide) (fun c60 => ?_) (fun c60 => ?_)
          · have hk := ifp hk c60
            have hq := ifpe hq c60
            refine lv_iconst (v := 0) hx hb dX8_isBetter_152 (by decide) ?_
            refine lv_goto (tgt := 166) hx hb dX8_isBetter_153 (by decide) ?_
            subst hq
            exact kr_z hC hr rfl hH hS rfl rfl dX8_isBetter_166
          · have hk := ifn hk c60
            have hq := ifne hq c60
            refine lv_iconst (v := 1) hx hb dX8_isBetter_148 (by decide) ?_
            refine lv_goto (tgt := 166) hx hb dX8_isBetter_149 (by decide) ?_
            subst hq
            exact kr_z hC hr rfl hH hS rfl rfl dX8_isBetter_166
      · have hk := ifn hk c57
        have hq := ifne hq c57
        refine lv_iload hx hb dX8_isBetter_121 (lv_at hl 0 rfl) ?_
        refine lv_if_le (tgt := 130) hx hb dX8_isBetter_123 (by decide) (fun c61 => ?_) (fun c61 => ?_)
        · have hk := ifp hk c61
          have hq := ifpe hq c61
          refine lv_iconst (v := 0) hx hb dX8_isBetter_130 (by decide) ?_
          refine lv_goto (tgt := 166) hx hb dX8_isBetter_131 (by decide) ?_
          subst hq
          exact kr_z hC hr rfl hH hS rfl rfl dX8_isBetter_166
        · have hk := ifn hk c61
          have hq := ifne hq c61
          refine lv_iconst (v := 1) hx hb dX8_isBetter_126 (by decide) ?_
          refine lv_goto (tgt := 166) hx hb dX8_isBetter_127 (by decide) ?_
          subst hq
          exact kr_z hC hr rfl hH hS rfl rfl dX8_isBetter_166
    · have hk := ifn hk c52
      have hq := ifne hq c52
      refine lv_iload hx hb dX8_isBetter_64 (lv_at hl 0 rfl) ?_
      refine lv_if_le (tgt := 73) hx hb dX8_isBetter_66 (by decide) (fun c62 => ?_) (fun c62 => ?_)
      · have hk := ifp hk c62
        have hq := ifpe hq c62
        refine lv_iconst (v := 0) hx hb dX8_isBetter_73 (by decide) ?_
        subst hq
        exact kr_z hC hr rfl hH hS rfl rfl dX8_isBetter_74
      · have hk := ifn hk c62
        have hq := ifne hq c62
        refine lv_iconst (v := 1) hx hb dX8_isBetter_69 (by decide) ?_
        refine lv_goto (tgt := 74) hx hb dX8_isBetter_70 (by decide) ?_
        subst hq
        exact kr_z hC hr rfl hH hS rfl rfl dX8_isBetter_74
  have b_36 : ∀ (a1 : Int32) (a2 : Int32) (a3 : Int32) (a4 : Int32) (s0 : Int32) (s1 : Int32) (H : Heap) (locs : List Loc) (ls : Array Slot), lv_has ls 10 [(0, .ref (kA κ 8 0)), (1, .int a1), (2, .int a2), (3, .int a3), (4, .int a4)] → HR κ γ H → va_S (AA κ) s.heap H locs → ok_X8_isBetter_36 a1 a2 a3 a4 s0 s1 γ → x_X8_isBetter_36 a1 a2 a3 a4 s0 s1 γ = res → W p l e (headSpec [Cond.code yX8_isBetter cX8_isBetter 10 (some .boolean)] ({ frames := 3, cells := 0, slots := 0, locals := 73 } : Room)).room s m ([.ref (kA κ 8 0), .int y1, .int y2, .int y3] : List Value).toArray below meth c H locs 0 0 (MQ below (QQ κ γ (some (.int res))) ([.ref (kA κ 8 0), .int y1, .int y2, .int y3] : List Value).toArray s 0 0 (AA κ)) (F0 m 36 ls [.int s0, .int s1]) := by
    intro a1 a2 a3 a4 s0 s1 H locs ls hl hH hS hk hq
    refine lv_imul hx hb dX8_isBetter_36 ?_
    refine lv_aload_n hx hb dX8_isBetter_37 rfl (lv_at hl 0 rfl) ?_
    refine lv_iload_n hx hb dX8_isBetter_38 rfl (lv_at hl 1 rfl) ?_
    refine lv_iload_n hx hb dX8_isBetter_39 rfl (lv_at hl 3 rfl) ?_
    refine lv_iconst (v := 1) hx hb dX8_isBetter_40 (by decide) ?_
    obtain ⟨hc63, hk⟩ := hk
    refine k_callV (C := RX8) (T := TX8) (N := 32) (rest := [.int (s1 * s0)]) hC hl hH hS (c_X8_tells l κ γ a1 a3 1 hc63) lv_8 rfl rfl tw_1143 tw_1145 tw_49 tw_62 tw_1146 hd_X8_tells ⟨Nat.le_of_ble_eq_true rfl, Nat.le_of_ble_eq_true rfl⟩ rfl rfl rfl rfl (Nat.le_of_ble_eq_true rfl) dX8_isBetter_41 ⟨Nat.le_of_ble_eq_true rfl, Nat.le_of_ble_eq_true rfl⟩ rfl (fun H locs hH hS => ?_)
    refine lv_iload hx hb dX8_isBetter_44 (lv_at hl 4 rfl) ?_
    refine lv_if_ne (tgt := 53) hx hb dX8_isBetter_46 (by decide) (fun c64 => ?_) (fun c64 => ?_)
    · have hk := ifn hk c64
      have hq := ifne hq c64
      refine lv_iload hx hb dX8_isBetter_53 (lv_at hl 4 rfl) ?_
      exact b_55 a1 a2 a3 a4 ((x_X8_tells a1 a3 1 γ)) (s1 * s0) _ _ _ (lv_sub hl [0, 1, 2, 3] rfl) hH hS hk hq
    · have hk := ifp hk c64
      have hq := ifpe hq c64
      refine lv_iconst (v := 1) hx hb dX8_isBetter_49 (by decide) ?_
      refine lv_goto (tgt := 55) hx hb dX8_isBetter_50 (by decide) ?_
      exact b_55 a1 a2 a3 1 ((x_X8_tells a1 a3 1 γ)) (s1 * s0) _ _ _ (lv_sub hl [0, 1, 2, 3] rfl) hH hS hk hq
  refine lv_aload_n hx hb dX8_isBetter_0 rfl (lv_at hl 0 rfl) ?_
  refine lv_iload_n hx hb dX8_isBetter_1 rfl (lv_at hl 1 rfl) ?_
  refine lv_iload_n hx hb dX8_isBetter_2 rfl (lv_at hl 2 rfl) ?_
  refine lv_iconst (v := 0) hx hb dX8_isBetter_3 (by decide) ?_
  obtain ⟨hc65, hk⟩ := hk
  refine k_callV (C := RX8) (T := TX8) (N := 32) (rest := []) hC hl hH hS (c_X8_tells l κ γ y1 y2 0 hc65) lv_8 rfl rfl tw_1143 tw_1145 tw_49 tw_62 tw_1146 hd_X8_tells ⟨Nat.le_of_ble_eq_true rfl, Nat.le_of_ble_eq_true rfl⟩ rfl rfl rfl rfl (Nat.le_of_ble_eq_true rfl) dX8_isBetter_4 ⟨Nat.le_of_ble_eq_true rfl, Nat.le_of_ble_eq_true rfl⟩ rfl (fun H locs hH hS => ?_)
  refine lv_istore (lv' := [(4, .int ((x_X8_tells y1 y2 0 γ))), (0, .ref (kA κ 8 0)), (1, .int y1), (2, .int y2), (3, .int y3)]) hx hb dX8_isBetter_7 hl (by decide) rfl (fun ls hl => ?_)
  refine lv_aload_n hx hb dX8_isBetter_9 rfl (lv_at hl 1 rfl) ?_
  refine lv_iload_n hx hb dX8_isBetter_10 rfl (lv_at hl 2 rfl) ?_
  refine lv_iload_n hx hb dX8_isBetter_11 rfl (lv_at hl 4 rfl) ?_
  refine lv_iconst (v := 0) hx hb dX8_isBetter_12 (by decide) ?_
  obtain ⟨hc66, hk⟩ := hk
  refine k_callV (C := RX8) (T := TX8) (N := 32) (rest := []) hC hl hH hS (c_X8_tells l κ γ y1 y3 0 hc66) lv_8 rfl rfl tw_1143 tw_1145 tw_49 tw_62 tw_1146 hd_X8_tells ⟨Nat.le_of_ble_eq_true rfl, Nat.le_of_ble_eq_true rfl⟩ rfl rfl rfl rfl (Nat.le_of_ble_eq_true rfl) dX8_isBetter_13 ⟨Nat.le_of_ble_eq_true rfl, Nat.le_of_ble_eq_true rfl⟩ rfl (fun H locs hH hS => ?_)
  refine lv_istore (lv' := [(5, .int ((x_X8_tells y1 y3 0 γ))), (4, .int ((x_X8_tells y1 y2 0 γ))), (0, .ref (kA κ 8 0)), (1, .int y1), (2, .int y2), (3, .int y3)]) hx hb dX8_isBetter_16 hl (by decide) rfl (fun ls hl => ?_)
  refine lv_aload_n hx hb dX8_isBetter_18 rfl (lv_at hl 2 rfl) ?_
  refine lv_iload_n hx hb dX8_isBetter_19 rfl (lv_at hl 3 rfl) ?_
  refine lv_iload_n hx hb dX8_isBetter_20 rfl (lv_at hl 4 rfl) ?_
  refine lv_iconst (v := 1) hx hb dX8_isBetter_21 (by decide) ?_
  obtain ⟨hc67, hk⟩ := hk
  refine k_callV (C := RX8) (T := TX8) (N := 32) (rest := []) hC hl hH hS (c_X8_tells l κ γ y1 y2 1 hc67) lv_8 rfl rfl tw_1143 tw_1145 tw_49 tw_62 tw_1146 hd_X8_tells ⟨Nat.le_of_ble_eq_true rfl, Nat.le_of_ble_eq_true rfl⟩ rfl rfl rfl rfl (Nat.le_of_ble_eq_true rfl) dX8_isBetter_22 ⟨Nat.le_of_ble_eq_true rfl, Nat.le_of_ble_eq_true rfl⟩ rfl (fun H locs hH hS => ?_)
  refine lv_iload hx hb dX8_isBetter_25 (lv_at hl 0 rfl) ?_
  refine lv_if_ne (tgt := 34) hx hb dX8_isBetter_27 (by decide) (fun c68 => ?_) (fun c68 => ?_)
  · have hk := ifn hk c68
    have hq := ifne hq c68
    refine lv_iload hx hb dX8_isBetter_34 (lv_at hl 0 rfl) ?_
    exact b_36 y1 y2 y3 ((x_X8_tells y1 y2 0 γ)) ((x_X8_tells y1 y3 0 γ)) ((x_X8_tells y1 y2 1 γ)) _ _ _ (lv_sub hl [2, 3, 4, 5, 1] rfl) hH hS hk hq
  · have hk := ifp hk c68
    have hq := ifpe hq c68
    refine lv_iconst (v := 1) hx hb dX8_isBetter_30 (by decide) ?_
    refine lv_goto (tgt := 36) hx hb dX8_isBetter_31 (by decide) ?_
    exact b_36 y1 y2 y3 ((x_X8_tells y1 y2 0 γ)) 1 ((x_X8_tells y1 y2 1 γ)) _ _ _ (lv_sub hl [2, 3, 4, 5, 1] rfl) hH hS hk hq
set_option maxRecDepth 20000 in
set_option maxHeartbeats 4000000 in
theorem c_X8_ranks (l : Launch) (κ : KP) (γ : St) (y1 : Int32) (hk : ok_X8_ranks y1 γ) : Met l yX8_ranks [Cond.code yX8_ranks cX8_ranks 5 (some .int)] ({ frames := 4, cells := 0, slots := 0, locals := 102 } : Room) (va_Pc [.ref (kA κ 8 0), .int y1] (GG κ γ)) (QQ κ (((x_X8_ranks y1 γ)).2) (some (.int (((x_X8_ranks y1 γ)).1)))) 0 0 (AA κ) := by
  generalize hq : x_X8_ranks y1 γ = res
  refine Met.ofW (cc := cX8_ranks) (maxL := 5) (ret := (some .int)) (by decide) rfl ?_
  intro p e s m args below meth c s₁ B hml9 hv
  obtain ⟨rfl, hH, hK9, hB9, hX9, hZ9⟩ := hv
  have hC : CX κ cX8_ranks "PhrasehallModel" 5 p l s m ([.ref (kA κ 8 0), .int y1] : List Value).toArray meth c := ⟨B.exec, B.bytes, findClass_of_methodNamed B.named, fun w hw => tw_use (List.mem_filter.mp hw).2 (State.WarmedH.refl s) (hX9.1 w hw), hK9, hX9, hZ9, hB9, hml9, B.notSynchronized⟩
  obtain ⟨hx, hb, hown, hT, -, -, -, -, hml, -⟩ := id hC
  have hr := B.returns
  have hS : va_S (AA κ) s.heap s.heap [] := va_S.rf
  have hl := lv_entry ([.ref (kA κ 8 0), .int y1]) (n := 5) (Nat.le_of_ble_eq_true rfl)
  rw [lg_entry_eq]
  generalize (lg_sl ([.ref (kA κ 8 0), .int y1]) ++ List.replicate (5 - (lg_sl ([.ref (kA κ 8 0), .int y1])).length) Slot.unset).toArray = ls at hl ⊢
  have hl : lv_has ls 5 [(0, .ref (kA κ 8 0)), (1, .int y1)] := hl
  have b_4 : ∀ (k4 : Nat) (a1 : Int32) (a2 : Int32) (a3 : Int32) (γ : St) (H : Heap) (locs : List Loc) (ls : Array Slot), lv_has ls 5 [(0, .ref (kA κ 8 0)), (1, .int a1), (2, .int a2), (3, .int a3)] → HR κ γ H → va_S (AA κ) s.heap H locs → ok_X8_ranks_4 k4 a1 a2 a3 γ → x_X8_ranks_4 k4 a1 a2 a3 γ = res → W p l e (headSpec [Cond.code yX8_ranks cX8_ranks 5 (some .int)] ({ frames := 4, cells := 0, slots := 0, locals := 102 } : Room)).room s m ([.ref (kA κ 8 0), .int y1] : List Value).toArray below meth c H locs 0 0 (MQ below (QQ κ (res.2) (some (.int res.1))) ([.ref (kA κ 8 0), .int y1] : List Value).toArray s 0 0 (AA κ)) (F0 m 4 ls []) := by
    intro k4
    induction k4 with
    | zero =>
      intro a1 a2 a3 γ H locs ls hl hH hS hk hq
      exact (show False from hk).elim
    | succ k4 ih_4 =>
      have b_93 : ∀ (a1 : Int32) (a2 : Int32) (a3 : Int32) (γ : St) (H : Heap) (locs : List Loc) (ls : Array Slot), lv_has ls 5 [(0, .ref (kA κ 8 0)), (1, .int a1), (2, .int a2), (3, .int a3)] → HR κ γ H → va_S (AA κ) s.heap H locs → ok_X8_ranks_93 (ok_X8_ranks_4 k4) a1 a2 a3 γ → x_X8_ranks_93 (x_X8_ranks_4 k4) a1 a2 a3 γ = res → W p l e (headSpec [Cond.code yX8_ranks cX8_ranks 5 (some .int)] ({ frames := 4, cells := 0, slots := 0, locals := 102 } : Room)).room s m ([.ref (kA κ 8 0), .int y1] : List Value).toArray below meth c H locs 0 0 (MQ below (QQ κ (res.2) (some (.int res.1))) ([.ref (kA κ 8 0), .int y1] : List Value).toArray s 0 0 (AA κ)) (F0 m 93 ls []) := by
        intro a1 a2 a3 γ H locs ls hl hH hS hk hq
        refine lv_iinc (v := a3 + 1) (lv' := [(3, .int (a3 + 1)), (0, .ref (kA κ 8 0)), (1, .int a1), (2, .int a2)]) hx hb dX8_ranks_93 hl (k := 3) rfl rfl (by decide) rfl (fun ls hl => ?_)
        refine lv_goto (tgt := 4) hx hb dX8_ranks_96 (by decide) ?_
        exact ih_4 a1 a2 (a3 + 1) γ _ _ _ (lv_sub hl [1, 2, 3, 0] rfl) hH hS hk hq
      have b_82 : ∀ (a1 : Int32) (a2 : Int32) (a3 : Int32) (a4 : Int32) (γ : St) (H : Heap) (locs : List Loc) (ls : Array Slot), lv_has ls 5 [(0, .ref (kA κ 8 0)), (1, .int a1), (2, .int a2), (3, .int a3), (4, .int a4)] → HR κ γ H → va_S (AA κ) s.heap H locs → ok_X8_ranks_82 (ok_X8_ranks_4 k4) a1 a2 a3 a4 γ → x_X8_ranks_82 (x_X8_ranks_4 k4) a1 a2 a3 a4 γ = res → W p l e (headSpec [Cond.code yX8_ranks cX8_ranks 5 (some .int)] ({ frames := 4, cells := 0, slots := 0, locals := 102 } : Room)).room s m ([.ref (kA κ 8 0), .int y1] : List Value).toArray below meth c H locs 0 0 (MQ below (QQ κ (res.2) (some (.int res.1))) ([.ref (kA κ 8 0), .int y1] : List Value).toArray s 0 0 (AA κ)) (F0 m 82 ls []) := by
        intro a1 a2 a3 a4 γ H locs ls hl hH hS hk hq
        refine lv_aload_n hx hb dX8_ranks_82 rfl (lv_at hl 0 rfl) ?_
        refine hp_get (v := .ref (kA κ 38 0)) (C := RX8) (T := TX8) (N := 32) hC inX8 hH lv_8 rfl rfl 26 (by decide) tw_948 rfl rfl dX8_ranks_83 ?_
        refine lv_iload hx hb dX8_ranks_86 (lv_at hl 4 rfl) ?_
        refine lv_iload_n hx hb dX8_ranks_88 rfl (lv_at hl 3 rfl) ?_
        obtain ⟨hi34, hk⟩ := hk
        refine hp_ast hC hH lv_38 (fun _ => rfl) hS hi34 dX8_ranks_89 (fun H locs hH hS => ?_)
        refine lv_iinc (v := a2 + 1) (lv' := [(2, .int (a2 + 1)), (0, .ref (kA κ 8 0)), (1, .int a1), (3, .int a3), (4, .int a4)]) hx hb dX8_ranks_90 hl (k := 2) rfl rfl (by decide) rfl (fun ls hl => ?_)
        exact b_93 a1 (a2 + 1) a3 (sV γ 38 0 ((a4 : Int32).toNatClampNeg) a3) _ _ _ (lv_sub hl [1, 2, 0, 3] rfl) hH hS hk hq
      have b_37 : ∀ (k37 : Nat) (a1 : Int32) (a2 : Int32) (a3 : Int32) (a4 : Int32) (γ : St) (H : Heap) (locs : List Loc) (ls : Array Slot), lv_has ls 5 [(0, .ref (kA κ 8 0)), (1, .int a1), (2, .int a2), (3, .int a3), (4, .int a4)] → HR κ γ H → va_S (AA κ) s.heap H locs → ok_X8_ranks_37 (ok_X8_ranks_4 k4) k37 a1 a2 a3 a4 γ → x_X8_ranks_37 (x_X8_ranks_4 k4) k37 a1 a2 a3 a4 γ = res → W p l e (headSpec [Cond.code yX8_ranks cX8_ranks 5 (some .int)] ({ frames := 4, cells := 0, slots := 0, locals := 102 } : Room)).room s m ([.ref (kA κ 8 0), .int y1] : List Value).toArray below meth c H locs 0 0 (MQ below (QQ κ (res.2) (some (.int res.1))) ([.ref (kA κ 8 0), .int y1] : List Value).toArray s 0 0 (AA κ)) (F0 m 37 ls []) := by
        intro k37
        induction k37 with
        | zero =>
          intro a1 a2 a3 a4 γ H locs ls hl hH hS hk hq
          exact (show False from hk).elim
        | succ k37 ih_37 =>
          intro a1 a2 a3 a4 γ H locs ls hl hH hS hk hq
          refine lv_iload hx hb dX8_ranks_37 (lv_at hl 4 rfl) ?_
          refine lv_if_le (tgt := 82) hx hb dX8_ranks_39 (by decide) (fun c35 => ?_) (fun c35 => ?_)
          · have hk := ifp hk c35
            have hq := ifpe hq c35
            exact b_82 a1 a2 a3 a4 γ _ _ _ (lv_sub hl [0, 1, 2, 3, 4] rfl) hH hS hk hq
          · have hk := ifn hk c35
            have hq := ifne hq c35
            refine lv_aload_n hx hb dX8_ranks_42 rfl (lv_at hl 0 rfl) ?_
            refine lv_iload_n hx hb dX8_ranks_43 rfl (lv_at hl 1 rfl) ?_
            refine lv_iload_n hx hb dX8_ranks_44 rfl (lv_at hl 3 rfl) ?_
            refine lv_aload_n hx hb dX8_ranks_45 rfl (lv_at hl 0 rfl) ?_
            refine hp_get (v := .ref (kA κ 38 0)) (C := RX8) (T := TX8) (N := 32) hC inX8 hH lv_8 rfl rfl 26 (by decide) tw_948 rfl rfl dX8_ranks_46 ?_
            refine lv_iload hx hb dX8_ranks_49 (lv_at hl 4 rfl) ?_
            refine lv_iconst (v := 1) hx hb dX8_ranks_51 (by decide) ?_
            refine lv_isub hx hb dX8_ranks_52 ?_
            obtain ⟨hi36, hk⟩ := hk
            refine hp_ald (v := gV γ 38 0 ((a4 - 1 : Int32).toNatClampNeg)) hC hH lv_38 rfl hi36 rfl dX8_ranks_53 ?_
            obtain ⟨hc37, hk⟩ := hk
            refine k_callV (C := RX8) (T := TX8) (N := 32) (rest := []) hC hl hH hS (c_X8_isBetter l κ γ a1 a3 (gV γ 38 0 ((a4 - 1 : Int32).toNatClampNeg)) hc37) lv_8 rfl rfl tw_1159 tw_1161 tw_52 tw_62 tw_1162 hd_X8_isBetter ⟨Nat.le_of_ble_eq_true rfl, Nat.le_of_ble_eq_true rfl⟩ rfl rfl rfl rfl (Nat.le_of_ble_eq_true rfl) dX8_ranks_54 ⟨Nat.le_of_ble_eq_true rfl, Nat.le_of_ble_eq_true rfl⟩ rfl (fun H locs hH hS => ?_)
            refine lv_if_eq (tgt := 82) hx hb dX8_ranks_57 (by decide) (fun c38 => ?_) (fun c38 => ?_)
            · have hk := ifp hk c38
              have hq := ifpe hq c38
              exact b_82 a1 a2 a3 a4 γ _ _ _ (lv_sub hl [0, 1, 2, 3, 4] rfl) hH hS hk hq
            · have hk := ifn hk c38
              have hq := ifne hq c38
              refine lv_aload_n hx hb dX8_ranks_60 rfl (lv_at hl 0 rfl) ?_
              refine hp_get (v := .ref (kA κ 38 0)) (C := RX8) (T := TX8) (N := 32) hC inX8 hH lv_8 rfl rfl 26 (by decide) tw_948 rfl rfl dX8_ranks_61 ?_
              refine lv_iload hx hb dX8_ranks_64 (lv_at hl 4 rfl) ?_
              refine lv_aload_n hx hb dX8_ranks_66 rfl (lv_at hl 0 rfl) ?_
              refine hp_get (v := .ref (kA κ 38 0)) (C := RX8) (T := TX8) (N := 32) hC inX8 hH lv_8 rfl rfl 26 (by decide) tw_948 rfl rfl dX8_ranks_67 ?_
              refine lv_iload hx hb dX8_ranks_70 (lv_at hl 4 rfl) ?_
              refine lv_iconst (v := 1) hx hb dX8_ranks_72 (by decide) ?_
              refine lv_isub hx hb dX8_ranks_73 ?_
              obtain ⟨hi39, hk⟩ := hk
              refine hp_ald (v := gV γ 38 0 ((a4 - 1 : Int32).toNatClampNeg)) hC hH lv_38 rfl hi39 rfl dX8_ranks_74 ?_
              obtain ⟨hi40, hk⟩ := hk
              refine hp_ast hC hH lv_38 (fun _ => rfl) hS hi40 dX8_ranks_75 (fun H locs hH hS => ?_)
              refine lv_iinc (v := a4 + (-1)) (lv' := [(4, .int (a4 + (-1))), (0, .ref (kA κ 8 0)), (1, .int a1), (2, .int a2), (3, .int a3)]) hx hb dX8_ranks_76 hl (k := 4) rfl rfl (by decide) rfl (fun ls hl => ?_)
              refine lv_goto (tgt := 37) hx hb dX8_ranks_79 (by decide) ?_
              exact ih_37 a1 a2 a3 (a4 + (-1)) (sV γ 38 0 ((a4 : Int32).toNatClampNeg) (gV γ 38 0 ((a4 - 1 : Int32).toNatClampNeg))) _ _ _ (lv_sub hl [1, 2, 3, 4, 0] rfl) hH hS hk hq
      intro a1 a2 a3 γ H locs ls hl hH hS hk hq
      refine lv_iload_n hx hb dX8_ranks_4 rfl (lv_at hl 3 rfl) ?_
      refine lv_aload_n hx hb dX8_ranks_5 rfl (lv_at hl 0 rfl) ?_
      refine hp_get (v := .int (gV γ 8 0 0)) (C := RX8) (T := TX8) (N := 32) hC inX8 hH lv_8 rfl rfl 0 (by decide) tw_922 rfl rfl dX8_ranks_6 ?_
      refine lv_icmp_ge (tgt := 99) hx hb dX8_ranks_9 (by decide) (fun c41 => ?_) (fun c41 => ?_)
      · have hk := ifp hk c41
        have hq := ifpe hq c41
        refine lv_iload_n hx hb dX8_ranks_99 rfl (lv_at hl 2 rfl) ?_
        subst hq
        exact kr_i hC hr hH hS rfl rfl dX8_ranks_100
      · have hk := ifn hk c41
        have hq := ifne hq c41
        refine lv_aload_n hx hb dX8_ranks_12 rfl (lv_at hl 0 rfl) ?_
        refine hp_get (v := .ref (kA κ 36 0)) (C := RX8) (T := TX8) (N := 32) hC inX8 hH lv_8 rfl rfl 24 (by decide) tw_946 rfl rfl dX8_ranks_13 ?_
        refine lv_iload_n hx hb dX8_ranks_16 rfl (lv_at hl 1 rfl) ?_
        obtain ⟨hi42, hk⟩ := hk
        refine hp_ald (v := gV γ 36 0 ((a1 : Int32).toNatClampNeg)) hC hH lv_36 rfl hi42 rfl dX8_ranks_17 ?_
        refine lv_aload_n hx hb dX8_ranks_18 rfl (lv_at hl 0 rfl) ?_
        refine hp_get (v := .ref (kA κ 37 0)) (C := RX8) (T := TX8) (N := 32) hC inX8 hH lv_8 rfl rfl 25 (by decide) tw_947 rfl rfl dX8_ranks_19 ?_
        refine lv_iload_n hx hb dX8_ranks_22 rfl (lv_at hl 1 rfl) ?_
        obtain ⟨hi43, hk⟩ := hk
        refine hp_ald (v := gV γ 37 0 ((a1 : Int32).toNatClampNeg)) hC hH lv_37 rfl hi43 rfl dX8_ranks_23 ?_
        refine lv_iconst (v := (-1)) hx hb dX8_ranks_24 (by decide) ?_
        refine lv_ixor hx hb dX8_ranks_25 ?_
        refine lv_iand hx hb dX8_ranks_26 ?_
        refine lv_iload_n hx hb dX8_ranks_27 rfl (lv_at hl 3 rfl) ?_
        refine k_callS (rest := []) hC hl hH hS (c_X8_has l κ γ ((gV γ 36 0 ((a1 : Int32).toNatClampNeg)) &&& ((gV γ 37 0 ((a1 : Int32).toNatClampNeg)) ^^^ ((-1)))) a3) tw_1043 tw_1044 tw_62 tw_1045 hd_X8_has ⟨Nat.le_of_ble_eq_true rfl, Nat.le_of_ble_eq_true rfl⟩ rfl rfl rfl rfl (Nat.le_of_ble_eq_true rfl) dX8_ranks_28 ⟨Nat.le_of_ble_eq_true rfl, Nat.le_of_ble_eq_true rfl⟩ rfl (fun H locs hH hS => ?_)
        refine lv_if_eq (tgt := 93) hx hb dX8_ranks_31 (by decide) (fun c44 => ?_) (fun c44 => ?_)
        · have hk := ifp hk c44
          have hq := ifpe hq c44
          exact b_93 a1 a2 a3 γ _ _ _ (lv_sub hl [0, 1, 2, 3] rfl) hH hS hk hq
        · have hk := ifn hk c44
          have hq := ifne hq c44
          refine lv_iload_n hx hb dX8_ranks_34 rfl (lv_at hl 2 rfl) ?_
          refine lv_istore (lv' := [(4, .int a2), (0, .ref (kA κ 8 0)), (1, .int a1), (2, .int a2), (3, .int a3)]) hx hb dX8_ranks_35 hl (by decide) rfl (fun ls hl => ?_)
          exact b_37 fu a1 a2 a3 a2 γ _ _ _ (lv_sub hl [1, 2, 3, 4, 0] rfl) hH hS hk hq
  refine lv_iconst (v := 0) hx hb dX8_ranks_0 (by decide) ?_
  refine lv_istore_n (lv' := [(2, .int 0), (0, .ref (kA κ 8 0)), (1, .int y1)]) hx hb dX8_ranks_1 rfl hl (by decide) rfl (fun ls hl => ?_)
  refine lv_iconst (v := 0) hx hb dX8_ranks_2 (by decide) ?_
  refine lv_istore_n (lv' := [(3, .int 0), (2, .int 0), (0, .ref (kA κ 8 0)), (1, .int y1)]) hx hb dX8_ranks_3 rfl hl (by decide) rfl (fun ls hl => ?_)
  exact b_4 fu y1 0 0 γ _ _ _ (lv_sub hl [2, 3, 1, 0] rfl) hH hS hk hq
set_option maxRecDepth 20000 in
set_option maxHeartbeats 4000000 in
theorem c_X8_orderAt (l : Launch) (κ : KP) (γ : St) (y0 : Int32) (y1 : Int32) (hk : ok_X8_orderAt y0 y1 γ) : Met l yX8_orderAt [Cond.code yX8_orderAt cX8_orderAt 5 (some .int)] ({ frames := 0, cells := 0, slots := 0, locals := 0 } : Room) (va_Pc [.int y0, .int y1] (GG κ γ)) (QQ κ γ (some (.int ((x_X8_orderAt y0 y1 γ))))) 0 0 (AA κ) := by
  generalize hq : x_X8_orderAt y0 y1 γ = res
  refine Met.ofW (cc := cX8_orderAt) (maxL := 5) (ret := (some .int)) (by decide) rfl ?_
  intro p e s m args below meth c s₁ B hml9 hv
  obtain ⟨rfl, hH, hK9, hB9, hX9, hZ9⟩ := hv
  have hC : CX κ cX8_orderAt "PhrasehallModel" 5 p l s m ([.int y0, .int y1] : List Value).toArray meth c := ⟨B.exec, B.bytes, findClass_of_methodNamed B.named, fun w hw => tw_use (List.mem_filter.mp hw).2 (State.WarmedH.refl s) (hX9.1 w hw), hK9, hX9, hZ9, hB9, hml9, B.notSynchronized⟩
  obtain ⟨hx, hb, hown, hT, -, -, -, -, hml, -⟩ := id hC
  have hr := B.returns
  have hS : va_S (AA κ) s.heap s.heap [] := va_S.rf
  have hl := lv_entry ([.int y0, .int y1]) (n := 5) (Nat.le_of_ble_eq_true rfl)
  rw [lg_entry_eq]
  generalize (lg_sl ([.int y0, .int y1]) ++ List.replicate (5 - (lg_sl ([.int y0, .int y1])).length) Slot.unset).toArray = ls at hl ⊢
  have hl : lv_has ls 5 [(0, .int y0), (1, .int y1)] := hl
  have b_7 : ∀ (k7 : Nat) (a0 : Int32) (a1 : Int32) (a2 : Int32) (a3 : Int32) (a4 : Int32) (H : Heap) (locs : List Loc) (ls : Array Slot), lv_has ls 5 [(0, .int a0), (1, .int a1), (2, .int a2), (3, .int a3), (4, .int a4)] → HR κ γ H → va_S (AA κ) s.heap H locs → ok_X8_orderAt_7 k7 a0 a1 a2 a3 a4 γ → x_X8_orderAt_7 k7 a0 a1 a2 a3 a4 γ = res → W p l e (headSpec [Cond.code yX8_orderAt cX8_orderAt 5 (some .int)] ({ frames := 0, cells := 0, slots := 0, locals := 0 } : Room)).room s m ([.int y0, .int y1] : List Value).toArray below meth c H locs 0 0 (MQ below (QQ κ γ (some (.int res))) ([.int y0, .int y1] : List Value).toArray s 0 0 (AA κ)) (F0 m 7 ls []) := by
    intro k7
    induction k7 with
    | zero =>
      intro a0 a1 a2 a3 a4 H locs ls hl hH hS hk hq
      exact (show False from hk).elim
    | succ k7 ih_7 =>
      have b_40 : ∀ (a0 : Int32) (a1 : Int32) (a3 : Int32) (a4 : Int32) (s0 : Int32) (H : Heap) (locs : List Loc) (ls : Array Slot), lv_has ls 5 [(0, .int a0), (1, .int a1), (3, .int a3), (4, .int a4)] → HR κ γ H → va_S (AA κ) s.heap H locs → ok_X8_orderAt_40 (ok_X8_orderAt_7 k7) a0 a1 a3 a4 s0 γ → x_X8_orderAt_40 (x_X8_orderAt_7 k7) a0 a1 a3 a4 s0 γ = res → W p l e (headSpec [Cond.code yX8_orderAt cX8_orderAt 5 (some .int)] ({ frames := 0, cells := 0, slots := 0, locals := 0 } : Room)).room s m ([.int y0, .int y1] : List Value).toArray below meth c H locs 0 0 (MQ below (QQ κ γ (some (.int res))) ([.int y0, .int y1] : List Value).toArray s 0 0 (AA κ)) (F0 m 40 ls [.int s0]) := by
        intro a0 a1 a3 a4 s0 H locs ls hl hH hS hk hq
        refine lv_istore_n (lv' := [(2, .int s0), (0, .int a0), (1, .int a1), (3, .int a3), (4, .int a4)]) hx hb dX8_orderAt_40 rfl hl (by decide) rfl (fun ls hl => ?_)
        refine lv_goto (tgt := 7) hx hb dX8_orderAt_41 (by decide) ?_
        exact ih_7 a0 a1 s0 a3 a4 _ _ _ (lv_sub hl [1, 2, 0, 3, 4] rfl) hH hS hk hq
      intro a0 a1 a2 a3 a4 H locs ls hl hH hS hk hq
      refine lv_iload_n hx hb dX8_orderAt_7 rfl (lv_at hl 3 rfl) ?_
      refine lv_iload_n hx hb dX8_orderAt_8 rfl (lv_at hl 0 rfl) ?_
      refine lv_icmp_ge (tgt := 44) hx hb dX8_orderAt_9 (by decide) (fun c10 => ?_) (fun c10 => ?_)
      · have hk := ifp hk c10
        have hq := ifpe hq c10
        refine lv_iload_n hx hb dX8_orderAt_44 rfl (lv_at hl 2 rfl) ?_
        subst hq
        exact kr_i hC hr hH hS rfl rfl dX8_orderAt_45
      · have hk := ifn hk c10
        have hq := ifne hq c10
        refine lv_iload_n hx hb dX8_orderAt_12 rfl (lv_at hl 3 rfl) ?_
        refine lv_iconst (v := 2) hx hb dX8_orderAt_13 (by decide) ?_
        refine lv_imul hx hb dX8_orderAt_14 ?_
        refine lv_istore_n (lv' := [(3, .int (a3 * 2)), (0, .int a0), (1, .int a1), (2, .int a2), (4, .int a4)]) hx hb dX8_orderAt_15 rfl hl (by decide) rfl (fun ls hl => ?_)
        refine lv_iload hx hb dX8_orderAt_16 (lv_at hl 4 rfl) ?_
        refine lv_iconst (v := 2) hx hb dX8_orderAt_18 (by decide) ?_
        refine lv_idiv hx hb dX8_orderAt_19 (by decide) ?_
        refine lv_istore (lv' := [(4, .int (a4 / 2)), (3, .int (a3 * 2)), (0, .int a0), (1, .int a1), (2, .int a2)]) hx hb dX8_orderAt_20 hl (by decide) rfl (fun ls hl => ?_)
        refine lv_iload_n hx hb dX8_orderAt_22 rfl (lv_at hl 3 rfl) ?_
        refine lv_iload hx hb dX8_orderAt_23 (lv_at hl 0 rfl) ?_
        obtain ⟨hn11, hk⟩ := hk
        refine lv_idiv hx hb dX8_orderAt_25 hn11 ?_
        refine lv_iconst (v := 2) hx hb dX8_orderAt_26 (by decide) ?_
        refine lv_irem hx hb dX8_orderAt_27 (by decide) ?_
        refine lv_if_ne (tgt := 35) hx hb dX8_orderAt_28 (by decide) (fun c12 => ?_) (fun c12 => ?_)
        · have hk := ifn hk c12
          have hq := ifne hq c12
          refine lv_iload_n hx hb dX8_orderAt_35 rfl (lv_at hl 1 rfl) ?_
          refine lv_iconst (v := 1) hx hb dX8_orderAt_36 (by decide) ?_
          refine lv_isub hx hb dX8_orderAt_37 ?_
          refine lv_iload_n hx hb dX8_orderAt_38 rfl (lv_at hl 4 rfl) ?_
          refine lv_isub hx hb dX8_orderAt_39 ?_
          exact b_40 a0 a1 (a3 * 2) (a4 / 2) (((a3 * 2) - 1) - a2) _ _ _ (lv_sub hl [2, 3, 1, 0] rfl) hH hS hk hq
        · have hk := ifp hk c12
          have hq := ifpe hq c12
          refine lv_iload_n hx hb dX8_orderAt_31 rfl (lv_at hl 4 rfl) ?_
          refine lv_goto (tgt := 40) hx hb dX8_orderAt_32 (by decide) ?_
          exact b_40 a0 a1 (a3 * 2) (a4 / 2) a2 _ _ _ (lv_sub hl [2, 3, 1, 0] rfl) hH hS hk hq
  refine lv_iconst (v := 0) hx hb dX8_orderAt_0 (by decide) ?_
  refine lv_istore_n (lv' := [(2, .int 0), (0, .int y0), (1, .int y1)]) hx hb dX8_orderAt_1 rfl hl (by decide) rfl (fun ls hl => ?_)
  refine lv_iconst (v := 1) hx hb dX8_orderAt_2 (by decide) ?_
  refine lv_istore_n (lv' := [(3, .int 1), (2, .int 0), (0, .int y0), (1, .int y1)]) hx hb dX8_orderAt_3 rfl hl (by decide) rfl (fun ls hl => ?_)
  refine lv_iload_n hx hb dX8_orderAt_4 rfl (lv_at hl 2 rfl) ?_
  refine lv_istore (lv' := [(4, .int y0), (3, .int 1), (2, .int 0), (0, .int y0), (1, .int y1)]) hx hb dX8_orderAt_5 hl (by decide) rfl (fun ls hl => ?_)
  exact b_7 fu y0 y1 0 1 y0 _ _ _ (lv_sub hl [3, 4, 2, 1, 0] rfl) hH hS hk hq
set_option maxRecDepth 20000 in
set_option maxHeartbeats 4000000 in
theorem c_X8_rounds (l : Launch) (κ : KP) (γ : St) (y0 : Int32)  : Met l yX8_rounds [Cond.code yX8_rounds cX8_rounds 1 (some .int)] ({ frames := 0, cells := 0, slots := 0, locals := 0 } : Room) (va_Pc [.int y0] (GG κ γ)) (QQ κ γ (some (.int ((x_X8_rounds y0 γ))))) 0 0 (AA κ) := by
  generalize hq : x_X8_rounds y0 γ = res
  refine Met.ofW (cc := cX8_rounds) (maxL := 1) (ret := (some .int)) (by decide) rfl ?_
  intro p e s m args below meth c s₁ B hml9 hv
  obtain ⟨rfl, hH, hK9, hB9, hX9, hZ9⟩ := hv
  have hC : CX κ cX8_rounds "PhrasehallModel" 1 p l s m ([.int y0] : List Value).toArray meth c := ⟨B.exec, B.bytes, findClass_of_methodNamed B.named, fun w hw => tw_use (List.mem_filter.mp hw).2 (State.WarmedH.refl s) (hX9.1 w hw), hK9, hX9, hZ9, hB9, hml9, B.notSynchronized⟩
  obtain ⟨hx, hb, hown, hT, -, -, -, -, hml, -⟩ := id hC
  have hr := B.returns
  have hS : va_S (AA κ) s.heap s.heap [] := va_S.rf
  have hl := lv_entry ([.int y0]) (n := 1) (Nat.le_of_ble_eq_true rfl)
  rw [lg_entry_eq]
  generalize (lg_sl ([.int y0]) ++ List.replicate (1 - (lg_sl ([.int y0])).length) Slot.unset).toArray = ls at hl ⊢
  have hl : lv_has ls 1 [(0, .int y0)] := hl
  refine lv_iload_n hx hb dX8_rounds_0 rfl (lv_at hl 0 rfl) ?_
  refine lv_bipush (v := 16) hx hb dX8_rounds_1 (by decide) ?_
  refine lv_icmp_ne (tgt := 10) hx hb dX8_rounds_3 (by decide) (fun c9 => ?_) (fun c9 => ?_)
  · have hq := ifne hq c9
    refine lv_iload_n hx hb dX8_rounds_10 rfl (lv_at hl 0 rfl) ?_
    refine lv_bipush (v := 8) hx hb dX8_rounds_11 (by decide) ?_
    refine lv_icmp_ne (tgt := 20) hx hb dX8_rounds_13 (by decide) (fun c10 => ?_) (fun c10 => ?_)
    · have hq := ifne hq c10
      refine lv_iload_n hx hb dX8_rounds_20 rfl (lv_at hl 0 rfl) ?_
      refine lv_iconst (v := 4) hx hb dX8_rounds_21 (by decide) ?_
      refine lv_icmp_ne (tgt := 29) hx hb dX8_rounds_22 (by decide) (fun c11 => ?_) (fun c11 => ?_)
      · have hq := ifne hq c11
        refine lv_iload_n hx hb dX8_rounds_29 rfl (lv_at hl 0 rfl) ?_
        refine lv_iconst (v := 2) hx hb dX8_rounds_30 (by decide) ?_
        refine lv_icmp_ne (tgt := 38) hx hb dX8_rounds_31 (by decide) (fun c12 => ?_) (fun c12 => ?_)
        · have hq := ifne hq c12
          refine lv_iconst (v := 0) hx hb dX8_rounds_38 (by decide) ?_
          subst hq
          exact kr_i hC hr hH hS rfl rfl dX8_rounds_39
        · have hq := ifpe hq c12
          refine lv_iconst (v := 1) hx hb dX8_rounds_34 (by decide) ?_
          refine lv_goto (tgt := 39) hx hb dX8_rounds_35 (by decide) ?_
          subst hq
          exact kr_i hC hr hH hS rfl rfl dX8_rounds_39
      · have hq := ifpe hq c11
        refine lv_iconst (v := 2) hx hb dX8_rounds_25 (by decide) ?_
        refine lv_goto (tgt := 39) hx hb dX8_rounds_26 (by decide) ?_
        subst hq
        exact kr_i hC hr hH hS rfl rfl dX8_rounds_39
    · have hq := ifpe hq c10
      refine lv_iconst (v := 3) hx hb dX8_rounds_16 (by decide) ?_
      refine lv_goto (tgt := 39) hx hb dX8_rounds_17 (by decide) ?_
      subst hq
      exact kr_i hC hr hH hS rfl rfl dX8_rounds_39
  · have hq := ifpe hq c9
    refine lv_iconst (v := 4) hx hb dX8_rounds_6 (by decide) ?_
    refine lv_goto (tgt := 39) hx hb dX8_rounds_7 (by decide) ?_
    subst hq
    exact kr_i hC hr hH hS rfl rfl dX8_rounds_39
set_option maxRecDepth 20000 in
set_option maxHeartbeats 4000000 in
theorem c_X8_isWon (l : Launch) (κ : KP) (γ : St) (y1 : Int32) (y2 : Int32) (y3 : Int32) (hk : ok_X8_isWon y1 y2 y3 γ) : Met l yX8_isWon [Cond.code yX8_isWon cX8_isWon 4 none] ({ frames := 1, cells := 0, slots := 0, locals := 20 } : Room) (va_Pc [.ref (kA κ 8 0), .int y1, .int y2, .int y3] (GG κ γ)) (QQ κ ((x_X8_isWon y1 y2 y3 γ)) none) 0 0 (AA κ) := by
  generalize hq : x_X8_isWon y1 y2 y3 γ = res
  refine Met.ofW (cc := cX8_isWon) (maxL := 4) (ret := none) (by decide) rfl ?_
  intro p e s m args below meth c s₁ B hml9 hv
  obtain ⟨rfl, hH, hK9, hB9, hX9, hZ9⟩ := hv
  have hC : CX κ cX8_isWon "PhrasehallModel" 4 p l s m ([.ref (kA κ 8 0), .int y1, .int y2, .int y3] : List Value).toArray meth c := ⟨B.exec, B.bytes, findClass_of_methodNamed B.named, fun w hw => tw_use (List.mem_filter.mp hw).2 (State.WarmedH.refl s) (hX9.1 w hw), hK9, hX9, hZ9, hB9, hml9, B.notSynchronized⟩
  obtain ⟨hx, hb, hown, hT, -, -, -, -, hml, -⟩ := id hC
  have hr := B.returns
  have hS : va_S (AA κ) s.heap s.heap [] := va_S.rf
  have hl := lv_entry ([.ref (kA κ 8 0), .int y1, .int y2, .int y3]) (n := 4) (Nat.le_of_ble_eq_true rfl)
  rw [lg_entry_eq]
  generalize (lg_sl ([.ref (kA κ 8 0), .int y1, .int y2, .int y3]) ++ List.replicate (4 - (lg_sl ([.ref (kA κ 8 0), .int y1, .int y2, .int y3])).length) Slot.unset).toArray = ls at hl ⊢
  have hl : lv_has ls 4 [(0, .ref (kA κ 8 0)), (1, .int y1), (2, .int y2), (3, .int y3)] := hl
  refine lv_aload_n hx hb dX8_isWon_0 rfl (lv_at hl 0 rfl) ?_
  refine hp_get (v := .ref (kA κ 40 0)) (C := RX8) (T := TX8) (N := 32) hC inX8 hH lv_8 rfl rfl 29 (by decide) tw_951 rfl rfl dX8_isWon_1 ?_
  refine lv_bipush (v := 16) hx hb dX8_isWon_4 (by decide) ?_
  refine lv_iload_n hx hb dX8_isWon_6 rfl (lv_at hl 1 rfl) ?_
  refine lv_imul hx hb dX8_isWon_7 ?_
  refine lv_iload_n hx hb dX8_isWon_8 rfl (lv_at hl 2 rfl) ?_
  refine lv_iadd hx hb dX8_isWon_9 ?_
  refine lv_iload_n hx hb dX8_isWon_10 rfl (lv_at hl 3 rfl) ?_
  obtain ⟨hi7, hk⟩ := hk
  refine hp_ast hC hH lv_40 (fun _ => rfl) hS hi7 dX8_isWon_11 (fun H locs hH hS => ?_)
  refine lv_iload_n hx hb dX8_isWon_12 rfl (lv_at hl 1 rfl) ?_
  refine lv_iconst (v := 1) hx hb dX8_isWon_13 (by decide) ?_
  refine lv_iadd hx hb dX8_isWon_14 ?_
  refine lv_aload_n hx hb dX8_isWon_15 rfl (lv_at hl 0 rfl) ?_
  refine hp_get (v := .int (gV γ 8 0 27)) (C := RX8) (T := TX8) (N := 32) hC inX8 hH lv_8 rfl rfl 27 (by decide) tw_949 rfl rfl dX8_isWon_16 ?_
  refine k_callS (rest := [.int (y1 + 1)]) hC hl hH hS (c_X8_rounds l κ (sV γ 40 0 (((16 * y1) + y2 : Int32).toNatClampNeg) y3) (gV γ 8 0 27)) tw_1170 tw_1171 tw_62 tw_1172 hd_X8_rounds ⟨Nat.le_of_ble_eq_true rfl, Nat.le_of_ble_eq_true rfl⟩ rfl rfl rfl rfl (Nat.le_of_ble_eq_true rfl) dX8_isWon_19 ⟨Nat.le_of_ble_eq_true rfl, Nat.le_of_ble_eq_true rfl⟩ rfl (fun H locs hH hS => ?_)
  refine lv_icmp_ge (tgt := 39) hx hb dX8_isWon_22 (by decide) (fun c8 => ?_) (fun c8 => ?_)
  · have hk := ifp hk c8
    have hq := ifpe hq c8
    subst hq
    exact kr_v hC hr hH hS rfl dX8_isWon_39
  · have hk := ifn hk c8
    have hq := ifne hq c8
    refine lv_aload_n hx hb dX8_isWon_25 rfl (lv_at hl 0 rfl) ?_
    refine hp_get (v := .ref (kA κ 39 0)) (C := RX8) (T := TX8) (N := 32) hC inX8 hH lv_8 rfl rfl 28 (by decide) tw_950 rfl rfl dX8_isWon_26 ?_
    refine lv_bipush (v := 32) hx hb dX8_isWon_29 (by decide) ?_
    refine lv_iload_n hx hb dX8_isWon_31 rfl (lv_at hl 1 rfl) ?_
    refine lv_iconst (v := 1) hx hb dX8_isWon_32 (by decide) ?_
    refine lv_iadd hx hb dX8_isWon_33 ?_
    refine lv_imul hx hb dX8_isWon_34 ?_
    refine lv_iload_n hx hb dX8_isWon_35 rfl (lv_at hl 2 rfl) ?_
    refine lv_iadd hx hb dX8_isWon_36 ?_
    refine lv_iload_n hx hb dX8_isWon_37 rfl (lv_at hl 3 rfl) ?_
    obtain ⟨hi9, hk⟩ := hk
    refine hp_ast hC hH lv_39 (fun _ => rfl) hS hi9 dX8_isWon_38 (fun H locs hH hS => ?_)
    subst hq
    exact kr_v hC hr hH hS rfl dX8_isWon_39
set_option maxRecDepth 20000 in
set_option maxHeartbeats 4000000 in
theorem c_X8_tableau (l : Launch) (κ : KP) (γ : St) (y1 : Int32) (hk : ok_X8_tableau y1 γ) : Met l yX8_tableau [Cond.code yX8_tableau cX8_tableau 5 (some .int)] ({ frames := 5, cells := 0, slots := 0, locals := 126 } : Room) (va_Pc [.ref (kA κ 8 0), .int y1] (GG κ γ)) (QQ κ (((x_X8_tableau y1 γ)).2) (some (.int (((x_X8_tableau y1 γ)).1)))) 0 0 (AA κ) := by
  generalize hq : x_X8_tableau y1 γ = res
  refine Met.ofW (cc := cX8_tableau) (maxL := 5) (ret := (some .int)) (by decide) rfl ?_
  intro p e s m args below meth c s₁ B hml9 hv
  obtain ⟨rfl, hH, hK9, hB9, hX9, hZ9⟩ := hv
  have hC : CX κ cX8_tableau "PhrasehallModel" 5 p l s m ([.ref (kA κ 8 0), .int y1] : List Value).toArray meth c := ⟨B.exec, B.bytes, findClass_of_methodNamed B.named, fun w hw => tw_use (List.mem_filter.mp hw).2 (State.WarmedH.refl s) (hX9.1 w hw), hK9, hX9, hZ9, hB9, hml9, B.notSynchronized⟩
  obtain ⟨hx, hb, hown, hT, -, -, -, -, hml, -⟩ := id hC
  have hr := B.returns
  have hS : va_S (AA κ) s.heap s.heap [] := va_S.rf
  have hl := lv_entry ([.ref (kA κ 8 0), .int y1]) (n := 5) (Nat.le_of_ble_eq_true rfl)
  rw [lg_entry_eq]
  generalize (lg_sl ([.ref (kA κ 8 0), .int y1]) ++ List.replicate (5 - (lg_sl ([.ref (kA κ 8 0), .int y1])).length) Slot.unset).toArray = ls at hl ⊢
  have hl : lv_has ls 5 [(0, .ref (kA κ 8 0)), (1, .int y1)] := hl
  have b_175 : ∀ (k175 : Nat) (a3 : Int32) (γ : St) (H : Heap) (locs : List Loc) (ls : Array Slot), lv_has ls 5 [(0, .ref (kA κ 8 0)), (3, .int a3)] → HR κ γ H → va_S (AA κ) s.heap H locs → ok_X8_tableau_175 k175 a3 γ → x_X8_tableau_175 k175 a3 γ = res → W p l e (headSpec [Cond.code yX8_tableau cX8_tableau 5 (some .int)] ({ frames := 5, cells := 0, slots := 0, locals := 126 } : Room)).room s m ([.ref (kA κ 8 0), .int y1] : List Value).toArray below meth c H locs 0 0 (MQ below (QQ κ (res.2) (some (.int res.1))) ([.ref (kA κ 8 0), .int y1] : List Value).toArray s 0 0 (AA κ)) (F0 m 175 ls []) := by
    intro k175
    induction k175 with
    | zero =>
      intro a3 γ H locs ls hl hH hS hk hq
      exact (show False from hk).elim
    | succ k175 ih_175 =>
      have b_250 : ∀ (a3 : Int32) (γ : St) (H : Heap) (locs : List Loc) (ls : Array Slot), lv_has ls 5 [(0, .ref (kA κ 8 0)), (3, .int a3)] → HR κ γ H → va_S (AA κ) s.heap H locs → ok_X8_tableau_250 (ok_X8_tableau_175 k175) a3 γ → x_X8_tableau_250 (x_X8_tableau_175 k175) a3 γ = res → W p l e (headSpec [Cond.code yX8_tableau cX8_tableau 5 (some .int)] ({ frames := 5, cells := 0, slots := 0, locals := 126 } : Room)).room s m ([.ref (kA κ 8 0), .int y1] : List Value).toArray below meth c H locs 0 0 (MQ below (QQ κ (res.2) (some (.int res.1))) ([.ref (kA κ 8 0), .int y1] : List Value).toArray s 0 0 (AA κ)) (F0 m 250 ls []) := by
        intro a3 γ H locs ls hl hH hS hk hq
        refine lv_iinc (v := a3 + 1) (lv' := [(3, .int (a3 + 1)), (0, .ref (kA κ 8 0))]) hx hb dX8_tableau_250 hl (k := 1) rfl rfl (by decide) rfl (fun ls hl => ?_)
        refine lv_goto (tgt := 175) hx hb dX8_tableau_253 (by decide) ?_
        exact ih_175 (a3 + 1) γ _ _ _ (lv_sub hl [1, 0] rfl) hH hS hk hq
      have b_247 : ∀ (a3 : Int32) (s0 : Int32) (s1 : Int32) (s2 : Int32) (γ : St) (H : Heap) (locs : List Loc) (ls : Array Slot), lv_has ls 5 [(0, .ref (kA κ 8 0)), (3, .int a3)] → HR κ γ H → va_S (AA κ) s.heap H locs → ok_X8_tableau_247 (ok_X8_tableau_175 k175) a3 s0 s1 s2 γ → x_X8_tableau_247 (x_X8_tableau_175 k175) a3 s0 s1 s2 γ = res → W p l e (headSpec [Cond.code yX8_tableau cX8_tableau 5 (some .int)] ({ frames := 5, cells := 0, slots := 0, locals := 126 } : Room)).room s m ([.ref (kA κ 8 0), .int y1] : List Value).toArray below meth c H locs 0 0 (MQ below (QQ κ (res.2) (some (.int res.1))) ([.ref (kA κ 8 0), .int y1] : List Value).toArray s 0 0 (AA κ)) (F0 m 247 ls [.int s0, .int s1, .int s2, .ref (kA κ 8 0)]) := by
        intro a3 s0 s1 s2 γ H locs ls hl hH hS hk hq
        obtain ⟨hc76, hk⟩ := hk
        refine k_callV (C := RX8) (T := TX8) (N := 32) (rest := []) hC hl hH hS (c_X8_isWon l κ γ s2 s1 s0 hc76) lv_8 rfl rfl tw_1166 tw_1168 tw_53 tw_62 tw_1169 hd_X8_isWon ⟨Nat.le_of_ble_eq_true rfl, Nat.le_of_ble_eq_true rfl⟩ rfl rfl rfl rfl (Nat.le_of_ble_eq_true rfl) dX8_tableau_247 ⟨Nat.le_of_ble_eq_true rfl, Nat.le_of_ble_eq_true rfl⟩ rfl (fun H locs hH hS => ?_)
        exact b_250 a3 (x_X8_isWon s2 s1 s0 γ) _ _ _ (lv_sub hl [0, 1] rfl) hH hS hk hq
      have b_211 : ∀ (a3 : Int32) (γ : St) (H : Heap) (locs : List Loc) (ls : Array Slot), lv_has ls 5 [(0, .ref (kA κ 8 0)), (3, .int a3)] → HR κ γ H → va_S (AA κ) s.heap H locs → ok_X8_tableau_211 (ok_X8_tableau_175 k175) a3 γ → x_X8_tableau_211 (x_X8_tableau_175 k175) a3 γ = res → W p l e (headSpec [Cond.code yX8_tableau cX8_tableau 5 (some .int)] ({ frames := 5, cells := 0, slots := 0, locals := 126 } : Room)).room s m ([.ref (kA κ 8 0), .int y1] : List Value).toArray below meth c H locs 0 0 (MQ below (QQ κ (res.2) (some (.int res.1))) ([.ref (kA κ 8 0), .int y1] : List Value).toArray s 0 0 (AA κ)) (F0 m 211 ls []) := by
        intro a3 γ H locs ls hl hH hS hk hq
        refine lv_aload_n hx hb dX8_tableau_211 rfl (lv_at hl 0 rfl) ?_
        refine lv_iconst (v := 0) hx hb dX8_tableau_212 (by decide) ?_
        refine lv_iload_n hx hb dX8_tableau_213 rfl (lv_at hl 1 rfl) ?_
        refine lv_aload_n hx hb dX8_tableau_214 rfl (lv_at hl 0 rfl) ?_
        refine hp_get (v := .ref (kA κ 39 0)) (C := RX8) (T := TX8) (N := 32) hC inX8 hH lv_8 rfl rfl 28 (by decide) tw_950 rfl rfl dX8_tableau_215 ?_
        refine lv_iconst (v := 2) hx hb dX8_tableau_218 (by decide) ?_
        refine lv_iload_n hx hb dX8_tableau_219 rfl (lv_at hl 1 rfl) ?_
        refine lv_imul hx hb dX8_tableau_220 ?_
        obtain ⟨hi77, hk⟩ := hk
        refine hp_ald (v := gV γ 39 0 ((2 * a3 : Int32).toNatClampNeg)) hC hH lv_39 rfl hi77 rfl dX8_tableau_221 ?_
        refine lv_iconst (v := (-1)) hx hb dX8_tableau_222 (by decide) ?_
        refine lv_icmp_ne (tgt := 239) hx hb dX8_tableau_223 (by decide) (fun c78 => ?_) (fun c78 => ?_)
        · have hk := ifn hk c78
          have hq := ifne hq c78
          refine lv_aload_n hx hb dX8_tableau_239 rfl (lv_at hl 0 rfl) ?_
          refine hp_get (v := .ref (kA κ 39 0)) (C := RX8) (T := TX8) (N := 32) hC inX8 hH lv_8 rfl rfl 28 (by decide) tw_950 rfl rfl dX8_tableau_240 ?_
          refine lv_iconst (v := 2) hx hb dX8_tableau_243 (by decide) ?_
          refine lv_iload_n hx hb dX8_tableau_244 rfl (lv_at hl 1 rfl) ?_
          refine lv_imul hx hb dX8_tableau_245 ?_
          obtain ⟨hi79, hk⟩ := hk
          refine hp_ald (v := gV γ 39 0 ((2 * a3 : Int32).toNatClampNeg)) hC hH lv_39 rfl hi79 rfl dX8_tableau_246 ?_
          exact b_247 a3 (gV γ 39 0 ((2 * a3 : Int32).toNatClampNeg)) a3 0 γ _ _ _ (lv_sub hl [0, 1] rfl) hH hS hk hq
        · have hk := ifp hk c78
          have hq := ifpe hq c78
          refine lv_aload_n hx hb dX8_tableau_226 rfl (lv_at hl 0 rfl) ?_
          refine hp_get (v := .ref (kA κ 39 0)) (C := RX8) (T := TX8) (N := 32) hC inX8 hH lv_8 rfl rfl 28 (by decide) tw_950 rfl rfl dX8_tableau_227 ?_
          refine lv_iconst (v := 2) hx hb dX8_tableau_230 (by decide) ?_
          refine lv_iload_n hx hb dX8_tableau_231 rfl (lv_at hl 1 rfl) ?_
          refine lv_imul hx hb dX8_tableau_232 ?_
          refine lv_iconst (v := 1) hx hb dX8_tableau_233 (by decide) ?_
          refine lv_iadd hx hb dX8_tableau_234 ?_
          obtain ⟨hi80, hk⟩ := hk
          refine hp_ald (v := gV γ 39 0 (((2 * a3) + 1 : Int32).toNatClampNeg)) hC hH lv_39 rfl hi80 rfl dX8_tableau_235 ?_
          refine lv_goto (tgt := 247) hx hb dX8_tableau_236 (by decide) ?_
          exact b_247 a3 (gV γ 39 0 (((2 * a3) + 1 : Int32).toNatClampNeg)) a3 0 γ _ _ _ (lv_sub hl [0, 1] rfl) hH hS hk hq
      intro a3 γ H locs ls hl hH hS hk hq
      refine lv_iload_n hx hb dX8_tableau_175 rfl (lv_at hl 1 rfl) ?_
      refine lv_aload_n hx hb dX8_tableau_176 rfl (lv_at hl 0 rfl) ?_
      refine hp_get (v := .int (gV γ 8 0 27)) (C := RX8) (T := TX8) (N := 32) hC inX8 hH lv_8 rfl rfl 27 (by decide) tw_949 rfl rfl dX8_tableau_177 ?_
      refine lv_iconst (v := 2) hx hb dX8_tableau_180 (by decide) ?_
      refine lv_idiv hx hb dX8_tableau_181 (by decide) ?_
      refine lv_icmp_ge (tgt := 256) hx hb dX8_tableau_182 (by decide) (fun c81 => ?_) (fun c81 => ?_)
      · have hk := ifp hk c81
        have hq := ifpe hq c81
        refine lv_aload_n hx hb dX8_tableau_256 rfl (lv_at hl 0 rfl) ?_
        refine hp_get (v := .int (gV γ 8 0 27)) (C := RX8) (T := TX8) (N := 32) hC inX8 hH lv_8 rfl rfl 27 (by decide) tw_949 rfl rfl dX8_tableau_257 ?_
        subst hq
        exact kr_i hC hr hH hS rfl rfl dX8_tableau_260
      · have hk := ifn hk c81
        have hq := ifne hq c81
        refine lv_aload_n hx hb dX8_tableau_185 rfl (lv_at hl 0 rfl) ?_
        refine hp_get (v := .ref (kA κ 39 0)) (C := RX8) (T := TX8) (N := 32) hC inX8 hH lv_8 rfl rfl 28 (by decide) tw_950 rfl rfl dX8_tableau_186 ?_
        refine lv_iconst (v := 2) hx hb dX8_tableau_189 (by decide) ?_
        refine lv_iload_n hx hb dX8_tableau_190 rfl (lv_at hl 1 rfl) ?_
        refine lv_imul hx hb dX8_tableau_191 ?_
        obtain ⟨hi82, hk⟩ := hk
        refine hp_ald (v := gV γ 39 0 ((2 * a3 : Int32).toNatClampNeg)) hC hH lv_39 rfl hi82 rfl dX8_tableau_192 ?_
        refine lv_iconst (v := (-1)) hx hb dX8_tableau_193 (by decide) ?_
        refine lv_icmp_eq (tgt := 211) hx hb dX8_tableau_194 (by decide) (fun c83 => ?_) (fun c83 => ?_)
        · have hk := ifp hk c83
          have hq := ifpe hq c83
          exact b_211 a3 γ _ _ _ (lv_sub hl [0, 1] rfl) hH hS hk hq
        · have hk := ifn hk c83
          have hq := ifne hq c83
          refine lv_aload_n hx hb dX8_tableau_197 rfl (lv_at hl 0 rfl) ?_
          refine hp_get (v := .ref (kA κ 39 0)) (C := RX8) (T := TX8) (N := 32) hC inX8 hH lv_8 rfl rfl 28 (by decide) tw_950 rfl rfl dX8_tableau_198 ?_
          refine lv_iconst (v := 2) hx hb dX8_tableau_201 (by decide) ?_
          refine lv_iload_n hx hb dX8_tableau_202 rfl (lv_at hl 1 rfl) ?_
          refine lv_imul hx hb dX8_tableau_203 ?_
          refine lv_iconst (v := 1) hx hb dX8_tableau_204 (by decide) ?_
          refine lv_iadd hx hb dX8_tableau_205 ?_
          obtain ⟨hi84, hk⟩ := hk
          refine hp_ald (v := gV γ 39 0 (((2 * a3) + 1 : Int32).toNatClampNeg)) hC hH lv_39 rfl hi84 rfl dX8_tableau_206 ?_
          refine lv_iconst (v := (-1)) hx hb dX8_tableau_207 (by decide) ?_
          refine lv_icmp_ne (tgt := 250) hx hb dX8_tableau_208 (by decide) (fun c85 => ?_) (fun c85 => ?_)
          · have hk := ifn hk c85
            have hq := ifne hq c85
            exact b_250 a3 γ _ _ _ (lv_sub hl [0, 1] rfl) hH hS hk hq
          · have hk := ifp hk c85
            have hq := ifpe hq c85
            exact b_211 a3 γ _ _ _ (lv_sub hl [0, 1] rfl) hH hS hk hq
  have b_126 : ∀ (k126 : Nat) (a2 : Int32) (a3 : Int32) (γ : St) (H : Heap) (locs : List Loc) (ls : Array Slot), lv_has ls 5 [(0, .ref (kA κ 8 0)), (2, .int a2), (3, .int a3)] → HR κ γ H → va_S (AA κ) s.heap H locs → ok_X8_tableau_126 k126 a2 a3 γ → x_X8_tableau_126 k126 a2 a3 γ = res → W p l e (headSpec [Cond.code yX8_tableau cX8_tableau 5 (some .int)] ({ frames := 5, cells := 0, slots := 0, locals := 126 } : Room)).room s m ([.ref (kA κ 8 0), .int y1] : List Value).toArray below meth c H locs 0 0 (MQ below (QQ κ (res.2) (some (.int res.1))) ([.ref (kA κ 8 0), .int y1] : List Value).toArray s 0 0 (AA κ)) (F0 m 126 ls []) := by
    intro k126
    induction k126 with
    | zero =>
      intro a2 a3 γ H locs ls hl hH hS hk hq
      exact (show False from hk).elim
    | succ k126 ih_126 =>
      have b_166 : ∀ (a2 : Int32) (a3 : Int32) (s0 : Int32) (s1 : Int32) (γ : St) (H : Heap) (locs : List Loc) (ls : Array Slot), lv_has ls 5 [(0, .ref (kA κ 8 0)), (2, .int a2), (3, .int a3)] → HR κ γ H → va_S (AA κ) s.heap H locs → ok_X8_tableau_166 (ok_X8_tableau_126 k126) a2 a3 s0 s1 γ → x_X8_tableau_166 (x_X8_tableau_126 k126) a2 a3 s0 s1 γ = res → W p l e (headSpec [Cond.code yX8_tableau cX8_tableau 5 (some .int)] ({ frames := 5, cells := 0, slots := 0, locals := 126 } : Room)).room s m ([.ref (kA κ 8 0), .int y1] : List Value).toArray below meth c H locs 0 0 (MQ below (QQ κ (res.2) (some (.int res.1))) ([.ref (kA κ 8 0), .int y1] : List Value).toArray s 0 0 (AA κ)) (F0 m 166 ls [.int s0, .int s1, .ref (kA κ 39 0)]) := by
        intro a2 a3 s0 s1 γ H locs ls hl hH hS hk hq
        obtain ⟨hi86, hk⟩ := hk
        refine hp_ast hC hH lv_39 (fun _ => rfl) hS hi86 dX8_tableau_166 (fun H locs hH hS => ?_)
        refine lv_iinc (v := a3 + 1) (lv' := [(3, .int (a3 + 1)), (0, .ref (kA κ 8 0)), (2, .int a2)]) hx hb dX8_tableau_167 hl (k := 2) rfl rfl (by decide) rfl (fun ls hl => ?_)
        refine lv_goto (tgt := 126) hx hb dX8_tableau_170 (by decide) ?_
        exact ih_126 a2 (a3 + 1) (sV γ 39 0 ((s1 : Int32).toNatClampNeg) s0) _ _ _ (lv_sub hl [1, 2, 0] rfl) hH hS hk hq
      intro a2 a3 γ H locs ls hl hH hS hk hq
      refine lv_iload_n hx hb dX8_tableau_126 rfl (lv_at hl 2 rfl) ?_
      refine lv_aload_n hx hb dX8_tableau_127 rfl (lv_at hl 0 rfl) ?_
      refine hp_get (v := .int (gV γ 8 0 27)) (C := RX8) (T := TX8) (N := 32) hC inX8 hH lv_8 rfl rfl 27 (by decide) tw_949 rfl rfl dX8_tableau_128 ?_
      refine lv_icmp_ge (tgt := 173) hx hb dX8_tableau_131 (by decide) (fun c87 => ?_) (fun c87 => ?_)
      · have hk := ifp hk c87
        have hq := ifpe hq c87
        refine lv_iconst (v := 0) hx hb dX8_tableau_173 (by decide) ?_
        refine lv_istore_n (lv' := [(3, .int 0), (0, .ref (kA κ 8 0)), (2, .int a2)]) hx hb dX8_tableau_174 rfl hl (by decide) rfl (fun ls hl => ?_)
        exact b_175 fu 0 γ _ _ _ (lv_sub hl [1, 0] rfl) hH hS hk hq
      · have hk := ifn hk c87
        have hq := ifne hq c87
        refine lv_aload_n hx hb dX8_tableau_134 rfl (lv_at hl 0 rfl) ?_
        refine hp_get (v := .int (gV γ 8 0 27)) (C := RX8) (T := TX8) (N := 32) hC inX8 hH lv_8 rfl rfl 27 (by decide) tw_949 rfl rfl dX8_tableau_135 ?_
        refine lv_iload_n hx hb dX8_tableau_138 rfl (lv_at hl 2 rfl) ?_
        obtain ⟨hc88, hk⟩ := hk
        refine k_callS (rest := []) hC hl hH hS (c_X8_orderAt l κ γ (gV γ 8 0 27) a3 hc88) tw_1163 tw_1164 tw_62 tw_1165 hd_X8_orderAt ⟨Nat.le_of_ble_eq_true rfl, Nat.le_of_ble_eq_true rfl⟩ rfl rfl rfl rfl (Nat.le_of_ble_eq_true rfl) dX8_tableau_139 ⟨Nat.le_of_ble_eq_true rfl, Nat.le_of_ble_eq_true rfl⟩ rfl (fun H locs hH hS => ?_)
        refine lv_istore (lv' := [(4, .int ((x_X8_orderAt (gV γ 8 0 27) a3 γ))), (0, .ref (kA κ 8 0)), (2, .int a2), (3, .int a3)]) hx hb dX8_tableau_142 hl (by decide) rfl (fun ls hl => ?_)
        refine lv_aload_n hx hb dX8_tableau_144 rfl (lv_at hl 1 rfl) ?_
        refine hp_get (v := .ref (kA κ 39 0)) (C := RX8) (T := TX8) (N := 32) hC inX8 hH lv_8 rfl rfl 28 (by decide) tw_950 rfl rfl dX8_tableau_145 ?_
        refine lv_iload_n hx hb dX8_tableau_148 rfl (lv_at hl 3 rfl) ?_
        refine lv_iload hx hb dX8_tableau_149 (lv_at hl 0 rfl) ?_
        refine lv_iload_n hx hb dX8_tableau_151 rfl (lv_at hl 2 rfl) ?_
        refine lv_icmp_ge (tgt := 165) hx hb dX8_tableau_152 (by decide) (fun c89 => ?_) (fun c89 => ?_)
        · have hk := ifp hk c89
          have hq := ifpe hq c89
          refine lv_iconst (v := (-1)) hx hb dX8_tableau_165 (by decide) ?_
          exact b_166 a2 a3 ((-1)) a3 γ _ _ _ (lv_sub hl [1, 2, 3] rfl) hH hS hk hq
        · have hk := ifn hk c89
          have hq := ifne hq c89
          refine lv_aload_n hx hb dX8_tableau_155 rfl (lv_at hl 1 rfl) ?_
          refine hp_get (v := .ref (kA κ 38 0)) (C := RX8) (T := TX8) (N := 32) hC inX8 hH lv_8 rfl rfl 26 (by decide) tw_948 rfl rfl dX8_tableau_156 ?_
          refine lv_iload hx hb dX8_tableau_159 (lv_at hl 0 rfl) ?_
          obtain ⟨hi90, hk⟩ := hk
          refine hp_ald (v := gV γ 38 0 (((x_X8_orderAt (gV γ 8 0 27) a3 γ) : Int32).toNatClampNeg)) hC hH lv_38 rfl hi90 rfl dX8_tableau_161 ?_
          refine lv_goto (tgt := 166) hx hb dX8_tableau_162 (by decide) ?_
          exact b_166 a2 a3 (gV γ 38 0 (((x_X8_orderAt (gV γ 8 0 27) a3 γ) : Int32).toNatClampNeg)) a3 γ _ _ _ (lv_sub hl [1, 2, 3] rfl) hH hS hk hq
  have b_105 : ∀ (k105 : Nat) (a2 : Int32) (a3 : Int32) (γ : St) (H : Heap) (locs : List Loc) (ls : Array Slot), lv_has ls 5 [(0, .ref (kA κ 8 0)), (2, .int a2), (3, .int a3)] → HR κ γ H → va_S (AA κ) s.heap H locs → ok_X8_tableau_105 k105 a2 a3 γ → x_X8_tableau_105 k105 a2 a3 γ = res → W p l e (headSpec [Cond.code yX8_tableau cX8_tableau 5 (some .int)] ({ frames := 5, cells := 0, slots := 0, locals := 126 } : Room)).room s m ([.ref (kA κ 8 0), .int y1] : List Value).toArray below meth c H locs 0 0 (MQ below (QQ κ (res.2) (some (.int res.1))) ([.ref (kA κ 8 0), .int y1] : List Value).toArray s 0 0 (AA κ)) (F0 m 105 ls []) := by
    intro k105
    induction k105 with
    | zero =>
      intro a2 a3 γ H locs ls hl hH hS hk hq
      exact (show False from hk).elim
    | succ k105 ih_105 =>
      intro a2 a3 γ H locs ls hl hH hS hk hq
      refine lv_iload_n hx hb dX8_tableau_105 rfl (lv_at hl 2 rfl) ?_
      refine lv_bipush (v := 64) hx hb dX8_tableau_106 (by decide) ?_
      refine lv_icmp_ge (tgt := 124) hx hb dX8_tableau_108 (by decide) (fun c91 => ?_) (fun c91 => ?_)
      · have hk := ifp hk c91
        have hq := ifpe hq c91
        refine lv_iconst (v := 0) hx hb dX8_tableau_124 (by decide) ?_
        refine lv_istore_n (lv' := [(3, .int 0), (0, .ref (kA κ 8 0)), (2, .int a2)]) hx hb dX8_tableau_125 rfl hl (by decide) rfl (fun ls hl => ?_)
        exact b_126 fu a2 0 γ _ _ _ (lv_sub hl [1, 2, 0] rfl) hH hS hk hq
      · have hk := ifn hk c91
        have hq := ifne hq c91
        refine lv_aload_n hx hb dX8_tableau_111 rfl (lv_at hl 0 rfl) ?_
        refine hp_get (v := .ref (kA κ 40 0)) (C := RX8) (T := TX8) (N := 32) hC inX8 hH lv_8 rfl rfl 29 (by decide) tw_951 rfl rfl dX8_tableau_112 ?_
        refine lv_iload_n hx hb dX8_tableau_115 rfl (lv_at hl 2 rfl) ?_
        refine lv_iconst (v := (-1)) hx hb dX8_tableau_116 (by decide) ?_
        obtain ⟨hi92, hk⟩ := hk
        refine hp_ast hC hH lv_40 (fun _ => rfl) hS hi92 dX8_tableau_117 (fun H locs hH hS => ?_)
        refine lv_iinc (v := a3 + 1) (lv' := [(3, .int (a3 + 1)), (0, .ref (kA κ 8 0)), (2, .int a2)]) hx hb dX8_tableau_118 hl (k := 2) rfl rfl (by decide) rfl (fun ls hl => ?_)
        refine lv_goto (tgt := 105) hx hb dX8_tableau_121 (by decide) ?_
        exact ih_105 a2 (a3 + 1) (sV γ 40 0 ((a3 : Int32).toNatClampNeg) ((-1))) _ _ _ (lv_sub hl [1, 2, 0] rfl) hH hS hk hq
  have b_83 : ∀ (k83 : Nat) (a2 : Int32) (a3 : Int32) (γ : St) (H : Heap) (locs : List Loc) (ls : Array Slot), lv_has ls 5 [(0, .ref (kA κ 8 0)), (2, .int a2), (3, .int a3)] → HR κ γ H → va_S (AA κ) s.heap H locs → ok_X8_tableau_83 k83 a2 a3 γ → x_X8_tableau_83 k83 a2 a3 γ = res → W p l e (headSpec [Cond.code yX8_tableau cX8_tableau 5 (some .int)] ({ frames := 5, cells := 0, slots := 0, locals := 126 } : Room)).room s m ([.ref (kA κ 8 0), .int y1] : List Value).toArray below meth c H locs 0 0 (MQ below (QQ κ (res.2) (some (.int res.1))) ([.ref (kA κ 8 0), .int y1] : List Value).toArray s 0 0 (AA κ)) (F0 m 83 ls []) := by
    intro k83
    induction k83 with
    | zero =>
      intro a2 a3 γ H locs ls hl hH hS hk hq
      exact (show False from hk).elim
    | succ k83 ih_83 =>
      intro a2 a3 γ H locs ls hl hH hS hk hq
      refine lv_iload_n hx hb dX8_tableau_83 rfl (lv_at hl 2 rfl) ?_
      refine lv_sipush (v := 128) hx hb dX8_tableau_84 (by decide) ?_
      refine lv_icmp_ge (tgt := 103) hx hb dX8_tableau_87 (by decide) (fun c93 => ?_) (fun c93 => ?_)
      · have hk := ifp hk c93
        have hq := ifpe hq c93
        refine lv_iconst (v := 0) hx hb dX8_tableau_103 (by decide) ?_
        refine lv_istore_n (lv' := [(3, .int 0), (0, .ref (kA κ 8 0)), (2, .int a2)]) hx hb dX8_tableau_104 rfl hl (by decide) rfl (fun ls hl => ?_)
        exact b_105 fu a2 0 γ _ _ _ (lv_sub hl [1, 2, 0] rfl) hH hS hk hq
      · have hk := ifn hk c93
        have hq := ifne hq c93
        refine lv_aload_n hx hb dX8_tableau_90 rfl (lv_at hl 0 rfl) ?_
        refine hp_get (v := .ref (kA κ 39 0)) (C := RX8) (T := TX8) (N := 32) hC inX8 hH lv_8 rfl rfl 28 (by decide) tw_950 rfl rfl dX8_tableau_91 ?_
        refine lv_iload_n hx hb dX8_tableau_94 rfl (lv_at hl 2 rfl) ?_
        refine lv_iconst (v := (-1)) hx hb dX8_tableau_95 (by decide) ?_
        obtain ⟨hi94, hk⟩ := hk
        refine hp_ast hC hH lv_39 (fun _ => rfl) hS hi94 dX8_tableau_96 (fun H locs hH hS => ?_)
        refine lv_iinc (v := a3 + 1) (lv' := [(3, .int (a3 + 1)), (0, .ref (kA κ 8 0)), (2, .int a2)]) hx hb dX8_tableau_97 hl (k := 2) rfl rfl (by decide) rfl (fun ls hl => ?_)
        refine lv_goto (tgt := 83) hx hb dX8_tableau_100 (by decide) ?_
        exact ih_83 a2 (a3 + 1) (sV γ 39 0 ((a3 : Int32).toNatClampNeg) ((-1))) _ _ _ (lv_sub hl [1, 2, 0] rfl) hH hS hk hq
  have b_60 : ∀ (k60 : Nat) (a2 : Int32) (γ : St) (H : Heap) (locs : List Loc) (ls : Array Slot), lv_has ls 5 [(0, .ref (kA κ 8 0)), (2, .int a2)] → HR κ γ H → va_S (AA κ) s.heap H locs → ok_X8_tableau_60 k60 a2 γ → x_X8_tableau_60 k60 a2 γ = res → W p l e (headSpec [Cond.code yX8_tableau cX8_tableau 5 (some .int)] ({ frames := 5, cells := 0, slots := 0, locals := 126 } : Room)).room s m ([.ref (kA κ 8 0), .int y1] : List Value).toArray below meth c H locs 0 0 (MQ below (QQ κ (res.2) (some (.int res.1))) ([.ref (kA κ 8 0), .int y1] : List Value).toArray s 0 0 (AA κ)) (F0 m 60 ls []) := by
    intro k60
    induction k60 with
    | zero =>
      intro a2 γ H locs ls hl hH hS hk hq
      exact (show False from hk).elim
    | succ k60 ih_60 =>
      intro a2 γ H locs ls hl hH hS hk hq
      refine lv_aload_n hx hb dX8_tableau_60 rfl (lv_at hl 0 rfl) ?_
      refine hp_get (v := .int (gV γ 8 0 27)) (C := RX8) (T := TX8) (N := 32) hC inX8 hH lv_8 rfl rfl 27 (by decide) tw_949 rfl rfl dX8_tableau_61 ?_
      refine lv_iload_n hx hb dX8_tableau_64 rfl (lv_at hl 1 rfl) ?_
      refine lv_icmp_ge (tgt := 81) hx hb dX8_tableau_65 (by decide) (fun c95 => ?_) (fun c95 => ?_)
      · have hk := ifp hk c95
        have hq := ifpe hq c95
        refine lv_iconst (v := 0) hx hb dX8_tableau_81 (by decide) ?_
        refine lv_istore_n (lv' := [(3, .int 0), (0, .ref (kA κ 8 0)), (2, .int a2)]) hx hb dX8_tableau_82 rfl hl (by decide) rfl (fun ls hl => ?_)
        exact b_83 fu a2 0 γ _ _ _ (lv_sub hl [1, 2, 0] rfl) hH hS hk hq
      · have hk := ifn hk c95
        have hq := ifne hq c95
        refine lv_aload_n hx hb dX8_tableau_68 rfl (lv_at hl 0 rfl) ?_
        refine lv_dup hx hb dX8_tableau_69 rfl ?_
        refine hp_get (v := .int (gV γ 8 0 27)) (C := RX8) (T := TX8) (N := 32) hC inX8 hH lv_8 rfl rfl 27 (by decide) tw_949 rfl rfl dX8_tableau_70 ?_
        refine lv_iconst (v := 2) hx hb dX8_tableau_73 (by decide) ?_
        refine lv_imul hx hb dX8_tableau_74 ?_
        refine hp_put (v := .int ((gV γ 8 0 27) * 2)) (C := RX8) (T := TX8) (N := 32) hC inX8 tyX8_ok nmX8 hH lv_8 rfl hS rfl 27 (by decide) tw_949 rfl rfl rfl rfl (Nat.le_of_ble_eq_true rfl) (sV γ 8 0 27 ((gV γ 8 0 27) * 2)) (pe_8_27 _ _ 0 ((gV γ 8 0 27) * 2)) (fun _ _ _ h => cel_sV h) (WT_sV hH.wt) dX8_tableau_75 (fun H locs hH hS => ?_)
        refine lv_goto (tgt := 60) hx hb dX8_tableau_78 (by decide) ?_
        exact ih_60 a2 (sV γ 8 0 27 ((gV γ 8 0 27) * 2)) _ _ _ (lv_sub hl [0, 1] rfl) hH hS hk hq
  have b_43 : ∀ (a2 : Int32) (s0 : Int32) (γ : St) (H : Heap) (locs : List Loc) (ls : Array Slot), lv_has ls 5 [(0, .ref (kA κ 8 0)), (2, .int a2)] → HR κ γ H → va_S (AA κ) s.heap H locs → ok_X8_tableau_43 a2 s0 γ → x_X8_tableau_43 a2 s0 γ = res → W p l e (headSpec [Cond.code yX8_tableau cX8_tableau 5 (some .int)] ({ frames := 5, cells := 0, slots := 0, locals := 126 } : Room)).room s m ([.ref (kA κ 8 0), .int y1] : List Value).toArray below meth c H locs 0 0 (MQ below (QQ κ (res.2) (some (.int res.1))) ([.ref (kA κ 8 0), .int y1] : List Value).toArray s 0 0 (AA κ)) (F0 m 43 ls [.int s0, .ref (kA κ 8 0)]) := by
    intro a2 s0 γ H locs ls hl hH hS hk hq
    refine hp_put (v := .int s0) (C := RX8) (T := TX8) (N := 32) hC inX8 tyX8_ok nmX8 hH lv_8 rfl hS rfl 31 (by decide) tw_953 rfl rfl rfl rfl (Nat.le_of_ble_eq_true rfl) (sV γ 8 0 31 s0) (pe_8_31 _ _ 0 s0) (fun _ _ _ h => cel_sV h) (WT_sV hH.wt) dX8_tableau_43 (fun H locs hH hS => ?_)
    refine lv_aload_n hx hb dX8_tableau_46 rfl (lv_at hl 0 rfl) ?_
    refine hp_get (v := .int s0) (C := RX8) (T := TX8) (N := 32) hC inX8 hH lv_8 rfl rfl 31 (by decide) tw_953 rfl rfl dX8_tableau_47 ?_
    refine lv_if_le (tgt := 55) hx hb dX8_tableau_50 (by decide) (fun c96 => ?_) (fun c96 => ?_)
    · have hk := ifp hk c96
      have hq := ifpe hq c96
      refine lv_aload_n hx hb dX8_tableau_55 rfl (lv_at hl 0 rfl) ?_
      refine lv_iconst (v := 2) hx hb dX8_tableau_56 (by decide) ?_
      refine hp_put (v := .int 2) (C := RX8) (T := TX8) (N := 32) hC inX8 tyX8_ok nmX8 hH lv_8 rfl hS rfl 27 (by decide) tw_949 rfl rfl rfl rfl (Nat.le_of_ble_eq_true rfl) (sV (sV γ 8 0 31 s0) 8 0 27 2) (pe_8_27 _ _ 0 2) (fun _ _ _ h => cel_sV h) (WT_sV hH.wt) dX8_tableau_57 (fun H locs hH hS => ?_)
      exact b_60 fu a2 (sV (sV γ 8 0 31 s0) 8 0 27 2) _ _ _ (lv_sub hl [0, 1] rfl) hH hS hk hq
    · have hk := ifn hk c96
      have hq := ifne hq c96
      refine lv_iconst (v := 0) hx hb dX8_tableau_53 (by decide) ?_
      subst hq
      exact kr_i hC hr hH hS rfl rfl dX8_tableau_54
  have b_31 : ∀ (s0 : Int32) (γ : St) (H : Heap) (locs : List Loc) (ls : Array Slot), lv_has ls 5 [(0, .ref (kA κ 8 0))] → HR κ γ H → va_S (AA κ) s.heap H locs → ok_X8_tableau_31 s0 γ → x_X8_tableau_31 s0 γ = res → W p l e (headSpec [Cond.code yX8_tableau cX8_tableau 5 (some .int)] ({ frames := 5, cells := 0, slots := 0, locals := 126 } : Room)).room s m ([.ref (kA κ 8 0), .int y1] : List Value).toArray below meth c H locs 0 0 (MQ below (QQ κ (res.2) (some (.int res.1))) ([.ref (kA κ 8 0), .int y1] : List Value).toArray s 0 0 (AA κ)) (F0 m 31 ls [.int s0]) := by
    intro s0 γ H locs ls hl hH hS hk hq
    refine lv_istore_n (lv' := [(2, .int s0), (0, .ref (kA κ 8 0))]) hx hb dX8_tableau_31 rfl hl (by decide) rfl (fun ls hl => ?_)
    refine lv_aload_n hx hb dX8_tableau_32 rfl (lv_at hl 1 rfl) ?_
    refine lv_iload_n hx hb dX8_tableau_33 rfl (lv_at hl 0 rfl) ?_
    refine lv_iconst (v := 2) hx hb dX8_tableau_34 (by decide) ?_
    refine lv_icmp_ge (tgt := 42) hx hb dX8_tableau_35 (by decide) (fun c97 => ?_) (fun c97 => ?_)
    · have hk := ifp hk c97
      have hq := ifpe hq c97
      refine lv_iconst (v := 0) hx hb dX8_tableau_42 (by decide) ?_
      exact b_43 s0 0 γ _ _ _ (lv_sub hl [1, 0] rfl) hH hS hk hq
    · have hk := ifn hk c97
      have hq := ifne hq c97
      refine lv_iconst (v := 2) hx hb dX8_tableau_38 (by decide) ?_
      refine lv_goto (tgt := 43) hx hb dX8_tableau_39 (by decide) ?_
      exact b_43 s0 2 γ _ _ _ (lv_sub hl [1, 0] rfl) hH hS hk hq
  have b_14 : ∀ (a1 : Int32) (s0 : Int32) (γ : St) (H : Heap) (locs : List Loc) (ls : Array Slot), lv_has ls 5 [(0, .ref (kA κ 8 0)), (1, .int a1)] → HR κ γ H → va_S (AA κ) s.heap H locs → ok_X8_tableau_14 a1 s0 γ → x_X8_tableau_14 a1 s0 γ = res → W p l e (headSpec [Cond.code yX8_tableau cX8_tableau 5 (some .int)] ({ frames := 5, cells := 0, slots := 0, locals := 126 } : Room)).room s m ([.ref (kA κ 8 0), .int y1] : List Value).toArray below meth c H locs 0 0 (MQ below (QQ κ (res.2) (some (.int res.1))) ([.ref (kA κ 8 0), .int y1] : List Value).toArray s 0 0 (AA κ)) (F0 m 14 ls [.int s0, .ref (kA κ 8 0)]) := by
    intro a1 s0 γ H locs ls hl hH hS hk hq
    refine hp_put (v := .int s0) (C := RX8) (T := TX8) (N := 32) hC inX8 tyX8_ok nmX8 hH lv_8 rfl hS rfl 31 (by decide) tw_953 rfl rfl rfl rfl (Nat.le_of_ble_eq_true rfl) (sV γ 8 0 31 s0) (pe_8_31 _ _ 0 s0) (fun _ _ _ h => cel_sV h) (WT_sV hH.wt) dX8_tableau_14 (fun H locs hH hS => ?_)
    refine lv_aload_n hx hb dX8_tableau_17 rfl (lv_at hl 0 rfl) ?_
    refine hp_get (v := .int s0) (C := RX8) (T := TX8) (N := 32) hC inX8 hH lv_8 rfl rfl 31 (by decide) tw_953 rfl rfl dX8_tableau_18 ?_
    refine lv_if_le (tgt := 26) hx hb dX8_tableau_21 (by decide) (fun c98 => ?_) (fun c98 => ?_)
    · have hk := ifp hk c98
      have hq := ifpe hq c98
      refine lv_aload_n hx hb dX8_tableau_26 rfl (lv_at hl 0 rfl) ?_
      refine lv_iload_n hx hb dX8_tableau_27 rfl (lv_at hl 1 rfl) ?_
      obtain ⟨hc99, hk⟩ := hk
      refine k_callV (C := RX8) (T := TX8) (N := 32) (rest := []) hC hl hH hS (c_X8_ranks l κ (sV γ 8 0 31 s0) a1 hc99) lv_8 rfl rfl tw_1155 tw_1157 tw_51 tw_62 tw_1158 hd_X8_ranks ⟨Nat.le_of_ble_eq_true rfl, Nat.le_of_ble_eq_true rfl⟩ rfl rfl rfl rfl (Nat.le_of_ble_eq_true rfl) dX8_tableau_28 ⟨Nat.le_of_ble_eq_true rfl, Nat.le_of_ble_eq_true rfl⟩ rfl (fun H locs hH hS => ?_)
      exact b_31 ((x_X8_ranks a1 (sV γ 8 0 31 s0)).1) (x_X8_ranks a1 (sV γ 8 0 31 s0)).2 _ _ _ (lv_sub hl [0] rfl) hH hS hk hq
    · have hk := ifn hk c98
      have hq := ifne hq c98
      refine lv_iconst (v := 0) hx hb dX8_tableau_24 (by decide) ?_
      subst hq
      exact kr_i hC hr hH hS rfl rfl dX8_tableau_25
  refine lv_aload_n hx hb dX8_tableau_0 rfl (lv_at hl 0 rfl) ?_
  refine lv_aload_n hx hb dX8_tableau_1 rfl (lv_at hl 0 rfl) ?_
  refine lv_iload_n hx hb dX8_tableau_2 rfl (lv_at hl 1 rfl) ?_
  refine k_callV (C := RX8) (T := TX8) (N := 32) (rest := [.ref (kA κ 8 0)]) hC hl hH hS (c_X8_isPool l κ γ y1) lv_8 rfl rfl tw_1039 tw_1041 tw_38 tw_62 tw_1042 hd_X8_isPool ⟨Nat.le_of_ble_eq_true rfl, Nat.le_of_ble_eq_true rfl⟩ rfl rfl rfl rfl (Nat.le_of_ble_eq_true rfl) dX8_tableau_3 ⟨Nat.le_of_ble_eq_true rfl, Nat.le_of_ble_eq_true rfl⟩ rfl (fun H locs hH hS => ?_)
  refine lv_if_eq (tgt := 13) hx hb dX8_tableau_6 (by decide) (fun c100 => ?_) (fun c100 => ?_)
  · have hk := ifp hk c100
    have hq := ifpe hq c100
    refine lv_iconst (v := 1) hx hb dX8_tableau_13 (by decide) ?_
    exact b_14 y1 1 γ _ _ _ (lv_sub hl [0, 1] rfl) hH hS hk hq
  · have hk := ifn hk c100
    have hq := ifne hq c100
    refine lv_iconst (v := 0) hx hb dX8_tableau_9 (by decide) ?_
    refine lv_goto (tgt := 14) hx hb dX8_tableau_10 (by decide) ?_
    exact b_14 y1 0 γ _ _ _ (lv_sub hl [0, 1] rfl) hH hS hk hq
set_option maxRecDepth 20000 in
set_option maxHeartbeats 4000000 in
theorem c_X8_isMatch (l : Launch) (κ : KP) (γ : St) (y1 : Int32) (y2 : Int32)  : Met l yX8_isMatch [Cond.code yX8_isMatch cX8_isMatch 3 (some .boolean)] ({ frames := 1, cells := 0, slots := 0, locals := 22 } : Room) (va_Pc [.ref (kA κ 8 0), .int y1, .int y2] (GG κ γ)) (QQ κ γ (some (.int ((x_X8_isMatch y1 y2 γ))))) 0 0 (AA κ) := by
  generalize hq : x_X8_isMatch y1 y2 γ = res
  refine Met.ofW (cc := cX8_isMatch) (maxL := 3) (ret := (some .boolean)) (by decide) rfl ?_
  intro p e s m args below meth c s₁ B hml9 hv
  obtain ⟨rfl, hH, hK9, hB9, hX9, hZ9⟩ := hv
  have hC : CX κ cX8_isMatch "PhrasehallModel" 3 p l s m ([.ref (kA κ 8 0), .int y1, .int y2] : List Value).toArray meth c := ⟨B.exec, B.bytes, findClass_of_methodNamed B.named, fun w hw => tw_use (List.mem_filter.mp hw).2 (State.WarmedH.refl s) (hX9.1 w hw), hK9, hX9, hZ9, hB9, hml9, B.notSynchronized⟩
  obtain ⟨hx, hb, hown, hT, -, -, -, -, hml, -⟩ := id hC
  have hr := B.returns
  have hS : va_S (AA κ) s.heap s.heap [] := va_S.rf
  have hl := lv_entry ([.ref (kA κ 8 0), .int y1, .int y2]) (n := 3) (Nat.le_of_ble_eq_true rfl)
  rw [lg_entry_eq]
  generalize (lg_sl ([.ref (kA κ 8 0), .int y1, .int y2]) ++ List.replicate (3 - (lg_sl ([.ref (kA κ 8 0), .int y1, .int y2])).length) Slot.unset).toArray = ls at hl ⊢
  have hl : lv_has ls 3 [(0, .ref (kA κ 8 0)), (1, .int y1), (2, .int y2)] := hl
  have b_39 : ∀ (H : Heap) (locs : List Loc) (ls : Array Slot), lv_has ls 3 [] → HR κ γ H → va_S (AA κ) s.heap H locs → x_X8_isMatch_39 γ = res → W p l e (headSpec [Cond.code yX8_isMatch cX8_isMatch 3 (some .boolean)] ({ frames := 1, cells := 0, slots := 0, locals := 22 } : Room)).room s m ([.ref (kA κ 8 0), .int y1, .int y2] : List Value).toArray below meth c H locs 0 0 (MQ below (QQ κ γ (some (.int res))) ([.ref (kA κ 8 0), .int y1, .int y2] : List Value).toArray s 0 0 (AA κ)) (F0 m 39 ls []) := by
    intro  H locs ls hl hH hS hq
    refine lv_iconst (v := 0) hx hb dX8_isMatch_39 (by decide) ?_
    subst hq
    exact kr_z hC hr rfl hH hS rfl rfl dX8_isMatch_40
  refine lv_iload_n hx hb dX8_isMatch_0 rfl (lv_at hl 1 rfl) ?_
  refine lv_iconst (v := 0) hx hb dX8_isMatch_1 (by decide) ?_
  refine lv_aload_n hx hb dX8_isMatch_2 rfl (lv_at hl 0 rfl) ?_
  refine hp_get (v := .int (gV γ 8 0 27)) (C := RX8) (T := TX8) (N := 32) hC inX8 hH lv_8 rfl rfl 27 (by decide) tw_949 rfl rfl dX8_isMatch_3 ?_
  refine k_callS (rest := [.int 0, .int y1]) hC hl hH hS (c_X8_rounds l κ γ (gV γ 8 0 27)) tw_1170 tw_1171 tw_62 tw_1172 hd_X8_rounds ⟨Nat.le_of_ble_eq_true rfl, Nat.le_of_ble_eq_true rfl⟩ rfl rfl rfl rfl (Nat.le_of_ble_eq_true rfl) dX8_isMatch_6 ⟨Nat.le_of_ble_eq_true rfl, Nat.le_of_ble_eq_true rfl⟩ rfl (fun H locs hH hS => ?_)
  refine lv_iconst (v := 1) hx hb dX8_isMatch_9 (by decide) ?_
  refine lv_isub hx hb dX8_isMatch_10 ?_
  refine k_callS (rest := []) hC hl hH hS (c_X8_isIn l κ γ y1 0 (((x_X8_rounds (gV γ 8 0 27) γ)) - 1)) tw_1036 tw_1037 tw_62 tw_1038 hd_X8_isIn ⟨Nat.le_of_ble_eq_true rfl, Nat.le_of_ble_eq_true rfl⟩ rfl rfl rfl rfl (Nat.le_of_ble_eq_true rfl) dX8_isMatch_11 ⟨Nat.le_of_ble_eq_true rfl, Nat.le_of_ble_eq_true rfl⟩ rfl (fun H locs hH hS => ?_)
  refine lv_if_eq (tgt := 39) hx hb dX8_isMatch_14 (by decide) (fun c7 => ?_) (fun c7 => ?_)
  · have hq := ifpe hq c7
    exact b_39 _ _ _ (lv_sub hl [] rfl) hH hS hq
  · have hq := ifne hq c7
    refine lv_iload_n hx hb dX8_isMatch_17 rfl (lv_at hl 2 rfl) ?_
    refine lv_iconst (v := 0) hx hb dX8_isMatch_18 (by decide) ?_
    refine lv_aload_n hx hb dX8_isMatch_19 rfl (lv_at hl 0 rfl) ?_
    refine hp_get (v := .int (gV γ 8 0 27)) (C := RX8) (T := TX8) (N := 32) hC inX8 hH lv_8 rfl rfl 27 (by decide) tw_949 rfl rfl dX8_isMatch_20 ?_
    refine lv_iload_n hx hb dX8_isMatch_23 rfl (lv_at hl 1 rfl) ?_
    refine lv_iconst (v := 1) hx hb dX8_isMatch_24 (by decide) ?_
    refine lv_iadd hx hb dX8_isMatch_25 ?_
    refine lv_ishr hx hb dX8_isMatch_26 ?_
    refine lv_iconst (v := 1) hx hb dX8_isMatch_27 (by decide) ?_
    refine lv_isub hx hb dX8_isMatch_28 ?_
    refine k_callS (rest := []) hC hl hH hS (c_X8_isIn l κ γ y2 0 (((gV γ 8 0 27) >>> ((y1 + 1) &&& 31)) - 1)) tw_1036 tw_1037 tw_62 tw_1038 hd_X8_isIn ⟨Nat.le_of_ble_eq_true rfl, Nat.le_of_ble_eq_true rfl⟩ rfl rfl rfl rfl (Nat.le_of_ble_eq_true rfl) dX8_isMatch_29 ⟨Nat.le_of_ble_eq_true rfl, Nat.le_of_ble_eq_true rfl⟩ rfl (fun H locs hH hS => ?_)
    refine lv_if_eq (tgt := 39) hx hb dX8_isMatch_32 (by decide) (fun c8 => ?_) (fun c8 => ?_)
    · have hq := ifpe hq c8
      exact b_39 _ _ _ (lv_sub hl [] rfl) hH hS hq
    · have hq := ifne hq c8
      refine lv_iconst (v := 1) hx hb dX8_isMatch_35 (by decide) ?_
      refine lv_goto (tgt := 40) hx hb dX8_isMatch_36 (by decide) ?_
      subst hq
      exact kr_z hC hr rfl hH hS rfl rfl dX8_isMatch_40
set_option maxRecDepth 20000 in
set_option maxHeartbeats 4000000 in
theorem c_X8_wins (l : Launch) (κ : KP) (γ : St) (y1 : Int32) (y2 : Int32) (y3 : Int32) (hk : ok_X8_wins y1 y2 y3 γ) : Met l yX8_wins [Cond.code yX8_wins cX8_wins 6 (some .int)] ({ frames := 2, cells := 0, slots := 0, locals := 44 } : Room) (va_Pc [.ref (kA κ 8 0), .int y1, .int y2, .int y3] (GG κ γ)) (QQ κ (((x_X8_wins y1 y2 y3 γ)).2) (some (.int (((x_X8_wins y1 y2 y3 γ)).1)))) 0 0 (AA κ) := by
  generalize hq : x_X8_wins y1 y2 y3 γ = res
  refine Met.ofW (cc := cX8_wins) (maxL := 6) (ret := (some .int)) (by decide) rfl ?_
  intro p e s m args below meth c s₁ B hml9 hv
  obtain ⟨rfl, hH, hK9, hB9, hX9, hZ9⟩ := hv
  have hC : CX κ cX8_wins "PhrasehallModel" 6 p l s m ([.ref (kA κ 8 0), .int y1, .int y2, .int y3] : List Value).toArray meth c := ⟨B.exec, B.bytes, findClass_of_methodNamed B.named, fun w hw => tw_use (List.mem_filter.mp hw).2 (State.WarmedH.refl s) (hX9.1 w hw), hK9, hX9, hZ9, hB9, hml9, B.notSynchronized⟩
  obtain ⟨hx, hb, hown, hT, -, -, -, -, hml, -⟩ := id hC
  have hr := B.returns
  have hS : va_S (AA κ) s.heap s.heap [] := va_S.rf
  have hl := lv_entry ([.ref (kA κ 8 0), .int y1, .int y2, .int y3]) (n := 6) (Nat.le_of_ble_eq_true rfl)
  rw [lg_entry_eq]
  generalize (lg_sl ([.ref (kA κ 8 0), .int y1, .int y2, .int y3]) ++ List.replicate (6 - (lg_sl ([.ref (kA κ 8 0), .int y1, .int y2, .int y3])).length) Slot.unset).toArray = ls at hl ⊢
  have hl : lv_has ls 6 [(0, .ref (kA κ 8 0)), (1, .int y1), (2, .int y2), (3, .int y3)] := hl
  have b_124 : ∀ (a5 : Int32) (γ : St) (H : Heap) (locs : List Loc) (ls : Array Slot), lv_has ls 6 [(5, .int a5)] → HR κ γ H → va_S (AA κ) s.heap H locs → ok_X8_wins_124 a5 γ → x_X8_wins_124 a5 γ = res → W p l e (headSpec [Cond.code yX8_wins cX8_wins 6 (some .int)] ({ frames := 2, cells := 0, slots := 0, locals := 44 } : Room)).room s m ([.ref (kA κ 8 0), .int y1, .int y2, .int y3] : List Value).toArray below meth c H locs 0 0 (MQ below (QQ κ (res.2) (some (.int res.1))) ([.ref (kA κ 8 0), .int y1, .int y2, .int y3] : List Value).toArray s 0 0 (AA κ)) (F0 m 124 ls []) := by
    intro a5 γ H locs ls hl hH hS hk hq
    refine lv_iload hx hb dX8_wins_124 (lv_at hl 0 rfl) ?_
    subst hq
    exact kr_i hC hr hH hS rfl rfl dX8_wins_126
  have b_93 : ∀ (a1 : Int32) (a2 : Int32) (a3 : Int32) (a4 : Int32) (s0 : Int32) (γ : St) (H : Heap) (locs : List Loc) (ls : Array Slot), lv_has ls 6 [(0, .ref (kA κ 8 0)), (1, .int a1), (2, .int a2), (3, .int a3), (4, .int a4)] → HR κ γ H → va_S (AA κ) s.heap H locs → ok_X8_wins_93 a1 a2 a3 a4 s0 γ → x_X8_wins_93 a1 a2 a3 a4 s0 γ = res → W p l e (headSpec [Cond.code yX8_wins cX8_wins 6 (some .int)] ({ frames := 2, cells := 0, slots := 0, locals := 44 } : Room)).room s m ([.ref (kA κ 8 0), .int y1, .int y2, .int y3] : List Value).toArray below meth c H locs 0 0 (MQ below (QQ κ (res.2) (some (.int res.1))) ([.ref (kA κ 8 0), .int y1, .int y2, .int y3] : List Value).toArray s 0 0 (AA κ)) (F0 m 93 ls [.int s0, .ref (kA κ 8 0)]) := by
    intro a1 a2 a3 a4 s0 γ H locs ls hl hH hS hk hq
    refine hp_put (v := .int s0) (C := RX8) (T := TX8) (N := 32) hC inX8 tyX8_ok nmX8 hH lv_8 rfl hS rfl 31 (by decide) tw_953 rfl rfl rfl rfl (Nat.le_of_ble_eq_true rfl) (sV γ 8 0 31 s0) (pe_8_31 _ _ 0 s0) (fun _ _ _ h => cel_sV h) (WT_sV hH.wt) dX8_wins_93 (fun H locs hH hS => ?_)
    refine lv_aload_n hx hb dX8_wins_96 rfl (lv_at hl 0 rfl) ?_
    refine hp_get (v := .int s0) (C := RX8) (T := TX8) (N := 32) hC inX8 hH lv_8 rfl rfl 31 (by decide) tw_953 rfl rfl dX8_wins_97 ?_
    refine lv_if_le (tgt := 105) hx hb dX8_wins_100 (by decide) (fun c37 => ?_) (fun c37 => ?_)
    · have hk := ifp hk c37
      have hq := ifpe hq c37
      refine lv_aload_n hx hb dX8_wins_105 rfl (lv_at hl 0 rfl) ?_
      refine hp_get (v := .ref (kA κ 39 0)) (C := RX8) (T := TX8) (N := 32) hC inX8 hH lv_8 rfl rfl 28 (by decide) tw_950 rfl rfl dX8_wins_106 ?_
      refine lv_iload hx hb dX8_wins_109 (lv_at hl 4 rfl) ?_
      refine lv_iload_n hx hb dX8_wins_111 rfl (lv_at hl 3 rfl) ?_
      refine lv_iadd hx hb dX8_wins_112 ?_
      obtain ⟨hi38, hk⟩ := hk
      refine hp_ald (v := gV γ 39 0 ((a4 + a3 : Int32).toNatClampNeg)) hC hH lv_39 rfl hi38 rfl dX8_wins_113 ?_
      refine lv_istore (lv' := [(5, .int (gV γ 39 0 ((a4 + a3 : Int32).toNatClampNeg))), (0, .ref (kA κ 8 0)), (1, .int a1), (2, .int a2), (3, .int a3), (4, .int a4)]) hx hb dX8_wins_114 hl (by decide) rfl (fun ls hl => ?_)
      refine lv_aload_n hx hb dX8_wins_116 rfl (lv_at hl 1 rfl) ?_
      refine lv_iload_n hx hb dX8_wins_117 rfl (lv_at hl 2 rfl) ?_
      refine lv_iload_n hx hb dX8_wins_118 rfl (lv_at hl 3 rfl) ?_
      refine lv_iload hx hb dX8_wins_119 (lv_at hl 0 rfl) ?_
      obtain ⟨hc39, hk⟩ := hk
      refine k_callV (C := RX8) (T := TX8) (N := 32) (rest := []) hC hl hH hS (c_X8_isWon l κ (sV γ 8 0 31 s0) a1 a2 (gV γ 39 0 ((a4 + a3 : Int32).toNatClampNeg)) hc39) lv_8 rfl rfl tw_1166 tw_1168 tw_53 tw_62 tw_1169 hd_X8_isWon ⟨Nat.le_of_ble_eq_true rfl, Nat.le_of_ble_eq_true rfl⟩ rfl rfl rfl rfl (Nat.le_of_ble_eq_true rfl) dX8_wins_121 ⟨Nat.le_of_ble_eq_true rfl, Nat.le_of_ble_eq_true rfl⟩ rfl (fun H locs hH hS => ?_)
      exact b_124 (gV γ 39 0 ((a4 + a3 : Int32).toNatClampNeg)) (x_X8_isWon a1 a2 (gV γ 39 0 ((a4 + a3 : Int32).toNatClampNeg)) (sV γ 8 0 31 s0)) _ _ _ (lv_sub hl [0] rfl) hH hS hk hq
    · have hk := ifn hk c37
      have hq := ifne hq c37
      refine lv_iconst (v := 0) hx hb dX8_wins_103 (by decide) ?_
      subst hq
      exact kr_i hC hr hH hS rfl rfl dX8_wins_104
  have b_88 : ∀ (a1 : Int32) (a2 : Int32) (a3 : Int32) (a4 : Int32) (γ : St) (H : Heap) (locs : List Loc) (ls : Array Slot), lv_has ls 6 [(0, .ref (kA κ 8 0)), (1, .int a1), (2, .int a2), (3, .int a3), (4, .int a4)] → HR κ γ H → va_S (AA κ) s.heap H locs → ok_X8_wins_88 a1 a2 a3 a4 γ → x_X8_wins_88 a1 a2 a3 a4 γ = res → W p l e (headSpec [Cond.code yX8_wins cX8_wins 6 (some .int)] ({ frames := 2, cells := 0, slots := 0, locals := 44 } : Room)).room s m ([.ref (kA κ 8 0), .int y1, .int y2, .int y3] : List Value).toArray below meth c H locs 0 0 (MQ below (QQ κ (res.2) (some (.int res.1))) ([.ref (kA κ 8 0), .int y1, .int y2, .int y3] : List Value).toArray s 0 0 (AA κ)) (F0 m 88 ls [.ref (kA κ 8 0)]) := by
    intro a1 a2 a3 a4 γ H locs ls hl hH hS hk hq
    refine lv_iconst (v := 3) hx hb dX8_wins_88 (by decide) ?_
    refine lv_goto (tgt := 93) hx hb dX8_wins_89 (by decide) ?_
    exact b_93 a1 a2 a3 a4 3 γ _ _ _ (lv_sub hl [0, 1, 2, 3, 4] rfl) hH hS hk hq
  have b_26 : ∀ (a1 : Int32) (a2 : Int32) (a3 : Int32) (s0 : Int32) (γ : St) (H : Heap) (locs : List Loc) (ls : Array Slot), lv_has ls 6 [(0, .ref (kA κ 8 0)), (1, .int a1), (2, .int a2), (3, .int a3)] → HR κ γ H → va_S (AA κ) s.heap H locs → ok_X8_wins_26 a1 a2 a3 s0 γ → x_X8_wins_26 a1 a2 a3 s0 γ = res → W p l e (headSpec [Cond.code yX8_wins cX8_wins 6 (some .int)] ({ frames := 2, cells := 0, slots := 0, locals := 44 } : Room)).room s m ([.ref (kA κ 8 0), .int y1, .int y2, .int y3] : List Value).toArray below meth c H locs 0 0 (MQ below (QQ κ (res.2) (some (.int res.1))) ([.ref (kA κ 8 0), .int y1, .int y2, .int y3] : List Value).toArray s 0 0 (AA κ)) (F0 m 26 ls [.int s0, .ref (kA κ 8 0)]) := by
    intro a1 a2 a3 s0 γ H locs ls hl hH hS hk hq
    refine hp_put (v := .int s0) (C := RX8) (T := TX8) (N := 32) hC inX8 tyX8_ok nmX8 hH lv_8 rfl hS rfl 31 (by decide) tw_953 rfl rfl rfl rfl (Nat.le_of_ble_eq_true rfl) (sV γ 8 0 31 s0) (pe_8_31 _ _ 0 s0) (fun _ _ _ h => cel_sV h) (WT_sV hH.wt) dX8_wins_26 (fun H locs hH hS => ?_)
    refine lv_aload_n hx hb dX8_wins_29 rfl (lv_at hl 0 rfl) ?_
    refine hp_get (v := .int s0) (C := RX8) (T := TX8) (N := 32) hC inX8 hH lv_8 rfl rfl 31 (by decide) tw_953 rfl rfl dX8_wins_30 ?_
    refine lv_if_le (tgt := 38) hx hb dX8_wins_33 (by decide) (fun c40 => ?_) (fun c40 => ?_)
    · have hk := ifp hk c40
      have hq := ifpe hq c40
      refine lv_bipush (v := 32) hx hb dX8_wins_38 (by decide) ?_
      refine lv_iload_n hx hb dX8_wins_40 rfl (lv_at hl 1 rfl) ?_
      refine lv_imul hx hb dX8_wins_41 ?_
      refine lv_iconst (v := 2) hx hb dX8_wins_42 (by decide) ?_
      refine lv_iload_n hx hb dX8_wins_43 rfl (lv_at hl 2 rfl) ?_
      refine lv_imul hx hb dX8_wins_44 ?_
      refine lv_iadd hx hb dX8_wins_45 ?_
      refine lv_istore (lv' := [(4, .int ((32 * a1) + (2 * a2))), (0, .ref (kA κ 8 0)), (1, .int a1), (2, .int a2), (3, .int a3)]) hx hb dX8_wins_46 hl (by decide) rfl (fun ls hl => ?_)
      refine lv_aload_n hx hb dX8_wins_48 rfl (lv_at hl 1 rfl) ?_
      refine lv_aload_n hx hb dX8_wins_49 rfl (lv_at hl 1 rfl) ?_
      refine hp_get (v := .ref (kA κ 39 0)) (C := RX8) (T := TX8) (N := 32) hC inX8 hH lv_8 rfl rfl 28 (by decide) tw_950 rfl rfl dX8_wins_50 ?_
      refine lv_iload hx hb dX8_wins_53 (lv_at hl 0 rfl) ?_
      obtain ⟨hi41, hk⟩ := hk
      refine hp_ald (v := gV γ 39 0 (((32 * a1) + (2 * a2) : Int32).toNatClampNeg)) hC hH lv_39 rfl hi41 rfl dX8_wins_55 ?_
      refine lv_iconst (v := (-1)) hx hb dX8_wins_56 (by decide) ?_
      refine lv_icmp_eq (tgt := 88) hx hb dX8_wins_57 (by decide) (fun c42 => ?_) (fun c42 => ?_)
      · have hk := ifp hk c42
        have hq := ifpe hq c42
        exact b_88 a1 a2 a3 ((32 * a1) + (2 * a2)) (sV γ 8 0 31 s0) _ _ _ (lv_sub hl [1, 2, 3, 4, 0] rfl) hH hS hk hq
      · have hk := ifn hk c42
        have hq := ifne hq c42
        refine lv_aload_n hx hb dX8_wins_60 rfl (lv_at hl 1 rfl) ?_
        refine hp_get (v := .ref (kA κ 39 0)) (C := RX8) (T := TX8) (N := 32) hC inX8 hH lv_8 rfl rfl 28 (by decide) tw_950 rfl rfl dX8_wins_61 ?_
        refine lv_iload hx hb dX8_wins_64 (lv_at hl 0 rfl) ?_
        refine lv_iconst (v := 1) hx hb dX8_wins_66 (by decide) ?_
        refine lv_iadd hx hb dX8_wins_67 ?_
        obtain ⟨hi43, hk⟩ := hk
        refine hp_ald (v := gV γ 39 0 ((((32 * a1) + (2 * a2)) + 1 : Int32).toNatClampNeg)) hC hH lv_39 rfl hi43 rfl dX8_wins_68 ?_
        refine lv_iconst (v := (-1)) hx hb dX8_wins_69 (by decide) ?_
        refine lv_icmp_eq (tgt := 88) hx hb dX8_wins_70 (by decide) (fun c44 => ?_) (fun c44 => ?_)
        · have hk := ifp hk c44
          have hq := ifpe hq c44
          exact b_88 a1 a2 a3 ((32 * a1) + (2 * a2)) (sV γ 8 0 31 s0) _ _ _ (lv_sub hl [1, 2, 3, 4, 0] rfl) hH hS hk hq
        · have hk := ifn hk c44
          have hq := ifne hq c44
          refine lv_aload_n hx hb dX8_wins_73 rfl (lv_at hl 1 rfl) ?_
          refine hp_get (v := .ref (kA κ 40 0)) (C := RX8) (T := TX8) (N := 32) hC inX8 hH lv_8 rfl rfl 29 (by decide) tw_951 rfl rfl dX8_wins_74 ?_
          refine lv_bipush (v := 16) hx hb dX8_wins_77 (by decide) ?_
          refine lv_iload_n hx hb dX8_wins_79 rfl (lv_at hl 2 rfl) ?_
          refine lv_imul hx hb dX8_wins_80 ?_
          refine lv_iload_n hx hb dX8_wins_81 rfl (lv_at hl 3 rfl) ?_
          refine lv_iadd hx hb dX8_wins_82 ?_
          obtain ⟨hi45, hk⟩ := hk
          refine hp_ald (v := gV γ 40 0 (((16 * a1) + a2 : Int32).toNatClampNeg)) hC hH lv_40 rfl hi45 rfl dX8_wins_83 ?_
          refine lv_iconst (v := (-1)) hx hb dX8_wins_84 (by decide) ?_
          refine lv_icmp_eq (tgt := 92) hx hb dX8_wins_85 (by decide) (fun c46 => ?_) (fun c46 => ?_)
          · have hk := ifp hk c46
            have hq := ifpe hq c46
            refine lv_iconst (v := 0) hx hb dX8_wins_92 (by decide) ?_
            exact b_93 a1 a2 a3 ((32 * a1) + (2 * a2)) 0 (sV γ 8 0 31 s0) _ _ _ (lv_sub hl [1, 2, 3, 4, 0] rfl) hH hS hk hq
          · have hk := ifn hk c46
            have hq := ifne hq c46
            exact b_88 a1 a2 a3 ((32 * a1) + (2 * a2)) (sV γ 8 0 31 s0) _ _ _ (lv_sub hl [1, 2, 3, 4, 0] rfl) hH hS hk hq
    · have hk := ifn hk c40
      have hq := ifne hq c40
      refine lv_iconst (v := 0) hx hb dX8_wins_36 (by decide) ?_
      subst hq
      exact kr_i hC hr hH hS rfl rfl dX8_wins_37
  refine lv_aload_n hx hb dX8_wins_0 rfl (lv_at hl 0 rfl) ?_
  refine lv_aload_n hx hb dX8_wins_1 rfl (lv_at hl 0 rfl) ?_
  refine lv_iload_n hx hb dX8_wins_2 rfl (lv_at hl 1 rfl) ?_
  refine lv_iload_n hx hb dX8_wins_3 rfl (lv_at hl 2 rfl) ?_
  refine k_callV (C := RX8) (T := TX8) (N := 32) (rest := [.ref (kA κ 8 0)]) hC hl hH hS (c_X8_isMatch l κ γ y1 y2) lv_8 rfl rfl tw_1177 tw_1179 tw_54 tw_62 tw_1180 hd_X8_isMatch ⟨Nat.le_of_ble_eq_true rfl, Nat.le_of_ble_eq_true rfl⟩ rfl rfl rfl rfl (Nat.le_of_ble_eq_true rfl) dX8_wins_4 ⟨Nat.le_of_ble_eq_true rfl, Nat.le_of_ble_eq_true rfl⟩ rfl (fun H locs hH hS => ?_)
  refine lv_if_ne (tgt := 14) hx hb dX8_wins_7 (by decide) (fun c47 => ?_) (fun c47 => ?_)
  · have hk := ifn hk c47
    have hq := ifne hq c47
    refine lv_iload_n hx hb dX8_wins_14 rfl (lv_at hl 3 rfl) ?_
    refine k_callS (rest := [.ref (kA κ 8 0)]) hC hl hH hS (c_X8_isSide l κ γ y3) tw_1050 tw_1051 tw_62 tw_1052 hd_X8_isSide ⟨Nat.le_of_ble_eq_true rfl, Nat.le_of_ble_eq_true rfl⟩ rfl rfl rfl rfl (Nat.le_of_ble_eq_true rfl) dX8_wins_15 ⟨Nat.le_of_ble_eq_true rfl, Nat.le_of_ble_eq_true rfl⟩ rfl (fun H locs hH hS => ?_)
    refine lv_if_ne (tgt := 25) hx hb dX8_wins_18 (by decide) (fun c48 => ?_) (fun c48 => ?_)
    · have hk := ifn hk c48
      have hq := ifne hq c48
      refine lv_iconst (v := 0) hx hb dX8_wins_25 (by decide) ?_
      exact b_26 y1 y2 y3 0 γ _ _ _ (lv_sub hl [0, 1, 2, 3] rfl) hH hS hk hq
    · have hk := ifp hk c48
      have hq := ifpe hq c48
      refine lv_iconst (v := 2) hx hb dX8_wins_21 (by decide) ?_
      refine lv_goto (tgt := 26) hx hb dX8_wins_22 (by decide) ?_
      exact b_26 y1 y2 y3 2 γ _ _ _ (lv_sub hl [0, 1, 2, 3] rfl) hH hS hk hq
  · have hk := ifp hk c47
    have hq := ifpe hq c47
    refine lv_iconst (v := 1) hx hb dX8_wins_10 (by decide) ?_
    refine lv_goto (tgt := 26) hx hb dX8_wins_11 (by decide) ?_
    exact b_26 y1 y2 y3 1 γ _ _ _ (lv_sub hl [0, 1, 2, 3] rfl) hH hS hk hq
set_option maxRecDepth 20000 in
set_option maxHeartbeats 4000000 in
theorem c_X8_lamp (l : Launch) (κ : KP) (γ : St) (y1 : Int32) (hk : ok_X8_lamp y1 γ) : Met l yX8_lamp [Cond.code yX8_lamp cX8_lamp 3 (some .int)] ({ frames := 2, cells := 0, slots := 0, locals := 48 } : Room) (va_Pc [.ref (kA κ 8 0), .int y1] (GG κ γ)) (QQ κ (((x_X8_lamp y1 γ)).2) (some (.int (((x_X8_lamp y1 γ)).1)))) 0 0 (AA κ) := by
  generalize hq : x_X8_lamp y1 γ = res
  refine Met.ofW (cc := cX8_lamp) (maxL := 3) (ret := (some .int)) (by decide) rfl ?_
  intro p e s m args below meth c s₁ B hml9 hv
  obtain ⟨rfl, hH, hK9, hB9, hX9, hZ9⟩ := hv
  have hC : CX κ cX8_lamp "PhrasehallModel" 3 p l s m ([.ref (kA κ 8 0), .int y1] : List Value).toArray meth c := ⟨B.exec, B.bytes, findClass_of_methodNamed B.named, fun w hw => tw_use (List.mem_filter.mp hw).2 (State.WarmedH.refl s) (hX9.1 w hw), hK9, hX9, hZ9, hB9, hml9, B.notSynchronized⟩
  obtain ⟨hx, hb, hown, hT, -, -, -, -, hml, -⟩ := id hC
  have hr := B.returns
  have hS : va_S (AA κ) s.heap s.heap [] := va_S.rf
  have hl := lv_entry ([.ref (kA κ 8 0), .int y1]) (n := 3) (Nat.le_of_ble_eq_true rfl)
  rw [lg_entry_eq]
  generalize (lg_sl ([.ref (kA κ 8 0), .int y1]) ++ List.replicate (3 - (lg_sl ([.ref (kA κ 8 0), .int y1])).length) Slot.unset).toArray = ls at hl ⊢
  have hl : lv_has ls 3 [(0, .ref (kA κ 8 0)), (1, .int y1)] := hl
  have b_13 : ∀ (a1 : Int32) (s0 : Int32) (γ : St) (H : Heap) (locs : List Loc) (ls : Array Slot), lv_has ls 3 [(0, .ref (kA κ 8 0)), (1, .int a1)] → HR κ γ H → va_S (AA κ) s.heap H locs → ok_X8_lamp_13 a1 s0 γ → x_X8_lamp_13 a1 s0 γ = res → W p l e (headSpec [Cond.code yX8_lamp cX8_lamp 3 (some .int)] ({ frames := 2, cells := 0, slots := 0, locals := 48 } : Room)).room s m ([.ref (kA κ 8 0), .int y1] : List Value).toArray below meth c H locs 0 0 (MQ below (QQ κ (res.2) (some (.int res.1))) ([.ref (kA κ 8 0), .int y1] : List Value).toArray s 0 0 (AA κ)) (F0 m 13 ls [.int s0, .ref (kA κ 8 0)]) := by
    intro a1 s0 γ H locs ls hl hH hS hk hq
    refine hp_put (v := .int s0) (C := RX8) (T := TX8) (N := 32) hC inX8 tyX8_ok nmX8 hH lv_8 rfl hS rfl 31 (by decide) tw_953 rfl rfl rfl rfl (Nat.le_of_ble_eq_true rfl) (sV γ 8 0 31 s0) (pe_8_31 _ _ 0 s0) (fun _ _ _ h => cel_sV h) (WT_sV hH.wt) dX8_lamp_13 (fun H locs hH hS => ?_)
    refine lv_aload_n hx hb dX8_lamp_16 rfl (lv_at hl 0 rfl) ?_
    refine hp_get (v := .int s0) (C := RX8) (T := TX8) (N := 32) hC inX8 hH lv_8 rfl rfl 31 (by decide) tw_953 rfl rfl dX8_lamp_17 ?_
    refine lv_if_le (tgt := 25) hx hb dX8_lamp_20 (by decide) (fun c16 => ?_) (fun c16 => ?_)
    · have hk := ifp hk c16
      have hq := ifpe hq c16
      refine lv_aload_n hx hb dX8_lamp_25 rfl (lv_at hl 0 rfl) ?_
      refine lv_iload_n hx hb dX8_lamp_26 rfl (lv_at hl 1 rfl) ?_
      obtain ⟨hc17, hk⟩ := hk
      refine k_callV (C := RX8) (T := TX8) (N := 32) (rest := []) hC hl hH hS (c_X8_registered l κ (sV γ 8 0 31 s0) a1 hc17) lv_8 rfl rfl tw_1074 tw_1076 tw_42 tw_62 tw_1077 hd_X8_registered ⟨Nat.le_of_ble_eq_true rfl, Nat.le_of_ble_eq_true rfl⟩ rfl rfl rfl rfl (Nat.le_of_ble_eq_true rfl) dX8_lamp_27 ⟨Nat.le_of_ble_eq_true rfl, Nat.le_of_ble_eq_true rfl⟩ rfl (fun H locs hH hS => ?_)
      refine lv_istore_n (lv' := [(2, .int ((x_X8_registered a1 (sV γ 8 0 31 s0)))), (0, .ref (kA κ 8 0)), (1, .int a1)]) hx hb dX8_lamp_30 rfl hl (by decide) rfl (fun ls hl => ?_)
      refine lv_iload_n hx hb dX8_lamp_31 rfl (lv_at hl 0 rfl) ?_
      refine lv_iconst (v := (-1)) hx hb dX8_lamp_32 (by decide) ?_
      refine lv_icmp_ne (tgt := 40) hx hb dX8_lamp_33 (by decide) (fun c18 => ?_) (fun c18 => ?_)
      · have hk := ifn hk c18
        have hq := ifne hq c18
        refine lv_aload_n hx hb dX8_lamp_40 rfl (lv_at hl 1 rfl) ?_
        refine hp_get (v := .ref (kA κ 35 0)) (C := RX8) (T := TX8) (N := 32) hC inX8 hH lv_8 rfl rfl 22 (by decide) tw_944 rfl rfl dX8_lamp_41 ?_
        refine lv_iload_n hx hb dX8_lamp_44 rfl (lv_at hl 0 rfl) ?_
        obtain ⟨hi19, hk⟩ := hk
        refine hp_ald (v := gV γ 35 0 (((x_X8_registered a1 (sV γ 8 0 31 s0)) : Int32).toNatClampNeg)) hC hH lv_35 rfl hi19 rfl dX8_lamp_45 ?_
        subst hq
        exact kr_i hC hr hH hS rfl rfl dX8_lamp_46
      · have hk := ifp hk c18
        have hq := ifpe hq c18
        refine lv_iconst (v := (-1)) hx hb dX8_lamp_36 (by decide) ?_
        refine lv_goto (tgt := 46) hx hb dX8_lamp_37 (by decide) ?_
        subst hq
        exact kr_i hC hr hH hS rfl rfl dX8_lamp_46
    · have hk := ifn hk c16
      have hq := ifne hq c16
      refine lv_iconst (v := 0) hx hb dX8_lamp_23 (by decide) ?_
      subst hq
      exact kr_i hC hr hH hS rfl rfl dX8_lamp_24
  refine lv_aload_n hx hb dX8_lamp_0 rfl (lv_at hl 0 rfl) ?_
  refine lv_iload_n hx hb dX8_lamp_1 rfl (lv_at hl 1 rfl) ?_
  refine k_callS (rest := [.ref (kA κ 8 0)]) hC hl hH hS (c_X8_isSide l κ γ y1) tw_1050 tw_1051 tw_62 tw_1052 hd_X8_isSide ⟨Nat.le_of_ble_eq_true rfl, Nat.le_of_ble_eq_true rfl⟩ rfl rfl rfl rfl (Nat.le_of_ble_eq_true rfl) dX8_lamp_2 ⟨Nat.le_of_ble_eq_true rfl, Nat.le_of_ble_eq_true rfl⟩ rfl (fun H locs hH hS => ?_)
  refine lv_if_eq (tgt := 12) hx hb dX8_lamp_5 (by decide) (fun c20 => ?_) (fun c20 => ?_)
  · have hk := ifp hk c20
    have hq := ifpe hq c20
    refine lv_iconst (v := 1) hx hb dX8_lamp_12 (by decide) ?_
    exact b_13 y1 1 γ _ _ _ (lv_sub hl [0, 1] rfl) hH hS hk hq
  · have hk := ifn hk c20
    have hq := ifne hq c20
    refine lv_iconst (v := 0) hx hb dX8_lamp_8 (by decide) ?_
    refine lv_goto (tgt := 13) hx hb dX8_lamp_9 (by decide) ?_
    exact b_13 y1 0 γ _ _ _ (lv_sub hl [0, 1] rfl) hH hS hk hq
set_option maxRecDepth 20000 in
set_option maxHeartbeats 4000000 in
theorem c_X8_holder (l : Launch) (κ : KP) (γ : St) (hk : ok_X8_holder γ) : Met l yX8_holder [Cond.code yX8_holder cX8_holder 1 (some .int)] ({ frames := 1, cells := 0, slots := 0, locals := 30 } : Room) (va_Pc [.ref (kA κ 8 0)] (GG κ γ)) (QQ κ (((x_X8_holder γ)).2) (some (.int (((x_X8_holder γ)).1)))) 0 0 (AA κ) := by
  generalize hq : x_X8_holder γ = res
  refine Met.ofW (cc := cX8_holder) (maxL := 1) (ret := (some .int)) (by decide) rfl ?_
  intro p e s m args below meth c s₁ B hml9 hv
  obtain ⟨rfl, hH, hK9, hB9, hX9, hZ9⟩ := hv
  have hC : CX κ cX8_holder "PhrasehallModel" 1 p l s m ([.ref (kA κ 8 0)] : List Value).toArray meth c := ⟨B.exec, B.bytes, findClass_of_methodNamed B.named, fun w hw => tw_use (List.mem_filter.mp hw).2 (State.WarmedH.refl s) (hX9.1 w hw), hK9, hX9, hZ9, hB9, hml9, B.notSynchronized⟩
  obtain ⟨hx, hb, hown, hT, -, -, -, -, hml, -⟩ := id hC
  have hr := B.returns
  have hS : va_S (AA κ) s.heap s.heap [] := va_S.rf
  have hl := lv_entry ([.ref (kA κ 8 0)]) (n := 1) (Nat.le_of_ble_eq_true rfl)
  rw [lg_entry_eq]
  generalize (lg_sl ([.ref (kA κ 8 0)]) ++ List.replicate (1 - (lg_sl ([.ref (kA κ 8 0)])).length) Slot.unset).toArray = ls at hl ⊢
  have hl : lv_has ls 1 [(0, .ref (kA κ 8 0))] := hl
  refine lv_aload_n hx hb dX8_holder_0 rfl (lv_at hl 0 rfl) ?_
  refine lv_iconst (v := 0) hx hb dX8_holder_1 (by decide) ?_
  refine hp_put (v := .int 0) (C := RX8) (T := TX8) (N := 32) hC inX8 tyX8_ok nmX8 hH lv_8 rfl hS rfl 31 (by decide) tw_953 rfl rfl rfl rfl (Nat.le_of_ble_eq_true rfl) (sV γ 8 0 31 0) (pe_8_31 _ _ 0 0) (fun _ _ _ h => cel_sV h) (WT_sV hH.wt) dX8_holder_2 (fun H locs hH hS => ?_)
  refine lv_aload_n hx hb dX8_holder_5 rfl (lv_at hl 0 rfl) ?_
  refine lv_aload_n hx hb dX8_holder_6 rfl (lv_at hl 0 rfl) ?_
  refine hp_get (v := .int (gV γ 8 0 17)) (C := RX8) (T := TX8) (N := 32) hC inX8 hH lv_8 rfl rfl 17 (by decide) tw_939 rfl rfl dX8_holder_7 ?_
  obtain ⟨hc3, hk⟩ := hk
  refine k_callV (C := RX8) (T := TX8) (N := 32) (rest := []) hC hl hH hS (c_X8_rights l κ (sV γ 8 0 31 0) (gV γ 8 0 17) hc3) lv_8 rfl rfl tw_1084 tw_1086 tw_43 tw_62 tw_1087 hd_X8_rights ⟨Nat.le_of_ble_eq_true rfl, Nat.le_of_ble_eq_true rfl⟩ rfl rfl rfl rfl (Nat.le_of_ble_eq_true rfl) dX8_holder_10 ⟨Nat.le_of_ble_eq_true rfl, Nat.le_of_ble_eq_true rfl⟩ rfl (fun H locs hH hS => ?_)
  subst hq
  exact kr_i hC hr hH hS rfl rfl dX8_holder_13
set_option maxRecDepth 20000 in
set_option maxHeartbeats 4000000 in
theorem c_X8_reason (l : Launch) (κ : KP) (γ : St)  : Met l yX8_reason [Cond.code yX8_reason cX8_reason 1 (some .int)] ({ frames := 0, cells := 0, slots := 0, locals := 0 } : Room) (va_Pc [.ref (kA κ 8 0)] (GG κ γ)) (QQ κ (((x_X8_reason γ)).2) (some (.int (((x_X8_reason γ)).1)))) 0 0 (AA κ) := by
  generalize hq : x_X8_reason γ = res
  refine Met.ofW (cc := cX8_reason) (maxL := 1) (ret := (some .int)) (by decide) rfl ?_
  intro p e s m args below meth c s₁ B hml9 hv
  obtain ⟨rfl, hH, hK9, hB9, hX9, hZ9⟩ := hv
  have hC : CX κ cX8_reason "PhrasehallModel" 1 p l s m ([.ref (kA κ 8 0)] : List Value).toArray meth c := ⟨B.exec, B.bytes, findClass_of_methodNamed B.named, fun w hw => tw_use (List.mem_filter.mp hw).2 (State.WarmedH.refl s) (hX9.1 w hw), hK9, hX9, hZ9, hB9, hml9, B.notSynchronized⟩
  obtain ⟨hx, hb, hown, hT, -, -, -, -, hml, -⟩ := id hC
  have hr := B.returns
  have hS : va_S (AA κ) s.heap s.heap [] := va_S.rf
  have hl := lv_entry ([.ref (kA κ 8 0)]) (n := 1) (Nat.le_of_ble_eq_true rfl)
  rw [lg_entry_eq]
  generalize (lg_sl ([.ref (kA κ 8 0)]) ++ List.replicate (1 - (lg_sl ([.ref (kA κ 8 0)])).length) Slot.unset).toArray = ls at hl ⊢
  have hl : lv_has ls 1 [(0, .ref (kA κ 8 0))] := hl
  refine lv_aload_n hx hb dX8_reason_0 rfl (lv_at hl 0 rfl) ?_
  refine lv_iconst (v := 0) hx hb dX8_reason_1 (by decide) ?_
  refine hp_put (v := .int 0) (C := RX8) (T := TX8) (N := 32) hC inX8 tyX8_ok nmX8 hH lv_8 rfl hS rfl 31 (by decide) tw_953 rfl rfl rfl rfl (Nat.le_of_ble_eq_true rfl) (sV γ 8 0 31 0) (pe_8_31 _ _ 0 0) (fun _ _ _ h => cel_sV h) (WT_sV hH.wt) dX8_reason_2 (fun H locs hH hS => ?_)
  refine lv_aload_n hx hb dX8_reason_5 rfl (lv_at hl 0 rfl) ?_
  refine hp_get (v := .int (gV γ 8 0 2)) (C := RX8) (T := TX8) (N := 32) hC inX8 hH lv_8 rfl rfl 2 (by decide) tw_924 rfl rfl dX8_reason_6 ?_
  subst hq
  exact kr_i hC hr hH hS rfl rfl dX8_reason_9
set_option maxRecDepth 20000 in
set_option maxHeartbeats 4000000 in
theorem c_X8_ofBout (l : Launch) (κ : KP) (γ : St) (y1 : Int32) (y2 : Int32) (hk : ok_X8_ofBout y1 y2 γ) : Met l yX8_ofBout [Cond.code yX8_ofBout cX8_ofBout 3 (some .int)] ({ frames := 1, cells := 0, slots := 0, locals := 22 } : Room) (va_Pc [.ref (kA κ 8 0), .int y1, .int y2] (GG κ γ)) (QQ κ (((x_X8_ofBout y1 y2 γ)).2) (some (.int (((x_X8_ofBout y1 y2 γ)).1)))) 0 0 (AA κ) := by
  generalize hq : x_X8_ofBout y1 y2 γ = res
  refine Met.ofW (cc := cX8_ofBout) (maxL := 3) (ret := (some .int)) (by decide) rfl ?_
  intro p e s m args below meth c s₁ B hml9 hv
  obtain ⟨rfl, hH, hK9, hB9, hX9, hZ9⟩ := hv
  have hC : CX κ cX8_ofBout "PhrasehallModel" 3 p l s m ([.ref (kA κ 8 0), .int y1, .int y2] : List Value).toArray meth c := ⟨B.exec, B.bytes, findClass_of_methodNamed B.named, fun w hw => tw_use (List.mem_filter.mp hw).2 (State.WarmedH.refl s) (hX9.1 w hw), hK9, hX9, hZ9, hB9, hml9, B.notSynchronized⟩
  obtain ⟨hx, hb, hown, hT, -, -, -, -, hml, -⟩ := id hC
  have hr := B.returns
  have hS : va_S (AA κ) s.heap s.heap [] := va_S.rf
  have hl := lv_entry ([.ref (kA κ 8 0), .int y1, .int y2]) (n := 3) (Nat.le_of_ble_eq_true rfl)
  rw [lg_entry_eq]
  generalize (lg_sl ([.ref (kA κ 8 0), .int y1, .int y2]) ++ List.replicate (3 - (lg_sl ([.ref (kA κ 8 0), .int y1, .int y2])).length) Slot.unset).toArray = ls at hl ⊢
  have hl : lv_has ls 3 [(0, .ref (kA κ 8 0)), (1, .int y1), (2, .int y2)] := hl
  have b_33 : ∀ (a1 : Int32) (a2 : Int32) (s0 : Int32) (γ : St) (H : Heap) (locs : List Loc) (ls : Array Slot), lv_has ls 3 [(0, .ref (kA κ 8 0)), (1, .int a1), (2, .int a2)] → HR κ γ H → va_S (AA κ) s.heap H locs → ok_X8_ofBout_33 a1 a2 s0 γ → x_X8_ofBout_33 a1 a2 s0 γ = res → W p l e (headSpec [Cond.code yX8_ofBout cX8_ofBout 3 (some .int)] ({ frames := 1, cells := 0, slots := 0, locals := 22 } : Room)).room s m ([.ref (kA κ 8 0), .int y1, .int y2] : List Value).toArray below meth c H locs 0 0 (MQ below (QQ κ (res.2) (some (.int res.1))) ([.ref (kA κ 8 0), .int y1, .int y2] : List Value).toArray s 0 0 (AA κ)) (F0 m 33 ls [.int s0, .ref (kA κ 8 0)]) := by
    intro a1 a2 s0 γ H locs ls hl hH hS hk hq
    refine hp_put (v := .int s0) (C := RX8) (T := TX8) (N := 32) hC inX8 tyX8_ok nmX8 hH lv_8 rfl hS rfl 31 (by decide) tw_953 rfl rfl rfl rfl (Nat.le_of_ble_eq_true rfl) (sV γ 8 0 31 s0) (pe_8_31 _ _ 0 s0) (fun _ _ _ h => cel_sV h) (WT_sV hH.wt) dX8_ofBout_33 (fun H locs hH hS => ?_)
    refine lv_aload_n hx hb dX8_ofBout_36 rfl (lv_at hl 0 rfl) ?_
    refine hp_get (v := .int s0) (C := RX8) (T := TX8) (N := 32) hC inX8 hH lv_8 rfl rfl 31 (by decide) tw_953 rfl rfl dX8_ofBout_37 ?_
    refine lv_if_le (tgt := 45) hx hb dX8_ofBout_40 (by decide) (fun c37 => ?_) (fun c37 => ?_)
    · have hk := ifp hk c37
      have hq := ifpe hq c37
      refine lv_iload_n hx hb dX8_ofBout_45 rfl (lv_at hl 2 rfl) ?_
      refine lv_iconst (v := 2) hx hb dX8_ofBout_46 (by decide) ?_
      refine lv_icmp_ge (tgt := 63) hx hb dX8_ofBout_47 (by decide) (fun c38 => ?_) (fun c38 => ?_)
      · have hk := ifp hk c38
        have hq := ifpe hq c38
        refine lv_iload_n hx hb dX8_ofBout_63 rfl (lv_at hl 2 rfl) ?_
        refine lv_iconst (v := 2) hx hb dX8_ofBout_64 (by decide) ?_
        refine lv_icmp_ne (tgt := 77) hx hb dX8_ofBout_65 (by decide) (fun c39 => ?_) (fun c39 => ?_)
        · have hk := ifn hk c39
          have hq := ifne hq c39
          refine lv_iload_n hx hb dX8_ofBout_77 rfl (lv_at hl 2 rfl) ?_
          refine lv_iconst (v := 3) hx hb dX8_ofBout_78 (by decide) ?_
          refine lv_icmp_ne (tgt := 91) hx hb dX8_ofBout_79 (by decide) (fun c40 => ?_) (fun c40 => ?_)
          · have hk := ifn hk c40
            have hq := ifne hq c40
            refine lv_iload_n hx hb dX8_ofBout_91 rfl (lv_at hl 2 rfl) ?_
            refine lv_iconst (v := 4) hx hb dX8_ofBout_92 (by decide) ?_
            refine lv_icmp_ne (tgt := 105) hx hb dX8_ofBout_93 (by decide) (fun c41 => ?_) (fun c41 => ?_)
            · have hk := ifn hk c41
              have hq := ifne hq c41
              refine lv_aload_n hx hb dX8_ofBout_105 rfl (lv_at hl 0 rfl) ?_
              refine hp_get (v := .ref (kA κ 28 0)) (C := RX8) (T := TX8) (N := 32) hC inX8 hH lv_8 rfl rfl 13 (by decide) tw_935 rfl rfl dX8_ofBout_106 ?_
              refine lv_iload_n hx hb dX8_ofBout_109 rfl (lv_at hl 1 rfl) ?_
              obtain ⟨hi42, hk⟩ := hk
              refine hp_ald (v := gV γ 28 0 ((a1 : Int32).toNatClampNeg)) hC hH lv_28 rfl hi42 rfl dX8_ofBout_110 ?_
              subst hq
              exact kr_i hC hr hH hS rfl rfl dX8_ofBout_111
            · have hk := ifp hk c41
              have hq := ifpe hq c41
              refine lv_aload_n hx hb dX8_ofBout_96 rfl (lv_at hl 0 rfl) ?_
              refine hp_get (v := .ref (kA κ 27 0)) (C := RX8) (T := TX8) (N := 32) hC inX8 hH lv_8 rfl rfl 12 (by decide) tw_934 rfl rfl dX8_ofBout_97 ?_
              refine lv_iload_n hx hb dX8_ofBout_100 rfl (lv_at hl 1 rfl) ?_
              obtain ⟨hi43, hk⟩ := hk
              refine hp_ald (v := gV γ 27 0 ((a1 : Int32).toNatClampNeg)) hC hH lv_27 rfl hi43 rfl dX8_ofBout_101 ?_
              refine lv_goto (tgt := 111) hx hb dX8_ofBout_102 (by decide) ?_
              subst hq
              exact kr_i hC hr hH hS rfl rfl dX8_ofBout_111
          · have hk := ifp hk c40
            have hq := ifpe hq c40
            refine lv_aload_n hx hb dX8_ofBout_82 rfl (lv_at hl 0 rfl) ?_
            refine hp_get (v := .ref (kA κ 26 0)) (C := RX8) (T := TX8) (N := 32) hC inX8 hH lv_8 rfl rfl 11 (by decide) tw_933 rfl rfl dX8_ofBout_83 ?_
            refine lv_iload_n hx hb dX8_ofBout_86 rfl (lv_at hl 1 rfl) ?_
            obtain ⟨hi44, hk⟩ := hk
            refine hp_ald (v := gV γ 26 0 ((a1 : Int32).toNatClampNeg)) hC hH lv_26 rfl hi44 rfl dX8_ofBout_87 ?_
            refine lv_goto (tgt := 111) hx hb dX8_ofBout_88 (by decide) ?_
            subst hq
            exact kr_i hC hr hH hS rfl rfl dX8_ofBout_111
        · have hk := ifp hk c39
          have hq := ifpe hq c39
          refine lv_aload_n hx hb dX8_ofBout_68 rfl (lv_at hl 0 rfl) ?_
          refine hp_get (v := .ref (kA κ 25 0)) (C := RX8) (T := TX8) (N := 32) hC inX8 hH lv_8 rfl rfl 10 (by decide) tw_932 rfl rfl dX8_ofBout_69 ?_
          refine lv_iload_n hx hb dX8_ofBout_72 rfl (lv_at hl 1 rfl) ?_
          obtain ⟨hi45, hk⟩ := hk
          refine hp_ald (v := gV γ 25 0 ((a1 : Int32).toNatClampNeg)) hC hH lv_25 rfl hi45 rfl dX8_ofBout_73 ?_
          refine lv_goto (tgt := 111) hx hb dX8_ofBout_74 (by decide) ?_
          subst hq
          exact kr_i hC hr hH hS rfl rfl dX8_ofBout_111
      · have hk := ifn hk c38
        have hq := ifne hq c38
        refine lv_aload_n hx hb dX8_ofBout_50 rfl (lv_at hl 0 rfl) ?_
        refine hp_get (v := .ref (kA κ 21 0)) (C := RX8) (T := TX8) (N := 32) hC inX8 hH lv_8 rfl rfl 6 (by decide) tw_928 rfl rfl dX8_ofBout_51 ?_
        refine lv_iconst (v := 2) hx hb dX8_ofBout_54 (by decide) ?_
        refine lv_iload_n hx hb dX8_ofBout_55 rfl (lv_at hl 1 rfl) ?_
        refine lv_imul hx hb dX8_ofBout_56 ?_
        refine lv_iload_n hx hb dX8_ofBout_57 rfl (lv_at hl 2 rfl) ?_
        refine lv_iadd hx hb dX8_ofBout_58 ?_
        obtain ⟨hi46, hk⟩ := hk
        refine hp_ald (v := gV γ 21 0 (((2 * a1) + a2 : Int32).toNatClampNeg)) hC hH lv_21 rfl hi46 rfl dX8_ofBout_59 ?_
        refine lv_goto (tgt := 111) hx hb dX8_ofBout_60 (by decide) ?_
        subst hq
        exact kr_i hC hr hH hS rfl rfl dX8_ofBout_111
    · have hk := ifn hk c37
      have hq := ifne hq c37
      refine lv_iconst (v := 0) hx hb dX8_ofBout_43 (by decide) ?_
      subst hq
      exact kr_i hC hr hH hS rfl rfl dX8_ofBout_44
  refine lv_aload_n hx hb dX8_ofBout_0 rfl (lv_at hl 0 rfl) ?_
  refine lv_iload_n hx hb dX8_ofBout_1 rfl (lv_at hl 1 rfl) ?_
  refine lv_iconst (v := 0) hx hb dX8_ofBout_2 (by decide) ?_
  refine lv_aload_n hx hb dX8_ofBout_3 rfl (lv_at hl 0 rfl) ?_
  refine hp_get (v := .int (gV γ 8 0 3)) (C := RX8) (T := TX8) (N := 32) hC inX8 hH lv_8 rfl rfl 3 (by decide) tw_925 rfl rfl dX8_ofBout_4 ?_
  refine lv_iconst (v := 1) hx hb dX8_ofBout_7 (by decide) ?_
  refine lv_isub hx hb dX8_ofBout_8 ?_
  refine k_callS (rest := [.ref (kA κ 8 0)]) hC hl hH hS (c_X8_isIn l κ γ y1 0 ((gV γ 8 0 3) - 1)) tw_1036 tw_1037 tw_62 tw_1038 hd_X8_isIn ⟨Nat.le_of_ble_eq_true rfl, Nat.le_of_ble_eq_true rfl⟩ rfl rfl rfl rfl (Nat.le_of_ble_eq_true rfl) dX8_ofBout_9 ⟨Nat.le_of_ble_eq_true rfl, Nat.le_of_ble_eq_true rfl⟩ rfl (fun H locs hH hS => ?_)
  refine lv_if_ne (tgt := 19) hx hb dX8_ofBout_12 (by decide) (fun c47 => ?_) (fun c47 => ?_)
  · have hk := ifn hk c47
    have hq := ifne hq c47
    refine lv_iload_n hx hb dX8_ofBout_19 rfl (lv_at hl 2 rfl) ?_
    refine lv_iconst (v := 0) hx hb dX8_ofBout_20 (by decide) ?_
    refine lv_iconst (v := 5) hx hb dX8_ofBout_21 (by decide) ?_
    refine k_callS (rest := [.ref (kA κ 8 0)]) hC hl hH hS (c_X8_isIn l κ γ y2 0 5) tw_1036 tw_1037 tw_62 tw_1038 hd_X8_isIn ⟨Nat.le_of_ble_eq_true rfl, Nat.le_of_ble_eq_true rfl⟩ rfl rfl rfl rfl (Nat.le_of_ble_eq_true rfl) dX8_ofBout_22 ⟨Nat.le_of_ble_eq_true rfl, Nat.le_of_ble_eq_true rfl⟩ rfl (fun H locs hH hS => ?_)
    refine lv_if_ne (tgt := 32) hx hb dX8_ofBout_25 (by decide) (fun c48 => ?_) (fun c48 => ?_)
    · have hk := ifn hk c48
      have hq := ifne hq c48
      refine lv_iconst (v := 0) hx hb dX8_ofBout_32 (by decide) ?_
      exact b_33 y1 y2 0 γ _ _ _ (lv_sub hl [0, 1, 2] rfl) hH hS hk hq
    · have hk := ifp hk c48
      have hq := ifpe hq c48
      refine lv_iconst (v := 2) hx hb dX8_ofBout_28 (by decide) ?_
      refine lv_goto (tgt := 33) hx hb dX8_ofBout_29 (by decide) ?_
      exact b_33 y1 y2 2 γ _ _ _ (lv_sub hl [0, 1, 2] rfl) hH hS hk hq
  · have hk := ifp hk c47
    have hq := ifpe hq c47
    refine lv_iconst (v := 1) hx hb dX8_ofBout_15 (by decide) ?_
    refine lv_goto (tgt := 33) hx hb dX8_ofBout_16 (by decide) ?_
    exact b_33 y1 y2 1 γ _ _ _ (lv_sub hl [0, 1, 2] rfl) hH hS hk hq
set_option maxRecDepth 20000 in
set_option maxHeartbeats 4000000 in
theorem c_X8_ofPools (l : Launch) (κ : KP) (γ : St) (y1 : Int32) (y2 : Int32) (y3 : Int32) (hk : ok_X8_ofPools y1 y2 y3 γ) : Met l yX8_ofPools [Cond.code yX8_ofPools cX8_ofPools 4 (some .int)] ({ frames := 3, cells := 0, slots := 0, locals := 73 } : Room) (va_Pc [.ref (kA κ 8 0), .int y1, .int y2, .int y3] (GG κ γ)) (QQ κ (((x_X8_ofPools y1 y2 y3 γ)).2) (some (.int (((x_X8_ofPools y1 y2 y3 γ)).1)))) 0 0 (AA κ) := by
  generalize hq : x_X8_ofPools y1 y2 y3 γ = res
  refine Met.ofW (cc := cX8_ofPools) (maxL := 4) (ret := (some .int)) (by decide) rfl ?_
  intro p e s m args below meth c s₁ B hml9 hv
  obtain ⟨rfl, hH, hK9, hB9, hX9, hZ9⟩ := hv
  have hC : CX κ cX8_ofPools "PhrasehallModel" 4 p l s m ([.ref (kA κ 8 0), .int y1, .int y2, .int y3] : List Value).toArray meth c := ⟨B.exec, B.bytes, findClass_of_methodNamed B.named, fun w hw => tw_use (List.mem_filter.mp hw).2 (State.WarmedH.refl s) (hX9.1 w hw), hK9, hX9, hZ9, hB9, hml9, B.notSynchronized⟩
  obtain ⟨hx, hb, hown, hT, -, -, -, -, hml, -⟩ := id hC
  have hr := B.returns
  have hS : va_S (AA κ) s.heap s.heap [] := va_S.rf
  have hl := lv_entry ([.ref (kA κ 8 0), .int y1, .int y2, .int y3]) (n := 4) (Nat.le_of_ble_eq_true rfl)
  rw [lg_entry_eq]
  generalize (lg_sl ([.ref (kA κ 8 0), .int y1, .int y2, .int y3]) ++ List.replicate (4 - (lg_sl ([.ref (kA κ 8 0), .int y1, .int y2, .int y3])).length) Slot.unset).toArray = ls at hl ⊢
  have hl : lv_has ls 4 [(0, .ref (kA κ 8 0)), (1, .int y1), (2, .int y2), (3, .int y3)] := hl
  have b_28 : ∀ (a1 : Int32) (a2 : Int32) (a3 : Int32) (s0 : Int32) (γ : St) (H : Heap) (locs : List Loc) (ls : Array Slot), lv_has ls 4 [(0, .ref (kA κ 8 0)), (1, .int a1), (2, .int a2), (3, .int a3)] → HR κ γ H → va_S (AA κ) s.heap H locs → ok_X8_ofPools_28 a1 a2 a3 s0 γ → x_X8_ofPools_28 a1 a2 a3 s0 γ = res → W p l e (headSpec [Cond.code yX8_ofPools cX8_ofPools 4 (some .int)] ({ frames := 3, cells := 0, slots := 0, locals := 73 } : Room)).room s m ([.ref (kA κ 8 0), .int y1, .int y2, .int y3] : List Value).toArray below meth c H locs 0 0 (MQ below (QQ κ (res.2) (some (.int res.1))) ([.ref (kA κ 8 0), .int y1, .int y2, .int y3] : List Value).toArray s 0 0 (AA κ)) (F0 m 28 ls [.int s0, .ref (kA κ 8 0)]) := by
    intro a1 a2 a3 s0 γ H locs ls hl hH hS hk hq
    refine hp_put (v := .int s0) (C := RX8) (T := TX8) (N := 32) hC inX8 tyX8_ok nmX8 hH lv_8 rfl hS rfl 31 (by decide) tw_953 rfl rfl rfl rfl (Nat.le_of_ble_eq_true rfl) (sV γ 8 0 31 s0) (pe_8_31 _ _ 0 s0) (fun _ _ _ h => cel_sV h) (WT_sV hH.wt) dX8_ofPools_28 (fun H locs hH hS => ?_)
    refine lv_aload_n hx hb dX8_ofPools_31 rfl (lv_at hl 0 rfl) ?_
    refine hp_get (v := .int s0) (C := RX8) (T := TX8) (N := 32) hC inX8 hH lv_8 rfl rfl 31 (by decide) tw_953 rfl rfl dX8_ofPools_32 ?_
    refine lv_if_le (tgt := 42) hx hb dX8_ofPools_35 (by decide) (fun c16 => ?_) (fun c16 => ?_)
    · have hk := ifp hk c16
      have hq := ifpe hq c16
      refine lv_aload_n hx hb dX8_ofPools_42 rfl (lv_at hl 0 rfl) ?_
      refine lv_iload_n hx hb dX8_ofPools_43 rfl (lv_at hl 1 rfl) ?_
      refine lv_iload_n hx hb dX8_ofPools_44 rfl (lv_at hl 2 rfl) ?_
      refine lv_iload_n hx hb dX8_ofPools_45 rfl (lv_at hl 3 rfl) ?_
      obtain ⟨hc17, hk⟩ := hk
      refine k_callV (C := RX8) (T := TX8) (N := 32) (rest := []) hC hl hH hS (c_X8_tells l κ (sV γ 8 0 31 s0) a1 a2 a3 hc17) lv_8 rfl rfl tw_1143 tw_1145 tw_49 tw_62 tw_1146 hd_X8_tells ⟨Nat.le_of_ble_eq_true rfl, Nat.le_of_ble_eq_true rfl⟩ rfl rfl rfl rfl (Nat.le_of_ble_eq_true rfl) dX8_ofPools_46 ⟨Nat.le_of_ble_eq_true rfl, Nat.le_of_ble_eq_true rfl⟩ rfl (fun H locs hH hS => ?_)
      subst hq
      exact kr_i hC hr hH hS rfl rfl dX8_ofPools_49
    · have hk := ifn hk c16
      have hq := ifne hq c16
      refine lv_iconst (v := 0) hx hb dX8_ofPools_38 (by decide) ?_
      refine lv_goto (tgt := 49) hx hb dX8_ofPools_39 (by decide) ?_
      subst hq
      exact kr_i hC hr hH hS rfl rfl dX8_ofPools_49
  refine lv_aload_n hx hb dX8_ofPools_0 rfl (lv_at hl 0 rfl) ?_
  refine lv_aload_n hx hb dX8_ofPools_1 rfl (lv_at hl 0 rfl) ?_
  refine lv_iload_n hx hb dX8_ofPools_2 rfl (lv_at hl 1 rfl) ?_
  refine lv_iload_n hx hb dX8_ofPools_3 rfl (lv_at hl 2 rfl) ?_
  obtain ⟨hc18, hk⟩ := hk
  refine k_callV (C := RX8) (T := TX8) (N := 32) (rest := [.ref (kA κ 8 0)]) hC hl hH hS (c_X8_isMember l κ γ y1 y2 hc18) lv_8 rfl rfl tw_1139 tw_1141 tw_48 tw_62 tw_1142 hd_X8_isMember ⟨Nat.le_of_ble_eq_true rfl, Nat.le_of_ble_eq_true rfl⟩ rfl rfl rfl rfl (Nat.le_of_ble_eq_true rfl) dX8_ofPools_4 ⟨Nat.le_of_ble_eq_true rfl, Nat.le_of_ble_eq_true rfl⟩ rfl (fun H locs hH hS => ?_)
  refine lv_if_ne (tgt := 14) hx hb dX8_ofPools_7 (by decide) (fun c19 => ?_) (fun c19 => ?_)
  · have hk := ifn hk c19
    have hq := ifne hq c19
    refine lv_iload_n hx hb dX8_ofPools_14 rfl (lv_at hl 3 rfl) ?_
    refine lv_iconst (v := 0) hx hb dX8_ofPools_15 (by decide) ?_
    refine lv_iconst (v := 3) hx hb dX8_ofPools_16 (by decide) ?_
    refine k_callS (rest := [.ref (kA κ 8 0)]) hC hl hH hS (c_X8_isIn l κ γ y3 0 3) tw_1036 tw_1037 tw_62 tw_1038 hd_X8_isIn ⟨Nat.le_of_ble_eq_true rfl, Nat.le_of_ble_eq_true rfl⟩ rfl rfl rfl rfl (Nat.le_of_ble_eq_true rfl) dX8_ofPools_17 ⟨Nat.le_of_ble_eq_true rfl, Nat.le_of_ble_eq_true rfl⟩ rfl (fun H locs hH hS => ?_)
    refine lv_if_ne (tgt := 27) hx hb dX8_ofPools_20 (by decide) (fun c20 => ?_) (fun c20 => ?_)
    · have hk := ifn hk c20
      have hq := ifne hq c20
      refine lv_iconst (v := 0) hx hb dX8_ofPools_27 (by decide) ?_
      exact b_28 y1 y2 y3 0 γ _ _ _ (lv_sub hl [0, 1, 2, 3] rfl) hH hS hk hq
    · have hk := ifp hk c20
      have hq := ifpe hq c20
      refine lv_iconst (v := 2) hx hb dX8_ofPools_23 (by decide) ?_
      refine lv_goto (tgt := 28) hx hb dX8_ofPools_24 (by decide) ?_
      exact b_28 y1 y2 y3 2 γ _ _ _ (lv_sub hl [0, 1, 2, 3] rfl) hH hS hk hq
  · have hk := ifp hk c19
    have hq := ifpe hq c19
    refine lv_iconst (v := 1) hx hb dX8_ofPools_10 (by decide) ?_
    refine lv_goto (tgt := 28) hx hb dX8_ofPools_11 (by decide) ?_
    exact b_28 y1 y2 y3 1 γ _ _ _ (lv_sub hl [0, 1, 2, 3] rfl) hH hS hk hq
set_option maxRecDepth 20000 in
set_option maxHeartbeats 4000000 in
theorem c_X8_ofPool (l : Launch) (κ : KP) (γ : St) (y1 : Int32) (y2 : Int32) (y3 : Int32) (hk : ok_X8_ofPool y1 y2 y3 γ) : Met l yX8_ofPool [Cond.code yX8_ofPool cX8_ofPool 4 (some .int)] ({ frames := 4, cells := 0, slots := 0, locals := 96 } : Room) (va_Pc [.ref (kA κ 8 0), .int y1, .int y2, .int y3] (GG κ γ)) (QQ κ (((x_X8_ofPool y1 y2 y3 γ)).2) (some (.int (((x_X8_ofPool y1 y2 y3 γ)).1)))) 0 0 (AA κ) := by
  generalize hq : x_X8_ofPool y1 y2 y3 γ = res
  refine Met.ofW (cc := cX8_ofPool) (maxL := 4) (ret := (some .int)) (by decide) rfl ?_
  intro p e s m args below meth c s₁ B hml9 hv
  obtain ⟨rfl, hH, hK9, hB9, hX9, hZ9⟩ := hv
  have hC : CX κ cX8_ofPool "PhrasehallModel" 4 p l s m ([.ref (kA κ 8 0), .int y1, .int y2, .int y3] : List Value).toArray meth c := ⟨B.exec, B.bytes, findClass_of_methodNamed B.named, fun w hw => tw_use (List.mem_filter.mp hw).2 (State.WarmedH.refl s) (hX9.1 w hw), hK9, hX9, hZ9, hB9, hml9, B.notSynchronized⟩
  obtain ⟨hx, hb, hown, hT, -, -, -, -, hml, -⟩ := id hC
  have hr := B.returns
  have hS : va_S (AA κ) s.heap s.heap [] := va_S.rf
  have hl := lv_entry ([.ref (kA κ 8 0), .int y1, .int y2, .int y3]) (n := 4) (Nat.le_of_ble_eq_true rfl)
  rw [lg_entry_eq]
  generalize (lg_sl ([.ref (kA κ 8 0), .int y1, .int y2, .int y3]) ++ List.replicate (4 - (lg_sl ([.ref (kA κ 8 0), .int y1, .int y2, .int y3])).length) Slot.unset).toArray = ls at hl ⊢
  have hl : lv_has ls 4 [(0, .ref (kA κ 8 0)), (1, .int y1), (2, .int y2), (3, .int y3)] := hl
  refine lv_aload_n hx hb dX8_ofPool_0 rfl (lv_at hl 0 rfl) ?_
  refine lv_iload_n hx hb dX8_ofPool_1 rfl (lv_at hl 1 rfl) ?_
  refine lv_iload_n hx hb dX8_ofPool_2 rfl (lv_at hl 2 rfl) ?_
  refine lv_iload_n hx hb dX8_ofPool_3 rfl (lv_at hl 3 rfl) ?_
  obtain ⟨hc3, hk⟩ := hk
  refine k_callV (C := RX8) (T := TX8) (N := 32) (rest := []) hC hl hH hS (c_X8_ofPools l κ γ y1 y2 y3 hc3) lv_8 rfl rfl tw_1201 tw_1203 tw_55 tw_62 tw_1204 hd_X8_ofPools ⟨Nat.le_of_ble_eq_true rfl, Nat.le_of_ble_eq_true rfl⟩ rfl rfl rfl rfl (Nat.le_of_ble_eq_true rfl) dX8_ofPool_4 ⟨Nat.le_of_ble_eq_true rfl, Nat.le_of_ble_eq_true rfl⟩ rfl (fun H locs hH hS => ?_)
  subst hq
  exact kr_i hC hr hH hS rfl rfl dX8_ofPool_7
set_option maxRecDepth 20000 in
set_option maxHeartbeats 4000000 in
theorem c_X8_ofPoolAnew (l : Launch) (κ : KP) (γ : St) (y1 : Int32) (y2 : Int32) (y3 : Int32) (hk : ok_X8_ofPoolAnew y1 y2 y3 γ) : Met l yX8_ofPoolAnew [Cond.code yX8_ofPoolAnew cX8_ofPoolAnew 4 (some .int)] ({ frames := 4, cells := 0, slots := 0, locals := 96 } : Room) (va_Pc [.ref (kA κ 8 0), .int y1, .int y2, .int y3] (GG κ γ)) (QQ κ (((x_X8_ofPoolAnew y1 y2 y3 γ)).2) (some (.int (((x_X8_ofPoolAnew y1 y2 y3 γ)).1)))) 0 0 (AA κ) := by
  generalize hq : x_X8_ofPoolAnew y1 y2 y3 γ = res
  refine Met.ofW (cc := cX8_ofPoolAnew) (maxL := 4) (ret := (some .int)) (by decide) rfl ?_
  intro p e s m args below meth c s₁ B hml9 hv
  obtain ⟨rfl, hH, hK9, hB9, hX9, hZ9⟩ := hv
  have hC : CX κ cX8_ofPoolAnew "PhrasehallModel" 4 p l s m ([.ref (kA κ 8 0), .int y1, .int y2, .int y3] : List Value).toArray meth c := ⟨B.exec, B.bytes, findClass_of_methodNamed B.named, fun w hw => tw_use (List.mem_filter.mp hw).2 (State.WarmedH.refl s) (hX9.1 w hw), hK9, hX9, hZ9, hB9, hml9, B.notSynchronized⟩
  obtain ⟨hx, hb, hown, hT, -, -, -, -, hml, -⟩ := id hC
  have hr := B.returns
  have hS : va_S (AA κ) s.heap s.heap [] := va_S.rf
  have hl := lv_entry ([.ref (kA κ 8 0), .int y1, .int y2, .int y3]) (n := 4) (Nat.le_of_ble_eq_true rfl)
  rw [lg_entry_eq]
  generalize (lg_sl ([.ref (kA κ 8 0), .int y1, .int y2, .int y3]) ++ List.replicate (4 - (lg_sl ([.ref (kA κ 8 0), .int y1, .int y2, .int y3])).length) Slot.unset).toArray = ls at hl ⊢
  have hl : lv_has ls 4 [(0, .ref (kA κ 8 0)), (1, .int y1), (2, .int y2), (3, .int y3)] := hl
  refine lv_aload_n hx hb dX8_ofPoolAnew_0 rfl (lv_at hl 0 rfl) ?_
  refine lv_iload_n hx hb dX8_ofPoolAnew_1 rfl (lv_at hl 1 rfl) ?_
  refine lv_iload_n hx hb dX8_ofPoolAnew_2 rfl (lv_at hl 2 rfl) ?_
  refine lv_iload_n hx hb dX8_ofPoolAnew_3 rfl (lv_at hl 3 rfl) ?_
  obtain ⟨hc3, hk⟩ := hk
  refine k_callV (C := RX8) (T := TX8) (N := 32) (rest := []) hC hl hH hS (c_X8_ofPools l κ γ y1 y2 y3 hc3) lv_8 rfl rfl tw_1201 tw_1203 tw_55 tw_62 tw_1204 hd_X8_ofPools ⟨Nat.le_of_ble_eq_true rfl, Nat.le_of_ble_eq_true rfl⟩ rfl rfl rfl rfl (Nat.le_of_ble_eq_true rfl) dX8_ofPoolAnew_4 ⟨Nat.le_of_ble_eq_true rfl, Nat.le_of_ble_eq_true rfl⟩ rfl (fun H locs hH hS => ?_)
  subst hq
  exact kr_i hC hr hH hS rfl rfl dX8_ofPoolAnew_7
set_option maxRecDepth 20000 in
set_option maxHeartbeats 4000000 in
theorem c_X8_rank (l : Launch) (κ : KP) (γ : St) (y1 : Int32) (y2 : Int32) (hk : ok_X8_rank y1 y2 γ) : Met l yX8_rank [Cond.code yX8_rank cX8_rank 4 (some .int)] ({ frames := 5, cells := 0, slots := 0, locals := 126 } : Room) (va_Pc [.ref (kA κ 8 0), .int y1, .int y2] (GG κ γ)) (QQ κ (((x_X8_rank y1 y2 γ)).2) (some (.int (((x_X8_rank y1 y2 γ)).1)))) 0 0 (AA κ) := by
  generalize hq : x_X8_rank y1 y2 γ = res
  refine Met.ofW (cc := cX8_rank) (maxL := 4) (ret := (some .int)) (by decide) rfl ?_
  intro p e s m args below meth c s₁ B hml9 hv
  obtain ⟨rfl, hH, hK9, hB9, hX9, hZ9⟩ := hv
  have hC : CX κ cX8_rank "PhrasehallModel" 4 p l s m ([.ref (kA κ 8 0), .int y1, .int y2] : List Value).toArray meth c := ⟨B.exec, B.bytes, findClass_of_methodNamed B.named, fun w hw => tw_use (List.mem_filter.mp hw).2 (State.WarmedH.refl s) (hX9.1 w hw), hK9, hX9, hZ9, hB9, hml9, B.notSynchronized⟩
  obtain ⟨hx, hb, hown, hT, -, -, -, -, hml, -⟩ := id hC
  have hr := B.returns
  have hS : va_S (AA κ) s.heap s.heap [] := va_S.rf
  have hl := lv_entry ([.ref (kA κ 8 0), .int y1, .int y2]) (n := 4) (Nat.le_of_ble_eq_true rfl)
  rw [lg_entry_eq]
  generalize (lg_sl ([.ref (kA κ 8 0), .int y1, .int y2]) ++ List.replicate (4 - (lg_sl ([.ref (kA κ 8 0), .int y1, .int y2])).length) Slot.unset).toArray = ls at hl ⊢
  have hl : lv_has ls 4 [(0, .ref (kA κ 8 0)), (1, .int y1), (2, .int y2)] := hl
  have b_35 : ∀ (a2 : Int32) (s0 : Int32) (γ : St) (H : Heap) (locs : List Loc) (ls : Array Slot), lv_has ls 4 [(0, .ref (kA κ 8 0)), (2, .int a2)] → HR κ γ H → va_S (AA κ) s.heap H locs → ok_X8_rank_35 a2 s0 γ → x_X8_rank_35 a2 s0 γ = res → W p l e (headSpec [Cond.code yX8_rank cX8_rank 4 (some .int)] ({ frames := 5, cells := 0, slots := 0, locals := 126 } : Room)).room s m ([.ref (kA κ 8 0), .int y1, .int y2] : List Value).toArray below meth c H locs 0 0 (MQ below (QQ κ (res.2) (some (.int res.1))) ([.ref (kA κ 8 0), .int y1, .int y2] : List Value).toArray s 0 0 (AA κ)) (F0 m 35 ls [.int s0]) := by
    intro a2 s0 γ H locs ls hl hH hS hk hq
    refine lv_istore_n (lv' := [(3, .int s0), (0, .ref (kA κ 8 0)), (2, .int a2)]) hx hb dX8_rank_35 rfl hl (by decide) rfl (fun ls hl => ?_)
    refine lv_iload_n hx hb dX8_rank_36 rfl (lv_at hl 2 rfl) ?_
    refine lv_iload_n hx hb dX8_rank_37 rfl (lv_at hl 0 rfl) ?_
    refine lv_icmp_ge (tgt := 50) hx hb dX8_rank_38 (by decide) (fun c19 => ?_) (fun c19 => ?_)
    · have hk := ifp hk c19
      have hq := ifpe hq c19
      refine lv_iconst (v := (-1)) hx hb dX8_rank_50 (by decide) ?_
      subst hq
      exact kr_i hC hr hH hS rfl rfl dX8_rank_51
    · have hk := ifn hk c19
      have hq := ifne hq c19
      refine lv_aload_n hx hb dX8_rank_41 rfl (lv_at hl 1 rfl) ?_
      refine hp_get (v := .ref (kA κ 38 0)) (C := RX8) (T := TX8) (N := 32) hC inX8 hH lv_8 rfl rfl 26 (by decide) tw_948 rfl rfl dX8_rank_42 ?_
      refine lv_iload_n hx hb dX8_rank_45 rfl (lv_at hl 2 rfl) ?_
      obtain ⟨hi20, hk⟩ := hk
      refine hp_ald (v := gV γ 38 0 ((a2 : Int32).toNatClampNeg)) hC hH lv_38 rfl hi20 rfl dX8_rank_46 ?_
      refine lv_goto (tgt := 51) hx hb dX8_rank_47 (by decide) ?_
      subst hq
      exact kr_i hC hr hH hS rfl rfl dX8_rank_51
  have b_18 : ∀ (a1 : Int32) (a2 : Int32) (s0 : Int32) (γ : St) (H : Heap) (locs : List Loc) (ls : Array Slot), lv_has ls 4 [(0, .ref (kA κ 8 0)), (1, .int a1), (2, .int a2)] → HR κ γ H → va_S (AA κ) s.heap H locs → ok_X8_rank_18 a1 a2 s0 γ → x_X8_rank_18 a1 a2 s0 γ = res → W p l e (headSpec [Cond.code yX8_rank cX8_rank 4 (some .int)] ({ frames := 5, cells := 0, slots := 0, locals := 126 } : Room)).room s m ([.ref (kA κ 8 0), .int y1, .int y2] : List Value).toArray below meth c H locs 0 0 (MQ below (QQ κ (res.2) (some (.int res.1))) ([.ref (kA κ 8 0), .int y1, .int y2] : List Value).toArray s 0 0 (AA κ)) (F0 m 18 ls [.int s0, .ref (kA κ 8 0)]) := by
    intro a1 a2 s0 γ H locs ls hl hH hS hk hq
    refine hp_put (v := .int s0) (C := RX8) (T := TX8) (N := 32) hC inX8 tyX8_ok nmX8 hH lv_8 rfl hS rfl 31 (by decide) tw_953 rfl rfl rfl rfl (Nat.le_of_ble_eq_true rfl) (sV γ 8 0 31 s0) (pe_8_31 _ _ 0 s0) (fun _ _ _ h => cel_sV h) (WT_sV hH.wt) dX8_rank_18 (fun H locs hH hS => ?_)
    refine lv_aload_n hx hb dX8_rank_21 rfl (lv_at hl 0 rfl) ?_
    refine hp_get (v := .int s0) (C := RX8) (T := TX8) (N := 32) hC inX8 hH lv_8 rfl rfl 31 (by decide) tw_953 rfl rfl dX8_rank_22 ?_
    refine lv_if_le (tgt := 30) hx hb dX8_rank_25 (by decide) (fun c21 => ?_) (fun c21 => ?_)
    · have hk := ifp hk c21
      have hq := ifpe hq c21
      refine lv_aload_n hx hb dX8_rank_30 rfl (lv_at hl 0 rfl) ?_
      refine lv_iload_n hx hb dX8_rank_31 rfl (lv_at hl 1 rfl) ?_
      obtain ⟨hc22, hk⟩ := hk
      refine k_callV (C := RX8) (T := TX8) (N := 32) (rest := []) hC hl hH hS (c_X8_ranks l κ (sV γ 8 0 31 s0) a1 hc22) lv_8 rfl rfl tw_1155 tw_1157 tw_51 tw_62 tw_1158 hd_X8_ranks ⟨Nat.le_of_ble_eq_true rfl, Nat.le_of_ble_eq_true rfl⟩ rfl rfl rfl rfl (Nat.le_of_ble_eq_true rfl) dX8_rank_32 ⟨Nat.le_of_ble_eq_true rfl, Nat.le_of_ble_eq_true rfl⟩ rfl (fun H locs hH hS => ?_)
      exact b_35 a2 ((x_X8_ranks a1 (sV γ 8 0 31 s0)).1) (x_X8_ranks a1 (sV γ 8 0 31 s0)).2 _ _ _ (lv_sub hl [0, 2] rfl) hH hS hk hq
    · have hk := ifn hk c21
      have hq := ifne hq c21
      refine lv_iconst (v := 0) hx hb dX8_rank_28 (by decide) ?_
      subst hq
      exact kr_i hC hr hH hS rfl rfl dX8_rank_29
  have b_17 : ∀ (a1 : Int32) (a2 : Int32) (γ : St) (H : Heap) (locs : List Loc) (ls : Array Slot), lv_has ls 4 [(0, .ref (kA κ 8 0)), (1, .int a1), (2, .int a2)] → HR κ γ H → va_S (AA κ) s.heap H locs → ok_X8_rank_17 a1 a2 γ → x_X8_rank_17 a1 a2 γ = res → W p l e (headSpec [Cond.code yX8_rank cX8_rank 4 (some .int)] ({ frames := 5, cells := 0, slots := 0, locals := 126 } : Room)).room s m ([.ref (kA κ 8 0), .int y1, .int y2] : List Value).toArray below meth c H locs 0 0 (MQ below (QQ κ (res.2) (some (.int res.1))) ([.ref (kA κ 8 0), .int y1, .int y2] : List Value).toArray s 0 0 (AA κ)) (F0 m 17 ls [.ref (kA κ 8 0)]) := by
    intro a1 a2 γ H locs ls hl hH hS hk hq
    refine lv_iconst (v := 1) hx hb dX8_rank_17 (by decide) ?_
    exact b_18 a1 a2 1 γ _ _ _ (lv_sub hl [0, 1, 2] rfl) hH hS hk hq
  refine lv_aload_n hx hb dX8_rank_0 rfl (lv_at hl 0 rfl) ?_
  refine lv_aload_n hx hb dX8_rank_1 rfl (lv_at hl 0 rfl) ?_
  refine lv_iload_n hx hb dX8_rank_2 rfl (lv_at hl 1 rfl) ?_
  refine k_callV (C := RX8) (T := TX8) (N := 32) (rest := [.ref (kA κ 8 0)]) hC hl hH hS (c_X8_isPool l κ γ y1) lv_8 rfl rfl tw_1039 tw_1041 tw_38 tw_62 tw_1042 hd_X8_isPool ⟨Nat.le_of_ble_eq_true rfl, Nat.le_of_ble_eq_true rfl⟩ rfl rfl rfl rfl (Nat.le_of_ble_eq_true rfl) dX8_rank_3 ⟨Nat.le_of_ble_eq_true rfl, Nat.le_of_ble_eq_true rfl⟩ rfl (fun H locs hH hS => ?_)
  refine lv_if_eq (tgt := 17) hx hb dX8_rank_6 (by decide) (fun c23 => ?_) (fun c23 => ?_)
  · have hk := ifp hk c23
    have hq := ifpe hq c23
    exact b_17 y1 y2 γ _ _ _ (lv_sub hl [0, 1, 2] rfl) hH hS hk hq
  · have hk := ifn hk c23
    have hq := ifne hq c23
    refine lv_iload_n hx hb dX8_rank_9 rfl (lv_at hl 2 rfl) ?_
    refine lv_if_lt (tgt := 17) hx hb dX8_rank_10 (by decide) (fun c24 => ?_) (fun c24 => ?_)
    · have hk := ifp hk c24
      have hq := ifpe hq c24
      exact b_17 y1 y2 γ _ _ _ (lv_sub hl [0, 1, 2] rfl) hH hS hk hq
    · have hk := ifn hk c24
      have hq := ifne hq c24
      refine lv_iconst (v := 0) hx hb dX8_rank_13 (by decide) ?_
      refine lv_goto (tgt := 18) hx hb dX8_rank_14 (by decide) ?_
      exact b_18 y1 y2 0 γ _ _ _ (lv_sub hl [0, 1, 2] rfl) hH hS hk hq
set_option maxRecDepth 20000 in
set_option maxHeartbeats 4000000 in
theorem c_X8_meets (l : Launch) (κ : KP) (γ : St) (y1 : Int32) (y2 : Int32) (y3 : Int32) (hk : ok_X8_meets y1 y2 y3 γ) : Met l yX8_meets [Cond.code yX8_meets cX8_meets 4 (some .int)] ({ frames := 2, cells := 0, slots := 0, locals := 44 } : Room) (va_Pc [.ref (kA κ 8 0), .int y1, .int y2, .int y3] (GG κ γ)) (QQ κ (((x_X8_meets y1 y2 y3 γ)).2) (some (.int (((x_X8_meets y1 y2 y3 γ)).1)))) 0 0 (AA κ) := by
  generalize hq : x_X8_meets y1 y2 y3 γ = res
  refine Met.ofW (cc := cX8_meets) (maxL := 4) (ret := (some .int)) (by decide) rfl ?_
  intro p e s m args below meth c s₁ B hml9 hv
  obtain ⟨rfl, hH, hK9, hB9, hX9, hZ9⟩ := hv
  have hC : CX κ cX8_meets "PhrasehallModel" 4 p l s m ([.ref (kA κ 8 0), .int y1, .int y2, .int y3] : List Value).toArray meth c := ⟨B.exec, B.bytes, findClass_of_methodNamed B.named, fun w hw => tw_use (List.mem_filter.mp hw).2 (State.WarmedH.refl s) (hX9.1 w hw), hK9, hX9, hZ9, hB9, hml9, B.notSynchronized⟩
  obtain ⟨hx, hb, hown, hT, -, -, -, -, hml, -⟩ := id hC
  have hr := B.returns
  have hS : va_S (AA κ) s.heap s.heap [] := va_S.rf
  have hl := lv_entry ([.ref (kA κ 8 0), .int y1, .int y2, .int y3]) (n := 4) (Nat.le_of_ble_eq_true rfl)
  rw [lg_entry_eq]
  generalize (lg_sl ([.ref (kA κ 8 0), .int y1, .int y2, .int y3]) ++ List.replicate (4 - (lg_sl ([.ref (kA κ 8 0), .int y1, .int y2, .int y3])).length) Slot.unset).toArray = ls at hl ⊢
  have hl : lv_has ls 4 [(0, .ref (kA κ 8 0)), (1, .int y1), (2, .int y2), (3, .int y3)] := hl
  have b_28 : ∀ (a1 : Int32) (a2 : Int32) (a3 : Int32) (s0 : Int32) (γ : St) (H : Heap) (locs : List Loc) (ls : Array Slot), lv_has ls 4 [(0, .ref (kA κ 8 0)), (1, .int a1), (2, .int a2), (3, .int a3)] → HR κ γ H → va_S (AA κ) s.heap H locs → ok_X8_meets_28 a1 a2 a3 s0 γ → x_X8_meets_28 a1 a2 a3 s0 γ = res → W p l e (headSpec [Cond.code yX8_meets cX8_meets 4 (some .int)] ({ frames := 2, cells := 0, slots := 0, locals := 44 } : Room)).room s m ([.ref (kA κ 8 0), .int y1, .int y2, .int y3] : List Value).toArray below meth c H locs 0 0 (MQ below (QQ κ (res.2) (some (.int res.1))) ([.ref (kA κ 8 0), .int y1, .int y2, .int y3] : List Value).toArray s 0 0 (AA κ)) (F0 m 28 ls [.int s0, .ref (kA κ 8 0)]) := by
    intro a1 a2 a3 s0 γ H locs ls hl hH hS hk hq
    refine hp_put (v := .int s0) (C := RX8) (T := TX8) (N := 32) hC inX8 tyX8_ok nmX8 hH lv_8 rfl hS rfl 31 (by decide) tw_953 rfl rfl rfl rfl (Nat.le_of_ble_eq_true rfl) (sV γ 8 0 31 s0) (pe_8_31 _ _ 0 s0) (fun _ _ _ h => cel_sV h) (WT_sV hH.wt) dX8_meets_28 (fun H locs hH hS => ?_)
    refine lv_aload_n hx hb dX8_meets_31 rfl (lv_at hl 0 rfl) ?_
    refine hp_get (v := .int s0) (C := RX8) (T := TX8) (N := 32) hC inX8 hH lv_8 rfl rfl 31 (by decide) tw_953 rfl rfl dX8_meets_32 ?_
    refine lv_if_le (tgt := 40) hx hb dX8_meets_35 (by decide) (fun c19 => ?_) (fun c19 => ?_)
    · have hk := ifp hk c19
      have hq := ifpe hq c19
      refine lv_iload_n hx hb dX8_meets_40 rfl (lv_at hl 3 rfl) ?_
      refine lv_iconst (v := 2) hx hb dX8_meets_41 (by decide) ?_
      refine lv_icmp_ne (tgt := 59) hx hb dX8_meets_42 (by decide) (fun c20 => ?_) (fun c20 => ?_)
      · have hk := ifn hk c20
        have hq := ifne hq c20
        refine lv_aload_n hx hb dX8_meets_59 rfl (lv_at hl 0 rfl) ?_
        refine hp_get (v := .ref (kA κ 39 0)) (C := RX8) (T := TX8) (N := 32) hC inX8 hH lv_8 rfl rfl 28 (by decide) tw_950 rfl rfl dX8_meets_60 ?_
        refine lv_bipush (v := 32) hx hb dX8_meets_63 (by decide) ?_
        refine lv_iload_n hx hb dX8_meets_65 rfl (lv_at hl 1 rfl) ?_
        refine lv_imul hx hb dX8_meets_66 ?_
        refine lv_iconst (v := 2) hx hb dX8_meets_67 (by decide) ?_
        refine lv_iload_n hx hb dX8_meets_68 rfl (lv_at hl 2 rfl) ?_
        refine lv_imul hx hb dX8_meets_69 ?_
        refine lv_iadd hx hb dX8_meets_70 ?_
        refine lv_iload_n hx hb dX8_meets_71 rfl (lv_at hl 3 rfl) ?_
        refine lv_iadd hx hb dX8_meets_72 ?_
        obtain ⟨hi21, hk⟩ := hk
        refine hp_ald (v := gV γ 39 0 ((((32 * a1) + (2 * a2)) + a3 : Int32).toNatClampNeg)) hC hH lv_39 rfl hi21 rfl dX8_meets_73 ?_
        subst hq
        exact kr_i hC hr hH hS rfl rfl dX8_meets_74
      · have hk := ifp hk c20
        have hq := ifpe hq c20
        refine lv_aload_n hx hb dX8_meets_45 rfl (lv_at hl 0 rfl) ?_
        refine hp_get (v := .ref (kA κ 40 0)) (C := RX8) (T := TX8) (N := 32) hC inX8 hH lv_8 rfl rfl 29 (by decide) tw_951 rfl rfl dX8_meets_46 ?_
        refine lv_bipush (v := 16) hx hb dX8_meets_49 (by decide) ?_
        refine lv_iload_n hx hb dX8_meets_51 rfl (lv_at hl 1 rfl) ?_
        refine lv_imul hx hb dX8_meets_52 ?_
        refine lv_iload_n hx hb dX8_meets_53 rfl (lv_at hl 2 rfl) ?_
        refine lv_iadd hx hb dX8_meets_54 ?_
        obtain ⟨hi22, hk⟩ := hk
        refine hp_ald (v := gV γ 40 0 (((16 * a1) + a2 : Int32).toNatClampNeg)) hC hH lv_40 rfl hi22 rfl dX8_meets_55 ?_
        refine lv_goto (tgt := 74) hx hb dX8_meets_56 (by decide) ?_
        subst hq
        exact kr_i hC hr hH hS rfl rfl dX8_meets_74
    · have hk := ifn hk c19
      have hq := ifne hq c19
      refine lv_iconst (v := 0) hx hb dX8_meets_38 (by decide) ?_
      subst hq
      exact kr_i hC hr hH hS rfl rfl dX8_meets_39
  refine lv_aload_n hx hb dX8_meets_0 rfl (lv_at hl 0 rfl) ?_
  refine lv_aload_n hx hb dX8_meets_1 rfl (lv_at hl 0 rfl) ?_
  refine lv_iload_n hx hb dX8_meets_2 rfl (lv_at hl 1 rfl) ?_
  refine lv_iload_n hx hb dX8_meets_3 rfl (lv_at hl 2 rfl) ?_
  refine k_callV (C := RX8) (T := TX8) (N := 32) (rest := [.ref (kA κ 8 0)]) hC hl hH hS (c_X8_isMatch l κ γ y1 y2) lv_8 rfl rfl tw_1177 tw_1179 tw_54 tw_62 tw_1180 hd_X8_isMatch ⟨Nat.le_of_ble_eq_true rfl, Nat.le_of_ble_eq_true rfl⟩ rfl rfl rfl rfl (Nat.le_of_ble_eq_true rfl) dX8_meets_4 ⟨Nat.le_of_ble_eq_true rfl, Nat.le_of_ble_eq_true rfl⟩ rfl (fun H locs hH hS => ?_)
  refine lv_if_ne (tgt := 14) hx hb dX8_meets_7 (by decide) (fun c23 => ?_) (fun c23 => ?_)
  · have hk := ifn hk c23
    have hq := ifne hq c23
    refine lv_iload_n hx hb dX8_meets_14 rfl (lv_at hl 3 rfl) ?_
    refine lv_iconst (v := 0) hx hb dX8_meets_15 (by decide) ?_
    refine lv_iconst (v := 2) hx hb dX8_meets_16 (by decide) ?_
    refine k_callS (rest := [.ref (kA κ 8 0)]) hC hl hH hS (c_X8_isIn l κ γ y3 0 2) tw_1036 tw_1037 tw_62 tw_1038 hd_X8_isIn ⟨Nat.le_of_ble_eq_true rfl, Nat.le_of_ble_eq_true rfl⟩ rfl rfl rfl rfl (Nat.le_of_ble_eq_true rfl) dX8_meets_17 ⟨Nat.le_of_ble_eq_true rfl, Nat.le_of_ble_eq_true rfl⟩ rfl (fun H locs hH hS => ?_)
    refine lv_if_ne (tgt := 27) hx hb dX8_meets_20 (by decide) (fun c24 => ?_) (fun c24 => ?_)
    · have hk := ifn hk c24
      have hq := ifne hq c24
      refine lv_iconst (v := 0) hx hb dX8_meets_27 (by decide) ?_
      exact b_28 y1 y2 y3 0 γ _ _ _ (lv_sub hl [0, 1, 2, 3] rfl) hH hS hk hq
    · have hk := ifp hk c24
      have hq := ifpe hq c24
      refine lv_iconst (v := 2) hx hb dX8_meets_23 (by decide) ?_
      refine lv_goto (tgt := 28) hx hb dX8_meets_24 (by decide) ?_
      exact b_28 y1 y2 y3 2 γ _ _ _ (lv_sub hl [0, 1, 2, 3] rfl) hH hS hk hq
  · have hk := ifp hk c23
    have hq := ifpe hq c23
    refine lv_iconst (v := 1) hx hb dX8_meets_10 (by decide) ?_
    refine lv_goto (tgt := 28) hx hb dX8_meets_11 (by decide) ?_
    exact b_28 y1 y2 y3 1 γ _ _ _ (lv_sub hl [0, 1, 2, 3] rfl) hH hS hk hq
