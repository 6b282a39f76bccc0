theorem lg_cmp_self (x : Int64) : lg_cmp x x = 0 := by simp [lg_cmp]
/-- at the point pc of the law's loop, before its call number n -/
def LQ (Inv : Nat → Nat → Nat → St → Prop) (p : Program) (l : Launch) (e : Env) (s : State) (m : MethodId) (b : Nat) (below : List Frame) (meth : Method) (c : Code) (Q : State → Prop) (pc n n0 : Nat) (iv : Int32) : Prop :=
  ∀ (κ : KP) (γ : St) (H : Heap) (locs : List Loc) (ls : Array Slot) (cells slots : Nat), CX κ cL_law "PhrasehallLaw" 7 p l s m #[Value.ref b] meth c → kB κ = s.heap.size → HR κ γ H → va_S (AA κ) s.heap H locs →
    lv_has ls 7 [(0, .ref b), (1, .ref (kA κ 7 0)), (2, .ref (kA κ 8 0)), (3, .ref (kA κ 41 0)), (4, .int iv)] → Inv n (kN κ) (kO κ) γ → cells ≤ 100 + 3 * n0 → slots ≤ 3000 + 65 * n0 →
    W p l e room_1 s m #[Value.ref b] below meth c H locs cells slots Q (F0 m pc ls [])
theorem AA_ke {κ κ' : KP} (h : KE κ κ') : AA κ' = AA κ := by have h3 := h.2.2.1; unfold AA; rw [h3]

theorem hdl_fencer : yL_fencer.cls ≠ "java/lang/invoke/MethodHandle" ∧ yL_fencer.cls ≠ "java/lang/invoke/VarHandle" ∧ (parseMethodDescriptor yL_fencer.desc).map (fun d => d.parameters.length) = some 2 := ⟨by decide +kernel, by decide +kernel, by decide +kernel⟩
theorem hdl_begin : yL_begin.cls ≠ "java/lang/invoke/MethodHandle" ∧ yL_begin.cls ≠ "java/lang/invoke/VarHandle" ∧ (parseMethodDescriptor yL_begin.desc).map (fun d => d.parameters.length) = some 7 := ⟨by decide +kernel, by decide +kernel, by decide +kernel⟩
theorem hdl_act : yL_act.cls ≠ "java/lang/invoke/MethodHandle" ∧ yL_act.cls ≠ "java/lang/invoke/VarHandle" ∧ (parseMethodDescriptor yL_act.desc).map (fun d => d.parameters.length) = some 5 := ⟨by decide +kernel, by decide +kernel, by decide +kernel⟩
theorem hdl_hit : yL_hit.cls ≠ "java/lang/invoke/MethodHandle" ∧ yL_hit.cls ≠ "java/lang/invoke/VarHandle" ∧ (parseMethodDescriptor yL_hit.desc).map (fun d => d.parameters.length) = some 6 := ⟨by decide +kernel, by decide +kernel, by decide +kernel⟩
theorem hdl_judge : yL_judge.cls ≠ "java/lang/invoke/MethodHandle" ∧ yL_judge.cls ≠ "java/lang/invoke/VarHandle" ∧ (parseMethodDescriptor yL_judge.desc).map (fun d => d.parameters.length) = some 2 := ⟨by decide +kernel, by decide +kernel, by decide +kernel⟩
theorem hdl_card : yL_card.cls ≠ "java/lang/invoke/MethodHandle" ∧ yL_card.cls ≠ "java/lang/invoke/VarHandle" ∧ (parseMethodDescriptor yL_card.desc).map (fun d => d.parameters.length) = some 4 := ⟨by decide +kernel, by decide +kernel, by decide +kernel⟩
theorem hdl_clock : yL_clock.cls ≠ "java/lang/invoke/MethodHandle" ∧ yL_clock.cls ≠ "java/lang/invoke/VarHandle" ∧ (parseMethodDescriptor yL_clock.desc).map (fun d => d.parameters.length) = some 3 := ⟨by decide +kernel, by decide +kernel, by decide +kernel⟩
theorem hdl_end : yL_end.cls ≠ "java/lang/invoke/MethodHandle" ∧ yL_end.cls ≠ "java/lang/invoke/VarHandle" ∧ (parseMethodDescriptor yL_end.desc).map (fun d => d.parameters.length) = some 2 := ⟨by decide +kernel, by decide +kernel, by decide +kernel⟩
theorem hdl_seed : yL_seed.cls ≠ "java/lang/invoke/MethodHandle" ∧ yL_seed.cls ≠ "java/lang/invoke/VarHandle" ∧ (parseMethodDescriptor yL_seed.desc).map (fun d => d.parameters.length) = some 2 := ⟨by decide +kernel, by decide +kernel, by decide +kernel⟩
theorem hdl_pool : yL_pool.cls ≠ "java/lang/invoke/MethodHandle" ∧ yL_pool.cls ≠ "java/lang/invoke/VarHandle" ∧ (parseMethodDescriptor yL_pool.desc).map (fun d => d.parameters.length) = some 3 := ⟨by decide +kernel, by decide +kernel, by decide +kernel⟩
theorem hdl_withdraw : yL_withdraw.cls ≠ "java/lang/invoke/MethodHandle" ∧ yL_withdraw.cls ≠ "java/lang/invoke/VarHandle" ∧ (parseMethodDescriptor yL_withdraw.desc).map (fun d => d.parameters.length) = some 4 := ⟨by decide +kernel, by decide +kernel, by decide +kernel⟩
theorem hdl_tableau : yL_tableau.cls ≠ "java/lang/invoke/MethodHandle" ∧ yL_tableau.cls ≠ "java/lang/invoke/VarHandle" ∧ (parseMethodDescriptor yL_tableau.desc).map (fun d => d.parameters.length) = some 3 := ⟨by decide +kernel, by decide +kernel, by decide +kernel⟩
theorem hdl_wins : yL_wins.cls ≠ "java/lang/invoke/MethodHandle" ∧ yL_wins.cls ≠ "java/lang/invoke/VarHandle" ∧ (parseMethodDescriptor yL_wins.desc).map (fun d => d.parameters.length) = some 5 := ⟨by decide +kernel, by decide +kernel, by decide +kernel⟩
theorem hdl_lamp : yL_lamp.cls ≠ "java/lang/invoke/MethodHandle" ∧ yL_lamp.cls ≠ "java/lang/invoke/VarHandle" ∧ (parseMethodDescriptor yL_lamp.desc).map (fun d => d.parameters.length) = some 3 := ⟨by decide +kernel, by decide +kernel, by decide +kernel⟩
theorem hdl_ofBout : yL_ofBout.cls ≠ "java/lang/invoke/MethodHandle" ∧ yL_ofBout.cls ≠ "java/lang/invoke/VarHandle" ∧ (parseMethodDescriptor yL_ofBout.desc).map (fun d => d.parameters.length) = some 4 := ⟨by decide +kernel, by decide +kernel, by decide +kernel⟩
theorem hdl_ofPool : yL_ofPool.cls ≠ "java/lang/invoke/MethodHandle" ∧ yL_ofPool.cls ≠ "java/lang/invoke/VarHandle" ∧ (parseMethodDescriptor yL_ofPool.desc).map (fun d => d.parameters.length) = some 5 := ⟨by decide +kernel, by decide +kernel, by decide +kernel⟩
theorem hdl_ofPoolAnew : yL_ofPoolAnew.cls ≠ "java/lang/invoke/MethodHandle" ∧ yL_ofPoolAnew.cls ≠ "java/lang/invoke/VarHandle" ∧ (parseMethodDescriptor yL_ofPoolAnew.desc).map (fun d => d.parameters.length) = some 5 := ⟨by decide +kernel, by decide +kernel, by decide +kernel⟩
theorem hdl_rank : yL_rank.cls ≠ "java/lang/invoke/MethodHandle" ∧ yL_rank.cls ≠ "java/lang/invoke/VarHandle" ∧ (parseMethodDescriptor yL_rank.desc).map (fun d => d.parameters.length) = some 4 := ⟨by decide +kernel, by decide +kernel, by decide +kernel⟩
theorem hdl_meets : yL_meets.cls ≠ "java/lang/invoke/MethodHandle" ∧ yL_meets.cls ≠ "java/lang/invoke/VarHandle" ∧ (parseMethodDescriptor yL_meets.desc).map (fun d => d.parameters.length) = some 5 := ⟨by decide +kernel, by decide +kernel, by decide +kernel⟩
def SP_fencer (Inv : Nat → Nat → Nat → St → Prop) : Prop := ∀ (n nb np : Nat) (γ : St), n < 512 → Inv n nb np γ → eIn 1 0 0 (x_X7_fencer γ).1 ∧ x_X8_thrown ((x_X8_fencer (wG (x_X7_fencer γ))).2) = wK 1 0 0 (x_X7_fencer γ).1 ∧ (wK 1 0 0 (x_X7_fencer γ).1 = 0 → gL ((x_X8_fencer (wG (x_X7_fencer γ))).2) 41 0 = (x_X8_fencer (wG (x_X7_fencer γ))).1.toInt64) ∧ Inv (n + 1) nb np ((x_X8_fencer (wG (x_X7_fencer γ))).2)
def SP_begin (Inv : Nat → Nat → Nat → St → Prop) : Prop := ∀ (n nb np : Nat) (γ : St) (a1 : Int32) (a2 : Int32) (a3 : Int32) (a4 : Int32) (a5 : Int32), n < 512 → Inv n nb np γ → ok_X7_begin a1 a2 a3 a4 a5 γ ∧ eIn 3 2 1 (x_X7_begin a1 a2 a3 a4 a5 γ).1 ∧ ok_X8_begin a1 a2 a3 a4 a5 (wG (x_X7_begin a1 a2 a3 a4 a5 γ)) ∧ x_X8_thrown ((x_X8_begin a1 a2 a3 a4 a5 (wG (x_X7_begin a1 a2 a3 a4 a5 γ))).2) = wK 3 2 1 (x_X7_begin a1 a2 a3 a4 a5 γ).1 ∧ (wK 3 2 1 (x_X7_begin a1 a2 a3 a4 a5 γ).1 = 0 → gL ((x_X8_begin a1 a2 a3 a4 a5 (wG (x_X7_begin a1 a2 a3 a4 a5 γ))).2) 41 0 = (x_X8_begin a1 a2 a3 a4 a5 (wG (x_X7_begin a1 a2 a3 a4 a5 γ))).1.toInt64) ∧ nb = (gV γ 7 0 6).toNatClampNeg ∧ Inv (n + 1) (if (x_X7_begin a1 a2 a3 a4 a5 γ).1 = 0 then nb + 1 else nb) np ((x_X8_begin a1 a2 a3 a4 a5 (wG (x_X7_begin a1 a2 a3 a4 a5 γ))).2)
def SP_act (Inv : Nat → Nat → Nat → St → Prop) : Prop := ∀ (n nb np : Nat) (γ : St) (a1 : Int32) (a2 : Int32) (a3 : Int32), n < 512 → Inv n nb np γ → ok_X7_act a1 a2 a3 γ ∧ eIn 2 1 0 (x_X7_act a1 a2 a3 γ).1 ∧ ok_X8_act a1 a2 a3 (wG (x_X7_act a1 a2 a3 γ)) ∧ x_X8_thrown ((x_X8_act a1 a2 a3 (wG (x_X7_act a1 a2 a3 γ))).2) = wK 2 1 0 (x_X7_act a1 a2 a3 γ).1 ∧ (wK 2 1 0 (x_X7_act a1 a2 a3 γ).1 = 0 → gL ((x_X8_act a1 a2 a3 (wG (x_X7_act a1 a2 a3 γ))).2) 41 0 = (x_X8_act a1 a2 a3 (wG (x_X7_act a1 a2 a3 γ))).1.toInt64) ∧ Inv (n + 1) nb np ((x_X8_act a1 a2 a3 (wG (x_X7_act a1 a2 a3 γ))).2)
def SP_hit (Inv : Nat → Nat → Nat → St → Prop) : Prop := ∀ (n nb np : Nat) (γ : St) (a1 : Int32) (a2 : Int32) (a3 : Int32) (a4 : Int32), n < 512 → Inv n nb np γ → ok_X7_hit a1 a2 a3 a4 γ ∧ eIn 2 1 0 (x_X7_hit a1 a2 a3 a4 γ).1 ∧ ok_X8_hit a1 a2 a3 a4 (wG (x_X7_hit a1 a2 a3 a4 γ)) ∧ x_X8_thrown ((x_X8_hit a1 a2 a3 a4 (wG (x_X7_hit a1 a2 a3 a4 γ))).2) = wK 2 1 0 (x_X7_hit a1 a2 a3 a4 γ).1 ∧ (wK 2 1 0 (x_X7_hit a1 a2 a3 a4 γ).1 = 0 → gL ((x_X8_hit a1 a2 a3 a4 (wG (x_X7_hit a1 a2 a3 a4 γ))).2) 41 0 = (x_X8_hit a1 a2 a3 a4 (wG (x_X7_hit a1 a2 a3 a4 γ))).1.toInt64) ∧ Inv (n + 1) nb np ((x_X8_hit a1 a2 a3 a4 (wG (x_X7_hit a1 a2 a3 a4 γ))).2)
def SP_judge (Inv : Nat → Nat → Nat → St → Prop) : Prop := ∀ (n nb np : Nat) (γ : St), n < 512 → Inv n nb np γ → ok_X7_judge γ ∧ eIn 1 0 0 (x_X7_judge γ).1 ∧ ok_X8_judge (wG (x_X7_judge γ)) ∧ x_X8_thrown ((x_X8_judge (wG (x_X7_judge γ))).2) = wK 1 0 0 (x_X7_judge γ).1 ∧ (wK 1 0 0 (x_X7_judge γ).1 = 0 → gL ((x_X8_judge (wG (x_X7_judge γ))).2) 41 0 = (x_X8_judge (wG (x_X7_judge γ))).1.toInt64) ∧ Inv (n + 1) nb np ((x_X8_judge (wG (x_X7_judge γ))).2)
def SP_card (Inv : Nat → Nat → Nat → St → Prop) : Prop := ∀ (n nb np : Nat) (γ : St) (a1 : Int32) (a2 : Int32), n < 512 → Inv n nb np γ → ok_X7_card a1 a2 γ ∧ eIn 2 1 0 (x_X7_card a1 a2 γ).1 ∧ ok_X8_card a1 a2 (wG (x_X7_card a1 a2 γ)) ∧ x_X8_thrown ((x_X8_card a1 a2 (wG (x_X7_card a1 a2 γ))).2) = wK 2 1 0 (x_X7_card a1 a2 γ).1 ∧ (wK 2 1 0 (x_X7_card a1 a2 γ).1 = 0 → gL ((x_X8_card a1 a2 (wG (x_X7_card a1 a2 γ))).2) 41 0 = (x_X8_card a1 a2 (wG (x_X7_card a1 a2 γ))).1.toInt64) ∧ Inv (n + 1) nb np ((x_X8_card a1 a2 (wG (x_X7_card a1 a2 γ))).2)
def SP_clock (Inv : Nat → Nat → Nat → St → Prop) : Prop := ∀ (n nb np : Nat) (γ : St) (a1 : Int32), n < 512 → Inv n nb np γ → ok_X7_clock a1 γ ∧ eIn 2 1 0 (x_X7_clock a1 γ).1 ∧ ok_X8_clock a1 (wG (x_X7_clock a1 γ)) ∧ x_X8_thrown ((x_X8_clock a1 (wG (x_X7_clock a1 γ))).2) = wK 2 1 0 (x_X7_clock a1 γ).1 ∧ (wK 2 1 0 (x_X7_clock a1 γ).1 = 0 → gL ((x_X8_clock a1 (wG (x_X7_clock a1 γ))).2) 41 0 = (x_X8_clock a1 (wG (x_X7_clock a1 γ))).1.toInt64) ∧ Inv (n + 1) nb np ((x_X8_clock a1 (wG (x_X7_clock a1 γ))).2)
def SP_end (Inv : Nat → Nat → Nat → St → Prop) : Prop := ∀ (n nb np : Nat) (γ : St), n < 512 → Inv n nb np γ → ok_X7_end γ ∧ eIn 1 0 0 (x_X7_end γ).1 ∧ ok_X8_end (wG (x_X7_end γ)) ∧ x_X8_thrown ((x_X8_end (wG (x_X7_end γ))).2) = wK 1 0 0 (x_X7_end γ).1 ∧ (wK 1 0 0 (x_X7_end γ).1 = 0 → gL ((x_X8_end (wG (x_X7_end γ))).2) 41 0 = (x_X8_end (wG (x_X7_end γ))).1.toInt64) ∧ Inv (n + 1) nb np ((x_X8_end (wG (x_X7_end γ))).2)
def SP_seed (Inv : Nat → Nat → Nat → St → Prop) : Prop := ∀ (n nb np : Nat) (γ : St) (a1 : Int32), n < 512 → Inv n nb np γ → eIn 0 1 0 (x_X7_seed a1 γ).1 ∧ x_X8_thrown (x_X8_seed a1 ((x_X7_seed a1 γ).2)) = wK 0 1 0 (x_X7_seed a1 γ).1 ∧ Inv (n + 1) nb np (x_X8_seed a1 ((x_X7_seed a1 γ).2))
def SP_pool (Inv : Nat → Nat → Nat → St → Prop) : Prop := ∀ (n nb np : Nat) (γ : St) (a1 : Int32), n < 512 → Inv n nb np γ → ok_X7_pool a1 γ ∧ eIn 2 1 0 (x_X7_pool a1 γ).1 ∧ ok_X8_pool a1 (wG (x_X7_pool a1 γ)) ∧ x_X8_thrown ((x_X8_pool a1 (wG (x_X7_pool a1 γ))).2) = wK 2 1 0 (x_X7_pool a1 γ).1 ∧ (wK 2 1 0 (x_X7_pool a1 γ).1 = 0 → gL ((x_X8_pool a1 (wG (x_X7_pool a1 γ))).2) 41 0 = (x_X8_pool a1 (wG (x_X7_pool a1 γ))).1.toInt64) ∧ np = (gV γ 7 0 7).toNatClampNeg ∧ Inv (n + 1) nb (if (x_X7_pool a1 γ).1 = 0 then np + 1 else np) ((x_X8_pool a1 (wG (x_X7_pool a1 γ))).2)
def SP_withdraw (Inv : Nat → Nat → Nat → St → Prop) : Prop := ∀ (n nb np : Nat) (γ : St) (a1 : Int32) (a2 : Int32), n < 512 → Inv n nb np γ → ok_X7_withdraw a1 a2 γ ∧ eIn 2 0 1 (x_X7_withdraw a1 a2 γ).1 ∧ ok_X8_withdraw a1 a2 (wG (x_X7_withdraw a1 a2 γ)) ∧ x_X8_thrown ((x_X8_withdraw a1 a2 (wG (x_X7_withdraw a1 a2 γ))).2) = wK 2 0 1 (x_X7_withdraw a1 a2 γ).1 ∧ (wK 2 0 1 (x_X7_withdraw a1 a2 γ).1 = 0 → gL ((x_X8_withdraw a1 a2 (wG (x_X7_withdraw a1 a2 γ))).2) 41 0 = (x_X8_withdraw a1 a2 (wG (x_X7_withdraw a1 a2 γ))).1.toInt64) ∧ Inv (n + 1) nb np ((x_X8_withdraw a1 a2 (wG (x_X7_withdraw a1 a2 γ))).2)
def SP_tableau (Inv : Nat → Nat → Nat → St → Prop) : Prop := ∀ (n nb np : Nat) (γ : St) (a1 : Int32), n < 512 → Inv n nb np γ → ok_X7_tableau a1 γ ∧ eIn 2 0 1 (x_X7_tableau a1 γ).1 ∧ ok_X8_tableau a1 (wG (x_X7_tableau a1 γ)) ∧ x_X8_thrown ((x_X8_tableau a1 (wG (x_X7_tableau a1 γ))).2) = wK 2 0 1 (x_X7_tableau a1 γ).1 ∧ (wK 2 0 1 (x_X7_tableau a1 γ).1 = 0 → gL ((x_X8_tableau a1 (wG (x_X7_tableau a1 γ))).2) 41 0 = (x_X8_tableau a1 (wG (x_X7_tableau a1 γ))).1.toInt64) ∧ Inv (n + 1) nb np ((x_X8_tableau a1 (wG (x_X7_tableau a1 γ))).2)
def SP_wins (Inv : Nat → Nat → Nat → St → Prop) : Prop := ∀ (n nb np : Nat) (γ : St) (a1 : Int32) (a2 : Int32) (a3 : Int32), n < 512 → Inv n nb np γ → ok_X7_wins a1 a2 a3 γ ∧ eIn 3 2 1 (x_X7_wins a1 a2 a3 γ).1 ∧ ok_X8_wins a1 a2 a3 (wG (x_X7_wins a1 a2 a3 γ)) ∧ x_X8_thrown ((x_X8_wins a1 a2 a3 (wG (x_X7_wins a1 a2 a3 γ))).2) = wK 3 2 1 (x_X7_wins a1 a2 a3 γ).1 ∧ (wK 3 2 1 (x_X7_wins a1 a2 a3 γ).1 = 0 → gL ((x_X8_wins a1 a2 a3 (wG (x_X7_wins a1 a2 a3 γ))).2) 41 0 = (x_X8_wins a1 a2 a3 (wG (x_X7_wins a1 a2 a3 γ))).1.toInt64) ∧ Inv (n + 1) nb np ((x_X8_wins a1 a2 a3 (wG (x_X7_wins a1 a2 a3 γ))).2)
def SP_lamp (Inv : Nat → Nat → Nat → St → Prop) : Prop := ∀ (n nb np : Nat) (γ : St) (a1 : Int32), n < 512 → Inv n nb np γ → ok_X7_lamp a1 γ ∧ eIn 0 1 0 (x_X7_lamp a1 γ).1 ∧ ok_X8_lamp a1 (wG (x_X7_lamp a1 γ)) ∧ x_X8_thrown ((x_X8_lamp a1 (wG (x_X7_lamp a1 γ))).2) = wK 0 1 0 (x_X7_lamp a1 γ).1 ∧ (wK 0 1 0 (x_X7_lamp a1 γ).1 = 0 → gL ((x_X8_lamp a1 (wG (x_X7_lamp a1 γ))).2) 41 0 = (x_X8_lamp a1 (wG (x_X7_lamp a1 γ))).1.toInt64) ∧ Inv (n + 1) nb np ((x_X8_lamp a1 (wG (x_X7_lamp a1 γ))).2)
def SP_holder (Inv : Nat → Nat → Nat → St → Prop) : Prop := ∀ (n nb np : Nat) (γ : St), n < 512 → Inv n nb np γ → ok_X7_holder γ ∧ ok_X8_holder ((x_X7_holder γ).2) ∧ (x_X7_holder γ).1 = (x_X8_holder ((x_X7_holder γ).2)).1 ∧ Inv (n + 1) nb np ((x_X8_holder ((x_X7_holder γ).2)).2)
def SP_reason (Inv : Nat → Nat → Nat → St → Prop) : Prop := ∀ (n nb np : Nat) (γ : St), n < 512 → Inv n nb np γ → x_X7_reason γ = (x_X8_reason γ).1 ∧ Inv (n + 1) nb np ((x_X8_reason γ).2)
def SP_ofBout (Inv : Nat → Nat → Nat → St → Prop) : Prop := ∀ (n nb np : Nat) (γ : St) (a1 : Int32) (a2 : Int32), n < 512 → Inv n nb np γ → ok_X7_ofBout a1 a2 γ ∧ eIn 0 2 1 (x_X7_ofBout a1 a2 γ).1 ∧ ok_X8_ofBout a1 a2 (wG (x_X7_ofBout a1 a2 γ)) ∧ x_X8_thrown ((x_X8_ofBout a1 a2 (wG (x_X7_ofBout a1 a2 γ))).2) = wK 0 2 1 (x_X7_ofBout a1 a2 γ).1 ∧ (wK 0 2 1 (x_X7_ofBout a1 a2 γ).1 = 0 → gL ((x_X8_ofBout a1 a2 (wG (x_X7_ofBout a1 a2 γ))).2) 41 0 = (x_X8_ofBout a1 a2 (wG (x_X7_ofBout a1 a2 γ))).1.toInt64) ∧ Inv (n + 1) nb np ((x_X8_ofBout a1 a2 (wG (x_X7_ofBout a1 a2 γ))).2)
def SP_ofPool (Inv : Nat → Nat → Nat → St → Prop) : Prop := ∀ (n nb np : Nat) (γ : St) (a1 : Int32) (a2 : Int32) (a3 : Int32), n < 512 → Inv n nb np γ → ok_X7_ofPool a1 a2 a3 γ ∧ eIn 0 2 1 (x_X7_ofPool a1 a2 a3 γ).1 ∧ ok_X8_ofPool a1 a2 a3 (wG (x_X7_ofPool a1 a2 a3 γ)) ∧ x_X8_thrown ((x_X8_ofPool a1 a2 a3 (wG (x_X7_ofPool a1 a2 a3 γ))).2) = wK 0 2 1 (x_X7_ofPool a1 a2 a3 γ).1 ∧ (wK 0 2 1 (x_X7_ofPool a1 a2 a3 γ).1 = 0 → gL ((x_X8_ofPool a1 a2 a3 (wG (x_X7_ofPool a1 a2 a3 γ))).2) 41 0 = (x_X8_ofPool a1 a2 a3 (wG (x_X7_ofPool a1 a2 a3 γ))).1.toInt64) ∧ Inv (n + 1) nb np ((x_X8_ofPool a1 a2 a3 (wG (x_X7_ofPool a1 a2 a3 γ))).2)
def SP_ofPoolAnew (Inv : Nat → Nat → Nat → St → Prop) : Prop := ∀ (n nb np : Nat) (γ : St) (a1 : Int32) (a2 : Int32) (a3 : Int32), n < 512 → Inv n nb np γ → ok_X7_ofPoolAnew a1 a2 a3 γ ∧ eIn 0 2 1 (x_X7_ofPoolAnew a1 a2 a3 γ).1 ∧ ok_X8_ofPoolAnew a1 a2 a3 (wG (x_X7_ofPoolAnew a1 a2 a3 γ)) ∧ x_X8_thrown ((x_X8_ofPoolAnew a1 a2 a3 (wG (x_X7_ofPoolAnew a1 a2 a3 γ))).2) = wK 0 2 1 (x_X7_ofPoolAnew a1 a2 a3 γ).1 ∧ (wK 0 2 1 (x_X7_ofPoolAnew a1 a2 a3 γ).1 = 0 → gL ((x_X8_ofPoolAnew a1 a2 a3 (wG (x_X7_ofPoolAnew a1 a2 a3 γ))).2) 41 0 = (x_X8_ofPoolAnew a1 a2 a3 (wG (x_X7_ofPoolAnew a1 a2 a3 γ))).1.toInt64) ∧ Inv (n + 1) nb np ((x_X8_ofPoolAnew a1 a2 a3 (wG (x_X7_ofPoolAnew a1 a2 a3 γ))).2)
def SP_rank (Inv : Nat → Nat → Nat → St → Prop) : Prop := ∀ (n nb np : Nat) (γ : St) (a1 : Int32) (a2 : Int32), n < 512 → Inv n nb np γ → ok_X7_rank a1 a2 γ ∧ eIn 0 0 1 (x_X7_rank a1 a2 γ).1 ∧ ok_X8_rank a1 a2 (wG (x_X7_rank a1 a2 γ)) ∧ x_X8_thrown ((x_X8_rank a1 a2 (wG (x_X7_rank a1 a2 γ))).2) = wK 0 0 1 (x_X7_rank a1 a2 γ).1 ∧ (wK 0 0 1 (x_X7_rank a1 a2 γ).1 = 0 → gL ((x_X8_rank a1 a2 (wG (x_X7_rank a1 a2 γ))).2) 41 0 = (x_X8_rank a1 a2 (wG (x_X7_rank a1 a2 γ))).1.toInt64) ∧ Inv (n + 1) nb np ((x_X8_rank a1 a2 (wG (x_X7_rank a1 a2 γ))).2)
def SP_meets (Inv : Nat → Nat → Nat → St → Prop) : Prop := ∀ (n nb np : Nat) (γ : St) (a1 : Int32) (a2 : Int32) (a3 : Int32), n < 512 → Inv n nb np γ → ok_X7_meets a1 a2 a3 γ ∧ eIn 0 2 1 (x_X7_meets a1 a2 a3 γ).1 ∧ ok_X8_meets a1 a2 a3 (wG (x_X7_meets a1 a2 a3 γ)) ∧ x_X8_thrown ((x_X8_meets a1 a2 a3 (wG (x_X7_meets a1 a2 a3 γ))).2) = wK 0 2 1 (x_X7_meets a1 a2 a3 γ).1 ∧ (wK 0 2 1 (x_X7_meets a1 a2 a3 γ).1 = 0 → gL ((x_X8_meets a1 a2 a3 (wG (x_X7_meets a1 a2 a3 γ))).2) 41 0 = (x_X8_meets a1 a2 a3 (wG (x_X7_meets a1 a2 a3 γ))).1.toInt64) ∧ Inv (n + 1) nb np ((x_X8_meets a1 a2 a3 (wG (x_X7_meets a1 a2 a3 γ))).2)
set_option maxRecDepth 20000 in
set_option maxHeartbeats 4000000 in
theorem lc_fencer {Inv : Nat → Nat → Nat → St → Prop} (hst : SP_fencer Inv) {p : Program} {l : Launch} (hfl : l.stackTraces = false) {e : Env} {s : State} {m : MethodId} {b L : Nat} {xs : Nat → Int32} {below : List Frame} {meth : Method} {c : Code} {Q : State → Prop} {n : Nat} {iv : Int32} (hn : n < 512) (hX : va_X b L xs s s.heap) (hbl : b < s.heap.size) (hin : ∀ j : Int32, 0 < j → j < 6 → vp_in (iv + j) L) (hnext : LQ Inv p l e s m b below meth c Q 1426 (n + 1) (n + 1) iv) : LQ Inv p l e s m b below meth c Q 140 n n iv := by
  intro κ γ H locs ls cells slots hC hB0 hH hS hl hI hc1 hc2
  obtain ⟨hx, hb, hown, hT, -, -, -, -, hml, hlk⟩ := id hC
  have hbA : ¬ (AA κ) b := by show ¬ kB κ ≤ b; rw [hB0]; omega
  obtain ⟨h0, h1, h2, h3⟩ := hst n (kN κ) (kO κ) γ hn hI
  refine lv_aload_n hx hb dL_law_140 rfl (lv_at hl 1 rfl) ?_
  refine lv_aload_n hx hb dL_law_141 rfl (lv_at hl 3 rfl) ?_
  refine k_xcallW (rest := []) hC hl hH hS (cw_fencer l hfl κ γ h0) tw_234 tw_235 tw_56 tw_236 hdl_fencer ⟨Nat.le_of_ble_eq_true rfl, Nat.le_of_ble_eq_true rfl⟩ rfl rfl rfl rfl (Nat.le_of_ble_eq_true rfl) dL_law_142 ⟨by show cells + 1 ≤ 601024; omega, by show slots + 6 ≤ 7293033; omega⟩ rfl (fun κ9 H locs hke hkN hkO hH hS => ?_)
  have hC9 := hC.ke hke
  have e7 : kA κ9 7 0 = kA κ 7 0 := (hke.2.2.2 7 0 lv_7).2
  have e8 : kA κ9 8 0 = kA κ 8 0 := (hke.2.2.2 8 0 lv_8).2
  have e41 : kA κ9 41 0 = kA κ 41 0 := (hke.2.2.2 41 0 lv_41).2
  rw [← AA_ke hke] at hS
  rw [← e7, ← e8, ← e41] at hl
  have hbA : ¬ (AA κ9) b := by rw [AA_ke hke]; exact hbA
  refine lv_istore (lv' := [(5, .int (wK 1 0 0 (x_X7_fencer γ).1)), (0, .ref b), (1, .ref (kA κ9 7 0)), (2, .ref (kA κ9 8 0)), (3, .ref (kA κ9 41 0)), (4, .int iv)]) hx hb dL_law_145 hl (by decide) rfl (fun ls hl => ?_)
  refine lv_aload_n hx hb dL_law_147 rfl (lv_at hl 3 rfl) ?_
  refine k_callV (C := RX8) (T := TX8) (N := 32) (rest := []) hC9 hl hH hS (c_X8_fencer l κ9 (wG (x_X7_fencer γ))) lv_8 rfl rfl tw_1024 tw_1025 tw_1026 tw_62 tw_1027 hd_X8_fencer ⟨Nat.le_of_ble_eq_true rfl, Nat.le_of_ble_eq_true rfl⟩ rfl rfl rfl rfl (Nat.le_of_ble_eq_true rfl) dL_law_148 ⟨by show cells + 1 ≤ 601024; omega, by show slots + 6 ≤ 7293033; omega⟩ rfl (fun H locs hH hS => ?_)
  refine lv_istore (lv' := [(6, .int (x_X8_fencer (wG (x_X7_fencer γ))).1), (5, .int (wK 1 0 0 (x_X7_fencer γ).1)), (0, .ref b), (1, .ref (kA κ9 7 0)), (2, .ref (kA κ9 8 0)), (3, .ref (kA κ9 41 0)), (4, .int iv)]) hx hb dL_law_151 hl (by decide) rfl (fun ls hl => ?_)
  refine lv_aload_n hx hb dL_law_153 rfl (lv_at hl 4 rfl) ?_
  refine k_callV (C := RX8) (T := TX8) (N := 32) (rest := []) hC9 hl hH hS (c_X8_thrown l κ9 ((x_X8_fencer (wG (x_X7_fencer γ))).2)) lv_8 rfl rfl tw_1020 tw_1021 tw_1022 tw_62 tw_1023 hd_X8_thrown ⟨Nat.le_of_ble_eq_true rfl, Nat.le_of_ble_eq_true rfl⟩ rfl rfl rfl rfl (Nat.le_of_ble_eq_true rfl) dL_law_154 ⟨by show cells + 1 ≤ 601024; omega, by show slots + 6 ≤ 7293033; omega⟩ rfl (fun H locs hH hS => ?_)
  refine lv_iload hx hb dL_law_157 (lv_at hl 1 rfl) ?_
  refine lv_icmp_eq (tgt := 164) hx hb dL_law_159 (by decide) (fun c1 => ?_) (fun c1 => ?_)
  rotate_left
  · exact absurd h1 c1
  refine lv_iload hx hb dL_law_164 (lv_at hl 1 rfl) ?_
  refine lv_if_ne (tgt := 181) hx hb dL_law_166 (by decide) (fun c2 => ?_) (fun c2 => ?_)
  · refine lv_goto (tgt := 1426) hx hb dL_law_181 (by decide) ?_
    exact hnext κ9 _ H locs ls _ _ hC9 (hke.2.2.1.trans hB0) hH hS (lv_sub hl [2, 3, 4, 5, 6] rfl) (by rw [hkN, hkO]; exact h3) (by omega) (by omega)
  refine lv_aload_n hx hb dL_law_169 rfl (lv_at hl 5 rfl) ?_
  refine lv_iconst (v := 0) hx hb dL_law_170 (by decide) ?_
  refine hp_lld (v := gL ((x_X8_fencer (wG (x_X7_fencer γ))).2) 41 0) hC9 hH lv_41 rfl vp01 rfl dL_law_171 ?_
  refine lv_iload hx hb dL_law_172 (lv_at hl 0 rfl) ?_
  refine lv_i2l (v := ((x_X8_fencer (wG (x_X7_fencer γ))).1).toInt64) hx hb dL_law_174 rfl ?_
  refine W.lcmp hx hb dL_law_175 ?_
  refine lv_if_eq (tgt := 181) hx hb dL_law_176 (by decide) (fun c3 => ?_) (fun c3 => ?_)
  rotate_left
  · exact absurd (by rw [h2 c2]; exact lg_cmp_self _) c3
  refine lv_goto (tgt := 1426) hx hb dL_law_181 (by decide) ?_
  exact hnext κ9 _ H locs ls _ _ hC9 (hke.2.2.1.trans hB0) hH hS (lv_sub hl [2, 3, 4, 5, 6] rfl) (by rw [hkN, hkO]; exact h3) (by omega) (by omega)
set_option maxRecDepth 20000 in
set_option maxHeartbeats 4000000 in
theorem lc_begin {Inv : Nat → Nat → Nat → St → Prop} (hst : SP_begin Inv) {p : Program} {l : Launch} (hfl : l.stackTraces = false) {e : Env} {s : State} {m : MethodId} {b L : Nat} {xs : Nat → Int32} {below : List Frame} {meth : Method} {c : Code} {Q : State → Prop} {n : Nat} {iv : Int32} (hn : n < 512) (hX : va_X b L xs s s.heap) (hbl : b < s.heap.size) (hin : ∀ j : Int32, 0 < j → j < 6 → vp_in (iv + j) L) (hnext : LQ Inv p l e s m b below meth c Q 1426 (n + 1) (n + 1) iv) : LQ Inv p l e s m b below meth c Q 184 n n iv := by
  intro κ γ H locs ls cells slots hC hB0 hH hS hl hI hc1 hc2
  obtain ⟨hx, hb, hown, hT, -, -, -, -, hml, hlk⟩ := id hC
  have hbA : ¬ (AA κ) b := by show ¬ kB κ ≤ b; rw [hB0]; omega
  obtain ⟨h0, h1, h2, h3, h4, h5, h6⟩ := hst n (kN κ) (kO κ) γ (xs ((iv + 1 : Int32).toNatClampNeg)) (xs ((iv + 2 : Int32).toNatClampNeg)) (xs ((iv + 3 : Int32).toNatClampNeg)) (xs ((iv + 4 : Int32).toNatClampNeg)) (xs ((iv + 5 : Int32).toNatClampNeg)) hn hI
  refine lv_aload_n hx hb dL_law_184 rfl (lv_at hl 1 rfl) ?_
  refine lv_aload_n hx hb dL_law_185 rfl (lv_at hl 0 rfl) ?_
  refine lv_iload hx hb dL_law_186 (lv_at hl 4 rfl) ?_
  refine lv_iconst (v := 1) hx hb dL_law_188 (by decide) ?_
  refine lv_iadd hx hb dL_law_189 ?_
  refine va_sld (A := AA κ) hx hb hX hbl hbA hS (hin 1 (by decide) (by decide)) dL_law_190 ?_
  refine lv_aload_n hx hb dL_law_191 rfl (lv_at hl 0 rfl) ?_
  refine lv_iload hx hb dL_law_192 (lv_at hl 4 rfl) ?_
  refine lv_iconst (v := 2) hx hb dL_law_194 (by decide) ?_
  refine lv_iadd hx hb dL_law_195 ?_
  refine va_sld (A := AA κ) hx hb hX hbl hbA hS (hin 2 (by decide) (by decide)) dL_law_196 ?_
  refine lv_aload_n hx hb dL_law_197 rfl (lv_at hl 0 rfl) ?_
  refine lv_iload hx hb dL_law_198 (lv_at hl 4 rfl) ?_
  refine lv_iconst (v := 3) hx hb dL_law_200 (by decide) ?_
  refine lv_iadd hx hb dL_law_201 ?_
  refine va_sld (A := AA κ) hx hb hX hbl hbA hS (hin 3 (by decide) (by decide)) dL_law_202 ?_
  refine lv_aload_n hx hb dL_law_203 rfl (lv_at hl 0 rfl) ?_
  refine lv_iload hx hb dL_law_204 (lv_at hl 4 rfl) ?_
  refine lv_iconst (v := 4) hx hb dL_law_206 (by decide) ?_
  refine lv_iadd hx hb dL_law_207 ?_
  refine va_sld (A := AA κ) hx hb hX hbl hbA hS (hin 4 (by decide) (by decide)) dL_law_208 ?_
  refine lv_aload_n hx hb dL_law_209 rfl (lv_at hl 0 rfl) ?_
  refine lv_iload hx hb dL_law_210 (lv_at hl 4 rfl) ?_
  refine lv_iconst (v := 5) hx hb dL_law_212 (by decide) ?_
  refine lv_iadd hx hb dL_law_213 ?_
  refine va_sld (A := AA κ) hx hb hX hbl hbA hS (hin 5 (by decide) (by decide)) dL_law_214 ?_
  refine lv_aload_n hx hb dL_law_215 rfl (lv_at hl 3 rfl) ?_
  refine k_xcallW (rest := []) hC hl hH hS (cw_begin l hfl κ γ (xs ((iv + 1 : Int32).toNatClampNeg)) (xs ((iv + 2 : Int32).toNatClampNeg)) (xs ((iv + 3 : Int32).toNatClampNeg)) (xs ((iv + 4 : Int32).toNatClampNeg)) (xs ((iv + 5 : Int32).toNatClampNeg)) h5 h0 h1) tw_310 tw_311 tw_56 tw_312 hdl_begin ⟨Nat.le_of_ble_eq_true rfl, Nat.le_of_ble_eq_true rfl⟩ rfl rfl rfl rfl (Nat.le_of_ble_eq_true rfl) dL_law_216 ⟨by show cells + 3 ≤ 601024; omega, by show slots + 18 ≤ 7293033; omega⟩ rfl (fun κ9 H locs hke hkN hkO hH hS => ?_)
  have hC9 := hC.ke hke
  have e7 : kA κ9 7 0 = kA κ 7 0 := (hke.2.2.2 7 0 lv_7).2
  have e8 : kA κ9 8 0 = kA κ 8 0 := (hke.2.2.2 8 0 lv_8).2
  have e41 : kA κ9 41 0 = kA κ 41 0 := (hke.2.2.2 41 0 lv_41).2
  rw [← AA_ke hke] at hS
  rw [← e7, ← e8, ← e41] at hl
  have hbA : ¬ (AA κ9) b := by rw [AA_ke hke]; exact hbA
  refine lv_istore (lv' := [(5, .int (wK 3 2 1 (x_X7_begin (xs ((iv + 1 : Int32).toNatClampNeg)) (xs ((iv + 2 : Int32).toNatClampNeg)) (xs ((iv + 3 : Int32).toNatClampNeg)) (xs ((iv + 4 : Int32).toNatClampNeg)) (xs ((iv + 5 : Int32).toNatClampNeg)) γ).1)), (0, .ref b), (1, .ref (kA κ9 7 0)), (2, .ref (kA κ9 8 0)), (3, .ref (kA κ9 41 0)), (4, .int iv)]) hx hb dL_law_219 hl (by decide) rfl (fun ls hl => ?_)
  refine lv_aload_n hx hb dL_law_221 rfl (lv_at hl 3 rfl) ?_
  refine lv_aload_n hx hb dL_law_222 rfl (lv_at hl 1 rfl) ?_
  refine lv_iload hx hb dL_law_223 (lv_at hl 5 rfl) ?_
  refine lv_iconst (v := 1) hx hb dL_law_225 (by decide) ?_
  refine lv_iadd hx hb dL_law_226 ?_
  refine va_sld (A := AA κ9) hx hb hX hbl hbA hS (hin 1 (by decide) (by decide)) dL_law_227 ?_
  refine lv_aload_n hx hb dL_law_228 rfl (lv_at hl 1 rfl) ?_
  refine lv_iload hx hb dL_law_229 (lv_at hl 5 rfl) ?_
  refine lv_iconst (v := 2) hx hb dL_law_231 (by decide) ?_
  refine lv_iadd hx hb dL_law_232 ?_
  refine va_sld (A := AA κ9) hx hb hX hbl hbA hS (hin 2 (by decide) (by decide)) dL_law_233 ?_
  refine lv_aload_n hx hb dL_law_234 rfl (lv_at hl 1 rfl) ?_
  refine lv_iload hx hb dL_law_235 (lv_at hl 5 rfl) ?_
  refine lv_iconst (v := 3) hx hb dL_law_237 (by decide) ?_
  refine lv_iadd hx hb dL_law_238 ?_
  refine va_sld (A := AA κ9) hx hb hX hbl hbA hS (hin 3 (by decide) (by decide)) dL_law_239 ?_
  refine lv_aload_n hx hb dL_law_240 rfl (lv_at hl 1 rfl) ?_
  refine lv_iload hx hb dL_law_241 (lv_at hl 5 rfl) ?_
  refine lv_iconst (v := 4) hx hb dL_law_243 (by decide) ?_
  refine lv_iadd hx hb dL_law_244 ?_
  refine va_sld (A := AA κ9) hx hb hX hbl hbA hS (hin 4 (by decide) (by decide)) dL_law_245 ?_
  refine lv_aload_n hx hb dL_law_246 rfl (lv_at hl 1 rfl) ?_
  refine lv_iload hx hb dL_law_247 (lv_at hl 5 rfl) ?_
  refine lv_iconst (v := 5) hx hb dL_law_249 (by decide) ?_
  refine lv_iadd hx hb dL_law_250 ?_
  refine va_sld (A := AA κ9) hx hb hX hbl hbA hS (hin 5 (by decide) (by decide)) dL_law_251 ?_
  refine k_callV (C := RX8) (T := TX8) (N := 32) (rest := []) hC9 hl hH hS (c_X8_begin l κ9 (wG (x_X7_begin (xs ((iv + 1 : Int32).toNatClampNeg)) (xs ((iv + 2 : Int32).toNatClampNeg)) (xs ((iv + 3 : Int32).toNatClampNeg)) (xs ((iv + 4 : Int32).toNatClampNeg)) (xs ((iv + 5 : Int32).toNatClampNeg)) γ)) ((xs ((iv + 1 : Int32).toNatClampNeg))) ((xs ((iv + 2 : Int32).toNatClampNeg))) ((xs ((iv + 3 : Int32).toNatClampNeg))) ((xs ((iv + 4 : Int32).toNatClampNeg))) ((xs ((iv + 5 : Int32).toNatClampNeg))) h2) lv_8 rfl rfl tw_1028 tw_1029 tw_1030 tw_62 tw_1031 hd_X8_begin ⟨Nat.le_of_ble_eq_true rfl, Nat.le_of_ble_eq_true rfl⟩ rfl rfl rfl rfl (Nat.le_of_ble_eq_true rfl) dL_law_252 ⟨by show cells + 3 ≤ 601024; omega, by show slots + 18 ≤ 7293033; omega⟩ rfl (fun H locs hH hS => ?_)
  refine lv_istore (lv' := [(6, .int (x_X8_begin ((xs ((iv + 1 : Int32).toNatClampNeg))) ((xs ((iv + 2 : Int32).toNatClampNeg))) ((xs ((iv + 3 : Int32).toNatClampNeg))) ((xs ((iv + 4 : Int32).toNatClampNeg))) ((xs ((iv + 5 : Int32).toNatClampNeg))) (wG (x_X7_begin (xs ((iv + 1 : Int32).toNatClampNeg)) (xs ((iv + 2 : Int32).toNatClampNeg)) (xs ((iv + 3 : Int32).toNatClampNeg)) (xs ((iv + 4 : Int32).toNatClampNeg)) (xs ((iv + 5 : Int32).toNatClampNeg)) γ))).1), (5, .int (wK 3 2 1 (x_X7_begin (xs ((iv + 1 : Int32).toNatClampNeg)) (xs ((iv + 2 : Int32).toNatClampNeg)) (xs ((iv + 3 : Int32).toNatClampNeg)) (xs ((iv + 4 : Int32).toNatClampNeg)) (xs ((iv + 5 : Int32).toNatClampNeg)) γ).1)), (0, .ref b), (1, .ref (kA κ9 7 0)), (2, .ref (kA κ9 8 0)), (3, .ref (kA κ9 41 0)), (4, .int iv)]) hx hb dL_law_255 hl (by decide) rfl (fun ls hl => ?_)
  refine lv_aload_n hx hb dL_law_257 rfl (lv_at hl 4 rfl) ?_
  refine k_callV (C := RX8) (T := TX8) (N := 32) (rest := []) hC9 hl hH hS (c_X8_thrown l κ9 ((x_X8_begin ((xs ((iv + 1 : Int32).toNatClampNeg))) ((xs ((iv + 2 : Int32).toNatClampNeg))) ((xs ((iv + 3 : Int32).toNatClampNeg))) ((xs ((iv + 4 : Int32).toNatClampNeg))) ((xs ((iv + 5 : Int32).toNatClampNeg))) (wG (x_X7_begin (xs ((iv + 1 : Int32).toNatClampNeg)) (xs ((iv + 2 : Int32).toNatClampNeg)) (xs ((iv + 3 : Int32).toNatClampNeg)) (xs ((iv + 4 : Int32).toNatClampNeg)) (xs ((iv + 5 : Int32).toNatClampNeg)) γ))).2)) lv_8 rfl rfl tw_1020 tw_1021 tw_1022 tw_62 tw_1023 hd_X8_thrown ⟨Nat.le_of_ble_eq_true rfl, Nat.le_of_ble_eq_true rfl⟩ rfl rfl rfl rfl (Nat.le_of_ble_eq_true rfl) dL_law_258 ⟨by show cells + 3 ≤ 601024; omega, by show slots + 18 ≤ 7293033; omega⟩ rfl (fun H locs hH hS => ?_)
  refine lv_iload hx hb dL_law_261 (lv_at hl 1 rfl) ?_
  refine lv_icmp_eq (tgt := 268) hx hb dL_law_263 (by decide) (fun c1 => ?_) (fun c1 => ?_)
  rotate_left
  · exact absurd h3 c1
  refine lv_iload hx hb dL_law_268 (lv_at hl 1 rfl) ?_
  refine lv_if_ne (tgt := 285) hx hb dL_law_270 (by decide) (fun c2 => ?_) (fun c2 => ?_)
  · refine lv_goto (tgt := 1426) hx hb dL_law_285 (by decide) ?_
    exact hnext κ9 _ H locs ls _ _ hC9 (hke.2.2.1.trans hB0) hH hS (lv_sub hl [2, 3, 4, 5, 6] rfl) (by rw [hkN, hkO]; exact h6) (by omega) (by omega)
  refine lv_aload_n hx hb dL_law_273 rfl (lv_at hl 5 rfl) ?_
  refine lv_iconst (v := 0) hx hb dL_law_274 (by decide) ?_
  refine hp_lld (v := gL ((x_X8_begin ((xs ((iv + 1 : Int32).toNatClampNeg))) ((xs ((iv + 2 : Int32).toNatClampNeg))) ((xs ((iv + 3 : Int32).toNatClampNeg))) ((xs ((iv + 4 : Int32).toNatClampNeg))) ((xs ((iv + 5 : Int32).toNatClampNeg))) (wG (x_X7_begin (xs ((iv + 1 : Int32).toNatClampNeg)) (xs ((iv + 2 : Int32).toNatClampNeg)) (xs ((iv + 3 : Int32).toNatClampNeg)) (xs ((iv + 4 : Int32).toNatClampNeg)) (xs ((iv + 5 : Int32).toNatClampNeg)) γ))).2) 41 0) hC9 hH lv_41 rfl vp01 rfl dL_law_275 ?_
  refine lv_iload hx hb dL_law_276 (lv_at hl 0 rfl) ?_
  refine lv_i2l (v := ((x_X8_begin ((xs ((iv + 1 : Int32).toNatClampNeg))) ((xs ((iv + 2 : Int32).toNatClampNeg))) ((xs ((iv + 3 : Int32).toNatClampNeg))) ((xs ((iv + 4 : Int32).toNatClampNeg))) ((xs ((iv + 5 : Int32).toNatClampNeg))) (wG (x_X7_begin (xs ((iv + 1 : Int32).toNatClampNeg)) (xs ((iv + 2 : Int32).toNatClampNeg)) (xs ((iv + 3 : Int32).toNatClampNeg)) (xs ((iv + 4 : Int32).toNatClampNeg)) (xs ((iv + 5 : Int32).toNatClampNeg)) γ))).1).toInt64) hx hb dL_law_278 rfl ?_
  refine W.lcmp hx hb dL_law_279 ?_
  refine lv_if_eq (tgt := 285) hx hb dL_law_280 (by decide) (fun c3 => ?_) (fun c3 => ?_)
  rotate_left
  · exact absurd (by rw [h4 c2]; exact lg_cmp_self _) c3
  refine lv_goto (tgt := 1426) hx hb dL_law_285 (by decide) ?_
  exact hnext κ9 _ H locs ls _ _ hC9 (hke.2.2.1.trans hB0) hH hS (lv_sub hl [2, 3, 4, 5, 6] rfl) (by rw [hkN, hkO]; exact h6) (by omega) (by omega)
set_option maxRecDepth 20000 in
set_option maxHeartbeats 4000000 in
theorem lc_act {Inv : Nat → Nat → Nat → St → Prop} (hst : SP_act Inv) {p : Program} {l : Launch} (hfl : l.stackTraces = false) {e : Env} {s : State} {m : MethodId} {b L : Nat} {xs : Nat → Int32} {below : List Frame} {meth : Method} {c : Code} {Q : State → Prop} {n : Nat} {iv : Int32} (hn : n < 512) (hX : va_X b L xs s s.heap) (hbl : b < s.heap.size) (hin : ∀ j : Int32, 0 < j → j < 6 → vp_in (iv + j) L) (hnext : LQ Inv p l e s m b below meth c Q 1426 (n + 1) (n + 1) iv) : LQ Inv p l e s m b below meth c Q 288 n n iv := by
  intro κ γ H locs ls cells slots hC hB0 hH hS hl hI hc1 hc2
  obtain ⟨hx, hb, hown, hT, -, -, -, -, hml, hlk⟩ := id hC
  have hbA : ¬ (AA κ) b := by show ¬ kB κ ≤ b; rw [hB0]; omega
  obtain ⟨h0, h1, h2, h3, h4, h5⟩ := hst n (kN κ) (kO κ) γ (xs ((iv + 1 : Int32).toNatClampNeg)) (xs ((iv + 2 : Int32).toNatClampNeg)) (xs ((iv + 3 : Int32).toNatClampNeg)) hn hI
  refine lv_aload_n hx hb dL_law_288 rfl (lv_at hl 1 rfl) ?_
  refine lv_aload_n hx hb dL_law_289 rfl (lv_at hl 0 rfl) ?_
  refine lv_iload hx hb dL_law_290 (lv_at hl 4 rfl) ?_
  refine lv_iconst (v := 1) hx hb dL_law_292 (by decide) ?_
  refine lv_iadd hx hb dL_law_293 ?_
  refine va_sld (A := AA κ) hx hb hX hbl hbA hS (hin 1 (by decide) (by decide)) dL_law_294 ?_
  refine lv_aload_n hx hb dL_law_295 rfl (lv_at hl 0 rfl) ?_
  refine lv_iload hx hb dL_law_296 (lv_at hl 4 rfl) ?_
  refine lv_iconst (v := 2) hx hb dL_law_298 (by decide) ?_
  refine lv_iadd hx hb dL_law_299 ?_
  refine va_sld (A := AA κ) hx hb hX hbl hbA hS (hin 2 (by decide) (by decide)) dL_law_300 ?_
  refine lv_aload_n hx hb dL_law_301 rfl (lv_at hl 0 rfl) ?_
  refine lv_iload hx hb dL_law_302 (lv_at hl 4 rfl) ?_
  refine lv_iconst (v := 3) hx hb dL_law_304 (by decide) ?_
  refine lv_iadd hx hb dL_law_305 ?_
  refine va_sld (A := AA κ) hx hb hX hbl hbA hS (hin 3 (by decide) (by decide)) dL_law_306 ?_
  refine lv_aload_n hx hb dL_law_307 rfl (lv_at hl 3 rfl) ?_
  refine k_xcallW (rest := []) hC hl hH hS (cw_act l hfl κ γ (xs ((iv + 1 : Int32).toNatClampNeg)) (xs ((iv + 2 : Int32).toNatClampNeg)) (xs ((iv + 3 : Int32).toNatClampNeg)) h0 h1) tw_444 tw_445 tw_56 tw_446 hdl_act ⟨Nat.le_of_ble_eq_true rfl, Nat.le_of_ble_eq_true rfl⟩ rfl rfl rfl rfl (Nat.le_of_ble_eq_true rfl) dL_law_308 ⟨by show cells + 1 ≤ 601024; omega, by show slots + 6 ≤ 7293033; omega⟩ rfl (fun κ9 H locs hke hkN hkO hH hS => ?_)
  have hC9 := hC.ke hke
  have e7 : kA κ9 7 0 = kA κ 7 0 := (hke.2.2.2 7 0 lv_7).2
  have e8 : kA κ9 8 0 = kA κ 8 0 := (hke.2.2.2 8 0 lv_8).2
  have e41 : kA κ9 41 0 = kA κ 41 0 := (hke.2.2.2 41 0 lv_41).2
  rw [← AA_ke hke] at hS
  rw [← e7, ← e8, ← e41] at hl
  have hbA : ¬ (AA κ9) b := by rw [AA_ke hke]; exact hbA
  refine lv_istore (lv' := [(5, .int (wK 2 1 0 (x_X7_act (xs ((iv + 1 : Int32).toNatClampNeg)) (xs ((iv + 2 : Int32).toNatClampNeg)) (xs ((iv + 3 : Int32).toNatClampNeg)) γ).1)), (0, .ref b), (1, .ref (kA κ9 7 0)), (2, .ref (kA κ9 8 0)), (3, .ref (kA κ9 41 0)), (4, .int iv)]) hx hb dL_law_311 hl (by decide) rfl (fun ls hl => ?_)
  refine lv_aload_n hx hb dL_law_313 rfl (lv_at hl 3 rfl) ?_
  refine lv_aload_n hx hb dL_law_314 rfl (lv_at hl 1 rfl) ?_
  refine lv_iload hx hb dL_law_315 (lv_at hl 5 rfl) ?_
  refine lv_iconst (v := 1) hx hb dL_law_317 (by decide) ?_
  refine lv_iadd hx hb dL_law_318 ?_
  refine va_sld (A := AA κ9) hx hb hX hbl hbA hS (hin 1 (by decide) (by decide)) dL_law_319 ?_
  refine lv_aload_n hx hb dL_law_320 rfl (lv_at hl 1 rfl) ?_
  refine lv_iload hx hb dL_law_321 (lv_at hl 5 rfl) ?_
  refine lv_iconst (v := 2) hx hb dL_law_323 (by decide) ?_
  refine lv_iadd hx hb dL_law_324 ?_
  refine va_sld (A := AA κ9) hx hb hX hbl hbA hS (hin 2 (by decide) (by decide)) dL_law_325 ?_
  refine lv_aload_n hx hb dL_law_326 rfl (lv_at hl 1 rfl) ?_
  refine lv_iload hx hb dL_law_327 (lv_at hl 5 rfl) ?_
  refine lv_iconst (v := 3) hx hb dL_law_329 (by decide) ?_
  refine lv_iadd hx hb dL_law_330 ?_
  refine va_sld (A := AA κ9) hx hb hX hbl hbA hS (hin 3 (by decide) (by decide)) dL_law_331 ?_
  refine k_callV (C := RX8) (T := TX8) (N := 32) (rest := []) hC9 hl hH hS (c_X8_act l κ9 (wG (x_X7_act (xs ((iv + 1 : Int32).toNatClampNeg)) (xs ((iv + 2 : Int32).toNatClampNeg)) (xs ((iv + 3 : Int32).toNatClampNeg)) γ)) ((xs ((iv + 1 : Int32).toNatClampNeg))) ((xs ((iv + 2 : Int32).toNatClampNeg))) ((xs ((iv + 3 : Int32).toNatClampNeg))) h2) lv_8 rfl rfl tw_1046 tw_1047 tw_1048 tw_62 tw_1049 hd_X8_act ⟨Nat.le_of_ble_eq_true rfl, Nat.le_of_ble_eq_true rfl⟩ rfl rfl rfl rfl (Nat.le_of_ble_eq_true rfl) dL_law_332 ⟨by show cells + 1 ≤ 601024; omega, by show slots + 6 ≤ 7293033; omega⟩ rfl (fun H locs hH hS => ?_)
  refine lv_istore (lv' := [(6, .int (x_X8_act ((xs ((iv + 1 : Int32).toNatClampNeg))) ((xs ((iv + 2 : Int32).toNatClampNeg))) ((xs ((iv + 3 : Int32).toNatClampNeg))) (wG (x_X7_act (xs ((iv + 1 : Int32).toNatClampNeg)) (xs ((iv + 2 : Int32).toNatClampNeg)) (xs ((iv + 3 : Int32).toNatClampNeg)) γ))).1), (5, .int (wK 2 1 0 (x_X7_act (xs ((iv + 1 : Int32).toNatClampNeg)) (xs ((iv + 2 : Int32).toNatClampNeg)) (xs ((iv + 3 : Int32).toNatClampNeg)) γ).1)), (0, .ref b), (1, .ref (kA κ9 7 0)), (2, .ref (kA κ9 8 0)), (3, .ref (kA κ9 41 0)), (4, .int iv)]) hx hb dL_law_335 hl (by decide) rfl (fun ls hl => ?_)
  refine lv_aload_n hx hb dL_law_337 rfl (lv_at hl 4 rfl) ?_
  refine k_callV (C := RX8) (T := TX8) (N := 32) (rest := []) hC9 hl hH hS (c_X8_thrown l κ9 ((x_X8_act ((xs ((iv + 1 : Int32).toNatClampNeg))) ((xs ((iv + 2 : Int32).toNatClampNeg))) ((xs ((iv + 3 : Int32).toNatClampNeg))) (wG (x_X7_act (xs ((iv + 1 : Int32).toNatClampNeg)) (xs ((iv + 2 : Int32).toNatClampNeg)) (xs ((iv + 3 : Int32).toNatClampNeg)) γ))).2)) lv_8 rfl rfl tw_1020 tw_1021 tw_1022 tw_62 tw_1023 hd_X8_thrown ⟨Nat.le_of_ble_eq_true rfl, Nat.le_of_ble_eq_true rfl⟩ rfl rfl rfl rfl (Nat.le_of_ble_eq_true rfl) dL_law_338 ⟨by show cells + 1 ≤ 601024; omega, by show slots + 6 ≤ 7293033; omega⟩ rfl (fun H locs hH hS => ?_)
  refine lv_iload hx hb dL_law_341 (lv_at hl 1 rfl) ?_
  refine lv_icmp_eq (tgt := 348) hx hb dL_law_343 (by decide) (fun c1 => ?_) (fun c1 => ?_)
  rotate_left
  · exact absurd h3 c1
  refine lv_iload hx hb dL_law_348 (lv_at hl 1 rfl) ?_
  refine lv_if_ne (tgt := 365) hx hb dL_law_350 (by decide) (fun c2 => ?_) (fun c2 => ?_)
  · refine lv_goto (tgt := 1426) hx hb dL_law_365 (by decide) ?_
    exact hnext κ9 _ H locs ls _ _ hC9 (hke.2.2.1.trans hB0) hH hS (lv_sub hl [2, 3, 4, 5, 6] rfl) (by rw [hkN, hkO]; exact h5) (by omega) (by omega)
  refine lv_aload_n hx hb dL_law_353 rfl (lv_at hl 5 rfl) ?_
  refine lv_iconst (v := 0) hx hb dL_law_354 (by decide) ?_
  refine hp_lld (v := gL ((x_X8_act ((xs ((iv + 1 : Int32).toNatClampNeg))) ((xs ((iv + 2 : Int32).toNatClampNeg))) ((xs ((iv + 3 : Int32).toNatClampNeg))) (wG (x_X7_act (xs ((iv + 1 : Int32).toNatClampNeg)) (xs ((iv + 2 : Int32).toNatClampNeg)) (xs ((iv + 3 : Int32).toNatClampNeg)) γ))).2) 41 0) hC9 hH lv_41 rfl vp01 rfl dL_law_355 ?_
  refine lv_iload hx hb dL_law_356 (lv_at hl 0 rfl) ?_
  refine lv_i2l (v := ((x_X8_act ((xs ((iv + 1 : Int32).toNatClampNeg))) ((xs ((iv + 2 : Int32).toNatClampNeg))) ((xs ((iv + 3 : Int32).toNatClampNeg))) (wG (x_X7_act (xs ((iv + 1 : Int32).toNatClampNeg)) (xs ((iv + 2 : Int32).toNatClampNeg)) (xs ((iv + 3 : Int32).toNatClampNeg)) γ))).1).toInt64) hx hb dL_law_358 rfl ?_
  refine W.lcmp hx hb dL_law_359 ?_
  refine lv_if_eq (tgt := 365) hx hb dL_law_360 (by decide) (fun c3 => ?_) (fun c3 => ?_)
  rotate_left
  · exact absurd (by rw [h4 c2]; exact lg_cmp_self _) c3
  refine lv_goto (tgt := 1426) hx hb dL_law_365 (by decide) ?_
  exact hnext κ9 _ H locs ls _ _ hC9 (hke.2.2.1.trans hB0) hH hS (lv_sub hl [2, 3, 4, 5, 6] rfl) (by rw [hkN, hkO]; exact h5) (by omega) (by omega)
set_option maxRecDepth 20000 in
set_option maxHeartbeats 4000000 in
theorem lc_hit {Inv : Nat → Nat → Nat → St → Prop} (hst : SP_hit Inv) {p : Program} {l : Launch} (hfl : l.stackTraces = false) {e : Env} {s : State} {m : MethodId} {b L : Nat} {xs : Nat → Int32} {below : List Frame} {meth : Method} {c : Code} {Q : State → Prop} {n : Nat} {iv : Int32} (hn : n < 512) (hX : va_X b L xs s s.heap) (hbl : b < s.heap.size) (hin : ∀ j : Int32, 0 < j → j < 6 → vp_in (iv + j) L) (hnext : LQ Inv p l e s m b below meth c Q 1426 (n + 1) (n + 1) iv) : LQ Inv p l e s m b below meth c Q 368 n n iv := by
  intro κ γ H locs ls cells slots hC hB0 hH hS hl hI hc1 hc2
  obtain ⟨hx, hb, hown, hT, -, -, -, -, hml, hlk⟩ := id hC
  have hbA : ¬ (AA κ) b := by show ¬ kB κ ≤ b; rw [hB0]; omega
  obtain ⟨h0, h1, h2, h3, h4, h5⟩ := hst n (kN κ) (kO κ) γ (xs ((iv + 1 : Int32).toNatClampNeg)) (xs ((iv + 2 : Int32).toNatClampNeg)) (xs ((iv + 3 : Int32).toNatClampNeg)) (xs ((iv + 4 : Int32).toNatClampNeg)) hn hI
  refine lv_aload_n hx hb dL_law_368 rfl (lv_at hl 1 rfl) ?_
  refine lv_aload_n hx hb dL_law_369 rfl (lv_at hl 0 rfl) ?_
  refine lv_iload hx hb dL_law_370 (lv_at hl 4 rfl) ?_
  refine lv_iconst (v := 1) hx hb dL_law_372 (by decide) ?_
  refine lv_iadd hx hb dL_law_373 ?_
  refine va_sld (A := AA κ) hx hb hX hbl hbA hS (hin 1 (by decide) (by decide)) dL_law_374 ?_
  refine lv_aload_n hx hb dL_law_375 rfl (lv_at hl 0 rfl) ?_
  refine lv_iload hx hb dL_law_376 (lv_at hl 4 rfl) ?_
  refine lv_iconst (v := 2) hx hb dL_law_378 (by decide) ?_
  refine lv_iadd hx hb dL_law_379 ?_
  refine va_sld (A := AA κ) hx hb hX hbl hbA hS (hin 2 (by decide) (by decide)) dL_law_380 ?_
  refine lv_aload_n hx hb dL_law_381 rfl (lv_at hl 0 rfl) ?_
  refine lv_iload hx hb dL_law_382 (lv_at hl 4 rfl) ?_
  refine lv_iconst (v := 3) hx hb dL_law_384 (by decide) ?_
  refine lv_iadd hx hb dL_law_385 ?_
  refine va_sld (A := AA κ) hx hb hX hbl hbA hS (hin 3 (by decide) (by decide)) dL_law_386 ?_
  refine lv_aload_n hx hb dL_law_387 rfl (lv_at hl 0 rfl) ?_
  refine lv_iload hx hb dL_law_388 (lv_at hl 4 rfl) ?_
  refine lv_iconst (v := 4) hx hb dL_law_390 (by decide) ?_
  refine lv_iadd hx hb dL_law_391 ?_
  refine va_sld (A := AA κ) hx hb hX hbl hbA hS (hin 4 (by decide) (by decide)) dL_law_392 ?_
  refine lv_aload_n hx hb dL_law_393 rfl (lv_at hl 3 rfl) ?_
  refine k_xcallW (rest := []) hC hl hH hS (cw_hit l hfl κ γ (xs ((iv + 1 : Int32).toNatClampNeg)) (xs ((iv + 2 : Int32).toNatClampNeg)) (xs ((iv + 3 : Int32).toNatClampNeg)) (xs ((iv + 4 : Int32).toNatClampNeg)) h0 h1) tw_481 tw_482 tw_56 tw_483 hdl_hit ⟨Nat.le_of_ble_eq_true rfl, Nat.le_of_ble_eq_true rfl⟩ rfl rfl rfl rfl (Nat.le_of_ble_eq_true rfl) dL_law_394 ⟨by show cells + 1 ≤ 601024; omega, by show slots + 6 ≤ 7293033; omega⟩ rfl (fun κ9 H locs hke hkN hkO hH hS => ?_)
  have hC9 := hC.ke hke
  have e7 : kA κ9 7 0 = kA κ 7 0 := (hke.2.2.2 7 0 lv_7).2
  have e8 : kA κ9 8 0 = kA κ 8 0 := (hke.2.2.2 8 0 lv_8).2
  have e41 : kA κ9 41 0 = kA κ 41 0 := (hke.2.2.2 41 0 lv_41).2
  rw [← AA_ke hke] at hS
  rw [← e7, ← e8, ← e41] at hl
  have hbA : ¬ (AA κ9) b := by rw [AA_ke hke]; exact hbA
  refine lv_istore (lv' := [(5, .int (wK 2 1 0 (x_X7_hit (xs ((iv + 1 : Int32).toNatClampNeg)) (xs ((iv + 2 : Int32).toNatClampNeg)) (xs ((iv + 3 : Int32).toNatClampNeg)) (xs ((iv + 4 : Int32).toNatClampNeg)) γ).1)), (0, .ref b), (1, .ref (kA κ9 7 0)), (2, .ref (kA κ9 8 0)), (3, .ref (kA κ9 41 0)), (4, .int iv)]) hx hb dL_law_397 hl (by decide) rfl (fun ls hl => ?_)
  refine lv_aload_n hx hb dL_law_399 rfl (lv_at hl 3 rfl) ?_
  refine lv_aload_n hx hb dL_law_400 rfl (lv_at hl 1 rfl) ?_
  refine lv_iload hx hb dL_law_401 (lv_at hl 5 rfl) ?_
  refine lv_iconst (v := 1) hx hb dL_law_403 (by decide) ?_
  refine lv_iadd hx hb dL_law_404 ?_
  refine va_sld (A := AA κ9) hx hb hX hbl hbA hS (hin 1 (by decide) (by decide)) dL_law_405 ?_
  refine lv_aload_n hx hb dL_law_406 rfl (lv_at hl 1 rfl) ?_
  refine lv_iload hx hb dL_law_407 (lv_at hl 5 rfl) ?_
  refine lv_iconst (v := 2) hx hb dL_law_409 (by decide) ?_
  refine lv_iadd hx hb dL_law_410 ?_
  refine va_sld (A := AA κ9) hx hb hX hbl hbA hS (hin 2 (by decide) (by decide)) dL_law_411 ?_
  refine lv_aload_n hx hb dL_law_412 rfl (lv_at hl 1 rfl) ?_
  refine lv_iload hx hb dL_law_413 (lv_at hl 5 rfl) ?_
  refine lv_iconst (v := 3) hx hb dL_law_415 (by decide) ?_
  refine lv_iadd hx hb dL_law_416 ?_
  refine va_sld (A := AA κ9) hx hb hX hbl hbA hS (hin 3 (by decide) (by decide)) dL_law_417 ?_
  refine lv_aload_n hx hb dL_law_418 rfl (lv_at hl 1 rfl) ?_
  refine lv_iload hx hb dL_law_419 (lv_at hl 5 rfl) ?_
  refine lv_iconst (v := 4) hx hb dL_law_421 (by decide) ?_
  refine lv_iadd hx hb dL_law_422 ?_
  refine va_sld (A := AA κ9) hx hb hX hbl hbA hS (hin 4 (by decide) (by decide)) dL_law_423 ?_
  refine k_callV (C := RX8) (T := TX8) (N := 32) (rest := []) hC9 hl hH hS (c_X8_hit l κ9 (wG (x_X7_hit (xs ((iv + 1 : Int32).toNatClampNeg)) (xs ((iv + 2 : Int32).toNatClampNeg)) (xs ((iv + 3 : Int32).toNatClampNeg)) (xs ((iv + 4 : Int32).toNatClampNeg)) γ)) ((xs ((iv + 1 : Int32).toNatClampNeg))) ((xs ((iv + 2 : Int32).toNatClampNeg))) ((xs ((iv + 3 : Int32).toNatClampNeg))) ((xs ((iv + 4 : Int32).toNatClampNeg))) h2) lv_8 rfl rfl tw_1062 tw_1063 tw_1064 tw_62 tw_1065 hd_X8_hit ⟨Nat.le_of_ble_eq_true rfl, Nat.le_of_ble_eq_true rfl⟩ rfl rfl rfl rfl (Nat.le_of_ble_eq_true rfl) dL_law_424 ⟨by show cells + 1 ≤ 601024; omega, by show slots + 6 ≤ 7293033; omega⟩ rfl (fun H locs hH hS => ?_)
  refine lv_istore (lv' := [(6, .int (x_X8_hit ((xs ((iv + 1 : Int32).toNatClampNeg))) ((xs ((iv + 2 : Int32).toNatClampNeg))) ((xs ((iv + 3 : Int32).toNatClampNeg))) ((xs ((iv + 4 : Int32).toNatClampNeg))) (wG (x_X7_hit (xs ((iv + 1 : Int32).toNatClampNeg)) (xs ((iv + 2 : Int32).toNatClampNeg)) (xs ((iv + 3 : Int32).toNatClampNeg)) (xs ((iv + 4 : Int32).toNatClampNeg)) γ))).1), (5, .int (wK 2 1 0 (x_X7_hit (xs ((iv + 1 : Int32).toNatClampNeg)) (xs ((iv + 2 : Int32).toNatClampNeg)) (xs ((iv + 3 : Int32).toNatClampNeg)) (xs ((iv + 4 : Int32).toNatClampNeg)) γ).1)), (0, .ref b), (1, .ref (kA κ9 7 0)), (2, .ref (kA κ9 8 0)), (3, .ref (kA κ9 41 0)), (4, .int iv)]) hx hb dL_law_427 hl (by decide) rfl (fun ls hl => ?_)
  refine lv_aload_n hx hb dL_law_429 rfl (lv_at hl 4 rfl) ?_
  refine k_callV (C := RX8) (T := TX8) (N := 32) (rest := []) hC9 hl hH hS (c_X8_thrown l κ9 ((x_X8_hit ((xs ((iv + 1 : Int32).toNatClampNeg))) ((xs ((iv + 2 : Int32).toNatClampNeg))) ((xs ((iv + 3 : Int32).toNatClampNeg))) ((xs ((iv + 4 : Int32).toNatClampNeg))) (wG (x_X7_hit (xs ((iv + 1 : Int32).toNatClampNeg)) (xs ((iv + 2 : Int32).toNatClampNeg)) (xs ((iv + 3 : Int32).toNatClampNeg)) (xs ((iv + 4 : Int32).toNatClampNeg)) γ))).2)) lv_8 rfl rfl tw_1020 tw_1021 tw_1022 tw_62 tw_1023 hd_X8_thrown ⟨Nat.le_of_ble_eq_true rfl, Nat.le_of_ble_eq_true rfl⟩ rfl rfl rfl rfl (Nat.le_of_ble_eq_true rfl) dL_law_430 ⟨by show cells + 1 ≤ 601024; omega, by show slots + 6 ≤ 7293033; omega⟩ rfl (fun H locs hH hS => ?_)
  refine lv_iload hx hb dL_law_433 (lv_at hl 1 rfl) ?_
  refine lv_icmp_eq (tgt := 440) hx hb dL_law_435 (by decide) (fun c1 => ?_) (fun c1 => ?_)
  rotate_left
  · exact absurd h3 c1
  refine lv_iload hx hb dL_law_440 (lv_at hl 1 rfl) ?_
  refine lv_if_ne (tgt := 457) hx hb dL_law_442 (by decide) (fun c2 => ?_) (fun c2 => ?_)
  · refine lv_goto (tgt := 1426) hx hb dL_law_457 (by decide) ?_
    exact hnext κ9 _ H locs ls _ _ hC9 (hke.2.2.1.trans hB0) hH hS (lv_sub hl [2, 3, 4, 5, 6] rfl) (by rw [hkN, hkO]; exact h5) (by omega) (by omega)
  refine lv_aload_n hx hb dL_law_445 rfl (lv_at hl 5 rfl) ?_
  refine lv_iconst (v := 0) hx hb dL_law_446 (by decide) ?_
  refine hp_lld (v := gL ((x_X8_hit ((xs ((iv + 1 : Int32).toNatClampNeg))) ((xs ((iv + 2 : Int32).toNatClampNeg))) ((xs ((iv + 3 : Int32).toNatClampNeg))) ((xs ((iv + 4 : Int32).toNatClampNeg))) (wG (x_X7_hit (xs ((iv + 1 : Int32).toNatClampNeg)) (xs ((iv + 2 : Int32).toNatClampNeg)) (xs ((iv + 3 : Int32).toNatClampNeg)) (xs ((iv + 4 : Int32).toNatClampNeg)) γ))).2) 41 0) hC9 hH lv_41 rfl vp01 rfl dL_law_447 ?_
  refine lv_iload hx hb dL_law_448 (lv_at hl 0 rfl) ?_
  refine lv_i2l (v := ((x_X8_hit ((xs ((iv + 1 : Int32).toNatClampNeg))) ((xs ((iv + 2 : Int32).toNatClampNeg))) ((xs ((iv + 3 : Int32).toNatClampNeg))) ((xs ((iv + 4 : Int32).toNatClampNeg))) (wG (x_X7_hit (xs ((iv + 1 : Int32).toNatClampNeg)) (xs ((iv + 2 : Int32).toNatClampNeg)) (xs ((iv + 3 : Int32).toNatClampNeg)) (xs ((iv + 4 : Int32).toNatClampNeg)) γ))).1).toInt64) hx hb dL_law_450 rfl ?_
  refine W.lcmp hx hb dL_law_451 ?_
  refine lv_if_eq (tgt := 457) hx hb dL_law_452 (by decide) (fun c3 => ?_) (fun c3 => ?_)
  rotate_left
  · exact absurd (by rw [h4 c2]; exact lg_cmp_self _) c3
  refine lv_goto (tgt := 1426) hx hb dL_law_457 (by decide) ?_
  exact hnext κ9 _ H locs ls _ _ hC9 (hke.2.2.1.trans hB0) hH hS (lv_sub hl [2, 3, 4, 5, 6] rfl) (by rw [hkN, hkO]; exact h5) (by omega) (by omega)
set_option maxRecDepth 20000 in
set_option maxHeartbeats 4000000 in
theorem lc_judge {Inv : Nat → Nat → Nat → St → Prop} (hst : SP_judge Inv) {p : Program} {l : Launch} (hfl : l.stackTraces = false) {e : Env} {s : State} {m : MethodId} {b L : Nat} {xs : Nat → Int32} {below : List Frame} {meth : Method} {c : Code} {Q : State → Prop} {n : Nat} {iv : Int32} (hn : n < 512) (hX : va_X b L xs s s.heap) (hbl : b < s.heap.size) (hin : ∀ j : Int32, 0 < j → j < 6 → vp_in (iv + j) L) (hnext : LQ Inv p l e s m b below meth c Q 1426 (n + 1) (n + 1) iv) : LQ Inv p l e s m b below meth c Q 460 n n iv := by
  intro κ γ H locs ls cells slots hC hB0 hH hS hl hI hc1 hc2
  obtain ⟨hx, hb, hown, hT, -, -, -, -, hml, hlk⟩ := id hC
  have hbA : ¬ (AA κ) b := by show ¬ kB κ ≤ b; rw [hB0]; omega
  obtain ⟨h0, h1, h2, h3, h4, h5⟩ := hst n (kN κ) (kO κ) γ hn hI
  refine lv_aload_n hx hb dL_law_460 rfl (lv_at hl 1 rfl) ?_
  refine lv_aload_n hx hb dL_law_461 rfl (lv_at hl 3 rfl) ?_
  refine k_xcallW (rest := []) hC hl hH hS (cw_judge l hfl κ γ h0 h1) tw_494 tw_495 tw_56 tw_496 hdl_judge ⟨Nat.le_of_ble_eq_true rfl, Nat.le_of_ble_eq_true rfl⟩ rfl rfl rfl rfl (Nat.le_of_ble_eq_true rfl) dL_law_462 ⟨by show cells + 1 ≤ 601024; omega, by show slots + 6 ≤ 7293033; omega⟩ rfl (fun κ9 H locs hke hkN hkO hH hS => ?_)
  have hC9 := hC.ke hke
  have e7 : kA κ9 7 0 = kA κ 7 0 := (hke.2.2.2 7 0 lv_7).2
  have e8 : kA κ9 8 0 = kA κ 8 0 := (hke.2.2.2 8 0 lv_8).2
  have e41 : kA κ9 41 0 = kA κ 41 0 := (hke.2.2.2 41 0 lv_41).2
  rw [← AA_ke hke] at hS
  rw [← e7, ← e8, ← e41] at hl
  have hbA : ¬ (AA κ9) b := by rw [AA_ke hke]; exact hbA
  refine lv_istore (lv' := [(5, .int (wK 1 0 0 (x_X7_judge γ).1)), (0, .ref b), (1, .ref (kA κ9 7 0)), (2, .ref (kA κ9 8 0)), (3, .ref (kA κ9 41 0)), (4, .int iv)]) hx hb dL_law_465 hl (by decide) rfl (fun ls hl => ?_)
  refine lv_aload_n hx hb dL_law_467 rfl (lv_at hl 3 rfl) ?_
  refine k_callV (C := RX8) (T := TX8) (N := 32) (rest := []) hC9 hl hH hS (c_X8_judge l κ9 (wG (x_X7_judge γ)) h2) lv_8 rfl rfl tw_1066 tw_1067 tw_1068 tw_62 tw_1069 hd_X8_judge ⟨Nat.le_of_ble_eq_true rfl, Nat.le_of_ble_eq_true rfl⟩ rfl rfl rfl rfl (Nat.le_of_ble_eq_true rfl) dL_law_468 ⟨by show cells + 1 ≤ 601024; omega, by show slots + 6 ≤ 7293033; omega⟩ rfl (fun H locs hH hS => ?_)
  refine lv_istore (lv' := [(6, .int (x_X8_judge (wG (x_X7_judge γ))).1), (5, .int (wK 1 0 0 (x_X7_judge γ).1)), (0, .ref b), (1, .ref (kA κ9 7 0)), (2, .ref (kA κ9 8 0)), (3, .ref (kA κ9 41 0)), (4, .int iv)]) hx hb dL_law_471 hl (by decide) rfl (fun ls hl => ?_)
  refine lv_aload_n hx hb dL_law_473 rfl (lv_at hl 4 rfl) ?_
  refine k_callV (C := RX8) (T := TX8) (N := 32) (rest := []) hC9 hl hH hS (c_X8_thrown l κ9 ((x_X8_judge (wG (x_X7_judge γ))).2)) lv_8 rfl rfl tw_1020 tw_1021 tw_1022 tw_62 tw_1023 hd_X8_thrown ⟨Nat.le_of_ble_eq_true rfl, Nat.le_of_ble_eq_true rfl⟩ rfl rfl rfl rfl (Nat.le_of_ble_eq_true rfl) dL_law_474 ⟨by show cells + 1 ≤ 601024; omega, by show slots + 6 ≤ 7293033; omega⟩ rfl (fun H locs hH hS => ?_)
  refine lv_iload hx hb dL_law_477 (lv_at hl 1 rfl) ?_
  refine lv_icmp_eq (tgt := 484) hx hb dL_law_479 (by decide) (fun c1 => ?_) (fun c1 => ?_)
  rotate_left
  · exact absurd h3 c1
  refine lv_iload hx hb dL_law_484 (lv_at hl 1 rfl) ?_
  refine lv_if_ne (tgt := 501) hx hb dL_law_486 (by decide) (fun c2 => ?_) (fun c2 => ?_)
  · refine lv_goto (tgt := 1426) hx hb dL_law_501 (by decide) ?_
    exact hnext κ9 _ H locs ls _ _ hC9 (hke.2.2.1.trans hB0) hH hS (lv_sub hl [2, 3, 4, 5, 6] rfl) (by rw [hkN, hkO]; exact h5) (by omega) (by omega)
  refine lv_aload_n hx hb dL_law_489 rfl (lv_at hl 5 rfl) ?_
  refine lv_iconst (v := 0) hx hb dL_law_490 (by decide) ?_
  refine hp_lld (v := gL ((x_X8_judge (wG (x_X7_judge γ))).2) 41 0) hC9 hH lv_41 rfl vp01 rfl dL_law_491 ?_
  refine lv_iload hx hb dL_law_492 (lv_at hl 0 rfl) ?_
  refine lv_i2l (v := ((x_X8_judge (wG (x_X7_judge γ))).1).toInt64) hx hb dL_law_494 rfl ?_
  refine W.lcmp hx hb dL_law_495 ?_
  refine lv_if_eq (tgt := 501) hx hb dL_law_496 (by decide) (fun c3 => ?_) (fun c3 => ?_)
  rotate_left
  · exact absurd (by rw [h4 c2]; exact lg_cmp_self _) c3
  refine lv_goto (tgt := 1426) hx hb dL_law_501 (by decide) ?_
  exact hnext κ9 _ H locs ls _ _ hC9 (hke.2.2.1.trans hB0) hH hS (lv_sub hl [2, 3, 4, 5, 6] rfl) (by rw [hkN, hkO]; exact h5) (by omega) (by omega)
set_option maxRecDepth 20000 in
set_option maxHeartbeats 4000000 in
theorem lc_card {Inv : Nat → Nat → Nat → St → Prop} (hst : SP_card Inv) {p : Program} {l : Launch} (hfl : l.stackTraces = false) {e : Env} {s : State} {m : MethodId} {b L : Nat} {xs : Nat → Int32} {below : List Frame} {meth : Method} {c : Code} {Q : State → Prop} {n : Nat} {iv : Int32} (hn : n < 512) (hX : va_X b L xs s s.heap) (hbl : b < s.heap.size) (hin : ∀ j : Int32, 0 < j → j < 6 → vp_in (iv + j) L) (hnext : LQ Inv p l e s m b below meth c Q 1426 (n + 1) (n + 1) iv) : LQ Inv p l e s m b below meth c Q 504 n n iv := by
  intro κ γ H locs ls cells slots hC hB0 hH hS hl hI hc1 hc2
  obtain ⟨hx, hb, hown, hT, -, -, -, -, hml, hlk⟩ := id hC
  have hbA : ¬ (AA κ) b := by show ¬ kB κ ≤ b; rw [hB0]; omega
  obtain ⟨h0, h1, h2, h3, h4, h5⟩ := hst n (kN κ) (kO κ) γ (xs ((iv + 1 : Int32).toNatClampNeg)) (xs ((iv + 2 : Int32).toNatClampNeg)) hn hI
  refine lv_aload_n hx hb dL_law_504 rfl (lv_at hl 1 rfl) ?_
  refine lv_aload_n hx hb dL_law_505 rfl (lv_at hl 0 rfl) ?_
  refine lv_iload hx hb dL_law_506 (lv_at hl 4 rfl) ?_
  refine lv_iconst (v := 1) hx hb dL_law_508 (by decide) ?_
  refine lv_iadd hx hb dL_law_509 ?_
  refine va_sld (A := AA κ) hx hb hX hbl hbA hS (hin 1 (by decide) (by decide)) dL_law_510 ?_
  refine lv_aload_n hx hb dL_law_511 rfl (lv_at hl 0 rfl) ?_
  refine lv_iload hx hb dL_law_512 (lv_at hl 4 rfl) ?_
  refine lv_iconst (v := 2) hx hb dL_law_514 (by decide) ?_
  refine lv_iadd hx hb dL_law_515 ?_
  refine va_sld (A := AA κ) hx hb hX hbl hbA hS (hin 2 (by decide) (by decide)) dL_law_516 ?_
  refine lv_aload_n hx hb dL_law_517 rfl (lv_at hl 3 rfl) ?_
  refine k_xcallW (rest := []) hC hl hH hS (cw_card l hfl κ γ (xs ((iv + 1 : Int32).toNatClampNeg)) (xs ((iv + 2 : Int32).toNatClampNeg)) h0 h1) tw_596 tw_597 tw_56 tw_598 hdl_card ⟨Nat.le_of_ble_eq_true rfl, Nat.le_of_ble_eq_true rfl⟩ rfl rfl rfl rfl (Nat.le_of_ble_eq_true rfl) dL_law_518 ⟨by show cells + 1 ≤ 601024; omega, by show slots + 6 ≤ 7293033; omega⟩ rfl (fun κ9 H locs hke hkN hkO hH hS => ?_)
  have hC9 := hC.ke hke
  have e7 : kA κ9 7 0 = kA κ 7 0 := (hke.2.2.2 7 0 lv_7).2
  have e8 : kA κ9 8 0 = kA κ 8 0 := (hke.2.2.2 8 0 lv_8).2
  have e41 : kA κ9 41 0 = kA κ 41 0 := (hke.2.2.2 41 0 lv_41).2
  rw [← AA_ke hke] at hS
  rw [← e7, ← e8, ← e41] at hl
  have hbA : ¬ (AA κ9) b := by rw [AA_ke hke]; exact hbA
  refine lv_istore (lv' := [(5, .int (wK 2 1 0 (x_X7_card (xs ((iv + 1 : Int32).toNatClampNeg)) (xs ((iv + 2 : Int32).toNatClampNeg)) γ).1)), (0, .ref b), (1, .ref (kA κ9 7 0)), (2, .ref (kA κ9 8 0)), (3, .ref (kA κ9 41 0)), (4, .int iv)]) hx hb dL_law_521 hl (by decide) rfl (fun ls hl => ?_)
  refine lv_aload_n hx hb dL_law_523 rfl (lv_at hl 3 rfl) ?_
  refine lv_aload_n hx hb dL_law_524 rfl (lv_at hl 1 rfl) ?_
  refine lv_iload hx hb dL_law_525 (lv_at hl 5 rfl) ?_
  refine lv_iconst (v := 1) hx hb dL_law_527 (by decide) ?_
  refine lv_iadd hx hb dL_law_528 ?_
  refine va_sld (A := AA κ9) hx hb hX hbl hbA hS (hin 1 (by decide) (by decide)) dL_law_529 ?_
  refine lv_aload_n hx hb dL_law_530 rfl (lv_at hl 1 rfl) ?_
  refine lv_iload hx hb dL_law_531 (lv_at hl 5 rfl) ?_
  refine lv_iconst (v := 2) hx hb dL_law_533 (by decide) ?_
  refine lv_iadd hx hb dL_law_534 ?_
  refine va_sld (A := AA κ9) hx hb hX hbl hbA hS (hin 2 (by decide) (by decide)) dL_law_535 ?_
  refine k_callV (C := RX8) (T := TX8) (N := 32) (rest := []) hC9 hl hH hS (c_X8_card l κ9 (wG (x_X7_card (xs ((iv + 1 : Int32).toNatClampNeg)) (xs ((iv + 2 : Int32).toNatClampNeg)) γ)) ((xs ((iv + 1 : Int32).toNatClampNeg))) ((xs ((iv + 2 : Int32).toNatClampNeg))) h2) lv_8 rfl rfl tw_1100 tw_1101 tw_1102 tw_62 tw_1103 hd_X8_card ⟨Nat.le_of_ble_eq_true rfl, Nat.le_of_ble_eq_true rfl⟩ rfl rfl rfl rfl (Nat.le_of_ble_eq_true rfl) dL_law_536 ⟨by show cells + 1 ≤ 601024; omega, by show slots + 6 ≤ 7293033; omega⟩ rfl (fun H locs hH hS => ?_)
  refine lv_istore (lv' := [(6, .int (x_X8_card ((xs ((iv + 1 : Int32).toNatClampNeg))) ((xs ((iv + 2 : Int32).toNatClampNeg))) (wG (x_X7_card (xs ((iv + 1 : Int32).toNatClampNeg)) (xs ((iv + 2 : Int32).toNatClampNeg)) γ))).1), (5, .int (wK 2 1 0 (x_X7_card (xs ((iv + 1 : Int32).toNatClampNeg)) (xs ((iv + 2 : Int32).toNatClampNeg)) γ).1)), (0, .ref b), (1, .ref (kA κ9 7 0)), (2, .ref (kA κ9 8 0)), (3, .ref (kA κ9 41 0)), (4, .int iv)]) hx hb dL_law_539 hl (by decide) rfl (fun ls hl => ?_)
  refine lv_aload_n hx hb dL_law_541 rfl (lv_at hl 4 rfl) ?_
  refine k_callV (C := RX8) (T := TX8) (N := 32) (rest := []) hC9 hl hH hS (c_X8_thrown l κ9 ((x_X8_card ((xs ((iv + 1 : Int32).toNatClampNeg))) ((xs ((iv + 2 : Int32).toNatClampNeg))) (wG (x_X7_card (xs ((iv + 1 : Int32).toNatClampNeg)) (xs ((iv + 2 : Int32).toNatClampNeg)) γ))).2)) lv_8 rfl rfl tw_1020 tw_1021 tw_1022 tw_62 tw_1023 hd_X8_thrown ⟨Nat.le_of_ble_eq_true rfl, Nat.le_of_ble_eq_true rfl⟩ rfl rfl rfl rfl (Nat.le_of_ble_eq_true rfl) dL_law_542 ⟨by show cells + 1 ≤ 601024; omega, by show slots + 6 ≤ 7293033; omega⟩ rfl (fun H locs hH hS => ?_)
  refine lv_iload hx hb dL_law_545 (lv_at hl 1 rfl) ?_
  refine lv_icmp_eq (tgt := 552) hx hb dL_law_547 (by decide) (fun c1 => ?_) (fun c1 => ?_)
  rotate_left
  · exact absurd h3 c1
  refine lv_iload hx hb dL_law_552 (lv_at hl 1 rfl) ?_
  refine lv_if_ne (tgt := 569) hx hb dL_law_554 (by decide) (fun c2 => ?_) (fun c2 => ?_)
  · refine lv_goto (tgt := 1426) hx hb dL_law_569 (by decide) ?_
    exact hnext κ9 _ H locs ls _ _ hC9 (hke.2.2.1.trans hB0) hH hS (lv_sub hl [2, 3, 4, 5, 6] rfl) (by rw [hkN, hkO]; exact h5) (by omega) (by omega)
  refine lv_aload_n hx hb dL_law_557 rfl (lv_at hl 5 rfl) ?_
  refine lv_iconst (v := 0) hx hb dL_law_558 (by decide) ?_
  refine hp_lld (v := gL ((x_X8_card ((xs ((iv + 1 : Int32).toNatClampNeg))) ((xs ((iv + 2 : Int32).toNatClampNeg))) (wG (x_X7_card (xs ((iv + 1 : Int32).toNatClampNeg)) (xs ((iv + 2 : Int32).toNatClampNeg)) γ))).2) 41 0) hC9 hH lv_41 rfl vp01 rfl dL_law_559 ?_
  refine lv_iload hx hb dL_law_560 (lv_at hl 0 rfl) ?_
  refine lv_i2l (v := ((x_X8_card ((xs ((iv + 1 : Int32).toNatClampNeg))) ((xs ((iv + 2 : Int32).toNatClampNeg))) (wG (x_X7_card (xs ((iv + 1 : Int32).toNatClampNeg)) (xs ((iv + 2 : Int32).toNatClampNeg)) γ))).1).toInt64) hx hb dL_law_562 rfl ?_
  refine W.lcmp hx hb dL_law_563 ?_
  refine lv_if_eq (tgt := 569) hx hb dL_law_564 (by decide) (fun c3 => ?_) (fun c3 => ?_)
  rotate_left
  · exact absurd (by rw [h4 c2]; exact lg_cmp_self _) c3
  refine lv_goto (tgt := 1426) hx hb dL_law_569 (by decide) ?_
  exact hnext κ9 _ H locs ls _ _ hC9 (hke.2.2.1.trans hB0) hH hS (lv_sub hl [2, 3, 4, 5, 6] rfl) (by rw [hkN, hkO]; exact h5) (by omega) (by omega)
set_option maxRecDepth 20000 in
set_option maxHeartbeats 4000000 in
theorem lc_clock {Inv : Nat → Nat → Nat → St → Prop} (hst : SP_clock Inv) {p : Program} {l : Launch} (hfl : l.stackTraces = false) {e : Env} {s : State} {m : MethodId} {b L : Nat} {xs : Nat → Int32} {below : List Frame} {meth : Method} {c : Code} {Q : State → Prop} {n : Nat} {iv : Int32} (hn : n < 512) (hX : va_X b L xs s s.heap) (hbl : b < s.heap.size) (hin : ∀ j : Int32, 0 < j → j < 6 → vp_in (iv + j) L) (hnext : LQ Inv p l e s m b below meth c Q 1426 (n + 1) (n + 1) iv) : LQ Inv p l e s m b below meth c Q 572 n n iv := by
  intro κ γ H locs ls cells slots hC hB0 hH hS hl hI hc1 hc2
  obtain ⟨hx, hb, hown, hT, -, -, -, -, hml, hlk⟩ := id hC
  have hbA : ¬ (AA κ) b := by show ¬ kB κ ≤ b; rw [hB0]; omega
  obtain ⟨h0, h1, h2, h3, h4, h5⟩ := hst n (kN κ) (kO κ) γ (xs ((iv + 1 : Int32).toNatClampNeg)) hn hI
  refine lv_aload_n hx hb dL_law_572 rfl (lv_at hl 1 rfl) ?_
  refine lv_aload_n hx hb dL_law_573 rfl (lv_at hl 0 rfl) ?_
  refine lv_iload hx hb dL_law_574 (lv_at hl 4 rfl) ?_
  refine lv_iconst (v := 1) hx hb dL_law_576 (by decide) ?_
  refine lv_iadd hx hb dL_law_577 ?_
  refine va_sld (A := AA κ) hx hb hX hbl hbA hS (hin 1 (by decide) (by decide)) dL_law_578 ?_
  refine lv_aload_n hx hb dL_law_579 rfl (lv_at hl 3 rfl) ?_
  refine k_xcallW (rest := []) hC hl hH hS (cw_clock l hfl κ γ (xs ((iv + 1 : Int32).toNatClampNeg)) h0 h1) tw_618 tw_619 tw_56 tw_620 hdl_clock ⟨Nat.le_of_ble_eq_true rfl, Nat.le_of_ble_eq_true rfl⟩ rfl rfl rfl rfl (Nat.le_of_ble_eq_true rfl) dL_law_580 ⟨by show cells + 1 ≤ 601024; omega, by show slots + 6 ≤ 7293033; omega⟩ rfl (fun κ9 H locs hke hkN hkO hH hS => ?_)
  have hC9 := hC.ke hke
  have e7 : kA κ9 7 0 = kA κ 7 0 := (hke.2.2.2 7 0 lv_7).2
  have e8 : kA κ9 8 0 = kA κ 8 0 := (hke.2.2.2 8 0 lv_8).2
  have e41 : kA κ9 41 0 = kA κ 41 0 := (hke.2.2.2 41 0 lv_41).2
  rw [← AA_ke hke] at hS
  rw [← e7, ← e8, ← e41] at hl
  have hbA : ¬ (AA κ9) b := by rw [AA_ke hke]; exact hbA
  refine lv_istore (lv' := [(5, .int (wK 2 1 0 (x_X7_clock (xs ((iv + 1 : Int32).toNatClampNeg)) γ).1)), (0, .ref b), (1, .ref (kA κ9 7 0)), (2, .ref (kA κ9 8 0)), (3, .ref (kA κ9 41 0)), (4, .int iv)]) hx hb dL_law_583 hl (by decide) rfl (fun ls hl => ?_)
  refine lv_aload_n hx hb dL_law_585 rfl (lv_at hl 3 rfl) ?_
  refine lv_aload_n hx hb dL_law_586 rfl (lv_at hl 1 rfl) ?_
  refine lv_iload hx hb dL_law_587 (lv_at hl 5 rfl) ?_
  refine lv_iconst (v := 1) hx hb dL_law_589 (by decide) ?_
  refine lv_iadd hx hb dL_law_590 ?_
  refine va_sld (A := AA κ9) hx hb hX hbl hbA hS (hin 1 (by decide) (by decide)) dL_law_591 ?_
  refine k_callV (C := RX8) (T := TX8) (N := 32) (rest := []) hC9 hl hH hS (c_X8_clock l κ9 (wG (x_X7_clock (xs ((iv + 1 : Int32).toNatClampNeg)) γ)) ((xs ((iv + 1 : Int32).toNatClampNeg))) h2) lv_8 rfl rfl tw_1104 tw_1105 tw_1106 tw_62 tw_1107 hd_X8_clock ⟨Nat.le_of_ble_eq_true rfl, Nat.le_of_ble_eq_true rfl⟩ rfl rfl rfl rfl (Nat.le_of_ble_eq_true rfl) dL_law_592 ⟨by show cells + 1 ≤ 601024; omega, by show slots + 6 ≤ 7293033; omega⟩ rfl (fun H locs hH hS => ?_)
  refine lv_istore (lv' := [(6, .int (x_X8_clock ((xs ((iv + 1 : Int32).toNatClampNeg))) (wG (x_X7_clock (xs ((iv + 1 : Int32).toNatClampNeg)) γ))).1), (5, .int (wK 2 1 0 (x_X7_clock (xs ((iv + 1 : Int32).toNatClampNeg)) γ).1)), (0, .ref b), (1, .ref (kA κ9 7 0)), (2, .ref (kA κ9 8 0)), (3, .ref (kA κ9 41 0)), (4, .int iv)]) hx hb dL_law_595 hl (by decide) rfl (fun ls hl => ?_)
  refine lv_aload_n hx hb dL_law_597 rfl (lv_at hl 4 rfl) ?_
  refine k_callV (C := RX8) (T := TX8) (N := 32) (rest := []) hC9 hl hH hS (c_X8_thrown l κ9 ((x_X8_clock ((xs ((iv + 1 : Int32).toNatClampNeg))) (wG (x_X7_clock (xs ((iv + 1 : Int32).toNatClampNeg)) γ))).2)) lv_8 rfl rfl tw_1020 tw_1021 tw_1022 tw_62 tw_1023 hd_X8_thrown ⟨Nat.le_of_ble_eq_true rfl, Nat.le_of_ble_eq_true rfl⟩ rfl rfl rfl rfl (Nat.le_of_ble_eq_true rfl) dL_law_598 ⟨by show cells + 1 ≤ 601024; omega, by show slots + 6 ≤ 7293033; omega⟩ rfl (fun H locs hH hS => ?_)
  refine lv_iload hx hb dL_law_601 (lv_at hl 1 rfl) ?_
  refine lv_icmp_eq (tgt := 608) hx hb dL_law_603 (by decide) (fun c1 => ?_) (fun c1 => ?_)
  rotate_left
  · exact absurd h3 c1
  refine lv_iload hx hb dL_law_608 (lv_at hl 1 rfl) ?_
  refine lv_if_ne (tgt := 625) hx hb dL_law_610 (by decide) (fun c2 => ?_) (fun c2 => ?_)
  · refine lv_goto (tgt := 1426) hx hb dL_law_625 (by decide) ?_
    exact hnext κ9 _ H locs ls _ _ hC9 (hke.2.2.1.trans hB0) hH hS (lv_sub hl [2, 3, 4, 5, 6] rfl) (by rw [hkN, hkO]; exact h5) (by omega) (by omega)
  refine lv_aload_n hx hb dL_law_613 rfl (lv_at hl 5 rfl) ?_
  refine lv_iconst (v := 0) hx hb dL_law_614 (by decide) ?_
  refine hp_lld (v := gL ((x_X8_clock ((xs ((iv + 1 : Int32).toNatClampNeg))) (wG (x_X7_clock (xs ((iv + 1 : Int32).toNatClampNeg)) γ))).2) 41 0) hC9 hH lv_41 rfl vp01 rfl dL_law_615 ?_
  refine lv_iload hx hb dL_law_616 (lv_at hl 0 rfl) ?_
  refine lv_i2l (v := ((x_X8_clock ((xs ((iv + 1 : Int32).toNatClampNeg))) (wG (x_X7_clock (xs ((iv + 1 : Int32).toNatClampNeg)) γ))).1).toInt64) hx hb dL_law_618 rfl ?_
  refine W.lcmp hx hb dL_law_619 ?_
  refine lv_if_eq (tgt := 625) hx hb dL_law_620 (by decide) (fun c3 => ?_) (fun c3 => ?_)
  rotate_left
  · exact absurd (by rw [h4 c2]; exact lg_cmp_self _) c3
  refine lv_goto (tgt := 1426) hx hb dL_law_625 (by decide) ?_
  exact hnext κ9 _ H locs ls _ _ hC9 (hke.2.2.1.trans hB0) hH hS (lv_sub hl [2, 3, 4, 5, 6] rfl) (by rw [hkN, hkO]; exact h5) (by omega) (by omega)
set_option maxRecDepth 20000 in
set_option maxHeartbeats 4000000 in
theorem lc_end {Inv : Nat → Nat → Nat → St → Prop} (hst : SP_end Inv) {p : Program} {l : Launch} (hfl : l.stackTraces = false) {e : Env} {s : State} {m : MethodId} {b L : Nat} {xs : Nat → Int32} {below : List Frame} {meth : Method} {c : Code} {Q : State → Prop} {n : Nat} {iv : Int32} (hn : n < 512) (hX : va_X b L xs s s.heap) (hbl : b < s.heap.size) (hin : ∀ j : Int32, 0 < j → j < 6 → vp_in (iv + j) L) (hnext : LQ Inv p l e s m b below meth c Q 1426 (n + 1) (n + 1) iv) : LQ Inv p l e s m b below meth c Q 628 n n iv := by
  intro κ γ H locs ls cells slots hC hB0 hH hS hl hI hc1 hc2
  obtain ⟨hx, hb, hown, hT, -, -, -, -, hml, hlk⟩ := id hC
  have hbA : ¬ (AA κ) b := by show ¬ kB κ ≤ b; rw [hB0]; omega
  obtain ⟨h0, h1, h2, h3, h4, h5⟩ := hst n (kN κ) (kO κ) γ hn hI
  refine lv_aload_n hx hb dL_law_628 rfl (lv_at hl 1 rfl) ?_
  refine lv_aload_n hx hb dL_law_629 rfl (lv_at hl 3 rfl) ?_
  refine k_xcallW (rest := []) hC hl hH hS (cw_end l hfl κ γ h0 h1) tw_656 tw_657 tw_56 tw_658 hdl_end ⟨Nat.le_of_ble_eq_true rfl, Nat.le_of_ble_eq_true rfl⟩ rfl rfl rfl rfl (Nat.le_of_ble_eq_true rfl) dL_law_630 ⟨by show cells + 1 ≤ 601024; omega, by show slots + 6 ≤ 7293033; omega⟩ rfl (fun κ9 H locs hke hkN hkO hH hS => ?_)
  have hC9 := hC.ke hke
  have e7 : kA κ9 7 0 = kA κ 7 0 := (hke.2.2.2 7 0 lv_7).2
  have e8 : kA κ9 8 0 = kA κ 8 0 := (hke.2.2.2 8 0 lv_8).2
  have e41 : kA κ9 41 0 = kA κ 41 0 := (hke.2.2.2 41 0 lv_41).2
  rw [← AA_ke hke] at hS
  rw [← e7, ← e8, ← e41] at hl
  have hbA : ¬ (AA κ9) b := by rw [AA_ke hke]; exact hbA
  refine lv_istore (lv' := [(5, .int (wK 1 0 0 (x_X7_end γ).1)), (0, .ref b), (1, .ref (kA κ9 7 0)), (2, .ref (kA κ9 8 0)), (3, .ref (kA κ9 41 0)), (4, .int iv)]) hx hb dL_law_633 hl (by decide) rfl (fun ls hl => ?_)
  refine lv_aload_n hx hb dL_law_635 rfl (lv_at hl 3 rfl) ?_
  refine k_callV (C := RX8) (T := TX8) (N := 32) (rest := []) hC9 hl hH hS (c_X8_end l κ9 (wG (x_X7_end γ)) h2) lv_8 rfl rfl tw_1120 tw_1121 tw_1122 tw_62 tw_1123 hd_X8_end ⟨Nat.le_of_ble_eq_true rfl, Nat.le_of_ble_eq_true rfl⟩ rfl rfl rfl rfl (Nat.le_of_ble_eq_true rfl) dL_law_636 ⟨by show cells + 1 ≤ 601024; omega, by show slots + 6 ≤ 7293033; omega⟩ rfl (fun H locs hH hS => ?_)
  refine lv_istore (lv' := [(6, .int (x_X8_end (wG (x_X7_end γ))).1), (5, .int (wK 1 0 0 (x_X7_end γ).1)), (0, .ref b), (1, .ref (kA κ9 7 0)), (2, .ref (kA κ9 8 0)), (3, .ref (kA κ9 41 0)), (4, .int iv)]) hx hb dL_law_639 hl (by decide) rfl (fun ls hl => ?_)
  refine lv_aload_n hx hb dL_law_641 rfl (lv_at hl 4 rfl) ?_
  refine k_callV (C := RX8) (T := TX8) (N := 32) (rest := []) hC9 hl hH hS (c_X8_thrown l κ9 ((x_X8_end (wG (x_X7_end γ))).2)) lv_8 rfl rfl tw_1020 tw_1021 tw_1022 tw_62 tw_1023 hd_X8_thrown ⟨Nat.le_of_ble_eq_true rfl, Nat.le_of_ble_eq_true rfl⟩ rfl rfl rfl rfl (Nat.le_of_ble_eq_true rfl) dL_law_642 ⟨by show cells + 1 ≤ 601024; omega, by show slots + 6 ≤ 7293033; omega⟩ rfl (fun H locs hH hS => ?_)
  refine lv_iload hx hb dL_law_645 (lv_at hl 1 rfl) ?_
  refine lv_icmp_eq (tgt := 652) hx hb dL_law_647 (by decide) (fun c1 => ?_) (fun c1 => ?_)
  rotate_left
  · exact absurd h3 c1
  refine lv_iload hx hb dL_law_652 (lv_at hl 1 rfl) ?_
  refine lv_if_ne (tgt := 669) hx hb dL_law_654 (by decide) (fun c2 => ?_) (fun c2 => ?_)
  · refine lv_goto (tgt := 1426) hx hb dL_law_669 (by decide) ?_
    exact hnext κ9 _ H locs ls _ _ hC9 (hke.2.2.1.trans hB0) hH hS (lv_sub hl [2, 3, 4, 5, 6] rfl) (by rw [hkN, hkO]; exact h5) (by omega) (by omega)
  refine lv_aload_n hx hb dL_law_657 rfl (lv_at hl 5 rfl) ?_
  refine lv_iconst (v := 0) hx hb dL_law_658 (by decide) ?_
  refine hp_lld (v := gL ((x_X8_end (wG (x_X7_end γ))).2) 41 0) hC9 hH lv_41 rfl vp01 rfl dL_law_659 ?_
  refine lv_iload hx hb dL_law_660 (lv_at hl 0 rfl) ?_
  refine lv_i2l (v := ((x_X8_end (wG (x_X7_end γ))).1).toInt64) hx hb dL_law_662 rfl ?_
  refine W.lcmp hx hb dL_law_663 ?_
  refine lv_if_eq (tgt := 669) hx hb dL_law_664 (by decide) (fun c3 => ?_) (fun c3 => ?_)
  rotate_left
  · exact absurd (by rw [h4 c2]; exact lg_cmp_self _) c3
  refine lv_goto (tgt := 1426) hx hb dL_law_669 (by decide) ?_
  exact hnext κ9 _ H locs ls _ _ hC9 (hke.2.2.1.trans hB0) hH hS (lv_sub hl [2, 3, 4, 5, 6] rfl) (by rw [hkN, hkO]; exact h5) (by omega) (by omega)
set_option maxRecDepth 20000 in
set_option maxHeartbeats 4000000 in
theorem lc_seed {Inv : Nat → Nat → Nat → St → Prop} (hst : SP_seed Inv) {p : Program} {l : Launch} (hfl : l.stackTraces = false) {e : Env} {s : State} {m : MethodId} {b L : Nat} {xs : Nat → Int32} {below : List Frame} {meth : Method} {c : Code} {Q : State → Prop} {n : Nat} {iv : Int32} (hn : n < 512) (hX : va_X b L xs s s.heap) (hbl : b < s.heap.size) (hin : ∀ j : Int32, 0 < j → j < 6 → vp_in (iv + j) L) (hnext : LQ Inv p l e s m b below meth c Q 1426 (n + 1) (n + 1) iv) : LQ Inv p l e s m b below meth c Q 672 n n iv := by
  intro κ γ H locs ls cells slots hC hB0 hH hS hl hI hc1 hc2
  obtain ⟨hx, hb, hown, hT, -, -, -, -, hml, hlk⟩ := id hC
  have hbA : ¬ (AA κ) b := by show ¬ kB κ ≤ b; rw [hB0]; omega
  obtain ⟨h0, h1, h2⟩ := hst n (kN κ) (kO κ) γ (xs ((iv + 1 : Int32).toNatClampNeg)) hn hI
  refine lv_aload_n hx hb dL_law_672 rfl (lv_at hl 1 rfl) ?_
  refine lv_aload_n hx hb dL_law_673 rfl (lv_at hl 0 rfl) ?_
  refine lv_iload hx hb dL_law_674 (lv_at hl 4 rfl) ?_
  refine lv_iconst (v := 1) hx hb dL_law_676 (by decide) ?_
  refine lv_iadd hx hb dL_law_677 ?_
  refine va_sld (A := AA κ) hx hb hX hbl hbA hS (hin 1 (by decide) (by decide)) dL_law_678 ?_
  refine k_xcallW (rest := []) hC hl hH hS (cw_seed l hfl κ γ (xs ((iv + 1 : Int32).toNatClampNeg)) h0) tw_665 tw_666 tw_56 tw_667 hdl_seed ⟨Nat.le_of_ble_eq_true rfl, Nat.le_of_ble_eq_true rfl⟩ rfl rfl rfl rfl (Nat.le_of_ble_eq_true rfl) dL_law_679 ⟨by show cells + 1 ≤ 601024; omega, by show slots + 6 ≤ 7293033; omega⟩ rfl (fun κ9 H locs hke hkN hkO hH hS => ?_)
  have hC9 := hC.ke hke
  have e7 : kA κ9 7 0 = kA κ 7 0 := (hke.2.2.2 7 0 lv_7).2
  have e8 : kA κ9 8 0 = kA κ 8 0 := (hke.2.2.2 8 0 lv_8).2
  have e41 : kA κ9 41 0 = kA κ 41 0 := (hke.2.2.2 41 0 lv_41).2
  rw [← AA_ke hke] at hS
  rw [← e7, ← e8, ← e41] at hl
  have hbA : ¬ (AA κ9) b := by rw [AA_ke hke]; exact hbA
  refine lv_istore (lv' := [(5, .int (wK 0 1 0 (x_X7_seed (xs ((iv + 1 : Int32).toNatClampNeg)) γ).1)), (0, .ref b), (1, .ref (kA κ9 7 0)), (2, .ref (kA κ9 8 0)), (3, .ref (kA κ9 41 0)), (4, .int iv)]) hx hb dL_law_682 hl (by decide) rfl (fun ls hl => ?_)
  refine lv_aload_n hx hb dL_law_684 rfl (lv_at hl 3 rfl) ?_
  refine lv_aload_n hx hb dL_law_685 rfl (lv_at hl 1 rfl) ?_
  refine lv_iload hx hb dL_law_686 (lv_at hl 5 rfl) ?_
  refine lv_iconst (v := 1) hx hb dL_law_688 (by decide) ?_
  refine lv_iadd hx hb dL_law_689 ?_
  refine va_sld (A := AA κ9) hx hb hX hbl hbA hS (hin 1 (by decide) (by decide)) dL_law_690 ?_
  refine k_callV (C := RX8) (T := TX8) (N := 32) (rest := []) hC9 hl hH hS (c_X8_seed l κ9 ((x_X7_seed (xs ((iv + 1 : Int32).toNatClampNeg)) γ).2) ((xs ((iv + 1 : Int32).toNatClampNeg)))) lv_8 rfl rfl tw_1124 tw_1125 tw_1126 tw_62 tw_1127 hd_X8_seed ⟨Nat.le_of_ble_eq_true rfl, Nat.le_of_ble_eq_true rfl⟩ rfl rfl rfl rfl (Nat.le_of_ble_eq_true rfl) dL_law_691 ⟨by show cells + 1 ≤ 601024; omega, by show slots + 6 ≤ 7293033; omega⟩ rfl (fun H locs hH hS => ?_)
  refine lv_aload_n hx hb dL_law_694 rfl (lv_at hl 3 rfl) ?_
  refine k_callV (C := RX8) (T := TX8) (N := 32) (rest := []) hC9 hl hH hS (c_X8_thrown l κ9 (x_X8_seed ((xs ((iv + 1 : Int32).toNatClampNeg))) ((x_X7_seed (xs ((iv + 1 : Int32).toNatClampNeg)) γ).2))) lv_8 rfl rfl tw_1020 tw_1021 tw_1022 tw_62 tw_1023 hd_X8_thrown ⟨Nat.le_of_ble_eq_true rfl, Nat.le_of_ble_eq_true rfl⟩ rfl rfl rfl rfl (Nat.le_of_ble_eq_true rfl) dL_law_695 ⟨by show cells + 1 ≤ 601024; omega, by show slots + 6 ≤ 7293033; omega⟩ rfl (fun H locs hH hS => ?_)
  refine lv_iload hx hb dL_law_698 (lv_at hl 0 rfl) ?_
  refine lv_icmp_eq (tgt := 705) hx hb dL_law_700 (by decide) (fun c1 => ?_) (fun c1 => ?_)
  rotate_left
  · exact absurd h1 c1
  refine lv_goto (tgt := 1426) hx hb dL_law_705 (by decide) ?_
  exact hnext κ9 _ H locs ls _ _ hC9 (hke.2.2.1.trans hB0) hH hS (lv_sub hl [1, 2, 3, 4, 5] rfl) (by rw [hkN, hkO]; exact h2) (by omega) (by omega)
set_option maxRecDepth 20000 in
set_option maxHeartbeats 4000000 in
theorem lc_pool {Inv : Nat → Nat → Nat → St → Prop} (hst : SP_pool Inv) {p : Program} {l : Launch} (hfl : l.stackTraces = false) {e : Env} {s : State} {m : MethodId} {b L : Nat} {xs : Nat → Int32} {below : List Frame} {meth : Method} {c : Code} {Q : State → Prop} {n : Nat} {iv : Int32} (hn : n < 512) (hX : va_X b L xs s s.heap) (hbl : b < s.heap.size) (hin : ∀ j : Int32, 0 < j → j < 6 → vp_in (iv + j) L) (hnext : LQ Inv p l e s m b below meth c Q 1426 (n + 1) (n + 1) iv) : LQ Inv p l e s m b below meth c Q 708 n n iv := by
  intro κ γ H locs ls cells slots hC hB0 hH hS hl hI hc1 hc2
  obtain ⟨hx, hb, hown, hT, -, -, -, -, hml, hlk⟩ := id hC
  have hbA : ¬ (AA κ) b := by show ¬ kB κ ≤ b; rw [hB0]; omega
  obtain ⟨h0, h1, h2, h3, h4, h5, h6⟩ := hst n (kN κ) (kO κ) γ (xs ((iv + 1 : Int32).toNatClampNeg)) hn hI
  refine lv_aload_n hx hb dL_law_708 rfl (lv_at hl 1 rfl) ?_
  refine lv_aload_n hx hb dL_law_709 rfl (lv_at hl 0 rfl) ?_
  refine lv_iload hx hb dL_law_710 (lv_at hl 4 rfl) ?_
  refine lv_iconst (v := 1) hx hb dL_law_712 (by decide) ?_
  refine lv_iadd hx hb dL_law_713 ?_
  refine va_sld (A := AA κ) hx hb hX hbl hbA hS (hin 1 (by decide) (by decide)) dL_law_714 ?_
  refine lv_aload_n hx hb dL_law_715 rfl (lv_at hl 3 rfl) ?_
  refine k_xcallW (rest := []) hC hl hH hS (cw_pool l hfl κ γ (xs ((iv + 1 : Int32).toNatClampNeg)) h5 h0 h1) tw_673 tw_674 tw_56 tw_675 hdl_pool ⟨Nat.le_of_ble_eq_true rfl, Nat.le_of_ble_eq_true rfl⟩ rfl rfl rfl rfl (Nat.le_of_ble_eq_true rfl) dL_law_716 ⟨by show cells + 3 ≤ 601024; omega, by show slots + 65 ≤ 7293033; omega⟩ rfl (fun κ9 H locs hke hkN hkO hH hS => ?_)
  have hC9 := hC.ke hke
  have e7 : kA κ9 7 0 = kA κ 7 0 := (hke.2.2.2 7 0 lv_7).2
  have e8 : kA κ9 8 0 = kA κ 8 0 := (hke.2.2.2 8 0 lv_8).2
  have e41 : kA κ9 41 0 = kA κ 41 0 := (hke.2.2.2 41 0 lv_41).2
  rw [← AA_ke hke] at hS
  rw [← e7, ← e8, ← e41] at hl
  have hbA : ¬ (AA κ9) b := by rw [AA_ke hke]; exact hbA
  refine lv_istore (lv' := [(5, .int (wK 2 1 0 (x_X7_pool (xs ((iv + 1 : Int32).toNatClampNeg)) γ).1)), (0, .ref b), (1, .ref (kA κ9 7 0)), (2, .ref (kA κ9 8 0)), (3, .ref (kA κ9 41 0)), (4, .int iv)]) hx hb dL_law_719 hl (by decide) rfl (fun ls hl => ?_)
  refine lv_aload_n hx hb dL_law_721 rfl (lv_at hl 3 rfl) ?_
  refine lv_aload_n hx hb dL_law_722 rfl (lv_at hl 1 rfl) ?_
  refine lv_iload hx hb dL_law_723 (lv_at hl 5 rfl) ?_
  refine lv_iconst (v := 1) hx hb dL_law_725 (by decide) ?_
  refine lv_iadd hx hb dL_law_726 ?_
  refine va_sld (A := AA κ9) hx hb hX hbl hbA hS (hin 1 (by decide) (by decide)) dL_law_727 ?_
  refine k_callV (C := RX8) (T := TX8) (N := 32) (rest := []) hC9 hl hH hS (c_X8_pool l κ9 (wG (x_X7_pool (xs ((iv + 1 : Int32).toNatClampNeg)) γ)) ((xs ((iv + 1 : Int32).toNatClampNeg))) h2) lv_8 rfl rfl tw_1128 tw_1129 tw_1130 tw_62 tw_1131 hd_X8_pool ⟨Nat.le_of_ble_eq_true rfl, Nat.le_of_ble_eq_true rfl⟩ rfl rfl rfl rfl (Nat.le_of_ble_eq_true rfl) dL_law_728 ⟨by show cells + 3 ≤ 601024; omega, by show slots + 65 ≤ 7293033; omega⟩ rfl (fun H locs hH hS => ?_)
  refine lv_istore (lv' := [(6, .int (x_X8_pool ((xs ((iv + 1 : Int32).toNatClampNeg))) (wG (x_X7_pool (xs ((iv + 1 : Int32).toNatClampNeg)) γ))).1), (5, .int (wK 2 1 0 (x_X7_pool (xs ((iv + 1 : Int32).toNatClampNeg)) γ).1)), (0, .ref b), (1, .ref (kA κ9 7 0)), (2, .ref (kA κ9 8 0)), (3, .ref (kA κ9 41 0)), (4, .int iv)]) hx hb dL_law_731 hl (by decide) rfl (fun ls hl => ?_)
  refine lv_aload_n hx hb dL_law_733 rfl (lv_at hl 4 rfl) ?_
  refine k_callV (C := RX8) (T := TX8) (N := 32) (rest := []) hC9 hl hH hS (c_X8_thrown l κ9 ((x_X8_pool ((xs ((iv + 1 : Int32).toNatClampNeg))) (wG (x_X7_pool (xs ((iv + 1 : Int32).toNatClampNeg)) γ))).2)) lv_8 rfl rfl tw_1020 tw_1021 tw_1022 tw_62 tw_1023 hd_X8_thrown ⟨Nat.le_of_ble_eq_true rfl, Nat.le_of_ble_eq_true rfl⟩ rfl rfl rfl rfl (Nat.le_of_ble_eq_true rfl) dL_law_734 ⟨by show cells + 3 ≤ 601024; omega, by show slots + 65 ≤ 7293033; omega⟩ rfl (fun H locs hH hS => ?_)
  refine lv_iload hx hb dL_law_737 (lv_at hl 1 rfl) ?_
  refine lv_icmp_eq (tgt := 744) hx hb dL_law_739 (by decide) (fun c1 => ?_) (fun c1 => ?_)
  rotate_left
  · exact absurd h3 c1
  refine lv_iload hx hb dL_law_744 (lv_at hl 1 rfl) ?_
  refine lv_if_ne (tgt := 761) hx hb dL_law_746 (by decide) (fun c2 => ?_) (fun c2 => ?_)
  · refine lv_goto (tgt := 1426) hx hb dL_law_761 (by decide) ?_
    exact hnext κ9 _ H locs ls _ _ hC9 (hke.2.2.1.trans hB0) hH hS (lv_sub hl [2, 3, 4, 5, 6] rfl) (by rw [hkN, hkO]; exact h6) (by omega) (by omega)
  refine lv_aload_n hx hb dL_law_749 rfl (lv_at hl 5 rfl) ?_
  refine lv_iconst (v := 0) hx hb dL_law_750 (by decide) ?_
  refine hp_lld (v := gL ((x_X8_pool ((xs ((iv + 1 : Int32).toNatClampNeg))) (wG (x_X7_pool (xs ((iv + 1 : Int32).toNatClampNeg)) γ))).2) 41 0) hC9 hH lv_41 rfl vp01 rfl dL_law_751 ?_
  refine lv_iload hx hb dL_law_752 (lv_at hl 0 rfl) ?_
  refine lv_i2l (v := ((x_X8_pool ((xs ((iv + 1 : Int32).toNatClampNeg))) (wG (x_X7_pool (xs ((iv + 1 : Int32).toNatClampNeg)) γ))).1).toInt64) hx hb dL_law_754 rfl ?_
  refine W.lcmp hx hb dL_law_755 ?_
  refine lv_if_eq (tgt := 761) hx hb dL_law_756 (by decide) (fun c3 => ?_) (fun c3 => ?_)
  rotate_left
  · exact absurd (by rw [h4 c2]; exact lg_cmp_self _) c3
  refine lv_goto (tgt := 1426) hx hb dL_law_761 (by decide) ?_
  exact hnext κ9 _ H locs ls _ _ hC9 (hke.2.2.1.trans hB0) hH hS (lv_sub hl [2, 3, 4, 5, 6] rfl) (by rw [hkN, hkO]; exact h6) (by omega) (by omega)
set_option maxRecDepth 20000 in
set_option maxHeartbeats 4000000 in
theorem lc_withdraw {Inv : Nat → Nat → Nat → St → Prop} (hst : SP_withdraw Inv) {p : Program} {l : Launch} (hfl : l.stackTraces = false) {e : Env} {s : State} {m : MethodId} {b L : Nat} {xs : Nat → Int32} {below : List Frame} {meth : Method} {c : Code} {Q : State → Prop} {n : Nat} {iv : Int32} (hn : n < 512) (hX : va_X b L xs s s.heap) (hbl : b < s.heap.size) (hin : ∀ j : Int32, 0 < j → j < 6 → vp_in (iv + j) L) (hnext : LQ Inv p l e s m b below meth c Q 1426 (n + 1) (n + 1) iv) : LQ Inv p l e s m b below meth c Q 764 n n iv := by
  intro κ γ H locs ls cells slots hC hB0 hH hS hl hI hc1 hc2
  obtain ⟨hx, hb, hown, hT, -, -, -, -, hml, hlk⟩ := id hC
  have hbA : ¬ (AA κ) b := by show ¬ kB κ ≤ b; rw [hB0]; omega
  obtain ⟨h0, h1, h2, h3, h4, h5⟩ := hst n (kN κ) (kO κ) γ (xs ((iv + 1 : Int32).toNatClampNeg)) (xs ((iv + 2 : Int32).toNatClampNeg)) hn hI
  refine lv_aload_n hx hb dL_law_764 rfl (lv_at hl 1 rfl) ?_
  refine lv_aload_n hx hb dL_law_765 rfl (lv_at hl 0 rfl) ?_
  refine lv_iload hx hb dL_law_766 (lv_at hl 4 rfl) ?_
  refine lv_iconst (v := 1) hx hb dL_law_768 (by decide) ?_
  refine lv_iadd hx hb dL_law_769 ?_
  refine va_sld (A := AA κ) hx hb hX hbl hbA hS (hin 1 (by decide) (by decide)) dL_law_770 ?_
  refine lv_aload_n hx hb dL_law_771 rfl (lv_at hl 0 rfl) ?_
  refine lv_iload hx hb dL_law_772 (lv_at hl 4 rfl) ?_
  refine lv_iconst (v := 2) hx hb dL_law_774 (by decide) ?_
  refine lv_iadd hx hb dL_law_775 ?_
  refine va_sld (A := AA κ) hx hb hX hbl hbA hS (hin 2 (by decide) (by decide)) dL_law_776 ?_
  refine lv_aload_n hx hb dL_law_777 rfl (lv_at hl 3 rfl) ?_
  refine k_xcallW (rest := []) hC hl hH hS (cw_withdraw l hfl κ γ (xs ((iv + 1 : Int32).toNatClampNeg)) (xs ((iv + 2 : Int32).toNatClampNeg)) h0 h1) tw_709 tw_710 tw_56 tw_711 hdl_withdraw ⟨Nat.le_of_ble_eq_true rfl, Nat.le_of_ble_eq_true rfl⟩ rfl rfl rfl rfl (Nat.le_of_ble_eq_true rfl) dL_law_778 ⟨by show cells + 2 ≤ 601024; omega, by show slots + 12 ≤ 7293033; omega⟩ rfl (fun κ9 H locs hke hkN hkO hH hS => ?_)
  have hC9 := hC.ke hke
  have e7 : kA κ9 7 0 = kA κ 7 0 := (hke.2.2.2 7 0 lv_7).2
  have e8 : kA κ9 8 0 = kA κ 8 0 := (hke.2.2.2 8 0 lv_8).2
  have e41 : kA κ9 41 0 = kA κ 41 0 := (hke.2.2.2 41 0 lv_41).2
  rw [← AA_ke hke] at hS
  rw [← e7, ← e8, ← e41] at hl
  have hbA : ¬ (AA κ9) b := by rw [AA_ke hke]; exact hbA
  refine lv_istore (lv' := [(5, .int (wK 2 0 1 (x_X7_withdraw (xs ((iv + 1 : Int32).toNatClampNeg)) (xs ((iv + 2 : Int32).toNatClampNeg)) γ).1)), (0, .ref b), (1, .ref (kA κ9 7 0)), (2, .ref (kA κ9 8 0)), (3, .ref (kA κ9 41 0)), (4, .int iv)]) hx hb dL_law_781 hl (by decide) rfl (fun ls hl => ?_)
  refine lv_aload_n hx hb dL_law_783 rfl (lv_at hl 3 rfl) ?_
  refine lv_aload_n hx hb dL_law_784 rfl (lv_at hl 1 rfl) ?_
  refine lv_iload hx hb dL_law_785 (lv_at hl 5 rfl) ?_
  refine lv_iconst (v := 1) hx hb dL_law_787 (by decide) ?_
  refine lv_iadd hx hb dL_law_788 ?_
  refine va_sld (A := AA κ9) hx hb hX hbl hbA hS (hin 1 (by decide) (by decide)) dL_law_789 ?_
  refine lv_aload_n hx hb dL_law_790 rfl (lv_at hl 1 rfl) ?_
  refine lv_iload hx hb dL_law_791 (lv_at hl 5 rfl) ?_
  refine lv_iconst (v := 2) hx hb dL_law_793 (by decide) ?_
  refine lv_iadd hx hb dL_law_794 ?_
  refine va_sld (A := AA κ9) hx hb hX hbl hbA hS (hin 2 (by decide) (by decide)) dL_law_795 ?_
  refine k_callV (C := RX8) (T := TX8) (N := 32) (rest := []) hC9 hl hH hS (c_X8_withdraw l κ9 (wG (x_X7_withdraw (xs ((iv + 1 : Int32).toNatClampNeg)) (xs ((iv + 2 : Int32).toNatClampNeg)) γ)) ((xs ((iv + 1 : Int32).toNatClampNeg))) ((xs ((iv + 2 : Int32).toNatClampNeg))) h2) lv_8 rfl rfl tw_1135 tw_1136 tw_1137 tw_62 tw_1138 hd_X8_withdraw ⟨Nat.le_of_ble_eq_true rfl, Nat.le_of_ble_eq_true rfl⟩ rfl rfl rfl rfl (Nat.le_of_ble_eq_true rfl) dL_law_796 ⟨by show cells + 2 ≤ 601024; omega, by show slots + 12 ≤ 7293033; omega⟩ rfl (fun H locs hH hS => ?_)
  refine lv_istore (lv' := [(6, .int (x_X8_withdraw ((xs ((iv + 1 : Int32).toNatClampNeg))) ((xs ((iv + 2 : Int32).toNatClampNeg))) (wG (x_X7_withdraw (xs ((iv + 1 : Int32).toNatClampNeg)) (xs ((iv + 2 : Int32).toNatClampNeg)) γ))).1), (5, .int (wK 2 0 1 (x_X7_withdraw (xs ((iv + 1 : Int32).toNatClampNeg)) (xs ((iv + 2 : Int32).toNatClampNeg)) γ).1)), (0, .ref b), (1, .ref (kA κ9 7 0)), (2, .ref (kA κ9 8 0)), (3, .ref (kA κ9 41 0)), (4, .int iv)]) hx hb dL_law_799 hl (by decide) rfl (fun ls hl => ?_)
  refine lv_aload_n hx hb dL_law_801 rfl (lv_at hl 4 rfl) ?_
  refine k_callV (C := RX8) (T := TX8) (N := 32) (rest := []) hC9 hl hH hS (c_X8_thrown l κ9 ((x_X8_withdraw ((xs ((iv + 1 : Int32).toNatClampNeg))) ((xs ((iv + 2 : Int32).toNatClampNeg))) (wG (x_X7_withdraw (xs ((iv + 1 : Int32).toNatClampNeg)) (xs ((iv + 2 : Int32).toNatClampNeg)) γ))).2)) lv_8 rfl rfl tw_1020 tw_1021 tw_1022 tw_62 tw_1023 hd_X8_thrown ⟨Nat.le_of_ble_eq_true rfl, Nat.le_of_ble_eq_true rfl⟩ rfl rfl rfl rfl (Nat.le_of_ble_eq_true rfl) dL_law_802 ⟨by show cells + 2 ≤ 601024; omega, by show slots + 12 ≤ 7293033; omega⟩ rfl (fun H locs hH hS => ?_)
  refine lv_iload hx hb dL_law_805 (lv_at hl 1 rfl) ?_
  refine lv_icmp_eq (tgt := 812) hx hb dL_law_807 (by decide) (fun c1 => ?_) (fun c1 => ?_)
  rotate_left
  · exact absurd h3 c1
  refine lv_iload hx hb dL_law_812 (lv_at hl 1 rfl) ?_
  refine lv_if_ne (tgt := 829) hx hb dL_law_814 (by decide) (fun c2 => ?_) (fun c2 => ?_)
  · refine lv_goto (tgt := 1426) hx hb dL_law_829 (by decide) ?_
    exact hnext κ9 _ H locs ls _ _ hC9 (hke.2.2.1.trans hB0) hH hS (lv_sub hl [2, 3, 4, 5, 6] rfl) (by rw [hkN, hkO]; exact h5) (by omega) (by omega)
  refine lv_aload_n hx hb dL_law_817 rfl (lv_at hl 5 rfl) ?_
  refine lv_iconst (v := 0) hx hb dL_law_818 (by decide) ?_
  refine hp_lld (v := gL ((x_X8_withdraw ((xs ((iv + 1 : Int32).toNatClampNeg))) ((xs ((iv + 2 : Int32).toNatClampNeg))) (wG (x_X7_withdraw (xs ((iv + 1 : Int32).toNatClampNeg)) (xs ((iv + 2 : Int32).toNatClampNeg)) γ))).2) 41 0) hC9 hH lv_41 rfl vp01 rfl dL_law_819 ?_
  refine lv_iload hx hb dL_law_820 (lv_at hl 0 rfl) ?_
  refine lv_i2l (v := ((x_X8_withdraw ((xs ((iv + 1 : Int32).toNatClampNeg))) ((xs ((iv + 2 : Int32).toNatClampNeg))) (wG (x_X7_withdraw (xs ((iv + 1 : Int32).toNatClampNeg)) (xs ((iv + 2 : Int32).toNatClampNeg)) γ))).1).toInt64) hx hb dL_law_822 rfl ?_
  refine W.lcmp hx hb dL_law_823 ?_
  refine lv_if_eq (tgt := 829) hx hb dL_law_824 (by decide) (fun c3 => ?_) (fun c3 => ?_)
  rotate_left
  · exact absurd (by rw [h4 c2]; exact lg_cmp_self _) c3
  refine lv_goto (tgt := 1426) hx hb dL_law_829 (by decide) ?_
  exact hnext κ9 _ H locs ls _ _ hC9 (hke.2.2.1.trans hB0) hH hS (lv_sub hl [2, 3, 4, 5, 6] rfl) (by rw [hkN, hkO]; exact h5) (by omega) (by omega)
set_option maxRecDepth 20000 in
set_option maxHeartbeats 4000000 in
theorem lc_tableau {Inv : Nat → Nat → Nat → St → Prop} (hst : SP_tableau Inv) {p : Program} {l : Launch} (hfl : l.stackTraces = false) {e : Env} {s : State} {m : MethodId} {b L : Nat} {xs : Nat → Int32} {below : List Frame} {meth : Method} {c : Code} {Q : State → Prop} {n : Nat} {iv : Int32} (hn : n < 512) (hX : va_X b L xs s s.heap) (hbl : b < s.heap.size) (hin : ∀ j : Int32, 0 < j → j < 6 → vp_in (iv + j) L) (hnext : LQ Inv p l e s m b below meth c Q 1426 (n + 1) (n + 1) iv) : LQ Inv p l e s m b below meth c Q 832 n n iv := by
  intro κ γ H locs ls cells slots hC hB0 hH hS hl hI hc1 hc2
  obtain ⟨hx, hb, hown, hT, -, -, -, -, hml, hlk⟩ := id hC
  have hbA : ¬ (AA κ) b := by show ¬ kB κ ≤ b; rw [hB0]; omega
  obtain ⟨h0, h1, h2, h3, h4, h5⟩ := hst n (kN κ) (kO κ) γ (xs ((iv + 1 : Int32).toNatClampNeg)) hn hI
  refine lv_aload_n hx hb dL_law_832 rfl (lv_at hl 1 rfl) ?_
  refine lv_aload_n hx hb dL_law_833 rfl (lv_at hl 0 rfl) ?_
  refine lv_iload hx hb dL_law_834 (lv_at hl 4 rfl) ?_
  refine lv_iconst (v := 1) hx hb dL_law_836 (by decide) ?_
  refine lv_iadd hx hb dL_law_837 ?_
  refine va_sld (A := AA κ) hx hb hX hbl hbA hS (hin 1 (by decide) (by decide)) dL_law_838 ?_
  refine lv_aload_n hx hb dL_law_839 rfl (lv_at hl 3 rfl) ?_
  refine k_xcallW (rest := []) hC hl hH hS (cw_tableau l hfl κ γ (xs ((iv + 1 : Int32).toNatClampNeg)) h0 h1) tw_745 tw_746 tw_56 tw_747 hdl_tableau ⟨Nat.le_of_ble_eq_true rfl, Nat.le_of_ble_eq_true rfl⟩ rfl rfl rfl rfl (Nat.le_of_ble_eq_true rfl) dL_law_840 ⟨by show cells + 1 ≤ 601024; omega, by show slots + 6 ≤ 7293033; omega⟩ rfl (fun κ9 H locs hke hkN hkO hH hS => ?_)
  have hC9 := hC.ke hke
  have e7 : kA κ9 7 0 = kA κ 7 0 := (hke.2.2.2 7 0 lv_7).2
  have e8 : kA κ9 8 0 = kA κ 8 0 := (hke.2.2.2 8 0 lv_8).2
  have e41 : kA κ9 41 0 = kA κ 41 0 := (hke.2.2.2 41 0 lv_41).2
  rw [← AA_ke hke] at hS
  rw [← e7, ← e8, ← e41] at hl
  have hbA : ¬ (AA κ9) b := by rw [AA_ke hke]; exact hbA
  refine lv_istore (lv' := [(5, .int (wK 2 0 1 (x_X7_tableau (xs ((iv + 1 : Int32).toNatClampNeg)) γ).1)), (0, .ref b), (1, .ref (kA κ9 7 0)), (2, .ref (kA κ9 8 0)), (3, .ref (kA κ9 41 0)), (4, .int iv)]) hx hb dL_law_843 hl (by decide) rfl (fun ls hl => ?_)
  refine lv_aload_n hx hb dL_law_845 rfl (lv_at hl 3 rfl) ?_
  refine lv_aload_n hx hb dL_law_846 rfl (lv_at hl 1 rfl) ?_
  refine lv_iload hx hb dL_law_847 (lv_at hl 5 rfl) ?_
  refine lv_iconst (v := 1) hx hb dL_law_849 (by decide) ?_
  refine lv_iadd hx hb dL_law_850 ?_
  refine va_sld (A := AA κ9) hx hb hX hbl hbA hS (hin 1 (by decide) (by decide)) dL_law_851 ?_
  refine k_callV (C := RX8) (T := TX8) (N := 32) (rest := []) hC9 hl hH hS (c_X8_tableau l κ9 (wG (x_X7_tableau (xs ((iv + 1 : Int32).toNatClampNeg)) γ)) ((xs ((iv + 1 : Int32).toNatClampNeg))) h2) lv_8 rfl rfl tw_1151 tw_1152 tw_1153 tw_62 tw_1154 hd_X8_tableau ⟨Nat.le_of_ble_eq_true rfl, Nat.le_of_ble_eq_true rfl⟩ rfl rfl rfl rfl (Nat.le_of_ble_eq_true rfl) dL_law_852 ⟨by show cells + 1 ≤ 601024; omega, by show slots + 6 ≤ 7293033; omega⟩ rfl (fun H locs hH hS => ?_)
  refine lv_istore (lv' := [(6, .int (x_X8_tableau ((xs ((iv + 1 : Int32).toNatClampNeg))) (wG (x_X7_tableau (xs ((iv + 1 : Int32).toNatClampNeg)) γ))).1), (5, .int (wK 2 0 1 (x_X7_tableau (xs ((iv + 1 : Int32).toNatClampNeg)) γ).1)), (0, .ref b), (1, .ref (kA κ9 7 0)), (2, .ref (kA κ9 8 0)), (3, .ref (kA κ9 41 0)), (4, .int iv)]) hx hb dL_law_855 hl (by decide) rfl (fun ls hl => ?_)
  refine lv_aload_n hx hb dL_law_857 rfl (lv_at hl 4 rfl) ?_
  refine k_callV (C := RX8) (T := TX8) (N := 32) (rest := []) hC9 hl hH hS (c_X8_thrown l κ9 ((x_X8_tableau ((xs ((iv + 1 : Int32).toNatClampNeg))) (wG (x_X7_tableau (xs ((iv + 1 : Int32).toNatClampNeg)) γ))).2)) lv_8 rfl rfl tw_1020 tw_1021 tw_1022 tw_62 tw_1023 hd_X8_thrown ⟨Nat.le_of_ble_eq_true rfl, Nat.le_of_ble_eq_true rfl⟩ rfl rfl rfl rfl (Nat.le_of_ble_eq_true rfl) dL_law_858 ⟨by show cells + 1 ≤ 601024; omega, by show slots + 6 ≤ 7293033; omega⟩ rfl (fun H locs hH hS => ?_)
  refine lv_iload hx hb dL_law_861 (lv_at hl 1 rfl) ?_
  refine lv_icmp_eq (tgt := 868) hx hb dL_law_863 (by decide) (fun c1 => ?_) (fun c1 => ?_)
  rotate_left
  · exact absurd h3 c1
  refine lv_iload hx hb dL_law_868 (lv_at hl 1 rfl) ?_
  refine lv_if_ne (tgt := 885) hx hb dL_law_870 (by decide) (fun c2 => ?_) (fun c2 => ?_)
  · refine lv_goto (tgt := 1426) hx hb dL_law_885 (by decide) ?_
    exact hnext κ9 _ H locs ls _ _ hC9 (hke.2.2.1.trans hB0) hH hS (lv_sub hl [2, 3, 4, 5, 6] rfl) (by rw [hkN, hkO]; exact h5) (by omega) (by omega)
  refine lv_aload_n hx hb dL_law_873 rfl (lv_at hl 5 rfl) ?_
  refine lv_iconst (v := 0) hx hb dL_law_874 (by decide) ?_
  refine hp_lld (v := gL ((x_X8_tableau ((xs ((iv + 1 : Int32).toNatClampNeg))) (wG (x_X7_tableau (xs ((iv + 1 : Int32).toNatClampNeg)) γ))).2) 41 0) hC9 hH lv_41 rfl vp01 rfl dL_law_875 ?_
  refine lv_iload hx hb dL_law_876 (lv_at hl 0 rfl) ?_
  refine lv_i2l (v := ((x_X8_tableau ((xs ((iv + 1 : Int32).toNatClampNeg))) (wG (x_X7_tableau (xs ((iv + 1 : Int32).toNatClampNeg)) γ))).1).toInt64) hx hb dL_law_878 rfl ?_
  refine W.lcmp hx hb dL_law_879 ?_
  refine lv_if_eq (tgt := 885) hx hb dL_law_880 (by decide) (fun c3 => ?_) (fun c3 => ?_)
  rotate_left
  · exact absurd (by rw [h4 c2]; exact lg_cmp_self _) c3
  refine lv_goto (tgt := 1426) hx hb dL_law_885 (by decide) ?_
  exact hnext κ9 _ H locs ls _ _ hC9 (hke.2.2.1.trans hB0) hH hS (lv_sub hl [2, 3, 4, 5, 6] rfl) (by rw [hkN, hkO]; exact h5) (by omega) (by omega)
set_option maxRecDepth 20000 in
set_option maxHeartbeats 4000000 in
theorem lc_wins {Inv : Nat → Nat → Nat → St → Prop} (hst : SP_wins Inv) {p : Program} {l : Launch} (hfl : l.stackTraces = false) {e : Env} {s : State} {m : MethodId} {b L : Nat} {xs : Nat → Int32} {below : List Frame} {meth : Method} {c : Code} {Q : State → Prop} {n : Nat} {iv : Int32} (hn : n < 512) (hX : va_X b L xs s s.heap) (hbl : b < s.heap.size) (hin : ∀ j : Int32, 0 < j → j < 6 → vp_in (iv + j) L) (hnext : LQ Inv p l e s m b below meth c Q 1426 (n + 1) (n + 1) iv) : LQ Inv p l e s m b below meth c Q 888 n n iv := by
  intro κ γ H locs ls cells slots hC hB0 hH hS hl hI hc1 hc2
  obtain ⟨hx, hb, hown, hT, -, -, -, -, hml, hlk⟩ := id hC
  have hbA : ¬ (AA κ) b := by show ¬ kB κ ≤ b; rw [hB0]; omega
  obtain ⟨h0, h1, h2, h3, h4, h5⟩ := hst n (kN κ) (kO κ) γ (xs ((iv + 1 : Int32).toNatClampNeg)) (xs ((iv + 2 : Int32).toNatClampNeg)) (xs ((iv + 3 : Int32).toNatClampNeg)) hn hI
  refine lv_aload_n hx hb dL_law_888 rfl (lv_at hl 1 rfl) ?_
  refine lv_aload_n hx hb dL_law_889 rfl (lv_at hl 0 rfl) ?_
  refine lv_iload hx hb dL_law_890 (lv_at hl 4 rfl) ?_
  refine lv_iconst (v := 1) hx hb dL_law_892 (by decide) ?_
  refine lv_iadd hx hb dL_law_893 ?_
  refine va_sld (A := AA κ) hx hb hX hbl hbA hS (hin 1 (by decide) (by decide)) dL_law_894 ?_
  refine lv_aload_n hx hb dL_law_895 rfl (lv_at hl 0 rfl) ?_
  refine lv_iload hx hb dL_law_896 (lv_at hl 4 rfl) ?_
  refine lv_iconst (v := 2) hx hb dL_law_898 (by decide) ?_
  refine lv_iadd hx hb dL_law_899 ?_
  refine va_sld (A := AA κ) hx hb hX hbl hbA hS (hin 2 (by decide) (by decide)) dL_law_900 ?_
  refine lv_aload_n hx hb dL_law_901 rfl (lv_at hl 0 rfl) ?_
  refine lv_iload hx hb dL_law_902 (lv_at hl 4 rfl) ?_
  refine lv_iconst (v := 3) hx hb dL_law_904 (by decide) ?_
  refine lv_iadd hx hb dL_law_905 ?_
  refine va_sld (A := AA κ) hx hb hX hbl hbA hS (hin 3 (by decide) (by decide)) dL_law_906 ?_
  refine lv_aload_n hx hb dL_law_907 rfl (lv_at hl 3 rfl) ?_
  refine k_xcallW (rest := []) hC hl hH hS (cw_wins l hfl κ γ (xs ((iv + 1 : Int32).toNatClampNeg)) (xs ((iv + 2 : Int32).toNatClampNeg)) (xs ((iv + 3 : Int32).toNatClampNeg)) h0 h1) tw_812 tw_813 tw_56 tw_814 hdl_wins ⟨Nat.le_of_ble_eq_true rfl, Nat.le_of_ble_eq_true rfl⟩ rfl rfl rfl rfl (Nat.le_of_ble_eq_true rfl) dL_law_908 ⟨by show cells + 2 ≤ 601024; omega, by show slots + 12 ≤ 7293033; omega⟩ rfl (fun κ9 H locs hke hkN hkO hH hS => ?_)
  have hC9 := hC.ke hke
  have e7 : kA κ9 7 0 = kA κ 7 0 := (hke.2.2.2 7 0 lv_7).2
  have e8 : kA κ9 8 0 = kA κ 8 0 := (hke.2.2.2 8 0 lv_8).2
  have e41 : kA κ9 41 0 = kA κ 41 0 := (hke.2.2.2 41 0 lv_41).2
  rw [← AA_ke hke] at hS
  rw [← e7, ← e8, ← e41] at hl
  have hbA : ¬ (AA κ9) b := by rw [AA_ke hke]; exact hbA
  refine lv_istore (lv' := [(5, .int (wK 3 2 1 (x_X7_wins (xs ((iv + 1 : Int32).toNatClampNeg)) (xs ((iv + 2 : Int32).toNatClampNeg)) (xs ((iv + 3 : Int32).toNatClampNeg)) γ).1)), (0, .ref b), (1, .ref (kA κ9 7 0)), (2, .ref (kA κ9 8 0)), (3, .ref (kA κ9 41 0)), (4, .int iv)]) hx hb dL_law_911 hl (by decide) rfl (fun ls hl => ?_)
  refine lv_aload_n hx hb dL_law_913 rfl (lv_at hl 3 rfl) ?_
  refine lv_aload_n hx hb dL_law_914 rfl (lv_at hl 1 rfl) ?_
  refine lv_iload hx hb dL_law_915 (lv_at hl 5 rfl) ?_
  refine lv_iconst (v := 1) hx hb dL_law_917 (by decide) ?_
  refine lv_iadd hx hb dL_law_918 ?_
  refine va_sld (A := AA κ9) hx hb hX hbl hbA hS (hin 1 (by decide) (by decide)) dL_law_919 ?_
  refine lv_aload_n hx hb dL_law_920 rfl (lv_at hl 1 rfl) ?_
  refine lv_iload hx hb dL_law_921 (lv_at hl 5 rfl) ?_
  refine lv_iconst (v := 2) hx hb dL_law_923 (by decide) ?_
  refine lv_iadd hx hb dL_law_924 ?_
  refine va_sld (A := AA κ9) hx hb hX hbl hbA hS (hin 2 (by decide) (by decide)) dL_law_925 ?_
  refine lv_aload_n hx hb dL_law_926 rfl (lv_at hl 1 rfl) ?_
  refine lv_iload hx hb dL_law_927 (lv_at hl 5 rfl) ?_
  refine lv_iconst (v := 3) hx hb dL_law_929 (by decide) ?_
  refine lv_iadd hx hb dL_law_930 ?_
  refine va_sld (A := AA κ9) hx hb hX hbl hbA hS (hin 3 (by decide) (by decide)) dL_law_931 ?_
  refine k_callV (C := RX8) (T := TX8) (N := 32) (rest := []) hC9 hl hH hS (c_X8_wins l κ9 (wG (x_X7_wins (xs ((iv + 1 : Int32).toNatClampNeg)) (xs ((iv + 2 : Int32).toNatClampNeg)) (xs ((iv + 3 : Int32).toNatClampNeg)) γ)) ((xs ((iv + 1 : Int32).toNatClampNeg))) ((xs ((iv + 2 : Int32).toNatClampNeg))) ((xs ((iv + 3 : Int32).toNatClampNeg))) h2) lv_8 rfl rfl tw_1173 tw_1174 tw_1175 tw_62 tw_1176 hd_X8_wins ⟨Nat.le_of_ble_eq_true rfl, Nat.le_of_ble_eq_true rfl⟩ rfl rfl rfl rfl (Nat.le_of_ble_eq_true rfl) dL_law_932 ⟨by show cells + 2 ≤ 601024; omega, by show slots + 12 ≤ 7293033; omega⟩ rfl (fun H locs hH hS => ?_)
  refine lv_istore (lv' := [(6, .int (x_X8_wins ((xs ((iv + 1 : Int32).toNatClampNeg))) ((xs ((iv + 2 : Int32).toNatClampNeg))) ((xs ((iv + 3 : Int32).toNatClampNeg))) (wG (x_X7_wins (xs ((iv + 1 : Int32).toNatClampNeg)) (xs ((iv + 2 : Int32).toNatClampNeg)) (xs ((iv + 3 : Int32).toNatClampNeg)) γ))).1), (5, .int (wK 3 2 1 (x_X7_wins (xs ((iv + 1 : Int32).toNatClampNeg)) (xs ((iv + 2 : Int32).toNatClampNeg)) (xs ((iv + 3 : Int32).toNatClampNeg)) γ).1)), (0, .ref b), (1, .ref (kA κ9 7 0)), (2, .ref (kA κ9 8 0)), (3, .ref (kA κ9 41 0)), (4, .int iv)]) hx hb dL_law_935 hl (by decide) rfl (fun ls hl => ?_)
  refine lv_aload_n hx hb dL_law_937 rfl (lv_at hl 4 rfl) ?_
  refine k_callV (C := RX8) (T := TX8) (N := 32) (rest := []) hC9 hl hH hS (c_X8_thrown l κ9 ((x_X8_wins ((xs ((iv + 1 : Int32).toNatClampNeg))) ((xs ((iv + 2 : Int32).toNatClampNeg))) ((xs ((iv + 3 : Int32).toNatClampNeg))) (wG (x_X7_wins (xs ((iv + 1 : Int32).toNatClampNeg)) (xs ((iv + 2 : Int32).toNatClampNeg)) (xs ((iv + 3 : Int32).toNatClampNeg)) γ))).2)) lv_8 rfl rfl tw_1020 tw_1021 tw_1022 tw_62 tw_1023 hd_X8_thrown ⟨Nat.le_of_ble_eq_true rfl, Nat.le_of_ble_eq_true rfl⟩ rfl rfl rfl rfl (Nat.le_of_ble_eq_true rfl) dL_law_938 ⟨by show cells + 2 ≤ 601024; omega, by show slots + 12 ≤ 7293033; omega⟩ rfl (fun H locs hH hS => ?_)
  refine lv_iload hx hb dL_law_941 (lv_at hl 1 rfl) ?_
  refine lv_icmp_eq (tgt := 948) hx hb dL_law_943 (by decide) (fun c1 => ?_) (fun c1 => ?_)
  rotate_left
  · exact absurd h3 c1
  refine lv_iload hx hb dL_law_948 (lv_at hl 1 rfl) ?_
  refine lv_if_ne (tgt := 965) hx hb dL_law_950 (by decide) (fun c2 => ?_) (fun c2 => ?_)
  · refine lv_goto (tgt := 1426) hx hb dL_law_965 (by decide) ?_
    exact hnext κ9 _ H locs ls _ _ hC9 (hke.2.2.1.trans hB0) hH hS (lv_sub hl [2, 3, 4, 5, 6] rfl) (by rw [hkN, hkO]; exact h5) (by omega) (by omega)
  refine lv_aload_n hx hb dL_law_953 rfl (lv_at hl 5 rfl) ?_
  refine lv_iconst (v := 0) hx hb dL_law_954 (by decide) ?_
  refine hp_lld (v := gL ((x_X8_wins ((xs ((iv + 1 : Int32).toNatClampNeg))) ((xs ((iv + 2 : Int32).toNatClampNeg))) ((xs ((iv + 3 : Int32).toNatClampNeg))) (wG (x_X7_wins (xs ((iv + 1 : Int32).toNatClampNeg)) (xs ((iv + 2 : Int32).toNatClampNeg)) (xs ((iv + 3 : Int32).toNatClampNeg)) γ))).2) 41 0) hC9 hH lv_41 rfl vp01 rfl dL_law_955 ?_
  refine lv_iload hx hb dL_law_956 (lv_at hl 0 rfl) ?_
  refine lv_i2l (v := ((x_X8_wins ((xs ((iv + 1 : Int32).toNatClampNeg))) ((xs ((iv + 2 : Int32).toNatClampNeg))) ((xs ((iv + 3 : Int32).toNatClampNeg))) (wG (x_X7_wins (xs ((iv + 1 : Int32).toNatClampNeg)) (xs ((iv + 2 : Int32).toNatClampNeg)) (xs ((iv + 3 : Int32).toNatClampNeg)) γ))).1).toInt64) hx hb dL_law_958 rfl ?_
  refine W.lcmp hx hb dL_law_959 ?_
  refine lv_if_eq (tgt := 965) hx hb dL_law_960 (by decide) (fun c3 => ?_) (fun c3 => ?_)
  rotate_left
  · exact absurd (by rw [h4 c2]; exact lg_cmp_self _) c3
  refine lv_goto (tgt := 1426) hx hb dL_law_965 (by decide) ?_
  exact hnext κ9 _ H locs ls _ _ hC9 (hke.2.2.1.trans hB0) hH hS (lv_sub hl [2, 3, 4, 5, 6] rfl) (by rw [hkN, hkO]; exact h5) (by omega) (by omega)
set_option maxRecDepth 20000 in
set_option maxHeartbeats 4000000 in
theorem lc_lamp {Inv : Nat → Nat → Nat → St → Prop} (hst : SP_lamp Inv) {p : Program} {l : Launch} (hfl : l.stackTraces = false) {e : Env} {s : State} {m : MethodId} {b L : Nat} {xs : Nat → Int32} {below : List Frame} {meth : Method} {c : Code} {Q : State → Prop} {n : Nat} {iv : Int32} (hn : n < 512) (hX : va_X b L xs s s.heap) (hbl : b < s.heap.size) (hin : ∀ j : Int32, 0 < j → j < 6 → vp_in (iv + j) L) (hnext : LQ Inv p l e s m b below meth c Q 1426 (n + 1) (n + 1) iv) : LQ Inv p l e s m b below meth c Q 968 n n iv := by
  intro κ γ H locs ls cells slots hC hB0 hH hS hl hI hc1 hc2
  obtain ⟨hx, hb, hown, hT, -, -, -, -, hml, hlk⟩ := id hC
  have hbA : ¬ (AA κ) b := by show ¬ kB κ ≤ b; rw [hB0]; omega
  obtain ⟨h0, h1, h2, h3, h4, h5⟩ := hst n (kN κ) (kO κ) γ (xs ((iv + 1 : Int32).toNatClampNeg)) hn hI
  refine lv_aload_n hx hb dL_law_968 rfl (lv_at hl 1 rfl) ?_
  refine lv_aload_n hx hb dL_law_969 rfl (lv_at hl 0 rfl) ?_
  refine lv_iload hx hb dL_law_970 (lv_at hl 4 rfl) ?_
  refine lv_iconst (v := 1) hx hb dL_law_972 (by decide) ?_
  refine lv_iadd hx hb dL_law_973 ?_
  refine va_sld (A := AA κ) hx hb hX hbl hbA hS (hin 1 (by decide) (by decide)) dL_law_974 ?_
  refine lv_aload_n hx hb dL_law_975 rfl (lv_at hl 3 rfl) ?_
  refine k_xcallW (rest := []) hC hl hH hS (cw_lamp l hfl κ γ (xs ((iv + 1 : Int32).toNatClampNeg)) h0 h1) tw_854 tw_855 tw_56 tw_856 hdl_lamp ⟨Nat.le_of_ble_eq_true rfl, Nat.le_of_ble_eq_true rfl⟩ rfl rfl rfl rfl (Nat.le_of_ble_eq_true rfl) dL_law_976 ⟨by show cells + 1 ≤ 601024; omega, by show slots + 6 ≤ 7293033; omega⟩ rfl (fun κ9 H locs hke hkN hkO hH hS => ?_)
  have hC9 := hC.ke hke
  have e7 : kA κ9 7 0 = kA κ 7 0 := (hke.2.2.2 7 0 lv_7).2
  have e8 : kA κ9 8 0 = kA κ 8 0 := (hke.2.2.2 8 0 lv_8).2
  have e41 : kA κ9 41 0 = kA κ 41 0 := (hke.2.2.2 41 0 lv_41).2
  rw [← AA_ke hke] at hS
  rw [← e7, ← e8, ← e41] at hl
  have hbA : ¬ (AA κ9) b := by rw [AA_ke hke]; exact hbA
  refine lv_istore (lv' := [(5, .int (wK 0 1 0 (x_X7_lamp (xs ((iv + 1 : Int32).toNatClampNeg)) γ).1)), (0, .ref b), (1, .ref (kA κ9 7 0)), (2, .ref (kA κ9 8 0)), (3, .ref (kA κ9 41 0)), (4, .int iv)]) hx hb dL_law_979 hl (by decide) rfl (fun ls hl => ?_)
  refine lv_aload_n hx hb dL_law_981 rfl (lv_at hl 3 rfl) ?_
  refine lv_aload_n hx hb dL_law_982 rfl (lv_at hl 1 rfl) ?_
  refine lv_iload hx hb dL_law_983 (lv_at hl 5 rfl) ?_
  refine lv_iconst (v := 1) hx hb dL_law_985 (by decide) ?_
  refine lv_iadd hx hb dL_law_986 ?_
  refine va_sld (A := AA κ9) hx hb hX hbl hbA hS (hin 1 (by decide) (by decide)) dL_law_987 ?_
  refine k_callV (C := RX8) (T := TX8) (N := 32) (rest := []) hC9 hl hH hS (c_X8_lamp l κ9 (wG (x_X7_lamp (xs ((iv + 1 : Int32).toNatClampNeg)) γ)) ((xs ((iv + 1 : Int32).toNatClampNeg))) h2) lv_8 rfl rfl tw_1181 tw_1182 tw_1183 tw_62 tw_1184 hd_X8_lamp ⟨Nat.le_of_ble_eq_true rfl, Nat.le_of_ble_eq_true rfl⟩ rfl rfl rfl rfl (Nat.le_of_ble_eq_true rfl) dL_law_988 ⟨by show cells + 1 ≤ 601024; omega, by show slots + 6 ≤ 7293033; omega⟩ rfl (fun H locs hH hS => ?_)
  refine lv_istore (lv' := [(6, .int (x_X8_lamp ((xs ((iv + 1 : Int32).toNatClampNeg))) (wG (x_X7_lamp (xs ((iv + 1 : Int32).toNatClampNeg)) γ))).1), (5, .int (wK 0 1 0 (x_X7_lamp (xs ((iv + 1 : Int32).toNatClampNeg)) γ).1)), (0, .ref b), (1, .ref (kA κ9 7 0)), (2, .ref (kA κ9 8 0)), (3, .ref (kA κ9 41 0)), (4, .int iv)]) hx hb dL_law_991 hl (by decide) rfl (fun ls hl => ?_)
  refine lv_aload_n hx hb dL_law_993 rfl (lv_at hl 4 rfl) ?_
  refine k_callV (C := RX8) (T := TX8) (N := 32) (rest := []) hC9 hl hH hS (c_X8_thrown l κ9 ((x_X8_lamp ((xs ((iv + 1 : Int32).toNatClampNeg))) (wG (x_X7_lamp (xs ((iv + 1 : Int32).toNatClampNeg)) γ))).2)) lv_8 rfl rfl tw_1020 tw_1021 tw_1022 tw_62 tw_1023 hd_X8_thrown ⟨Nat.le_of_ble_eq_true rfl, Nat.le_of_ble_eq_true rfl⟩ rfl rfl rfl rfl (Nat.le_of_ble_eq_true rfl) dL_law_994 ⟨by show cells + 1 ≤ 601024; omega, by show slots + 6 ≤ 7293033; omega⟩ rfl (fun H locs hH hS => ?_)
  refine lv_iload hx hb dL_law_997 (lv_at hl 1 rfl) ?_
  refine lv_icmp_eq (tgt := 1004) hx hb dL_law_999 (by decide) (fun c1 => ?_) (fun c1 => ?_)
  rotate_left
  · exact absurd h3 c1
  refine lv_iload hx hb dL_law_1004 (lv_at hl 1 rfl) ?_
  refine lv_if_ne (tgt := 1021) hx hb dL_law_1006 (by decide) (fun c2 => ?_) (fun c2 => ?_)
  · refine lv_goto (tgt := 1426) hx hb dL_law_1021 (by decide) ?_
    exact hnext κ9 _ H locs ls _ _ hC9 (hke.2.2.1.trans hB0) hH hS (lv_sub hl [2, 3, 4, 5, 6] rfl) (by rw [hkN, hkO]; exact h5) (by omega) (by omega)
  refine lv_aload_n hx hb dL_law_1009 rfl (lv_at hl 5 rfl) ?_
  refine lv_iconst (v := 0) hx hb dL_law_1010 (by decide) ?_
  refine hp_lld (v := gL ((x_X8_lamp ((xs ((iv + 1 : Int32).toNatClampNeg))) (wG (x_X7_lamp (xs ((iv + 1 : Int32).toNatClampNeg)) γ))).2) 41 0) hC9 hH lv_41 rfl vp01 rfl dL_law_1011 ?_
  refine lv_iload hx hb dL_law_1012 (lv_at hl 0 rfl) ?_
  refine lv_i2l (v := ((x_X8_lamp ((xs ((iv + 1 : Int32).toNatClampNeg))) (wG (x_X7_lamp (xs ((iv + 1 : Int32).toNatClampNeg)) γ))).1).toInt64) hx hb dL_law_1014 rfl ?_
  refine W.lcmp hx hb dL_law_1015 ?_
  refine lv_if_eq (tgt := 1021) hx hb dL_law_1016 (by decide) (fun c3 => ?_) (fun c3 => ?_)
  rotate_left
  · exact absurd (by rw [h4 c2]; exact lg_cmp_self _) c3
  refine lv_goto (tgt := 1426) hx hb dL_law_1021 (by decide) ?_
  exact hnext κ9 _ H locs ls _ _ hC9 (hke.2.2.1.trans hB0) hH hS (lv_sub hl [2, 3, 4, 5, 6] rfl) (by rw [hkN, hkO]; exact h5) (by omega) (by omega)
set_option maxRecDepth 20000 in
set_option maxHeartbeats 4000000 in
theorem lc_holder {Inv : Nat → Nat → Nat → St → Prop} (hst : SP_holder Inv) {p : Program} {l : Launch} (hfl : l.stackTraces = false) {e : Env} {s : State} {m : MethodId} {b L : Nat} {xs : Nat → Int32} {below : List Frame} {meth : Method} {c : Code} {Q : State → Prop} {n : Nat} {iv : Int32} (hn : n < 512) (hX : va_X b L xs s s.heap) (hbl : b < s.heap.size) (hin : ∀ j : Int32, 0 < j → j < 6 → vp_in (iv + j) L) (hnext : LQ Inv p l e s m b below meth c Q 1426 (n + 1) (n + 1) iv) : LQ Inv p l e s m b below meth c Q 1024 n n iv := by
  intro κ γ H locs ls cells slots hC hB0 hH hS hl hI hc1 hc2
  obtain ⟨hx, hb, hown, hT, -, -, -, -, hml, hlk⟩ := id hC
  have hbA : ¬ (AA κ) b := by show ¬ kB κ ≤ b; rw [hB0]; omega
  obtain ⟨h0, h1, h2, h3⟩ := hst n (kN κ) (kO κ) γ hn hI
  refine lv_aload_n hx hb dL_law_1024 rfl (lv_at hl 1 rfl) ?_
  refine k_callV (C := RX7) (T := TX7) (N := 10) (rest := []) hC hl hH hS (c_X7_holder l κ γ h0) lv_7 rfl rfl tw_198 tw_199 tw_200 tw_57 tw_201 hd_X7_holder ⟨Nat.le_of_ble_eq_true rfl, Nat.le_of_ble_eq_true rfl⟩ rfl rfl rfl rfl (Nat.le_of_ble_eq_true rfl) dL_law_1025 ⟨by show cells ≤ 601024; omega, by show slots ≤ 7293033; omega⟩ rfl (fun H locs hH hS => ?_)
  refine lv_aload_n hx hb dL_law_1028 rfl (lv_at hl 2 rfl) ?_
  refine k_callV (C := RX8) (T := TX8) (N := 32) (rest := [.int (x_X7_holder γ).1]) hC hl hH hS (c_X8_holder l κ ((x_X7_holder γ).2) h1) lv_8 rfl rfl tw_1185 tw_1186 tw_1187 tw_62 tw_1188 hd_X8_holder ⟨Nat.le_of_ble_eq_true rfl, Nat.le_of_ble_eq_true rfl⟩ rfl rfl rfl rfl (Nat.le_of_ble_eq_true rfl) dL_law_1029 ⟨by show cells ≤ 601024; omega, by show slots ≤ 7293033; omega⟩ rfl (fun H locs hH hS => ?_)
  refine lv_icmp_eq (tgt := 1426) hx hb dL_law_1032 (by decide) (fun c1 => ?_) (fun c1 => ?_)
  rotate_left
  · exact absurd h2 c1
  exact hnext κ _ H locs ls _ _ hC hB0 hH hS (lv_sub hl [0, 1, 2, 3, 4] rfl) h3 (by omega) (by omega)
set_option maxRecDepth 20000 in
set_option maxHeartbeats 4000000 in
theorem lc_reason {Inv : Nat → Nat → Nat → St → Prop} (hst : SP_reason Inv) {p : Program} {l : Launch} (hfl : l.stackTraces = false) {e : Env} {s : State} {m : MethodId} {b L : Nat} {xs : Nat → Int32} {below : List Frame} {meth : Method} {c : Code} {Q : State → Prop} {n : Nat} {iv : Int32} (hn : n < 512) (hX : va_X b L xs s s.heap) (hbl : b < s.heap.size) (hin : ∀ j : Int32, 0 < j → j < 6 → vp_in (iv + j) L) (hnext : LQ Inv p l e s m b below meth c Q 1426 (n + 1) (n + 1) iv) : LQ Inv p l e s m b below meth c Q 1037 n n iv := by
  intro κ γ H locs ls cells slots hC hB0 hH hS hl hI hc1 hc2
  obtain ⟨hx, hb, hown, hT, -, -, -, -, hml, hlk⟩ := id hC
  have hbA : ¬ (AA κ) b := by show ¬ kB κ ≤ b; rw [hB0]; omega
  obtain ⟨h0, h1⟩ := hst n (kN κ) (kO κ) γ hn hI
  refine lv_aload_n hx hb dL_law_1037 rfl (lv_at hl 1 rfl) ?_
  refine k_callV (C := RX7) (T := TX7) (N := 10) (rest := []) hC hl hH hS (c_X7_reason l κ γ) lv_7 rfl rfl tw_230 tw_231 tw_232 tw_57 tw_233 hd_X7_reason ⟨Nat.le_of_ble_eq_true rfl, Nat.le_of_ble_eq_true rfl⟩ rfl rfl rfl rfl (Nat.le_of_ble_eq_true rfl) dL_law_1038 ⟨by show cells ≤ 601024; omega, by show slots ≤ 7293033; omega⟩ rfl (fun H locs hH hS => ?_)
  refine lv_aload_n hx hb dL_law_1041 rfl (lv_at hl 2 rfl) ?_
  refine k_callV (C := RX8) (T := TX8) (N := 32) (rest := [.int (x_X7_reason γ)]) hC hl hH hS (c_X8_reason l κ γ) lv_8 rfl rfl tw_1189 tw_1190 tw_1191 tw_62 tw_1192 hd_X8_reason ⟨Nat.le_of_ble_eq_true rfl, Nat.le_of_ble_eq_true rfl⟩ rfl rfl rfl rfl (Nat.le_of_ble_eq_true rfl) dL_law_1042 ⟨by show cells ≤ 601024; omega, by show slots ≤ 7293033; omega⟩ rfl (fun H locs hH hS => ?_)
  refine lv_icmp_eq (tgt := 1426) hx hb dL_law_1045 (by decide) (fun c1 => ?_) (fun c1 => ?_)
  rotate_left
  · exact absurd h0 c1
  exact hnext κ _ H locs ls _ _ hC hB0 hH hS (lv_sub hl [0, 1, 2, 3, 4] rfl) h1 (by omega) (by omega)
set_option maxRecDepth 20000 in
set_option maxHeartbeats 4000000 in
theorem lc_ofBout {Inv : Nat → Nat → Nat → St → Prop} (hst : SP_ofBout Inv) {p : Program} {l : Launch} (hfl : l.stackTraces = false) {e : Env} {s : State} {m : MethodId} {b L : Nat} {xs : Nat → Int32} {below : List Frame} {meth : Method} {c : Code} {Q : State → Prop} {n : Nat} {iv : Int32} (hn : n < 512) (hX : va_X b L xs s s.heap) (hbl : b < s.heap.size) (hin : ∀ j : Int32, 0 < j → j < 6 → vp_in (iv + j) L) (hnext : LQ Inv p l e s m b below meth c Q 1426 (n + 1) (n + 1) iv) : LQ Inv p l e s m b below meth c Q 1050 n n iv := by
  intro κ γ H locs ls cells slots hC hB0 hH hS hl hI hc1 hc2
  obtain ⟨hx, hb, hown, hT, -, -, -, -, hml, hlk⟩ := id hC
  have hbA : ¬ (AA κ) b := by show ¬ kB κ ≤ b; rw [hB0]; omega
  obtain ⟨h0, h1, h2, h3, h4, h5⟩ := hst n (kN κ) (kO κ) γ (xs ((iv + 1 : Int32).toNatClampNeg)) (xs ((iv + 2 : Int32).toNatClampNeg)) hn hI
  refine lv_aload_n hx hb dL_law_1050 rfl (lv_at hl 1 rfl) ?_
  refine lv_aload_n hx hb dL_law_1051 rfl (lv_at hl 0 rfl) ?_
  refine lv_iload hx hb dL_law_1052 (lv_at hl 4 rfl) ?_
  refine lv_iconst (v := 1) hx hb dL_law_1054 (by decide) ?_
  refine lv_iadd hx hb dL_law_1055 ?_
  refine va_sld (A := AA κ) hx hb hX hbl hbA hS (hin 1 (by decide) (by decide)) dL_law_1056 ?_
  refine lv_aload_n hx hb dL_law_1057 rfl (lv_at hl 0 rfl) ?_
  refine lv_iload hx hb dL_law_1058 (lv_at hl 4 rfl) ?_
  refine lv_iconst (v := 2) hx hb dL_law_1060 (by decide) ?_
  refine lv_iadd hx hb dL_law_1061 ?_
  refine va_sld (A := AA κ) hx hb hX hbl hbA hS (hin 2 (by decide) (by decide)) dL_law_1062 ?_
  refine lv_aload_n hx hb dL_law_1063 rfl (lv_at hl 3 rfl) ?_
  refine k_xcallW (rest := []) hC hl hH hS (cw_ofBout l hfl κ γ (xs ((iv + 1 : Int32).toNatClampNeg)) (xs ((iv + 2 : Int32).toNatClampNeg)) h0 h1) tw_861 tw_862 tw_56 tw_863 hdl_ofBout ⟨Nat.le_of_ble_eq_true rfl, Nat.le_of_ble_eq_true rfl⟩ rfl rfl rfl rfl (Nat.le_of_ble_eq_true rfl) dL_law_1064 ⟨by show cells + 1 ≤ 601024; omega, by show slots + 6 ≤ 7293033; omega⟩ rfl (fun κ9 H locs hke hkN hkO hH hS => ?_)
  have hC9 := hC.ke hke
  have e7 : kA κ9 7 0 = kA κ 7 0 := (hke.2.2.2 7 0 lv_7).2
  have e8 : kA κ9 8 0 = kA κ 8 0 := (hke.2.2.2 8 0 lv_8).2
  have e41 : kA κ9 41 0 = kA κ 41 0 := (hke.2.2.2 41 0 lv_41).2
  rw [← AA_ke hke] at hS
  rw [← e7, ← e8, ← e41] at hl
  have hbA : ¬ (AA κ9) b := by rw [AA_ke hke]; exact hbA
  refine lv_istore (lv' := [(5, .int (wK 0 2 1 (x_X7_ofBout (xs ((iv + 1 : Int32).toNatClampNeg)) (xs ((iv + 2 : Int32).toNatClampNeg)) γ).1)), (0, .ref b), (1, .ref (kA κ9 7 0)), (2, .ref (kA κ9 8 0)), (3, .ref (kA κ9 41 0)), (4, .int iv)]) hx hb dL_law_1067 hl (by decide) rfl (fun ls hl => ?_)
  refine lv_aload_n hx hb dL_law_1069 rfl (lv_at hl 3 rfl) ?_
  refine lv_aload_n hx hb dL_law_1070 rfl (lv_at hl 1 rfl) ?_
  refine lv_iload hx hb dL_law_1071 (lv_at hl 5 rfl) ?_
  refine lv_iconst (v := 1) hx hb dL_law_1073 (by decide) ?_
  refine lv_iadd hx hb dL_law_1074 ?_
  refine va_sld (A := AA κ9) hx hb hX hbl hbA hS (hin 1 (by decide) (by decide)) dL_law_1075 ?_
  refine lv_aload_n hx hb dL_law_1076 rfl (lv_at hl 1 rfl) ?_
  refine lv_iload hx hb dL_law_1077 (lv_at hl 5 rfl) ?_
  refine lv_iconst (v := 2) hx hb dL_law_1079 (by decide) ?_
  refine lv_iadd hx hb dL_law_1080 ?_
  refine va_sld (A := AA κ9) hx hb hX hbl hbA hS (hin 2 (by decide) (by decide)) dL_law_1081 ?_
  refine k_callV (C := RX8) (T := TX8) (N := 32) (rest := []) hC9 hl hH hS (c_X8_ofBout l κ9 (wG (x_X7_ofBout (xs ((iv + 1 : Int32).toNatClampNeg)) (xs ((iv + 2 : Int32).toNatClampNeg)) γ)) ((xs ((iv + 1 : Int32).toNatClampNeg))) ((xs ((iv + 2 : Int32).toNatClampNeg))) h2) lv_8 rfl rfl tw_1193 tw_1194 tw_1195 tw_62 tw_1196 hd_X8_ofBout ⟨Nat.le_of_ble_eq_true rfl, Nat.le_of_ble_eq_true rfl⟩ rfl rfl rfl rfl (Nat.le_of_ble_eq_true rfl) dL_law_1082 ⟨by show cells + 1 ≤ 601024; omega, by show slots + 6 ≤ 7293033; omega⟩ rfl (fun H locs hH hS => ?_)
  refine lv_istore (lv' := [(6, .int (x_X8_ofBout ((xs ((iv + 1 : Int32).toNatClampNeg))) ((xs ((iv + 2 : Int32).toNatClampNeg))) (wG (x_X7_ofBout (xs ((iv + 1 : Int32).toNatClampNeg)) (xs ((iv + 2 : Int32).toNatClampNeg)) γ))).1), (5, .int (wK 0 2 1 (x_X7_ofBout (xs ((iv + 1 : Int32).toNatClampNeg)) (xs ((iv + 2 : Int32).toNatClampNeg)) γ).1)), (0, .ref b), (1, .ref (kA κ9 7 0)), (2, .ref (kA κ9 8 0)), (3, .ref (kA κ9 41 0)), (4, .int iv)]) hx hb dL_law_1085 hl (by decide) rfl (fun ls hl => ?_)
  refine lv_aload_n hx hb dL_law_1087 rfl (lv_at hl 4 rfl) ?_
  refine k_callV (C := RX8) (T := TX8) (N := 32) (rest := []) hC9 hl hH hS (c_X8_thrown l κ9 ((x_X8_ofBout ((xs ((iv + 1 : Int32).toNatClampNeg))) ((xs ((iv + 2 : Int32).toNatClampNeg))) (wG (x_X7_ofBout (xs ((iv + 1 : Int32).toNatClampNeg)) (xs ((iv + 2 : Int32).toNatClampNeg)) γ))).2)) lv_8 rfl rfl tw_1020 tw_1021 tw_1022 tw_62 tw_1023 hd_X8_thrown ⟨Nat.le_of_ble_eq_true rfl, Nat.le_of_ble_eq_true rfl⟩ rfl rfl rfl rfl (Nat.le_of_ble_eq_true rfl) dL_law_1088 ⟨by show cells + 1 ≤ 601024; omega, by show slots + 6 ≤ 7293033; omega⟩ rfl (fun H locs hH hS => ?_)
  refine lv_iload hx hb dL_law_1091 (lv_at hl 1 rfl) ?_
  refine lv_icmp_eq (tgt := 1098) hx hb dL_law_1093 (by decide) (fun c1 => ?_) (fun c1 => ?_)
  rotate_left
  · exact absurd h3 c1
  refine lv_iload hx hb dL_law_1098 (lv_at hl 1 rfl) ?_
  refine lv_if_ne (tgt := 1115) hx hb dL_law_1100 (by decide) (fun c2 => ?_) (fun c2 => ?_)
  · refine lv_goto (tgt := 1426) hx hb dL_law_1115 (by decide) ?_
    exact hnext κ9 _ H locs ls _ _ hC9 (hke.2.2.1.trans hB0) hH hS (lv_sub hl [2, 3, 4, 5, 6] rfl) (by rw [hkN, hkO]; exact h5) (by omega) (by omega)
  refine lv_aload_n hx hb dL_law_1103 rfl (lv_at hl 5 rfl) ?_
  refine lv_iconst (v := 0) hx hb dL_law_1104 (by decide) ?_
  refine hp_lld (v := gL ((x_X8_ofBout ((xs ((iv + 1 : Int32).toNatClampNeg))) ((xs ((iv + 2 : Int32).toNatClampNeg))) (wG (x_X7_ofBout (xs ((iv + 1 : Int32).toNatClampNeg)) (xs ((iv + 2 : Int32).toNatClampNeg)) γ))).2) 41 0) hC9 hH lv_41 rfl vp01 rfl dL_law_1105 ?_
  refine lv_iload hx hb dL_law_1106 (lv_at hl 0 rfl) ?_
  refine lv_i2l (v := ((x_X8_ofBout ((xs ((iv + 1 : Int32).toNatClampNeg))) ((xs ((iv + 2 : Int32).toNatClampNeg))) (wG (x_X7_ofBout (xs ((iv + 1 : Int32).toNatClampNeg)) (xs ((iv + 2 : Int32).toNatClampNeg)) γ))).1).toInt64) hx hb dL_law_1108 rfl ?_
  refine W.lcmp hx hb dL_law_1109 ?_
  refine lv_if_eq (tgt := 1115) hx hb dL_law_1110 (by decide) (fun c3 => ?_) (fun c3 => ?_)
  rotate_left
  · exact absurd (by rw [h4 c2]; exact lg_cmp_self _) c3
  refine lv_goto (tgt := 1426) hx hb dL_law_1115 (by decide) ?_
  exact hnext κ9 _ H locs ls _ _ hC9 (hke.2.2.1.trans hB0) hH hS (lv_sub hl [2, 3, 4, 5, 6] rfl) (by rw [hkN, hkO]; exact h5) (by omega) (by omega)
set_option maxRecDepth 20000 in
set_option maxHeartbeats 4000000 in
theorem lc_ofPool {Inv : Nat → Nat → Nat → St → Prop} (hst : SP_ofPool Inv) {p : Program} {l : Launch} (hfl : l.stackTraces = false) {e : Env} {s : State} {m : MethodId} {b L : Nat} {xs : Nat → Int32} {below : List Frame} {meth : Method} {c : Code} {Q : State → Prop} {n : Nat} {iv : Int32} (hn : n < 512) (hX : va_X b L xs s s.heap) (hbl : b < s.heap.size) (hin : ∀ j : Int32, 0 < j → j < 6 → vp_in (iv + j) L) (hnext : LQ Inv p l e s m b below meth c Q 1426 (n + 1) (n + 1) iv) : LQ Inv p l e s m b below meth c Q 1118 n n iv := by
  intro κ γ H locs ls cells slots hC hB0 hH hS hl hI hc1 hc2
  obtain ⟨hx, hb, hown, hT, -, -, -, -, hml, hlk⟩ := id hC
  have hbA : ¬ (AA κ) b := by show ¬ kB κ ≤ b; rw [hB0]; omega
  obtain ⟨h0, h1, h2, h3, h4, h5⟩ := hst n (kN κ) (kO κ) γ (xs ((iv + 1 : Int32).toNatClampNeg)) (xs ((iv + 2 : Int32).toNatClampNeg)) (xs ((iv + 3 : Int32).toNatClampNeg)) hn hI
  refine lv_aload_n hx hb dL_law_1118 rfl (lv_at hl 1 rfl) ?_
  refine lv_aload_n hx hb dL_law_1119 rfl (lv_at hl 0 rfl) ?_
  refine lv_iload hx hb dL_law_1120 (lv_at hl 4 rfl) ?_
  refine lv_iconst (v := 1) hx hb dL_law_1122 (by decide) ?_
  refine lv_iadd hx hb dL_law_1123 ?_
  refine va_sld (A := AA κ) hx hb hX hbl hbA hS (hin 1 (by decide) (by decide)) dL_law_1124 ?_
  refine lv_aload_n hx hb dL_law_1125 rfl (lv_at hl 0 rfl) ?_
  refine lv_iload hx hb dL_law_1126 (lv_at hl 4 rfl) ?_
  refine lv_iconst (v := 2) hx hb dL_law_1128 (by decide) ?_
  refine lv_iadd hx hb dL_law_1129 ?_
  refine va_sld (A := AA κ) hx hb hX hbl hbA hS (hin 2 (by decide) (by decide)) dL_law_1130 ?_
  refine lv_aload_n hx hb dL_law_1131 rfl (lv_at hl 0 rfl) ?_
  refine lv_iload hx hb dL_law_1132 (lv_at hl 4 rfl) ?_
  refine lv_iconst (v := 3) hx hb dL_law_1134 (by decide) ?_
  refine lv_iadd hx hb dL_law_1135 ?_
  refine va_sld (A := AA κ) hx hb hX hbl hbA hS (hin 3 (by decide) (by decide)) dL_law_1136 ?_
  refine lv_aload_n hx hb dL_law_1137 rfl (lv_at hl 3 rfl) ?_
  refine k_xcallW (rest := []) hC hl hH hS (cw_ofPool l hfl κ γ (xs ((iv + 1 : Int32).toNatClampNeg)) (xs ((iv + 2 : Int32).toNatClampNeg)) (xs ((iv + 3 : Int32).toNatClampNeg)) h0 h1) tw_874 tw_875 tw_56 tw_876 hdl_ofPool ⟨Nat.le_of_ble_eq_true rfl, Nat.le_of_ble_eq_true rfl⟩ rfl rfl rfl rfl (Nat.le_of_ble_eq_true rfl) dL_law_1138 ⟨by show cells + 2 ≤ 601024; omega, by show slots + 12 ≤ 7293033; omega⟩ rfl (fun κ9 H locs hke hkN hkO hH hS => ?_)
  have hC9 := hC.ke hke
  have e7 : kA κ9 7 0 = kA κ 7 0 := (hke.2.2.2 7 0 lv_7).2
  have e8 : kA κ9 8 0 = kA κ 8 0 := (hke.2.2.2 8 0 lv_8).2
  have e41 : kA κ9 41 0 = kA κ 41 0 := (hke.2.2.2 41 0 lv_41).2
  rw [← AA_ke hke] at hS
  rw [← e7, ← e8, ← e41] at hl
  have hbA : ¬ (AA κ9) b := by rw [AA_ke hke]; exact hbA
  refine lv_istore (lv' := [(5, .int (wK 0 2 1 (x_X7_ofPool (xs ((iv + 1 : Int32).toNatClampNeg)) (xs ((iv + 2 : Int32).toNatClampNeg)) (xs ((iv + 3 : Int32).toNatClampNeg)) γ).1)), (0, .ref b), (1, .ref (kA κ9 7 0)), (2, .ref (kA κ9 8 0)), (3, .ref (kA κ9 41 0)), (4, .int iv)]) hx hb dL_law_1141 hl (by decide) rfl (fun ls hl => ?_)
  refine lv_aload_n hx hb dL_law_1143 rfl (lv_at hl 3 rfl) ?_
  refine lv_aload_n hx hb dL_law_1144 rfl (lv_at hl 1 rfl) ?_
  refine lv_iload hx hb dL_law_1145 (lv_at hl 5 rfl) ?_
  refine lv_iconst (v := 1) hx hb dL_law_1147 (by decide) ?_
  refine lv_iadd hx hb dL_law_1148 ?_
  refine va_sld (A := AA κ9) hx hb hX hbl hbA hS (hin 1 (by decide) (by decide)) dL_law_1149 ?_
  refine lv_aload_n hx hb dL_law_1150 rfl (lv_at hl 1 rfl) ?_
  refine lv_iload hx hb dL_law_1151 (lv_at hl 5 rfl) ?_
  refine lv_iconst (v := 2) hx hb dL_law_1153 (by decide) ?_
  refine lv_iadd hx hb dL_law_1154 ?_
  refine va_sld (A := AA κ9) hx hb hX hbl hbA hS (hin 2 (by decide) (by decide)) dL_law_1155 ?_
  refine lv_aload_n hx hb dL_law_1156 rfl (lv_at hl 1 rfl) ?_
  refine lv_iload hx hb dL_law_1157 (lv_at hl 5 rfl) ?_
  refine lv_iconst (v := 3) hx hb dL_law_1159 (by decide) ?_
  refine lv_iadd hx hb dL_law_1160 ?_
  refine va_sld (A := AA κ9) hx hb hX hbl hbA hS (hin 3 (by decide) (by decide)) dL_law_1161 ?_
  refine k_callV (C := RX8) (T := TX8) (N := 32) (rest := []) hC9 hl hH hS (c_X8_ofPool l κ9 (wG (x_X7_ofPool (xs ((iv + 1 : Int32).toNatClampNeg)) (xs ((iv + 2 : Int32).toNatClampNeg)) (xs ((iv + 3 : Int32).toNatClampNeg)) γ)) ((xs ((iv + 1 : Int32).toNatClampNeg))) ((xs ((iv + 2 : Int32).toNatClampNeg))) ((xs ((iv + 3 : Int32).toNatClampNeg))) h2) lv_8 rfl rfl tw_1197 tw_1198 tw_1199 tw_62 tw_1200 hd_X8_ofPool ⟨Nat.le_of_ble_eq_true rfl, Nat.le_of_ble_eq_true rfl⟩ rfl rfl rfl rfl (Nat.le_of_ble_eq_true rfl) dL_law_1162 ⟨by show cells + 2 ≤ 601024; omega, by show slots + 12 ≤ 7293033; omega⟩ rfl (fun H locs hH hS => ?_)
  refine lv_istore (lv' := [(6, .int (x_X8_ofPool ((xs ((iv + 1 : Int32).toNatClampNeg))) ((xs ((iv + 2 : Int32).toNatClampNeg))) ((xs ((iv + 3 : Int32).toNatClampNeg))) (wG (x_X7_ofPool (xs ((iv + 1 : Int32).toNatClampNeg)) (xs ((iv + 2 : Int32).toNatClampNeg)) (xs ((iv + 3 : Int32).toNatClampNeg)) γ))).1), (5, .int (wK 0 2 1 (x_X7_ofPool (xs ((iv + 1 : Int32).toNatClampNeg)) (xs ((iv + 2 : Int32).toNatClampNeg)) (xs ((iv + 3 : Int32).toNatClampNeg)) γ).1)), (0, .ref b), (1, .ref (kA κ9 7 0)), (2, .ref (kA κ9 8 0)), (3, .ref (kA κ9 41 0)), (4, .int iv)]) hx hb dL_law_1165 hl (by decide) rfl (fun ls hl => ?_)
  refine lv_aload_n hx hb dL_law_1167 rfl (lv_at hl 4 rfl) ?_
  refine k_callV (C := RX8) (T := TX8) (N := 32) (rest := []) hC9 hl hH hS (c_X8_thrown l κ9 ((x_X8_ofPool ((xs ((iv + 1 : Int32).toNatClampNeg))) ((xs ((iv + 2 : Int32).toNatClampNeg))) ((xs ((iv + 3 : Int32).toNatClampNeg))) (wG (x_X7_ofPool (xs ((iv + 1 : Int32).toNatClampNeg)) (xs ((iv + 2 : Int32).toNatClampNeg)) (xs ((iv + 3 : Int32).toNatClampNeg)) γ))).2)) lv_8 rfl rfl tw_1020 tw_1021 tw_1022 tw_62 tw_1023 hd_X8_thrown ⟨Nat.le_of_ble_eq_true rfl, Nat.le_of_ble_eq_true rfl⟩ rfl rfl rfl rfl (Nat.le_of_ble_eq_true rfl) dL_law_1168 ⟨by show cells + 2 ≤ 601024; omega, by show slots + 12 ≤ 7293033; omega⟩ rfl (fun H locs hH hS => ?_)
  refine lv_iload hx hb dL_law_1171 (lv_at hl 1 rfl) ?_
  refine lv_icmp_eq (tgt := 1178) hx hb dL_law_1173 (by decide) (fun c1 => ?_) (fun c1 => ?_)
  rotate_left
  · exact absurd h3 c1
  refine lv_iload hx hb dL_law_1178 (lv_at hl 1 rfl) ?_
  refine lv_if_ne (tgt := 1195) hx hb dL_law_1180 (by decide) (fun c2 => ?_) (fun c2 => ?_)
  · refine lv_goto (tgt := 1426) hx hb dL_law_1195 (by decide) ?_
    exact hnext κ9 _ H locs ls _ _ hC9 (hke.2.2.1.trans hB0) hH hS (lv_sub hl [2, 3, 4, 5, 6] rfl) (by rw [hkN, hkO]; exact h5) (by omega) (by omega)
  refine lv_aload_n hx hb dL_law_1183 rfl (lv_at hl 5 rfl) ?_
  refine lv_iconst (v := 0) hx hb dL_law_1184 (by decide) ?_
  refine hp_lld (v := gL ((x_X8_ofPool ((xs ((iv + 1 : Int32).toNatClampNeg))) ((xs ((iv + 2 : Int32).toNatClampNeg))) ((xs ((iv + 3 : Int32).toNatClampNeg))) (wG (x_X7_ofPool (xs ((iv + 1 : Int32).toNatClampNeg)) (xs ((iv + 2 : Int32).toNatClampNeg)) (xs ((iv + 3 : Int32).toNatClampNeg)) γ))).2) 41 0) hC9 hH lv_41 rfl vp01 rfl dL_law_1185 ?_
  refine lv_iload hx hb dL_law_1186 (lv_at hl 0 rfl) ?_
  refine lv_i2l (v := ((x_X8_ofPool ((xs ((iv + 1 : Int32).toNatClampNeg))) ((xs ((iv + 2 : Int32).toNatClampNeg))) ((xs ((iv + 3 : Int32).toNatClampNeg))) (wG (x_X7_ofPool (xs ((iv + 1 : Int32).toNatClampNeg)) (xs ((iv + 2 : Int32).toNatClampNeg)) (xs ((iv + 3 : Int32).toNatClampNeg)) γ))).1).toInt64) hx hb dL_law_1188 rfl ?_
  refine W.lcmp hx hb dL_law_1189 ?_
  refine lv_if_eq (tgt := 1195) hx hb dL_law_1190 (by decide) (fun c3 => ?_) (fun c3 => ?_)
  rotate_left
  · exact absurd (by rw [h4 c2]; exact lg_cmp_self _) c3
  refine lv_goto (tgt := 1426) hx hb dL_law_1195 (by decide) ?_
  exact hnext κ9 _ H locs ls _ _ hC9 (hke.2.2.1.trans hB0) hH hS (lv_sub hl [2, 3, 4, 5, 6] rfl) (by rw [hkN, hkO]; exact h5) (by omega) (by omega)
set_option maxRecDepth 20000 in
set_option maxHeartbeats 4000000 in
theorem lc_ofPoolAnew {Inv : Nat → Nat → Nat → St → Prop} (hst : SP_ofPoolAnew Inv) {p : Program} {l : Launch} (hfl : l.stackTraces = false) {e : Env} {s : State} {m : MethodId} {b L : Nat} {xs : Nat → Int32} {below : List Frame} {meth : Method} {c : Code} {Q : State → Prop} {n : Nat} {iv : Int32} (hn : n < 512) (hX : va_X b L xs s s.heap) (hbl : b < s.heap.size) (hin : ∀ j : Int32, 0 < j → j < 6 → vp_in (iv + j) L) (hnext : LQ Inv p l e s m b below meth c Q 1426 (n + 1) (n + 1) iv) : LQ Inv p l e s m b below meth c Q 1198 n n iv := by
  intro κ γ H locs ls cells slots hC hB0 hH hS hl hI hc1 hc2
  obtain ⟨hx, hb, hown, hT, -, -, -, -, hml, hlk⟩ := id hC
  have hbA : ¬ (AA κ) b := by show ¬ kB κ ≤ b; rw [hB0]; omega
  obtain ⟨h0, h1, h2, h3, h4, h5⟩ := hst n (kN κ) (kO κ) γ (xs ((iv + 1 : Int32).toNatClampNeg)) (xs ((iv + 2 : Int32).toNatClampNeg)) (xs ((iv + 3 : Int32).toNatClampNeg)) hn hI
  refine lv_aload_n hx hb dL_law_1198 rfl (lv_at hl 1 rfl) ?_
  refine lv_aload_n hx hb dL_law_1199 rfl (lv_at hl 0 rfl) ?_
  refine lv_iload hx hb dL_law_1200 (lv_at hl 4 rfl) ?_
  refine lv_iconst (v := 1) hx hb dL_law_1202 (by decide) ?_
  refine lv_iadd hx hb dL_law_1203 ?_
  refine va_sld (A := AA κ) hx hb hX hbl hbA hS (hin 1 (by decide) (by decide)) dL_law_1204 ?_
  refine lv_aload_n hx hb dL_law_1205 rfl (lv_at hl 0 rfl) ?_
  refine lv_iload hx hb dL_law_1206 (lv_at hl 4 rfl) ?_
  refine lv_iconst (v := 2) hx hb dL_law_1208 (by decide) ?_
  refine lv_iadd hx hb dL_law_1209 ?_
  refine va_sld (A := AA κ) hx hb hX hbl hbA hS (hin 2 (by decide) (by decide)) dL_law_1210 ?_
  refine lv_aload_n hx hb dL_law_1211 rfl (lv_at hl 0 rfl) ?_
  refine lv_iload hx hb dL_law_1212 (lv_at hl 4 rfl) ?_
  refine lv_iconst (v := 3) hx hb dL_law_1214 (by decide) ?_
  refine lv_iadd hx hb dL_law_1215 ?_
  refine va_sld (A := AA κ) hx hb hX hbl hbA hS (hin 3 (by decide) (by decide)) dL_law_1216 ?_
  refine lv_aload_n hx hb dL_law_1217 rfl (lv_at hl 3 rfl) ?_
  refine k_xcallW (rest := []) hC hl hH hS (cw_ofPoolAnew l hfl κ γ (xs ((iv + 1 : Int32).toNatClampNeg)) (xs ((iv + 2 : Int32).toNatClampNeg)) (xs ((iv + 3 : Int32).toNatClampNeg)) h0 h1) tw_885 tw_886 tw_56 tw_887 hdl_ofPoolAnew ⟨Nat.le_of_ble_eq_true rfl, Nat.le_of_ble_eq_true rfl⟩ rfl rfl rfl rfl (Nat.le_of_ble_eq_true rfl) dL_law_1218 ⟨by show cells + 2 ≤ 601024; omega, by show slots + 12 ≤ 7293033; omega⟩ rfl (fun κ9 H locs hke hkN hkO hH hS => ?_)
  have hC9 := hC.ke hke
  have e7 : kA κ9 7 0 = kA κ 7 0 := (hke.2.2.2 7 0 lv_7).2
  have e8 : kA κ9 8 0 = kA κ 8 0 := (hke.2.2.2 8 0 lv_8).2
  have e41 : kA κ9 41 0 = kA κ 41 0 := (hke.2.2.2 41 0 lv_41).2
  rw [← AA_ke hke] at hS
  rw [← e7, ← e8, ← e41] at hl
  have hbA : ¬ (AA κ9) b := by rw [AA_ke hke]; exact hbA
  refine lv_istore (lv' := [(5, .int (wK 0 2 1 (x_X7_ofPoolAnew (xs ((iv + 1 : Int32).toNatClampNeg)) (xs ((iv + 2 : Int32).toNatClampNeg)) (xs ((iv + 3 : Int32).toNatClampNeg)) γ).1)), (0, .ref b), (1, .ref (kA κ9 7 0)), (2, .ref (kA κ9 8 0)), (3, .ref (kA κ9 41 0)), (4, .int iv)]) hx hb dL_law_1221 hl (by decide) rfl (fun ls hl => ?_)
  refine lv_aload_n hx hb dL_law_1223 rfl (lv_at hl 3 rfl) ?_
  refine lv_aload_n hx hb dL_law_1224 rfl (lv_at hl 1 rfl) ?_
  refine lv_iload hx hb dL_law_1225 (lv_at hl 5 rfl) ?_
  refine lv_iconst (v := 1) hx hb dL_law_1227 (by decide) ?_
  refine lv_iadd hx hb dL_law_1228 ?_
  refine va_sld (A := AA κ9) hx hb hX hbl hbA hS (hin 1 (by decide) (by decide)) dL_law_1229 ?_
  refine lv_aload_n hx hb dL_law_1230 rfl (lv_at hl 1 rfl) ?_
  refine lv_iload hx hb dL_law_1231 (lv_at hl 5 rfl) ?_
  refine lv_iconst (v := 2) hx hb dL_law_1233 (by decide) ?_
  refine lv_iadd hx hb dL_law_1234 ?_
  refine va_sld (A := AA κ9) hx hb hX hbl hbA hS (hin 2 (by decide) (by decide)) dL_law_1235 ?_
  refine lv_aload_n hx hb dL_law_1236 rfl (lv_at hl 1 rfl) ?_
  refine lv_iload hx hb dL_law_1237 (lv_at hl 5 rfl) ?_
  refine lv_iconst (v := 3) hx hb dL_law_1239 (by decide) ?_
  refine lv_iadd hx hb dL_law_1240 ?_
  refine va_sld (A := AA κ9) hx hb hX hbl hbA hS (hin 3 (by decide) (by decide)) dL_law_1241 ?_
  refine k_callV (C := RX8) (T := TX8) (N := 32) (rest := []) hC9 hl hH hS (c_X8_ofPoolAnew l κ9 (wG (x_X7_ofPoolAnew (xs ((iv + 1 : Int32).toNatClampNeg)) (xs ((iv + 2 : Int32).toNatClampNeg)) (xs ((iv + 3 : Int32).toNatClampNeg)) γ)) ((xs ((iv + 1 : Int32).toNatClampNeg))) ((xs ((iv + 2 : Int32).toNatClampNeg))) ((xs ((iv + 3 : Int32).toNatClampNeg))) h2) lv_8 rfl rfl tw_1205 tw_1206 tw_1207 tw_62 tw_1208 hd_X8_ofPoolAnew ⟨Nat.le_of_ble_eq_true rfl, Nat.le_of_ble_eq_true rfl⟩ rfl rfl rfl rfl (Nat.le_of_ble_eq_true rfl) dL_law_1242 ⟨by show cells + 2 ≤ 601024; omega, by show slots + 12 ≤ 7293033; omega⟩ rfl (fun H locs hH hS => ?_)
  refine lv_istore (lv' := [(6, .int (x_X8_ofPoolAnew ((xs ((iv + 1 : Int32).toNatClampNeg))) ((xs ((iv + 2 : Int32).toNatClampNeg))) ((xs ((iv + 3 : Int32).toNatClampNeg))) (wG (x_X7_ofPoolAnew (xs ((iv + 1 : Int32).toNatClampNeg)) (xs ((iv + 2 : Int32).toNatClampNeg)) (xs ((iv + 3 : Int32).toNatClampNeg)) γ))).1), (5, .int (wK 0 2 1 (x_X7_ofPoolAnew (xs ((iv + 1 : Int32).toNatClampNeg)) (xs ((iv + 2 : Int32).toNatClampNeg)) (xs ((iv + 3 : Int32).toNatClampNeg)) γ).1)), (0, .ref b), (1, .ref (kA κ9 7 0)), (2, .ref (kA κ9 8 0)), (3, .ref (kA κ9 41 0)), (4, .int iv)]) hx hb dL_law_1245 hl (by decide) rfl (fun ls hl => ?_)
  refine lv_aload_n hx hb dL_law_1247 rfl (lv_at hl 4 rfl) ?_
  refine k_callV (C := RX8) (T := TX8) (N := 32) (rest := []) hC9 hl hH hS (c_X8_thrown l κ9 ((x_X8_ofPoolAnew ((xs ((iv + 1 : Int32).toNatClampNeg))) ((xs ((iv + 2 : Int32).toNatClampNeg))) ((xs ((iv + 3 : Int32).toNatClampNeg))) (wG (x_X7_ofPoolAnew (xs ((iv + 1 : Int32).toNatClampNeg)) (xs ((iv + 2 : Int32).toNatClampNeg)) (xs ((iv + 3 : Int32).toNatClampNeg)) γ))).2)) lv_8 rfl rfl tw_1020 tw_1021 tw_1022 tw_62 tw_1023 hd_X8_thrown ⟨Nat.le_of_ble_eq_true rfl, Nat.le_of_ble_eq_true rfl⟩ rfl rfl rfl rfl (Nat.le_of_ble_eq_true rfl) dL_law_1248 ⟨by show cells + 2 ≤ 601024; omega, by show slots + 12 ≤ 7293033; omega⟩ rfl (fun H locs hH hS => ?_)
  refine lv_iload hx hb dL_law_1251 (lv_at hl 1 rfl) ?_
  refine lv_icmp_eq (tgt := 1258) hx hb dL_law_1253 (by decide) (fun c1 => ?_) (fun c1 => ?_)
  rotate_left
  · exact absurd h3 c1
  refine lv_iload hx hb dL_law_1258 (lv_at hl 1 rfl) ?_
  refine lv_if_ne (tgt := 1275) hx hb dL_law_1260 (by decide) (fun c2 => ?_) (fun c2 => ?_)
  · refine lv_goto (tgt := 1426) hx hb dL_law_1275 (by decide) ?_
    exact hnext κ9 _ H locs ls _ _ hC9 (hke.2.2.1.trans hB0) hH hS (lv_sub hl [2, 3, 4, 5, 6] rfl) (by rw [hkN, hkO]; exact h5) (by omega) (by omega)
  refine lv_aload_n hx hb dL_law_1263 rfl (lv_at hl 5 rfl) ?_
  refine lv_iconst (v := 0) hx hb dL_law_1264 (by decide) ?_
  refine hp_lld (v := gL ((x_X8_ofPoolAnew ((xs ((iv + 1 : Int32).toNatClampNeg))) ((xs ((iv + 2 : Int32).toNatClampNeg))) ((xs ((iv + 3 : Int32).toNatClampNeg))) (wG (x_X7_ofPoolAnew (xs ((iv + 1 : Int32).toNatClampNeg)) (xs ((iv + 2 : Int32).toNatClampNeg)) (xs ((iv + 3 : Int32).toNatClampNeg)) γ))).2) 41 0) hC9 hH lv_41 rfl vp01 rfl dL_law_1265 ?_
  refine lv_iload hx hb dL_law_1266 (lv_at hl 0 rfl) ?_
  refine lv_i2l (v := ((x_X8_ofPoolAnew ((xs ((iv + 1 : Int32).toNatClampNeg))) ((xs ((iv + 2 : Int32).toNatClampNeg))) ((xs ((iv + 3 : Int32).toNatClampNeg))) (wG (x_X7_ofPoolAnew (xs ((iv + 1 : Int32).toNatClampNeg)) (xs ((iv + 2 : Int32).toNatClampNeg)) (xs ((iv + 3 : Int32).toNatClampNeg)) γ))).1).toInt64) hx hb dL_law_1268 rfl ?_
  refine W.lcmp hx hb dL_law_1269 ?_
  refine lv_if_eq (tgt := 1275) hx hb dL_law_1270 (by decide) (fun c3 => ?_) (fun c3 => ?_)
  rotate_left
  · exact absurd (by rw [h4 c2]; exact lg_cmp_self _) c3
  refine lv_goto (tgt := 1426) hx hb dL_law_1275 (by decide) ?_
  exact hnext κ9 _ H locs ls _ _ hC9 (hke.2.2.1.trans hB0) hH hS (lv_sub hl [2, 3, 4, 5, 6] rfl) (by rw [hkN, hkO]; exact h5) (by omega) (by omega)
set_option maxRecDepth 20000 in
set_option maxHeartbeats 4000000 in
theorem lc_rank {Inv : Nat → Nat → Nat → St → Prop} (hst : SP_rank Inv) {p : Program} {l : Launch} (hfl : l.stackTraces = false) {e : Env} {s : State} {m : MethodId} {b L : Nat} {xs : Nat → Int32} {below : List Frame} {meth : Method} {c : Code} {Q : State → Prop} {n : Nat} {iv : Int32} (hn : n < 512) (hX : va_X b L xs s s.heap) (hbl : b < s.heap.size) (hin : ∀ j : Int32, 0 < j → j < 6 → vp_in (iv + j) L) (hnext : LQ Inv p l e s m b below meth c Q 1426 (n + 1) (n + 1) iv) : LQ Inv p l e s m b below meth c Q 1278 n n iv := by
  intro κ γ H locs ls cells slots hC hB0 hH hS hl hI hc1 hc2
  obtain ⟨hx, hb, hown, hT, -, -, -, -, hml, hlk⟩ := id hC
  have hbA : ¬ (AA κ) b := by show ¬ kB κ ≤ b; rw [hB0]; omega
  obtain ⟨h0, h1, h2, h3, h4, h5⟩ := hst n (kN κ) (kO κ) γ (xs ((iv + 1 : Int32).toNatClampNeg)) (xs ((iv + 2 : Int32).toNatClampNeg)) hn hI
  refine lv_aload_n hx hb dL_law_1278 rfl (lv_at hl 1 rfl) ?_
  refine lv_aload_n hx hb dL_law_1279 rfl (lv_at hl 0 rfl) ?_
  refine lv_iload hx hb dL_law_1280 (lv_at hl 4 rfl) ?_
  refine lv_iconst (v := 1) hx hb dL_law_1282 (by decide) ?_
  refine lv_iadd hx hb dL_law_1283 ?_
  refine va_sld (A := AA κ) hx hb hX hbl hbA hS (hin 1 (by decide) (by decide)) dL_law_1284 ?_
  refine lv_aload_n hx hb dL_law_1285 rfl (lv_at hl 0 rfl) ?_
  refine lv_iload hx hb dL_law_1286 (lv_at hl 4 rfl) ?_
  refine lv_iconst (v := 2) hx hb dL_law_1288 (by decide) ?_
  refine lv_iadd hx hb dL_law_1289 ?_
  refine va_sld (A := AA κ) hx hb hX hbl hbA hS (hin 2 (by decide) (by decide)) dL_law_1290 ?_
  refine lv_aload_n hx hb dL_law_1291 rfl (lv_at hl 3 rfl) ?_
  refine k_xcallW (rest := []) hC hl hH hS (cw_rank l hfl κ γ (xs ((iv + 1 : Int32).toNatClampNeg)) (xs ((iv + 2 : Int32).toNatClampNeg)) h0 h1) tw_897 tw_898 tw_56 tw_899 hdl_rank ⟨Nat.le_of_ble_eq_true rfl, Nat.le_of_ble_eq_true rfl⟩ rfl rfl rfl rfl (Nat.le_of_ble_eq_true rfl) dL_law_1292 ⟨by show cells + 1 ≤ 601024; omega, by show slots + 6 ≤ 7293033; omega⟩ rfl (fun κ9 H locs hke hkN hkO hH hS => ?_)
  have hC9 := hC.ke hke
  have e7 : kA κ9 7 0 = kA κ 7 0 := (hke.2.2.2 7 0 lv_7).2
  have e8 : kA κ9 8 0 = kA κ 8 0 := (hke.2.2.2 8 0 lv_8).2
  have e41 : kA κ9 41 0 = kA κ 41 0 := (hke.2.2.2 41 0 lv_41).2
  rw [← AA_ke hke] at hS
  rw [← e7, ← e8, ← e41] at hl
  have hbA : ¬ (AA κ9) b := by rw [AA_ke hke]; exact hbA
  refine lv_istore (lv' := [(5, .int (wK 0 0 1 (x_X7_rank (xs ((iv + 1 : Int32).toNatClampNeg)) (xs ((iv + 2 : Int32).toNatClampNeg)) γ).1)), (0, .ref b), (1, .ref (kA κ9 7 0)), (2, .ref (kA κ9 8 0)), (3, .ref (kA κ9 41 0)), (4, .int iv)]) hx hb dL_law_1295 hl (by decide) rfl (fun ls hl => ?_)
  refine lv_aload_n hx hb dL_law_1297 rfl (lv_at hl 3 rfl) ?_
  refine lv_aload_n hx hb dL_law_1298 rfl (lv_at hl 1 rfl) ?_
  refine lv_iload hx hb dL_law_1299 (lv_at hl 5 rfl) ?_
  refine lv_iconst (v := 1) hx hb dL_law_1301 (by decide) ?_
  refine lv_iadd hx hb dL_law_1302 ?_
  refine va_sld (A := AA κ9) hx hb hX hbl hbA hS (hin 1 (by decide) (by decide)) dL_law_1303 ?_
  refine lv_aload_n hx hb dL_law_1304 rfl (lv_at hl 1 rfl) ?_
  refine lv_iload hx hb dL_law_1305 (lv_at hl 5 rfl) ?_
  refine lv_iconst (v := 2) hx hb dL_law_1307 (by decide) ?_
  refine lv_iadd hx hb dL_law_1308 ?_
  refine va_sld (A := AA κ9) hx hb hX hbl hbA hS (hin 2 (by decide) (by decide)) dL_law_1309 ?_
  refine k_callV (C := RX8) (T := TX8) (N := 32) (rest := []) hC9 hl hH hS (c_X8_rank l κ9 (wG (x_X7_rank (xs ((iv + 1 : Int32).toNatClampNeg)) (xs ((iv + 2 : Int32).toNatClampNeg)) γ)) ((xs ((iv + 1 : Int32).toNatClampNeg))) ((xs ((iv + 2 : Int32).toNatClampNeg))) h2) lv_8 rfl rfl tw_1209 tw_1210 tw_1211 tw_62 tw_1212 hd_X8_rank ⟨Nat.le_of_ble_eq_true rfl, Nat.le_of_ble_eq_true rfl⟩ rfl rfl rfl rfl (Nat.le_of_ble_eq_true rfl) dL_law_1310 ⟨by show cells + 1 ≤ 601024; omega, by show slots + 6 ≤ 7293033; omega⟩ rfl (fun H locs hH hS => ?_)
  refine lv_istore (lv' := [(6, .int (x_X8_rank ((xs ((iv + 1 : Int32).toNatClampNeg))) ((xs ((iv + 2 : Int32).toNatClampNeg))) (wG (x_X7_rank (xs ((iv + 1 : Int32).toNatClampNeg)) (xs ((iv + 2 : Int32).toNatClampNeg)) γ))).1), (5, .int (wK 0 0 1 (x_X7_rank (xs ((iv + 1 : Int32).toNatClampNeg)) (xs ((iv + 2 : Int32).toNatClampNeg)) γ).1)), (0, .ref b), (1, .ref (kA κ9 7 0)), (2, .ref (kA κ9 8 0)), (3, .ref (kA κ9 41 0)), (4, .int iv)]) hx hb dL_law_1313 hl (by decide) rfl (fun ls hl => ?_)
  refine lv_aload_n hx hb dL_law_1315 rfl (lv_at hl 4 rfl) ?_
  refine k_callV (C := RX8) (T := TX8) (N := 32) (rest := []) hC9 hl hH hS (c_X8_thrown l κ9 ((x_X8_rank ((xs ((iv + 1 : Int32).toNatClampNeg))) ((xs ((iv + 2 : Int32).toNatClampNeg))) (wG (x_X7_rank (xs ((iv + 1 : Int32).toNatClampNeg)) (xs ((iv + 2 : Int32).toNatClampNeg)) γ))).2)) lv_8 rfl rfl tw_1020 tw_1021 tw_1022 tw_62 tw_1023 hd_X8_thrown ⟨Nat.le_of_ble_eq_true rfl, Nat.le_of_ble_eq_true rfl⟩ rfl rfl rfl rfl (Nat.le_of_ble_eq_true rfl) dL_law_1316 ⟨by show cells + 1 ≤ 601024; omega, by show slots + 6 ≤ 7293033; omega⟩ rfl (fun H locs hH hS => ?_)
  refine lv_iload hx hb dL_law_1319 (lv_at hl 1 rfl) ?_
  refine lv_icmp_eq (tgt := 1326) hx hb dL_law_1321 (by decide) (fun c1 => ?_) (fun c1 => ?_)
  rotate_left
  · exact absurd h3 c1
  refine lv_iload hx hb dL_law_1326 (lv_at hl 1 rfl) ?_
  refine lv_if_ne (tgt := 1343) hx hb dL_law_1328 (by decide) (fun c2 => ?_) (fun c2 => ?_)
  · refine lv_goto (tgt := 1426) hx hb dL_law_1343 (by decide) ?_
    exact hnext κ9 _ H locs ls _ _ hC9 (hke.2.2.1.trans hB0) hH hS (lv_sub hl [2, 3, 4, 5, 6] rfl) (by rw [hkN, hkO]; exact h5) (by omega) (by omega)
  refine lv_aload_n hx hb dL_law_1331 rfl (lv_at hl 5 rfl) ?_
  refine lv_iconst (v := 0) hx hb dL_law_1332 (by decide) ?_
  refine hp_lld (v := gL ((x_X8_rank ((xs ((iv + 1 : Int32).toNatClampNeg))) ((xs ((iv + 2 : Int32).toNatClampNeg))) (wG (x_X7_rank (xs ((iv + 1 : Int32).toNatClampNeg)) (xs ((iv + 2 : Int32).toNatClampNeg)) γ))).2) 41 0) hC9 hH lv_41 rfl vp01 rfl dL_law_1333 ?_
  refine lv_iload hx hb dL_law_1334 (lv_at hl 0 rfl) ?_
  refine lv_i2l (v := ((x_X8_rank ((xs ((iv + 1 : Int32).toNatClampNeg))) ((xs ((iv + 2 : Int32).toNatClampNeg))) (wG (x_X7_rank (xs ((iv + 1 : Int32).toNatClampNeg)) (xs ((iv + 2 : Int32).toNatClampNeg)) γ))).1).toInt64) hx hb dL_law_1336 rfl ?_
  refine W.lcmp hx hb dL_law_1337 ?_
  refine lv_if_eq (tgt := 1343) hx hb dL_law_1338 (by decide) (fun c3 => ?_) (fun c3 => ?_)
  rotate_left
  · exact absurd (by rw [h4 c2]; exact lg_cmp_self _) c3
  refine lv_goto (tgt := 1426) hx hb dL_law_1343 (by decide) ?_
  exact hnext κ9 _ H locs ls _ _ hC9 (hke.2.2.1.trans hB0) hH hS (lv_sub hl [2, 3, 4, 5, 6] rfl) (by rw [hkN, hkO]; exact h5) (by omega) (by omega)
set_option maxRecDepth 20000 in
set_option maxHeartbeats 4000000 in
theorem lc_meets {Inv : Nat → Nat → Nat → St → Prop} (hst : SP_meets Inv) {p : Program} {l : Launch} (hfl : l.stackTraces = false) {e : Env} {s : State} {m : MethodId} {b L : Nat} {xs : Nat → Int32} {below : List Frame} {meth : Method} {c : Code} {Q : State → Prop} {n : Nat} {iv : Int32} (hn : n < 512) (hX : va_X b L xs s s.heap) (hbl : b < s.heap.size) (hin : ∀ j : Int32, 0 < j → j < 6 → vp_in (iv + j) L) (hnext : LQ Inv p l e s m b below meth c Q 1426 (n + 1) (n + 1) iv) : LQ Inv p l e s m b below meth c Q 1346 n n iv := by
  intro κ γ H locs ls cells slots hC hB0 hH hS hl hI hc1 hc2
  obtain ⟨hx, hb, hown, hT, -, -, -, -, hml, hlk⟩ := id hC
  have hbA : ¬ (AA κ) b := by show ¬ kB κ ≤ b; rw [hB0]; omega
  obtain ⟨h0, h1, h2, h3, h4, h5⟩ := hst n (kN κ) (kO κ) γ (xs ((iv + 1 : Int32).toNatClampNeg)) (xs ((iv + 2 : Int32).toNatClampNeg)) (xs ((iv + 3 : Int32).toNatClampNeg)) hn hI
  refine lv_aload_n hx hb dL_law_1346 rfl (lv_at hl 1 rfl) ?_
  refine lv_aload_n hx hb dL_law_1347 rfl (lv_at hl 0 rfl) ?_
  refine lv_iload hx hb dL_law_1348 (lv_at hl 4 rfl) ?_
  refine lv_iconst (v := 1) hx hb dL_law_1350 (by decide) ?_
  refine lv_iadd hx hb dL_law_1351 ?_
  refine va_sld (A := AA κ) hx hb hX hbl hbA hS (hin 1 (by decide) (by decide)) dL_law_1352 ?_
  refine lv_aload_n hx hb dL_law_1353 rfl (lv_at hl 0 rfl) ?_
  refine lv_iload hx hb dL_law_1354 (lv_at hl 4 rfl) ?_
  refine lv_iconst (v := 2) hx hb dL_law_1356 (by decide) ?_
  refine lv_iadd hx hb dL_law_1357 ?_
  refine va_sld (A := AA κ) hx hb hX hbl hbA hS (hin 2 (by decide) (by decide)) dL_law_1358 ?_
  refine lv_aload_n hx hb dL_law_1359 rfl (lv_at hl 0 rfl) ?_
  refine lv_iload hx hb dL_law_1360 (lv_at hl 4 rfl) ?_
  refine lv_iconst (v := 3) hx hb dL_law_1362 (by decide) ?_
  refine lv_iadd hx hb dL_law_1363 ?_
  refine va_sld (A := AA κ) hx hb hX hbl hbA hS (hin 3 (by decide) (by decide)) dL_law_1364 ?_
  refine lv_aload_n hx hb dL_law_1365 rfl (lv_at hl 3 rfl) ?_
  refine k_xcallW (rest := []) hC hl hH hS (cw_meets l hfl κ γ (xs ((iv + 1 : Int32).toNatClampNeg)) (xs ((iv + 2 : Int32).toNatClampNeg)) (xs ((iv + 3 : Int32).toNatClampNeg)) h0 h1) tw_907 tw_908 tw_56 tw_909 hdl_meets ⟨Nat.le_of_ble_eq_true rfl, Nat.le_of_ble_eq_true rfl⟩ rfl rfl rfl rfl (Nat.le_of_ble_eq_true rfl) dL_law_1366 ⟨by show cells + 2 ≤ 601024; omega, by show slots + 12 ≤ 7293033; omega⟩ rfl (fun κ9 H locs hke hkN hkO hH hS => ?_)
  have hC9 := hC.ke hke
  have e7 : kA κ9 7 0 = kA κ 7 0 := (hke.2.2.2 7 0 lv_7).2
  have e8 : kA κ9 8 0 = kA κ 8 0 := (hke.2.2.2 8 0 lv_8).2
  have e41 : kA κ9 41 0 = kA κ 41 0 := (hke.2.2.2 41 0 lv_41).2
  rw [← AA_ke hke] at hS
  rw [← e7, ← e8, ← e41] at hl
  have hbA : ¬ (AA κ9) b := by rw [AA_ke hke]; exact hbA
  refine lv_istore (lv' := [(5, .int (wK 0 2 1 (x_X7_meets (xs ((iv + 1 : Int32).toNatClampNeg)) (xs ((iv + 2 : Int32).toNatClampNeg)) (xs ((iv + 3 : Int32).toNatClampNeg)) γ).1)), (0, .ref b), (1, .ref (kA κ9 7 0)), (2, .ref (kA κ9 8 0)), (3, .ref (kA κ9 41 0)), (4, .int iv)]) hx hb dL_law_1369 hl (by decide) rfl (fun ls hl => ?_)
  refine lv_aload_n hx hb dL_law_1371 rfl (lv_at hl 3 rfl) ?_
  refine lv_aload_n hx hb dL_law_1372 rfl (lv_at hl 1 rfl) ?_
  refine lv_iload hx hb dL_law_1373 (lv_at hl 5 rfl) ?_
  refine lv_iconst (v := 1) hx hb dL_law_1375 (by decide) ?_
  refine lv_iadd hx hb dL_law_1376 ?_
  refine va_sld (A := AA κ9) hx hb hX hbl hbA hS (hin 1 (by decide) (by decide)) dL_law_1377 ?_
  refine lv_aload_n hx hb dL_law_1378 rfl (lv_at hl 1 rfl) ?_
  refine lv_iload hx hb dL_law_1379 (lv_at hl 5 rfl) ?_
  refine lv_iconst (v := 2) hx hb dL_law_1381 (by decide) ?_
  refine lv_iadd hx hb dL_law_1382 ?_
  refine va_sld (A := AA κ9) hx hb hX hbl hbA hS (hin 2 (by decide) (by decide)) dL_law_1383 ?_
  refine lv_aload_n hx hb dL_law_1384 rfl (lv_at hl 1 rfl) ?_
  refine lv_iload hx hb dL_law_1385 (lv_at hl 5 rfl) ?_
  refine lv_iconst (v := 3) hx hb dL_law_1387 (by decide) ?_
  refine lv_iadd hx hb dL_law_1388 ?_
  refine va_sld (A := AA κ9) hx hb hX hbl hbA hS (hin 3 (by decide) (by decide)) dL_law_1389 ?_
  refine k_callV (C := RX8) (T := TX8) (N := 32) (rest := []) hC9 hl hH hS (c_X8_meets l κ9 (wG (x_X7_meets (xs ((iv + 1 : Int32).toNatClampNeg)) (xs ((iv + 2 : Int32).toNatClampNeg)) (xs ((iv + 3 : Int32).toNatClampNeg)) γ)) ((xs ((iv + 1 : Int32).toNatClampNeg))) ((xs ((iv + 2 : Int32).toNatClampNeg))) ((xs ((iv + 3 : Int32).toNatClampNeg))) h2) lv_8 rfl rfl tw_1213 tw_1214 tw_1215 tw_62 tw_1216 hd_X8_meets ⟨Nat.le_of_ble_eq_true rfl, Nat.le_of_ble_eq_true rfl⟩ rfl rfl rfl rfl (Nat.le_of_ble_eq_true rfl) dL_law_1390 ⟨by show cells + 2 ≤ 601024; omega, by show slots + 12 ≤ 7293033; omega⟩ rfl (fun H locs hH hS => ?_)
  refine lv_istore (lv' := [(6, .int (x_X8_meets ((xs ((iv + 1 : Int32).toNatClampNeg))) ((xs ((iv + 2 : Int32).toNatClampNeg))) ((xs ((iv + 3 : Int32).toNatClampNeg))) (wG (x_X7_meets (xs ((iv + 1 : Int32).toNatClampNeg)) (xs ((iv + 2 : Int32).toNatClampNeg)) (xs ((iv + 3 : Int32).toNatClampNeg)) γ))).1), (5, .int (wK 0 2 1 (x_X7_meets (xs ((iv + 1 : Int32).toNatClampNeg)) (xs ((iv + 2 : Int32).toNatClampNeg)) (xs ((iv + 3 : Int32).toNatClampNeg)) γ).1)), (0, .ref b), (1, .ref (kA κ9 7 0)), (2, .ref (kA κ9 8 0)), (3, .ref (kA κ9 41 0)), (4, .int iv)]) hx hb dL_law_1393 hl (by decide) rfl (fun ls hl => ?_)
  refine lv_aload_n hx hb dL_law_1395 rfl (lv_at hl 4 rfl) ?_
  refine k_callV (C := RX8) (T := TX8) (N := 32) (rest := []) hC9 hl hH hS (c_X8_thrown l κ9 ((x_X8_meets ((xs ((iv + 1 : Int32).toNatClampNeg))) ((xs ((iv + 2 : Int32).toNatClampNeg))) ((xs ((iv + 3 : Int32).toNatClampNeg))) (wG (x_X7_meets (xs ((iv + 1 : Int32).toNatClampNeg)) (xs ((iv + 2 : Int32).toNatClampNeg)) (xs ((iv + 3 : Int32).toNatClampNeg)) γ))).2)) lv_8 rfl rfl tw_1020 tw_1021 tw_1022 tw_62 tw_1023 hd_X8_thrown ⟨Nat.le_of_ble_eq_true rfl, Nat.le_of_ble_eq_true rfl⟩ rfl rfl rfl rfl (Nat.le_of_ble_eq_true rfl) dL_law_1396 ⟨by show cells + 2 ≤ 601024; omega, by show slots + 12 ≤ 7293033; omega⟩ rfl (fun H locs hH hS => ?_)
  refine lv_iload hx hb dL_law_1399 (lv_at hl 1 rfl) ?_
  refine lv_icmp_eq (tgt := 1406) hx hb dL_law_1401 (by decide) (fun c1 => ?_) (fun c1 => ?_)
  rotate_left
  · exact absurd h3 c1
  refine lv_iload hx hb dL_law_1406 (lv_at hl 1 rfl) ?_
  refine lv_if_ne (tgt := 1423) hx hb dL_law_1408 (by decide) (fun c2 => ?_) (fun c2 => ?_)
  · refine lv_goto (tgt := 1426) hx hb dL_law_1423 (by decide) ?_
    exact hnext κ9 _ H locs ls _ _ hC9 (hke.2.2.1.trans hB0) hH hS (lv_sub hl [2, 3, 4, 5, 6] rfl) (by rw [hkN, hkO]; exact h5) (by omega) (by omega)
  refine lv_aload_n hx hb dL_law_1411 rfl (lv_at hl 5 rfl) ?_
  refine lv_iconst (v := 0) hx hb dL_law_1412 (by decide) ?_
  refine hp_lld (v := gL ((x_X8_meets ((xs ((iv + 1 : Int32).toNatClampNeg))) ((xs ((iv + 2 : Int32).toNatClampNeg))) ((xs ((iv + 3 : Int32).toNatClampNeg))) (wG (x_X7_meets (xs ((iv + 1 : Int32).toNatClampNeg)) (xs ((iv + 2 : Int32).toNatClampNeg)) (xs ((iv + 3 : Int32).toNatClampNeg)) γ))).2) 41 0) hC9 hH lv_41 rfl vp01 rfl dL_law_1413 ?_
  refine lv_iload hx hb dL_law_1414 (lv_at hl 0 rfl) ?_
  refine lv_i2l (v := ((x_X8_meets ((xs ((iv + 1 : Int32).toNatClampNeg))) ((xs ((iv + 2 : Int32).toNatClampNeg))) ((xs ((iv + 3 : Int32).toNatClampNeg))) (wG (x_X7_meets (xs ((iv + 1 : Int32).toNatClampNeg)) (xs ((iv + 2 : Int32).toNatClampNeg)) (xs ((iv + 3 : Int32).toNatClampNeg)) γ))).1).toInt64) hx hb dL_law_1416 rfl ?_
  refine W.lcmp hx hb dL_law_1417 ?_
  refine lv_if_eq (tgt := 1423) hx hb dL_law_1418 (by decide) (fun c3 => ?_) (fun c3 => ?_)
  rotate_left
  · exact absurd (by rw [h4 c2]; exact lg_cmp_self _) c3
  refine lv_goto (tgt := 1426) hx hb dL_law_1423 (by decide) ?_
  exact hnext κ9 _ H locs ls _ _ hC9 (hke.2.2.1.trans hB0) hH hS (lv_sub hl [2, 3, 4, 5, 6] rfl) (by rw [hkN, hkO]; exact h5) (by omega) (by omega)
