noncomputable section
-- X0_corner
def x_X0_corner (o : Nat) (y1 : Int32) (γ : St) : Nat := if y1 = 0 then (2 * o) else (2 * o + 1)
theorem lvr_X0_corner {κ : KP} {o : Nat} {γ : St} (h : lv κ 0 o) (a : Int32) : lv κ 2 (x_X0_corner o a γ) := by
  unfold x_X0_corner
  by_cases c : a = 0
  · rw [if_pos c]; exact lv_c0 h
  · rw [if_neg c]; exact lv_c1 h
-- X0_has
def x_X0_has_22 (o : Nat) (γ : St) : Int32 := 1
def x_X0_has (o : Nat) (y1 : Int32) (γ : St) : Int32 := if (gV γ 2 (2 * o) 0) = y1 then (x_X0_has_22 o γ) else (if (gV γ 2 (2 * o + 1) 0) = y1 then (x_X0_has_22 o γ) else 0)
-- X0_sideOf
def x_X0_sideOf (o : Nat) (y1 : Int32) (γ : St) : Int32 := if (gV γ 2 (2 * o) 0) = y1 then 0 else 1
-- X0_isOver
def x_X0_isOver (o : Nat) (γ : St) : Int32 := if (gV γ 0 o 5) = ((-1)) then 0 else 1
-- X0_isLike
def x_X0_isLike (o : Nat) (γ : St) : Int32 := if (gV γ 2 (2 * o) 1) = (gV γ 2 (2 * o + 1) 1) then 1 else 0
-- X0_leader
def x_X0_leader (o : Nat) (γ : St) : Int32 := if ((x_X0_isLike o γ)) = 0 then (if (gV γ 2 (2 * o) 1) ≤ (gV γ 2 (2 * o + 1) 1) then 1 else 0) else (if (gV γ 2 (2 * o + 1) 0) ≤ (gV γ 2 (2 * o) 0) then 1 else 0)
-- X0_finish
def x_X0_finish (o : Nat) (y1 : Int32) (γ : St) : St := (sV γ 0 o 5 y1)
-- X0_isDoubleTooFar
def x_X0_isDoubleTooFar_36 (o : Nat) (γ : St) : Int32 := 0
def x_X0_isDoubleTooFar (o : Nat) (γ : St) : Int32 := if ((gV γ 2 (2 * o) 1) + 1) < (gV γ 0 o 3) then (x_X0_isDoubleTooFar_36 o γ) else (if ((gV γ 2 (2 * o + 1) 1) + 1) < (gV γ 0 o 3) then (x_X0_isDoubleTooFar_36 o γ) else 1)
-- X0_addTouches
def x_X0_addTouches_91 (o : Nat) (γ : St) : St := (x_X0_finish o ((x_X0_leader o γ)) γ)
def x_X0_addTouches_71 (o : Nat) (s0 : Int32) (γ : St) : St := if s0 = 0 then (if (gV γ 0 o 6) = ((-1)) then γ else (if ((x_X0_isLike o γ)) = 0 then (x_X0_addTouches_91 o γ) else γ)) else (x_X0_addTouches_91 o γ)
def x_X0_addTouches_66 (o : Nat) (γ : St) : St := x_X0_addTouches_71 o 1 γ
def x_X0_addTouches_38 (o : Nat) (γ : St) : St := if (gV γ 0 o 3) ≤ (gV γ 2 (2 * o) 1) then (x_X0_addTouches_66 o γ) else (if (gV γ 2 (2 * o + 1) 1) < (gV γ 0 o 3) then (x_X0_addTouches_71 o 0 γ) else (x_X0_addTouches_66 o γ))
def x_X0_addTouches_19 (o : Nat) (a1 : Int32) (γ : St) : St := if (a1 &&& 2) = 0 then (x_X0_addTouches_38 o γ) else (x_X0_addTouches_38 o (sV γ 2 (2 * o + 1) 1 ((gV γ 2 (2 * o + 1) 1) + 1)))
def x_X0_addTouches (o : Nat) (y1 : Int32) (γ : St) : St := if (y1 &&& 1) = 0 then (x_X0_addTouches_19 o y1 γ) else (x_X0_addTouches_19 o y1 (sV γ 2 (2 * o) 1 ((gV γ 2 (2 * o) 1) + 1)))
-- X0_giveTouches
def x_X0_giveTouches (o : Nat) (y1 : Int32) (γ : St) : St := if y1 = 0 then γ else ((x_X0_addTouches o y1 (sV γ 0 o 8 0)))
-- X2_colourFor
def x_X2_colourFor_34 (o : Nat) (γ : St) : Int32 := 2
def x_X2_colourFor (o : Nat) (y1 : Int32) (γ : St) : Int32 := if y1 = 1 then (if (gV γ 2 o 2) = 0 then 1 else 2) else (if y1 = 3 then (if (gV γ 2 o 3) = 0 then (x_X2_colourFor_34 o γ) else 3) else (x_X2_colourFor_34 o γ))
-- X2_note
def x_X2_note (o : Nat) (y1 : Int32) (γ : St) : St := if y1 = 3 then ((sV (sV γ 2 o 2 1) 2 o 3 1)) else ((sV γ 2 o 2 1))
-- X7_bitOf
def x_X7_bitOf (y0 : Int32) (γ : St) : Int32 := if y0 = 0 then 1 else 2
-- X0_giveCard
def x_X0_giveCard_49 (o : Nat) (a3 : Int32) (γ : St) : Int32 × St := (a3, γ)
def x_X0_giveCard_34 (o : Nat) (a3 : Int32) (γ : St) : Int32 × St := x_X0_giveCard_49 o a3 γ
def x_X0_giveCard_19 (o : Nat) (a1 : Int32) (a3 : Int32) (γ : St) : Int32 × St := if a3 = 2 then (x_X0_giveCard_34 o a3 (x_X0_giveTouches o ((x_X7_bitOf (1 - a1) γ)) γ)) else (if a3 = 3 then (x_X0_giveCard_49 o a3 (x_X0_finish o (1 - a1) γ)) else (x_X0_giveCard_49 o a3 γ))
def x_X0_giveCard (o : Nat) (y1 : Int32) (y2 : Int32) (γ : St) : Int32 × St := x_X0_giveCard_19 o y1 ((x_X2_colourFor ((x_X0_corner o y1 γ)) y2 γ)) (x_X2_note ((x_X0_corner o y1 γ)) y2 γ)
-- X0_becomePassive
def x_X0_becomePassive_28 (o : Nat) (γ : St) : St := γ
def x_X0_becomePassive (o : Nat) (γ : St) : St := if (gV (sV (sV γ 0 o 8 0) 0 o 9 ((gV γ 0 o 9) + 1)) 0 o 9) = 2 then (x_X0_becomePassive_28 o (x_X0_addTouches o 3 (sV (sV γ 0 o 8 0) 0 o 9 ((gV γ 0 o 9) + 1)))) else (if (gV (sV (sV γ 0 o 8 0) 0 o 9 ((gV γ 0 o 9) + 1)) 0 o 9) < 3 then ((sV (sV γ 0 o 8 0) 0 o 9 ((gV γ 0 o 9) + 1))) else ((x_X0_finish o ((x_X0_leader o (sV (sV γ 0 o 8 0) 0 o 9 ((gV γ 0 o 9) + 1)))) (sV (sV γ 0 o 8 0) 0 o 9 ((gV γ 0 o 9) + 1)))))
-- X0_timeLimit
def x_X0_timeLimit (o : Nat) (γ : St) : Int32 := if (gV γ 0 o 6) = ((-1)) then 180 else 240
-- X3_draw
def x_X3_draw (γ : St) : Int32 × St := ((((((1103515245 * (gL γ 3 0)) + 12345) - ((1103515245 * (gL γ 3 0)) + 12345) / 2147483648 * 2147483648) / 65536) - ((((1103515245 * (gL γ 3 0)) + 12345) - ((1103515245 * (gL γ 3 0)) + 12345) / 2147483648 * 2147483648) / 65536) / 2 * 2 : Int64).toInt32, (sL γ 3 0 (((1103515245 * (gL γ 3 0)) + 12345) - ((1103515245 * (gL γ 3 0)) + 12345) / 2147483648 * 2147483648)))
-- X0_lookAtTime
def x_X0_lookAtTime_43 (o : Nat) (s0 : Int32) (γ : St) : St := (sV γ 0 o 6 s0)
def x_X0_lookAtTime_28 (o : Nat) (γ : St) : St := γ
def x_X0_lookAtTime (o : Nat) (γ : St) : St := if ((x_X0_timeLimit o γ)) ≤ (gV γ 0 o 7) then (if (gV γ 0 o 6) = ((-1)) then (if ((x_X0_isLike o γ)) = 0 then ((x_X0_finish o ((x_X0_leader o γ)) γ)) else (x_X0_lookAtTime_43 o ((x_X3_draw γ).1) (x_X3_draw γ).2)) else (x_X0_lookAtTime_28 o (x_X0_finish o (gV γ 0 o 6) γ))) else γ
-- X0_passSecond
def x_X0_passSecond_33 (o : Nat) (γ : St) : St := if ((x_X0_isOver o γ)) = 0 then ((x_X0_lookAtTime o γ)) else γ
def x_X0_passSecond (o : Nat) (γ : St) : St := if (gV (sV (sV γ 0 o 7 ((gV γ 0 o 7) + 1)) 0 o 8 ((gV γ 0 o 8) + 1)) 0 o 8) < 60 then (x_X0_passSecond_33 o (sV (sV γ 0 o 7 ((gV γ 0 o 7) + 1)) 0 o 8 ((gV γ 0 o 8) + 1))) else (x_X0_passSecond_33 o (x_X0_becomePassive o (sV (sV γ 0 o 7 ((gV γ 0 o 7) + 1)) 0 o 8 ((gV γ 0 o 8) + 1))))
-- X0_secondsLeft
def x_X0_secondsLeft (o : Nat) (γ : St) : Int32 := if ((x_X0_isOver o γ)) = 0 then (((x_X0_timeLimit o γ)) - (gV γ 0 o 7)) else 0
-- X0_told
def x_X0_told (o : Nat) (y1 : Int32) (γ : St) : Int32 := if y1 = 0 then (gV γ 2 (2 * o) 1) else (if y1 = 1 then (gV γ 2 (2 * o + 1) 1) else (if y1 = 2 then (gV γ 0 o 5) else (if y1 = 3 then (gV γ 0 o 7) else (if y1 = 4 then (gV γ 0 o 9) else (gV γ 0 o 6)))))
-- X0_share
def x_X0_share (o : Nat) (y1 : Int32) (y2 : Int32) (γ : St) : Int32 := if y2 = 0 then 1 else (if y2 = 1 then (if (gV γ 0 o 5) = y1 then 1 else 0) else (if y2 = 2 then (gV γ 2 ((x_X0_corner o y1 γ)) 1) else (gV γ 2 ((x_X0_corner o (1 - y1) γ)) 1)))
-- X1_leastPlaces
def x_X1_leastPlaces_20 (a1 : Int32) (γ : St) : Int32 := a1
def ok_X1_leastPlaces_20 (a1 : Int32) (γ : St) : Prop := True
def x_X1_leastPlaces_2 : Nat → Int32 → Int32 → St → Int32
  | 0, _, _, _ => 0
  | k2 + 1, a0, a1, γ => if a0 ≤ a1 then (x_X1_leastPlaces_20 a1 γ) else (if 16 ≤ a1 then (x_X1_leastPlaces_20 a1 γ) else ((x_X1_leastPlaces_2 k2) a0 (a1 * 2) γ))
def ok_X1_leastPlaces_2 : Nat → Int32 → Int32 → St → Prop
  | 0, _, _, _ => False
  | k2 + 1, a0, a1, γ => if a0 ≤ a1 then (ok_X1_leastPlaces_20 a1 γ) else (if 16 ≤ a1 then (ok_X1_leastPlaces_20 a1 γ) else ((ok_X1_leastPlaces_2 k2) a0 (a1 * 2) γ))
def x_X1_leastPlaces (y0 : Int32) (γ : St) : Int32 := x_X1_leastPlaces_2 fu y0 2 γ
def ok_X1_leastPlaces (y0 : Int32) (γ : St) : Prop := ok_X1_leastPlaces_2 fu y0 2 γ
-- X1_orderPlaces
def x_X1_orderPlaces_45 (K19 : Int32 → St → St) : Nat → Int32 → Int32 → St → St
  | 0, _, _, γ => γ
  | k45 + 1, a1, a2, γ => if a2 < 0 then (K19 a1 (sV γ 1 0 2 ((gV γ 1 0 2) * 2))) else ((x_X1_orderPlaces_45 K19 k45) a1 (a2 + (-1)) (sV (sV γ 17 0 ((2 * a2 : Int32).toNatClampNeg) (gV γ 17 0 ((a2 : Int32).toNatClampNeg))) 17 0 (((2 * a2) + 1 : Int32).toNatClampNeg) (((2 * (gV γ 1 0 2)) - 1) - (gV γ 17 0 ((a2 : Int32).toNatClampNeg)))))
def ok_X1_orderPlaces_45 (J19 : Int32 → St → Prop) : Nat → Int32 → Int32 → St → Prop
  | 0, _, _, _ => False
  | k45 + 1, a1, a2, γ => if a2 < 0 then (J19 a1 (sV γ 1 0 2 ((gV γ 1 0 2) * 2))) else (vp_in a2 16 ∧ (vp_in (2 * a2) 16 ∧ (vp_in ((2 * a2) + 1) 16 ∧ ((ok_X1_orderPlaces_45 J19 k45) a1 (a2 + (-1)) (sV (sV γ 17 0 ((2 * a2 : Int32).toNatClampNeg) (gV γ 17 0 ((a2 : Int32).toNatClampNeg))) 17 0 (((2 * a2) + 1 : Int32).toNatClampNeg) (((2 * (gV γ 1 0 2)) - 1) - (gV γ 17 0 ((a2 : Int32).toNatClampNeg))))))))
def x_X1_orderPlaces_19 : Nat → Int32 → St → St
  | 0, _, γ => γ
  | k19 + 1, a1, γ => if a1 ≤ (gV γ 1 0 2) then γ else (if 16 < (2 * (gV γ 1 0 2)) then γ else (x_X1_orderPlaces_45 (x_X1_orderPlaces_19 k19) fu a1 ((gV γ 1 0 2) - 1) γ))
def ok_X1_orderPlaces_19 : Nat → Int32 → St → Prop
  | 0, _, _ => False
  | k19 + 1, a1, γ => if a1 ≤ (gV γ 1 0 2) then True else (if 16 < (2 * (gV γ 1 0 2)) then True else (ok_X1_orderPlaces_45 (ok_X1_orderPlaces_19 k19) fu a1 ((gV γ 1 0 2) - 1) γ))
def x_X1_orderPlaces (y1 : Int32) (γ : St) : St := x_X1_orderPlaces_19 fu y1 (sV (sV (sV γ 1 0 2 2) 17 0 ((0 : Int32).toNatClampNeg) 0) 17 0 ((1 : Int32).toNatClampNeg) 1)
def ok_X1_orderPlaces (y1 : Int32) (γ : St) : Prop := vp_in 0 16 ∧ (vp_in 1 16 ∧ (ok_X1_orderPlaces_19 fu y1 (sV (sV (sV γ 1 0 2 2) 17 0 ((0 : Int32).toNatClampNeg) 0) 17 0 ((1 : Int32).toNatClampNeg) 1)))
-- X1_at
def x_X1_at_22 (γ : St) : Int32 := (-1)
def ok_X1_at_22 (γ : St) : Prop := True
def x_X1_at (y1 : Int32) (γ : St) : Int32 := if y1 < 0 then (x_X1_at_22 γ) else (if 32 ≤ y1 then (x_X1_at_22 γ) else (gV γ 16 0 ((y1 : Int32).toNatClampNeg)))
def ok_X1_at (y1 : Int32) (γ : St) : Prop := if y1 < 0 then (ok_X1_at_22 γ) else (if 32 ≤ y1 then (ok_X1_at_22 γ) else (vp_in y1 32 ∧ True))
-- X1_put
def x_X1_put (y1 : Int32) (y2 : Int32) (γ : St) : St := if y1 < 0 then γ else (if 32 ≤ y1 then γ else ((sV γ 16 0 ((y1 : Int32).toNatClampNeg) y2)))
def ok_X1_put (y1 : Int32) (y2 : Int32) (γ : St) : Prop := if y1 < 0 then True else (if 32 ≤ y1 then True else (vp_in y1 32 ∧ True))
-- X1_passBye
def x_X1_passBye_40 (s0 : Int32) (s1 : Int32) (γ : St) : St := (x_X1_put s1 s0 γ)
def ok_X1_passBye_40 (s0 : Int32) (s1 : Int32) (γ : St) : Prop := ok_X1_put s1 s0 γ ∧ True
def x_X1_passBye_28 (a1 : Int32) (a2 : Int32) (a3 : Int32) (γ : St) : St := if a2 = ((-1)) then (x_X1_passBye_40 a3 a1 γ) else (x_X1_passBye_40 a2 a1 γ)
def ok_X1_passBye_28 (a1 : Int32) (a2 : Int32) (a3 : Int32) (γ : St) : Prop := if a2 = ((-1)) then (ok_X1_passBye_40 a3 a1 γ) else (ok_X1_passBye_40 a2 a1 γ)
def x_X1_passBye (y1 : Int32) (γ : St) : St := if ((x_X1_at (2 * y1) γ)) = ((-1)) then (x_X1_passBye_28 y1 ((x_X1_at (2 * y1) γ)) ((x_X1_at ((2 * y1) + 1) γ)) γ) else (if ((x_X1_at ((2 * y1) + 1) γ)) = ((-1)) then (x_X1_passBye_28 y1 ((x_X1_at (2 * y1) γ)) ((x_X1_at ((2 * y1) + 1) γ)) γ) else γ)
def ok_X1_passBye (y1 : Int32) (γ : St) : Prop := ok_X1_at (2 * y1) γ ∧ (ok_X1_at ((2 * y1) + 1) γ ∧ (if ((x_X1_at (2 * y1) γ)) = ((-1)) then (ok_X1_passBye_28 y1 ((x_X1_at (2 * y1) γ)) ((x_X1_at ((2 * y1) + 1) γ)) γ) else (if ((x_X1_at ((2 * y1) + 1) γ)) = ((-1)) then (ok_X1_passBye_28 y1 ((x_X1_at (2 * y1) γ)) ((x_X1_at ((2 * y1) + 1) γ)) γ) else True)))
-- X5_kept
def x_X5_kept_28 (o : Nat) (γ : St) : Int32 := 0
def ok_X5_kept_28 (o : Nat) (γ : St) : Prop := True
def x_X5_kept (o : Nat) (y1 : Int32) (y2 : Int32) (γ : St) : Int32 := if ((y1 * 4) + y2) < 0 then (x_X5_kept_28 o γ) else (if 48 ≤ ((y1 * 4) + y2) then (x_X5_kept_28 o γ) else (gV γ 18 o (((y1 * 4) + y2 : Int32).toNatClampNeg)))
def ok_X5_kept (o : Nat) (y1 : Int32) (y2 : Int32) (γ : St) : Prop := if ((y1 * 4) + y2) < 0 then (ok_X5_kept_28 o γ) else (if 48 ≤ ((y1 * 4) + y2) then (ok_X5_kept_28 o γ) else (vp_in ((y1 * 4) + y2) 48 ∧ True))
-- X5_balance
def x_X5_balance (o : Nat) (y1 : Int32) (γ : St) : Int32 := ((x_X5_kept o y1 2 γ)) - ((x_X5_kept o y1 3 γ))
def ok_X5_balance (o : Nat) (y1 : Int32) (γ : St) : Prop := ok_X5_kept o y1 2 γ ∧ (ok_X5_kept o y1 3 γ ∧ True)
-- X5_isAhead
def x_X5_isAhead (o : Nat) (y1 : Int32) (y2 : Int32) (γ : St) : Int32 := if (((x_X5_kept o y1 1 γ)) * (if 1 < ((x_X5_kept o y2 0 γ)) then ((x_X5_kept o y2 0 γ)) else 1)) = (((x_X5_kept o y2 1 γ)) * (if 1 < ((x_X5_kept o y1 0 γ)) then ((x_X5_kept o y1 0 γ)) else 1)) then (if ((x_X5_balance o y1 γ)) = ((x_X5_balance o y2 γ)) then (if ((x_X5_kept o y1 2 γ)) = ((x_X5_kept o y2 2 γ)) then (if y2 ≤ y1 then 0 else 1) else (if ((x_X5_kept o y1 2 γ)) ≤ ((x_X5_kept o y2 2 γ)) then 0 else 1)) else (if ((x_X5_balance o y1 γ)) ≤ ((x_X5_balance o y2 γ)) then 0 else 1)) else (if (((x_X5_kept o y1 1 γ)) * (if 1 < ((x_X5_kept o y2 0 γ)) then ((x_X5_kept o y2 0 γ)) else 1)) ≤ (((x_X5_kept o y2 1 γ)) * (if 1 < ((x_X5_kept o y1 0 γ)) then ((x_X5_kept o y1 0 γ)) else 1)) then 0 else 1)
def ok_X5_isAhead (o : Nat) (y1 : Int32) (y2 : Int32) (γ : St) : Prop := ok_X5_kept o y1 1 γ ∧ (ok_X5_kept o y2 0 γ ∧ (ok_X5_kept o y2 1 γ ∧ (ok_X5_kept o y1 0 γ ∧ (if (((x_X5_kept o y1 1 γ)) * (if 1 < ((x_X5_kept o y2 0 γ)) then ((x_X5_kept o y2 0 γ)) else 1)) = (((x_X5_kept o y2 1 γ)) * (if 1 < ((x_X5_kept o y1 0 γ)) then ((x_X5_kept o y1 0 γ)) else 1)) then (ok_X5_balance o y1 γ ∧ (ok_X5_balance o y2 γ ∧ (if ((x_X5_balance o y1 γ)) = ((x_X5_balance o y2 γ)) then (ok_X5_kept o y1 2 γ ∧ (ok_X5_kept o y2 2 γ ∧ (if ((x_X5_kept o y1 2 γ)) = ((x_X5_kept o y2 2 γ)) then (if y2 ≤ y1 then True else True) else (ok_X5_kept o y1 2 γ ∧ (ok_X5_kept o y2 2 γ ∧ (if ((x_X5_kept o y1 2 γ)) ≤ ((x_X5_kept o y2 2 γ)) then True else True)))))) else (ok_X5_balance o y1 γ ∧ (ok_X5_balance o y2 γ ∧ (if ((x_X5_balance o y1 γ)) ≤ ((x_X5_balance o y2 γ)) then True else True)))))) else (if (((x_X5_kept o y1 1 γ)) * (if 1 < ((x_X5_kept o y2 0 γ)) then ((x_X5_kept o y2 0 γ)) else 1)) ≤ (((x_X5_kept o y2 1 γ)) * (if 1 < ((x_X5_kept o y1 0 γ)) then ((x_X5_kept o y1 0 γ)) else 1)) then True else True)))))
-- X5_insert
def x_X5_insert_48 (o : Nat) (a1 : Int32) (a3 : Int32) (γ : St) : St := if a3 < 0 then γ else (if 12 ≤ a3 then γ else ((sV γ 19 o ((a3 : Int32).toNatClampNeg) a1)))
def ok_X5_insert_48 (o : Nat) (a1 : Int32) (a3 : Int32) (γ : St) : Prop := if a3 < 0 then True else (if 12 ≤ a3 then True else (vp_in a3 12 ∧ True))
def x_X5_insert_2 (o : Nat) : Nat → Int32 → Int32 → St → St
  | 0, _, _, γ => γ
  | k2 + 1, a1, a3, γ => if a3 ≤ 0 then (x_X5_insert_48 o a1 a3 γ) else (if 12 ≤ a3 then (x_X5_insert_48 o a1 a3 γ) else (if ((x_X5_isAhead o a1 (gV γ 19 o ((a3 - 1 : Int32).toNatClampNeg)) γ)) = 0 then (x_X5_insert_48 o a1 a3 γ) else ((x_X5_insert_2 o k2) a1 (a3 + (-1)) (sV γ 19 o ((a3 : Int32).toNatClampNeg) (gV γ 19 o ((a3 - 1 : Int32).toNatClampNeg))))))
def ok_X5_insert_2 (o : Nat) : Nat → Int32 → Int32 → St → Prop
  | 0, _, _, _ => False
  | k2 + 1, a1, a3, γ => if a3 ≤ 0 then (ok_X5_insert_48 o a1 a3 γ) else (if 12 ≤ a3 then (ok_X5_insert_48 o a1 a3 γ) else (vp_in (a3 - 1) 12 ∧ (ok_X5_isAhead o a1 (gV γ 19 o ((a3 - 1 : Int32).toNatClampNeg)) γ ∧ (if ((x_X5_isAhead o a1 (gV γ 19 o ((a3 - 1 : Int32).toNatClampNeg)) γ)) = 0 then (ok_X5_insert_48 o a1 a3 γ) else (vp_in (a3 - 1) 12 ∧ (vp_in a3 12 ∧ ((ok_X5_insert_2 o k2) a1 (a3 + (-1)) (sV γ 19 o ((a3 : Int32).toNatClampNeg) (gV γ 19 o ((a3 - 1 : Int32).toNatClampNeg))))))))))
def x_X5_insert (o : Nat) (y1 : Int32) (y2 : Int32) (γ : St) : St := x_X5_insert_2 o fu y1 y2 γ
def ok_X5_insert (o : Nat) (y1 : Int32) (y2 : Int32) (γ : St) : Prop := ok_X5_insert_2 o fu y1 y2 γ
-- X5_isIn
def x_X5_isIn_22 (γ : St) : Int32 := 0
def x_X5_isIn (y0 : Int32) (y1 : Int32) (γ : St) : Int32 := if y1 < 0 then (x_X5_isIn_22 γ) else (if 12 ≤ y1 then (x_X5_isIn_22 γ) else (if (y0 &&& (1 <<< (y1 &&& 31))) = 0 then (x_X5_isIn_22 γ) else 1))
-- X5_has
def x_X5_has (o : Nat) (y1 : Int32) (γ : St) : Int32 := zN ((x_X5_isIn (gV γ 5 o 1) y1 γ))
-- X5_isWithdrawn
def x_X5_isWithdrawn (o : Nat) (y1 : Int32) (γ : St) : Int32 := zN ((x_X5_isIn (gV γ 5 o 4) y1 γ))
-- X5_isRanked
def x_X5_isRanked_20 (o : Nat) (γ : St) : Int32 := 0
def x_X5_isRanked (o : Nat) (y1 : Int32) (γ : St) : Int32 := if ((x_X5_has o y1 γ)) = 0 then (x_X5_isRanked_20 o γ) else (if ((x_X5_isWithdrawn o y1 γ)) = 0 then 1 else (x_X5_isRanked_20 o γ))
-- X5_orderRanked
def x_X5_orderRanked_34 (K4 : Int32 → Int32 → St → St) (o : Nat) (a1 : Int32) (a2 : Int32) (γ : St) : St := K4 a1 (a2 + 1) γ
def ok_X5_orderRanked_34 (J4 : Int32 → Int32 → St → Prop) (o : Nat) (a1 : Int32) (a2 : Int32) (γ : St) : Prop := J4 a1 (a2 + 1) γ
def x_X5_orderRanked_31 (K4 : Int32 → Int32 → St → St) (o : Nat) (a1 : Int32) (a2 : Int32) (γ : St) : St := x_X5_orderRanked_34 K4 o (a1 + 1) a2 γ
def ok_X5_orderRanked_31 (J4 : Int32 → Int32 → St → Prop) (o : Nat) (a1 : Int32) (a2 : Int32) (γ : St) : Prop := ok_X5_orderRanked_34 J4 o (a1 + 1) a2 γ
def x_X5_orderRanked_4 (o : Nat) : Nat → Int32 → Int32 → St → St
  | 0, _, _, γ => γ
  | k4 + 1, a1, a2, γ => if 12 ≤ a2 then γ else (if ((x_X5_isRanked o a2 (sV γ 19 o ((a2 : Int32).toNatClampNeg) ((-1))))) = 0 then (x_X5_orderRanked_34 (x_X5_orderRanked_4 o k4) o a1 a2 (sV γ 19 o ((a2 : Int32).toNatClampNeg) ((-1)))) else (x_X5_orderRanked_31 (x_X5_orderRanked_4 o k4) o a1 a2 (x_X5_insert o a2 a1 (sV γ 19 o ((a2 : Int32).toNatClampNeg) ((-1))))))
def ok_X5_orderRanked_4 (o : Nat) : Nat → Int32 → Int32 → St → Prop
  | 0, _, _, _ => False
  | k4 + 1, a1, a2, γ => if 12 ≤ a2 then True else (vp_in a2 12 ∧ (if ((x_X5_isRanked o a2 (sV γ 19 o ((a2 : Int32).toNatClampNeg) ((-1))))) = 0 then (ok_X5_orderRanked_34 (ok_X5_orderRanked_4 o k4) o a1 a2 (sV γ 19 o ((a2 : Int32).toNatClampNeg) ((-1)))) else (ok_X5_insert o a2 a1 (sV γ 19 o ((a2 : Int32).toNatClampNeg) ((-1))) ∧ (ok_X5_orderRanked_31 (ok_X5_orderRanked_4 o k4) o a1 a2 (x_X5_insert o a2 a1 (sV γ 19 o ((a2 : Int32).toNatClampNeg) ((-1))))))))
def x_X5_orderRanked (o : Nat) (γ : St) : St := x_X5_orderRanked_4 o fu 0 0 γ
def ok_X5_orderRanked (o : Nat) (γ : St) : Prop := ok_X5_orderRanked_4 o fu 0 0 γ
-- X5_rankedAt
def x_X5_rankedAt_19 (o : Nat) (γ : St) : Int32 := (-1)
def ok_X5_rankedAt_19 (o : Nat) (γ : St) : Prop := True
def x_X5_rankedAt (o : Nat) (y1 : Int32) (γ : St) : Int32 := if y1 < 0 then (x_X5_rankedAt_19 o γ) else (if 12 ≤ y1 then (x_X5_rankedAt_19 o γ) else (gV γ 19 o ((y1 : Int32).toNatClampNeg)))
def ok_X5_rankedAt (o : Nat) (y1 : Int32) (γ : St) : Prop := if y1 < 0 then (ok_X5_rankedAt_19 o γ) else (if 12 ≤ y1 then (ok_X5_rankedAt_19 o γ) else (vp_in y1 12 ∧ True))
-- J6_bitCount_0f7a4
def x_J6_bitCount_0f7a4 (y0 : Int32) (γ : St) : Int32 := (((((((y0 - (((y0.toUInt32 >>> ((1 : Int32).toUInt32 &&& Int32.toUInt32 31)).toInt32) &&& 1431655765)) &&& 858993459) + ((((y0 - (((y0.toUInt32 >>> ((1 : Int32).toUInt32 &&& Int32.toUInt32 31)).toInt32) &&& 1431655765)).toUInt32 >>> ((2 : Int32).toUInt32 &&& Int32.toUInt32 31)).toInt32) &&& 858993459)) + (((((y0 - (((y0.toUInt32 >>> ((1 : Int32).toUInt32 &&& Int32.toUInt32 31)).toInt32) &&& 1431655765)) &&& 858993459) + ((((y0 - (((y0.toUInt32 >>> ((1 : Int32).toUInt32 &&& Int32.toUInt32 31)).toInt32) &&& 1431655765)).toUInt32 >>> ((2 : Int32).toUInt32 &&& Int32.toUInt32 31)).toInt32) &&& 858993459)).toUInt32 >>> ((4 : Int32).toUInt32 &&& Int32.toUInt32 31)).toInt32)) &&& 252645135) + (((((((y0 - (((y0.toUInt32 >>> ((1 : Int32).toUInt32 &&& Int32.toUInt32 31)).toInt32) &&& 1431655765)) &&& 858993459) + ((((y0 - (((y0.toUInt32 >>> ((1 : Int32).toUInt32 &&& Int32.toUInt32 31)).toInt32) &&& 1431655765)).toUInt32 >>> ((2 : Int32).toUInt32 &&& Int32.toUInt32 31)).toInt32) &&& 858993459)) + (((((y0 - (((y0.toUInt32 >>> ((1 : Int32).toUInt32 &&& Int32.toUInt32 31)).toInt32) &&& 1431655765)) &&& 858993459) + ((((y0 - (((y0.toUInt32 >>> ((1 : Int32).toUInt32 &&& Int32.toUInt32 31)).toInt32) &&& 1431655765)).toUInt32 >>> ((2 : Int32).toUInt32 &&& Int32.toUInt32 31)).toInt32) &&& 858993459)).toUInt32 >>> ((4 : Int32).toUInt32 &&& Int32.toUInt32 31)).toInt32)) &&& 252645135).toUInt32 >>> ((8 : Int32).toUInt32 &&& Int32.toUInt32 31)).toInt32)) + ((((((((y0 - (((y0.toUInt32 >>> ((1 : Int32).toUInt32 &&& Int32.toUInt32 31)).toInt32) &&& 1431655765)) &&& 858993459) + ((((y0 - (((y0.toUInt32 >>> ((1 : Int32).toUInt32 &&& Int32.toUInt32 31)).toInt32) &&& 1431655765)).toUInt32 >>> ((2 : Int32).toUInt32 &&& Int32.toUInt32 31)).toInt32) &&& 858993459)) + (((((y0 - (((y0.toUInt32 >>> ((1 : Int32).toUInt32 &&& Int32.toUInt32 31)).toInt32) &&& 1431655765)) &&& 858993459) + ((((y0 - (((y0.toUInt32 >>> ((1 : Int32).toUInt32 &&& Int32.toUInt32 31)).toInt32) &&& 1431655765)).toUInt32 >>> ((2 : Int32).toUInt32 &&& Int32.toUInt32 31)).toInt32) &&& 858993459)).toUInt32 >>> ((4 : Int32).toUInt32 &&& Int32.toUInt32 31)).toInt32)) &&& 252645135) + (((((((y0 - (((y0.toUInt32 >>> ((1 : Int32).toUInt32 &&& Int32.toUInt32 31)).toInt32) &&& 1431655765)) &&& 858993459) + ((((y0 - (((y0.toUInt32 >>> ((1 : Int32).toUInt32 &&& Int32.toUInt32 31)).toInt32) &&& 1431655765)).toUInt32 >>> ((2 : Int32).toUInt32 &&& Int32.toUInt32 31)).toInt32) &&& 858993459)) + (((((y0 - (((y0.toUInt32 >>> ((1 : Int32).toUInt32 &&& Int32.toUInt32 31)).toInt32) &&& 1431655765)) &&& 858993459) + ((((y0 - (((y0.toUInt32 >>> ((1 : Int32).toUInt32 &&& Int32.toUInt32 31)).toInt32) &&& 1431655765)).toUInt32 >>> ((2 : Int32).toUInt32 &&& Int32.toUInt32 31)).toInt32) &&& 858993459)).toUInt32 >>> ((4 : Int32).toUInt32 &&& Int32.toUInt32 31)).toInt32)) &&& 252645135).toUInt32 >>> ((8 : Int32).toUInt32 &&& Int32.toUInt32 31)).toInt32)).toUInt32 >>> ((16 : Int32).toUInt32 &&& Int32.toUInt32 31)).toInt32)) &&& 63
-- X5_rankedCount
def x_X5_rankedCount (o : Nat) (γ : St) : Int32 := (x_J6_bitCount_0f7a4 ((gV γ 5 o 1) &&& ((gV γ 5 o 4) ^^^ ((-1)))) γ)
-- X1_makeFrom
def x_X1_makeFrom_99 (K86 : Int32 → St → St) (a2 : Int32) (γ : St) : St := K86 (a2 + 1) γ
def ok_X1_makeFrom_99 (J86 : Int32 → St → Prop) (a2 : Int32) (γ : St) : Prop := J86 (a2 + 1) γ
def x_X1_makeFrom_86 : Nat → Int32 → St → St
  | 0, _, γ => γ
  | k86 + 1, a2, γ => if (gV γ 1 0 2) ≤ a2 then γ else (x_X1_makeFrom_99 (x_X1_makeFrom_86 k86) a2 (x_X1_passBye a2 γ))
def ok_X1_makeFrom_86 : Nat → Int32 → St → Prop
  | 0, _, _ => False
  | k86 + 1, a2, γ => if (gV γ 1 0 2) ≤ a2 then True else (ok_X1_passBye a2 γ ∧ (ok_X1_makeFrom_99 (ok_X1_makeFrom_86 k86) a2 (x_X1_passBye a2 γ)))
def x_X1_makeFrom_79 (γ : St) : St := x_X1_makeFrom_86 fu ((gV γ 1 0 2) / 2) γ
def ok_X1_makeFrom_79 (γ : St) : Prop := ok_X1_makeFrom_86 fu ((gV γ 1 0 2) / 2) γ
def x_X1_makeFrom_73 (K39 : Nat → Int32 → St → St) (n1 : Nat) (a2 : Int32) (γ : St) : St := K39 n1 (a2 + 1) γ
def ok_X1_makeFrom_73 (J39 : Nat → Int32 → St → Prop) (n1 : Nat) (a2 : Int32) (γ : St) : Prop := J39 n1 (a2 + 1) γ
def x_X1_makeFrom_39 : Nat → Nat → Int32 → St → St
  | 0, _, _, γ => γ
  | k39 + 1, n1, a2, γ => if (gV γ 1 0 2) ≤ a2 then (x_X1_makeFrom_79 γ) else (if 16 ≤ a2 then (x_X1_makeFrom_79 γ) else (x_X1_makeFrom_73 (x_X1_makeFrom_39 k39) n1 a2 (x_X1_put ((gV γ 1 0 2) + a2) ((x_X5_rankedAt n1 (gV γ 17 0 ((a2 : Int32).toNatClampNeg)) γ)) γ)))
def ok_X1_makeFrom_39 : Nat → Nat → Int32 → St → Prop
  | 0, _, _, _ => False
  | k39 + 1, n1, a2, γ => if (gV γ 1 0 2) ≤ a2 then (ok_X1_makeFrom_79 γ) else (if 16 ≤ a2 then (ok_X1_makeFrom_79 γ) else (vp_in a2 16 ∧ (ok_X5_rankedAt n1 (gV γ 17 0 ((a2 : Int32).toNatClampNeg)) γ ∧ (ok_X1_put ((gV γ 1 0 2) + a2) ((x_X5_rankedAt n1 (gV γ 17 0 ((a2 : Int32).toNatClampNeg)) γ)) γ ∧ (ok_X1_makeFrom_73 (ok_X1_makeFrom_39 k39) n1 a2 (x_X1_put ((gV γ 1 0 2) + a2) ((x_X5_rankedAt n1 (gV γ 17 0 ((a2 : Int32).toNatClampNeg)) γ)) γ))))))
def x_X1_makeFrom_31 (K17 : Nat → Int32 → St → St) (n1 : Nat) (a2 : Int32) (γ : St) : St := K17 n1 (a2 + 1) γ
def ok_X1_makeFrom_31 (J17 : Nat → Int32 → St → Prop) (n1 : Nat) (a2 : Int32) (γ : St) : Prop := J17 n1 (a2 + 1) γ
def x_X1_makeFrom_17 : Nat → Nat → Int32 → St → St
  | 0, _, _, γ => γ
  | k17 + 1, n1, a2, γ => if (gV γ 1 0 2) ≤ a2 then (x_X1_makeFrom_39 fu n1 0 γ) else (x_X1_makeFrom_31 (x_X1_makeFrom_17 k17) n1 a2 (x_X1_put a2 ((-1)) γ))
def ok_X1_makeFrom_17 : Nat → Nat → Int32 → St → Prop
  | 0, _, _, _ => False
  | k17 + 1, n1, a2, γ => if (gV γ 1 0 2) ≤ a2 then (ok_X1_makeFrom_39 fu n1 0 γ) else (ok_X1_put a2 ((-1)) γ ∧ (ok_X1_makeFrom_31 (ok_X1_makeFrom_17 k17) n1 a2 (x_X1_put a2 ((-1)) γ)))
def x_X1_makeFrom_15 (n1 : Nat) (γ : St) : St := x_X1_makeFrom_17 fu n1 0 γ
def ok_X1_makeFrom_15 (n1 : Nat) (γ : St) : Prop := ok_X1_makeFrom_17 fu n1 0 γ
def x_X1_makeFrom_4 (n1 : Nat) (γ : St) : St := x_X1_makeFrom_15 n1 (x_X1_orderPlaces ((x_X1_leastPlaces ((x_X5_rankedCount n1 γ)) γ)) γ)
def ok_X1_makeFrom_4 (n1 : Nat) (γ : St) : Prop := ok_X1_leastPlaces ((x_X5_rankedCount n1 γ)) γ ∧ (ok_X1_orderPlaces ((x_X1_leastPlaces ((x_X5_rankedCount n1 γ)) γ)) γ ∧ (ok_X1_makeFrom_15 n1 (x_X1_orderPlaces ((x_X1_leastPlaces ((x_X5_rankedCount n1 γ)) γ)) γ)))
def x_X1_makeFrom (z1 : Nat) (γ : St) : St := x_X1_makeFrom_4 z1 (x_X5_orderRanked z1 γ)
def ok_X1_makeFrom (z1 : Nat) (γ : St) : Prop := ok_X5_orderRanked z1 γ ∧ (ok_X1_makeFrom_4 z1 (x_X5_orderRanked z1 γ))
-- X1_matchesIn
def x_X1_matchesIn_20 (γ : St) : Int32 := 0
def x_X1_matchesIn (y1 : Int32) (γ : St) : Int32 := if y1 < 0 then (x_X1_matchesIn_20 γ) else (if 3 < y1 then (x_X1_matchesIn_20 γ) else ((gV γ 1 0 2) >>> ((y1 + 1) &&& 31)))
-- X1_hasMatch
def x_X1_hasMatch_17 (γ : St) : Int32 := 0
def x_X1_hasMatch (y1 : Int32) (y2 : Int32) (γ : St) : Int32 := if y2 < 0 then (x_X1_hasMatch_17 γ) else (if ((x_X1_matchesIn y1 γ)) ≤ y2 then (x_X1_hasMatch_17 γ) else 1)
-- X1_nodeOf
def x_X1_nodeOf (y1 : Int32) (y2 : Int32) (γ : St) : Int32 := ((x_X1_matchesIn y1 γ)) + y2
-- X1_winnerOf
def x_X1_winnerOf (y1 : Int32) (y2 : Int32) (γ : St) : Int32 := (x_X1_at ((x_X1_nodeOf y1 y2 γ)) γ)
def ok_X1_winnerOf (y1 : Int32) (y2 : Int32) (γ : St) : Prop := ok_X1_at ((x_X1_nodeOf y1 y2 γ)) γ ∧ True
-- X1_fencerIn
def x_X1_fencerIn (y1 : Int32) (y2 : Int32) (y3 : Int32) (γ : St) : Int32 := (x_X1_at ((2 * ((x_X1_nodeOf y1 y2 γ))) + y3) γ)
def ok_X1_fencerIn (y1 : Int32) (y2 : Int32) (y3 : Int32) (γ : St) : Prop := ok_X1_at ((2 * ((x_X1_nodeOf y1 y2 γ))) + y3) γ ∧ True
-- X1_isOpen
def x_X1_isOpen_46 (γ : St) : Int32 := 0
def ok_X1_isOpen_46 (γ : St) : Prop := True
def x_X1_isOpen_27 (a1 : Int32) (a2 : Int32) (s0 : Int32) (γ : St) : Int32 := if s0 = 0 then (x_X1_isOpen_46 γ) else (if ((x_X1_winnerOf a1 a2 γ)) = ((-1)) then 1 else (x_X1_isOpen_46 γ))
def ok_X1_isOpen_27 (a1 : Int32) (a2 : Int32) (s0 : Int32) (γ : St) : Prop := if s0 = 0 then (ok_X1_isOpen_46 γ) else (ok_X1_winnerOf a1 a2 γ ∧ (if ((x_X1_winnerOf a1 a2 γ)) = ((-1)) then True else (ok_X1_isOpen_46 γ)))
def x_X1_isOpen_26 (a1 : Int32) (a2 : Int32) (γ : St) : Int32 := x_X1_isOpen_27 a1 a2 0 γ
def ok_X1_isOpen_26 (a1 : Int32) (a2 : Int32) (γ : St) : Prop := ok_X1_isOpen_27 a1 a2 0 γ
def x_X1_isOpen (y1 : Int32) (y2 : Int32) (γ : St) : Int32 := if ((x_X1_fencerIn y1 y2 0 γ)) = ((-1)) then (x_X1_isOpen_26 y1 y2 γ) else (if ((x_X1_fencerIn y1 y2 1 γ)) = ((-1)) then (x_X1_isOpen_26 y1 y2 γ) else (x_X1_isOpen_27 y1 y2 1 γ))
def ok_X1_isOpen (y1 : Int32) (y2 : Int32) (γ : St) : Prop := ok_X1_fencerIn y1 y2 0 γ ∧ (if ((x_X1_fencerIn y1 y2 0 γ)) = ((-1)) then (ok_X1_isOpen_26 y1 y2 γ) else (ok_X1_fencerIn y1 y2 1 γ ∧ (if ((x_X1_fencerIn y1 y2 1 γ)) = ((-1)) then (ok_X1_isOpen_26 y1 y2 γ) else (ok_X1_isOpen_27 y1 y2 1 γ))))
-- X1_settle
def x_X1_settle_21 (a4 : Int32) (γ : St) : Int32 × St := (a4, γ)
def ok_X1_settle_21 (a4 : Int32) (γ : St) : Prop := True
def x_X1_settle (y1 : Int32) (y2 : Int32) (y3 : Int32) (γ : St) : Int32 × St := x_X1_settle_21 ((x_X1_fencerIn y1 y2 y3 γ)) (x_X1_put ((x_X1_nodeOf y1 y2 γ)) ((x_X1_fencerIn y1 y2 y3 γ)) γ)
def ok_X1_settle (y1 : Int32) (y2 : Int32) (y3 : Int32) (γ : St) : Prop := ok_X1_fencerIn y1 y2 y3 γ ∧ (ok_X1_put ((x_X1_nodeOf y1 y2 γ)) ((x_X1_fencerIn y1 y2 y3 γ)) γ ∧ (ok_X1_settle_21 ((x_X1_fencerIn y1 y2 y3 γ)) (x_X1_put ((x_X1_nodeOf y1 y2 γ)) ((x_X1_fencerIn y1 y2 y3 γ)) γ)))
-- X4_empty
def x_X4_empty (γ : St) : St := (sV γ 4 0 6 0)
-- X4_isFull
def x_X4_isFull (γ : St) : Int32 := if (gV γ 4 0 6) < 24 then 0 else 1
-- X4_isEntry
def x_X4_isEntry_22 (γ : St) : Int32 := 0
def x_X4_isEntry (y1 : Int32) (γ : St) : Int32 := if y1 < 0 then (x_X4_isEntry_22 γ) else (if (gV γ 4 0 6) ≤ y1 then (x_X4_isEntry_22 γ) else (if 24 ≤ y1 then (x_X4_isEntry_22 γ) else 1))
-- X4_timeAt
def x_X4_timeAt (y1 : Int32) (γ : St) : Int32 := if ((x_X4_isEntry y1 γ)) = 0 then 0 else (gV γ 13 0 ((y1 : Int32).toNatClampNeg))
def ok_X4_timeAt (y1 : Int32) (γ : St) : Prop := if ((x_X4_isEntry y1 γ)) = 0 then True else (vp_in y1 24 ∧ True)
-- X4_lastTime
def x_X4_lastTime (γ : St) : Int32 := if (gV γ 4 0 6) = 0 then 0 else ((x_X4_timeAt ((gV γ 4 0 6) - 1) γ))
def ok_X4_lastTime (γ : St) : Prop := if (gV γ 4 0 6) = 0 then True else (ok_X4_timeAt ((gV γ 4 0 6) - 1) γ ∧ True)
-- X4_append
def x_X4_append_78 (γ : St) : Int32 × St := (gV γ 4 0 6, γ)
def ok_X4_append_78 (γ : St) : Prop := True
def x_X4_append (y1 : Int32) (y2 : Int32) (y3 : Int32) (y4 : Int32) (y5 : Int32) (γ : St) : Int32 × St := if (gV γ 4 0 6) < 0 then (x_X4_append_78 γ) else (if 24 ≤ (gV γ 4 0 6) then (x_X4_append_78 γ) else (x_X4_append_78 (sV (sV (sV (sV (sV (sV γ 11 0 ((gV γ 4 0 6 : Int32).toNatClampNeg) y1) 12 0 ((gV γ 4 0 6 : Int32).toNatClampNeg) y2) 13 0 ((gV γ 4 0 6 : Int32).toNatClampNeg) y3) 14 0 ((gV γ 4 0 6 : Int32).toNatClampNeg) y4) 15 0 ((gV γ 4 0 6 : Int32).toNatClampNeg) y5) 4 0 6 ((gV γ 4 0 6) + 1))))
def ok_X4_append (y1 : Int32) (y2 : Int32) (y3 : Int32) (y4 : Int32) (y5 : Int32) (γ : St) : Prop := if (gV γ 4 0 6) < 0 then (ok_X4_append_78 γ) else (if 24 ≤ (gV γ 4 0 6) then (ok_X4_append_78 γ) else (vp_in (gV γ 4 0 6) 24 ∧ (vp_in (gV γ 4 0 6) 24 ∧ (vp_in (gV γ 4 0 6) 24 ∧ (vp_in (gV γ 4 0 6) 24 ∧ (vp_in (gV γ 4 0 6) 24 ∧ (ok_X4_append_78 (sV (sV (sV (sV (sV (sV γ 11 0 ((gV γ 4 0 6 : Int32).toNatClampNeg) y1) 12 0 ((gV γ 4 0 6 : Int32).toNatClampNeg) y2) 13 0 ((gV γ 4 0 6 : Int32).toNatClampNeg) y3) 14 0 ((gV γ 4 0 6 : Int32).toNatClampNeg) y4) 15 0 ((gV γ 4 0 6 : Int32).toNatClampNeg) y5) 4 0 6 ((gV γ 4 0 6) + 1)))))))))
-- X4_addAction
def x_X4_addAction (y1 : Int32) (y2 : Int32) (y3 : Int32) (γ : St) : Int32 × St := ((x_X4_append y1 y2 y3 0 ((-1)) γ).1, (x_X4_append y1 y2 y3 0 ((-1)) γ).2)
def ok_X4_addAction (y1 : Int32) (y2 : Int32) (y3 : Int32) (γ : St) : Prop := ok_X4_append y1 y2 y3 0 ((-1)) γ ∧ True
-- X4_addContact
def x_X4_addContact (y1 : Int32) (y2 : Int32) (y3 : Int32) (y4 : Int32) (γ : St) : Int32 × St := ((x_X4_append y1 ((-1)) y2 y3 y4 γ).1, (x_X4_append y1 ((-1)) y2 y3 y4 γ).2)
def ok_X4_addContact (y1 : Int32) (y2 : Int32) (y3 : Int32) (y4 : Int32) (γ : St) : Prop := ok_X4_append y1 ((-1)) y2 y3 y4 γ ∧ True
-- X4_targetAt
def x_X4_targetAt (y1 : Int32) (γ : St) : Int32 := if ((x_X4_isEntry y1 γ)) = 0 then ((-1)) else (gV γ 15 0 ((y1 : Int32).toNatClampNeg))
def ok_X4_targetAt (y1 : Int32) (γ : St) : Prop := if ((x_X4_isEntry y1 γ)) = 0 then True else (vp_in y1 24 ∧ True)
-- X4_leastSpan
def x_X4_leastSpan (y0 : Int32) (γ : St) : Int32 := if y0 = 0 then 14 else (if y0 = 1 then 2 else 1)
-- X4_couldRegister
def x_X4_couldRegister_31 (γ : St) : Int32 := 0
def ok_X4_couldRegister_31 (γ : St) : Prop := True
def x_X4_couldRegister_56 (γ : St) : Int32 := 1
def ok_X4_couldRegister_56 (γ : St) : Prop := True
def x_X4_couldRegister_60 (γ : St) : Int32 := 0
def ok_X4_couldRegister_60 (γ : St) : Prop := True
def x_X4_couldRegister (y1 : Int32) (y2 : Int32) (γ : St) : Int32 := if ((x_X4_isEntry y1 γ)) = 0 then (x_X4_couldRegister_31 γ) else (if (gV γ 12 0 ((y1 : Int32).toNatClampNeg)) = ((-1)) then (if ((x_X4_leastSpan y2 γ)) ≤ (gV γ 14 0 ((y1 : Int32).toNatClampNeg)) then (if (gV γ 15 0 ((y1 : Int32).toNatClampNeg)) = 0 then (x_X4_couldRegister_56 γ) else (if y2 = 0 then (if (gV γ 15 0 ((y1 : Int32).toNatClampNeg)) = 1 then (x_X4_couldRegister_56 γ) else (x_X4_couldRegister_60 γ)) else (x_X4_couldRegister_60 γ))) else (x_X4_couldRegister_31 γ)) else (x_X4_couldRegister_31 γ))
def ok_X4_couldRegister (y1 : Int32) (y2 : Int32) (γ : St) : Prop := if ((x_X4_isEntry y1 γ)) = 0 then (ok_X4_couldRegister_31 γ) else (vp_in y1 24 ∧ (if (gV γ 12 0 ((y1 : Int32).toNatClampNeg)) = ((-1)) then (vp_in y1 24 ∧ (if ((x_X4_leastSpan y2 γ)) ≤ (gV γ 14 0 ((y1 : Int32).toNatClampNeg)) then (vp_in y1 24 ∧ (if (gV γ 15 0 ((y1 : Int32).toNatClampNeg)) = 0 then (ok_X4_couldRegister_56 γ) else (if y2 = 0 then (vp_in y1 24 ∧ (if (gV γ 15 0 ((y1 : Int32).toNatClampNeg)) = 1 then (ok_X4_couldRegister_56 γ) else (ok_X4_couldRegister_60 γ))) else (ok_X4_couldRegister_60 γ)))) else (ok_X4_couldRegister_31 γ))) else (ok_X4_couldRegister_31 γ)))
-- X4_lockout
def x_X4_lockout (y0 : Int32) (γ : St) : Int32 := if y0 = 0 then 300 else (if y0 = 1 then 45 else 170)
-- X4_registered
def x_X4_registered_79 (K5 : Int32 → Int32 → Int32 → Int32 → St → Int32) (a1 : Int32) (a2 : Int32) (a3 : Int32) (a4 : Int32) (γ : St) : Int32 := K5 a1 a2 a3 (a4 + 1) γ
def ok_X4_registered_79 (J5 : Int32 → Int32 → Int32 → Int32 → St → Prop) (a1 : Int32) (a2 : Int32) (a3 : Int32) (a4 : Int32) (γ : St) : Prop := J5 a1 a2 a3 (a4 + 1) γ
def x_X4_registered_44 (K5 : Int32 → Int32 → Int32 → Int32 → St → Int32) (a1 : Int32) (a2 : Int32) (a4 : Int32) (s0 : Int32) (γ : St) : Int32 := if (gV γ 11 0 ((a4 : Int32).toNatClampNeg)) = a1 then (if ((x_X4_lockout a2 γ)) < ((gV γ 13 0 ((a4 : Int32).toNatClampNeg)) - ((x_X4_timeAt s0 γ))) then (x_X4_registered_79 K5 a1 a2 s0 a4 γ) else a4) else (x_X4_registered_79 K5 a1 a2 s0 a4 γ)
def ok_X4_registered_44 (J5 : Int32 → Int32 → Int32 → Int32 → St → Prop) (a1 : Int32) (a2 : Int32) (a4 : Int32) (s0 : Int32) (γ : St) : Prop := vp_in a4 24 ∧ (if (gV γ 11 0 ((a4 : Int32).toNatClampNeg)) = a1 then (vp_in a4 24 ∧ (ok_X4_timeAt s0 γ ∧ (if ((x_X4_lockout a2 γ)) < ((gV γ 13 0 ((a4 : Int32).toNatClampNeg)) - ((x_X4_timeAt s0 γ))) then (ok_X4_registered_79 J5 a1 a2 s0 a4 γ) else True))) else (ok_X4_registered_79 J5 a1 a2 s0 a4 γ))
def x_X4_registered_5 : Nat → Int32 → Int32 → Int32 → Int32 → St → Int32
  | 0, _, _, _, _, _ => 0
  | k5 + 1, a1, a2, a3, a4, γ => if (gV γ 4 0 6) ≤ a4 then ((-1)) else (if ((x_X4_isEntry a4 γ)) = 0 then (x_X4_registered_79 (x_X4_registered_5 k5) a1 a2 a3 a4 γ) else (if ((x_X4_couldRegister a4 a2 γ)) = 0 then (x_X4_registered_79 (x_X4_registered_5 k5) a1 a2 a3 a4 γ) else (if a3 = ((-1)) then (x_X4_registered_44 (x_X4_registered_5 k5) a1 a2 a4 a4 γ) else (x_X4_registered_44 (x_X4_registered_5 k5) a1 a2 a4 a3 γ))))
def ok_X4_registered_5 : Nat → Int32 → Int32 → Int32 → Int32 → St → Prop
  | 0, _, _, _, _, _ => False
  | k5 + 1, a1, a2, a3, a4, γ => if (gV γ 4 0 6) ≤ a4 then True else (if ((x_X4_isEntry a4 γ)) = 0 then (ok_X4_registered_79 (ok_X4_registered_5 k5) a1 a2 a3 a4 γ) else (ok_X4_couldRegister a4 a2 γ ∧ (if ((x_X4_couldRegister a4 a2 γ)) = 0 then (ok_X4_registered_79 (ok_X4_registered_5 k5) a1 a2 a3 a4 γ) else (if a3 = ((-1)) then (ok_X4_registered_44 (ok_X4_registered_5 k5) a1 a2 a4 a4 γ) else (ok_X4_registered_44 (ok_X4_registered_5 k5) a1 a2 a4 a3 γ)))))
def x_X4_registered (y1 : Int32) (y2 : Int32) (γ : St) : Int32 := x_X4_registered_5 fu y1 y2 ((-1)) 0 γ
def ok_X4_registered (y1 : Int32) (y2 : Int32) (γ : St) : Prop := ok_X4_registered_5 fu y1 y2 ((-1)) 0 γ
-- X6_forget
def x_X6_forget (γ : St) : St := (sV (sV γ 6 0 0 ((-1))) 6 0 3 ((-1)))
-- X6_give
def x_X6_give (y1 : Int32) (y2 : Int32) (y3 : Int32) (γ : St) : St := (sV (sV (sV γ 6 0 0 y1) 6 0 1 y2) 6 0 2 y3)
-- X6_attack
def x_X6_attack_17 (γ : St) : St := γ
def x_X6_attack (y1 : Int32) (y2 : Int32) (γ : St) : St := if (gV γ 6 0 0) = (1 - y1) then (if (gV γ 6 0 1) = 0 then (if 40 < (y2 - (gV γ 6 0 2)) then γ else ((sV γ 6 0 0 ((-1))))) else γ) else (x_X6_attack_17 (x_X6_give y1 0 y2 γ))
-- X6_parry
def x_X6_parry (y1 : Int32) (y2 : Int32) (γ : St) : St := if (gV γ 6 0 0) = (1 - y1) then (if (gV γ 6 0 1) = 1 then γ else ((sV (sV (sV γ 6 0 0 ((-1))) 6 0 3 y1) 6 0 4 y2))) else γ
-- X6_take
def x_X6_take_54 (γ : St) : St := γ
def x_X6_take_72 (γ : St) : St := γ
def x_X6_take_99 (γ : St) : St := γ
def x_X6_take_108 (γ : St) : St := γ
def x_X6_take_146 (γ : St) : St := γ
def x_X6_take_185 (γ : St) : St := γ
def x_X6_take (y1 : Int32) (y2 : Int32) (y3 : Int32) (γ : St) : St := if y2 = 0 then (x_X6_take_54 (x_X6_attack y1 y3 γ)) else (if y2 = 1 then (if (gV γ 6 0 0) = ((-1)) then (x_X6_take_72 (x_X6_give y1 1 y3 γ)) else γ) else (if y2 = 2 then (if (gV γ 6 0 0) = (1 - y1) then (if (gV γ 6 0 1) = 1 then (x_X6_take_99 (x_X6_give y1 0 y3 γ)) else γ) else γ) else (if y2 = 3 then (x_X6_take_108 (x_X6_parry y1 y3 γ)) else (if y2 = 4 then (if (gV γ 6 0 0) = ((-1)) then (if (gV γ 6 0 3) = y1 then (if 300 < (y3 - (gV γ 6 0 4)) then γ else (x_X6_take_146 (x_X6_give y1 4 y3 γ))) else γ) else γ) else (if y2 = 5 then (if (gV γ 6 0 0) = ((-1)) then (if (gV γ 6 0 3) = (1 - y1) then (if (y3 - (gV γ 6 0 4)) ≤ 300 then γ else (x_X6_take_185 (x_X6_give y1 5 y3 γ))) else γ) else γ) else (if y2 = 6 then (if (gV γ 6 0 0) = y1 then ((sV γ 6 0 0 ((-1)))) else γ) else γ))))))
-- X4_holderAhead
def x_X4_holderAhead_71 (γ : St) : Int32 × St := (gV γ 6 0 0, γ)
def ok_X4_holderAhead_71 (γ : St) : Prop := True
def x_X4_holderAhead_65 (K9 : Int32 → Int32 → St → Int32 × St) (a1 : Int32) (a2 : Int32) (γ : St) : Int32 × St := K9 a1 (a2 + 1) γ
def ok_X4_holderAhead_65 (J9 : Int32 → Int32 → St → Prop) (a1 : Int32) (a2 : Int32) (γ : St) : Prop := J9 a1 (a2 + 1) γ
def x_X4_holderAhead_9 : Nat → Int32 → Int32 → St → Int32 × St
  | 0, _, _, γ => (0, γ)
  | k9 + 1, a1, a2, γ => if a1 ≤ a2 then (x_X4_holderAhead_71 γ) else (if (gV γ 4 0 6) ≤ a2 then (x_X4_holderAhead_71 γ) else (if ((x_X4_isEntry a2 γ)) = 0 then (x_X4_holderAhead_65 (x_X4_holderAhead_9 k9) a1 a2 γ) else (if (gV γ 12 0 ((a2 : Int32).toNatClampNeg)) = ((-1)) then (x_X4_holderAhead_65 (x_X4_holderAhead_9 k9) a1 a2 γ) else (x_X4_holderAhead_65 (x_X4_holderAhead_9 k9) a1 a2 (x_X6_take (gV γ 11 0 ((a2 : Int32).toNatClampNeg)) (gV γ 12 0 ((a2 : Int32).toNatClampNeg)) (gV γ 13 0 ((a2 : Int32).toNatClampNeg)) γ)))))
def ok_X4_holderAhead_9 : Nat → Int32 → Int32 → St → Prop
  | 0, _, _, _ => False
  | k9 + 1, a1, a2, γ => if a1 ≤ a2 then (ok_X4_holderAhead_71 γ) else (if (gV γ 4 0 6) ≤ a2 then (ok_X4_holderAhead_71 γ) else (if ((x_X4_isEntry a2 γ)) = 0 then (ok_X4_holderAhead_65 (ok_X4_holderAhead_9 k9) a1 a2 γ) else (vp_in a2 24 ∧ (if (gV γ 12 0 ((a2 : Int32).toNatClampNeg)) = ((-1)) then (ok_X4_holderAhead_65 (ok_X4_holderAhead_9 k9) a1 a2 γ) else (vp_in a2 24 ∧ (vp_in a2 24 ∧ (vp_in a2 24 ∧ (ok_X4_holderAhead_65 (ok_X4_holderAhead_9 k9) a1 a2 (x_X6_take (gV γ 11 0 ((a2 : Int32).toNatClampNeg)) (gV γ 12 0 ((a2 : Int32).toNatClampNeg)) (gV γ 13 0 ((a2 : Int32).toNatClampNeg)) γ)))))))))
def x_X4_holderAhead_7 (a1 : Int32) (γ : St) : Int32 × St := x_X4_holderAhead_9 fu a1 0 γ
def ok_X4_holderAhead_7 (a1 : Int32) (γ : St) : Prop := ok_X4_holderAhead_9 fu a1 0 γ
def x_X4_holderAhead (y1 : Int32) (γ : St) : Int32 × St := x_X4_holderAhead_7 y1 (x_X6_forget γ)
def ok_X4_holderAhead (y1 : Int32) (γ : St) : Prop := ok_X4_holderAhead_7 y1 (x_X6_forget γ)
-- X5_markWithdrawn
def x_X5_markWithdrawn (o : Nat) (y1 : Int32) (γ : St) : St := if ((x_X5_has o y1 γ)) = 0 then γ else ((sV γ 5 o 4 ((gV γ 5 o 4) ||| (1 <<< (y1 &&& 31)))))
-- X5_counts
def x_X5_counts_50 (o : Nat) (γ : St) : Int32 := 0
def x_X5_counts (o : Nat) (z1 : Nat) (γ : St) : Int32 := if (gV γ 0 z1 4) = (gV γ 5 o 0) then (if ((x_X0_isOver z1 γ)) = 0 then (x_X5_counts_50 o γ) else (if ((x_X5_isWithdrawn o (gV γ 2 (2 * z1) 0) γ)) = 0 then (if ((x_X5_isWithdrawn o (gV γ 2 (2 * z1 + 1) 0) γ)) = 0 then 1 else (x_X5_counts_50 o γ)) else (x_X5_counts_50 o γ))) else (x_X5_counts_50 o γ)
-- X5_addTo
def x_X5_addTo (o : Nat) (y1 : Int32) (y2 : Int32) (y3 : Int32) (γ : St) : St := if ((y1 * 4) + y2) < 0 then γ else (if 48 ≤ ((y1 * 4) + y2) then γ else ((sV γ 18 o (((y1 * 4) + y2 : Int32).toNatClampNeg) ((gV γ 18 o (((y1 * 4) + y2 : Int32).toNatClampNeg)) + y3))))
def ok_X5_addTo (o : Nat) (y1 : Int32) (y2 : Int32) (y3 : Int32) (γ : St) : Prop := if ((y1 * 4) + y2) < 0 then True else (if 48 ≤ ((y1 * 4) + y2) then True else (vp_in ((y1 * 4) + y2) 48 ∧ (vp_in ((y1 * 4) + y2) 48 ∧ True)))
-- X5_enter
def x_X5_enter_47 (K2 : Nat → Int32 → Int32 → St → St) (o : Nat) (n1 : Nat) (a2 : Int32) (a3 : Int32) (γ : St) : St := K2 n1 a2 (a3 + 1) γ
def ok_X5_enter_47 (J2 : Nat → Int32 → Int32 → St → Prop) (o : Nat) (n1 : Nat) (a2 : Int32) (a3 : Int32) (γ : St) : Prop := J2 n1 a2 (a3 + 1) γ
def x_X5_enter_27 (K2 : Nat → Int32 → Int32 → St → St) (o : Nat) (n1 : Nat) (a2 : Int32) (a3 : Int32) (γ : St) : St := x_X5_enter_47 K2 o n1 a2 a3 (x_X5_addTo o (gV γ 2 (2 * n1 + 1) 0) a3 (a2 * ((x_X0_share n1 1 a3 γ))) γ)
def ok_X5_enter_27 (J2 : Nat → Int32 → Int32 → St → Prop) (o : Nat) (n1 : Nat) (a2 : Int32) (a3 : Int32) (γ : St) : Prop := ok_X5_addTo o (gV γ 2 (2 * n1 + 1) 0) a3 (a2 * ((x_X0_share n1 1 a3 γ))) γ ∧ (ok_X5_enter_47 J2 o n1 a2 a3 (x_X5_addTo o (gV γ 2 (2 * n1 + 1) 0) a3 (a2 * ((x_X0_share n1 1 a3 γ))) γ))
def x_X5_enter_2 (o : Nat) : Nat → Nat → Int32 → Int32 → St → St
  | 0, _, _, _, γ => γ
  | k2 + 1, n1, a2, a3, γ => if 4 ≤ a3 then γ else (x_X5_enter_27 (x_X5_enter_2 o k2) o n1 a2 a3 (x_X5_addTo o (gV γ 2 (2 * n1) 0) a3 (a2 * ((x_X0_share n1 0 a3 γ))) γ))
def ok_X5_enter_2 (o : Nat) : Nat → Nat → Int32 → Int32 → St → Prop
  | 0, _, _, _, _ => False
  | k2 + 1, n1, a2, a3, γ => if 4 ≤ a3 then True else (ok_X5_addTo o (gV γ 2 (2 * n1) 0) a3 (a2 * ((x_X0_share n1 0 a3 γ))) γ ∧ (ok_X5_enter_27 (ok_X5_enter_2 o k2) o n1 a2 a3 (x_X5_addTo o (gV γ 2 (2 * n1) 0) a3 (a2 * ((x_X0_share n1 0 a3 γ))) γ)))
def x_X5_enter (o : Nat) (z1 : Nat) (y2 : Int32) (γ : St) : St := x_X5_enter_2 o fu z1 y2 0 γ
def ok_X5_enter (o : Nat) (z1 : Nat) (y2 : Int32) (γ : St) : Prop := ok_X5_enter_2 o fu z1 y2 0 γ
-- X7_fencer
def x_X7_fencer (γ : St) : Nat × Int32 × St := if (gV γ 7 0 5) < 12 then ((0, gV γ 7 0 5, (sV γ 7 0 5 ((gV γ 7 0 5) + 1)))) else ((1, 0, γ))
-- X7_isFencer
def x_X7_isFencer_16 (γ : St) : Int32 := 0
def x_X7_isFencer (y1 : Int32) (γ : St) : Int32 := if y1 < 0 then (x_X7_isFencer_16 γ) else (if (gV γ 7 0 5) ≤ y1 then (x_X7_isFencer_16 γ) else 1)
-- X7_isWithin
def x_X7_isWithin_14 (γ : St) : Int32 := 0
def x_X7_isWithin (y0 : Int32) (y1 : Int32) (y2 : Int32) (γ : St) : Int32 := if y0 < y1 then (x_X7_isWithin_14 γ) else (if y2 < y0 then (x_X7_isWithin_14 γ) else 1)
-- X7_poolOf
def x_X7_poolOf_30 (γ : St) : Option Nat := none
def ok_X7_poolOf_30 (γ : St) : Prop := True
def x_X7_poolOf (y1 : Int32) (γ : St) : Option Nat := if y1 < 0 then (x_X7_poolOf_30 γ) else (if (gV γ 7 0 7) ≤ y1 then (x_X7_poolOf_30 γ) else (if 6 ≤ y1 then (x_X7_poolOf_30 γ) else (gR γ 10 ((y1 : Int32).toNatClampNeg))))
def ok_X7_poolOf (y1 : Int32) (γ : St) : Prop := if y1 < 0 then (ok_X7_poolOf_30 γ) else (if (gV γ 7 0 7) ≤ y1 then (ok_X7_poolOf_30 γ) else (if 6 ≤ y1 then (ok_X7_poolOf_30 γ) else (vp_in y1 6 ∧ True)))
theorem lvr_X7_poolOf {κ : KP} {γ : St} (hw : WT κ γ) (a : Int32) : ∀ b : Nat, x_X7_poolOf a γ = some b → lv κ 5 b := by
  intro b hb
  unfold x_X7_poolOf x_X7_poolOf_30 at hb
  repeat' split at hb
  all_goals first | exact absurd hb (by simp) | exact hw 10 _ b hb
-- X7_putOnPiste
def x_X7_putOnPiste_36 (a2 : Int32) (γ : St) : Int32 × St := (a2, γ)
def ok_X7_putOnPiste_36 (a2 : Int32) (γ : St) : Prop := True
def x_X7_putOnPiste (z1 : Nat) (γ : St) : Int32 × St := if 80 ≤ (gV γ 7 0 6) then (x_X7_putOnPiste_36 (gV γ 7 0 6) γ) else (x_X7_putOnPiste_36 (gV γ 7 0 6) (sR (sV (sR γ 9 ((gV γ 7 0 6 : Int32).toNatClampNeg) ((some z1))) 7 0 6 ((gV γ 7 0 6) + 1)) 7 8 ((some z1))))
def ok_X7_putOnPiste (z1 : Nat) (γ : St) : Prop := if 80 ≤ (gV γ 7 0 6) then (ok_X7_putOnPiste_36 (gV γ 7 0 6) γ) else (vp_in (gV γ 7 0 6) 80 ∧ (ok_X7_putOnPiste_36 (gV γ 7 0 6) (sR (sV (sR γ 9 ((gV γ 7 0 6 : Int32).toNatClampNeg) ((some z1))) 7 0 6 ((gV γ 7 0 6) + 1)) 7 8 ((some z1)))))
-- X7_begin
/-- a new bout, number i, and its two corners -/
def nB (γ : St) (i : Nat) (a1 a2 a3 a4 a5 : Int32) : St :=
  sV (sV (sV (sV (sV (sV (sV (sV (sV (sV (sV (sV (sV (sV (sV (sV γ 0 i 5 (-1)) 0 i 6 (-1)) 0 i 7 0) 0 i 8 0) 0 i 9 0) 2 (2 * i) 1 0) 2 (2 * i) 2 0) 2 (2 * i) 3 0) 2 (2 * i) 0 a1) 2 (2 * i + 1) 1 0) 2 (2 * i + 1) 2 0) 2 (2 * i + 1) 3 0) 2 (2 * i + 1) 0 a2) 0 i 2 a3) 0 i 3 a4) 0 i 4 a5
def xn_X7_begin (a1 a2 a3 a4 a5 : Int32) (γ : St) : Nat × Int32 × St := (0, (x_X7_putOnPiste (gV γ 7 0 6).toNatClampNeg (nB γ (gV γ 7 0 6).toNatClampNeg a1 a2 a3 a4 a5)).1, (x_X7_putOnPiste (gV γ 7 0 6).toNatClampNeg (nB γ (gV γ 7 0 6).toNatClampNeg a1 a2 a3 a4 a5)).2)
def okn_X7_begin (a1 a2 a3 a4 a5 : Int32) (γ : St) : Prop := 0 ≤ gV γ 7 0 6 ∧ ok_X7_putOnPiste (gV γ 7 0 6).toNatClampNeg (nB γ (gV γ 7 0 6).toNatClampNeg a1 a2 a3 a4 a5)
def x_X7_begin_35 (γ : St) : Nat × Int32 × St := (3, 0, γ)
def ok_X7_begin_35 (γ : St) : Prop := True
def x_X7_begin_70 (γ : St) : Nat × Int32 × St := (2, 0, γ)
def ok_X7_begin_70 (γ : St) : Prop := True
def x_X7_begin_162 (γ : St) : Nat × Int32 × St := (1, 0, γ)
def ok_X7_begin_162 (γ : St) : Prop := True
def x_X7_begin_146 (a1 : Int32) (a2 : Int32) (a3 : Int32) (a4 : Int32) (a5 : Int32) (γ : St) : Nat × Int32 × St := oc (gR γ 7 8) (if (gV γ 7 0 6) < 80 then (xn_X7_begin a1 a2 a3 a4 a5 γ) else (x_X7_begin_162 γ)) (fun b80 => x_X7_begin_162 γ)
def ok_X7_begin_146 (a1 : Int32) (a2 : Int32) (a3 : Int32) (a4 : Int32) (a5 : Int32) (γ : St) : Prop := oc (gR γ 7 8) (if (gV γ 7 0 6) < 80 then (okn_X7_begin a1 a2 a3 a4 a5 γ) else (ok_X7_begin_162 γ)) (fun b80 => ok_X7_begin_162 γ)
def x_X7_begin_136 (γ : St) : Nat × Int32 × St := (1, 0, γ)
def ok_X7_begin_136 (γ : St) : Prop := True
def x_X7_begin_113 (a1 : Int32) (a2 : Int32) (a3 : Int32) (a4 : Int32) (a5 : Int32) (q6 : Option Nat) (γ : St) : Nat × Int32 × St := oc q6 (x_X7_begin_146 a1 a2 a3 a4 a5 γ) (fun b84 => if ((x_X5_isWithdrawn b84 a1 γ)) = 0 then (if ((x_X5_isWithdrawn b84 a2 γ)) = 0 then (x_X7_begin_146 a1 a2 a3 a4 a5 γ) else (x_X7_begin_136 γ)) else (x_X7_begin_136 γ))
def ok_X7_begin_113 (a1 : Int32) (a2 : Int32) (a3 : Int32) (a4 : Int32) (a5 : Int32) (q6 : Option Nat) (γ : St) : Prop := oc q6 (ok_X7_begin_146 a1 a2 a3 a4 a5 γ) (fun b84 => if ((x_X5_isWithdrawn b84 a1 γ)) = 0 then (if ((x_X5_isWithdrawn b84 a2 γ)) = 0 then (ok_X7_begin_146 a1 a2 a3 a4 a5 γ) else (ok_X7_begin_136 γ)) else (ok_X7_begin_136 γ))
def x_X7_begin_103 (γ : St) : Nat × Int32 × St := (2, 0, γ)
def ok_X7_begin_103 (γ : St) : Prop := True
def x_X7_begin_45 (a1 : Int32) (a2 : Int32) (a3 : Int32) (a4 : Int32) (a5 : Int32) (q6 : Option Nat) (γ : St) : Nat × Int32 × St := if a1 = a2 then (x_X7_begin_70 γ) else (if ((x_X7_isWithin a3 0 2 γ)) = 0 then (x_X7_begin_70 γ) else (if ((x_X7_isWithin a4 1 45 γ)) = 0 then (x_X7_begin_70 γ) else (oc q6 (x_X7_begin_113 a1 a2 a3 a4 a5 none γ) (fun b92 => if ((x_X5_has b92 a1 γ)) = 0 then (x_X7_begin_103 γ) else (if ((x_X5_has b92 a2 γ)) = 0 then (x_X7_begin_103 γ) else (x_X7_begin_113 a1 a2 a3 a4 a5 (some b92) γ))))))
def ok_X7_begin_45 (a1 : Int32) (a2 : Int32) (a3 : Int32) (a4 : Int32) (a5 : Int32) (q6 : Option Nat) (γ : St) : Prop := if a1 = a2 then (ok_X7_begin_70 γ) else (if ((x_X7_isWithin a3 0 2 γ)) = 0 then (ok_X7_begin_70 γ) else (if ((x_X7_isWithin a4 1 45 γ)) = 0 then (ok_X7_begin_70 γ) else (oc q6 (ok_X7_begin_113 a1 a2 a3 a4 a5 none γ) (fun b92 => if ((x_X5_has b92 a1 γ)) = 0 then (ok_X7_begin_103 γ) else (if ((x_X5_has b92 a2 γ)) = 0 then (ok_X7_begin_103 γ) else (ok_X7_begin_113 a1 a2 a3 a4 a5 (some b92) γ))))))
def x_X7_begin (y1 : Int32) (y2 : Int32) (y3 : Int32) (y4 : Int32) (y5 : Int32) (γ : St) : Nat × Int32 × St := if ((x_X7_isFencer y1 γ)) = 0 then (x_X7_begin_35 γ) else (if ((x_X7_isFencer y2 γ)) = 0 then (x_X7_begin_35 γ) else (oc ((x_X7_poolOf y5 γ)) (if y5 = ((-1)) then (x_X7_begin_45 y1 y2 y3 y4 y5 none γ) else (x_X7_begin_35 γ)) (fun b101 => x_X7_begin_45 y1 y2 y3 y4 y5 (some b101) γ)))
def ok_X7_begin (y1 : Int32) (y2 : Int32) (y3 : Int32) (y4 : Int32) (y5 : Int32) (γ : St) : Prop := ok_X7_poolOf y5 γ ∧ (if ((x_X7_isFencer y1 γ)) = 0 then (ok_X7_begin_35 γ) else (if ((x_X7_isFencer y2 γ)) = 0 then (ok_X7_begin_35 γ) else (oc ((x_X7_poolOf y5 γ)) (if y5 = ((-1)) then (ok_X7_begin_45 y1 y2 y3 y4 y5 none γ) else (ok_X7_begin_35 γ)) (fun b101 => ok_X7_begin_45 y1 y2 y3 y4 y5 (some b101) γ))))
-- X7_checkRoomInPhrase
def x_X7_checkRoomInPhrase_28 (γ : St) : Nat × St := (1, γ)
def ok_X7_checkRoomInPhrase_28 (γ : St) : Prop := True
def x_X7_checkRoomInPhrase (y1 : Int32) (γ : St) : Nat × St := oc (gR γ 7 8) (x_X7_checkRoomInPhrase_28 γ) (fun b16 => if y1 < ((x_X4_lastTime γ)) then (x_X7_checkRoomInPhrase_28 γ) else (if ((x_X4_isFull γ)) = 0 then ((0, γ)) else (x_X7_checkRoomInPhrase_28 γ)))
def ok_X7_checkRoomInPhrase (y1 : Int32) (γ : St) : Prop := oc (gR γ 7 8) (ok_X7_checkRoomInPhrase_28 γ) (fun b16 => ok_X4_lastTime γ ∧ (if y1 < ((x_X4_lastTime γ)) then (ok_X7_checkRoomInPhrase_28 γ) else (if ((x_X4_isFull γ)) = 0 then True else (ok_X7_checkRoomInPhrase_28 γ))))
-- X7_isSide
def x_X7_isSide_9 (γ : St) : Int32 := 1
def x_X7_isSide (y0 : Int32) (γ : St) : Int32 := if y0 = 0 then (x_X7_isSide_9 γ) else (if y0 = 1 then (x_X7_isSide_9 γ) else 0)
-- X7_act
def x_X7_act_27 (γ : St) : Nat × Int32 × St := (2, 0, γ)
def ok_X7_act_27 (γ : St) : Prop := True
def x_X7_act (y1 : Int32) (y2 : Int32) (y3 : Int32) (γ : St) : Nat × Int32 × St := if ((x_X7_isSide y1 γ)) = 0 then (x_X7_act_27 γ) else (if ((x_X7_isWithin y2 0 6 γ)) = 0 then (x_X7_act_27 γ) else (if ((x_X7_isWithin y3 0 1000000 γ)) = 0 then (x_X7_act_27 γ) else (if (x_X7_checkRoomInPhrase y3 γ).1 = 0 then ((0, (x_X4_addAction y1 y2 y3 (x_X7_checkRoomInPhrase y3 γ).2).1, (x_X4_addAction y1 y2 y3 (x_X7_checkRoomInPhrase y3 γ).2).2)) else ((x_X7_checkRoomInPhrase y3 γ).1, 0, (x_X7_checkRoomInPhrase y3 γ).2))))
def ok_X7_act (y1 : Int32) (y2 : Int32) (y3 : Int32) (γ : St) : Prop := if ((x_X7_isSide y1 γ)) = 0 then (ok_X7_act_27 γ) else (if ((x_X7_isWithin y2 0 6 γ)) = 0 then (ok_X7_act_27 γ) else (if ((x_X7_isWithin y3 0 1000000 γ)) = 0 then (ok_X7_act_27 γ) else (ok_X7_checkRoomInPhrase y3 γ ∧ (if (x_X7_checkRoomInPhrase y3 γ).1 = 0 then (ok_X4_addAction y1 y2 y3 (x_X7_checkRoomInPhrase y3 γ).2 ∧ True) else True))))
-- X7_hit
def x_X7_hit_17 (γ : St) : Nat × Int32 × St := (2, 0, γ)
def ok_X7_hit_17 (γ : St) : Prop := True
def x_X7_hit_48 (γ : St) : Nat × Int32 × St := (2, 0, γ)
def ok_X7_hit_48 (γ : St) : Prop := True
def x_X7_hit (y1 : Int32) (y2 : Int32) (y3 : Int32) (y4 : Int32) (γ : St) : Nat × Int32 × St := if ((x_X7_isSide y1 γ)) = 0 then (x_X7_hit_17 γ) else (if ((x_X7_isWithin y2 0 1000000 γ)) = 0 then (x_X7_hit_17 γ) else (if ((x_X7_isWithin y3 0 1000 γ)) = 0 then (x_X7_hit_48 γ) else (if ((x_X7_isWithin y4 0 2 γ)) = 0 then (x_X7_hit_48 γ) else (if (x_X7_checkRoomInPhrase y2 γ).1 = 0 then ((0, (x_X4_addContact y1 y2 y3 y4 (x_X7_checkRoomInPhrase y2 γ).2).1, (x_X4_addContact y1 y2 y3 y4 (x_X7_checkRoomInPhrase y2 γ).2).2)) else ((x_X7_checkRoomInPhrase y2 γ).1, 0, (x_X7_checkRoomInPhrase y2 γ).2)))))
def ok_X7_hit (y1 : Int32) (y2 : Int32) (y3 : Int32) (y4 : Int32) (γ : St) : Prop := if ((x_X7_isSide y1 γ)) = 0 then (ok_X7_hit_17 γ) else (if ((x_X7_isWithin y2 0 1000000 γ)) = 0 then (ok_X7_hit_17 γ) else (if ((x_X7_isWithin y3 0 1000 γ)) = 0 then (ok_X7_hit_48 γ) else (if ((x_X7_isWithin y4 0 2 γ)) = 0 then (ok_X7_hit_48 γ) else (ok_X7_checkRoomInPhrase y2 γ ∧ (if (x_X7_checkRoomInPhrase y2 γ).1 = 0 then (ok_X4_addContact y1 y2 y3 y4 (x_X7_checkRoomInPhrase y2 γ).2 ∧ True) else True)))))
-- X7_boutOnPiste
def x_X7_boutOnPiste (γ : St) : Nat × Option Nat × St := oc (gR γ 7 8) ((1, none, γ)) (fun b7 => (0, gR γ 7 8, γ))
theorem lvr_X7_boutOnPiste {κ : KP} {γ : St} (hw : WT κ γ) : ∀ b : Nat, (x_X7_boutOnPiste γ).2.1 = some b → lv κ 0 b := by
  intro b hb
  unfold x_X7_boutOnPiste at hb
  cases h : gR γ 7 8 with
  | none => rw [h] at hb; exact absurd hb (by simp [oc])
  | some d =>
    rw [h] at hb
    have e : d = b := by simpa [oc] using hb
    rw [← e]
    exact hw 7 8 d h
-- X7_clearPisteIfOver
def x_X7_clearPisteIfOver_20 (n1 : Nat) (γ : St) : St := oc ((x_X7_poolOf (gV γ 0 n1 4) γ)) γ (fun b17 => (x_X5_enter b17 n1 1 γ))
def ok_X7_clearPisteIfOver_20 (n1 : Nat) (γ : St) : Prop := ok_X7_poolOf (gV γ 0 n1 4) γ ∧ (oc ((x_X7_poolOf (gV γ 0 n1 4) γ)) True (fun b17 => ok_X5_enter b17 n1 1 γ ∧ True))
def x_X7_clearPisteIfOver (z1 : Nat) (γ : St) : St := if ((x_X0_isOver z1 γ)) = 0 then γ else (x_X7_clearPisteIfOver_20 z1 (x_X4_empty (sR γ 7 8 none)))
def ok_X7_clearPisteIfOver (z1 : Nat) (γ : St) : Prop := if ((x_X0_isOver z1 γ)) = 0 then True else (ok_X7_clearPisteIfOver_20 z1 (x_X4_empty (sR γ 7 8 none)))
-- X7_because
def x_X7_because (y1 : Int32) (y2 : Int32) (γ : St) : Int32 × St := (y2, (sV γ 7 0 9 y1))
-- X7_judgeByRight
def x_X7_judgeByRight_122 (s0 : Int32) (γ : St) : Int32 × St := (s0, γ)
def ok_X7_judgeByRight_122 (s0 : Int32) (γ : St) : Prop := True
def x_X7_judgeByRight_100 (a3 : Int32) (a4 : Int32) (γ : St) : Int32 × St := if ((x_X4_targetAt a4 γ)) = 0 then (x_X7_judgeByRight_122 ((x_X7_because 6 ((x_X7_bitOf a3 γ)) γ).1) (x_X7_because 6 ((x_X7_bitOf a3 γ)) γ).2) else (((x_X7_because 2 0 γ).1, (x_X7_because 2 0 γ).2))
def ok_X7_judgeByRight_100 (a3 : Int32) (a4 : Int32) (γ : St) : Prop := ok_X4_targetAt a4 γ ∧ (if ((x_X4_targetAt a4 γ)) = 0 then (ok_X7_judgeByRight_122 ((x_X7_because 6 ((x_X7_bitOf a3 γ)) γ).1) (x_X7_because 6 ((x_X7_bitOf a3 γ)) γ).2) else True)
def x_X7_judgeByRight_45 (a3 : Int32) (a4 : Int32) (s0 : Int32) (γ : St) : Int32 × St := if ((x_X4_targetAt s0 γ)) = 0 then (if (((x_X4_timeAt a4 γ)) - ((x_X4_timeAt s0 γ))) < 150 then (x_X7_judgeByRight_100 a3 a4 γ) else (((x_X7_because 5 ((x_X7_bitOf (1 - a3) γ)) γ).1, (x_X7_because 5 ((x_X7_bitOf (1 - a3) γ)) γ).2))) else (x_X7_judgeByRight_100 a3 a4 γ)
def ok_X7_judgeByRight_45 (a3 : Int32) (a4 : Int32) (s0 : Int32) (γ : St) : Prop := ok_X4_timeAt a4 γ ∧ (ok_X4_timeAt s0 γ ∧ (ok_X4_targetAt s0 γ ∧ (if ((x_X4_targetAt s0 γ)) = 0 then (if (((x_X4_timeAt a4 γ)) - ((x_X4_timeAt s0 γ))) < 150 then (ok_X7_judgeByRight_100 a3 a4 γ) else True) else (ok_X7_judgeByRight_100 a3 a4 γ))))
def x_X7_judgeByRight_34 (a1 : Int32) (a2 : Int32) (a3 : Int32) (s0 : Int32) (γ : St) : Int32 × St := if a3 = 0 then (x_X7_judgeByRight_45 a3 s0 a2 γ) else (x_X7_judgeByRight_45 a3 s0 a1 γ)
def ok_X7_judgeByRight_34 (a1 : Int32) (a2 : Int32) (a3 : Int32) (s0 : Int32) (γ : St) : Prop := if a3 = 0 then (ok_X7_judgeByRight_45 a3 s0 a2 γ) else (ok_X7_judgeByRight_45 a3 s0 a1 γ)
def x_X7_judgeByRight_12 (a1 : Int32) (a2 : Int32) (s0 : Int32) (γ : St) : Int32 × St := if s0 = ((-1)) then (((x_X7_because 4 0 γ).1, (x_X7_because 4 0 γ).2)) else (if s0 = 0 then (x_X7_judgeByRight_34 a1 a2 s0 a1 γ) else (x_X7_judgeByRight_34 a1 a2 s0 a2 γ))
def ok_X7_judgeByRight_12 (a1 : Int32) (a2 : Int32) (s0 : Int32) (γ : St) : Prop := if s0 = ((-1)) then True else (if s0 = 0 then (ok_X7_judgeByRight_34 a1 a2 s0 a1 γ) else (ok_X7_judgeByRight_34 a1 a2 s0 a2 γ))
def x_X7_judgeByRight (y1 : Int32) (y2 : Int32) (γ : St) : Int32 × St := x_X7_judgeByRight_12 y1 y2 ((x_X4_holderAhead (if y1 < y2 then y2 else y1) γ).1) (x_X4_holderAhead (if y1 < y2 then y2 else y1) γ).2
def ok_X7_judgeByRight (y1 : Int32) (y2 : Int32) (γ : St) : Prop := ok_X4_holderAhead (if y1 < y2 then y2 else y1) γ ∧ (ok_X7_judgeByRight_12 y1 y2 ((x_X4_holderAhead (if y1 < y2 then y2 else y1) γ).1) (x_X4_holderAhead (if y1 < y2 then y2 else y1) γ).2)
-- X7_judgeFor
def x_X7_judgeFor_93 (s0 : Int32) (γ : St) : Int32 × St := (s0, γ)
def ok_X7_judgeFor_93 (s0 : Int32) (γ : St) : Prop := True
def x_X7_judgeFor_87 (s0 : Int32) (s1 : Int32) (γ : St) : Int32 × St := x_X7_judgeFor_93 ((x_X7_because s1 ((x_X7_bitOf s0 γ)) γ).1) (x_X7_because s1 ((x_X7_bitOf s0 γ)) γ).2
def ok_X7_judgeFor_87 (s0 : Int32) (s1 : Int32) (γ : St) : Prop := ok_X7_judgeFor_93 ((x_X7_because s1 ((x_X7_bitOf s0 γ)) γ).1) (x_X7_because s1 ((x_X7_bitOf s0 γ)) γ).2
def x_X7_judgeFor_61 (a3 : Int32) (s0 : Int32) (γ : St) : Int32 × St := if ((x_X4_targetAt s0 γ)) = 0 then (if a3 = ((-1)) then (x_X7_judgeFor_87 1 1 γ) else (x_X7_judgeFor_87 0 1 γ)) else (((x_X7_because 2 0 γ).1, (x_X7_because 2 0 γ).2))
def ok_X7_judgeFor_61 (a3 : Int32) (s0 : Int32) (γ : St) : Prop := ok_X4_targetAt s0 γ ∧ (if ((x_X4_targetAt s0 γ)) = 0 then (if a3 = ((-1)) then (ok_X7_judgeFor_87 1 1 γ) else (ok_X7_judgeFor_87 0 1 γ)) else True)
def x_X7_judgeFor_50 (a3 : Int32) (a4 : Int32) (γ : St) : Int32 × St := if a3 = ((-1)) then (x_X7_judgeFor_61 a3 a4 γ) else (x_X7_judgeFor_61 a3 a3 γ)
def ok_X7_judgeFor_50 (a3 : Int32) (a4 : Int32) (γ : St) : Prop := if a3 = ((-1)) then (ok_X7_judgeFor_61 a3 a4 γ) else (ok_X7_judgeFor_61 a3 a3 γ)
def x_X7_judgeFor_119 (s0 : Int32) (s1 : Int32) (γ : St) : Int32 × St := ((x_X7_because s1 s0 γ).1, (x_X7_because s1 s0 γ).2)
def ok_X7_judgeFor_119 (s0 : Int32) (s1 : Int32) (γ : St) : Prop := True
def x_X7_judgeFor_39 (a1 : Int32) (a2 : Int32) (a3 : Int32) (a4 : Int32) (γ : St) : Int32 × St := if a3 = ((-1)) then (x_X7_judgeFor_50 a3 a4 γ) else (if a4 = ((-1)) then (x_X7_judgeFor_50 a3 a4 γ) else (if a1 = 1 then (if a2 = 0 then (x_X7_judgeFor_119 3 3 γ) else (x_X7_judgeFor_119 0 3 γ)) else (((x_X7_judgeByRight a3 a4 γ).1, (x_X7_judgeByRight a3 a4 γ).2))))
def ok_X7_judgeFor_39 (a1 : Int32) (a2 : Int32) (a3 : Int32) (a4 : Int32) (γ : St) : Prop := if a3 = ((-1)) then (ok_X7_judgeFor_50 a3 a4 γ) else (if a4 = ((-1)) then (ok_X7_judgeFor_50 a3 a4 γ) else (if a1 = 1 then (if a2 = 0 then (ok_X7_judgeFor_119 3 3 γ) else (ok_X7_judgeFor_119 0 3 γ)) else (ok_X7_judgeByRight a3 a4 γ ∧ True)))
def x_X7_judgeFor (y1 : Int32) (y2 : Int32) (γ : St) : Int32 × St := if ((x_X4_registered 0 y1 γ)) = ((-1)) then (if ((x_X4_registered 1 y1 γ)) = ((-1)) then (((x_X7_because 0 0 γ).1, (x_X7_because 0 0 γ).2)) else (x_X7_judgeFor_39 y1 y2 ((x_X4_registered 0 y1 γ)) ((x_X4_registered 1 y1 γ)) γ)) else (x_X7_judgeFor_39 y1 y2 ((x_X4_registered 0 y1 γ)) ((x_X4_registered 1 y1 γ)) γ)
def ok_X7_judgeFor (y1 : Int32) (y2 : Int32) (γ : St) : Prop := ok_X4_registered 0 y1 γ ∧ (ok_X4_registered 1 y1 γ ∧ (if ((x_X4_registered 0 y1 γ)) = ((-1)) then (if ((x_X4_registered 1 y1 γ)) = ((-1)) then True else (ok_X7_judgeFor_39 y1 y2 ((x_X4_registered 0 y1 γ)) ((x_X4_registered 1 y1 γ)) γ)) else (ok_X7_judgeFor_39 y1 y2 ((x_X4_registered 0 y1 γ)) ((x_X4_registered 1 y1 γ)) γ)))
-- X7_judge
def x_X7_judge_35 (a2 : Int32) (γ : St) : Nat × Int32 × St := (0, a2, γ)
def ok_X7_judge_35 (a2 : Int32) (γ : St) : Prop := True
def x_X7_judge_30 (n1 : Nat) (a2 : Int32) (γ : St) : Nat × Int32 × St := x_X7_judge_35 a2 (x_X7_clearPisteIfOver n1 γ)
def ok_X7_judge_30 (n1 : Nat) (a2 : Int32) (γ : St) : Prop := ok_X7_clearPisteIfOver n1 γ ∧ (ok_X7_judge_35 a2 (x_X7_clearPisteIfOver n1 γ))
def x_X7_judge_23 (n1 : Nat) (a2 : Int32) (γ : St) : Nat × Int32 × St := x_X7_judge_30 n1 a2 (x_X4_empty γ)
def ok_X7_judge_23 (n1 : Nat) (a2 : Int32) (γ : St) : Prop := ok_X7_judge_30 n1 a2 (x_X4_empty γ)
def x_X7_judge_17 (n1 : Nat) (s0 : Int32) (γ : St) : Nat × Int32 × St := x_X7_judge_23 n1 s0 (x_X0_giveTouches n1 s0 γ)
def ok_X7_judge_17 (n1 : Nat) (s0 : Int32) (γ : St) : Prop := ok_X7_judge_23 n1 s0 (x_X0_giveTouches n1 s0 γ)
def x_X7_judge (γ : St) : Nat × Int32 × St := if (x_X7_boutOnPiste γ).1 = 0 then (oc ((x_X7_boutOnPiste γ).2.1) ((0, 0, (x_X7_boutOnPiste γ).2.2)) (fun b18 => x_X7_judge_17 b18 ((x_X7_judgeFor (gV (x_X7_boutOnPiste γ).2.2 0 b18 2) ((x_X0_isDoubleTooFar b18 (x_X7_boutOnPiste γ).2.2)) (x_X7_boutOnPiste γ).2.2).1) (x_X7_judgeFor (gV (x_X7_boutOnPiste γ).2.2 0 b18 2) ((x_X0_isDoubleTooFar b18 (x_X7_boutOnPiste γ).2.2)) (x_X7_boutOnPiste γ).2.2).2)) else ((x_X7_boutOnPiste γ).1, 0, (x_X7_boutOnPiste γ).2.2)
def ok_X7_judge (γ : St) : Prop := if (x_X7_boutOnPiste γ).1 = 0 then (oc ((x_X7_boutOnPiste γ).2.1) False (fun b18 => ok_X7_judgeFor (gV (x_X7_boutOnPiste γ).2.2 0 b18 2) ((x_X0_isDoubleTooFar b18 (x_X7_boutOnPiste γ).2.2)) (x_X7_boutOnPiste γ).2.2 ∧ (ok_X7_judge_17 b18 ((x_X7_judgeFor (gV (x_X7_boutOnPiste γ).2.2 0 b18 2) ((x_X0_isDoubleTooFar b18 (x_X7_boutOnPiste γ).2.2)) (x_X7_boutOnPiste γ).2.2).1) (x_X7_judgeFor (gV (x_X7_boutOnPiste γ).2.2 0 b18 2) ((x_X0_isDoubleTooFar b18 (x_X7_boutOnPiste γ).2.2)) (x_X7_boutOnPiste γ).2.2).2))) else True
-- X7_card
def x_X7_card_16 (γ : St) : Nat × Int32 × St := (2, 0, γ)
def ok_X7_card_16 (γ : St) : Prop := True
def x_X7_card_44 (a4 : Int32) (γ : St) : Nat × Int32 × St := (0, a4, γ)
def ok_X7_card_44 (a4 : Int32) (γ : St) : Prop := True
def x_X7_card_37 (n3 : Nat) (s0 : Int32) (γ : St) : Nat × Int32 × St := x_X7_card_44 s0 (x_X7_clearPisteIfOver n3 γ)
def ok_X7_card_37 (n3 : Nat) (s0 : Int32) (γ : St) : Prop := ok_X7_clearPisteIfOver n3 γ ∧ (ok_X7_card_44 s0 (x_X7_clearPisteIfOver n3 γ))
def x_X7_card (y1 : Int32) (y2 : Int32) (γ : St) : Nat × Int32 × St := if ((x_X7_isSide y1 γ)) = 0 then (x_X7_card_16 γ) else (if ((x_X7_isWithin y2 1 3 γ)) = 0 then (x_X7_card_16 γ) else (if (x_X7_boutOnPiste γ).1 = 0 then (oc ((x_X7_boutOnPiste γ).2.1) ((0, 0, (x_X7_boutOnPiste γ).2.2)) (fun b22 => x_X7_card_37 b22 ((x_X0_giveCard b22 y1 y2 (x_X7_boutOnPiste γ).2.2).1) (x_X0_giveCard b22 y1 y2 (x_X7_boutOnPiste γ).2.2).2)) else ((x_X7_boutOnPiste γ).1, 0, (x_X7_boutOnPiste γ).2.2)))
def ok_X7_card (y1 : Int32) (y2 : Int32) (γ : St) : Prop := if ((x_X7_isSide y1 γ)) = 0 then (ok_X7_card_16 γ) else (if ((x_X7_isWithin y2 1 3 γ)) = 0 then (ok_X7_card_16 γ) else (if (x_X7_boutOnPiste γ).1 = 0 then (oc ((x_X7_boutOnPiste γ).2.1) False (fun b22 => ok_X7_card_37 b22 ((x_X0_giveCard b22 y1 y2 (x_X7_boutOnPiste γ).2.2).1) (x_X0_giveCard b22 y1 y2 (x_X7_boutOnPiste γ).2.2).2)) else True))
-- X7_clock
def x_X7_clock_59 (n2 : Nat) (γ : St) : Nat × Int32 × St := (0, (x_X0_secondsLeft n2 γ), γ)
def ok_X7_clock_59 (n2 : Nat) (γ : St) : Prop := True
def x_X7_clock_54 (q2 : Option Nat) (γ : St) : Nat × Int32 × St := oc q2 ((0, 0, γ)) (fun b25 => x_X7_clock_59 b25 (x_X7_clearPisteIfOver b25 γ))
def ok_X7_clock_54 (q2 : Option Nat) (γ : St) : Prop := oc q2 False (fun b25 => ok_X7_clearPisteIfOver b25 γ ∧ (ok_X7_clock_59 b25 (x_X7_clearPisteIfOver b25 γ)))
def x_X7_clock_48 (K28 : Int32 → (Option Nat) → Int32 → St → Nat × Int32 × St) (a1 : Int32) (n2 : Nat) (a3 : Int32) (γ : St) : Nat × Int32 × St := K28 a1 (some n2) (a3 + 1) γ
def ok_X7_clock_48 (J28 : Int32 → (Option Nat) → Int32 → St → Prop) (a1 : Int32) (n2 : Nat) (a3 : Int32) (γ : St) : Prop := J28 a1 (some n2) (a3 + 1) γ
def x_X7_clock_28 : Nat → Int32 → (Option Nat) → Int32 → St → Nat × Int32 × St
  | 0, _, _, _, γ => (0, 0, γ)
  | k28 + 1, a1, q2, a3, γ => if a1 ≤ a3 then (x_X7_clock_54 q2 γ) else (oc q2 ((0, 0, γ)) (fun b30 => if ((x_X0_isOver b30 γ)) = 0 then (x_X7_clock_48 (x_X7_clock_28 k28) a1 b30 a3 (x_X0_passSecond b30 γ)) else (x_X7_clock_54 (some b30) γ)))
def ok_X7_clock_28 : Nat → Int32 → (Option Nat) → Int32 → St → Prop
  | 0, _, _, _, _ => False
  | k28 + 1, a1, q2, a3, γ => if a1 ≤ a3 then (ok_X7_clock_54 q2 γ) else (oc q2 False (fun b30 => if ((x_X0_isOver b30 γ)) = 0 then (ok_X7_clock_48 (ok_X7_clock_28 k28) a1 b30 a3 (x_X0_passSecond b30 γ)) else (ok_X7_clock_54 (some b30) γ)))
def x_X7_clock (y1 : Int32) (γ : St) : Nat × Int32 × St := if ((x_X7_isWithin y1 1 240 γ)) = 0 then ((2, 0, γ)) else (if (x_X7_boutOnPiste γ).1 = 0 then (x_X7_clock_28 fu y1 ((x_X7_boutOnPiste γ).2.1) 0 (x_X7_boutOnPiste γ).2.2) else ((x_X7_boutOnPiste γ).1, 0, (x_X7_boutOnPiste γ).2.2))
def ok_X7_clock (y1 : Int32) (γ : St) : Prop := if ((x_X7_isWithin y1 1 240 γ)) = 0 then True else (if (x_X7_boutOnPiste γ).1 = 0 then (ok_X7_clock_28 fu y1 ((x_X7_boutOnPiste γ).2.1) 0 (x_X7_boutOnPiste γ).2.2) else True)
-- X7_end
def x_X7_end_18 (n1 : Nat) (γ : St) : Nat × Int32 × St := (0, gV γ 0 n1 5, γ)
def ok_X7_end_18 (n1 : Nat) (γ : St) : Prop := True
def x_X7_end_13 (n1 : Nat) (γ : St) : Nat × Int32 × St := x_X7_end_18 n1 (x_X7_clearPisteIfOver n1 γ)
def ok_X7_end_13 (n1 : Nat) (γ : St) : Prop := ok_X7_clearPisteIfOver n1 γ ∧ (ok_X7_end_18 n1 (x_X7_clearPisteIfOver n1 γ))
def x_X7_end (γ : St) : Nat × Int32 × St := if (x_X7_boutOnPiste γ).1 = 0 then (oc ((x_X7_boutOnPiste γ).2.1) ((0, 0, (x_X7_boutOnPiste γ).2.2)) (fun b16 => x_X7_end_13 b16 (x_X0_finish b16 ((x_X0_leader b16 (x_X7_boutOnPiste γ).2.2)) (x_X7_boutOnPiste γ).2.2))) else ((x_X7_boutOnPiste γ).1, 0, (x_X7_boutOnPiste γ).2.2)
def ok_X7_end (γ : St) : Prop := if (x_X7_boutOnPiste γ).1 = 0 then (oc ((x_X7_boutOnPiste γ).2.1) False (fun b16 => ok_X7_end_13 b16 (x_X0_finish b16 ((x_X0_leader b16 (x_X7_boutOnPiste γ).2.2)) (x_X7_boutOnPiste γ).2.2))) else True
-- X7_seed
def x_X7_seed (y1 : Int32) (γ : St) : Nat × St := if 0 ≤ y1 then ((0, (sL γ 3 0 ((y1 : Int32).toInt64)))) else ((2, γ))
-- X7_pool
def sZ (γ : St) (c n : Nat) : St := (ls [] c (ls [] n [] (lg [] γ.1 c)) γ.1, γ.2.1, γ.2.2)
/-- a new pool, number j -/
def nP (γ : St) (j : Nat) (i a1 : Int32) : St := sV (sV (sV (sZ (sZ γ 18 j) 19 j) 5 j 4 0) 5 j 0 i) 5 j 1 a1
def xn_X7_pool (a1 : Int32) (γ : St) : Nat × Int32 × St := (0, gV γ 7 0 7, sV (sR (nP γ (gV γ 7 0 7).toNatClampNeg (gV γ 7 0 7) a1) 10 (gV γ 7 0 7).toNatClampNeg (some (gV γ 7 0 7).toNatClampNeg)) 7 0 7 (gV γ 7 0 7 + 1))
def okn_X7_pool (a1 : Int32) (γ : St) : Prop := vp_in (gV γ 7 0 7) 6

def x_X7_pool_22 (γ : St) : Nat × Int32 × St := (2, 0, γ)
def ok_X7_pool_22 (γ : St) : Prop := True
def x_X7_pool (y1 : Int32) (γ : St) : Nat × Int32 × St := if (y1 &&& (-(1 <<< ((gV γ 7 0 5) &&& 31)))) = 0 then (if 2 ≤ ((x_J6_bitCount_0f7a4 y1 γ)) then (if (gV γ 7 0 7) < 6 then (xn_X7_pool y1 γ) else ((1, 0, γ))) else (x_X7_pool_22 γ)) else (x_X7_pool_22 γ)
def ok_X7_pool (y1 : Int32) (γ : St) : Prop := if (y1 &&& (-(1 <<< ((gV γ 7 0 5) &&& 31)))) = 0 then (if 2 ≤ ((x_J6_bitCount_0f7a4 y1 γ)) then (if (gV γ 7 0 7) < 6 then (okn_X7_pool y1 γ) else True) else (ok_X7_pool_22 γ)) else (ok_X7_pool_22 γ)
-- X7_boutAt
def x_X7_boutAt_30 (γ : St) : Option Nat := none
def ok_X7_boutAt_30 (γ : St) : Prop := True
def x_X7_boutAt (y1 : Int32) (γ : St) : Option Nat := if y1 < 0 then (x_X7_boutAt_30 γ) else (if (gV γ 7 0 6) ≤ y1 then (x_X7_boutAt_30 γ) else (if 80 ≤ y1 then (x_X7_boutAt_30 γ) else (gR γ 9 ((y1 : Int32).toNatClampNeg))))
def ok_X7_boutAt (y1 : Int32) (γ : St) : Prop := if y1 < 0 then (ok_X7_boutAt_30 γ) else (if (gV γ 7 0 6) ≤ y1 then (ok_X7_boutAt_30 γ) else (if 80 ≤ y1 then (ok_X7_boutAt_30 γ) else (vp_in y1 80 ∧ True)))
theorem lvr_X7_boutAt {κ : KP} {γ : St} (hw : WT κ γ) (a : Int32) : ∀ b : Nat, x_X7_boutAt a γ = some b → lv κ 0 b := by
  intro b hb
  unfold x_X7_boutAt x_X7_boutAt_30 at hb
  repeat' split at hb
  all_goals first | exact absurd hb (by simp) | exact hw 9 _ b hb
-- X7_isBusyFor
def x_X7_isBusyFor_36 (γ : St) : Int32 := 0
def ok_X7_isBusyFor_36 (γ : St) : Prop := True
def x_X7_isBusyFor (z1 : Nat) (y2 : Int32) (γ : St) : Int32 := oc (gR γ 7 8) (x_X7_isBusyFor_36 γ) (fun b30 => oc (gR γ 7 8) 0 (fun b34 => if (gV γ 0 b34 4) = (gV γ 5 z1 0) then (oc (gR γ 7 8) 0 (fun b39 => if ((x_X0_has b39 y2 γ)) = 0 then (x_X7_isBusyFor_36 γ) else 1)) else (x_X7_isBusyFor_36 γ)))
def ok_X7_isBusyFor (z1 : Nat) (y2 : Int32) (γ : St) : Prop := oc (gR γ 7 8) (ok_X7_isBusyFor_36 γ) (fun b30 => oc (gR γ 7 8) False (fun b34 => if (gV γ 0 b34 4) = (gV γ 5 z1 0) then (oc (gR γ 7 8) False (fun b39 => if ((x_X0_has b39 y2 γ)) = 0 then (ok_X7_isBusyFor_36 γ) else True)) else (ok_X7_isBusyFor_36 γ)))
-- X7_poolWith
def x_X7_poolWith_18 (γ : St) : Nat × Nat × St := (3, 0, γ)
def ok_X7_poolWith_18 (γ : St) : Prop := True
def x_X7_poolWith (y1 : Int32) (y2 : Int32) (γ : St) : Nat × Nat × St := oc ((x_X7_poolOf y1 γ)) (x_X7_poolWith_18 γ) (fun b15 => if ((x_X5_has b15 y2 γ)) = 0 then (x_X7_poolWith_18 γ) else ((0, b15, γ)))
def ok_X7_poolWith (y1 : Int32) (y2 : Int32) (γ : St) : Prop := ok_X7_poolOf y1 γ ∧ (oc ((x_X7_poolOf y1 γ)) (ok_X7_poolWith_18 γ) (fun b15 => if ((x_X5_has b15 y2 γ)) = 0 then (ok_X7_poolWith_18 γ) else True))
theorem lvr_X7_poolWith {κ : KP} {γ : St} (hw : WT κ γ) (a1 a2 : Int32) (h0 : (x_X7_poolWith a1 a2 γ).1 = 0) : lv κ 5 (x_X7_poolWith a1 a2 γ).2.1 := by
  have hl := lvr_X7_poolOf hw a1
  unfold x_X7_poolWith at h0 ⊢
  cases h : x_X7_poolOf a1 γ with
  | none => rw [h] at h0; exact absurd h0 (by simp [oc, x_X7_poolWith_18])
  | some d =>
    rw [h] at h0
    have hd := hl d h
    by_cases c : x_X5_has d a2 γ = 0
    · exact absurd h0 (by simp [oc, c, x_X7_poolWith_18])
    · have e : (oc (some d) (3, 0, γ) (fun b => if x_X5_has b a2 γ = 0 then (3, 0, γ) else (0, b, γ)) : Nat × Nat × St).2.1 = d := by simp [oc, c]
      first
        | (simp [oc, c]; exact hd)
        | (simp only [oc, if_neg c]; exact hd)
-- X7_withdraw
def x_X7_withdraw_24 (γ : St) : Nat × Int32 × St := (1, 0, γ)
def ok_X7_withdraw_24 (γ : St) : Prop := True
def x_X7_withdraw_101 (a4 : Int32) (γ : St) : Nat × Int32 × St := (0, a4, γ)
def ok_X7_withdraw_101 (a4 : Int32) (γ : St) : Prop := True
def x_X7_withdraw_90 (K40 : Int32 → Nat → Int32 → Int32 → St → Nat × Int32 × St) (a2 : Int32) (n3 : Nat) (a4 : Int32) (a5 : Int32) (γ : St) : Nat × Int32 × St := K40 a2 n3 a4 (a5 + 1) γ
def ok_X7_withdraw_90 (J40 : Int32 → Nat → Int32 → Int32 → St → Prop) (a2 : Int32) (n3 : Nat) (a4 : Int32) (a5 : Int32) (γ : St) : Prop := J40 a2 n3 a4 (a5 + 1) γ
def x_X7_withdraw_87 (K40 : Int32 → Nat → Int32 → Int32 → St → Nat × Int32 × St) (a2 : Int32) (n3 : Nat) (a4 : Int32) (a5 : Int32) (γ : St) : Nat × Int32 × St := x_X7_withdraw_90 K40 a2 n3 (a4 + 1) a5 γ
def ok_X7_withdraw_87 (J40 : Int32 → Nat → Int32 → Int32 → St → Prop) (a2 : Int32) (n3 : Nat) (a4 : Int32) (a5 : Int32) (γ : St) : Prop := ok_X7_withdraw_90 J40 a2 n3 (a4 + 1) a5 γ
def x_X7_withdraw_40 : Nat → Int32 → Nat → Int32 → Int32 → St → Nat × Int32 × St
  | 0, _, _, _, _, γ => (0, 0, γ)
  | k40 + 1, a2, n3, a4, a5, γ => if (gV γ 7 0 6) ≤ a5 then (x_X7_withdraw_101 a4 (x_X5_markWithdrawn n3 a2 γ)) else (oc ((x_X7_boutAt a5 γ)) (x_X7_withdraw_90 (x_X7_withdraw_40 k40) a2 n3 a4 a5 γ) (fun b34 => if ((x_X0_has b34 a2 γ)) = 0 then (x_X7_withdraw_90 (x_X7_withdraw_40 k40) a2 n3 a4 a5 γ) else (if ((x_X5_counts n3 b34 γ)) = 0 then (x_X7_withdraw_90 (x_X7_withdraw_40 k40) a2 n3 a4 a5 γ) else (x_X7_withdraw_87 (x_X7_withdraw_40 k40) a2 n3 a4 a5 (x_X5_enter n3 b34 ((-1)) γ)))))
def ok_X7_withdraw_40 : Nat → Int32 → Nat → Int32 → Int32 → St → Prop
  | 0, _, _, _, _, _ => False
  | k40 + 1, a2, n3, a4, a5, γ => if (gV γ 7 0 6) ≤ a5 then (ok_X7_withdraw_101 a4 (x_X5_markWithdrawn n3 a2 γ)) else (ok_X7_boutAt a5 γ ∧ (oc ((x_X7_boutAt a5 γ)) (ok_X7_withdraw_90 (ok_X7_withdraw_40 k40) a2 n3 a4 a5 γ) (fun b34 => if ((x_X0_has b34 a2 γ)) = 0 then (ok_X7_withdraw_90 (ok_X7_withdraw_40 k40) a2 n3 a4 a5 γ) else (if ((x_X5_counts n3 b34 γ)) = 0 then (ok_X7_withdraw_90 (ok_X7_withdraw_40 k40) a2 n3 a4 a5 γ) else (ok_X5_enter n3 b34 ((-1)) γ ∧ (ok_X7_withdraw_87 (ok_X7_withdraw_40 k40) a2 n3 a4 a5 (x_X5_enter n3 b34 ((-1)) γ)))))))
def x_X7_withdraw (y1 : Int32) (y2 : Int32) (γ : St) : Nat × Int32 × St := if (x_X7_poolWith y1 y2 γ).1 = 0 then (if ((x_X5_isWithdrawn ((x_X7_poolWith y1 y2 γ).2.1) y2 (x_X7_poolWith y1 y2 γ).2.2)) = 0 then (if ((x_X7_isBusyFor ((x_X7_poolWith y1 y2 γ).2.1) y2 (x_X7_poolWith y1 y2 γ).2.2)) = 0 then (x_X7_withdraw_40 fu y2 ((x_X7_poolWith y1 y2 γ).2.1) 0 0 (x_X7_poolWith y1 y2 γ).2.2) else (x_X7_withdraw_24 (x_X7_poolWith y1 y2 γ).2.2)) else (x_X7_withdraw_24 (x_X7_poolWith y1 y2 γ).2.2)) else ((x_X7_poolWith y1 y2 γ).1, 0, (x_X7_poolWith y1 y2 γ).2.2)
def ok_X7_withdraw (y1 : Int32) (y2 : Int32) (γ : St) : Prop := ok_X7_poolWith y1 y2 γ ∧ (if (x_X7_poolWith y1 y2 γ).1 = 0 then (if ((x_X5_isWithdrawn ((x_X7_poolWith y1 y2 γ).2.1) y2 (x_X7_poolWith y1 y2 γ).2.2)) = 0 then (ok_X7_isBusyFor ((x_X7_poolWith y1 y2 γ).2.1) y2 (x_X7_poolWith y1 y2 γ).2.2 ∧ (if ((x_X7_isBusyFor ((x_X7_poolWith y1 y2 γ).2.1) y2 (x_X7_poolWith y1 y2 γ).2.2)) = 0 then (ok_X7_withdraw_40 fu y2 ((x_X7_poolWith y1 y2 γ).2.1) 0 0 (x_X7_poolWith y1 y2 γ).2.2) else (ok_X7_withdraw_24 (x_X7_poolWith y1 y2 γ).2.2))) else (ok_X7_withdraw_24 (x_X7_poolWith y1 y2 γ).2.2)) else True)
-- X7_tableau
def x_X7_tableau_46 (γ : St) : Nat × Int32 × St := (0, gV γ 1 0 2, γ)
def ok_X7_tableau_46 (γ : St) : Prop := True
def x_X7_tableau (y1 : Int32) (γ : St) : Nat × Int32 × St := oc ((x_X7_poolOf y1 γ)) ((3, 0, γ)) (fun b17 => if 2 ≤ ((x_X5_rankedCount b17 γ)) then (x_X7_tableau_46 (x_X1_makeFrom b17 γ)) else ((1, 0, γ)))
def ok_X7_tableau (y1 : Int32) (γ : St) : Prop := ok_X7_poolOf y1 γ ∧ (oc ((x_X7_poolOf y1 γ)) True (fun b17 => if 2 ≤ ((x_X5_rankedCount b17 γ)) then (ok_X1_makeFrom b17 γ ∧ (ok_X7_tableau_46 (x_X1_makeFrom b17 γ))) else True))
-- X7_checkMatch
def x_X7_checkMatch (y1 : Int32) (y2 : Int32) (γ : St) : Nat × St := if ((x_X1_hasMatch y1 y2 γ)) = 0 then ((3, γ)) else ((0, γ))
-- X7_wins
def x_X7_wins (y1 : Int32) (y2 : Int32) (y3 : Int32) (γ : St) : Nat × Int32 × St := if (x_X7_checkMatch y1 y2 γ).1 = 0 then (if ((x_X7_isSide y3 (x_X7_checkMatch y1 y2 γ).2)) = 0 then ((2, 0, (x_X7_checkMatch y1 y2 γ).2)) else (if ((x_X1_isOpen y1 y2 (x_X7_checkMatch y1 y2 γ).2)) = 0 then ((1, 0, (x_X7_checkMatch y1 y2 γ).2)) else ((0, (x_X1_settle y1 y2 y3 (x_X7_checkMatch y1 y2 γ).2).1, (x_X1_settle y1 y2 y3 (x_X7_checkMatch y1 y2 γ).2).2)))) else ((x_X7_checkMatch y1 y2 γ).1, 0, (x_X7_checkMatch y1 y2 γ).2)
def ok_X7_wins (y1 : Int32) (y2 : Int32) (y3 : Int32) (γ : St) : Prop := if (x_X7_checkMatch y1 y2 γ).1 = 0 then (if ((x_X7_isSide y3 (x_X7_checkMatch y1 y2 γ).2)) = 0 then True else (ok_X1_isOpen y1 y2 (x_X7_checkMatch y1 y2 γ).2 ∧ (if ((x_X1_isOpen y1 y2 (x_X7_checkMatch y1 y2 γ).2)) = 0 then True else (ok_X1_settle y1 y2 y3 (x_X7_checkMatch y1 y2 γ).2 ∧ True)))) else True
-- X7_lamp
def x_X7_lamp (y1 : Int32) (γ : St) : Nat × Int32 × St := if ((x_X7_isSide y1 γ)) = 0 then ((2, 0, γ)) else (oc (gR γ 7 8) ((0, (-1), γ)) (fun b14 => oc (gR γ 7 8) ((0, 0, γ)) (fun b18 => (0, (x_X4_targetAt ((x_X4_registered y1 (gV γ 0 b18 2) γ)) γ), γ))))
def ok_X7_lamp (y1 : Int32) (γ : St) : Prop := if ((x_X7_isSide y1 γ)) = 0 then True else (oc (gR γ 7 8) True (fun b14 => oc (gR γ 7 8) False (fun b18 => ok_X4_registered y1 (gV γ 0 b18 2) γ ∧ (ok_X4_targetAt ((x_X4_registered y1 (gV γ 0 b18 2) γ)) γ ∧ True))))
-- X7_holder
def x_X7_holder (γ : St) : Int32 × St := ((x_X4_holderAhead (gV γ 4 0 6) γ).1, (x_X4_holderAhead (gV γ 4 0 6) γ).2)
def ok_X7_holder (γ : St) : Prop := ok_X4_holderAhead (gV γ 4 0 6) γ ∧ True
-- X7_reason
def x_X7_reason (γ : St) : Int32 := gV γ 7 0 9
-- X7_ofBout
def x_X7_ofBout (y1 : Int32) (y2 : Int32) (γ : St) : Nat × Int32 × St := oc ((x_X7_boutAt y1 γ)) ((3, 0, γ)) (fun b9 => if ((x_X7_isWithin y2 0 5 γ)) = 0 then ((2, 0, γ)) else ((0, (x_X0_told b9 y2 γ), γ)))
def ok_X7_ofBout (y1 : Int32) (y2 : Int32) (γ : St) : Prop := ok_X7_boutAt y1 γ ∧ (oc ((x_X7_boutAt y1 γ)) True (fun b9 => if ((x_X7_isWithin y2 0 5 γ)) = 0 then True else True))
-- X7_checkOfPool
def x_X7_checkOfPool (y0 : Int32) (γ : St) : Nat × St := if ((x_X7_isWithin y0 0 3 γ)) = 0 then ((2, γ)) else ((0, γ))
-- X7_ofPool
def x_X7_ofPool (y1 : Int32) (y2 : Int32) (y3 : Int32) (γ : St) : Nat × Int32 × St := if (x_X7_poolWith y1 y2 γ).1 = 0 then (if (x_X7_checkOfPool y3 (x_X7_poolWith y1 y2 γ).2.2).1 = 0 then ((0, (x_X5_kept ((x_X7_poolWith y1 y2 γ).2.1) y2 y3 (x_X7_checkOfPool y3 (x_X7_poolWith y1 y2 γ).2.2).2), (x_X7_checkOfPool y3 (x_X7_poolWith y1 y2 γ).2.2).2)) else ((x_X7_checkOfPool y3 (x_X7_poolWith y1 y2 γ).2.2).1, 0, (x_X7_checkOfPool y3 (x_X7_poolWith y1 y2 γ).2.2).2)) else ((x_X7_poolWith y1 y2 γ).1, 0, (x_X7_poolWith y1 y2 γ).2.2)
def ok_X7_ofPool (y1 : Int32) (y2 : Int32) (y3 : Int32) (γ : St) : Prop := ok_X7_poolWith y1 y2 γ ∧ (if (x_X7_poolWith y1 y2 γ).1 = 0 then (if (x_X7_checkOfPool y3 (x_X7_poolWith y1 y2 γ).2.2).1 = 0 then (ok_X5_kept ((x_X7_poolWith y1 y2 γ).2.1) y2 y3 (x_X7_checkOfPool y3 (x_X7_poolWith y1 y2 γ).2.2).2 ∧ True) else True) else True)
-- X7_ofPoolAnew
def x_X7_ofPoolAnew_76 (K18 : Int32 → Int32 → Nat → Int32 → Int32 → St → Nat × Int32 × St) (a2 : Int32) (a3 : Int32) (n4 : Nat) (a5 : Int32) (a6 : Int32) (γ : St) : Nat × Int32 × St := K18 a2 a3 n4 a5 (a6 + 1) γ
def ok_X7_ofPoolAnew_76 (J18 : Int32 → Int32 → Nat → Int32 → Int32 → St → Prop) (a2 : Int32) (a3 : Int32) (n4 : Nat) (a5 : Int32) (a6 : Int32) (γ : St) : Prop := J18 a2 a3 n4 a5 (a6 + 1) γ
def x_X7_ofPoolAnew_18 : Nat → Int32 → Int32 → Nat → Int32 → Int32 → St → Nat × Int32 × St
  | 0, _, _, _, _, _, γ => (0, 0, γ)
  | k18 + 1, a2, a3, n4, a5, a6, γ => if (gV γ 7 0 6) ≤ a6 then ((0, a5, γ)) else (oc ((x_X7_boutAt a6 γ)) (x_X7_ofPoolAnew_76 (x_X7_ofPoolAnew_18 k18) a2 a3 n4 a5 a6 γ) (fun b28 => if ((x_X0_has b28 a2 γ)) = 0 then (x_X7_ofPoolAnew_76 (x_X7_ofPoolAnew_18 k18) a2 a3 n4 a5 a6 γ) else (if ((x_X5_counts n4 b28 γ)) = 0 then (x_X7_ofPoolAnew_76 (x_X7_ofPoolAnew_18 k18) a2 a3 n4 a5 a6 γ) else (x_X7_ofPoolAnew_76 (x_X7_ofPoolAnew_18 k18) a2 a3 n4 (a5 + ((x_X0_share b28 ((x_X0_sideOf b28 a2 γ)) a3 γ))) a6 γ))))
def ok_X7_ofPoolAnew_18 : Nat → Int32 → Int32 → Nat → Int32 → Int32 → St → Prop
  | 0, _, _, _, _, _, _ => False
  | k18 + 1, a2, a3, n4, a5, a6, γ => if (gV γ 7 0 6) ≤ a6 then True else (ok_X7_boutAt a6 γ ∧ (oc ((x_X7_boutAt a6 γ)) (ok_X7_ofPoolAnew_76 (ok_X7_ofPoolAnew_18 k18) a2 a3 n4 a5 a6 γ) (fun b28 => if ((x_X0_has b28 a2 γ)) = 0 then (ok_X7_ofPoolAnew_76 (ok_X7_ofPoolAnew_18 k18) a2 a3 n4 a5 a6 γ) else (if ((x_X5_counts n4 b28 γ)) = 0 then (ok_X7_ofPoolAnew_76 (ok_X7_ofPoolAnew_18 k18) a2 a3 n4 a5 a6 γ) else (ok_X7_ofPoolAnew_76 (ok_X7_ofPoolAnew_18 k18) a2 a3 n4 (a5 + ((x_X0_share b28 ((x_X0_sideOf b28 a2 γ)) a3 γ))) a6 γ)))))
def x_X7_ofPoolAnew (y1 : Int32) (y2 : Int32) (y3 : Int32) (γ : St) : Nat × Int32 × St := if (x_X7_poolWith y1 y2 γ).1 = 0 then (if (x_X7_checkOfPool y3 (x_X7_poolWith y1 y2 γ).2.2).1 = 0 then (x_X7_ofPoolAnew_18 fu y2 y3 ((x_X7_poolWith y1 y2 γ).2.1) 0 0 (x_X7_checkOfPool y3 (x_X7_poolWith y1 y2 γ).2.2).2) else ((x_X7_checkOfPool y3 (x_X7_poolWith y1 y2 γ).2.2).1, 0, (x_X7_checkOfPool y3 (x_X7_poolWith y1 y2 γ).2.2).2)) else ((x_X7_poolWith y1 y2 γ).1, 0, (x_X7_poolWith y1 y2 γ).2.2)
def ok_X7_ofPoolAnew (y1 : Int32) (y2 : Int32) (y3 : Int32) (γ : St) : Prop := ok_X7_poolWith y1 y2 γ ∧ (if (x_X7_poolWith y1 y2 γ).1 = 0 then (if (x_X7_checkOfPool y3 (x_X7_poolWith y1 y2 γ).2.2).1 = 0 then (ok_X7_ofPoolAnew_18 fu y2 y3 ((x_X7_poolWith y1 y2 γ).2.1) 0 0 (x_X7_checkOfPool y3 (x_X7_poolWith y1 y2 γ).2.2).2) else True) else True)
-- X7_rank
def x_X7_rank_14 (γ : St) : Nat × Int32 × St := (3, 0, γ)
def ok_X7_rank_14 (γ : St) : Prop := True
def x_X7_rank_29 (a2 : Int32) (n3 : Nat) (γ : St) : Nat × Int32 × St := (0, (x_X5_rankedAt n3 a2 γ), γ)
def ok_X7_rank_29 (a2 : Int32) (n3 : Nat) (γ : St) : Prop := ok_X5_rankedAt n3 a2 γ ∧ True
def x_X7_rank (y1 : Int32) (y2 : Int32) (γ : St) : Nat × Int32 × St := oc ((x_X7_poolOf y1 γ)) (x_X7_rank_14 γ) (fun b20 => if 0 ≤ y2 then (x_X7_rank_29 y2 b20 (x_X5_orderRanked b20 γ)) else (x_X7_rank_14 γ))
def ok_X7_rank (y1 : Int32) (y2 : Int32) (γ : St) : Prop := ok_X7_poolOf y1 γ ∧ (oc ((x_X7_poolOf y1 γ)) (ok_X7_rank_14 γ) (fun b20 => if 0 ≤ y2 then (ok_X5_orderRanked b20 γ ∧ (ok_X7_rank_29 y2 b20 (x_X5_orderRanked b20 γ))) else (ok_X7_rank_14 γ)))
-- X7_meets
def x_X7_meets (y1 : Int32) (y2 : Int32) (y3 : Int32) (γ : St) : Nat × Int32 × St := if (x_X7_checkMatch y1 y2 γ).1 = 0 then (if ((x_X7_isWithin y3 0 2 (x_X7_checkMatch y1 y2 γ).2)) = 0 then ((2, 0, (x_X7_checkMatch y1 y2 γ).2)) else (if y3 = 2 then ((0, (x_X1_winnerOf y1 y2 (x_X7_checkMatch y1 y2 γ).2), (x_X7_checkMatch y1 y2 γ).2)) else ((0, (x_X1_fencerIn y1 y2 y3 (x_X7_checkMatch y1 y2 γ).2), (x_X7_checkMatch y1 y2 γ).2)))) else ((x_X7_checkMatch y1 y2 γ).1, 0, (x_X7_checkMatch y1 y2 γ).2)
def ok_X7_meets (y1 : Int32) (y2 : Int32) (y3 : Int32) (γ : St) : Prop := if (x_X7_checkMatch y1 y2 γ).1 = 0 then (if ((x_X7_isWithin y3 0 2 (x_X7_checkMatch y1 y2 γ).2)) = 0 then True else (if y3 = 2 then (ok_X1_winnerOf y1 y2 (x_X7_checkMatch y1 y2 γ).2 ∧ True) else (ok_X1_fencerIn y1 y2 y3 (x_X7_checkMatch y1 y2 γ).2 ∧ True))) else True
-- X8_thrown
def x_X8_thrown (γ : St) : Int32 := gV γ 8 0 31
-- X8_isIn
def x_X8_isIn_14 (γ : St) : Int32 := 0
def x_X8_isIn (y0 : Int32) (y1 : Int32) (y2 : Int32) (γ : St) : Int32 := if y0 < y1 then (x_X8_isIn_14 γ) else (if y2 < y0 then (x_X8_isIn_14 γ) else 1)
-- X8_isFencer
def x_X8_isFencer (y1 : Int32) (γ : St) : Int32 := zN ((x_X8_isIn y1 0 ((gV γ 8 0 0) - 1) γ))
-- X8_isPool
def x_X8_isPool (y1 : Int32) (γ : St) : Int32 := zN ((x_X8_isIn y1 0 ((gV γ 8 0 23) - 1) γ))
-- X8_has
def x_X8_has (y0 : Int32) (y1 : Int32) (γ : St) : Int32 := if ((y0 >>> (y1 &&& 31)) &&& 1) = 1 then 1 else 0
-- X8_fencer
def x_X8_fencer_15 (s0 : Int32) (γ : St) : Int32 × St := if s0 ≤ 0 then ((((gV γ 8 0 0) + 1) - 1, (sV (sV γ 8 0 31 s0) 8 0 0 ((gV γ 8 0 0) + 1)))) else ((0, (sV γ 8 0 31 s0)))
def x_X8_fencer (γ : St) : Int32 × St := if (gV γ 8 0 0) = 12 then (x_X8_fencer_15 1 γ) else (x_X8_fencer_15 0 γ)
-- X8_begin
def x_X8_begin_299 : Nat → Int32 → St → Int32 × St
  | 0, _, γ => (0, γ)
  | k299 + 1, a8, γ => if 2 ≤ a8 then ((gV γ 8 0 4, (sV (sV γ 8 0 17 0) 8 0 3 ((gV γ 8 0 3) + 1)))) else ((x_X8_begin_299 k299) (a8 + 1) (sV (sV γ 29 0 ((a8 : Int32).toNatClampNeg) 0) 30 0 ((a8 : Int32).toNatClampNeg) (vp_nar .boolean 0)))
def ok_X8_begin_299 : Nat → Int32 → St → Prop
  | 0, _, _ => False
  | k299 + 1, a8, γ => if 2 ≤ a8 then True else (vp_in a8 2 ∧ (vp_in a8 2 ∧ ((ok_X8_begin_299 k299) (a8 + 1) (sV (sV γ 29 0 ((a8 : Int32).toNatClampNeg) 0) 30 0 ((a8 : Int32).toNatClampNeg) (vp_nar .boolean 0)))))
def x_X8_begin_193 (a1 : Int32) (a2 : Int32) (a3 : Int32) (a4 : Int32) (a5 : Int32) (s0 : Int32) (γ : St) : Int32 × St := if s0 ≤ 0 then (x_X8_begin_299 fu 0 (sV (sV (sV (sV (sV (sV (sV (sV (sV (sV γ 8 0 31 s0) 20 0 ((2 * (gV γ 8 0 3) : Int32).toNatClampNeg) a1) 20 0 (((2 * (gV γ 8 0 3)) + 1 : Int32).toNatClampNeg) a2) 22 0 ((gV γ 8 0 3 : Int32).toNatClampNeg) a3) 23 0 ((gV γ 8 0 3 : Int32).toNatClampNeg) a4) 24 0 ((gV γ 8 0 3 : Int32).toNatClampNeg) a5) 25 0 ((gV γ 8 0 3 : Int32).toNatClampNeg) ((-1))) 28 0 ((gV γ 8 0 3 : Int32).toNatClampNeg) ((-1))) 8 0 4 (gV γ 8 0 3)) 8 0 14 0)) else ((0, (sV γ 8 0 31 s0)))
def ok_X8_begin_193 (a1 : Int32) (a2 : Int32) (a3 : Int32) (a4 : Int32) (a5 : Int32) (s0 : Int32) (γ : St) : Prop := if s0 ≤ 0 then (vp_in (2 * (gV γ 8 0 3)) 160 ∧ (vp_in ((2 * (gV γ 8 0 3)) + 1) 160 ∧ (vp_in (gV γ 8 0 3) 80 ∧ (vp_in (gV γ 8 0 3) 80 ∧ (vp_in (gV γ 8 0 3) 80 ∧ (vp_in (gV γ 8 0 3) 80 ∧ (vp_in (gV γ 8 0 3) 80 ∧ (ok_X8_begin_299 fu 0 (sV (sV (sV (sV (sV (sV (sV (sV (sV (sV γ 8 0 31 s0) 20 0 ((2 * (gV γ 8 0 3) : Int32).toNatClampNeg) a1) 20 0 (((2 * (gV γ 8 0 3)) + 1 : Int32).toNatClampNeg) a2) 22 0 ((gV γ 8 0 3 : Int32).toNatClampNeg) a3) 23 0 ((gV γ 8 0 3 : Int32).toNatClampNeg) a4) 24 0 ((gV γ 8 0 3 : Int32).toNatClampNeg) a5) 25 0 ((gV γ 8 0 3 : Int32).toNatClampNeg) ((-1))) 28 0 ((gV γ 8 0 3 : Int32).toNatClampNeg) ((-1))) 8 0 4 (gV γ 8 0 3)) 8 0 14 0))))))))) else True
def x_X8_begin_162 (a1 : Int32) (a2 : Int32) (a3 : Int32) (a4 : Int32) (a5 : Int32) (γ : St) : Int32 × St := x_X8_begin_193 a1 a2 a3 a4 a5 2 γ
def ok_X8_begin_162 (a1 : Int32) (a2 : Int32) (a3 : Int32) (a4 : Int32) (a5 : Int32) (γ : St) : Prop := ok_X8_begin_193 a1 a2 a3 a4 a5 2 γ
def x_X8_begin_188 (a1 : Int32) (a2 : Int32) (a3 : Int32) (a4 : Int32) (a5 : Int32) (γ : St) : Int32 × St := x_X8_begin_193 a1 a2 a3 a4 a5 3 γ
def ok_X8_begin_188 (a1 : Int32) (a2 : Int32) (a3 : Int32) (a4 : Int32) (a5 : Int32) (γ : St) : Prop := ok_X8_begin_193 a1 a2 a3 a4 a5 3 γ
def x_X8_begin_129 (a1 : Int32) (a2 : Int32) (a3 : Int32) (a4 : Int32) (a5 : Int32) (a6 : Int32) (s0 : Int32) (γ : St) : Int32 × St := if a1 = a2 then (x_X8_begin_162 a1 a2 a3 a4 a5 γ) else (if ((x_X8_isIn a3 0 2 γ)) = 0 then (x_X8_begin_162 a1 a2 a3 a4 a5 γ) else (if ((x_X8_isIn a4 1 45 γ)) = 0 then (x_X8_begin_162 a1 a2 a3 a4 a5 γ) else (if a6 = 0 then (x_X8_begin_162 a1 a2 a3 a4 a5 γ) else (if (gV γ 8 0 4) = ((-1)) then (if s0 = 0 then (x_X8_begin_188 a1 a2 a3 a4 a5 γ) else (if (gV γ 8 0 3) = 80 then (x_X8_begin_188 a1 a2 a3 a4 a5 γ) else (x_X8_begin_193 a1 a2 a3 a4 a5 0 γ))) else (x_X8_begin_188 a1 a2 a3 a4 a5 γ)))))
def ok_X8_begin_129 (a1 : Int32) (a2 : Int32) (a3 : Int32) (a4 : Int32) (a5 : Int32) (a6 : Int32) (s0 : Int32) (γ : St) : Prop := if a1 = a2 then (ok_X8_begin_162 a1 a2 a3 a4 a5 γ) else (if ((x_X8_isIn a3 0 2 γ)) = 0 then (ok_X8_begin_162 a1 a2 a3 a4 a5 γ) else (if ((x_X8_isIn a4 1 45 γ)) = 0 then (ok_X8_begin_162 a1 a2 a3 a4 a5 γ) else (if a6 = 0 then (ok_X8_begin_162 a1 a2 a3 a4 a5 γ) else (if (gV γ 8 0 4) = ((-1)) then (if s0 = 0 then (ok_X8_begin_188 a1 a2 a3 a4 a5 γ) else (if (gV γ 8 0 3) = 80 then (ok_X8_begin_188 a1 a2 a3 a4 a5 γ) else (ok_X8_begin_193 a1 a2 a3 a4 a5 0 γ))) else (ok_X8_begin_188 a1 a2 a3 a4 a5 γ)))))
def x_X8_begin_124 (a1 : Int32) (a2 : Int32) (a3 : Int32) (a4 : Int32) (a5 : Int32) (a6 : Int32) (γ : St) : Int32 × St := x_X8_begin_129 a1 a2 a3 a4 a5 a6 1 γ
def ok_X8_begin_124 (a1 : Int32) (a2 : Int32) (a3 : Int32) (a4 : Int32) (a5 : Int32) (a6 : Int32) (γ : St) : Prop := ok_X8_begin_129 a1 a2 a3 a4 a5 a6 1 γ
def x_X8_begin_128 (a1 : Int32) (a2 : Int32) (a3 : Int32) (a4 : Int32) (a5 : Int32) (a6 : Int32) (γ : St) : Int32 × St := x_X8_begin_129 a1 a2 a3 a4 a5 a6 0 γ
def ok_X8_begin_128 (a1 : Int32) (a2 : Int32) (a3 : Int32) (a4 : Int32) (a5 : Int32) (a6 : Int32) (γ : St) : Prop := ok_X8_begin_129 a1 a2 a3 a4 a5 a6 0 γ
def x_X8_begin_88 (a1 : Int32) (a2 : Int32) (a3 : Int32) (a4 : Int32) (a5 : Int32) (s0 : Int32) (γ : St) : Int32 × St := if a5 = ((-1)) then (x_X8_begin_124 a1 a2 a3 a4 a5 s0 γ) else (if ((x_X8_has (gV γ 37 0 ((a5 : Int32).toNatClampNeg)) a1 γ)) = 0 then (if ((x_X8_has (gV γ 37 0 ((a5 : Int32).toNatClampNeg)) a2 γ)) = 0 then (x_X8_begin_124 a1 a2 a3 a4 a5 s0 γ) else (x_X8_begin_128 a1 a2 a3 a4 a5 s0 γ)) else (x_X8_begin_128 a1 a2 a3 a4 a5 s0 γ))
def ok_X8_begin_88 (a1 : Int32) (a2 : Int32) (a3 : Int32) (a4 : Int32) (a5 : Int32) (s0 : Int32) (γ : St) : Prop := if a5 = ((-1)) then (ok_X8_begin_124 a1 a2 a3 a4 a5 s0 γ) else (vp_in a5 6 ∧ (if ((x_X8_has (gV γ 37 0 ((a5 : Int32).toNatClampNeg)) a1 γ)) = 0 then (vp_in a5 6 ∧ (if ((x_X8_has (gV γ 37 0 ((a5 : Int32).toNatClampNeg)) a2 γ)) = 0 then (ok_X8_begin_124 a1 a2 a3 a4 a5 s0 γ) else (ok_X8_begin_128 a1 a2 a3 a4 a5 s0 γ))) else (ok_X8_begin_128 a1 a2 a3 a4 a5 s0 γ)))
def x_X8_begin_83 (a1 : Int32) (a2 : Int32) (a3 : Int32) (a4 : Int32) (a5 : Int32) (γ : St) : Int32 × St := x_X8_begin_88 a1 a2 a3 a4 a5 1 γ
def ok_X8_begin_83 (a1 : Int32) (a2 : Int32) (a3 : Int32) (a4 : Int32) (a5 : Int32) (γ : St) : Prop := ok_X8_begin_88 a1 a2 a3 a4 a5 1 γ
def x_X8_begin_87 (a1 : Int32) (a2 : Int32) (a3 : Int32) (a4 : Int32) (a5 : Int32) (γ : St) : Int32 × St := x_X8_begin_88 a1 a2 a3 a4 a5 0 γ
def ok_X8_begin_87 (a1 : Int32) (a2 : Int32) (a3 : Int32) (a4 : Int32) (a5 : Int32) (γ : St) : Prop := ok_X8_begin_88 a1 a2 a3 a4 a5 0 γ
def x_X8_begin_37 (a1 : Int32) (a2 : Int32) (a3 : Int32) (a4 : Int32) (a5 : Int32) (s0 : Int32) (γ : St) : Int32 × St := if s0 ≤ 0 then (if a5 = ((-1)) then (x_X8_begin_83 a1 a2 a3 a4 a5 (sV γ 8 0 31 s0)) else (if ((x_X8_has (gV γ 36 0 ((a5 : Int32).toNatClampNeg)) a1 (sV γ 8 0 31 s0))) = 0 then (x_X8_begin_87 a1 a2 a3 a4 a5 (sV γ 8 0 31 s0)) else (if ((x_X8_has (gV γ 36 0 ((a5 : Int32).toNatClampNeg)) a2 (sV γ 8 0 31 s0))) = 0 then (x_X8_begin_87 a1 a2 a3 a4 a5 (sV γ 8 0 31 s0)) else (x_X8_begin_83 a1 a2 a3 a4 a5 (sV γ 8 0 31 s0))))) else ((0, (sV γ 8 0 31 s0)))
def ok_X8_begin_37 (a1 : Int32) (a2 : Int32) (a3 : Int32) (a4 : Int32) (a5 : Int32) (s0 : Int32) (γ : St) : Prop := if s0 ≤ 0 then (if a5 = ((-1)) then (ok_X8_begin_83 a1 a2 a3 a4 a5 (sV γ 8 0 31 s0)) else (vp_in a5 6 ∧ (if ((x_X8_has (gV γ 36 0 ((a5 : Int32).toNatClampNeg)) a1 (sV γ 8 0 31 s0))) = 0 then (ok_X8_begin_87 a1 a2 a3 a4 a5 (sV γ 8 0 31 s0)) else (vp_in a5 6 ∧ (if ((x_X8_has (gV γ 36 0 ((a5 : Int32).toNatClampNeg)) a2 (sV γ 8 0 31 s0))) = 0 then (ok_X8_begin_87 a1 a2 a3 a4 a5 (sV γ 8 0 31 s0)) else (ok_X8_begin_83 a1 a2 a3 a4 a5 (sV γ 8 0 31 s0))))))) else True
def x_X8_begin_32 (a1 : Int32) (a2 : Int32) (a3 : Int32) (a4 : Int32) (a5 : Int32) (γ : St) : Int32 × St := x_X8_begin_37 a1 a2 a3 a4 a5 1 γ
def ok_X8_begin_32 (a1 : Int32) (a2 : Int32) (a3 : Int32) (a4 : Int32) (a5 : Int32) (γ : St) : Prop := ok_X8_begin_37 a1 a2 a3 a4 a5 1 γ
def x_X8_begin_36 (a1 : Int32) (a2 : Int32) (a3 : Int32) (a4 : Int32) (a5 : Int32) (γ : St) : Int32 × St := x_X8_begin_37 a1 a2 a3 a4 a5 0 γ
def ok_X8_begin_36 (a1 : Int32) (a2 : Int32) (a3 : Int32) (a4 : Int32) (a5 : Int32) (γ : St) : Prop := ok_X8_begin_37 a1 a2 a3 a4 a5 0 γ
def x_X8_begin (y1 : Int32) (y2 : Int32) (y3 : Int32) (y4 : Int32) (y5 : Int32) (γ : St) : Int32 × St := if ((x_X8_isFencer y1 γ)) = 0 then (x_X8_begin_32 y1 y2 y3 y4 y5 γ) else (if ((x_X8_isFencer y2 γ)) = 0 then (x_X8_begin_32 y1 y2 y3 y4 y5 γ) else (if y5 = ((-1)) then (x_X8_begin_36 y1 y2 y3 y4 y5 γ) else (if ((x_X8_isPool y5 γ)) = 0 then (x_X8_begin_32 y1 y2 y3 y4 y5 γ) else (x_X8_begin_36 y1 y2 y3 y4 y5 γ))))
def ok_X8_begin (y1 : Int32) (y2 : Int32) (y3 : Int32) (y4 : Int32) (y5 : Int32) (γ : St) : Prop := if ((x_X8_isFencer y1 γ)) = 0 then (ok_X8_begin_32 y1 y2 y3 y4 y5 γ) else (if ((x_X8_isFencer y2 γ)) = 0 then (ok_X8_begin_32 y1 y2 y3 y4 y5 γ) else (if y5 = ((-1)) then (ok_X8_begin_36 y1 y2 y3 y4 y5 γ) else (if ((x_X8_isPool y5 γ)) = 0 then (ok_X8_begin_32 y1 y2 y3 y4 y5 γ) else (ok_X8_begin_36 y1 y2 y3 y4 y5 γ))))
-- X8_puts
def x_X8_puts (y1 : Int32) (y2 : Int32) (y3 : Int32) (γ : St) : Int32 × St := ((gV γ 8 0 17) + 1, (sV (sV (sV (sV γ 31 0 ((gV γ 8 0 17 : Int32).toNatClampNeg) y1) 32 0 ((gV γ 8 0 17 : Int32).toNatClampNeg) y2) 33 0 ((gV γ 8 0 17 : Int32).toNatClampNeg) y3) 8 0 17 ((gV γ 8 0 17) + 1)))
def ok_X8_puts (y1 : Int32) (y2 : Int32) (y3 : Int32) (γ : St) : Prop := vp_in (gV γ 8 0 17) 24 ∧ (vp_in (gV γ 8 0 17) 24 ∧ (vp_in (gV γ 8 0 17) 24 ∧ True))
-- X8_may
def x_X8_may_43 (γ : St) : Int32 := 0
def ok_X8_may_43 (γ : St) : Prop := True
def x_X8_may_39 (γ : St) : Int32 := 1
def ok_X8_may_39 (γ : St) : Prop := True
def x_X8_may (y1 : Int32) (γ : St) : Int32 := if (gV γ 8 0 4) = ((-1)) then (x_X8_may_43 γ) else (if 24 ≤ (gV γ 8 0 17) then (x_X8_may_43 γ) else (if (gV γ 8 0 17) = 0 then (x_X8_may_39 γ) else (if y1 < (gV γ 33 0 (((gV γ 8 0 17) - 1 : Int32).toNatClampNeg)) then (x_X8_may_43 γ) else (x_X8_may_39 γ))))
def ok_X8_may (y1 : Int32) (γ : St) : Prop := if (gV γ 8 0 4) = ((-1)) then (ok_X8_may_43 γ) else (if 24 ≤ (gV γ 8 0 17) then (ok_X8_may_43 γ) else (if (gV γ 8 0 17) = 0 then (ok_X8_may_39 γ) else (vp_in ((gV γ 8 0 17) - 1) 24 ∧ (if y1 < (gV γ 33 0 (((gV γ 8 0 17) - 1 : Int32).toNatClampNeg)) then (ok_X8_may_43 γ) else (ok_X8_may_39 γ)))))
-- X8_isSide
def x_X8_isSide (y0 : Int32) (γ : St) : Int32 := zN ((x_X8_isIn y0 0 1 γ))
-- X8_act
def x_X8_act_45 (a1 : Int32) (a2 : Int32) (a3 : Int32) (s0 : Int32) (γ : St) : Int32 × St := if s0 ≤ 0 then (((x_X8_puts a1 a2 a3 (sV γ 8 0 31 s0)).1, (x_X8_puts a1 a2 a3 (sV γ 8 0 31 s0)).2)) else ((0, (sV γ 8 0 31 s0)))
def ok_X8_act_45 (a1 : Int32) (a2 : Int32) (a3 : Int32) (s0 : Int32) (γ : St) : Prop := if s0 ≤ 0 then (ok_X8_puts a1 a2 a3 (sV γ 8 0 31 s0) ∧ True) else True
def x_X8_act_28 (a1 : Int32) (a2 : Int32) (a3 : Int32) (γ : St) : Int32 × St := x_X8_act_45 a1 a2 a3 1 γ
def ok_X8_act_28 (a1 : Int32) (a2 : Int32) (a3 : Int32) (γ : St) : Prop := ok_X8_act_45 a1 a2 a3 1 γ
def x_X8_act (y1 : Int32) (y2 : Int32) (y3 : Int32) (γ : St) : Int32 × St := if ((x_X8_isSide y1 γ)) = 0 then (x_X8_act_28 y1 y2 y3 γ) else (if ((x_X8_isIn y2 0 6 γ)) = 0 then (x_X8_act_28 y1 y2 y3 γ) else (if ((x_X8_isIn y3 0 1000000 γ)) = 0 then (x_X8_act_28 y1 y2 y3 γ) else (if ((x_X8_may y3 γ)) = 0 then (x_X8_act_45 y1 y2 y3 2 γ) else (x_X8_act_45 y1 y2 y3 0 γ))))
def ok_X8_act (y1 : Int32) (y2 : Int32) (y3 : Int32) (γ : St) : Prop := if ((x_X8_isSide y1 γ)) = 0 then (ok_X8_act_28 y1 y2 y3 γ) else (if ((x_X8_isIn y2 0 6 γ)) = 0 then (ok_X8_act_28 y1 y2 y3 γ) else (if ((x_X8_isIn y3 0 1000000 γ)) = 0 then (ok_X8_act_28 y1 y2 y3 γ) else (ok_X8_may y3 γ ∧ (if ((x_X8_may y3 γ)) = 0 then (ok_X8_act_45 y1 y2 y3 2 γ) else (ok_X8_act_45 y1 y2 y3 0 γ)))))
-- X8_hit
def x_X8_hit_56 (a1 : Int32) (a2 : Int32) (a3 : Int32) (a4 : Int32) (s0 : Int32) (γ : St) : Int32 × St := if s0 ≤ 0 then (((x_X8_puts a1 7 a2 (sV (sV (sV γ 8 0 31 s0) 34 0 ((gV γ 8 0 17 : Int32).toNatClampNeg) a3) 35 0 ((gV γ 8 0 17 : Int32).toNatClampNeg) a4)).1, (x_X8_puts a1 7 a2 (sV (sV (sV γ 8 0 31 s0) 34 0 ((gV γ 8 0 17 : Int32).toNatClampNeg) a3) 35 0 ((gV γ 8 0 17 : Int32).toNatClampNeg) a4)).2)) else ((0, (sV γ 8 0 31 s0)))
def ok_X8_hit_56 (a1 : Int32) (a2 : Int32) (a3 : Int32) (a4 : Int32) (s0 : Int32) (γ : St) : Prop := if s0 ≤ 0 then (vp_in (gV γ 8 0 17) 24 ∧ (vp_in (gV γ 8 0 17) 24 ∧ (ok_X8_puts a1 7 a2 (sV (sV (sV γ 8 0 31 s0) 34 0 ((gV γ 8 0 17 : Int32).toNatClampNeg) a3) 35 0 ((gV γ 8 0 17 : Int32).toNatClampNeg) a4) ∧ True))) else True
def x_X8_hit_39 (a1 : Int32) (a2 : Int32) (a3 : Int32) (a4 : Int32) (γ : St) : Int32 × St := x_X8_hit_56 a1 a2 a3 a4 1 γ
def ok_X8_hit_39 (a1 : Int32) (a2 : Int32) (a3 : Int32) (a4 : Int32) (γ : St) : Prop := ok_X8_hit_56 a1 a2 a3 a4 1 γ
def x_X8_hit (y1 : Int32) (y2 : Int32) (y3 : Int32) (y4 : Int32) (γ : St) : Int32 × St := if ((x_X8_isSide y1 γ)) = 0 then (x_X8_hit_39 y1 y2 y3 y4 γ) else (if ((x_X8_isIn y2 0 1000000 γ)) = 0 then (x_X8_hit_39 y1 y2 y3 y4 γ) else (if ((x_X8_isIn y3 0 1000 γ)) = 0 then (x_X8_hit_39 y1 y2 y3 y4 γ) else (if ((x_X8_isIn y4 0 2 γ)) = 0 then (x_X8_hit_39 y1 y2 y3 y4 γ) else (if ((x_X8_may y2 γ)) = 0 then (x_X8_hit_56 y1 y2 y3 y4 2 γ) else (x_X8_hit_56 y1 y2 y3 y4 0 γ)))))
def ok_X8_hit (y1 : Int32) (y2 : Int32) (y3 : Int32) (y4 : Int32) (γ : St) : Prop := if ((x_X8_isSide y1 γ)) = 0 then (ok_X8_hit_39 y1 y2 y3 y4 γ) else (if ((x_X8_isIn y2 0 1000000 γ)) = 0 then (ok_X8_hit_39 y1 y2 y3 y4 γ) else (if ((x_X8_isIn y3 0 1000 γ)) = 0 then (ok_X8_hit_39 y1 y2 y3 y4 γ) else (if ((x_X8_isIn y4 0 2 γ)) = 0 then (ok_X8_hit_39 y1 y2 y3 y4 γ) else (ok_X8_may y2 γ ∧ (if ((x_X8_may y2 γ)) = 0 then (ok_X8_hit_56 y1 y2 y3 y4 2 γ) else (ok_X8_hit_56 y1 y2 y3 y4 0 γ))))))
-- X8_least
def x_X8_least (y0 : Int32) (γ : St) : Int32 := if y0 = 0 then 14 else (if y0 = 1 then 2 else 1)
-- X8_locks
def x_X8_locks (y0 : Int32) (γ : St) : Int32 := if y0 = 0 then 300 else (if y0 = 1 then 45 else 170)
-- X8_registered
def x_X8_registered_210 (K28 : Int32 → Int32 → Int32 → Int32 → Int32 → St → Int32) (a1 : Int32) (a2 : Int32) (a3 : Int32) (a4 : Int32) (a5 : Int32) (γ : St) : Int32 := K28 a1 a2 a3 a4 (a5 + 1) γ
def ok_X8_registered_210 (J28 : Int32 → Int32 → Int32 → Int32 → Int32 → St → Prop) (a1 : Int32) (a2 : Int32) (a3 : Int32) (a4 : Int32) (a5 : Int32) (γ : St) : Prop := J28 a1 a2 a3 a4 (a5 + 1) γ
def x_X8_registered_208 (K28 : Int32 → Int32 → Int32 → Int32 → Int32 → St → Int32) (a1 : Int32) (a2 : Int32) (a3 : Int32) (a5 : Int32) (s0 : Int32) (γ : St) : Int32 := x_X8_registered_210 K28 a1 a2 a3 s0 a5 γ
def ok_X8_registered_208 (J28 : Int32 → Int32 → Int32 → Int32 → Int32 → St → Prop) (a1 : Int32) (a2 : Int32) (a3 : Int32) (a5 : Int32) (s0 : Int32) (γ : St) : Prop := ok_X8_registered_210 J28 a1 a2 a3 s0 a5 γ
def x_X8_registered_189 (K28 : Int32 → Int32 → Int32 → Int32 → Int32 → St → Int32) (a1 : Int32) (a2 : Int32) (a4 : Int32) (a5 : Int32) (s0 : Int32) (γ : St) : Int32 := if (gV γ 31 0 ((a5 : Int32).toNatClampNeg)) = 1 then (x_X8_registered_208 K28 a1 a2 s0 a5 a5 γ) else (x_X8_registered_208 K28 a1 a2 s0 a5 a4 γ)
def ok_X8_registered_189 (J28 : Int32 → Int32 → Int32 → Int32 → Int32 → St → Prop) (a1 : Int32) (a2 : Int32) (a4 : Int32) (a5 : Int32) (s0 : Int32) (γ : St) : Prop := vp_in a5 24 ∧ (if (gV γ 31 0 ((a5 : Int32).toNatClampNeg)) = 1 then (ok_X8_registered_208 J28 a1 a2 s0 a5 a5 γ) else (ok_X8_registered_208 J28 a1 a2 s0 a5 a4 γ))
def x_X8_registered_173 (K28 : Int32 → Int32 → Int32 → Int32 → Int32 → St → Int32) (a1 : Int32) (a2 : Int32) (a3 : Int32) (a4 : Int32) (a5 : Int32) (γ : St) : Int32 := if (gV γ 31 0 ((a5 : Int32).toNatClampNeg)) = 0 then (x_X8_registered_189 K28 a1 a2 a4 a5 a5 γ) else (x_X8_registered_189 K28 a1 a2 a4 a5 a3 γ)
def ok_X8_registered_173 (J28 : Int32 → Int32 → Int32 → Int32 → Int32 → St → Prop) (a1 : Int32) (a2 : Int32) (a3 : Int32) (a4 : Int32) (a5 : Int32) (γ : St) : Prop := vp_in a5 24 ∧ (if (gV γ 31 0 ((a5 : Int32).toNatClampNeg)) = 0 then (ok_X8_registered_189 J28 a1 a2 a4 a5 a5 γ) else (ok_X8_registered_189 J28 a1 a2 a4 a5 a3 γ))
def x_X8_registered_133 (K28 : Int32 → Int32 → Int32 → Int32 → Int32 → St → Int32) (a1 : Int32) (a2 : Int32) (a3 : Int32) (a4 : Int32) (a5 : Int32) (a6 : Int32) (a7 : Int32) (s0 : Int32) (γ : St) : Int32 := if a6 = 0 then (x_X8_registered_210 K28 a1 a2 a3 a4 a5 γ) else (if s0 = 0 then (x_X8_registered_210 K28 a1 a2 a3 a4 a5 γ) else (if a7 = ((-1)) then (x_X8_registered_173 K28 a1 a2 a3 a4 a5 γ) else (if ((x_X8_locks a2 γ)) < ((gV γ 33 0 ((a5 : Int32).toNatClampNeg)) - (gV γ 33 0 ((a7 : Int32).toNatClampNeg))) then (x_X8_registered_210 K28 a1 a2 a3 a4 a5 γ) else (x_X8_registered_173 K28 a1 a2 a3 a4 a5 γ))))
def ok_X8_registered_133 (J28 : Int32 → Int32 → Int32 → Int32 → Int32 → St → Prop) (a1 : Int32) (a2 : Int32) (a3 : Int32) (a4 : Int32) (a5 : Int32) (a6 : Int32) (a7 : Int32) (s0 : Int32) (γ : St) : Prop := if a6 = 0 then (ok_X8_registered_210 J28 a1 a2 a3 a4 a5 γ) else (if s0 = 0 then (ok_X8_registered_210 J28 a1 a2 a3 a4 a5 γ) else (if a7 = ((-1)) then (ok_X8_registered_173 J28 a1 a2 a3 a4 a5 γ) else (vp_in a5 24 ∧ (vp_in a7 24 ∧ (if ((x_X8_locks a2 γ)) < ((gV γ 33 0 ((a5 : Int32).toNatClampNeg)) - (gV γ 33 0 ((a7 : Int32).toNatClampNeg))) then (ok_X8_registered_210 J28 a1 a2 a3 a4 a5 γ) else (ok_X8_registered_173 J28 a1 a2 a3 a4 a5 γ))))))
def x_X8_registered_124 (K28 : Int32 → Int32 → Int32 → Int32 → Int32 → St → Int32) (a1 : Int32) (a2 : Int32) (a3 : Int32) (a4 : Int32) (a5 : Int32) (a6 : Int32) (a7 : Int32) (s0 : Int32) (γ : St) : Int32 := if s0 = ((-1)) then (x_X8_registered_133 K28 a1 a2 a3 a4 a5 a6 a7 1 γ) else (x_X8_registered_133 K28 a1 a2 a3 a4 a5 a6 a7 0 γ)
def ok_X8_registered_124 (J28 : Int32 → Int32 → Int32 → Int32 → Int32 → St → Prop) (a1 : Int32) (a2 : Int32) (a3 : Int32) (a4 : Int32) (a5 : Int32) (a6 : Int32) (a7 : Int32) (s0 : Int32) (γ : St) : Prop := if s0 = ((-1)) then (ok_X8_registered_133 J28 a1 a2 a3 a4 a5 a6 a7 1 γ) else (ok_X8_registered_133 J28 a1 a2 a3 a4 a5 a6 a7 0 γ)
def x_X8_registered_106 (K28 : Int32 → Int32 → Int32 → Int32 → Int32 → St → Int32) (a1 : Int32) (a2 : Int32) (a3 : Int32) (a4 : Int32) (a5 : Int32) (a6 : Int32) (s0 : Int32) (γ : St) : Int32 := if (gV γ 31 0 ((a5 : Int32).toNatClampNeg)) = 0 then (x_X8_registered_124 K28 a1 a2 a3 a4 a5 a6 s0 a3 γ) else (x_X8_registered_124 K28 a1 a2 a3 a4 a5 a6 s0 a4 γ)
def ok_X8_registered_106 (J28 : Int32 → Int32 → Int32 → Int32 → Int32 → St → Prop) (a1 : Int32) (a2 : Int32) (a3 : Int32) (a4 : Int32) (a5 : Int32) (a6 : Int32) (s0 : Int32) (γ : St) : Prop := vp_in a5 24 ∧ (if (gV γ 31 0 ((a5 : Int32).toNatClampNeg)) = 0 then (ok_X8_registered_124 J28 a1 a2 a3 a4 a5 a6 s0 a3 γ) else (ok_X8_registered_124 J28 a1 a2 a3 a4 a5 a6 s0 a4 γ))
def x_X8_registered_93 (K28 : Int32 → Int32 → Int32 → Int32 → Int32 → St → Int32) (a1 : Int32) (a2 : Int32) (a3 : Int32) (a4 : Int32) (a5 : Int32) (s0 : Int32) (γ : St) : Int32 := if a3 = ((-1)) then (x_X8_registered_106 K28 a1 a2 a3 a4 a5 s0 a4 γ) else (x_X8_registered_106 K28 a1 a2 a3 a4 a5 s0 a3 γ)
def ok_X8_registered_93 (J28 : Int32 → Int32 → Int32 → Int32 → Int32 → St → Prop) (a1 : Int32) (a2 : Int32) (a3 : Int32) (a4 : Int32) (a5 : Int32) (s0 : Int32) (γ : St) : Prop := if a3 = ((-1)) then (ok_X8_registered_106 J28 a1 a2 a3 a4 a5 s0 a4 γ) else (ok_X8_registered_106 J28 a1 a2 a3 a4 a5 s0 a3 γ)
def x_X8_registered_92 (K28 : Int32 → Int32 → Int32 → Int32 → Int32 → St → Int32) (a1 : Int32) (a2 : Int32) (a3 : Int32) (a4 : Int32) (a5 : Int32) (γ : St) : Int32 := x_X8_registered_93 K28 a1 a2 a3 a4 a5 0 γ
def ok_X8_registered_92 (J28 : Int32 → Int32 → Int32 → Int32 → Int32 → St → Prop) (a1 : Int32) (a2 : Int32) (a3 : Int32) (a4 : Int32) (a5 : Int32) (γ : St) : Prop := ok_X8_registered_93 J28 a1 a2 a3 a4 a5 0 γ
def x_X8_registered_88 (K28 : Int32 → Int32 → Int32 → Int32 → Int32 → St → Int32) (a1 : Int32) (a2 : Int32) (a3 : Int32) (a4 : Int32) (a5 : Int32) (γ : St) : Int32 := x_X8_registered_93 K28 a1 a2 a3 a4 a5 1 γ
def ok_X8_registered_88 (J28 : Int32 → Int32 → Int32 → Int32 → Int32 → St → Prop) (a1 : Int32) (a2 : Int32) (a3 : Int32) (a4 : Int32) (a5 : Int32) (γ : St) : Prop := ok_X8_registered_93 J28 a1 a2 a3 a4 a5 1 γ
def x_X8_registered_28 : Nat → Int32 → Int32 → Int32 → Int32 → Int32 → St → Int32
  | 0, _, _, _, _, _, _ => 0
  | k28 + 1, a1, a2, a3, a4, a5, γ => if (gV γ 8 0 17) ≤ a5 then (if a1 = 0 then a3 else a4) else (if (gV γ 32 0 ((a5 : Int32).toNatClampNeg)) = 7 then (if (gV γ 34 0 ((a5 : Int32).toNatClampNeg)) < ((x_X8_least a2 γ)) then (x_X8_registered_92 (x_X8_registered_28 k28) a1 a2 a3 a4 a5 γ) else (if (gV γ 35 0 ((a5 : Int32).toNatClampNeg)) = 0 then (x_X8_registered_88 (x_X8_registered_28 k28) a1 a2 a3 a4 a5 γ) else (if a2 = 0 then (if (gV γ 35 0 ((a5 : Int32).toNatClampNeg)) = 1 then (x_X8_registered_88 (x_X8_registered_28 k28) a1 a2 a3 a4 a5 γ) else (x_X8_registered_92 (x_X8_registered_28 k28) a1 a2 a3 a4 a5 γ)) else (x_X8_registered_92 (x_X8_registered_28 k28) a1 a2 a3 a4 a5 γ)))) else (x_X8_registered_92 (x_X8_registered_28 k28) a1 a2 a3 a4 a5 γ))
def ok_X8_registered_28 : Nat → Int32 → Int32 → Int32 → Int32 → Int32 → St → Prop
  | 0, _, _, _, _, _, _ => False
  | k28 + 1, a1, a2, a3, a4, a5, γ => if (gV γ 8 0 17) ≤ a5 then (if a1 = 0 then True else True) else (vp_in a5 24 ∧ (if (gV γ 32 0 ((a5 : Int32).toNatClampNeg)) = 7 then (vp_in a5 24 ∧ (if (gV γ 34 0 ((a5 : Int32).toNatClampNeg)) < ((x_X8_least a2 γ)) then (ok_X8_registered_92 (ok_X8_registered_28 k28) a1 a2 a3 a4 a5 γ) else (vp_in a5 24 ∧ (if (gV γ 35 0 ((a5 : Int32).toNatClampNeg)) = 0 then (ok_X8_registered_88 (ok_X8_registered_28 k28) a1 a2 a3 a4 a5 γ) else (if a2 = 0 then (vp_in a5 24 ∧ (if (gV γ 35 0 ((a5 : Int32).toNatClampNeg)) = 1 then (ok_X8_registered_88 (ok_X8_registered_28 k28) a1 a2 a3 a4 a5 γ) else (ok_X8_registered_92 (ok_X8_registered_28 k28) a1 a2 a3 a4 a5 γ))) else (ok_X8_registered_92 (ok_X8_registered_28 k28) a1 a2 a3 a4 a5 γ)))))) else (ok_X8_registered_92 (ok_X8_registered_28 k28) a1 a2 a3 a4 a5 γ)))
def x_X8_registered (y1 : Int32) (γ : St) : Int32 := if (gV γ 8 0 4) = ((-1)) then ((-1)) else (x_X8_registered_28 fu y1 (gV γ 22 0 ((gV γ 8 0 4 : Int32).toNatClampNeg)) ((-1)) ((-1)) 0 γ)
def ok_X8_registered (y1 : Int32) (γ : St) : Prop := if (gV γ 8 0 4) = ((-1)) then True else (vp_in (gV γ 8 0 4) 80 ∧ (ok_X8_registered_28 fu y1 (gV γ 22 0 ((gV γ 8 0 4 : Int32).toNatClampNeg)) ((-1)) ((-1)) 0 γ))
-- X8_rights
def x_X8_rights_345 (K18 : Int32 → Int32 → Int32 → Int32 → Int32 → Int32 → St → Int32 × St) (a1 : Int32) (a2 : Int32) (a3 : Int32) (a4 : Int32) (a5 : Int32) (a6 : Int32) (γ : St) : Int32 × St := K18 a1 a2 a3 a4 a5 (a6 + 1) γ
def ok_X8_rights_345 (J18 : Int32 → Int32 → Int32 → Int32 → Int32 → Int32 → St → Prop) (a1 : Int32) (a2 : Int32) (a3 : Int32) (a4 : Int32) (a5 : Int32) (a6 : Int32) (γ : St) : Prop := J18 a1 a2 a3 a4 a5 (a6 + 1) γ
def x_X8_rights_150 (K18 : Int32 → Int32 → Int32 → Int32 → Int32 → Int32 → St → Int32 × St) (a1 : Int32) (a2 : Int32) (a3 : Int32) (a4 : Int32) (a5 : Int32) (a6 : Int32) (a7 : Int32) (a8 : Int32) (a10 : Int32) (γ : St) : Int32 × St := if a8 = 0 then (x_X8_rights_345 K18 a1 0 a10 a4 a5 a6 (sV γ 8 0 30 a7)) else (x_X8_rights_345 K18 a1 a2 a3 a4 a5 a6 γ)
def ok_X8_rights_150 (J18 : Int32 → Int32 → Int32 → Int32 → Int32 → Int32 → St → Prop) (a1 : Int32) (a2 : Int32) (a3 : Int32) (a4 : Int32) (a5 : Int32) (a6 : Int32) (a7 : Int32) (a8 : Int32) (a10 : Int32) (γ : St) : Prop := if a8 = 0 then (ok_X8_rights_345 J18 a1 0 a10 a4 a5 a6 (sV γ 8 0 30 a7)) else (ok_X8_rights_345 J18 a1 a2 a3 a4 a5 a6 γ)
def x_X8_rights_195 (K18 : Int32 → Int32 → Int32 → Int32 → Int32 → Int32 → St → Int32 × St) (a1 : Int32) (a2 : Int32) (a3 : Int32) (a4 : Int32) (a5 : Int32) (a6 : Int32) (s0 : Int32) (γ : St) : Int32 × St := x_X8_rights_345 K18 a1 a2 a3 a4 a5 a6 (sV γ 8 0 30 s0)
def ok_X8_rights_195 (J18 : Int32 → Int32 → Int32 → Int32 → Int32 → Int32 → St → Prop) (a1 : Int32) (a2 : Int32) (a3 : Int32) (a4 : Int32) (a5 : Int32) (a6 : Int32) (s0 : Int32) (γ : St) : Prop := ok_X8_rights_345 J18 a1 a2 a3 a4 a5 a6 (sV γ 8 0 30 s0)
def x_X8_rights_179 (K18 : Int32 → Int32 → Int32 → Int32 → Int32 → Int32 → St → Int32 × St) (a1 : Int32) (a3 : Int32) (a4 : Int32) (a5 : Int32) (a6 : Int32) (a7 : Int32) (a9 : Int32) (s0 : Int32) (γ : St) : Int32 × St := if a9 = 0 then (x_X8_rights_195 K18 a1 s0 a3 a4 a5 a6 (gV γ 8 0 30) γ) else (x_X8_rights_195 K18 a1 s0 a3 a4 a5 a6 a7 γ)
def ok_X8_rights_179 (J18 : Int32 → Int32 → Int32 → Int32 → Int32 → Int32 → St → Prop) (a1 : Int32) (a3 : Int32) (a4 : Int32) (a5 : Int32) (a6 : Int32) (a7 : Int32) (a9 : Int32) (s0 : Int32) (γ : St) : Prop := if a9 = 0 then (ok_X8_rights_195 J18 a1 s0 a3 a4 a5 a6 (gV γ 8 0 30) γ) else (ok_X8_rights_195 J18 a1 s0 a3 a4 a5 a6 a7 γ)
def x_X8_rights_339 (K18 : Int32 → Int32 → Int32 → Int32 → Int32 → Int32 → St → Int32 × St) (a1 : Int32) (a2 : Int32) (a3 : Int32) (a4 : Int32) (a5 : Int32) (a6 : Int32) (s0 : Int32) (γ : St) : Int32 × St := x_X8_rights_345 K18 a1 a2 a3 a4 a5 a6 (sV γ 8 0 30 s0)
def ok_X8_rights_339 (J18 : Int32 → Int32 → Int32 → Int32 → Int32 → Int32 → St → Prop) (a1 : Int32) (a2 : Int32) (a3 : Int32) (a4 : Int32) (a5 : Int32) (a6 : Int32) (s0 : Int32) (γ : St) : Prop := ok_X8_rights_345 J18 a1 a2 a3 a4 a5 a6 (sV γ 8 0 30 s0)
def x_X8_rights_64 (K18 : Int32 → Int32 → Int32 → Int32 → Int32 → Int32 → St → Int32 × St) (a1 : Int32) (a2 : Int32) (a3 : Int32) (a4 : Int32) (a5 : Int32) (a6 : Int32) (a7 : Int32) (a8 : Int32) (s0 : Int32) (γ : St) : Int32 × St := if (gV γ 32 0 ((a6 : Int32).toNatClampNeg)) = 0 then (if a8 = 0 then (x_X8_rights_150 K18 a1 a2 a3 a4 a5 a6 a7 a8 (gV γ 33 0 ((a6 : Int32).toNatClampNeg)) γ) else (if a2 = 0 then (if 40 < ((gV γ 33 0 ((a6 : Int32).toNatClampNeg)) - a3) then (x_X8_rights_150 K18 a1 a2 a3 a4 a5 a6 a7 a8 (gV γ 33 0 ((a6 : Int32).toNatClampNeg)) γ) else (x_X8_rights_345 K18 a1 a2 a3 a4 a5 a6 (sV γ 8 0 30 ((-1))))) else (x_X8_rights_150 K18 a1 a2 a3 a4 a5 a6 a7 a8 (gV γ 33 0 ((a6 : Int32).toNatClampNeg)) γ))) else (if (gV γ 32 0 ((a6 : Int32).toNatClampNeg)) = 1 then (if s0 = 0 then (x_X8_rights_179 K18 a1 a3 a4 a5 a6 a7 s0 a2 γ) else (x_X8_rights_179 K18 a1 a3 a4 a5 a6 a7 s0 1 γ)) else (if (gV γ 32 0 ((a6 : Int32).toNatClampNeg)) = 2 then (if a8 = 0 then (x_X8_rights_345 K18 a1 a2 a3 a4 a5 a6 γ) else (if a2 = 1 then (x_X8_rights_345 K18 a1 0 (gV γ 33 0 ((a6 : Int32).toNatClampNeg)) a4 a5 a6 (sV γ 8 0 30 a7)) else (x_X8_rights_345 K18 a1 a2 a3 a4 a5 a6 γ))) else (if (gV γ 32 0 ((a6 : Int32).toNatClampNeg)) = 3 then (if a8 = 0 then (x_X8_rights_345 K18 a1 a2 a3 a4 a5 a6 γ) else (if a2 = 1 then (x_X8_rights_345 K18 a1 a2 a3 a4 a5 a6 γ) else (x_X8_rights_345 K18 a1 a2 a3 a7 (gV γ 33 0 ((a6 : Int32).toNatClampNeg)) a6 (sV γ 8 0 30 ((-1)))))) else (if (gV γ 32 0 ((a6 : Int32).toNatClampNeg)) = 4 then (if s0 = 0 then (x_X8_rights_345 K18 a1 a2 a3 a4 a5 a6 γ) else (if a4 = a7 then (if 300 < ((gV γ 33 0 ((a6 : Int32).toNatClampNeg)) - a5) then (x_X8_rights_345 K18 a1 a2 a3 a4 a5 a6 γ) else (x_X8_rights_345 K18 a1 4 a3 a4 a5 a6 (sV γ 8 0 30 a7))) else (x_X8_rights_345 K18 a1 a2 a3 a4 a5 a6 γ))) else (if (gV γ 32 0 ((a6 : Int32).toNatClampNeg)) = 5 then (if s0 = 0 then (x_X8_rights_345 K18 a1 a2 a3 a4 a5 a6 γ) else (if a4 = (1 - a7) then (if ((gV γ 33 0 ((a6 : Int32).toNatClampNeg)) - a5) ≤ 300 then (x_X8_rights_345 K18 a1 a2 a3 a4 a5 a6 γ) else (x_X8_rights_345 K18 a1 5 a3 a4 a5 a6 (sV γ 8 0 30 a7))) else (x_X8_rights_345 K18 a1 a2 a3 a4 a5 a6 γ))) else (if (gV γ 32 0 ((a6 : Int32).toNatClampNeg)) = 6 then (if (gV γ 8 0 30) = a7 then (x_X8_rights_339 K18 a1 a2 a3 a4 a5 a6 ((-1)) γ) else (x_X8_rights_339 K18 a1 a2 a3 a4 a5 a6 (gV γ 8 0 30) γ)) else (x_X8_rights_345 K18 a1 a2 a3 a4 a5 a6 γ)))))))
def ok_X8_rights_64 (J18 : Int32 → Int32 → Int32 → Int32 → Int32 → Int32 → St → Prop) (a1 : Int32) (a2 : Int32) (a3 : Int32) (a4 : Int32) (a5 : Int32) (a6 : Int32) (a7 : Int32) (a8 : Int32) (s0 : Int32) (γ : St) : Prop := vp_in a6 24 ∧ (vp_in a6 24 ∧ (if (gV γ 32 0 ((a6 : Int32).toNatClampNeg)) = 0 then (if a8 = 0 then (ok_X8_rights_150 J18 a1 a2 a3 a4 a5 a6 a7 a8 (gV γ 33 0 ((a6 : Int32).toNatClampNeg)) γ) else (if a2 = 0 then (if 40 < ((gV γ 33 0 ((a6 : Int32).toNatClampNeg)) - a3) then (ok_X8_rights_150 J18 a1 a2 a3 a4 a5 a6 a7 a8 (gV γ 33 0 ((a6 : Int32).toNatClampNeg)) γ) else (ok_X8_rights_345 J18 a1 a2 a3 a4 a5 a6 (sV γ 8 0 30 ((-1))))) else (ok_X8_rights_150 J18 a1 a2 a3 a4 a5 a6 a7 a8 (gV γ 33 0 ((a6 : Int32).toNatClampNeg)) γ))) else (if (gV γ 32 0 ((a6 : Int32).toNatClampNeg)) = 1 then (if s0 = 0 then (ok_X8_rights_179 J18 a1 a3 a4 a5 a6 a7 s0 a2 γ) else (ok_X8_rights_179 J18 a1 a3 a4 a5 a6 a7 s0 1 γ)) else (if (gV γ 32 0 ((a6 : Int32).toNatClampNeg)) = 2 then (if a8 = 0 then (ok_X8_rights_345 J18 a1 a2 a3 a4 a5 a6 γ) else (if a2 = 1 then (ok_X8_rights_345 J18 a1 0 (gV γ 33 0 ((a6 : Int32).toNatClampNeg)) a4 a5 a6 (sV γ 8 0 30 a7)) else (ok_X8_rights_345 J18 a1 a2 a3 a4 a5 a6 γ))) else (if (gV γ 32 0 ((a6 : Int32).toNatClampNeg)) = 3 then (if a8 = 0 then (ok_X8_rights_345 J18 a1 a2 a3 a4 a5 a6 γ) else (if a2 = 1 then (ok_X8_rights_345 J18 a1 a2 a3 a4 a5 a6 γ) else (ok_X8_rights_345 J18 a1 a2 a3 a7 (gV γ 33 0 ((a6 : Int32).toNatClampNeg)) a6 (sV γ 8 0 30 ((-1)))))) else (if (gV γ 32 0 ((a6 : Int32).toNatClampNeg)) = 4 then (if s0 = 0 then (ok_X8_rights_345 J18 a1 a2 a3 a4 a5 a6 γ) else (if a4 = a7 then (if 300 < ((gV γ 33 0 ((a6 : Int32).toNatClampNeg)) - a5) then (ok_X8_rights_345 J18 a1 a2 a3 a4 a5 a6 γ) else (ok_X8_rights_345 J18 a1 4 a3 a4 a5 a6 (sV γ 8 0 30 a7))) else (ok_X8_rights_345 J18 a1 a2 a3 a4 a5 a6 γ))) else (if (gV γ 32 0 ((a6 : Int32).toNatClampNeg)) = 5 then (if s0 = 0 then (ok_X8_rights_345 J18 a1 a2 a3 a4 a5 a6 γ) else (if a4 = (1 - a7) then (if ((gV γ 33 0 ((a6 : Int32).toNatClampNeg)) - a5) ≤ 300 then (ok_X8_rights_345 J18 a1 a2 a3 a4 a5 a6 γ) else (ok_X8_rights_345 J18 a1 5 a3 a4 a5 a6 (sV γ 8 0 30 a7))) else (ok_X8_rights_345 J18 a1 a2 a3 a4 a5 a6 γ))) else (if (gV γ 32 0 ((a6 : Int32).toNatClampNeg)) = 6 then (if (gV γ 8 0 30) = a7 then (ok_X8_rights_339 J18 a1 a2 a3 a4 a5 a6 ((-1)) γ) else (ok_X8_rights_339 J18 a1 a2 a3 a4 a5 a6 (gV γ 8 0 30) γ)) else (ok_X8_rights_345 J18 a1 a2 a3 a4 a5 a6 γ)))))))))
def x_X8_rights_49 (K18 : Int32 → Int32 → Int32 → Int32 → Int32 → Int32 → St → Int32 × St) (a1 : Int32) (a2 : Int32) (a3 : Int32) (a4 : Int32) (a5 : Int32) (a6 : Int32) (a7 : Int32) (s0 : Int32) (γ : St) : Int32 × St := if (gV γ 8 0 30) = ((-1)) then (x_X8_rights_64 K18 a1 a2 a3 a4 a5 a6 a7 s0 1 γ) else (x_X8_rights_64 K18 a1 a2 a3 a4 a5 a6 a7 s0 0 γ)
def ok_X8_rights_49 (J18 : Int32 → Int32 → Int32 → Int32 → Int32 → Int32 → St → Prop) (a1 : Int32) (a2 : Int32) (a3 : Int32) (a4 : Int32) (a5 : Int32) (a6 : Int32) (a7 : Int32) (s0 : Int32) (γ : St) : Prop := if (gV γ 8 0 30) = ((-1)) then (ok_X8_rights_64 J18 a1 a2 a3 a4 a5 a6 a7 s0 1 γ) else (ok_X8_rights_64 J18 a1 a2 a3 a4 a5 a6 a7 s0 0 γ)
def x_X8_rights_18 : Nat → Int32 → Int32 → Int32 → Int32 → Int32 → Int32 → St → Int32 × St
  | 0, _, _, _, _, _, _, γ => (0, γ)
  | k18 + 1, a1, a2, a3, a4, a5, a6, γ => if a1 ≤ a6 then ((gV γ 8 0 30, γ)) else (if (gV γ 8 0 30) = (1 - (gV γ 31 0 ((a6 : Int32).toNatClampNeg))) then (x_X8_rights_49 (x_X8_rights_18 k18) a1 a2 a3 a4 a5 a6 (gV γ 31 0 ((a6 : Int32).toNatClampNeg)) 1 γ) else (x_X8_rights_49 (x_X8_rights_18 k18) a1 a2 a3 a4 a5 a6 (gV γ 31 0 ((a6 : Int32).toNatClampNeg)) 0 γ))
def ok_X8_rights_18 : Nat → Int32 → Int32 → Int32 → Int32 → Int32 → Int32 → St → Prop
  | 0, _, _, _, _, _, _, _ => False
  | k18 + 1, a1, a2, a3, a4, a5, a6, γ => if a1 ≤ a6 then True else (vp_in a6 24 ∧ (if (gV γ 8 0 30) = (1 - (gV γ 31 0 ((a6 : Int32).toNatClampNeg))) then (ok_X8_rights_49 (ok_X8_rights_18 k18) a1 a2 a3 a4 a5 a6 (gV γ 31 0 ((a6 : Int32).toNatClampNeg)) 1 γ) else (ok_X8_rights_49 (ok_X8_rights_18 k18) a1 a2 a3 a4 a5 a6 (gV γ 31 0 ((a6 : Int32).toNatClampNeg)) 0 γ)))
def x_X8_rights (y1 : Int32) (γ : St) : Int32 × St := x_X8_rights_18 fu y1 ((-1)) 0 ((-1)) 0 0 (sV γ 8 0 30 ((-1)))
def ok_X8_rights (y1 : Int32) (γ : St) : Prop := ok_X8_rights_18 fu y1 ((-1)) 0 ((-1)) 0 0 (sV γ 8 0 30 ((-1)))
-- X8_ends
def x_X8_ends (y1 : Int32) (γ : St) : St := (sV (sV (sV γ 25 0 ((gV γ 8 0 4 : Int32).toNatClampNeg) y1) 8 0 4 ((-1))) 8 0 17 0)
def ok_X8_ends (y1 : Int32) (γ : St) : Prop := vp_in (gV γ 8 0 4) 80 ∧ True
-- X8_ahead
def x_X8_ahead (γ : St) : Int32 := if ((gV γ 21 0 ((2 * (gV γ 8 0 4) : Int32).toNatClampNeg)) - (gV γ 21 0 (((2 * (gV γ 8 0 4)) + 1 : Int32).toNatClampNeg))) ≤ 0 then (if 0 ≤ ((gV γ 21 0 ((2 * (gV γ 8 0 4) : Int32).toNatClampNeg)) - (gV γ 21 0 (((2 * (gV γ 8 0 4)) + 1 : Int32).toNatClampNeg))) then (if (gV γ 20 0 (((2 * (gV γ 8 0 4)) + 1 : Int32).toNatClampNeg)) ≤ (gV γ 20 0 ((2 * (gV γ 8 0 4) : Int32).toNatClampNeg)) then 1 else 0) else 1) else 0
def ok_X8_ahead (γ : St) : Prop := vp_in (2 * (gV γ 8 0 4)) 160 ∧ (vp_in ((2 * (gV γ 8 0 4)) + 1) 160 ∧ (if ((gV γ 21 0 ((2 * (gV γ 8 0 4) : Int32).toNatClampNeg)) - (gV γ 21 0 (((2 * (gV γ 8 0 4)) + 1 : Int32).toNatClampNeg))) ≤ 0 then (if 0 ≤ ((gV γ 21 0 ((2 * (gV γ 8 0 4) : Int32).toNatClampNeg)) - (gV γ 21 0 (((2 * (gV γ 8 0 4)) + 1 : Int32).toNatClampNeg))) then (vp_in (2 * (gV γ 8 0 4)) 160 ∧ (vp_in ((2 * (gV γ 8 0 4)) + 1) 160 ∧ (if (gV γ 20 0 (((2 * (gV γ 8 0 4)) + 1 : Int32).toNatClampNeg)) ≤ (gV γ 20 0 ((2 * (gV γ 8 0 4) : Int32).toNatClampNeg)) then True else True))) else True) else True))
-- X8_gives
def x_X8_gives_128 (γ : St) : St := (x_X8_ends ((x_X8_ahead γ)) γ)
def ok_X8_gives_128 (γ : St) : Prop := ok_X8_ahead γ ∧ (ok_X8_ends ((x_X8_ahead γ)) γ ∧ True)
def x_X8_gives_103 (a1 : Int32) (a2 : Int32) (a3 : Int32) (s0 : Int32) (γ : St) : St := if a1 ≤ 0 then γ else (if a3 = 0 then (if (gV γ 28 0 ((a2 : Int32).toNatClampNeg)) = ((-1)) then γ else (if s0 = 0 then γ else (x_X8_gives_128 γ))) else (x_X8_gives_128 γ))
def ok_X8_gives_103 (a1 : Int32) (a2 : Int32) (a3 : Int32) (s0 : Int32) (γ : St) : Prop := if a1 ≤ 0 then True else (if a3 = 0 then (vp_in a2 80 ∧ (if (gV γ 28 0 ((a2 : Int32).toNatClampNeg)) = ((-1)) then True else (if s0 = 0 then True else (ok_X8_gives_128 γ)))) else (ok_X8_gives_128 γ))
def x_X8_gives_76 (a1 : Int32) (a2 : Int32) (s0 : Int32) (γ : St) : St := if (gV γ 21 0 ((2 * a2 : Int32).toNatClampNeg)) = (gV γ 21 0 (((2 * a2) + 1 : Int32).toNatClampNeg)) then (x_X8_gives_103 a1 a2 s0 0 γ) else (x_X8_gives_103 a1 a2 s0 1 γ)
def ok_X8_gives_76 (a1 : Int32) (a2 : Int32) (s0 : Int32) (γ : St) : Prop := vp_in (2 * a2) 160 ∧ (vp_in ((2 * a2) + 1) 160 ∧ (if (gV γ 21 0 ((2 * a2 : Int32).toNatClampNeg)) = (gV γ 21 0 (((2 * a2) + 1 : Int32).toNatClampNeg)) then (ok_X8_gives_103 a1 a2 s0 0 γ) else (ok_X8_gives_103 a1 a2 s0 1 γ)))
def x_X8_gives_71 (a1 : Int32) (a2 : Int32) (γ : St) : St := x_X8_gives_76 a1 a2 1 γ
def ok_X8_gives_71 (a1 : Int32) (a2 : Int32) (γ : St) : Prop := ok_X8_gives_76 a1 a2 1 γ
def x_X8_gives (y1 : Int32) (γ : St) : St := if (gV γ 23 0 ((gV γ 8 0 4 : Int32).toNatClampNeg)) ≤ (gV (sV (sV γ 21 0 ((2 * (gV γ 8 0 4) : Int32).toNatClampNeg) ((gV γ 21 0 ((2 * (gV γ 8 0 4) : Int32).toNatClampNeg)) + (y1 &&& 1))) 21 0 (((2 * (gV γ 8 0 4)) + 1 : Int32).toNatClampNeg) ((gV (sV γ 21 0 ((2 * (gV γ 8 0 4) : Int32).toNatClampNeg) ((gV γ 21 0 ((2 * (gV γ 8 0 4) : Int32).toNatClampNeg)) + (y1 &&& 1))) 21 0 (((2 * (gV γ 8 0 4)) + 1 : Int32).toNatClampNeg)) + (y1 >>> (1 &&& 31)))) 21 0 ((2 * (gV γ 8 0 4) : Int32).toNatClampNeg)) then (x_X8_gives_71 y1 (gV γ 8 0 4) (sV (sV γ 21 0 ((2 * (gV γ 8 0 4) : Int32).toNatClampNeg) ((gV γ 21 0 ((2 * (gV γ 8 0 4) : Int32).toNatClampNeg)) + (y1 &&& 1))) 21 0 (((2 * (gV γ 8 0 4)) + 1 : Int32).toNatClampNeg) ((gV (sV γ 21 0 ((2 * (gV γ 8 0 4) : Int32).toNatClampNeg) ((gV γ 21 0 ((2 * (gV γ 8 0 4) : Int32).toNatClampNeg)) + (y1 &&& 1))) 21 0 (((2 * (gV γ 8 0 4)) + 1 : Int32).toNatClampNeg)) + (y1 >>> (1 &&& 31))))) else (if (gV (sV (sV γ 21 0 ((2 * (gV γ 8 0 4) : Int32).toNatClampNeg) ((gV γ 21 0 ((2 * (gV γ 8 0 4) : Int32).toNatClampNeg)) + (y1 &&& 1))) 21 0 (((2 * (gV γ 8 0 4)) + 1 : Int32).toNatClampNeg) ((gV (sV γ 21 0 ((2 * (gV γ 8 0 4) : Int32).toNatClampNeg) ((gV γ 21 0 ((2 * (gV γ 8 0 4) : Int32).toNatClampNeg)) + (y1 &&& 1))) 21 0 (((2 * (gV γ 8 0 4)) + 1 : Int32).toNatClampNeg)) + (y1 >>> (1 &&& 31)))) 21 0 (((2 * (gV γ 8 0 4)) + 1 : Int32).toNatClampNeg)) < (gV γ 23 0 ((gV γ 8 0 4 : Int32).toNatClampNeg)) then (x_X8_gives_76 y1 (gV γ 8 0 4) 0 (sV (sV γ 21 0 ((2 * (gV γ 8 0 4) : Int32).toNatClampNeg) ((gV γ 21 0 ((2 * (gV γ 8 0 4) : Int32).toNatClampNeg)) + (y1 &&& 1))) 21 0 (((2 * (gV γ 8 0 4)) + 1 : Int32).toNatClampNeg) ((gV (sV γ 21 0 ((2 * (gV γ 8 0 4) : Int32).toNatClampNeg) ((gV γ 21 0 ((2 * (gV γ 8 0 4) : Int32).toNatClampNeg)) + (y1 &&& 1))) 21 0 (((2 * (gV γ 8 0 4)) + 1 : Int32).toNatClampNeg)) + (y1 >>> (1 &&& 31))))) else (x_X8_gives_71 y1 (gV γ 8 0 4) (sV (sV γ 21 0 ((2 * (gV γ 8 0 4) : Int32).toNatClampNeg) ((gV γ 21 0 ((2 * (gV γ 8 0 4) : Int32).toNatClampNeg)) + (y1 &&& 1))) 21 0 (((2 * (gV γ 8 0 4)) + 1 : Int32).toNatClampNeg) ((gV (sV γ 21 0 ((2 * (gV γ 8 0 4) : Int32).toNatClampNeg) ((gV γ 21 0 ((2 * (gV γ 8 0 4) : Int32).toNatClampNeg)) + (y1 &&& 1))) 21 0 (((2 * (gV γ 8 0 4)) + 1 : Int32).toNatClampNeg)) + (y1 >>> (1 &&& 31))))))
def ok_X8_gives (y1 : Int32) (γ : St) : Prop := vp_in (2 * (gV γ 8 0 4)) 160 ∧ (vp_in (2 * (gV γ 8 0 4)) 160 ∧ (vp_in ((2 * (gV γ 8 0 4)) + 1) 160 ∧ (vp_in ((2 * (gV γ 8 0 4)) + 1) 160 ∧ (vp_in (2 * (gV γ 8 0 4)) 160 ∧ (vp_in (gV γ 8 0 4) 80 ∧ (if (gV γ 23 0 ((gV γ 8 0 4 : Int32).toNatClampNeg)) ≤ (gV (sV (sV γ 21 0 ((2 * (gV γ 8 0 4) : Int32).toNatClampNeg) ((gV γ 21 0 ((2 * (gV γ 8 0 4) : Int32).toNatClampNeg)) + (y1 &&& 1))) 21 0 (((2 * (gV γ 8 0 4)) + 1 : Int32).toNatClampNeg) ((gV (sV γ 21 0 ((2 * (gV γ 8 0 4) : Int32).toNatClampNeg) ((gV γ 21 0 ((2 * (gV γ 8 0 4) : Int32).toNatClampNeg)) + (y1 &&& 1))) 21 0 (((2 * (gV γ 8 0 4)) + 1 : Int32).toNatClampNeg)) + (y1 >>> (1 &&& 31)))) 21 0 ((2 * (gV γ 8 0 4) : Int32).toNatClampNeg)) then (ok_X8_gives_71 y1 (gV γ 8 0 4) (sV (sV γ 21 0 ((2 * (gV γ 8 0 4) : Int32).toNatClampNeg) ((gV γ 21 0 ((2 * (gV γ 8 0 4) : Int32).toNatClampNeg)) + (y1 &&& 1))) 21 0 (((2 * (gV γ 8 0 4)) + 1 : Int32).toNatClampNeg) ((gV (sV γ 21 0 ((2 * (gV γ 8 0 4) : Int32).toNatClampNeg) ((gV γ 21 0 ((2 * (gV γ 8 0 4) : Int32).toNatClampNeg)) + (y1 &&& 1))) 21 0 (((2 * (gV γ 8 0 4)) + 1 : Int32).toNatClampNeg)) + (y1 >>> (1 &&& 31))))) else (vp_in ((2 * (gV γ 8 0 4)) + 1) 160 ∧ (vp_in (gV γ 8 0 4) 80 ∧ (if (gV (sV (sV γ 21 0 ((2 * (gV γ 8 0 4) : Int32).toNatClampNeg) ((gV γ 21 0 ((2 * (gV γ 8 0 4) : Int32).toNatClampNeg)) + (y1 &&& 1))) 21 0 (((2 * (gV γ 8 0 4)) + 1 : Int32).toNatClampNeg) ((gV (sV γ 21 0 ((2 * (gV γ 8 0 4) : Int32).toNatClampNeg) ((gV γ 21 0 ((2 * (gV γ 8 0 4) : Int32).toNatClampNeg)) + (y1 &&& 1))) 21 0 (((2 * (gV γ 8 0 4)) + 1 : Int32).toNatClampNeg)) + (y1 >>> (1 &&& 31)))) 21 0 (((2 * (gV γ 8 0 4)) + 1 : Int32).toNatClampNeg)) < (gV γ 23 0 ((gV γ 8 0 4 : Int32).toNatClampNeg)) then (ok_X8_gives_76 y1 (gV γ 8 0 4) 0 (sV (sV γ 21 0 ((2 * (gV γ 8 0 4) : Int32).toNatClampNeg) ((gV γ 21 0 ((2 * (gV γ 8 0 4) : Int32).toNatClampNeg)) + (y1 &&& 1))) 21 0 (((2 * (gV γ 8 0 4)) + 1 : Int32).toNatClampNeg) ((gV (sV γ 21 0 ((2 * (gV γ 8 0 4) : Int32).toNatClampNeg) ((gV γ 21 0 ((2 * (gV γ 8 0 4) : Int32).toNatClampNeg)) + (y1 &&& 1))) 21 0 (((2 * (gV γ 8 0 4)) + 1 : Int32).toNatClampNeg)) + (y1 >>> (1 &&& 31))))) else (ok_X8_gives_71 y1 (gV γ 8 0 4) (sV (sV γ 21 0 ((2 * (gV γ 8 0 4) : Int32).toNatClampNeg) ((gV γ 21 0 ((2 * (gV γ 8 0 4) : Int32).toNatClampNeg)) + (y1 &&& 1))) 21 0 (((2 * (gV γ 8 0 4)) + 1 : Int32).toNatClampNeg) ((gV (sV γ 21 0 ((2 * (gV γ 8 0 4) : Int32).toNatClampNeg) ((gV γ 21 0 ((2 * (gV γ 8 0 4) : Int32).toNatClampNeg)) + (y1 &&& 1))) 21 0 (((2 * (gV γ 8 0 4)) + 1 : Int32).toNatClampNeg)) + (y1 >>> (1 &&& 31))))))))))))))
-- X8_given
def x_X8_given_65 (a3 : Int32) (s0 : Int32) (γ : St) : Int32 × St := if (gV γ 35 0 ((a3 : Int32).toNatClampNeg)) = 0 then ((1 <<< ((gV γ 31 0 ((a3 : Int32).toNatClampNeg)) &&& 31), (sV γ 8 0 2 s0))) else ((0, (sV γ 8 0 2 s0)))
def ok_X8_given_65 (a3 : Int32) (s0 : Int32) (γ : St) : Prop := vp_in a3 24 ∧ (if (gV γ 35 0 ((a3 : Int32).toNatClampNeg)) = 0 then (vp_in a3 24 ∧ True) else True)
def x_X8_given_49 (s0 : Int32) (γ : St) : Int32 × St := if (gV γ 35 0 ((s0 : Int32).toNatClampNeg)) = 0 then (x_X8_given_65 s0 1 γ) else (x_X8_given_65 s0 2 γ)
def ok_X8_given_49 (s0 : Int32) (γ : St) : Prop := vp_in s0 24 ∧ (if (gV γ 35 0 ((s0 : Int32).toNatClampNeg)) = 0 then (ok_X8_given_65 s0 1 γ) else (ok_X8_given_65 s0 2 γ))
def x_X8_given_39 (a1 : Int32) (a2 : Int32) (γ : St) : Int32 × St := if a1 = ((-1)) then (x_X8_given_49 a2 γ) else (x_X8_given_49 a1 γ)
def ok_X8_given_39 (a1 : Int32) (a2 : Int32) (γ : St) : Prop := if a1 = ((-1)) then (ok_X8_given_49 a2 γ) else (ok_X8_given_49 a1 γ)
def x_X8_given_269 (a4 : Int32) (a5 : Int32) (s0 : Int32) (γ : St) : Int32 × St := if (gV γ 35 0 ((a5 : Int32).toNatClampNeg)) = 0 then ((1 <<< (a4 &&& 31), (sV γ 8 0 2 s0))) else ((0, (sV γ 8 0 2 s0)))
def ok_X8_given_269 (a4 : Int32) (a5 : Int32) (s0 : Int32) (γ : St) : Prop := vp_in a5 24 ∧ (if (gV γ 35 0 ((a5 : Int32).toNatClampNeg)) = 0 then True else True)
def x_X8_given_252 (a4 : Int32) (a5 : Int32) (γ : St) : Int32 × St := if (gV γ 35 0 ((a5 : Int32).toNatClampNeg)) = 0 then (x_X8_given_269 a4 a5 6 γ) else (x_X8_given_269 a4 a5 2 γ)
def ok_X8_given_252 (a4 : Int32) (a5 : Int32) (γ : St) : Prop := vp_in a5 24 ∧ (if (gV γ 35 0 ((a5 : Int32).toNatClampNeg)) = 0 then (ok_X8_given_269 a4 a5 6 γ) else (ok_X8_given_269 a4 a5 2 γ))
def x_X8_given_207 (a4 : Int32) (a5 : Int32) (s0 : Int32) (γ : St) : Int32 × St := if (gV γ 35 0 ((s0 : Int32).toNatClampNeg)) = 0 then (if ((gV γ 33 0 ((a5 : Int32).toNatClampNeg)) - (gV γ 33 0 ((s0 : Int32).toNatClampNeg))) < 150 then (x_X8_given_252 a4 a5 γ) else ((1 <<< ((1 - a4) &&& 31), (sV γ 8 0 2 5)))) else (x_X8_given_252 a4 a5 γ)
def ok_X8_given_207 (a4 : Int32) (a5 : Int32) (s0 : Int32) (γ : St) : Prop := vp_in s0 24 ∧ (if (gV γ 35 0 ((s0 : Int32).toNatClampNeg)) = 0 then (vp_in a5 24 ∧ (vp_in s0 24 ∧ (if ((gV γ 33 0 ((a5 : Int32).toNatClampNeg)) - (gV γ 33 0 ((s0 : Int32).toNatClampNeg))) < 150 then (ok_X8_given_252 a4 a5 γ) else True))) else (ok_X8_given_252 a4 a5 γ))
def x_X8_given_195 (a1 : Int32) (a2 : Int32) (a4 : Int32) (s0 : Int32) (γ : St) : Int32 × St := if a4 = 0 then (x_X8_given_207 a4 s0 a2 γ) else (x_X8_given_207 a4 s0 a1 γ)
def ok_X8_given_195 (a1 : Int32) (a2 : Int32) (a4 : Int32) (s0 : Int32) (γ : St) : Prop := if a4 = 0 then (ok_X8_given_207 a4 s0 a2 γ) else (ok_X8_given_207 a4 s0 a1 γ)
def x_X8_given_170 (a1 : Int32) (a2 : Int32) (s0 : Int32) (γ : St) : Int32 × St := if s0 = ((-1)) then ((0, (sV γ 8 0 2 4))) else (if s0 = 0 then (x_X8_given_195 a1 a2 s0 a1 γ) else (x_X8_given_195 a1 a2 s0 a2 γ))
def ok_X8_given_170 (a1 : Int32) (a2 : Int32) (s0 : Int32) (γ : St) : Prop := if s0 = ((-1)) then True else (if s0 = 0 then (ok_X8_given_195 a1 a2 s0 a1 γ) else (ok_X8_given_195 a1 a2 s0 a2 γ))
def x_X8_given_167 (a1 : Int32) (a2 : Int32) (s0 : Int32) (γ : St) : Int32 × St := x_X8_given_170 a1 a2 ((x_X8_rights s0 γ).1) (x_X8_rights s0 γ).2
def ok_X8_given_167 (a1 : Int32) (a2 : Int32) (s0 : Int32) (γ : St) : Prop := ok_X8_rights s0 γ ∧ (ok_X8_given_170 a1 a2 ((x_X8_rights s0 γ).1) (x_X8_rights s0 γ).2)
def x_X8_given_154 (γ : St) : Int32 × St := (3, γ)
def ok_X8_given_154 (γ : St) : Prop := True
def x_X8_given_29 (a1 : Int32) (a2 : Int32) (γ : St) : Int32 × St := if a1 = ((-1)) then (x_X8_given_39 a1 a2 γ) else (if a2 = ((-1)) then (x_X8_given_39 a1 a2 γ) else (if (gV γ 22 0 ((gV γ 8 0 4 : Int32).toNatClampNeg)) = 1 then (if ((gV γ 21 0 ((2 * (gV γ 8 0 4) : Int32).toNatClampNeg)) + 1) < (gV γ 23 0 ((gV γ 8 0 4 : Int32).toNatClampNeg)) then (x_X8_given_154 (sV γ 8 0 2 3)) else (if ((gV γ 21 0 (((2 * (gV γ 8 0 4)) + 1 : Int32).toNatClampNeg)) + 1) < (gV γ 23 0 ((gV γ 8 0 4 : Int32).toNatClampNeg)) then (x_X8_given_154 (sV γ 8 0 2 3)) else ((0, (sV γ 8 0 2 3))))) else (if a1 ≤ a2 then (x_X8_given_167 a1 a2 a2 γ) else (x_X8_given_167 a1 a2 a1 γ))))
def ok_X8_given_29 (a1 : Int32) (a2 : Int32) (γ : St) : Prop := if a1 = ((-1)) then (ok_X8_given_39 a1 a2 γ) else (if a2 = ((-1)) then (ok_X8_given_39 a1 a2 γ) else (vp_in (gV γ 8 0 4) 80 ∧ (if (gV γ 22 0 ((gV γ 8 0 4 : Int32).toNatClampNeg)) = 1 then (vp_in (2 * (gV γ 8 0 4)) 160 ∧ (vp_in (gV γ 8 0 4) 80 ∧ (if ((gV γ 21 0 ((2 * (gV γ 8 0 4) : Int32).toNatClampNeg)) + 1) < (gV γ 23 0 ((gV γ 8 0 4 : Int32).toNatClampNeg)) then (ok_X8_given_154 (sV γ 8 0 2 3)) else (vp_in ((2 * (gV γ 8 0 4)) + 1) 160 ∧ (vp_in (gV γ 8 0 4) 80 ∧ (if ((gV γ 21 0 (((2 * (gV γ 8 0 4)) + 1 : Int32).toNatClampNeg)) + 1) < (gV γ 23 0 ((gV γ 8 0 4 : Int32).toNatClampNeg)) then (ok_X8_given_154 (sV γ 8 0 2 3)) else True)))))) else (if a1 ≤ a2 then (ok_X8_given_167 a1 a2 a2 γ) else (ok_X8_given_167 a1 a2 a1 γ)))))
def x_X8_given (γ : St) : Int32 × St := if ((x_X8_registered 0 γ)) = ((-1)) then (if ((x_X8_registered 1 γ)) = ((-1)) then ((0, (sV γ 8 0 2 0))) else (x_X8_given_29 ((x_X8_registered 0 γ)) ((x_X8_registered 1 γ)) γ)) else (x_X8_given_29 ((x_X8_registered 0 γ)) ((x_X8_registered 1 γ)) γ)
def ok_X8_given (γ : St) : Prop := ok_X8_registered 0 γ ∧ (ok_X8_registered 1 γ ∧ (if ((x_X8_registered 0 γ)) = ((-1)) then (if ((x_X8_registered 1 γ)) = ((-1)) then True else (ok_X8_given_29 ((x_X8_registered 0 γ)) ((x_X8_registered 1 γ)) γ)) else (ok_X8_given_29 ((x_X8_registered 0 γ)) ((x_X8_registered 1 γ)) γ)))
-- X8_judge
def x_X8_judge_57 (a1 : Int32) (γ : St) : Int32 × St := (a1, γ)
def ok_X8_judge_57 (a1 : Int32) (γ : St) : Prop := True
def x_X8_judge_49 (a1 : Int32) (s0 : Int32) (γ : St) : Int32 × St := x_X8_judge_57 a1 (x_X8_gives a1 (sV γ 8 0 14 s0))
def ok_X8_judge_49 (a1 : Int32) (s0 : Int32) (γ : St) : Prop := ok_X8_gives a1 (sV γ 8 0 14 s0) ∧ (ok_X8_judge_57 a1 (x_X8_gives a1 (sV γ 8 0 14 s0)))
def x_X8_judge_30 (s0 : Int32) (γ : St) : Int32 × St := if s0 ≤ 0 then (x_X8_judge_49 s0 (gV γ 8 0 14) (sV γ 8 0 17 0)) else (x_X8_judge_49 s0 0 (sV γ 8 0 17 0))
def ok_X8_judge_30 (s0 : Int32) (γ : St) : Prop := if s0 ≤ 0 then (ok_X8_judge_49 s0 (gV γ 8 0 14) (sV γ 8 0 17 0)) else (ok_X8_judge_49 s0 0 (sV γ 8 0 17 0))
def x_X8_judge_14 (s0 : Int32) (γ : St) : Int32 × St := if s0 ≤ 0 then (x_X8_judge_30 ((x_X8_given (sV γ 8 0 31 s0)).1) (x_X8_given (sV γ 8 0 31 s0)).2) else ((0, (sV γ 8 0 31 s0)))
def ok_X8_judge_14 (s0 : Int32) (γ : St) : Prop := if s0 ≤ 0 then (ok_X8_given (sV γ 8 0 31 s0) ∧ (ok_X8_judge_30 ((x_X8_given (sV γ 8 0 31 s0)).1) (x_X8_given (sV γ 8 0 31 s0)).2)) else True
def x_X8_judge (γ : St) : Int32 × St := if (gV γ 8 0 4) = ((-1)) then (x_X8_judge_14 1 γ) else (x_X8_judge_14 0 γ)
def ok_X8_judge (γ : St) : Prop := if (gV γ 8 0 4) = ((-1)) then (ok_X8_judge_14 1 γ) else (ok_X8_judge_14 0 γ)
-- X8_card
def x_X8_card_147 (a3 : Int32) (γ : St) : Int32 × St := (a3, γ)
def ok_X8_card_147 (a3 : Int32) (γ : St) : Prop := True
def x_X8_card_132 (a3 : Int32) (γ : St) : Int32 × St := x_X8_card_147 a3 γ
def ok_X8_card_132 (a3 : Int32) (γ : St) : Prop := ok_X8_card_147 a3 γ
def x_X8_card_111 (a1 : Int32) (a3 : Int32) (s0 : Int32) (s1 : Int32) (s2 : Int32) (γ : St) : Int32 × St := if a3 = 2 then (x_X8_card_132 a3 (x_X8_gives (1 <<< ((1 - a1) &&& 31)) (sV (sV γ 30 0 ((s2 : Int32).toNatClampNeg) (vp_nar .boolean (s1 ||| s0))) 8 0 14 0))) else (if a3 = 3 then (x_X8_card_147 a3 (x_X8_ends (1 - a1) (sV γ 30 0 ((s2 : Int32).toNatClampNeg) (vp_nar .boolean (s1 ||| s0))))) else (x_X8_card_147 a3 (sV γ 30 0 ((s2 : Int32).toNatClampNeg) (vp_nar .boolean (s1 ||| s0)))))
def ok_X8_card_111 (a1 : Int32) (a3 : Int32) (s0 : Int32) (s1 : Int32) (s2 : Int32) (γ : St) : Prop := vp_in s2 2 ∧ (if a3 = 2 then (ok_X8_gives (1 <<< ((1 - a1) &&& 31)) (sV (sV γ 30 0 ((s2 : Int32).toNatClampNeg) (vp_nar .boolean (s1 ||| s0))) 8 0 14 0) ∧ (ok_X8_card_132 a3 (x_X8_gives (1 <<< ((1 - a1) &&& 31)) (sV (sV γ 30 0 ((s2 : Int32).toNatClampNeg) (vp_nar .boolean (s1 ||| s0))) 8 0 14 0)))) else (if a3 = 3 then (ok_X8_ends (1 - a1) (sV γ 30 0 ((s2 : Int32).toNatClampNeg) (vp_nar .boolean (s1 ||| s0))) ∧ (ok_X8_card_147 a3 (x_X8_ends (1 - a1) (sV γ 30 0 ((s2 : Int32).toNatClampNeg) (vp_nar .boolean (s1 ||| s0)))))) else (ok_X8_card_147 a3 (sV γ 30 0 ((s2 : Int32).toNatClampNeg) (vp_nar .boolean (s1 ||| s0))))))
def x_X8_card_83 (a1 : Int32) (a2 : Int32) (s0 : Int32) (γ : St) : Int32 × St := if a2 = 3 then (x_X8_card_111 a1 s0 1 (gV γ 30 0 ((a1 : Int32).toNatClampNeg)) a1 (sV γ 29 0 ((a1 : Int32).toNatClampNeg) ((gV γ 29 0 ((a1 : Int32).toNatClampNeg)) + 1))) else (x_X8_card_111 a1 s0 0 (gV γ 30 0 ((a1 : Int32).toNatClampNeg)) a1 (sV γ 29 0 ((a1 : Int32).toNatClampNeg) ((gV γ 29 0 ((a1 : Int32).toNatClampNeg)) + 1)))
def ok_X8_card_83 (a1 : Int32) (a2 : Int32) (s0 : Int32) (γ : St) : Prop := vp_in a1 2 ∧ (vp_in a1 2 ∧ (vp_in a1 2 ∧ (if a2 = 3 then (ok_X8_card_111 a1 s0 1 (gV γ 30 0 ((a1 : Int32).toNatClampNeg)) a1 (sV γ 29 0 ((a1 : Int32).toNatClampNeg) ((gV γ 29 0 ((a1 : Int32).toNatClampNeg)) + 1))) else (ok_X8_card_111 a1 s0 0 (gV γ 30 0 ((a1 : Int32).toNatClampNeg)) a1 (sV γ 29 0 ((a1 : Int32).toNatClampNeg) ((gV γ 29 0 ((a1 : Int32).toNatClampNeg)) + 1))))))
def x_X8_card_82 (a1 : Int32) (a2 : Int32) (γ : St) : Int32 × St := x_X8_card_83 a1 a2 2 γ
def ok_X8_card_82 (a1 : Int32) (a2 : Int32) (γ : St) : Prop := ok_X8_card_83 a1 a2 2 γ
def x_X8_card_64 (a1 : Int32) (a2 : Int32) (γ : St) : Int32 × St := if a2 = 3 then (if (gV γ 30 0 ((a1 : Int32).toNatClampNeg)) = 0 then (x_X8_card_82 a1 a2 γ) else (x_X8_card_83 a1 a2 3 γ)) else (x_X8_card_82 a1 a2 γ)
def ok_X8_card_64 (a1 : Int32) (a2 : Int32) (γ : St) : Prop := if a2 = 3 then (vp_in a1 2 ∧ (if (gV γ 30 0 ((a1 : Int32).toNatClampNeg)) = 0 then (ok_X8_card_82 a1 a2 γ) else (ok_X8_card_83 a1 a2 3 γ))) else (ok_X8_card_82 a1 a2 γ)
def x_X8_card_34 (a1 : Int32) (a2 : Int32) (s0 : Int32) (γ : St) : Int32 × St := if s0 ≤ 0 then (if a2 = 1 then (if (gV γ 29 0 ((a1 : Int32).toNatClampNeg)) = 0 then (x_X8_card_83 a1 a2 1 (sV γ 8 0 31 s0)) else (x_X8_card_64 a1 a2 (sV γ 8 0 31 s0))) else (x_X8_card_64 a1 a2 (sV γ 8 0 31 s0))) else ((0, (sV γ 8 0 31 s0)))
def ok_X8_card_34 (a1 : Int32) (a2 : Int32) (s0 : Int32) (γ : St) : Prop := if s0 ≤ 0 then (if a2 = 1 then (vp_in a1 2 ∧ (if (gV γ 29 0 ((a1 : Int32).toNatClampNeg)) = 0 then (ok_X8_card_83 a1 a2 1 (sV γ 8 0 31 s0)) else (ok_X8_card_64 a1 a2 (sV γ 8 0 31 s0)))) else (ok_X8_card_64 a1 a2 (sV γ 8 0 31 s0))) else True
def x_X8_card_17 (a1 : Int32) (a2 : Int32) (γ : St) : Int32 × St := x_X8_card_34 a1 a2 1 γ
def ok_X8_card_17 (a1 : Int32) (a2 : Int32) (γ : St) : Prop := ok_X8_card_34 a1 a2 1 γ
def x_X8_card (y1 : Int32) (y2 : Int32) (γ : St) : Int32 × St := if ((x_X8_isSide y1 γ)) = 0 then (x_X8_card_17 y1 y2 γ) else (if ((x_X8_isIn y2 1 3 γ)) = 0 then (x_X8_card_17 y1 y2 γ) else (if (gV γ 8 0 4) = ((-1)) then (x_X8_card_34 y1 y2 2 γ) else (x_X8_card_34 y1 y2 0 γ)))
def ok_X8_card (y1 : Int32) (y2 : Int32) (γ : St) : Prop := if ((x_X8_isSide y1 γ)) = 0 then (ok_X8_card_17 y1 y2 γ) else (if ((x_X8_isIn y2 1 3 γ)) = 0 then (ok_X8_card_17 y1 y2 γ) else (if (gV γ 8 0 4) = ((-1)) then (ok_X8_card_34 y1 y2 2 γ) else (ok_X8_card_34 y1 y2 0 γ)))
-- X8_next
def x_X8_next (y0 : Int64) (γ : St) : Int64 := ((1103515245 * y0) + 12345) - ((1103515245 * y0) + 12345) / 2147483648 * 2147483648
-- X8_second
def x_X8_second_135 (γ : St) : St := γ
def ok_X8_second_135 (γ : St) : Prop := True
def x_X8_second_85 (a1 : Int32) (γ : St) : St := if (gV γ 8 0 4) = ((-1)) then γ else (if (gV γ 26 0 ((a1 : Int32).toNatClampNeg)) = 180 then (if (gV γ 21 0 ((2 * a1 : Int32).toNatClampNeg)) = (gV γ 21 0 (((2 * a1) + 1 : Int32).toNatClampNeg)) then ((sV (sL γ 8 1 ((x_X8_next (gL γ 8 1) γ))) 28 0 ((a1 : Int32).toNatClampNeg) (((((x_X8_next (gL γ 8 1) γ)) / 65536) - (((x_X8_next (gL γ 8 1) γ)) / 65536) / 2 * 2 : Int64).toInt32))) else (x_X8_second_135 (x_X8_ends ((x_X8_ahead γ)) γ))) else (if (gV γ 26 0 ((a1 : Int32).toNatClampNeg)) = 240 then ((x_X8_ends (gV γ 28 0 ((a1 : Int32).toNatClampNeg)) γ)) else γ))
def ok_X8_second_85 (a1 : Int32) (γ : St) : Prop := if (gV γ 8 0 4) = ((-1)) then True else (vp_in a1 80 ∧ (if (gV γ 26 0 ((a1 : Int32).toNatClampNeg)) = 180 then (vp_in (2 * a1) 160 ∧ (vp_in ((2 * a1) + 1) 160 ∧ (if (gV γ 21 0 ((2 * a1 : Int32).toNatClampNeg)) = (gV γ 21 0 (((2 * a1) + 1 : Int32).toNatClampNeg)) then (vp_in a1 80 ∧ True) else (ok_X8_ahead γ ∧ (ok_X8_ends ((x_X8_ahead γ)) γ ∧ (ok_X8_second_135 (x_X8_ends ((x_X8_ahead γ)) γ))))))) else (vp_in a1 80 ∧ (if (gV γ 26 0 ((a1 : Int32).toNatClampNeg)) = 240 then (vp_in a1 80 ∧ (ok_X8_ends (gV γ 28 0 ((a1 : Int32).toNatClampNeg)) γ ∧ True)) else True))))
def x_X8_second_64 (a1 : Int32) (γ : St) : St := x_X8_second_85 a1 γ
def ok_X8_second_64 (a1 : Int32) (γ : St) : Prop := ok_X8_second_85 a1 γ
def x_X8_second (γ : St) : St := if ((gV γ 8 0 14) + 1) = 60 then (if (gV (sV (sV (sV (sV γ 26 0 ((gV γ 8 0 4 : Int32).toNatClampNeg) ((gV γ 26 0 ((gV γ 8 0 4 : Int32).toNatClampNeg)) + 1)) 8 0 14 ((gV γ 8 0 14) + 1)) 8 0 14 0) 27 0 ((gV γ 8 0 4 : Int32).toNatClampNeg) ((gV γ 27 0 ((gV γ 8 0 4 : Int32).toNatClampNeg)) + 1)) 27 0 ((gV γ 8 0 4 : Int32).toNatClampNeg)) = 2 then (x_X8_second_64 (gV γ 8 0 4) (x_X8_gives 3 (sV (sV (sV (sV γ 26 0 ((gV γ 8 0 4 : Int32).toNatClampNeg) ((gV γ 26 0 ((gV γ 8 0 4 : Int32).toNatClampNeg)) + 1)) 8 0 14 ((gV γ 8 0 14) + 1)) 8 0 14 0) 27 0 ((gV γ 8 0 4 : Int32).toNatClampNeg) ((gV γ 27 0 ((gV γ 8 0 4 : Int32).toNatClampNeg)) + 1)))) else (if (gV (sV (sV (sV (sV γ 26 0 ((gV γ 8 0 4 : Int32).toNatClampNeg) ((gV γ 26 0 ((gV γ 8 0 4 : Int32).toNatClampNeg)) + 1)) 8 0 14 ((gV γ 8 0 14) + 1)) 8 0 14 0) 27 0 ((gV γ 8 0 4 : Int32).toNatClampNeg) ((gV γ 27 0 ((gV γ 8 0 4 : Int32).toNatClampNeg)) + 1)) 27 0 ((gV γ 8 0 4 : Int32).toNatClampNeg)) = 3 then (x_X8_second_85 (gV γ 8 0 4) (x_X8_ends ((x_X8_ahead (sV (sV (sV (sV γ 26 0 ((gV γ 8 0 4 : Int32).toNatClampNeg) ((gV γ 26 0 ((gV γ 8 0 4 : Int32).toNatClampNeg)) + 1)) 8 0 14 ((gV γ 8 0 14) + 1)) 8 0 14 0) 27 0 ((gV γ 8 0 4 : Int32).toNatClampNeg) ((gV γ 27 0 ((gV γ 8 0 4 : Int32).toNatClampNeg)) + 1)))) (sV (sV (sV (sV γ 26 0 ((gV γ 8 0 4 : Int32).toNatClampNeg) ((gV γ 26 0 ((gV γ 8 0 4 : Int32).toNatClampNeg)) + 1)) 8 0 14 ((gV γ 8 0 14) + 1)) 8 0 14 0) 27 0 ((gV γ 8 0 4 : Int32).toNatClampNeg) ((gV γ 27 0 ((gV γ 8 0 4 : Int32).toNatClampNeg)) + 1)))) else (x_X8_second_85 (gV γ 8 0 4) (sV (sV (sV (sV γ 26 0 ((gV γ 8 0 4 : Int32).toNatClampNeg) ((gV γ 26 0 ((gV γ 8 0 4 : Int32).toNatClampNeg)) + 1)) 8 0 14 ((gV γ 8 0 14) + 1)) 8 0 14 0) 27 0 ((gV γ 8 0 4 : Int32).toNatClampNeg) ((gV γ 27 0 ((gV γ 8 0 4 : Int32).toNatClampNeg)) + 1))))) else (x_X8_second_85 (gV γ 8 0 4) (sV (sV γ 26 0 ((gV γ 8 0 4 : Int32).toNatClampNeg) ((gV γ 26 0 ((gV γ 8 0 4 : Int32).toNatClampNeg)) + 1)) 8 0 14 ((gV γ 8 0 14) + 1)))
def ok_X8_second (γ : St) : Prop := vp_in (gV γ 8 0 4) 80 ∧ (vp_in (gV γ 8 0 4) 80 ∧ (if ((gV γ 8 0 14) + 1) = 60 then (vp_in (gV γ 8 0 4) 80 ∧ (vp_in (gV γ 8 0 4) 80 ∧ (vp_in (gV γ 8 0 4) 80 ∧ (if (gV (sV (sV (sV (sV γ 26 0 ((gV γ 8 0 4 : Int32).toNatClampNeg) ((gV γ 26 0 ((gV γ 8 0 4 : Int32).toNatClampNeg)) + 1)) 8 0 14 ((gV γ 8 0 14) + 1)) 8 0 14 0) 27 0 ((gV γ 8 0 4 : Int32).toNatClampNeg) ((gV γ 27 0 ((gV γ 8 0 4 : Int32).toNatClampNeg)) + 1)) 27 0 ((gV γ 8 0 4 : Int32).toNatClampNeg)) = 2 then (ok_X8_gives 3 (sV (sV (sV (sV γ 26 0 ((gV γ 8 0 4 : Int32).toNatClampNeg) ((gV γ 26 0 ((gV γ 8 0 4 : Int32).toNatClampNeg)) + 1)) 8 0 14 ((gV γ 8 0 14) + 1)) 8 0 14 0) 27 0 ((gV γ 8 0 4 : Int32).toNatClampNeg) ((gV γ 27 0 ((gV γ 8 0 4 : Int32).toNatClampNeg)) + 1)) ∧ (ok_X8_second_64 (gV γ 8 0 4) (x_X8_gives 3 (sV (sV (sV (sV γ 26 0 ((gV γ 8 0 4 : Int32).toNatClampNeg) ((gV γ 26 0 ((gV γ 8 0 4 : Int32).toNatClampNeg)) + 1)) 8 0 14 ((gV γ 8 0 14) + 1)) 8 0 14 0) 27 0 ((gV γ 8 0 4 : Int32).toNatClampNeg) ((gV γ 27 0 ((gV γ 8 0 4 : Int32).toNatClampNeg)) + 1))))) else (vp_in (gV γ 8 0 4) 80 ∧ (if (gV (sV (sV (sV (sV γ 26 0 ((gV γ 8 0 4 : Int32).toNatClampNeg) ((gV γ 26 0 ((gV γ 8 0 4 : Int32).toNatClampNeg)) + 1)) 8 0 14 ((gV γ 8 0 14) + 1)) 8 0 14 0) 27 0 ((gV γ 8 0 4 : Int32).toNatClampNeg) ((gV γ 27 0 ((gV γ 8 0 4 : Int32).toNatClampNeg)) + 1)) 27 0 ((gV γ 8 0 4 : Int32).toNatClampNeg)) = 3 then (ok_X8_ahead (sV (sV (sV (sV γ 26 0 ((gV γ 8 0 4 : Int32).toNatClampNeg) ((gV γ 26 0 ((gV γ 8 0 4 : Int32).toNatClampNeg)) + 1)) 8 0 14 ((gV γ 8 0 14) + 1)) 8 0 14 0) 27 0 ((gV γ 8 0 4 : Int32).toNatClampNeg) ((gV γ 27 0 ((gV γ 8 0 4 : Int32).toNatClampNeg)) + 1)) ∧ (ok_X8_ends ((x_X8_ahead (sV (sV (sV (sV γ 26 0 ((gV γ 8 0 4 : Int32).toNatClampNeg) ((gV γ 26 0 ((gV γ 8 0 4 : Int32).toNatClampNeg)) + 1)) 8 0 14 ((gV γ 8 0 14) + 1)) 8 0 14 0) 27 0 ((gV γ 8 0 4 : Int32).toNatClampNeg) ((gV γ 27 0 ((gV γ 8 0 4 : Int32).toNatClampNeg)) + 1)))) (sV (sV (sV (sV γ 26 0 ((gV γ 8 0 4 : Int32).toNatClampNeg) ((gV γ 26 0 ((gV γ 8 0 4 : Int32).toNatClampNeg)) + 1)) 8 0 14 ((gV γ 8 0 14) + 1)) 8 0 14 0) 27 0 ((gV γ 8 0 4 : Int32).toNatClampNeg) ((gV γ 27 0 ((gV γ 8 0 4 : Int32).toNatClampNeg)) + 1)) ∧ (ok_X8_second_85 (gV γ 8 0 4) (x_X8_ends ((x_X8_ahead (sV (sV (sV (sV γ 26 0 ((gV γ 8 0 4 : Int32).toNatClampNeg) ((gV γ 26 0 ((gV γ 8 0 4 : Int32).toNatClampNeg)) + 1)) 8 0 14 ((gV γ 8 0 14) + 1)) 8 0 14 0) 27 0 ((gV γ 8 0 4 : Int32).toNatClampNeg) ((gV γ 27 0 ((gV γ 8 0 4 : Int32).toNatClampNeg)) + 1)))) (sV (sV (sV (sV γ 26 0 ((gV γ 8 0 4 : Int32).toNatClampNeg) ((gV γ 26 0 ((gV γ 8 0 4 : Int32).toNatClampNeg)) + 1)) 8 0 14 ((gV γ 8 0 14) + 1)) 8 0 14 0) 27 0 ((gV γ 8 0 4 : Int32).toNatClampNeg) ((gV γ 27 0 ((gV γ 8 0 4 : Int32).toNatClampNeg)) + 1)))))) else (ok_X8_second_85 (gV γ 8 0 4) (sV (sV (sV (sV γ 26 0 ((gV γ 8 0 4 : Int32).toNatClampNeg) ((gV γ 26 0 ((gV γ 8 0 4 : Int32).toNatClampNeg)) + 1)) 8 0 14 ((gV γ 8 0 14) + 1)) 8 0 14 0) 27 0 ((gV γ 8 0 4 : Int32).toNatClampNeg) ((gV γ 27 0 ((gV γ 8 0 4 : Int32).toNatClampNeg)) + 1))))))))) else (ok_X8_second_85 (gV γ 8 0 4) (sV (sV γ 26 0 ((gV γ 8 0 4 : Int32).toNatClampNeg) ((gV γ 26 0 ((gV γ 8 0 4 : Int32).toNatClampNeg)) + 1)) 8 0 14 ((gV γ 8 0 14) + 1)))))
-- X8_clock
def x_X8_clock_100 (s0 : Int32) (γ : St) : Int32 × St := (s0 - (gV γ 26 0 ((gV γ 8 0 4 : Int32).toNatClampNeg)), γ)
def ok_X8_clock_100 (s0 : Int32) (γ : St) : Prop := vp_in (gV γ 8 0 4) 80 ∧ True
def x_X8_clock_66 (γ : St) : Int32 × St := if (gV γ 8 0 4) = ((-1)) then ((0, γ)) else (if (gV γ 28 0 ((gV γ 8 0 4 : Int32).toNatClampNeg)) = ((-1)) then (x_X8_clock_100 180 γ) else (x_X8_clock_100 240 γ))
def ok_X8_clock_66 (γ : St) : Prop := if (gV γ 8 0 4) = ((-1)) then True else (vp_in (gV γ 8 0 4) 80 ∧ (if (gV γ 28 0 ((gV γ 8 0 4 : Int32).toNatClampNeg)) = ((-1)) then (ok_X8_clock_100 180 γ) else (ok_X8_clock_100 240 γ)))
def x_X8_clock_60 (K43 : Int32 → Int32 → St → Int32 × St) (a1 : Int32) (a2 : Int32) (γ : St) : Int32 × St := K43 a1 (a2 + 1) γ
def ok_X8_clock_60 (J43 : Int32 → Int32 → St → Prop) (a1 : Int32) (a2 : Int32) (γ : St) : Prop := J43 a1 (a2 + 1) γ
def x_X8_clock_43 : Nat → Int32 → Int32 → St → Int32 × St
  | 0, _, _, γ => (0, γ)
  | k43 + 1, a1, a2, γ => if a1 ≤ a2 then (x_X8_clock_66 γ) else (if (gV γ 8 0 4) = ((-1)) then (x_X8_clock_66 γ) else (x_X8_clock_60 (x_X8_clock_43 k43) a1 a2 (x_X8_second γ)))
def ok_X8_clock_43 : Nat → Int32 → Int32 → St → Prop
  | 0, _, _, _ => False
  | k43 + 1, a1, a2, γ => if a1 ≤ a2 then (ok_X8_clock_66 γ) else (if (gV γ 8 0 4) = ((-1)) then (ok_X8_clock_66 γ) else (ok_X8_second γ ∧ (ok_X8_clock_60 (ok_X8_clock_43 k43) a1 a2 (x_X8_second γ))))
def x_X8_clock_29 (a1 : Int32) (s0 : Int32) (γ : St) : Int32 × St := if s0 ≤ 0 then (x_X8_clock_43 fu a1 0 (sV γ 8 0 31 s0)) else ((0, (sV γ 8 0 31 s0)))
def ok_X8_clock_29 (a1 : Int32) (s0 : Int32) (γ : St) : Prop := if s0 ≤ 0 then (ok_X8_clock_43 fu a1 0 (sV γ 8 0 31 s0)) else True
def x_X8_clock (y1 : Int32) (γ : St) : Int32 × St := if ((x_X8_isIn y1 1 240 γ)) = 0 then (x_X8_clock_29 y1 1 γ) else (if (gV γ 8 0 4) = ((-1)) then (x_X8_clock_29 y1 2 γ) else (x_X8_clock_29 y1 0 γ))
def ok_X8_clock (y1 : Int32) (γ : St) : Prop := if ((x_X8_isIn y1 1 240 γ)) = 0 then (ok_X8_clock_29 y1 1 γ) else (if (gV γ 8 0 4) = ((-1)) then (ok_X8_clock_29 y1 2 γ) else (ok_X8_clock_29 y1 0 γ))
-- X8_end
def x_X8_end_36 (a1 : Int32) (γ : St) : Int32 × St := (a1, γ)
def ok_X8_end_36 (a1 : Int32) (γ : St) : Prop := True
def x_X8_end_14 (s0 : Int32) (γ : St) : Int32 × St := if s0 ≤ 0 then (x_X8_end_36 ((x_X8_ahead (sV γ 8 0 31 s0))) (x_X8_ends ((x_X8_ahead (sV γ 8 0 31 s0))) (sV γ 8 0 31 s0))) else ((0, (sV γ 8 0 31 s0)))
def ok_X8_end_14 (s0 : Int32) (γ : St) : Prop := if s0 ≤ 0 then (ok_X8_ahead (sV γ 8 0 31 s0) ∧ (ok_X8_ends ((x_X8_ahead (sV γ 8 0 31 s0))) (sV γ 8 0 31 s0) ∧ (ok_X8_end_36 ((x_X8_ahead (sV γ 8 0 31 s0))) (x_X8_ends ((x_X8_ahead (sV γ 8 0 31 s0))) (sV γ 8 0 31 s0))))) else True
def x_X8_end (γ : St) : Int32 × St := if (gV γ 8 0 4) = ((-1)) then (x_X8_end_14 1 γ) else (x_X8_end_14 0 γ)
def ok_X8_end (γ : St) : Prop := if (gV γ 8 0 4) = ((-1)) then (ok_X8_end_14 1 γ) else (ok_X8_end_14 0 γ)
-- X8_seed
def x_X8_seed_27 (s0 : Int64) (γ : St) : St := (sL γ 8 1 s0)
def x_X8_seed_10 (a1 : Int32) (s0 : Int32) (γ : St) : St := if 0 ≤ a1 then (x_X8_seed_27 ((a1 : Int32).toInt64) (sV γ 8 0 31 s0)) else (x_X8_seed_27 (gL γ 8 1) (sV γ 8 0 31 s0))
def x_X8_seed (y1 : Int32) (γ : St) : St := if 0 ≤ y1 then (x_X8_seed_10 y1 0 γ) else (x_X8_seed_10 y1 1 γ)
-- X8_many
def x_X8_many_4 : Nat → Int32 → Int32 → Int32 → St → Int32
  | 0, _, _, _, _ => 0
  | k4 + 1, a0, a1, a2, γ => if 32 ≤ a2 then a1 else ((x_X8_many_4 k4) a0 (a1 + ((a0 >>> (a2 &&& 31)) &&& 1)) (a2 + 1) γ)
def ok_X8_many_4 : Nat → Int32 → Int32 → Int32 → St → Prop
  | 0, _, _, _, _ => False
  | k4 + 1, a0, a1, a2, γ => if 32 ≤ a2 then True else ((ok_X8_many_4 k4) a0 (a1 + ((a0 >>> (a2 &&& 31)) &&& 1)) (a2 + 1) γ)
def x_X8_many (y0 : Int32) (γ : St) : Int32 := x_X8_many_4 fu y0 0 0 γ
def ok_X8_many (y0 : Int32) (γ : St) : Prop := ok_X8_many_4 fu y0 0 0 γ
-- X8_pool
def x_X8_pool_41 (a1 : Int32) (s0 : Int32) (γ : St) : Int32 × St := if s0 ≤ 0 then ((((gV γ 8 0 23) + 1) - 1, (sV (sV (sV γ 8 0 31 s0) 36 0 ((gV γ 8 0 23 : Int32).toNatClampNeg) a1) 8 0 23 ((gV γ 8 0 23) + 1)))) else ((0, (sV γ 8 0 31 s0)))
def ok_X8_pool_41 (a1 : Int32) (s0 : Int32) (γ : St) : Prop := if s0 ≤ 0 then (vp_in (gV γ 8 0 23) 6 ∧ True) else True
def x_X8_pool_23 (a1 : Int32) (γ : St) : Int32 × St := x_X8_pool_41 a1 1 γ
def ok_X8_pool_23 (a1 : Int32) (γ : St) : Prop := ok_X8_pool_41 a1 1 γ
def x_X8_pool (y1 : Int32) (γ : St) : Int32 × St := if y1 < 0 then (x_X8_pool_23 y1 γ) else (if (1 <<< ((gV γ 8 0 0) &&& 31)) ≤ y1 then (x_X8_pool_23 y1 γ) else (if 2 ≤ ((x_X8_many y1 γ)) then (if (gV γ 8 0 23) = 6 then (x_X8_pool_41 y1 2 γ) else (x_X8_pool_41 y1 0 γ)) else (x_X8_pool_23 y1 γ)))
def ok_X8_pool (y1 : Int32) (γ : St) : Prop := if y1 < 0 then (ok_X8_pool_23 y1 γ) else (if (1 <<< ((gV γ 8 0 0) &&& 31)) ≤ y1 then (ok_X8_pool_23 y1 γ) else (ok_X8_many y1 γ ∧ (if 2 ≤ ((x_X8_many y1 γ)) then (if (gV γ 8 0 23) = 6 then (ok_X8_pool_41 y1 2 γ) else (ok_X8_pool_41 y1 0 γ)) else (ok_X8_pool_23 y1 γ))))
-- X8_isMember
def x_X8_isMember_33 (γ : St) : Int32 := 0
def ok_X8_isMember_33 (γ : St) : Prop := True
def x_X8_isMember (y1 : Int32) (y2 : Int32) (γ : St) : Int32 := if ((x_X8_isPool y1 γ)) = 0 then (x_X8_isMember_33 γ) else (if ((x_X8_isFencer y2 γ)) = 0 then (x_X8_isMember_33 γ) else (if ((x_X8_has (gV γ 36 0 ((y1 : Int32).toNatClampNeg)) y2 γ)) = 0 then (x_X8_isMember_33 γ) else 1))
def ok_X8_isMember (y1 : Int32) (y2 : Int32) (γ : St) : Prop := if ((x_X8_isPool y1 γ)) = 0 then (ok_X8_isMember_33 γ) else (if ((x_X8_isFencer y2 γ)) = 0 then (ok_X8_isMember_33 γ) else (vp_in y1 6 ∧ (if ((x_X8_has (gV γ 36 0 ((y1 : Int32).toNatClampNeg)) y2 γ)) = 0 then (ok_X8_isMember_33 γ) else True)))
-- X8_sideIn
def x_X8_sideIn_75 (a3 : Int32) (a4 : Int32) (a5 : Int32) (s0 : Int32) (γ : St) : Int32 := if s0 = 0 then ((-1)) else (if a4 = a3 then 0 else (if a5 = a3 then 1 else ((-1))))
def ok_X8_sideIn_75 (a3 : Int32) (a4 : Int32) (a5 : Int32) (s0 : Int32) (γ : St) : Prop := if s0 = 0 then True else (if a4 = a3 then True else (if a5 = a3 then True else True))
def x_X8_sideIn_74 (a3 : Int32) (a4 : Int32) (a5 : Int32) (γ : St) : Int32 := x_X8_sideIn_75 a3 a4 a5 0 γ
def ok_X8_sideIn_74 (a3 : Int32) (a4 : Int32) (a5 : Int32) (γ : St) : Prop := ok_X8_sideIn_75 a3 a4 a5 0 γ
def x_X8_sideIn (y1 : Int32) (y2 : Int32) (y3 : Int32) (γ : St) : Int32 := if (gV γ 24 0 ((y1 : Int32).toNatClampNeg)) = y2 then (if (gV γ 25 0 ((y1 : Int32).toNatClampNeg)) = ((-1)) then (x_X8_sideIn_74 y3 (gV γ 20 0 ((2 * y1 : Int32).toNatClampNeg)) (gV γ 20 0 (((2 * y1) + 1 : Int32).toNatClampNeg)) γ) else (if ((x_X8_has (gV γ 37 0 ((y2 : Int32).toNatClampNeg)) (gV γ 20 0 ((2 * y1 : Int32).toNatClampNeg)) γ)) = 0 then (if ((x_X8_has (gV γ 37 0 ((y2 : Int32).toNatClampNeg)) (gV γ 20 0 (((2 * y1) + 1 : Int32).toNatClampNeg)) γ)) = 0 then (x_X8_sideIn_75 y3 (gV γ 20 0 ((2 * y1 : Int32).toNatClampNeg)) (gV γ 20 0 (((2 * y1) + 1 : Int32).toNatClampNeg)) 1 γ) else (x_X8_sideIn_74 y3 (gV γ 20 0 ((2 * y1 : Int32).toNatClampNeg)) (gV γ 20 0 (((2 * y1) + 1 : Int32).toNatClampNeg)) γ)) else (x_X8_sideIn_74 y3 (gV γ 20 0 ((2 * y1 : Int32).toNatClampNeg)) (gV γ 20 0 (((2 * y1) + 1 : Int32).toNatClampNeg)) γ))) else (x_X8_sideIn_74 y3 (gV γ 20 0 ((2 * y1 : Int32).toNatClampNeg)) (gV γ 20 0 (((2 * y1) + 1 : Int32).toNatClampNeg)) γ)
def ok_X8_sideIn (y1 : Int32) (y2 : Int32) (y3 : Int32) (γ : St) : Prop := vp_in (2 * y1) 160 ∧ (vp_in ((2 * y1) + 1) 160 ∧ (vp_in y1 80 ∧ (if (gV γ 24 0 ((y1 : Int32).toNatClampNeg)) = y2 then (vp_in y1 80 ∧ (if (gV γ 25 0 ((y1 : Int32).toNatClampNeg)) = ((-1)) then (ok_X8_sideIn_74 y3 (gV γ 20 0 ((2 * y1 : Int32).toNatClampNeg)) (gV γ 20 0 (((2 * y1) + 1 : Int32).toNatClampNeg)) γ) else (vp_in y2 6 ∧ (if ((x_X8_has (gV γ 37 0 ((y2 : Int32).toNatClampNeg)) (gV γ 20 0 ((2 * y1 : Int32).toNatClampNeg)) γ)) = 0 then (vp_in y2 6 ∧ (if ((x_X8_has (gV γ 37 0 ((y2 : Int32).toNatClampNeg)) (gV γ 20 0 (((2 * y1) + 1 : Int32).toNatClampNeg)) γ)) = 0 then (ok_X8_sideIn_75 y3 (gV γ 20 0 ((2 * y1 : Int32).toNatClampNeg)) (gV γ 20 0 (((2 * y1) + 1 : Int32).toNatClampNeg)) 1 γ) else (ok_X8_sideIn_74 y3 (gV γ 20 0 ((2 * y1 : Int32).toNatClampNeg)) (gV γ 20 0 (((2 * y1) + 1 : Int32).toNatClampNeg)) γ))) else (ok_X8_sideIn_74 y3 (gV γ 20 0 ((2 * y1 : Int32).toNatClampNeg)) (gV γ 20 0 (((2 * y1) + 1 : Int32).toNatClampNeg)) γ))))) else (ok_X8_sideIn_74 y3 (gV γ 20 0 ((2 * y1 : Int32).toNatClampNeg)) (gV γ 20 0 (((2 * y1) + 1 : Int32).toNatClampNeg)) γ))))
-- X8_tells
def x_X8_tells_93 (K6 : Int32 → Int32 → Int32 → Int32 → Int32 → St → Int32) (a1 : Int32) (a2 : Int32) (a3 : Int32) (a4 : Int32) (a5 : Int32) (γ : St) : Int32 := K6 a1 a2 a3 a4 (a5 + 1) γ
def ok_X8_tells_93 (J6 : Int32 → Int32 → Int32 → Int32 → Int32 → St → Prop) (a1 : Int32) (a2 : Int32) (a3 : Int32) (a4 : Int32) (a5 : Int32) (γ : St) : Prop := J6 a1 a2 a3 a4 (a5 + 1) γ
def x_X8_tells_90 (K6 : Int32 → Int32 → Int32 → Int32 → Int32 → St → Int32) (a1 : Int32) (a2 : Int32) (a3 : Int32) (a5 : Int32) (s0 : Int32) (s1 : Int32) (γ : St) : Int32 := x_X8_tells_93 K6 a1 a2 a3 (s1 + s0) a5 γ
def ok_X8_tells_90 (J6 : Int32 → Int32 → Int32 → Int32 → Int32 → St → Prop) (a1 : Int32) (a2 : Int32) (a3 : Int32) (a5 : Int32) (s0 : Int32) (s1 : Int32) (γ : St) : Prop := ok_X8_tells_93 J6 a1 a2 a3 (s1 + s0) a5 γ
def x_X8_tells_88 (K6 : Int32 → Int32 → Int32 → Int32 → Int32 → St → Int32) (a1 : Int32) (a2 : Int32) (a3 : Int32) (a5 : Int32) (s0 : Int32) (s1 : Int32) (s3 : Int32) (γ : St) : Int32 := x_X8_tells_90 K6 a1 a2 a3 a5 (gV γ 21 0 ((s1 + s0 : Int32).toNatClampNeg)) s3 γ
def ok_X8_tells_88 (J6 : Int32 → Int32 → Int32 → Int32 → Int32 → St → Prop) (a1 : Int32) (a2 : Int32) (a3 : Int32) (a5 : Int32) (s0 : Int32) (s1 : Int32) (s3 : Int32) (γ : St) : Prop := vp_in (s1 + s0) 160 ∧ (ok_X8_tells_90 J6 a1 a2 a3 a5 (gV γ 21 0 ((s1 + s0 : Int32).toNatClampNeg)) s3 γ)
def x_X8_tells_6 : Nat → Int32 → Int32 → Int32 → Int32 → Int32 → St → Int32
  | 0, _, _, _, _, _, _ => 0
  | k6 + 1, a1, a2, a3, a4, a5, γ => if (gV γ 8 0 3) ≤ a5 then a4 else (if ((x_X8_sideIn a5 a1 a2 γ)) = ((-1)) then (x_X8_tells_93 (x_X8_tells_6 k6) a1 a2 a3 a4 a5 γ) else (if a3 = 0 then (x_X8_tells_90 (x_X8_tells_6 k6) a1 a2 a3 a5 1 a4 γ) else (if a3 = 1 then (if (gV γ 25 0 ((a5 : Int32).toNatClampNeg)) = ((x_X8_sideIn a5 a1 a2 γ)) then (x_X8_tells_90 (x_X8_tells_6 k6) a1 a2 a3 a5 1 a4 γ) else (x_X8_tells_90 (x_X8_tells_6 k6) a1 a2 a3 a5 0 a4 γ)) else (if a3 = 2 then (x_X8_tells_88 (x_X8_tells_6 k6) a1 a2 a3 a5 ((x_X8_sideIn a5 a1 a2 γ)) (2 * a5) a4 γ) else (x_X8_tells_88 (x_X8_tells_6 k6) a1 a2 a3 a5 (1 - ((x_X8_sideIn a5 a1 a2 γ))) (2 * a5) a4 γ)))))
def ok_X8_tells_6 : Nat → Int32 → Int32 → Int32 → Int32 → Int32 → St → Prop
  | 0, _, _, _, _, _, _ => False
  | k6 + 1, a1, a2, a3, a4, a5, γ => if (gV γ 8 0 3) ≤ a5 then True else (ok_X8_sideIn a5 a1 a2 γ ∧ (if ((x_X8_sideIn a5 a1 a2 γ)) = ((-1)) then (ok_X8_tells_93 (ok_X8_tells_6 k6) a1 a2 a3 a4 a5 γ) else (if a3 = 0 then (ok_X8_tells_90 (ok_X8_tells_6 k6) a1 a2 a3 a5 1 a4 γ) else (if a3 = 1 then (vp_in a5 80 ∧ (if (gV γ 25 0 ((a5 : Int32).toNatClampNeg)) = ((x_X8_sideIn a5 a1 a2 γ)) then (ok_X8_tells_90 (ok_X8_tells_6 k6) a1 a2 a3 a5 1 a4 γ) else (ok_X8_tells_90 (ok_X8_tells_6 k6) a1 a2 a3 a5 0 a4 γ))) else (if a3 = 2 then (ok_X8_tells_88 (ok_X8_tells_6 k6) a1 a2 a3 a5 ((x_X8_sideIn a5 a1 a2 γ)) (2 * a5) a4 γ) else (ok_X8_tells_88 (ok_X8_tells_6 k6) a1 a2 a3 a5 (1 - ((x_X8_sideIn a5 a1 a2 γ))) (2 * a5) a4 γ))))))
def x_X8_tells (y1 : Int32) (y2 : Int32) (y3 : Int32) (γ : St) : Int32 := x_X8_tells_6 fu y1 y2 y3 0 0 γ
def ok_X8_tells (y1 : Int32) (y2 : Int32) (y3 : Int32) (γ : St) : Prop := ok_X8_tells_6 fu y1 y2 y3 0 0 γ
-- X8_withdraw
def x_X8_withdraw_109 (a1 : Int32) (a2 : Int32) (s0 : Int32) (γ : St) : Int32 × St := if s0 ≤ 0 then (((x_X8_tells a1 a2 0 (sV γ 8 0 31 s0)), (sV (sV γ 8 0 31 s0) 37 0 ((a1 : Int32).toNatClampNeg) ((gV γ 37 0 ((a1 : Int32).toNatClampNeg)) ||| (1 <<< (a2 &&& 31)))))) else ((0, (sV γ 8 0 31 s0)))
def ok_X8_withdraw_109 (a1 : Int32) (a2 : Int32) (s0 : Int32) (γ : St) : Prop := if s0 ≤ 0 then (ok_X8_tells a1 a2 0 (sV γ 8 0 31 s0) ∧ (vp_in a1 6 ∧ (vp_in a1 6 ∧ True))) else True
def x_X8_withdraw_104 (a1 : Int32) (a2 : Int32) (γ : St) : Int32 × St := x_X8_withdraw_109 a1 a2 2 γ
def ok_X8_withdraw_104 (a1 : Int32) (a2 : Int32) (γ : St) : Prop := ok_X8_withdraw_109 a1 a2 2 γ
def x_X8_withdraw_85 (a1 : Int32) (a2 : Int32) (s0 : Int32) (γ : St) : Int32 × St := if s0 = 0 then (if ((x_X8_has (gV γ 37 0 ((a1 : Int32).toNatClampNeg)) a2 γ)) = 0 then (x_X8_withdraw_109 a1 a2 0 γ) else (x_X8_withdraw_104 a1 a2 γ)) else (x_X8_withdraw_104 a1 a2 γ)
def ok_X8_withdraw_85 (a1 : Int32) (a2 : Int32) (s0 : Int32) (γ : St) : Prop := if s0 = 0 then (vp_in a1 6 ∧ (if ((x_X8_has (gV γ 37 0 ((a1 : Int32).toNatClampNeg)) a2 γ)) = 0 then (ok_X8_withdraw_109 a1 a2 0 γ) else (ok_X8_withdraw_104 a1 a2 γ))) else (ok_X8_withdraw_104 a1 a2 γ)
def x_X8_withdraw_84 (a1 : Int32) (a2 : Int32) (γ : St) : Int32 × St := x_X8_withdraw_85 a1 a2 0 γ
def ok_X8_withdraw_84 (a1 : Int32) (a2 : Int32) (γ : St) : Prop := ok_X8_withdraw_85 a1 a2 0 γ
def x_X8_withdraw_80 (a1 : Int32) (a2 : Int32) (γ : St) : Int32 × St := x_X8_withdraw_85 a1 a2 1 γ
def ok_X8_withdraw_80 (a1 : Int32) (a2 : Int32) (γ : St) : Prop := ok_X8_withdraw_85 a1 a2 1 γ
def x_X8_withdraw_15 (a1 : Int32) (a2 : Int32) (s0 : Int32) (γ : St) : Int32 × St := if s0 ≤ 0 then (if (gV γ 8 0 4) = ((-1)) then (x_X8_withdraw_84 a1 a2 (sV γ 8 0 31 s0)) else (if (gV γ 24 0 ((gV γ 8 0 4 : Int32).toNatClampNeg)) = a1 then (if (gV γ 20 0 ((2 * (gV γ 8 0 4) : Int32).toNatClampNeg)) = a2 then (x_X8_withdraw_80 a1 a2 (sV γ 8 0 31 s0)) else (if (gV γ 20 0 (((2 * (gV γ 8 0 4)) + 1 : Int32).toNatClampNeg)) = a2 then (x_X8_withdraw_80 a1 a2 (sV γ 8 0 31 s0)) else (x_X8_withdraw_84 a1 a2 (sV γ 8 0 31 s0)))) else (x_X8_withdraw_84 a1 a2 (sV γ 8 0 31 s0)))) else ((0, (sV γ 8 0 31 s0)))
def ok_X8_withdraw_15 (a1 : Int32) (a2 : Int32) (s0 : Int32) (γ : St) : Prop := if s0 ≤ 0 then (if (gV γ 8 0 4) = ((-1)) then (ok_X8_withdraw_84 a1 a2 (sV γ 8 0 31 s0)) else (vp_in (gV γ 8 0 4) 80 ∧ (if (gV γ 24 0 ((gV γ 8 0 4 : Int32).toNatClampNeg)) = a1 then (vp_in (2 * (gV γ 8 0 4)) 160 ∧ (if (gV γ 20 0 ((2 * (gV γ 8 0 4) : Int32).toNatClampNeg)) = a2 then (ok_X8_withdraw_80 a1 a2 (sV γ 8 0 31 s0)) else (vp_in ((2 * (gV γ 8 0 4)) + 1) 160 ∧ (if (gV γ 20 0 (((2 * (gV γ 8 0 4)) + 1 : Int32).toNatClampNeg)) = a2 then (ok_X8_withdraw_80 a1 a2 (sV γ 8 0 31 s0)) else (ok_X8_withdraw_84 a1 a2 (sV γ 8 0 31 s0)))))) else (ok_X8_withdraw_84 a1 a2 (sV γ 8 0 31 s0))))) else True
def x_X8_withdraw (y1 : Int32) (y2 : Int32) (γ : St) : Int32 × St := if ((x_X8_isMember y1 y2 γ)) = 0 then (x_X8_withdraw_15 y1 y2 1 γ) else (x_X8_withdraw_15 y1 y2 0 γ)
def ok_X8_withdraw (y1 : Int32) (y2 : Int32) (γ : St) : Prop := ok_X8_isMember y1 y2 γ ∧ (if ((x_X8_isMember y1 y2 γ)) = 0 then (ok_X8_withdraw_15 y1 y2 1 γ) else (ok_X8_withdraw_15 y1 y2 0 γ))
-- X8_isBetter
def x_X8_isBetter_55 (a1 : Int32) (a2 : Int32) (a3 : Int32) (s0 : Int32) (s1 : Int32) (s2 : Int32) (γ : St) : Int32 := if (s2 - (s1 * s0)) = 0 then (if (((((x_X8_tells a1 a2 2 γ)) - ((x_X8_tells a1 a2 3 γ))) - ((x_X8_tells a1 a3 2 γ))) + ((x_X8_tells a1 a3 3 γ))) = 0 then (if ((x_X8_tells a1 a2 2 γ)) = ((x_X8_tells a1 a3 2 γ)) then (if a3 ≤ a2 then 0 else 1) else (if ((x_X8_tells a1 a2 2 γ)) ≤ ((x_X8_tells a1 a3 2 γ)) then 0 else 1)) else (if (((((x_X8_tells a1 a2 2 γ)) - ((x_X8_tells a1 a2 3 γ))) - ((x_X8_tells a1 a3 2 γ))) + ((x_X8_tells a1 a3 3 γ))) ≤ 0 then 0 else 1)) else (if (s2 - (s1 * s0)) ≤ 0 then 0 else 1)
def ok_X8_isBetter_55 (a1 : Int32) (a2 : Int32) (a3 : Int32) (s0 : Int32) (s1 : Int32) (s2 : Int32) (γ : St) : Prop := if (s2 - (s1 * s0)) = 0 then (ok_X8_tells a1 a2 2 γ ∧ (ok_X8_tells a1 a3 2 γ ∧ (ok_X8_tells a1 a2 3 γ ∧ (ok_X8_tells a1 a3 3 γ ∧ (if (((((x_X8_tells a1 a2 2 γ)) - ((x_X8_tells a1 a2 3 γ))) - ((x_X8_tells a1 a3 2 γ))) + ((x_X8_tells a1 a3 3 γ))) = 0 then (if ((x_X8_tells a1 a2 2 γ)) = ((x_X8_tells a1 a3 2 γ)) then (if a3 ≤ a2 then True else True) else (if ((x_X8_tells a1 a2 2 γ)) ≤ ((x_X8_tells a1 a3 2 γ)) then True else True)) else (if (((((x_X8_tells a1 a2 2 γ)) - ((x_X8_tells a1 a2 3 γ))) - ((x_X8_tells a1 a3 2 γ))) + ((x_X8_tells a1 a3 3 γ))) ≤ 0 then True else True)))))) else (if (s2 - (s1 * s0)) ≤ 0 then True else True)
def x_X8_isBetter_36 (a1 : Int32) (a2 : Int32) (a3 : Int32) (a4 : Int32) (s0 : Int32) (s1 : Int32) (γ : St) : Int32 := if a4 = 0 then (x_X8_isBetter_55 a1 a2 a3 1 ((x_X8_tells a1 a3 1 γ)) (s1 * s0) γ) else (x_X8_isBetter_55 a1 a2 a3 a4 ((x_X8_tells a1 a3 1 γ)) (s1 * s0) γ)
def ok_X8_isBetter_36 (a1 : Int32) (a2 : Int32) (a3 : Int32) (a4 : Int32) (s0 : Int32) (s1 : Int32) (γ : St) : Prop := ok_X8_tells a1 a3 1 γ ∧ (if a4 = 0 then (ok_X8_isBetter_55 a1 a2 a3 1 ((x_X8_tells a1 a3 1 γ)) (s1 * s0) γ) else (ok_X8_isBetter_55 a1 a2 a3 a4 ((x_X8_tells a1 a3 1 γ)) (s1 * s0) γ))
def x_X8_isBetter (y1 : Int32) (y2 : Int32) (y3 : Int32) (γ : St) : Int32 := if ((x_X8_tells y1 y3 0 γ)) = 0 then (x_X8_isBetter_36 y1 y2 y3 ((x_X8_tells y1 y2 0 γ)) 1 ((x_X8_tells y1 y2 1 γ)) γ) else (x_X8_isBetter_36 y1 y2 y3 ((x_X8_tells y1 y2 0 γ)) ((x_X8_tells y1 y3 0 γ)) ((x_X8_tells y1 y2 1 γ)) γ)
def ok_X8_isBetter (y1 : Int32) (y2 : Int32) (y3 : Int32) (γ : St) : Prop := ok_X8_tells y1 y2 0 γ ∧ (ok_X8_tells y1 y3 0 γ ∧ (ok_X8_tells y1 y2 1 γ ∧ (if ((x_X8_tells y1 y3 0 γ)) = 0 then (ok_X8_isBetter_36 y1 y2 y3 ((x_X8_tells y1 y2 0 γ)) 1 ((x_X8_tells y1 y2 1 γ)) γ) else (ok_X8_isBetter_36 y1 y2 y3 ((x_X8_tells y1 y2 0 γ)) ((x_X8_tells y1 y3 0 γ)) ((x_X8_tells y1 y2 1 γ)) γ))))
-- X8_ranks
def x_X8_ranks_93 (K4 : Int32 → Int32 → Int32 → St → Int32 × St) (a1 : Int32) (a2 : Int32) (a3 : Int32) (γ : St) : Int32 × St := K4 a1 a2 (a3 + 1) γ
def ok_X8_ranks_93 (J4 : Int32 → Int32 → Int32 → St → Prop) (a1 : Int32) (a2 : Int32) (a3 : Int32) (γ : St) : Prop := J4 a1 a2 (a3 + 1) γ
def x_X8_ranks_82 (K4 : Int32 → Int32 → Int32 → St → Int32 × St) (a1 : Int32) (a2 : Int32) (a3 : Int32) (a4 : Int32) (γ : St) : Int32 × St := x_X8_ranks_93 K4 a1 (a2 + 1) a3 (sV γ 38 0 ((a4 : Int32).toNatClampNeg) a3)
def ok_X8_ranks_82 (J4 : Int32 → Int32 → Int32 → St → Prop) (a1 : Int32) (a2 : Int32) (a3 : Int32) (a4 : Int32) (γ : St) : Prop := vp_in a4 12 ∧ (ok_X8_ranks_93 J4 a1 (a2 + 1) a3 (sV γ 38 0 ((a4 : Int32).toNatClampNeg) a3))
def x_X8_ranks_37 (K4 : Int32 → Int32 → Int32 → St → Int32 × St) : Nat → Int32 → Int32 → Int32 → Int32 → St → Int32 × St
  | 0, _, _, _, _, γ => (0, γ)
  | k37 + 1, a1, a2, a3, a4, γ => if a4 ≤ 0 then (x_X8_ranks_82 K4 a1 a2 a3 a4 γ) else (if ((x_X8_isBetter a1 a3 (gV γ 38 0 ((a4 - 1 : Int32).toNatClampNeg)) γ)) = 0 then (x_X8_ranks_82 K4 a1 a2 a3 a4 γ) else ((x_X8_ranks_37 K4 k37) a1 a2 a3 (a4 + (-1)) (sV γ 38 0 ((a4 : Int32).toNatClampNeg) (gV γ 38 0 ((a4 - 1 : Int32).toNatClampNeg)))))
def ok_X8_ranks_37 (J4 : Int32 → Int32 → Int32 → St → Prop) : Nat → Int32 → Int32 → Int32 → Int32 → St → Prop
  | 0, _, _, _, _, _ => False
  | k37 + 1, a1, a2, a3, a4, γ => if a4 ≤ 0 then (ok_X8_ranks_82 J4 a1 a2 a3 a4 γ) else (vp_in (a4 - 1) 12 ∧ (ok_X8_isBetter a1 a3 (gV γ 38 0 ((a4 - 1 : Int32).toNatClampNeg)) γ ∧ (if ((x_X8_isBetter a1 a3 (gV γ 38 0 ((a4 - 1 : Int32).toNatClampNeg)) γ)) = 0 then (ok_X8_ranks_82 J4 a1 a2 a3 a4 γ) else (vp_in (a4 - 1) 12 ∧ (vp_in a4 12 ∧ ((ok_X8_ranks_37 J4 k37) a1 a2 a3 (a4 + (-1)) (sV γ 38 0 ((a4 : Int32).toNatClampNeg) (gV γ 38 0 ((a4 - 1 : Int32).toNatClampNeg)))))))))
def x_X8_ranks_4 : Nat → Int32 → Int32 → Int32 → St → Int32 × St
  | 0, _, _, _, γ => (0, γ)
  | k4 + 1, a1, a2, a3, γ => if (gV γ 8 0 0) ≤ a3 then ((a2, γ)) else (if ((x_X8_has ((gV γ 36 0 ((a1 : Int32).toNatClampNeg)) &&& ((gV γ 37 0 ((a1 : Int32).toNatClampNeg)) ^^^ ((-1)))) a3 γ)) = 0 then (x_X8_ranks_93 (x_X8_ranks_4 k4) a1 a2 a3 γ) else (x_X8_ranks_37 (x_X8_ranks_4 k4) fu a1 a2 a3 a2 γ))
def ok_X8_ranks_4 : Nat → Int32 → Int32 → Int32 → St → Prop
  | 0, _, _, _, _ => False
  | k4 + 1, a1, a2, a3, γ => if (gV γ 8 0 0) ≤ a3 then True else (vp_in a1 6 ∧ (vp_in a1 6 ∧ (if ((x_X8_has ((gV γ 36 0 ((a1 : Int32).toNatClampNeg)) &&& ((gV γ 37 0 ((a1 : Int32).toNatClampNeg)) ^^^ ((-1)))) a3 γ)) = 0 then (ok_X8_ranks_93 (ok_X8_ranks_4 k4) a1 a2 a3 γ) else (ok_X8_ranks_37 (ok_X8_ranks_4 k4) fu a1 a2 a3 a2 γ))))
def x_X8_ranks (y1 : Int32) (γ : St) : Int32 × St := x_X8_ranks_4 fu y1 0 0 γ
def ok_X8_ranks (y1 : Int32) (γ : St) : Prop := ok_X8_ranks_4 fu y1 0 0 γ
-- X8_orderAt
def x_X8_orderAt_40 (K7 : Int32 → Int32 → Int32 → Int32 → Int32 → St → Int32) (a0 : Int32) (a1 : Int32) (a3 : Int32) (a4 : Int32) (s0 : Int32) (γ : St) : Int32 := K7 a0 a1 s0 a3 a4 γ
def ok_X8_orderAt_40 (J7 : Int32 → Int32 → Int32 → Int32 → Int32 → St → Prop) (a0 : Int32) (a1 : Int32) (a3 : Int32) (a4 : Int32) (s0 : Int32) (γ : St) : Prop := J7 a0 a1 s0 a3 a4 γ
def x_X8_orderAt_7 : Nat → Int32 → Int32 → Int32 → Int32 → Int32 → St → Int32
  | 0, _, _, _, _, _, _ => 0
  | k7 + 1, a0, a1, a2, a3, a4, γ => if a0 ≤ a3 then a2 else (if ((a1 / (a4 / 2)) - (a1 / (a4 / 2)) / 2 * 2) = 0 then (x_X8_orderAt_40 (x_X8_orderAt_7 k7) a0 a1 (a3 * 2) (a4 / 2) a2 γ) else (x_X8_orderAt_40 (x_X8_orderAt_7 k7) a0 a1 (a3 * 2) (a4 / 2) (((a3 * 2) - 1) - a2) γ))
def ok_X8_orderAt_7 : Nat → Int32 → Int32 → Int32 → Int32 → Int32 → St → Prop
  | 0, _, _, _, _, _, _ => False
  | k7 + 1, a0, a1, a2, a3, a4, γ => if a0 ≤ a3 then True else ((¬ (a4 / 2) = 0) ∧ (if ((a1 / (a4 / 2)) - (a1 / (a4 / 2)) / 2 * 2) = 0 then (ok_X8_orderAt_40 (ok_X8_orderAt_7 k7) a0 a1 (a3 * 2) (a4 / 2) a2 γ) else (ok_X8_orderAt_40 (ok_X8_orderAt_7 k7) a0 a1 (a3 * 2) (a4 / 2) (((a3 * 2) - 1) - a2) γ)))
def x_X8_orderAt (y0 : Int32) (y1 : Int32) (γ : St) : Int32 := x_X8_orderAt_7 fu y0 y1 0 1 y0 γ
def ok_X8_orderAt (y0 : Int32) (y1 : Int32) (γ : St) : Prop := ok_X8_orderAt_7 fu y0 y1 0 1 y0 γ
-- X8_rounds
def x_X8_rounds (y0 : Int32) (γ : St) : Int32 := if y0 = 16 then 4 else (if y0 = 8 then 3 else (if y0 = 4 then 2 else (if y0 = 2 then 1 else 0)))
-- X8_isWon
def x_X8_isWon (y1 : Int32) (y2 : Int32) (y3 : Int32) (γ : St) : St := if ((x_X8_rounds (gV γ 8 0 27) (sV γ 40 0 (((16 * y1) + y2 : Int32).toNatClampNeg) y3))) ≤ (y1 + 1) then ((sV γ 40 0 (((16 * y1) + y2 : Int32).toNatClampNeg) y3)) else ((sV (sV γ 40 0 (((16 * y1) + y2 : Int32).toNatClampNeg) y3) 39 0 (((32 * (y1 + 1)) + y2 : Int32).toNatClampNeg) y3))
def ok_X8_isWon (y1 : Int32) (y2 : Int32) (y3 : Int32) (γ : St) : Prop := vp_in ((16 * y1) + y2) 64 ∧ (if ((x_X8_rounds (gV γ 8 0 27) (sV γ 40 0 (((16 * y1) + y2 : Int32).toNatClampNeg) y3))) ≤ (y1 + 1) then True else (vp_in ((32 * (y1 + 1)) + y2) 128 ∧ True))
-- X8_tableau
def x_X8_tableau_250 (K175 : Int32 → St → Int32 × St) (a3 : Int32) (γ : St) : Int32 × St := K175 (a3 + 1) γ
def ok_X8_tableau_250 (J175 : Int32 → St → Prop) (a3 : Int32) (γ : St) : Prop := J175 (a3 + 1) γ
def x_X8_tableau_247 (K175 : Int32 → St → Int32 × St) (a3 : Int32) (s0 : Int32) (s1 : Int32) (s2 : Int32) (γ : St) : Int32 × St := x_X8_tableau_250 K175 a3 (x_X8_isWon s2 s1 s0 γ)
def ok_X8_tableau_247 (J175 : Int32 → St → Prop) (a3 : Int32) (s0 : Int32) (s1 : Int32) (s2 : Int32) (γ : St) : Prop := ok_X8_isWon s2 s1 s0 γ ∧ (ok_X8_tableau_250 J175 a3 (x_X8_isWon s2 s1 s0 γ))
def x_X8_tableau_211 (K175 : Int32 → St → Int32 × St) (a3 : Int32) (γ : St) : Int32 × St := if (gV γ 39 0 ((2 * a3 : Int32).toNatClampNeg)) = ((-1)) then (x_X8_tableau_247 K175 a3 (gV γ 39 0 (((2 * a3) + 1 : Int32).toNatClampNeg)) a3 0 γ) else (x_X8_tableau_247 K175 a3 (gV γ 39 0 ((2 * a3 : Int32).toNatClampNeg)) a3 0 γ)
def ok_X8_tableau_211 (J175 : Int32 → St → Prop) (a3 : Int32) (γ : St) : Prop := vp_in (2 * a3) 128 ∧ (if (gV γ 39 0 ((2 * a3 : Int32).toNatClampNeg)) = ((-1)) then (vp_in ((2 * a3) + 1) 128 ∧ (ok_X8_tableau_247 J175 a3 (gV γ 39 0 (((2 * a3) + 1 : Int32).toNatClampNeg)) a3 0 γ)) else (vp_in (2 * a3) 128 ∧ (ok_X8_tableau_247 J175 a3 (gV γ 39 0 ((2 * a3 : Int32).toNatClampNeg)) a3 0 γ)))
def x_X8_tableau_175 : Nat → Int32 → St → Int32 × St
  | 0, _, γ => (0, γ)
  | k175 + 1, a3, γ => if ((gV γ 8 0 27) / 2) ≤ a3 then ((gV γ 8 0 27, γ)) else (if (gV γ 39 0 ((2 * a3 : Int32).toNatClampNeg)) = ((-1)) then (x_X8_tableau_211 (x_X8_tableau_175 k175) a3 γ) else (if (gV γ 39 0 (((2 * a3) + 1 : Int32).toNatClampNeg)) = ((-1)) then (x_X8_tableau_211 (x_X8_tableau_175 k175) a3 γ) else (x_X8_tableau_250 (x_X8_tableau_175 k175) a3 γ)))
def ok_X8_tableau_175 : Nat → Int32 → St → Prop
  | 0, _, _ => False
  | k175 + 1, a3, γ => if ((gV γ 8 0 27) / 2) ≤ a3 then True else (vp_in (2 * a3) 128 ∧ (if (gV γ 39 0 ((2 * a3 : Int32).toNatClampNeg)) = ((-1)) then (ok_X8_tableau_211 (ok_X8_tableau_175 k175) a3 γ) else (vp_in ((2 * a3) + 1) 128 ∧ (if (gV γ 39 0 (((2 * a3) + 1 : Int32).toNatClampNeg)) = ((-1)) then (ok_X8_tableau_211 (ok_X8_tableau_175 k175) a3 γ) else (ok_X8_tableau_250 (ok_X8_tableau_175 k175) a3 γ)))))
def x_X8_tableau_166 (K126 : Int32 → Int32 → St → Int32 × St) (a2 : Int32) (a3 : Int32) (s0 : Int32) (s1 : Int32) (γ : St) : Int32 × St := K126 a2 (a3 + 1) (sV γ 39 0 ((s1 : Int32).toNatClampNeg) s0)
def ok_X8_tableau_166 (J126 : Int32 → Int32 → St → Prop) (a2 : Int32) (a3 : Int32) (s0 : Int32) (s1 : Int32) (γ : St) : Prop := vp_in s1 128 ∧ (J126 a2 (a3 + 1) (sV γ 39 0 ((s1 : Int32).toNatClampNeg) s0))
def x_X8_tableau_126 : Nat → Int32 → Int32 → St → Int32 × St
  | 0, _, _, γ => (0, γ)
  | k126 + 1, a2, a3, γ => if (gV γ 8 0 27) ≤ a3 then (x_X8_tableau_175 fu 0 γ) else (if a2 ≤ ((x_X8_orderAt (gV γ 8 0 27) a3 γ)) then (x_X8_tableau_166 (x_X8_tableau_126 k126) a2 a3 ((-1)) a3 γ) else (x_X8_tableau_166 (x_X8_tableau_126 k126) a2 a3 (gV γ 38 0 (((x_X8_orderAt (gV γ 8 0 27) a3 γ) : Int32).toNatClampNeg)) a3 γ))
def ok_X8_tableau_126 : Nat → Int32 → Int32 → St → Prop
  | 0, _, _, _ => False
  | k126 + 1, a2, a3, γ => if (gV γ 8 0 27) ≤ a3 then (ok_X8_tableau_175 fu 0 γ) else (ok_X8_orderAt (gV γ 8 0 27) a3 γ ∧ (if a2 ≤ ((x_X8_orderAt (gV γ 8 0 27) a3 γ)) then (ok_X8_tableau_166 (ok_X8_tableau_126 k126) a2 a3 ((-1)) a3 γ) else (vp_in ((x_X8_orderAt (gV γ 8 0 27) a3 γ)) 12 ∧ (ok_X8_tableau_166 (ok_X8_tableau_126 k126) a2 a3 (gV γ 38 0 (((x_X8_orderAt (gV γ 8 0 27) a3 γ) : Int32).toNatClampNeg)) a3 γ))))
def x_X8_tableau_105 : Nat → Int32 → Int32 → St → Int32 × St
  | 0, _, _, γ => (0, γ)
  | k105 + 1, a2, a3, γ => if 64 ≤ a3 then (x_X8_tableau_126 fu a2 0 γ) else ((x_X8_tableau_105 k105) a2 (a3 + 1) (sV γ 40 0 ((a3 : Int32).toNatClampNeg) ((-1))))
def ok_X8_tableau_105 : Nat → Int32 → Int32 → St → Prop
  | 0, _, _, _ => False
  | k105 + 1, a2, a3, γ => if 64 ≤ a3 then (ok_X8_tableau_126 fu a2 0 γ) else (vp_in a3 64 ∧ ((ok_X8_tableau_105 k105) a2 (a3 + 1) (sV γ 40 0 ((a3 : Int32).toNatClampNeg) ((-1)))))
def x_X8_tableau_83 : Nat → Int32 → Int32 → St → Int32 × St
  | 0, _, _, γ => (0, γ)
  | k83 + 1, a2, a3, γ => if 128 ≤ a3 then (x_X8_tableau_105 fu a2 0 γ) else ((x_X8_tableau_83 k83) a2 (a3 + 1) (sV γ 39 0 ((a3 : Int32).toNatClampNeg) ((-1))))
def ok_X8_tableau_83 : Nat → Int32 → Int32 → St → Prop
  | 0, _, _, _ => False
  | k83 + 1, a2, a3, γ => if 128 ≤ a3 then (ok_X8_tableau_105 fu a2 0 γ) else (vp_in a3 128 ∧ ((ok_X8_tableau_83 k83) a2 (a3 + 1) (sV γ 39 0 ((a3 : Int32).toNatClampNeg) ((-1)))))
def x_X8_tableau_60 : Nat → Int32 → St → Int32 × St
  | 0, _, γ => (0, γ)
  | k60 + 1, a2, γ => if a2 ≤ (gV γ 8 0 27) then (x_X8_tableau_83 fu a2 0 γ) else ((x_X8_tableau_60 k60) a2 (sV γ 8 0 27 ((gV γ 8 0 27) * 2)))
def ok_X8_tableau_60 : Nat → Int32 → St → Prop
  | 0, _, _ => False
  | k60 + 1, a2, γ => if a2 ≤ (gV γ 8 0 27) then (ok_X8_tableau_83 fu a2 0 γ) else ((ok_X8_tableau_60 k60) a2 (sV γ 8 0 27 ((gV γ 8 0 27) * 2)))
def x_X8_tableau_43 (a2 : Int32) (s0 : Int32) (γ : St) : Int32 × St := if s0 ≤ 0 then (x_X8_tableau_60 fu a2 (sV (sV γ 8 0 31 s0) 8 0 27 2)) else ((0, (sV γ 8 0 31 s0)))
def ok_X8_tableau_43 (a2 : Int32) (s0 : Int32) (γ : St) : Prop := if s0 ≤ 0 then (ok_X8_tableau_60 fu a2 (sV (sV γ 8 0 31 s0) 8 0 27 2)) else True
def x_X8_tableau_31 (s0 : Int32) (γ : St) : Int32 × St := if 2 ≤ s0 then (x_X8_tableau_43 s0 0 γ) else (x_X8_tableau_43 s0 2 γ)
def ok_X8_tableau_31 (s0 : Int32) (γ : St) : Prop := if 2 ≤ s0 then (ok_X8_tableau_43 s0 0 γ) else (ok_X8_tableau_43 s0 2 γ)
def x_X8_tableau_14 (a1 : Int32) (s0 : Int32) (γ : St) : Int32 × St := if s0 ≤ 0 then (x_X8_tableau_31 ((x_X8_ranks a1 (sV γ 8 0 31 s0)).1) (x_X8_ranks a1 (sV γ 8 0 31 s0)).2) else ((0, (sV γ 8 0 31 s0)))
def ok_X8_tableau_14 (a1 : Int32) (s0 : Int32) (γ : St) : Prop := if s0 ≤ 0 then (ok_X8_ranks a1 (sV γ 8 0 31 s0) ∧ (ok_X8_tableau_31 ((x_X8_ranks a1 (sV γ 8 0 31 s0)).1) (x_X8_ranks a1 (sV γ 8 0 31 s0)).2)) else True
def x_X8_tableau (y1 : Int32) (γ : St) : Int32 × St := if ((x_X8_isPool y1 γ)) = 0 then (x_X8_tableau_14 y1 1 γ) else (x_X8_tableau_14 y1 0 γ)
def ok_X8_tableau (y1 : Int32) (γ : St) : Prop := if ((x_X8_isPool y1 γ)) = 0 then (ok_X8_tableau_14 y1 1 γ) else (ok_X8_tableau_14 y1 0 γ)
-- X8_isMatch
def x_X8_isMatch_39 (γ : St) : Int32 := 0
def x_X8_isMatch (y1 : Int32) (y2 : Int32) (γ : St) : Int32 := if ((x_X8_isIn y1 0 (((x_X8_rounds (gV γ 8 0 27) γ)) - 1) γ)) = 0 then (x_X8_isMatch_39 γ) else (if ((x_X8_isIn y2 0 (((gV γ 8 0 27) >>> ((y1 + 1) &&& 31)) - 1) γ)) = 0 then (x_X8_isMatch_39 γ) else 1)
-- X8_wins
def x_X8_wins_124 (a5 : Int32) (γ : St) : Int32 × St := (a5, γ)
def ok_X8_wins_124 (a5 : Int32) (γ : St) : Prop := True
def x_X8_wins_93 (a1 : Int32) (a2 : Int32) (a3 : Int32) (a4 : Int32) (s0 : Int32) (γ : St) : Int32 × St := if s0 ≤ 0 then (x_X8_wins_124 (gV γ 39 0 ((a4 + a3 : Int32).toNatClampNeg)) (x_X8_isWon a1 a2 (gV γ 39 0 ((a4 + a3 : Int32).toNatClampNeg)) (sV γ 8 0 31 s0))) else ((0, (sV γ 8 0 31 s0)))
def ok_X8_wins_93 (a1 : Int32) (a2 : Int32) (a3 : Int32) (a4 : Int32) (s0 : Int32) (γ : St) : Prop := if s0 ≤ 0 then (vp_in (a4 + a3) 128 ∧ (ok_X8_isWon a1 a2 (gV γ 39 0 ((a4 + a3 : Int32).toNatClampNeg)) (sV γ 8 0 31 s0) ∧ (ok_X8_wins_124 (gV γ 39 0 ((a4 + a3 : Int32).toNatClampNeg)) (x_X8_isWon a1 a2 (gV γ 39 0 ((a4 + a3 : Int32).toNatClampNeg)) (sV γ 8 0 31 s0))))) else True
def x_X8_wins_88 (a1 : Int32) (a2 : Int32) (a3 : Int32) (a4 : Int32) (γ : St) : Int32 × St := x_X8_wins_93 a1 a2 a3 a4 3 γ
def ok_X8_wins_88 (a1 : Int32) (a2 : Int32) (a3 : Int32) (a4 : Int32) (γ : St) : Prop := ok_X8_wins_93 a1 a2 a3 a4 3 γ
def x_X8_wins_26 (a1 : Int32) (a2 : Int32) (a3 : Int32) (s0 : Int32) (γ : St) : Int32 × St := if s0 ≤ 0 then (if (gV γ 39 0 (((32 * a1) + (2 * a2) : Int32).toNatClampNeg)) = ((-1)) then (x_X8_wins_88 a1 a2 a3 ((32 * a1) + (2 * a2)) (sV γ 8 0 31 s0)) else (if (gV γ 39 0 ((((32 * a1) + (2 * a2)) + 1 : Int32).toNatClampNeg)) = ((-1)) then (x_X8_wins_88 a1 a2 a3 ((32 * a1) + (2 * a2)) (sV γ 8 0 31 s0)) else (if (gV γ 40 0 (((16 * a1) + a2 : Int32).toNatClampNeg)) = ((-1)) then (x_X8_wins_93 a1 a2 a3 ((32 * a1) + (2 * a2)) 0 (sV γ 8 0 31 s0)) else (x_X8_wins_88 a1 a2 a3 ((32 * a1) + (2 * a2)) (sV γ 8 0 31 s0))))) else ((0, (sV γ 8 0 31 s0)))
def ok_X8_wins_26 (a1 : Int32) (a2 : Int32) (a3 : Int32) (s0 : Int32) (γ : St) : Prop := if s0 ≤ 0 then (vp_in ((32 * a1) + (2 * a2)) 128 ∧ (if (gV γ 39 0 (((32 * a1) + (2 * a2) : Int32).toNatClampNeg)) = ((-1)) then (ok_X8_wins_88 a1 a2 a3 ((32 * a1) + (2 * a2)) (sV γ 8 0 31 s0)) else (vp_in (((32 * a1) + (2 * a2)) + 1) 128 ∧ (if (gV γ 39 0 ((((32 * a1) + (2 * a2)) + 1 : Int32).toNatClampNeg)) = ((-1)) then (ok_X8_wins_88 a1 a2 a3 ((32 * a1) + (2 * a2)) (sV γ 8 0 31 s0)) else (vp_in ((16 * a1) + a2) 64 ∧ (if (gV γ 40 0 (((16 * a1) + a2 : Int32).toNatClampNeg)) = ((-1)) then (ok_X8_wins_93 a1 a2 a3 ((32 * a1) + (2 * a2)) 0 (sV γ 8 0 31 s0)) else (ok_X8_wins_88 a1 a2 a3 ((32 * a1) + (2 * a2)) (sV γ 8 0 31 s0)))))))) else True
def x_X8_wins (y1 : Int32) (y2 : Int32) (y3 : Int32) (γ : St) : Int32 × St := if ((x_X8_isMatch y1 y2 γ)) = 0 then (x_X8_wins_26 y1 y2 y3 1 γ) else (if ((x_X8_isSide y3 γ)) = 0 then (x_X8_wins_26 y1 y2 y3 2 γ) else (x_X8_wins_26 y1 y2 y3 0 γ))
def ok_X8_wins (y1 : Int32) (y2 : Int32) (y3 : Int32) (γ : St) : Prop := if ((x_X8_isMatch y1 y2 γ)) = 0 then (ok_X8_wins_26 y1 y2 y3 1 γ) else (if ((x_X8_isSide y3 γ)) = 0 then (ok_X8_wins_26 y1 y2 y3 2 γ) else (ok_X8_wins_26 y1 y2 y3 0 γ))
-- X8_lamp
def x_X8_lamp_13 (a1 : Int32) (s0 : Int32) (γ : St) : Int32 × St := if s0 ≤ 0 then (if ((x_X8_registered a1 (sV γ 8 0 31 s0))) = ((-1)) then (((-1), (sV γ 8 0 31 s0))) else ((gV γ 35 0 (((x_X8_registered a1 (sV γ 8 0 31 s0)) : Int32).toNatClampNeg), (sV γ 8 0 31 s0)))) else ((0, (sV γ 8 0 31 s0)))
def ok_X8_lamp_13 (a1 : Int32) (s0 : Int32) (γ : St) : Prop := if s0 ≤ 0 then (ok_X8_registered a1 (sV γ 8 0 31 s0) ∧ (if ((x_X8_registered a1 (sV γ 8 0 31 s0))) = ((-1)) then True else (vp_in ((x_X8_registered a1 (sV γ 8 0 31 s0))) 24 ∧ True))) else True
def x_X8_lamp (y1 : Int32) (γ : St) : Int32 × St := if ((x_X8_isSide y1 γ)) = 0 then (x_X8_lamp_13 y1 1 γ) else (x_X8_lamp_13 y1 0 γ)
def ok_X8_lamp (y1 : Int32) (γ : St) : Prop := if ((x_X8_isSide y1 γ)) = 0 then (ok_X8_lamp_13 y1 1 γ) else (ok_X8_lamp_13 y1 0 γ)
-- X8_holder
def x_X8_holder (γ : St) : Int32 × St := ((x_X8_rights (gV γ 8 0 17) (sV γ 8 0 31 0)).1, (x_X8_rights (gV γ 8 0 17) (sV γ 8 0 31 0)).2)
def ok_X8_holder (γ : St) : Prop := ok_X8_rights (gV γ 8 0 17) (sV γ 8 0 31 0) ∧ True
-- X8_reason
def x_X8_reason (γ : St) : Int32 × St := (gV γ 8 0 2, (sV γ 8 0 31 0))
-- X8_ofBout
def x_X8_ofBout_33 (a1 : Int32) (a2 : Int32) (s0 : Int32) (γ : St) : Int32 × St := if s0 ≤ 0 then (if 2 ≤ a2 then (if a2 = 2 then ((gV γ 25 0 ((a1 : Int32).toNatClampNeg), (sV γ 8 0 31 s0))) else (if a2 = 3 then ((gV γ 26 0 ((a1 : Int32).toNatClampNeg), (sV γ 8 0 31 s0))) else (if a2 = 4 then ((gV γ 27 0 ((a1 : Int32).toNatClampNeg), (sV γ 8 0 31 s0))) else ((gV γ 28 0 ((a1 : Int32).toNatClampNeg), (sV γ 8 0 31 s0)))))) else ((gV γ 21 0 (((2 * a1) + a2 : Int32).toNatClampNeg), (sV γ 8 0 31 s0)))) else ((0, (sV γ 8 0 31 s0)))
def ok_X8_ofBout_33 (a1 : Int32) (a2 : Int32) (s0 : Int32) (γ : St) : Prop := if s0 ≤ 0 then (if 2 ≤ a2 then (if a2 = 2 then (vp_in a1 80 ∧ True) else (if a2 = 3 then (vp_in a1 80 ∧ True) else (if a2 = 4 then (vp_in a1 80 ∧ True) else (vp_in a1 80 ∧ True)))) else (vp_in ((2 * a1) + a2) 160 ∧ True)) else True
def x_X8_ofBout (y1 : Int32) (y2 : Int32) (γ : St) : Int32 × St := if ((x_X8_isIn y1 0 ((gV γ 8 0 3) - 1) γ)) = 0 then (x_X8_ofBout_33 y1 y2 1 γ) else (if ((x_X8_isIn y2 0 5 γ)) = 0 then (x_X8_ofBout_33 y1 y2 2 γ) else (x_X8_ofBout_33 y1 y2 0 γ))
def ok_X8_ofBout (y1 : Int32) (y2 : Int32) (γ : St) : Prop := if ((x_X8_isIn y1 0 ((gV γ 8 0 3) - 1) γ)) = 0 then (ok_X8_ofBout_33 y1 y2 1 γ) else (if ((x_X8_isIn y2 0 5 γ)) = 0 then (ok_X8_ofBout_33 y1 y2 2 γ) else (ok_X8_ofBout_33 y1 y2 0 γ))
-- X8_ofPools
def x_X8_ofPools_28 (a1 : Int32) (a2 : Int32) (a3 : Int32) (s0 : Int32) (γ : St) : Int32 × St := if s0 ≤ 0 then (((x_X8_tells a1 a2 a3 (sV γ 8 0 31 s0)), (sV γ 8 0 31 s0))) else ((0, (sV γ 8 0 31 s0)))
def ok_X8_ofPools_28 (a1 : Int32) (a2 : Int32) (a3 : Int32) (s0 : Int32) (γ : St) : Prop := if s0 ≤ 0 then (ok_X8_tells a1 a2 a3 (sV γ 8 0 31 s0) ∧ True) else True
def x_X8_ofPools (y1 : Int32) (y2 : Int32) (y3 : Int32) (γ : St) : Int32 × St := if ((x_X8_isMember y1 y2 γ)) = 0 then (x_X8_ofPools_28 y1 y2 y3 1 γ) else (if ((x_X8_isIn y3 0 3 γ)) = 0 then (x_X8_ofPools_28 y1 y2 y3 2 γ) else (x_X8_ofPools_28 y1 y2 y3 0 γ))
def ok_X8_ofPools (y1 : Int32) (y2 : Int32) (y3 : Int32) (γ : St) : Prop := ok_X8_isMember y1 y2 γ ∧ (if ((x_X8_isMember y1 y2 γ)) = 0 then (ok_X8_ofPools_28 y1 y2 y3 1 γ) else (if ((x_X8_isIn y3 0 3 γ)) = 0 then (ok_X8_ofPools_28 y1 y2 y3 2 γ) else (ok_X8_ofPools_28 y1 y2 y3 0 γ)))
-- X8_ofPool
def x_X8_ofPool (y1 : Int32) (y2 : Int32) (y3 : Int32) (γ : St) : Int32 × St := ((x_X8_ofPools y1 y2 y3 γ).1, (x_X8_ofPools y1 y2 y3 γ).2)
def ok_X8_ofPool (y1 : Int32) (y2 : Int32) (y3 : Int32) (γ : St) : Prop := ok_X8_ofPools y1 y2 y3 γ ∧ True
-- X8_ofPoolAnew
def x_X8_ofPoolAnew (y1 : Int32) (y2 : Int32) (y3 : Int32) (γ : St) : Int32 × St := ((x_X8_ofPools y1 y2 y3 γ).1, (x_X8_ofPools y1 y2 y3 γ).2)
def ok_X8_ofPoolAnew (y1 : Int32) (y2 : Int32) (y3 : Int32) (γ : St) : Prop := ok_X8_ofPools y1 y2 y3 γ ∧ True
-- X8_rank
def x_X8_rank_35 (a2 : Int32) (s0 : Int32) (γ : St) : Int32 × St := if s0 ≤ a2 then (((-1), γ)) else ((gV γ 38 0 ((a2 : Int32).toNatClampNeg), γ))
def ok_X8_rank_35 (a2 : Int32) (s0 : Int32) (γ : St) : Prop := if s0 ≤ a2 then True else (vp_in a2 12 ∧ True)
def x_X8_rank_18 (a1 : Int32) (a2 : Int32) (s0 : Int32) (γ : St) : Int32 × St := if s0 ≤ 0 then (x_X8_rank_35 a2 ((x_X8_ranks a1 (sV γ 8 0 31 s0)).1) (x_X8_ranks a1 (sV γ 8 0 31 s0)).2) else ((0, (sV γ 8 0 31 s0)))
def ok_X8_rank_18 (a1 : Int32) (a2 : Int32) (s0 : Int32) (γ : St) : Prop := if s0 ≤ 0 then (ok_X8_ranks a1 (sV γ 8 0 31 s0) ∧ (ok_X8_rank_35 a2 ((x_X8_ranks a1 (sV γ 8 0 31 s0)).1) (x_X8_ranks a1 (sV γ 8 0 31 s0)).2)) else True
def x_X8_rank_17 (a1 : Int32) (a2 : Int32) (γ : St) : Int32 × St := x_X8_rank_18 a1 a2 1 γ
def ok_X8_rank_17 (a1 : Int32) (a2 : Int32) (γ : St) : Prop := ok_X8_rank_18 a1 a2 1 γ
def x_X8_rank (y1 : Int32) (y2 : Int32) (γ : St) : Int32 × St := if ((x_X8_isPool y1 γ)) = 0 then (x_X8_rank_17 y1 y2 γ) else (if y2 < 0 then (x_X8_rank_17 y1 y2 γ) else (x_X8_rank_18 y1 y2 0 γ))
def ok_X8_rank (y1 : Int32) (y2 : Int32) (γ : St) : Prop := if ((x_X8_isPool y1 γ)) = 0 then (ok_X8_rank_17 y1 y2 γ) else (if y2 < 0 then (ok_X8_rank_17 y1 y2 γ) else (ok_X8_rank_18 y1 y2 0 γ))
-- X8_meets
def x_X8_meets_28 (a1 : Int32) (a2 : Int32) (a3 : Int32) (s0 : Int32) (γ : St) : Int32 × St := if s0 ≤ 0 then (if a3 = 2 then ((gV γ 40 0 (((16 * a1) + a2 : Int32).toNatClampNeg), (sV γ 8 0 31 s0))) else ((gV γ 39 0 ((((32 * a1) + (2 * a2)) + a3 : Int32).toNatClampNeg), (sV γ 8 0 31 s0)))) else ((0, (sV γ 8 0 31 s0)))
def ok_X8_meets_28 (a1 : Int32) (a2 : Int32) (a3 : Int32) (s0 : Int32) (γ : St) : Prop := if s0 ≤ 0 then (if a3 = 2 then (vp_in ((16 * a1) + a2) 64 ∧ True) else (vp_in (((32 * a1) + (2 * a2)) + a3) 128 ∧ True)) else True
def x_X8_meets (y1 : Int32) (y2 : Int32) (y3 : Int32) (γ : St) : Int32 × St := if ((x_X8_isMatch y1 y2 γ)) = 0 then (x_X8_meets_28 y1 y2 y3 1 γ) else (if ((x_X8_isIn y3 0 2 γ)) = 0 then (x_X8_meets_28 y1 y2 y3 2 γ) else (x_X8_meets_28 y1 y2 y3 0 γ))
def ok_X8_meets (y1 : Int32) (y2 : Int32) (y3 : Int32) (γ : St) : Prop := if ((x_X8_isMatch y1 y2 γ)) = 0 then (ok_X8_meets_28 y1 y2 y3 1 γ) else (if ((x_X8_isIn y3 0 2 γ)) = 0 then (ok_X8_meets_28 y1 y2 y3 2 γ) else (ok_X8_meets_28 y1 y2 y3 0 γ))

end
