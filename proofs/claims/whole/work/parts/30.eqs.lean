/-! step equations of the functions of part 05, by program (wip/src/eqs.py) -/
def ic {α : Type} (c : Prop) [Decidable c] (a b : α) : α := if c then a else b
theorem ic_t {α : Type} [h : Decidable True] {a b : α} : ic True a b = a := if_pos trivial
theorem ic_f {α : Type} [h : Decidable False] {a b : α} : ic False a b = b := if_neg (fun h => h)
theorem lt_v {α β : Type} {v : α} {f : α → β} : lt v f = f v := Eq.trans (Eq.refl (f v)) (Eq.refl (f v))
theorem bd_v {α β : Type} {v : α} {f : α → Option β} : (some v).bind f = f v := Eq.trans (Eq.refl (f v)) (Eq.refl (f v))
theorem ic_pos {α : Type} {c : Prop} [Decidable c] {a b : α} (h : c) : ic c a b = a := if_pos h
theorem ic_neg {α : Type} {c : Prop} [Decidable c] {a b : α} (h : ¬ c) : ic c a b = b := if_neg h
theorem e_X4_copyFrom_10  (n : Nat) (a0 : Nat) (a1 : Nat) (x2 : Int32) (M : Mem) : fX4_copyFrom_10  (n + 1) a0 a1 x2 M = (ic ((M.1 a0 0) ≤ x2) ((lt (sI M a0 5 (M.1 a1 5)) fun M4 => lt (sI M4 a0 6 (M4.1 a1 6)) fun M6 => lt (sI M6 a0 7 (M6.1 a1 7)) fun M8 => lt (sI M8 a0 8 (M8.1 a1 8)) fun M10 => some M10)) ((ic (inb x2 6) (ic (inb x2 6) (lt (sI M (a0 + 1) (ix x2) (M.1 (a1 + 1) (ix x2))) fun M14 => ic (inb x2 6) (ic (inb x2 6) (lt (sI M14 (a0 + 2) (ix x2) (M14.1 (a1 + 2) (ix x2))) fun M18 => ic (inb x2 6) (ic (inb x2 6) (lt (sI M18 (a0 + 3) (ix x2) (M18.1 (a1 + 3) (ix x2))) fun M22 => ic (inb x2 6) (ic (inb x2 6) (lt (sI M22 (a0 + 4) (ix x2) (M22.1 (a1 + 4) (ix x2))) fun M26 => lt (x2 + 1) fun y28 => (fX4_copyFrom_10 n) a0 a1 y28 M26) (none)) (none)) (none)) (none)) (none)) (none)) (none)) (none))) : Option (Mem)) := by
  rw [fX4_copyFrom_10] <;> rfl
theorem e_X4_copyFrom (a0 : Nat) (a1 : Nat) (M : Mem) : fX4_copyFrom a0 a1 M = (lt (sI M a0 0 (M.1 a1 0)) fun M1 => fX4_copyFrom_10 FU a0 a1 0 M1 : Option (Mem)) := by
  unfold fX4_copyFrom <;> rfl
theorem e_X4_has (a0 : Nat) (x1 : Int32) (M : Mem) : fX4_has a0 x1 M = (ic (x1 < 0) ((some (0, M))) ((ic ((M.1 a0 0) ≤ x1) ((some (0, M))) ((some (1, M))))) : Option (Int32 × Mem)) := by
  unfold fX4_has <;> rfl
theorem e_X4_boatOn (a0 : Nat) (x1 : Int32) (M : Mem) : fX4_boatOn a0 x1 M = (ic (x1 < 0) ((some ((-1), M))) ((ic ((M.1 a0 0) ≤ x1) ((some ((-1), M))) ((ic (inb x1 6) (some (M.1 (a0 + 4) (ix x1), M)) (none))))) : Option (Int32 × Mem)) := by
  unfold fX4_boatOn <;> rfl
theorem e_X4_addBoat (a0 : Nat) (x1 : Int32) (x2 : Int32) (M : Mem) : fX4_addBoat a0 x1 x2 M = (ic (6 ≤ (M.1 a0 0)) ((some M)) ((ic (inb (M.1 a0 0) 6) (lt (sI M (a0 + 1) (ix (M.1 a0 0)) x1) fun M3 => ic (inb (M3.1 a0 0) 6) (lt (sI M3 (a0 + 2) (ix (M3.1 a0 0)) x2) fun M6 => ic (inb (M6.1 a0 0) 6) (lt (sI M6 (a0 + 3) (ix (M6.1 a0 0)) (M6.1 a0 0)) fun M9 => ic (inb (M9.1 a0 0) 6) (lt (sI M9 (a0 + 4) (ix (M9.1 a0 0)) (M9.1 a0 0)) fun M12 => lt (sI M12 a0 0 ((M12.1 a0 0) + 1)) fun M14 => some M14) (none)) (none)) (none)) (none))) : Option (Mem)) := by
  unfold fX4_addBoat <;> rfl
theorem e_X4_put (a0 : Nat) (x1 : Int32) (x2 : Int32) (M : Mem) : fX4_put a0 x1 x2 M = ((fX4_has a0 x1 M).bind fun q1 => ic (q1.1 = 0) ((some q1.2)) ((ic (x2 < 0) ((some q1.2)) ((ic ((q1.2.1 a0 0) ≤ x2) ((some q1.2)) ((ic (inb x1 6) (lt (sI q1.2 (a0 + 3) (ix x1) x2) fun M7 => ic (inb x2 6) (lt (sI M7 (a0 + 4) (ix x2) x1) fun M10 => some M10) (none)) (none))))))) : Option (Mem)) := by
  unfold fX4_put <;> rfl
theorem e_X4_changePlaces (a0 : Nat) (x1 : Int32) (x2 : Int32) (M : Mem) : fX4_changePlaces a0 x1 x2 M = ((fX4_has a0 x1 M).bind fun q1 => ic (q1.1 = 0) ((some q1.2)) (((fX4_has a0 x2 q1.2).bind fun q4 => ic (q4.1 = 0) ((some q4.2)) ((ic (inb x1 6) (lt (q4.2.1 (a0 + 3) (ix x1)) fun y8 => ic (inb x2 6) ((fX4_put a0 x1 (q4.2.1 (a0 + 3) (ix x2)) q4.2).bind fun q11 => (fX4_put a0 x2 y8 q11).bind fun q13 => some q13) (none)) (none))))) : Option (Mem)) := by
  unfold fX4_changePlaces <;> rfl
theorem e_X4_standAs_2  (n : Nat) (a0 : Nat) (a1 : Nat) (x2 : Int32) (M : Mem) : fX4_standAs_2  (n + 1) a0 a1 x2 M = (ic ((M.1 a0 0) ≤ x2) ((some M)) ((ic ((Int32.ofNat (ln a1)) ≤ x2) ((some M)) ((ic (inb x2 (ln a1)) ((fX4_put a0 (M.1 a1 (ix x2)) x2 M).bind fun q4 => lt (x2 + 1) fun y6 => (fX4_standAs_2 n) a0 a1 y6 q4) (none))))) : Option (Mem)) := by
  rw [fX4_standAs_2] <;> rfl
theorem e_X4_standAs (a0 : Nat) (a1 : Nat) (M : Mem) : fX4_standAs a0 a1 M = (fX4_standAs_2 FU a0 a1 0 M : Option (Mem)) := by
  unfold fX4_standAs <;> rfl
theorem e_X4_orderNumber_4  (n : Nat) (a0 : Nat) (x1 : Int32) (x2 : Int32) (M : Mem) : fX4_orderNumber_4  (n + 1) a0 x1 x2 M = (ic ((M.1 a0 0) ≤ x2) ((some (x1, M))) ((ic (inb x2 6) (lt ((x1 * 6) + (M.1 (a0 + 4) (ix x2))) fun y3 => lt (x2 + 1) fun y5 => (fX4_orderNumber_4 n) a0 y3 y5 M) (none))) : Option (Int32 × Mem)) := by
  rw [fX4_orderNumber_4] <;> rfl
theorem e_X4_orderNumber (a0 : Nat) (M : Mem) : fX4_orderNumber a0 M = (fX4_orderNumber_4 FU a0 0 0 M : Option (Int32 × Mem)) := by
  unfold fX4_orderNumber <;> rfl
theorem e_X4_moveToFoot_32  (n : Nat) (a0 : Nat) (x1 : Int32) (x2 : Int32) (x3 : Int32) (M : Mem) : fX4_moveToFoot_32  (n + 1) a0 x1 x2 x3 M = (ic (((M.1 a0 0) - 1) ≤ x3) (((fX4_put a0 x1 ((M.1 a0 0) - 1) M).bind fun q9 => some (x2, q9))) ((ic (inb (x3 + 1) 6) ((fX4_put a0 (M.1 (a0 + 4) (ix (x3 + 1))) x3 M).bind fun q12 => lt (x3 + 1) fun y14 => (fX4_moveToFoot_32 n) a0 x1 x2 y14 q12) (none))) : Option (Int32 × Mem)) := by
  rw [fX4_moveToFoot_32] <;> rfl
theorem e_X4_moveToFoot (a0 : Nat) (x1 : Int32) (M : Mem) : fX4_moveToFoot a0 x1 M = ((fX4_has a0 x1 M).bind fun q1 => ic (q1.1 = 0) ((some ((-1), q1.2))) ((ic (inb x1 6) (lt (q1.2.1 (a0 + 3) (ix x1)) fun y5 => ic (y5 = ((q1.2.1 a0 0) - 1)) ((some ((-2), q1.2))) ((fX4_moveToFoot_32 FU a0 x1 y5 y5 q1.2))) (none))) : Option (Int32 × Mem)) := by
  unfold fX4_moveToFoot <;> rfl
theorem e_X4_restBoat (a0 : Nat) (x1 : Int32) (M : Mem) : fX4_restBoat a0 x1 M = ((fX4_has a0 x1 M).bind fun q1 => ic (q1.1 = 0) ((some ((-1), q1.2))) ((ic (inb x1 6) (lt (q1.2.1 (a0 + 2) (ix x1)) fun y5 => ic (inb x1 6) (lt (sI q1.2 (a0 + 2) (ix x1) 0) fun M8 => ic (y5 = 0) ((some ((-2), M8))) ((some (y5, M8)))) (none)) (none))) : Option (Int32 × Mem)) := by
  unfold fX4_restBoat <;> rfl
theorem e_X4_setPace (a0 : Nat) (x1 : Int32) (x2 : Int32) (M : Mem) : fX4_setPace a0 x1 x2 M = ((fX4_has a0 x1 M).bind fun q1 => ic (q1.1 = 0) ((some ((-1), q1.2))) ((ic (x2 < 1) ((some ((-1), q1.2))) ((ic (x2 ≤ 9) ((ic (inb x1 6) (lt (q1.2.1 (a0 + 1) (ix x1)) fun y7 => ic (inb x1 6) (lt (sI q1.2 (a0 + 1) (ix x1) x2) fun M10 => ic (y7 = x2) ((some ((-2), M10))) ((some (y7, M10)))) (none)) (none))) ((some ((-1), q1.2))))))) : Option (Int32 × Mem)) := by
  unfold fX4_setPace <;> rfl
theorem e_X4_setGap (a0 : Nat) (x1 : Int32) (M : Mem) : fX4_setGap a0 x1 M = (ic (x1 < 1) ((some ((-1), M))) ((ic (x1 ≤ 30) ((lt (M.1 a0 5) fun y3 => lt (sI M a0 5 x1) fun M5 => ic (y3 = x1) ((some ((-2), M5))) ((some (y3, M5))))) ((some ((-1), M))))) : Option (Int32 × Mem)) := by
  unfold fX4_setGap <;> rfl
theorem e_X4_setStrokes (a0 : Nat) (x1 : Int32) (M : Mem) : fX4_setStrokes a0 x1 M = (ic (x1 < 1) ((some ((-1), M))) ((ic (x1 ≤ 40) ((lt (M.1 a0 6) fun y3 => lt (sI M a0 6 x1) fun M5 => ic (y3 = x1) ((some ((-2), M5))) ((some (y3, M5))))) ((some ((-1), M))))) : Option (Int32 × Mem)) := by
  unfold fX4_setStrokes <;> rfl
theorem e_X4_takeSheet_44 (k3 : Nat → Int32 → Int32 → Int32 → Int32 → Int32 → Mem → Option (Mem)) (a0 : Nat) (x1 : Int32) (x2 : Int32) (x3 : Int32) (x4 : Int32) (x5 : Int32) (s0 : Int32) (M : Mem) : fX4_takeSheet_44 k3 a0 x1 x2 x3 x4 x5 s0 M = (ic (x2 ≤ x5) ((ic (inb x5 6) (lt (sI M (a0 + 1) (ix x5) 1) fun M8 => lt (x5 + 1) fun y10 => k3 a0 x1 x2 x3 x4 y10 M8) (none))) ((ic (inb x5 6) (lt (sI M (a0 + 1) (ix x5) (if (1 : Int32) < (if s0 < (9 : Int32) then s0 else 9) then (if s0 < (9 : Int32) then s0 else 9) else 1)) fun M13 => lt (x5 + 1) fun y15 => k3 a0 x1 x2 x3 x4 y15 M13) (none))) : Option (Mem)) := by
  unfold fX4_takeSheet_44 <;> rfl
theorem e_X4_takeSheet_3  (n : Nat) (a0 : Nat) (x1 : Int32) (x2 : Int32) (x3 : Int32) (x4 : Int32) (x5 : Int32) (M : Mem) : fX4_takeSheet_3  (n + 1) a0 x1 x2 x3 x4 x5 M = (ic ((M.1 a0 0) ≤ x5) ((some M)) ((lt (x3 + (x5 * x4)) fun y2 => ic (x1 = 0) ((fX4_takeSheet_44 (fX4_takeSheet_3 n) a0 x1 x2 x3 x4 x5 y2.toInt8.toInt32 M)) ((ic (x1 = 1) ((fX4_takeSheet_44 (fX4_takeSheet_3 n) a0 x1 x2 x3 x4 x5 y2.toInt16.toInt32 M)) ((fX4_takeSheet_44 (fX4_takeSheet_3 n) a0 x1 x2 x3 x4 x5 y2 M)))))) : Option (Mem)) := by
  rw [fX4_takeSheet_3] <;> rfl
theorem e_X4_takeSheet (a0 : Nat) (x1 : Int32) (x2 : Int32) (x3 : Int32) (x4 : Int32) (M : Mem) : fX4_takeSheet a0 x1 x2 x3 x4 M = (fX4_takeSheet_3 FU a0 x1 x2 x3 x4 0 M : Option (Mem)) := by
  unfold fX4_takeSheet <;> rfl
theorem e_X4_sumOfPaces_4  (n : Nat) (a0 : Nat) (x1 : Int32) (x2 : Int32) (M : Mem) : fX4_sumOfPaces_4  (n + 1) a0 x1 x2 M = (ic ((M.1 a0 0) ≤ x2) ((some (x1, M))) ((ic (inb x2 6) (lt (x1 + (M.1 (a0 + 1) (ix x2))) fun y3 => lt (x2 + 1) fun y5 => (fX4_sumOfPaces_4 n) a0 y3 y5 M) (none))) : Option (Int32 × Mem)) := by
  rw [fX4_sumOfPaces_4] <;> rfl
theorem e_X4_sumOfPaces (a0 : Nat) (M : Mem) : fX4_sumOfPaces a0 M = (fX4_sumOfPaces_4 FU a0 0 0 M : Option (Int32 × Mem)) := by
  unfold fX4_sumOfPaces <;> rfl
theorem e_X4_sumOfTired_4  (n : Nat) (a0 : Nat) (x1 : Int32) (x2 : Int32) (M : Mem) : fX4_sumOfTired_4  (n + 1) a0 x1 x2 M = (ic ((M.1 a0 0) ≤ x2) ((some (x1, M))) ((ic (inb x2 6) (lt (x1 + (M.1 (a0 + 2) (ix x2))) fun y3 => lt (x2 + 1) fun y5 => (fX4_sumOfTired_4 n) a0 y3 y5 M) (none))) : Option (Int32 × Mem)) := by
  rw [fX4_sumOfTired_4] <;> rfl
theorem e_X4_sumOfTired (a0 : Nat) (M : Mem) : fX4_sumOfTired a0 M = (fX4_sumOfTired_4 FU a0 0 0 M : Option (Int32 × Mem)) := by
  unfold fX4_sumOfTired <;> rfl
theorem e_X8_add (x1 : Int32) (M : Mem) : fX8_add x1 M = (ic (80 ≤ (M.1 2 1)) ((some M)) ((ic (inb (M.1 2 1) 80) (lt (sI M 3 (ix (M.1 2 1)) x1) fun M3 => lt (sI M3 2 1 ((M3.1 2 1) + 1)) fun M5 => some M5) (none))) : Option (Mem)) := by
  unfold fX8_add <;> rfl
theorem e_X8_signAt (x1 : Int32) (M : Mem) : fX8_signAt x1 M = (ic (x1 < 0) ((some ((-1), M))) ((ic ((M.1 2 1) ≤ x1) ((some ((-1), M))) ((ic (inb x1 80) (some (M.1 3 (ix x1), M)) (none))))) : Option (Int32 × Mem)) := by
  unfold fX8_signAt <;> rfl
theorem e_X8_digitAt (x1 : Int32) (M : Mem) : fX8_digitAt x1 M = ((fX8_signAt x1 M).bind fun q1 => ic (q1.1 < 48) ((some ((-1), q1.2))) ((ic (57 < q1.1) ((some ((-1), q1.2))) ((some (q1.1 - 48, q1.2))))) : Option (Int32 × Mem)) := by
  unfold fX8_digitAt <;> rfl
theorem e_X5_add (x1 : Int64) (M : Mem) : fX5_add x1 M = (ic (16 ≤ (M.1 4 1)) ((some M)) ((ic (inb (M.1 4 1) 16) (lt (sJ M 5 (ix (M.1 4 1)) x1) fun M3 => lt (sI M3 4 1 ((M3.1 4 1) + 1)) fun M5 => some M5) (none))) : Option (Mem)) := by
  unfold fX5_add <;> rfl
theorem e_X5_tell (x1 : Int64) (M : Mem) : fX5_tell x1 M = (lt (sI M 4 1 0) fun M1 => (fX5_add x1 M1).bind fun q3 => some q3 : Option (Mem)) := by
  unfold fX5_tell <;> rfl
theorem e_X5_tellBoth (x1 : Int64) (x3 : Int64) (M : Mem) : fX5_tellBoth x1 x3 M = (lt (sI M 4 1 0) fun M1 => (fX5_add x1 M1).bind fun q3 => (fX5_add x3 q3).bind fun q5 => some q5 : Option (Mem)) := by
  unfold fX5_tellBoth <;> rfl
theorem e_X7_add (x1 : Int32) (x2 : Int32) (M : Mem) : fX7_add x1 x2 M = (ic (12 ≤ (M.1 105 2)) ((some M)) ((ic (inb (M.1 105 2) 12) (lt (sI M 106 (ix (M.1 105 2)) x1) fun M3 => ic (inb (M3.1 105 2) 12) (lt (sI M3 107 (ix (M3.1 105 2)) x2) fun M6 => lt (sI M6 105 2 ((M6.1 105 2) + 1)) fun M8 => some M8) (none)) (none))) : Option (Mem)) := by
  unfold fX7_add <;> rfl
theorem e_X0_draw (x1 : Int32) (M : Mem) : fX0_draw x1 M = (ic (1 ≤ x1) ((lt (sI M 141 0 (((M.1 141 0) * 1103515245) + 12345)) fun M2 => ic (¬ x1 = 0) (some ((((M2.1 141 0).toUInt32 >>> (Int32.toUInt32 16 &&& Int32.toUInt32 31)).toInt32) - (((M2.1 141 0).toUInt32 >>> (Int32.toUInt32 16 &&& Int32.toUInt32 31)).toInt32) / x1 * x1, M2)) (none))) ((some (0, M))) : Option (Int32 × Mem)) := by
  unfold fX0_draw <;> rfl
theorem e_X2_dropOldest_9  (n : Nat) (a1 : Nat) (x2 : Int32) (M : Mem) : fX2_dropOldest_9  (n + 1) a1 x2 M = (ic (14 ≤ x2) ((ic (inb 14 15) (lt (sR M 27 (ix 14) a1) fun M5 => lt (sI M5 26 1 14) fun M7 => some M7) (none))) ((ic (inb (x2 + 1) 15) (ic (inb x2 15) (lt (sR M 27 (ix x2) (M.2.2 27 (ix (x2 + 1)))) fun M12 => lt (x2 + 1) fun y14 => (fX2_dropOldest_9 n) a1 y14 M12) (none)) (none))) : Option (Mem)) := by
  rw [fX2_dropOldest_9] <;> rfl
theorem e_X2_dropOldest (M : Mem) : fX2_dropOldest M = (ic (inb 0 15) (fX2_dropOldest_9 FU (M.2.2 27 (ix 0)) 0 M) (none) : Option (Mem)) := by
  unfold fX2_dropOldest <;> rfl
theorem e_X2_push_13 (a1 : Nat) (M : Mem) : fX2_push_13 a1 M = (ic (inb (M.1 26 1) 15) ((fX4_copyFrom (M.2.2 27 (ix (M.1 26 1))) a1 M).bind fun q6 => lt (sI q6 26 1 ((q6.1 26 1) + 1)) fun M8 => some M8) (none) : Option (Mem)) := by
  unfold fX2_push_13 <;> rfl
theorem e_X2_push (a1 : Nat) (M : Mem) : fX2_push a1 M = (ic ((M.1 26 1) < 15) ((fX2_push_13 a1 M)) (((fX2_dropOldest M).bind fun q2 => fX2_push_13 a1 q2)) : Option (Mem)) := by
  unfold fX2_push <;> rfl
theorem e_X2_pop (a1 : Nat) (M : Mem) : fX2_pop a1 M = (ic (1 ≤ (M.1 26 1)) ((lt (sI M 26 1 ((M.1 26 1) - 1)) fun M2 => ic (inb (M2.1 26 1) 15) ((fX4_copyFrom a1 (M2.2.2 27 (ix (M2.1 26 1))) M2).bind fun q6 => some (1, q6)) (none))) ((some (0, M))) : Option (Int32 × Mem)) := by
  unfold fX2_pop <;> rfl
theorem e_X6_emit (a0 : Nat) (x1 : Int32) (M : Mem) : fX6_emit a0 x1 M = (ic (40 ≤ (M.1 a0 1)) ((some M)) ((ic (inb (M.1 a0 1) 40) (lt (sI M (a0 + 1) (ix (M.1 a0 1)) x1) fun M3 => lt (sI M3 a0 1 ((M3.1 a0 1) + 1)) fun M5 => some M5) (none))) : Option (Mem)) := by
  unfold fX6_emit <;> rfl
theorem e_X6_takeStandard (a0 : Nat) (M : Mem) : fX6_takeStandard a0 M = (lt (sI M a0 1 0) fun M1 => lt (sI M1 a0 2 0) fun M3 => (fX6_emit a0 (-1) M3).bind fun q5 => (fX6_emit a0 (-2) q5).bind fun q7 => (fX6_emit a0 4 q7).bind fun q9 => (fX6_emit a0 (-47) q9).bind fun q11 => (fX6_emit a0 (-45) q11).bind fun q13 => some q13 : Option (Mem)) := by
  unfold fX6_takeStandard <;> rfl
theorem e_X6_peek (a0 : Nat) (M : Mem) : fX6_peek a0 M = (ic (40 ≤ (M.1 a0 6)) ((some ((-1), M))) ((ic ((M.1 2 1) ≤ (M.1 a0 6)) ((some ((-1), M))) ((ic (inb (M.1 a0 6) 80) (some (M.1 3 (ix (M.1 a0 6)), M)) (none))))) : Option (Int32 × Mem)) := by
  unfold fX6_peek <;> rfl
theorem e_X6_readInner (rc : Nat → Int32 → Mem → Option (Int32 × Mem)) (a0 : Nat) (x1 : Int32) (M : Mem) : fX6_readInner rc a0 x1 M = (ic (x1 ≤ 4) ((lt (sI M a0 6 ((M.1 a0 6) + 1)) fun M2 => (rc a0 x1 M2).bind fun q4 => ic (q4.1 = 0) ((some (0, q4.2))) (((fX6_peek a0 q4.2).bind fun q7 => ic (q7.1 = 41) ((lt (sI q7.2 a0 6 ((q7.2.1 a0 6) + 1)) fun M10 => some (1, M10))) ((some (0, q7.2))))))) ((some (0, M))) : Option (Int32 × Mem)) := by
  unfold fX6_readInner <;> rfl
theorem e_X6_thingOf (x0 : Int32) (M : Mem) : fX6_thingOf x0 M = (ic (x0 = 98) ((some (5, M))) ((ic (x0 = 99) ((some ((-1), M))) ((ic (x0 = 100) ((some ((-1), M))) ((ic (x0 = 101) ((some ((-1), M))) ((ic (x0 = 102) ((some ((-1), M))) ((ic (x0 = 103) ((some (4, M))) ((ic (x0 = 104) ((some ((-1), M))) ((ic (x0 = 105) ((some (3, M))) ((ic (x0 = 106) ((some ((-1), M))) ((ic (x0 = 107) ((some ((-1), M))) ((ic (x0 = 108) ((some ((-1), M))) ((ic (x0 = 109) ((some ((-1), M))) ((ic (x0 = 110) ((some (6, M))) ((ic (x0 = 111) ((some ((-1), M))) ((ic (x0 = 112) ((some (0, M))) ((ic (x0 = 113) ((some ((-1), M))) ((ic (x0 = 114) ((some ((-1), M))) ((ic (x0 = 115) ((some ((-1), M))) ((ic (x0 = 116) ((some (2, M))) ((ic (x0 = 117) ((some ((-1), M))) ((ic (x0 = 118) ((some ((-1), M))) ((ic (x0 = 119) ((some ((-1), M))) ((ic (x0 = 120) ((some (1, M))) ((some ((-1), M))))))))))))))))))))))))))))))))))))))))))))))) : Option (Int32 × Mem)) := by
  unfold fX6_thingOf <;> rfl
theorem e_X6_readThing_125 (a0 : Nat) (x2 : Int32) (x3 : Int32) (M : Mem) : fX6_readThing_125 a0 x2 x3 M = ((fX6_emit a0 x2 M).bind fun q37 => ic (x3 ≤ 0) ((some (0, q37))) ((some (1, q37))) : Option (Int32 × Mem)) := by
  unfold fX6_readThing_125 <;> rfl
theorem e_X6_readThing_69  (n : Nat) (a0 : Nat) (x2 : Int32) (x3 : Int32) (x4 : Int32) (M : Mem) : fX6_readThing_69  (n + 1) a0 x2 x3 x4 M = (ic (3 ≤ x4) ((fX6_readThing_125 a0 x2 x3 M)) (((fX6_peek a0 M).bind fun q17 => ic (q17.1 < 48) ((fX6_readThing_125 a0 x2 x3 q17.2)) (((fX6_peek a0 q17.2).bind fun q20 => ic (57 < q20.1) ((fX6_readThing_125 a0 x2 x3 q20.2)) (((fX6_peek a0 q20.2).bind fun q23 => lt (((x2 * 10) + q23.1) - 48) fun y25 => lt (x3 + 1) fun y27 => lt (sI q23.2 a0 6 ((q23.2.1 a0 6) + 1)) fun M29 => lt (x4 + 1) fun y31 => (fX6_readThing_69 n) a0 y25 y27 y31 M29)))))) : Option (Int32 × Mem)) := by
  rw [fX6_readThing_69] <;> rfl
theorem e_X6_readThing_42 (a0 : Nat) (t0 : Nat) (M : Mem) : fX6_readThing_42 a0 t0 M = (lt (sI M t0 2 1) fun M33 => lt (sI M33 a0 6 ((M33.1 a0 6) + 1)) fun M35 => some (1, M35) : Option (Int32 × Mem)) := by
  unfold fX6_readThing_42 <;> rfl
theorem e_X6_readThing (a0 : Nat) (M : Mem) : fX6_readThing a0 M = ((fX6_peek a0 M).bind fun q1 => (fX6_thingOf q1.1 q1.2).bind fun q3 => ic (q3.1 < 0) ((fX6_readThing_69 FU a0 0 0 0 q3.2)) (((fX6_emit a0 ((-1) - q3.1) q3.2).bind fun q6 => ic ((q6.1 a0 2) = 0) ((ic (q3.1 = 2) ((fX6_readThing_42 a0 a0 q6)) ((ic (q3.1 = 4) ((fX6_readThing_42 a0 a0 q6)) ((ic (q3.1 = 5) ((fX6_readThing_42 a0 a0 q6)) ((lt (sI q6 a0 2 0) fun M12 => lt (sI M12 a0 6 ((M12.1 a0 6) + 1)) fun M14 => some (1, M14))))))))) ((fX6_readThing_42 a0 a0 q6)))) : Option (Int32 × Mem)) := by
  unfold fX6_readThing <;> rfl
theorem e_X6_readSigned_68 (rc : Nat → Int32 → Mem → Option (Int32 × Mem)) (a0 : Nat) (x2 : Int32) (s0 : Int32) (M : Mem) : fX6_readSigned_68 rc a0 x2 s0 M = (ic (s0 = 0) ((ic (s0 = 0 ∨ s0 = 1) (some (s0, M)) (none))) ((ic (x2 = 0) ((ic (s0 = 0 ∨ s0 = 1) (some (s0, M)) (none))) (((fX6_emit a0 (-8) M).bind fun q25 => ic (s0 = 0 ∨ s0 = 1) (some (s0, q25)) (none))))) : Option (Int32 × Mem)) := by
  unfold fX6_readSigned_68 <;> rfl
theorem e_X6_readSigned_45 (rc : Nat → Int32 → Mem → Option (Int32 × Mem)) (a0 : Nat) (x1 : Int32) (x2 : Int32) (M : Mem) : fX6_readSigned_45 rc a0 x1 x2 M = ((fX6_peek a0 M).bind fun q14 => ic (q14.1 = 40) (((fX6_readInner rc a0 (x1 + 1) q14.2).bind fun q19 => fX6_readSigned_68 rc a0 x2 q19.1 q19.2)) (((fX6_readThing a0 q14.2).bind fun q17 => fX6_readSigned_68 rc a0 x2 q17.1 q17.2)) : Option (Int32 × Mem)) := by
  unfold fX6_readSigned_45 <;> rfl
theorem e_X6_readSigned_4 (rc : Nat → Int32 → Mem → Option (Int32 × Mem)) (n : Nat) (a0 : Nat) (x1 : Int32) (x2 : Int32) (x3 : Int32) (M : Mem) : fX6_readSigned_4 rc (n + 1) a0 x1 x2 x3 M = (ic (40 ≤ x3) ((fX6_readSigned_45 rc a0 x1 x2 M)) (((fX6_peek a0 M).bind fun q2 => ic (q2.1 = 45) ((ic (x2 = 0) ((lt (sI q2.2 a0 6 ((q2.2.1 a0 6) + 1)) fun M10 => lt (x3 + 1) fun y12 => (fX6_readSigned_4 rc n) a0 x1 1 y12 M10)) ((lt (sI q2.2 a0 6 ((q2.2.1 a0 6) + 1)) fun M6 => lt (x3 + 1) fun y8 => (fX6_readSigned_4 rc n) a0 x1 0 y8 M6)))) ((fX6_readSigned_45 rc a0 x1 x2 q2.2)))) : Option (Int32 × Mem)) := by
  rw [fX6_readSigned_4] <;> rfl
theorem e_X6_readSigned (rc : Nat → Int32 → Mem → Option (Int32 × Mem)) (a0 : Nat) (x1 : Int32) (M : Mem) : fX6_readSigned rc a0 x1 M = (fX6_readSigned_4 rc FU a0 x1 0 0 M : Option (Int32 × Mem)) := by
  unfold fX6_readSigned <;> rfl
theorem e_X6_readProduct_40 (rc : Nat → Int32 → Mem → Option (Int32 × Mem)) (k8 : Nat → Int32 → Int32 → Int32 → Mem → Option (Int32 × Mem)) (a0 : Nat) (x1 : Int32) (x3 : Int32) (x4 : Int32) (M : Mem) : fX6_readProduct_40 rc k8 a0 x1 x3 x4 M = (lt (sI M a0 6 ((M.1 a0 6) + 1)) fun M11 => (fX6_readSigned rc a0 x1 M11).bind fun q13 => (fX6_emit a0 (-x4) q13.2).bind fun q15 => lt (x3 + 1) fun y17 => k8 a0 x1 q13.1 y17 q15 : Option (Int32 × Mem)) := by
  unfold fX6_readProduct_40 <;> rfl
theorem e_X6_readProduct_8 (rc : Nat → Int32 → Mem → Option (Int32 × Mem)) (n : Nat) (a0 : Nat) (x1 : Int32) (x2 : Int32) (x3 : Int32) (M : Mem) : fX6_readProduct_8 rc (n + 1) a0 x1 x2 x3 M = (ic (40 ≤ x3) ((ic (x2 = 0 ∨ x2 = 1) (some (x2, M)) (none))) ((ic (x2 = 0) ((ic (x2 = 0 ∨ x2 = 1) (some (x2, M)) (none))) (((fX6_peek a0 M).bind fun q7 => ic (q7.1 = 42) ((fX6_readProduct_40 rc (fX6_readProduct_8 rc n) a0 x1 x3 q7.1 q7.2)) ((ic (q7.1 = 47) ((fX6_readProduct_40 rc (fX6_readProduct_8 rc n) a0 x1 x3 q7.1 q7.2)) ((some (1, q7.2))))))))) : Option (Int32 × Mem)) := by
  rw [fX6_readProduct_8] <;> rfl
theorem e_X6_readProduct (rc : Nat → Int32 → Mem → Option (Int32 × Mem)) (a0 : Nat) (x1 : Int32) (M : Mem) : fX6_readProduct rc a0 x1 M = ((fX6_readSigned rc a0 x1 M).bind fun q1 => fX6_readProduct_8 rc FU a0 x1 q1.1 0 q1.2 : Option (Int32 × Mem)) := by
  unfold fX6_readProduct <;> rfl
theorem e_X6_readSum_40 (rc : Nat → Int32 → Mem → Option (Int32 × Mem)) (k8 : Nat → Int32 → Int32 → Int32 → Mem → Option (Int32 × Mem)) (a0 : Nat) (x1 : Int32) (x3 : Int32) (x4 : Int32) (M : Mem) : fX6_readSum_40 rc k8 a0 x1 x3 x4 M = (lt (sI M a0 6 ((M.1 a0 6) + 1)) fun M11 => (fX6_readProduct rc a0 x1 M11).bind fun q13 => (fX6_emit a0 (-x4) q13.2).bind fun q15 => lt (x3 + 1) fun y17 => k8 a0 x1 q13.1 y17 q15 : Option (Int32 × Mem)) := by
  unfold fX6_readSum_40 <;> rfl
theorem e_X6_readSum_8 (rc : Nat → Int32 → Mem → Option (Int32 × Mem)) (n : Nat) (a0 : Nat) (x1 : Int32) (x2 : Int32) (x3 : Int32) (M : Mem) : fX6_readSum_8 rc (n + 1) a0 x1 x2 x3 M = (ic (40 ≤ x3) ((ic (x2 = 0 ∨ x2 = 1) (some (x2, M)) (none))) ((ic (x2 = 0) ((ic (x2 = 0 ∨ x2 = 1) (some (x2, M)) (none))) (((fX6_peek a0 M).bind fun q7 => ic (q7.1 = 43) ((fX6_readSum_40 rc (fX6_readSum_8 rc n) a0 x1 x3 q7.1 q7.2)) ((ic (q7.1 = 45) ((fX6_readSum_40 rc (fX6_readSum_8 rc n) a0 x1 x3 q7.1 q7.2)) ((some (1, q7.2))))))))) : Option (Int32 × Mem)) := by
  rw [fX6_readSum_8] <;> rfl
theorem e_X6_readSum (rc : Nat → Int32 → Mem → Option (Int32 × Mem)) (a0 : Nat) (x1 : Int32) (M : Mem) : fX6_readSum rc a0 x1 M = ((fX6_readProduct rc a0 x1 M).bind fun q1 => fX6_readSum_8 rc FU a0 x1 q1.1 0 q1.2 : Option (Int32 × Mem)) := by
  unfold fX6_readSum <;> rfl
theorem e_X6_readExpression_35 (rc : Nat → Int32 → Mem → Option (Int32 × Mem)) (a0 : Nat) (x1 : Int32) (x2 : Int32) (M : Mem) : fX6_readExpression_35 rc a0 x1 x2 M = (lt (sI M a0 6 ((M.1 a0 6) + 1)) fun M9 => (fX6_readSum rc a0 x1 M9).bind fun q11 => ic (q11.1 = 0) ((some (0, q11.2))) (((fX6_emit a0 (-x2) q11.2).bind fun q14 => some (1, q14))) : Option (Int32 × Mem)) := by
  unfold fX6_readExpression_35 <;> rfl
theorem e_X6_readExpression_b (rc : Nat → Int32 → Mem → Option (Int32 × Mem)) (a0 : Nat) (x1 : Int32) (M : Mem) : fX6_readExpression_b rc a0 x1 M = ((fX6_readSum rc a0 x1 M).bind fun q1 => ic (q1.1 = 0) ((some (0, q1.2))) (((fX6_peek a0 q1.2).bind fun q4 => ic (q4.1 = 60) ((fX6_readExpression_35 rc a0 x1 q4.1 q4.2)) ((ic (q4.1 = 62) ((fX6_readExpression_35 rc a0 x1 q4.1 q4.2)) ((ic (q4.1 = 61) ((fX6_readExpression_35 rc a0 x1 q4.1 q4.2)) ((some (1, q4.2))))))))) : Option (Int32 × Mem)) := by
  unfold fX6_readExpression_b <;> rfl
theorem e_X6_readExpression  (d : Nat) (a0 : Nat) (x1 : Int32) (M : Mem) : fX6_readExpression  (d + 1) a0 x1 M = (fX6_readExpression_b (fX6_readExpression d) a0 x1 M : Option (Int32 × Mem)) := by
  rw [fX6_readExpression] <;> rfl
theorem e_X6_compile (a0 : Nat) (M : Mem) : fX6_compile a0 M = (ic ((M.1 2 1) = 0) (((fX6_takeStandard a0 M).bind fun q12 => some ((-1), q12))) ((lt (sI M a0 1 0) fun M2 => lt (sI M2 a0 2 0) fun M4 => lt (sI M4 a0 6 0) fun M6 => (fX6_readExpression 6 a0 0 M6).bind fun q8 => ic (q8.1 = 0) ((some (q8.2.1 a0 6, q8.2))) ((ic ((q8.2.1 a0 6) < (q8.2.1 2 1)) ((some (q8.2.1 a0 6, q8.2))) ((some ((-1), q8.2))))))) : Option (Int32 × Mem)) := by
  unfold fX6_compile <;> rfl
theorem e_X6_joined (x0 : Int32) (x1 : Int32) (x2 : Int32) (M : Mem) : fX6_joined x0 x1 x2 M = (ic (x0 = 42) ((some (x1 * x2, M))) ((ic (x0 = 43) ((some (x1 + x2, M))) ((ic (x0 = 45) ((some (x1 - x2, M))) ((ic (x0 = 47) ((ic (x2 = 0) ((some (0, M))) ((ic (¬ x2 = 0) (some (x1 / x2, M)) (none))))) ((ic (x0 = 60) ((ic (x2 ≤ x1) ((some (0, M))) ((some (1, M))))) ((ic (x0 = 62) ((ic (x1 ≤ x2) ((some (0, M))) ((some (1, M))))) ((ic (x1 = x2) ((some (1, M))) ((some (0, M))))))))))))))) : Option (Int32 × Mem)) := by
  unfold fX6_joined <;> rfl
theorem e_X6_feet_4  (n : Nat) (a0 : Nat) (x1 : Int32) (x2 : Int32) (M : Mem) : fX6_feet_4  (n + 1) a0 x1 x2 M = (ic ((M.1 a0 1) ≤ x2) ((ic (inb 0 40) (some (if (0 : Int32) < (if (M.1 (a0 + 3) (ix 0)) < (20 : Int32) then (M.1 (a0 + 3) (ix 0)) else 20) then (if (M.1 (a0 + 3) (ix 0)) < (20 : Int32) then (M.1 (a0 + 3) (ix 0)) else 20) else 0, M)) (none))) ((ic (inb x2 40) (lt (M.1 (a0 + 1) (ix x2)) fun y4 => ic (y4 ≤ (-8)) ((ic (y4 = (-8)) ((ic (1 ≤ x1) ((ic (inb (x1 - 1) 40) (ic (inb (x1 - 1) 40) (lt (sI M (a0 + 3) (ix (x1 - 1)) (-(M.1 (a0 + 3) (ix (x1 - 1))))) fun M23 => lt (x2 + 1) fun y25 => (fX6_feet_4 n) a0 x1 y25 M23) (none)) (none))) ((some (0, M))))) ((ic (2 ≤ x1) ((lt (x1 + (-1)) fun y9 => ic (inb (y9 - 1) 40) (ic (inb y9 40) ((fX6_joined (-y4) (M.1 (a0 + 3) (ix (y9 - 1))) (M.1 (a0 + 3) (ix y9)) M).bind fun q13 => ic (inb (y9 - 1) 40) (lt (sI q13.2 (a0 + 3) (ix (y9 - 1)) q13.1) fun M16 => lt (x2 + 1) fun y18 => (fX6_feet_4 n) a0 y9 y18 M16) (none)) (none)) (none))) ((some (0, M))))))) ((ic (x1 < 40) ((ic (y4 < 0) ((ic (inb ((-1) - y4) 7) (ic (inb x1 40) (lt (sI M (a0 + 3) (ix x1) (M.1 (a0 + 2) (ix ((-1) - y4)))) fun M31 => lt (x1 + 1) fun y33 => lt (x2 + 1) fun y35 => (fX6_feet_4 n) a0 y33 y35 M31) (none)) (none))) ((ic (inb x1 40) (lt (sI M (a0 + 3) (ix x1) y4) fun M38 => lt (x1 + 1) fun y40 => lt (x2 + 1) fun y42 => (fX6_feet_4 n) a0 y40 y42 M38) (none))))) ((some (0, M)))))) (none))) : Option (Int32 × Mem)) := by
  rw [fX6_feet_4] <;> rfl
theorem e_X6_feet (a0 : Nat) (M : Mem) : fX6_feet a0 M = (fX6_feet_4 FU a0 0 0 M : Option (Int32 × Mem)) := by
  unfold fX6_feet <;> rfl
theorem e_X3_nextAhead_4  (n : Nat) (x2 : Int32) (M : Mem) : fX3_nextAhead_4  (n + 1) x2 M = (ic (x2 < 0) ((some ((-1), M))) ((ic (inb x2 6) (ic ((M.1 110 (ix x2)) = 0) ((lt (x2 + (-1)) fun y6 => (fX3_nextAhead_4 n) y6 M)) ((some (x2, M)))) (none))) : Option (Int32 × Mem)) := by
  rw [fX3_nextAhead_4] <;> rfl
theorem e_X3_nextAhead (x1 : Int32) (M : Mem) : fX3_nextAhead x1 M = (lt (x1 - 1) fun y1 => fX3_nextAhead_4 FU y1 M : Option (Int32 × Mem)) := by
  unfold fX3_nextAhead <;> rfl
theorem e_X3_nextBehind_4  (n : Nat) (x2 : Int32) (M : Mem) : fX3_nextBehind_4  (n + 1) x2 M = (ic ((M.1 108 0) ≤ x2) ((some ((-1), M))) ((ic (inb x2 6) (ic ((M.1 110 (ix x2)) = 0) ((lt (x2 + 1) fun y6 => (fX3_nextBehind_4 n) y6 M)) ((some (x2, M)))) (none))) : Option (Int32 × Mem)) := by
  rw [fX3_nextBehind_4] <;> rfl
theorem e_X3_nextBehind (x1 : Int32) (M : Mem) : fX3_nextBehind x1 M = (lt (x1 + 1) fun y1 => fX3_nextBehind_4 FU y1 M : Option (Int32 × Mem)) := by
  unfold fX3_nextBehind <;> rfl
theorem e_X3_weigh_149 (k3 : Nat → Nat → Int32 → Int32 → Mem → Option (Mem)) (a1 : Nat) (a2 : Nat) (x3 : Int32) (x4 : Int32) (s0 : Int32) (s1 : Int32) (M : Mem) : fX3_weigh_149 k3 a1 a2 x3 x4 s0 s1 M = (ic (inb s1 7) (lt (sI M (a2 + 2) (ix s1) s0) fun M37 => ic (inb 6 7) (lt (sI M37 (a2 + 2) (ix 6) ((M37.1 a1 7) - (M37.1 a1 7) / 7 * 7)) fun M40 => (fX6_feet a2 M40).bind fun q42 => ic (inb x4 6) (lt (sI q42.2 111 (ix x4) q42.1) fun M45 => lt (x4 + 1) fun y47 => k3 a1 a2 x3 y47 M45) (none)) (none)) (none) : Option (Mem)) := by
  unfold fX3_weigh_149 <;> rfl
theorem e_X3_weigh_118 (k3 : Nat → Nat → Int32 → Int32 → Mem → Option (Mem)) (a1 : Nat) (a2 : Nat) (x3 : Int32) (x4 : Int32) (x7 : Int32) (s0 : Int32) (s1 : Int32) (M : Mem) : fX3_weigh_118 k3 a1 a2 x3 x4 x7 s0 s1 M = (ic (inb s1 7) (lt (sI M (a2 + 2) (ix s1) s0) fun M31 => ic (x7 < 0) ((fX3_weigh_149 k3 a1 a2 x3 x4 99 5 M31)) ((ic (inb x4 6) (ic (inb x7 6) (fX3_weigh_149 k3 a1 a2 x3 x4 ((M31.1 109 (ix x4)) - (M31.1 109 (ix x7))) 5 M31) (none)) (none)))) (none) : Option (Mem)) := by
  unfold fX3_weigh_118 <;> rfl
theorem e_X3_weigh_3  (n : Nat) (a1 : Nat) (a2 : Nat) (x3 : Int32) (x4 : Int32) (M : Mem) : fX3_weigh_3  (n + 1) a1 a2 x3 x4 M = (ic ((M.1 108 0) ≤ x4) ((some M)) ((ic (inb x4 6) (ic ((M.1 110 (ix x4)) = 0) ((lt (x4 + 1) fun y4 => (fX3_weigh_3 n) a1 a2 x3 y4 M)) ((ic (inb x4 6) (lt (M.1 (a1 + 4) (ix x4)) fun y7 => (fX3_nextAhead x4 M).bind fun q9 => (fX3_nextBehind x4 q9.2).bind fun q11 => ic (inb y7 6) (ic (inb 0 7) (lt (sI q11.2 (a2 + 2) (ix 0) (q11.2.1 (a1 + 1) (ix y7))) fun M15 => ic (inb y7 6) (ic (inb 1 7) (lt (sI M15 (a2 + 2) (ix 1) (M15.1 (a1 + 2) (ix y7))) fun M19 => ic (inb 2 7) (lt (sI M19 (a2 + 2) (ix 2) x3) fun M22 => ic (inb 3 7) (lt (sI M22 (a2 + 2) (ix 3) x4) fun M25 => ic (q9.1 < 0) ((fX3_weigh_118 (fX3_weigh_3 n) a1 a2 x3 x4 q11.1 99 4 M25)) ((ic (inb q9.1 6) (ic (inb x4 6) (fX3_weigh_118 (fX3_weigh_3 n) a1 a2 x3 x4 q11.1 ((M25.1 109 (ix q9.1)) - (M25.1 109 (ix x4))) 4 M25) (none)) (none)))) (none)) (none)) (none)) (none)) (none)) (none)) (none)))) (none))) : Option (Mem)) := by
  rw [fX3_weigh_3] <;> rfl
theorem e_X3_weigh (a1 : Nat) (a2 : Nat) (x3 : Int32) (M : Mem) : fX3_weigh a1 a2 x3 M = (fX3_weigh_3 FU a1 a2 x3 0 M : Option (Mem)) := by
  unfold fX3_weigh <;> rfl
theorem e_X3_begin_23  (n : Nat) (a1 : Nat) (a2 : Nat) (x3 : Int32) (M : Mem) : fX3_begin_23  (n + 1) a1 a2 x3 M = (ic ((M.1 108 0) ≤ x3) ((ic ((M.1 a2 2) = 0) (((fX3_weigh a1 a2 0 M).bind fun q9 => some q9)) ((some M)))) ((ic (inb x3 6) (lt (sI M 109 (ix x3) ((-(M.1 a1 5)) * x3)) fun M12 => ic (inb x3 6) (lt (sI M12 110 (ix x3) (1 &&& 1)) fun M15 => lt (x3 + 1) fun y17 => (fX3_begin_23 n) a1 a2 y17 M15) (none)) (none))) : Option (Mem)) := by
  rw [fX3_begin_23] <;> rfl
theorem e_X3_begin (a1 : Nat) (a2 : Nat) (M : Mem) : fX3_begin a1 a2 M = (lt (sI M 108 0 (M.1 a1 0)) fun M1 => lt (sI M1 108 4 (M1.1 108 0)) fun M3 => lt (sI M3 108 5 0) fun M5 => fX3_begin_23 FU a1 a2 0 M5 : Option (Mem)) := by
  unfold fX3_begin <;> rfl
theorem e_X3_touch (a1 : Nat) (x2 : Int32) (x3 : Int32) (x4 : Int32) (M : Mem) : fX3_touch a1 x2 x3 x4 M = (ic (inb x2 6) (lt (sI M 110 (ix x2) (0 &&& 1)) fun M2 => ic (inb x3 6) (lt (sI M2 110 (ix x3) (0 &&& 1)) fun M5 => lt (sI M5 108 4 ((M5.1 108 4) - 2)) fun M7 => ic (3 ≤ (M7.1 108 5)) ((some M7)) ((ic (inb (M7.1 108 5) 3) (lt (sI M7 112 (ix (M7.1 108 5)) x4) fun M11 => ic (inb x2 6) (ic (inb (M11.1 108 5) 3) (lt (sI M11 113 (ix (M11.1 108 5)) (M11.1 (a1 + 4) (ix x2))) fun M15 => ic (inb x3 6) (ic (inb (M15.1 108 5) 3) (lt (sI M15 114 (ix (M15.1 108 5)) (M15.1 (a1 + 4) (ix x3))) fun M19 => lt (sI M19 108 5 ((M19.1 108 5) + 1)) fun M21 => some M21) (none)) (none)) (none)) (none)) (none)))) (none)) (none) : Option (Mem)) := by
  unfold fX3_touch <;> rfl
theorem e_X3_pull_95 (k66 : Nat → Int32 → Int32 → Mem → Option (Mem)) (a1 : Nat) (x3 : Int32) (x4 : Int32) (s0 : Int32) (M : Mem) : fX3_pull_95 k66 a1 x3 x4 s0 M = (ic (s0 < 0) ((lt (x4 + 1) fun y25 => k66 a1 x3 y25 M)) ((ic (inb x4 6) (ic (inb s0 6) (ic ((M.1 109 (ix x4)) < (M.1 109 (ix s0))) ((lt (x4 + 1) fun y30 => k66 a1 x3 y30 M)) (((fX3_touch a1 x4 s0 (x3 + 1) M).bind fun q32 => lt (x4 + 1) fun y34 => k66 a1 x3 y34 q32))) (none)) (none))) : Option (Mem)) := by
  unfold fX3_pull_95 <;> rfl
theorem e_X3_pull_66  (n : Nat) (a1 : Nat) (x3 : Int32) (x4 : Int32) (M : Mem) : fX3_pull_66  (n + 1) a1 x3 x4 M = (ic ((M.1 108 0) ≤ x4) ((some M)) ((ic (inb x4 6) (ic ((M.1 110 (ix x4)) = 0) ((fX3_pull_95 (fX3_pull_66 n) a1 x3 x4 (-1) M)) (((fX3_nextAhead x4 M).bind fun q22 => fX3_pull_95 (fX3_pull_66 n) a1 x3 x4 q22.1 q22.2))) (none))) : Option (Mem)) := by
  rw [fX3_pull_66] <;> rfl
theorem e_X3_pull_17  (n : Nat) (a1 : Nat) (x3 : Int32) (x4 : Int32) (M : Mem) : fX3_pull_17  (n + 1) a1 x3 x4 M = (ic ((M.1 108 0) ≤ x4) ((fX3_pull_66 FU a1 x3 1 M)) ((ic (inb x4 6) (ic (inb x4 6) (ic ((M.1 110 (ix x4)) = 0) ((ic (inb x4 6) (lt (sI M 109 (ix x4) ((M.1 109 (ix x4)) + 0)) fun M9 => lt (x4 + 1) fun y11 => (fX3_pull_17 n) a1 x3 y11 M9) (none))) ((ic (inb x4 6) (ic (inb x4 6) (lt (sI M 109 (ix x4) ((M.1 109 (ix x4)) + (M.1 111 (ix x4)))) fun M15 => lt (x4 + 1) fun y17 => (fX3_pull_17 n) a1 x3 y17 M15) (none)) (none)))) (none)) (none))) : Option (Mem)) := by
  rw [fX3_pull_17] <;> rfl
theorem e_X3_pull (a1 : Nat) (a2 : Nat) (x3 : Int32) (M : Mem) : fX3_pull a1 a2 x3 M = (ic ((M.1 a2 2) = 0) ((fX3_pull_17 FU a1 x3 0 M)) (((fX3_weigh a1 a2 x3 M).bind fun q2 => fX3_pull_17 FU a1 x3 0 q2)) : Option (Mem)) := by
  unfold fX3_pull <;> rfl
theorem e_X3_run_8  (n : Nat) (a1 : Nat) (a2 : Nat) (x3 : Int32) (M : Mem) : fX3_run_8  (n + 1) a1 a2 x3 M = (ic ((M.1 a1 6) ≤ x3) ((some M)) ((ic ((M.1 108 4) ≤ 1) ((some M)) (((fX3_pull a1 a2 x3 M).bind fun q5 => lt (x3 + 1) fun y7 => (fX3_run_8 n) a1 a2 y7 q5)))) : Option (Mem)) := by
  rw [fX3_run_8] <;> rfl
theorem e_X3_run (a1 : Nat) (a2 : Nat) (M : Mem) : fX3_run a1 a2 M = ((fX3_begin a1 a2 M).bind fun q1 => fX3_run_8 FU a1 a2 0 q1 : Option (Mem)) := by
  unfold fX3_run <;> rfl
theorem e_X3_settle_37 (k2 : Nat → Int32 → Mem → Option (Mem)) (a1 : Nat) (x2 : Int32) (x3 : Int32) (s0 : Int32) (s1 : Int32) (M : Mem) : fX3_settle_37 k2 a1 x2 x3 s0 s1 M = (lt (s1 + s0) fun y19 => ic (inb x3 6) (lt (sI M (a1 + 2) (ix x3) (if (0 : Int32) < (if y19 < (9 : Int32) then y19 else 9) then (if y19 < (9 : Int32) then y19 else 9) else 0)) fun M22 => lt (x2 + 1) fun y24 => k2 a1 y24 M22) (none) : Option (Mem)) := by
  unfold fX3_settle_37 <;> rfl
theorem e_X3_settle_65  (n : Nat) (a1 : Nat) (x2 : Int32) (M : Mem) : fX3_settle_65  (n + 1) a1 x2 M = (ic ((M.1 108 5) ≤ x2) ((lt (sI M a1 8 (if ((M.1 a1 8) + (M.1 108 5)) < (9999 : Int32) then ((M.1 a1 8) + (M.1 108 5)) else 9999)) fun M9 => lt (sI M9 a1 7 ((M9.1 a1 7) + 1)) fun M11 => some M11)) ((ic (inb x2 3) (ic (inb x2 3) ((fX4_changePlaces a1 (M.1 113 (ix x2)) (M.1 114 (ix x2)) M).bind fun q15 => lt (x2 + 1) fun y17 => (fX3_settle_65 n) a1 y17 q15) (none)) (none))) : Option (Mem)) := by
  rw [fX3_settle_65] <;> rfl
theorem e_X3_settle_2  (n : Nat) (a1 : Nat) (x2 : Int32) (M : Mem) : fX3_settle_2  (n + 1) a1 x2 M = (ic ((M.1 108 0) ≤ x2) ((fX3_settle_65 FU a1 0 M)) ((ic (inb x2 6) (lt (M.1 (a1 + 4) (ix x2)) fun y3 => ic (inb y3 6) (ic (inb x2 6) (ic ((M.1 110 (ix x2)) = 0) ((fX3_settle_37 (fX3_settle_2 n) a1 x2 y3 (-1) (M.1 (a1 + 2) (ix y3)) M)) ((fX3_settle_37 (fX3_settle_2 n) a1 x2 y3 1 (M.1 (a1 + 2) (ix y3)) M))) (none)) (none)) (none))) : Option (Mem)) := by
  rw [fX3_settle_2] <;> rfl
theorem e_X3_settle (a1 : Nat) (M : Mem) : fX3_settle a1 M = (fX3_settle_2 FU a1 0 M : Option (Mem)) := by
  unfold fX3_settle <;> rfl
theorem e_X3_pairOf_2  (n : Nat) (a1 : Nat) (x2 : Int32) (x3 : Int32) (M : Mem) : fX3_pairOf_2  (n + 1) a1 x2 x3 M = (ic ((M.1 108 5) ≤ x3) ((some ((-1), M))) ((ic (inb x3 (ln a1)) (ic ((M.1 a1 (ix x3)) = x2) ((some (x3, M))) ((lt (x3 + 1) fun y4 => (fX3_pairOf_2 n) a1 x2 y4 M))) (none))) : Option (Int32 × Mem)) := by
  rw [fX3_pairOf_2] <;> rfl
theorem e_X3_pairOf (a1 : Nat) (x2 : Int32) (M : Mem) : fX3_pairOf a1 x2 M = (fX3_pairOf_2 FU a1 x2 0 M : Option (Int32 × Mem)) := by
  unfold fX3_pairOf <;> rfl
theorem e_X3_touchedBy (x1 : Int32) (M : Mem) : fX3_touchedBy x1 M = ((fX3_pairOf 113 x1 M).bind fun q1 => ic (q1.1 < 0) ((some ((-1), q1.2))) ((ic (inb q1.1 3) (some (q1.2.1 114 (ix q1.1), q1.2)) (none))) : Option (Int32 × Mem)) := by
  unfold fX3_touchedBy <;> rfl
theorem e_X3_toucherOf (x1 : Int32) (M : Mem) : fX3_toucherOf x1 M = ((fX3_pairOf 114 x1 M).bind fun q1 => ic (q1.1 < 0) ((some ((-1), q1.2))) ((ic (inb q1.1 3) (some (q1.2.1 113 (ix q1.1), q1.2)) (none))) : Option (Int32 × Mem)) := by
  unfold fX3_toucherOf <;> rfl
theorem e_X3_strokeBy (x1 : Int32) (M : Mem) : fX3_strokeBy x1 M = ((fX3_pairOf 113 x1 M).bind fun q1 => ic (q1.1 < 0) ((some ((-1), q1.2))) ((ic (inb q1.1 3) (some (q1.2.1 112 (ix q1.1), q1.2)) (none))) : Option (Int32 × Mem)) := by
  unfold fX3_strokeBy <;> rfl
theorem e_X3_bitsOf_4  (n : Nat) (a1 : Nat) (x2 : Int32) (x3 : Int32) (M : Mem) : fX3_bitsOf_4  (n + 1) a1 x2 x3 M = (ic ((M.1 108 5) ≤ x3) ((some (x2, M))) ((ic (inb x3 (ln a1)) (lt (x2 ||| (1 <<< ((M.1 a1 (ix x3)) &&& 31))) fun y3 => lt (x3 + 1) fun y5 => (fX3_bitsOf_4 n) a1 y3 y5 M) (none))) : Option (Int32 × Mem)) := by
  rw [fX3_bitsOf_4] <;> rfl
theorem e_X3_bitsOf (a1 : Nat) (M : Mem) : fX3_bitsOf a1 M = (fX3_bitsOf_4 FU a1 0 0 M : Option (Int32 × Mem)) := by
  unfold fX3_bitsOf <;> rfl
theorem e_X3_touchers (M : Mem) : fX3_touchers M = ((fX3_bitsOf 113 M).bind fun q1 => some (q1.1, q1.2) : Option (Int32 × Mem)) := by
  unfold fX3_touchers <;> rfl
theorem e_X3_touchedOnes (M : Mem) : fX3_touchedOnes M = ((fX3_bitsOf 114 M).bind fun q1 => some (q1.1, q1.2) : Option (Int32 × Mem)) := by
  unfold fX3_touchedOnes <;> rfl
theorem e_X3_goingOnes_4  (n : Nat) (a1 : Nat) (x2 : Int32) (x3 : Int32) (M : Mem) : fX3_goingOnes_4  (n + 1) a1 x2 x3 M = (ic ((M.1 108 0) ≤ x3) ((some (x2, M))) ((ic (inb x3 6) (ic ((M.1 110 (ix x3)) = 0) ((lt (x2 ||| 0) fun y4 => lt (x3 + 1) fun y6 => (fX3_goingOnes_4 n) a1 y4 y6 M)) ((ic (inb x3 6) (lt (x2 ||| (1 <<< ((M.1 (a1 + 4) (ix x3)) &&& 31))) fun y9 => lt (x3 + 1) fun y11 => (fX3_goingOnes_4 n) a1 y9 y11 M) (none)))) (none))) : Option (Int32 × Mem)) := by
  rw [fX3_goingOnes_4] <;> rfl
theorem e_X3_goingOnes (a1 : Nat) (M : Mem) : fX3_goingOnes a1 M = (fX3_goingOnes_4 FU a1 0 0 M : Option (Int32 × Mem)) := by
  unfold fX3_goingOnes <;> rfl
theorem e_BC (x0 : Int32) (M : Mem) : fBC x0 M = (lt (x0 - (((x0.toUInt32 >>> (Int32.toUInt32 1 &&& Int32.toUInt32 31)).toInt32) &&& 1431655765)) fun y1 => lt ((y1 &&& 858993459) + (((y1.toUInt32 >>> (Int32.toUInt32 2 &&& Int32.toUInt32 31)).toInt32) &&& 858993459)) fun y3 => lt ((y3 + ((y3.toUInt32 >>> (Int32.toUInt32 4 &&& Int32.toUInt32 31)).toInt32)) &&& 252645135) fun y5 => lt (y5 + ((y5.toUInt32 >>> (Int32.toUInt32 8 &&& Int32.toUInt32 31)).toInt32)) fun y7 => lt (y7 + ((y7.toUInt32 >>> (Int32.toUInt32 16 &&& Int32.toUInt32 31)).toInt32)) fun y9 => some (y9 &&& 63, M) : Option (Int32 × Mem)) := by
  unfold fBC <;> rfl
theorem e_X1_isFull_4  (n : Nat) (a0 : Nat) (x1 : Int32) (x2 : Int32) (x3 : Int32) (M : Mem) : fX1_isFull_4  (n + 1) a0 x1 x2 x3 M = (ic (x2 ≤ x3) ((some (1, M))) ((ic (inb x3 (ln a0)) (ic ((M.1 a0 (ix x3)) = x3) ((some (0, M))) ((ic (inb x3 (ln a0)) (ic ((M.1 a0 (ix x3)) ≤ x1) ((some (0, M))) ((ic (inb x3 (ln a0)) (ic ((M.1 a0 (ix x3)) < x2) ((lt (x3 + 1) fun y10 => (fX1_isFull_4 n) a0 x1 x2 y10 M)) ((some (0, M)))) (none)))) (none)))) (none))) : Option (Int32 × Mem)) := by
  rw [fX1_isFull_4] <;> rfl
theorem e_X1_isFull (a0 : Nat) (x1 : Int32) (x2 : Int32) (M : Mem) : fX1_isFull a0 x1 x2 M = (lt (x1 + 1) fun y1 => fX1_isFull_4 FU a0 x1 x2 y1 M : Option (Int32 × Mem)) := by
  unfold fX1_isFull <;> rfl
theorem e_X1_isLawful_2  (n : Nat) (a0 : Nat) (x1 : Int32) (x2 : Int32) (M : Mem) : fX1_isLawful_2  (n + 1) a0 x1 x2 M = (ic (x1 ≤ x2) ((some (1, M))) ((ic (inb x2 (ln a0)) (lt (M.1 a0 (ix x2)) fun y3 => ic (y3 < 0) ((some (0, M))) ((ic (x1 ≤ y3) ((some (0, M))) ((ic (inb y3 (ln a0)) (ic ((M.1 a0 (ix y3)) = x2) (((fX1_isFull a0 x2 y3 M).bind fun q9 => ic (q9.1 = 0) ((some (0, q9.2))) ((lt (x2 + 1) fun y12 => (fX1_isLawful_2 n) a0 x1 y12 q9.2)))) ((some (0, M)))) (none)))))) (none))) : Option (Int32 × Mem)) := by
  rw [fX1_isLawful_2] <;> rfl
theorem e_X1_isLawful (a0 : Nat) (x1 : Int32) (M : Mem) : fX1_isLawful a0 x1 M = (fX1_isLawful_2 FU a0 x1 0 M : Option (Int32 × Mem)) := by
  unfold fX1_isLawful <;> rfl
theorem e_X1_pairsOf_4  (n : Nat) (a0 : Nat) (x1 : Int32) (x2 : Int32) (x3 : Int32) (M : Mem) : fX1_pairsOf_4  (n + 1) a0 x1 x2 x3 M = (ic (x1 ≤ x3) ((some (x2, M))) ((ic (inb x3 (ln a0)) (ic ((M.1 a0 (ix x3)) ≤ x3) ((lt (x2 + 0) fun y4 => lt (x3 + 1) fun y6 => (fX1_pairsOf_4 n) a0 x1 y4 y6 M)) ((lt (x2 + 1) fun y8 => lt (x3 + 1) fun y10 => (fX1_pairsOf_4 n) a0 x1 y8 y10 M))) (none))) : Option (Int32 × Mem)) := by
  rw [fX1_pairsOf_4] <;> rfl
theorem e_X1_pairsOf (a0 : Nat) (x1 : Int32) (M : Mem) : fX1_pairsOf a0 x1 M = (fX1_pairsOf_4 FU a0 x1 0 0 M : Option (Int32 × Mem)) := by
  unfold fX1_pairsOf <;> rfl
theorem e_X1_nthBit_4  (n : Nat) (x0 : Int32) (x1 : Int32) (x2 : Int32) (x3 : Int32) (M : Mem) : fX1_nthBit_4  (n + 1) x0 x1 x2 x3 M = (ic (6 ≤ x3) ((some (0, M))) ((ic (((x0 >>> (x3 &&& 31)) &&& 1) = 0) ((lt (x3 + 1) fun y3 => (fX1_nthBit_4 n) x0 x1 x2 y3 M)) ((ic (x2 = x1) ((some (x3, M))) ((lt (x2 + 1) fun y6 => lt (x3 + 1) fun y8 => (fX1_nthBit_4 n) x0 x1 y6 y8 M)))))) : Option (Int32 × Mem)) := by
  rw [fX1_nthBit_4] <;> rfl
theorem e_X1_nthBit (x0 : Int32) (x1 : Int32) (M : Mem) : fX1_nthBit x0 x1 M = (fX1_nthBit_4 FU x0 x1 0 0 M : Option (Int32 × Mem)) := by
  unfold fX1_nthBit <;> rfl
theorem e_X1_unpack_50 (k20 : Int32 → Int32 → Int32 → Int32 → Mem → Option (Mem)) (x2 : Int32) (x3 : Int32) (x4 : Int32) (x5 : Int32) (s0 : Int32) (M : Mem) : fX1_unpack_50 k20 x2 x3 x4 x5 s0 M = (lt (x2 - (s0 * x3)) fun y11 => (fX1_nthBit x4 s0 M).bind fun q13 => ic (inb x5 6) (lt (sI q13.2 139 (ix x5) q13.1) fun M16 => ic (inb x5 6) (lt (x4 &&& ((1 <<< ((M16.1 139 (ix x5)) &&& 31)) ^^^ (-1))) fun y19 => lt (x5 + 1) fun y21 => k20 y11 x3 y19 y21 M16) (none)) (none) : Option (Mem)) := by
  unfold fX1_unpack_50 <;> rfl
theorem e_X1_unpack_20  (n : Nat) (x2 : Int32) (x3 : Int32) (x4 : Int32) (x5 : Int32) (M : Mem) : fX1_unpack_20  (n + 1) x2 x3 x4 x5 M = (ic ((M.1 115 0) ≤ x5) ((some M)) ((ic (¬ (M.1 115 0) - x5 = 0) (lt (x3 / ((M.1 115 0) - x5)) fun y7 => ic (y7 ≤ 0) ((fX1_unpack_50 (fX1_unpack_20 n) x2 y7 x4 x5 0 M)) ((ic (¬ y7 = 0) (fX1_unpack_50 (fX1_unpack_20 n) x2 y7 x4 x5 (x2 / y7) M) (none)))) (none))) : Option (Mem)) := by
  rw [fX1_unpack_20] <;> rfl
theorem e_X1_unpack (x1 : Int32) (M : Mem) : fX1_unpack x1 M = (lt (M.1 115 1) fun y1 => lt ((1 <<< ((M.1 115 0) &&& 31)) - 1) fun y3 => fX1_unpack_20 FU x1 y1 y3 0 M : Option (Mem)) := by
  unfold fX1_unpack <;> rfl
theorem e_X1_findSets_142 (k17 : Int32 → Mem → Option (Mem)) (x1 : Int32) (x2 : Int32) (s0 : Int32) (M : Mem) : fX1_findSets_142 k17 x1 x2 s0 M = (lt (sI M 115 4 s0) fun M33 => lt (sI M33 115 3 (if (M33.1 115 3) < x2 then x2 else (M33.1 115 3))) fun M35 => lt (x1 + 1) fun y37 => k17 y37 M35 : Option (Mem)) := by
  unfold fX1_findSets_142 <;> rfl
theorem e_X1_findSets_55 (k17 : Int32 → Mem → Option (Mem)) (n : Nat) (x1 : Int32) (x2 : Int32) (M : Mem) : fX1_findSets_55 k17 (n + 1) x1 x2 M = (ic ((M.1 115 0) ≤ x2) ((lt (sI M 115 2 ((M.1 115 2) + 1)) fun M19 => (fX1_pairsOf 139 (M19.1 115 0) M19).bind fun q21 => ic (q21.1 ≤ (q21.2.1 115 3)) ((ic (q21.1 = (q21.2.1 115 3)) ((fX1_findSets_142 k17 x1 q21.1 ((q21.2.1 115 4) + 1) q21.2)) ((fX1_findSets_142 k17 x1 q21.1 (q21.2.1 115 4) q21.2)))) ((fX1_findSets_142 k17 x1 q21.1 1 q21.2)))) ((ic (inb (M.1 115 2) 20) (ic (inb x2 6) (ic (inb x2 6) (lt (sI M (117 + ix (M.1 115 2)) (ix x2) (M.1 139 (ix x2))) fun M29 => lt (x2 + 1) fun y31 => (fX1_findSets_55 k17 n) x1 y31 M29) (none)) (none)) (none))) : Option (Mem)) := by
  rw [fX1_findSets_55] <;> rfl
theorem e_X1_findSets_17  (n : Nat) (x1 : Int32) (M : Mem) : fX1_findSets_17  (n + 1) x1 M = (ic ((M.1 115 1) ≤ x1) ((some M)) (((fX1_unpack x1 M).bind fun q8 => ic (20 ≤ (q8.1 115 2)) ((lt (x1 + 1) fun y11 => (fX1_findSets_17 n) y11 q8)) (((fX1_isLawful 139 (q8.1 115 0) q8).bind fun q13 => ic (q13.1 = 0) ((lt (x1 + 1) fun y16 => (fX1_findSets_17 n) y16 q13.2)) ((fX1_findSets_55 (fX1_findSets_17 n) FU x1 0 q13.2)))))) : Option (Mem)) := by
  rw [fX1_findSets_17] <;> rfl
theorem e_X1_findSets (M : Mem) : fX1_findSets M = (lt (sI M 115 2 0) fun M1 => lt (sI M1 115 3 0) fun M3 => lt (sI M3 115 4 0) fun M5 => fX1_findSets_17 FU 0 M5 : Option (Mem)) := by
  unfold fX1_findSets <;> rfl
theorem e_X1_numberOf_71 (x2 : Int32) (M : Mem) : fX1_numberOf_71 x2 M = (ic (x2 < 0) ((some (0, M))) ((ic ((M.1 115 1) ≤ x2) ((some (0, M))) ((some (x2, M))))) : Option (Int32 × Mem)) := by
  unfold fX1_numberOf_71 <;> rfl
theorem e_X1_numberOf_14  (n : Nat) (a1 : Nat) (x2 : Int32) (x3 : Int32) (x4 : Int32) (M : Mem) : fX1_numberOf_14  (n + 1) a1 x2 x3 x4 M = (ic ((M.1 115 0) ≤ x4) ((fX1_numberOf_71 x2 M)) ((ic ((Int32.ofNat (ln a1)) ≤ x4) ((fX1_numberOf_71 x2 M)) ((ic (inb x4 (ln a1)) (lt (1 <<< ((M.1 a1 (ix x4)) &&& 31)) fun y6 => (fBC (x3 &&& (y6 - 1)) M).bind fun q8 => lt ((x2 * ((M.1 115 0) - x4)) + q8.1) fun y10 => lt (x3 &&& (y6 ^^^ (-1))) fun y12 => lt (x4 + 1) fun y14 => (fX1_numberOf_14 n) a1 y10 y12 y14 q8.2) (none))))) : Option (Int32 × Mem)) := by
  rw [fX1_numberOf_14] <;> rfl
theorem e_X1_numberOf (a1 : Nat) (M : Mem) : fX1_numberOf a1 M = (lt ((1 <<< ((M.1 115 0) &&& 31)) - 1) fun y1 => fX1_numberOf_14 FU a1 0 y1 0 M : Option (Int32 × Mem)) := by
  unfold fX1_numberOf <;> rfl
theorem e_X1_spreadFrom_15 (k4 : Int32 → Int32 → Int32 → Mem → Option (Int32 × Mem)) (n : Nat) (x1 : Int32) (x2 : Int32) (x3 : Int32) (x4 : Int32) (M : Mem) : fX1_spreadFrom_15 k4 (n + 1) x1 x2 x3 x4 M = (ic ((M.1 115 0) ≤ x4) (((fX1_numberOf 140 M).bind fun q3 => ic (inb q3.1 720) (ic (0 ≤ (q3.2.1 137 (ix q3.1))) ((lt (x3 + 1) fun y7 => k4 x1 x2 y7 q3.2)) ((ic (inb q3.1 720) (lt (sI q3.2 137 (ix q3.1) (x1 + 1)) fun M10 => lt (x2 + 1) fun y12 => lt (x3 + 1) fun y14 => k4 x1 y12 y14 M10) (none)))) (none))) ((ic (inb x3 20) (ic (inb x4 6) (ic (inb (M.1 (117 + ix x3) (ix x4)) 6) (ic (inb x4 6) (lt (sI M 140 (ix x4) (M.1 139 (ix (M.1 (117 + ix x3) (ix x4))))) fun M21 => lt (x4 + 1) fun y23 => (fX1_spreadFrom_15 k4 n) x1 x2 x3 y23 M21) (none)) (none)) (none)) (none))) : Option (Int32 × Mem)) := by
  rw [fX1_spreadFrom_15] <;> rfl
theorem e_X1_spreadFrom_4  (n : Nat) (x1 : Int32) (x2 : Int32) (x3 : Int32) (M : Mem) : fX1_spreadFrom_4  (n + 1) x1 x2 x3 M = (ic ((M.1 115 2) ≤ x3) ((some (x2, M))) ((fX1_spreadFrom_15 (fX1_spreadFrom_4 n) FU x1 x2 x3 0 M)) : Option (Int32 × Mem)) := by
  rw [fX1_spreadFrom_4] <;> rfl
theorem e_X1_spreadFrom (x1 : Int32) (M : Mem) : fX1_spreadFrom x1 M = (fX1_spreadFrom_4 FU x1 0 0 M : Option (Int32 × Mem)) := by
  unfold fX1_spreadFrom <;> rfl
theorem e_X1_findDays_50 (k34 : Int32 → Int32 → Mem → Option (Mem)) (n : Nat) (x1 : Int32) (x2 : Int32) (x3 : Int32) (M : Mem) : fX1_findDays_50 k34 (n + 1) x1 x2 x3 M = (ic ((M.1 115 1) ≤ x3) ((lt (x2 + 1) fun y13 => k34 x1 y13 M)) ((ic (inb x3 720) (ic ((M.1 137 (ix x3)) = x2) (((fX1_unpack x3 M).bind fun q19 => (fX1_spreadFrom x2 q19).bind fun q21 => lt (x1 + q21.1) fun y23 => lt (x3 + 1) fun y25 => (fX1_findDays_50 k34 n) y23 x2 y25 q21.2)) ((lt (x3 + 1) fun y17 => (fX1_findDays_50 k34 n) x1 x2 y17 M))) (none))) : Option (Mem)) := by
  rw [fX1_findDays_50] <;> rfl
theorem e_X1_findDays_34  (n : Nat) (x1 : Int32) (x2 : Int32) (M : Mem) : fX1_findDays_34  (n + 1) x1 x2 M = (ic (6 ≤ x2) ((some M)) ((ic ((M.1 115 1) ≤ x1) ((some M)) ((fX1_findDays_50 (fX1_findDays_34 n) FU x1 x2 0 M)))) : Option (Mem)) := by
  rw [fX1_findDays_34] <;> rfl
theorem e_X1_findDays_2  (n : Nat) (x1 : Int32) (M : Mem) : fX1_findDays_2  (n + 1) x1 M = (ic ((M.1 115 1) ≤ x1) ((ic (inb 0 720) (lt (sI M 137 (ix 0) 0) fun M3 => fX1_findDays_34 FU 1 0 M3) (none))) ((ic (inb x1 720) (lt (sI M 137 (ix x1) (-1)) fun M6 => lt (x1 + 1) fun y8 => (fX1_findDays_2 n) y8 M6) (none))) : Option (Mem)) := by
  rw [fX1_findDays_2] <;> rfl
theorem e_X1_findDays (M : Mem) : fX1_findDays M = (fX1_findDays_2 FU 0 M : Option (Mem)) := by
  unfold fX1_findDays <;> rfl
theorem e_X1_prepare_31  (n : Nat) (x1 : Int32) (x2 : Int32) (M : Mem) : fX1_prepare_31  (n + 1) x1 x2 M = (ic (x1 < x2) (((fX1_findSets M).bind fun q9 => (fX1_findDays q9).bind fun q11 => some q11)) ((lt (sI M 115 1 ((M.1 115 1) * x2)) fun M13 => lt (x2 + 1) fun y15 => (fX1_prepare_31 n) x1 y15 M13)) : Option (Mem)) := by
  rw [fX1_prepare_31] <;> rfl
theorem e_X1_prepare (x1 : Int32) (M : Mem) : fX1_prepare x1 M = (ic (x1 = (M.1 115 0)) ((some M)) ((ic (x1 < 0) ((some M)) ((ic (x1 ≤ 6) ((lt (sI M 115 0 x1) fun M4 => lt (sI M4 115 1 1) fun M6 => fX1_prepare_31 FU x1 2 M6)) ((some M)))))) : Option (Mem)) := by
  unfold fX1_prepare <;> rfl
theorem e_X1_daysFor (a1 : Nat) (M : Mem) : fX1_daysFor a1 M = ((fX1_numberOf a1 M).bind fun q1 => ic (inb q1.1 720) (some (q1.2.1 137 (ix q1.1), q1.2)) (none) : Option (Int32 × Mem)) := by
  unfold fX1_daysFor <;> rfl
theorem e_X1_ordersWithin_4  (n : Nat) (x1 : Int32) (x2 : Int32) (x3 : Int32) (M : Mem) : fX1_ordersWithin_4  (n + 1) x1 x2 x3 M = (ic ((M.1 115 1) ≤ x3) ((some (x2, M))) ((ic (inb x3 720) (ic (x1 < (M.1 137 (ix x3))) ((lt (x2 + 0) fun y4 => lt (x3 + 1) fun y6 => (fX1_ordersWithin_4 n) x1 y4 y6 M)) ((lt (x2 + 1) fun y8 => lt (x3 + 1) fun y10 => (fX1_ordersWithin_4 n) x1 y8 y10 M))) (none))) : Option (Int32 × Mem)) := by
  rw [fX1_ordersWithin_4] <;> rfl
theorem e_X1_ordersWithin (x1 : Int32) (M : Mem) : fX1_ordersWithin x1 M = (fX1_ordersWithin_4 FU x1 0 0 M : Option (Int32 × Mem)) := by
  unfold fX1_ordersWithin <;> rfl
theorem e_X1_countPlaces_51 (k25 : Int32 → Int32 → Int32 → Mem → Option (Mem)) (n : Nat) (x1 : Int32) (x2 : Int32) (x3 : Int32) (x4 : Int32) (M : Mem) : fX1_countPlaces_51 k25 (n + 1) x1 x2 x3 x4 M = (ic ((M.1 115 0) ≤ x4) ((lt (x3 + 1) fun y15 => k25 x1 x2 y15 M)) ((ic (inb x4 6) (ic (inb x4 6) (ic ((M.1 139 (ix x4)) = x1) ((ic (inb x4 6) (lt (sI M 138 (ix x4) ((M.1 138 (ix x4)) + 1)) fun M26 => lt (x4 + 1) fun y28 => (fX1_countPlaces_51 k25 n) x1 x2 x3 y28 M26) (none))) ((ic (inb x4 6) (lt (sI M 138 (ix x4) ((M.1 138 (ix x4)) + 0)) fun M21 => lt (x4 + 1) fun y23 => (fX1_countPlaces_51 k25 n) x1 x2 x3 y23 M21) (none)))) (none)) (none))) : Option (Mem)) := by
  rw [fX1_countPlaces_51] <;> rfl
theorem e_X1_countPlaces_25  (n : Nat) (x1 : Int32) (x2 : Int32) (x3 : Int32) (M : Mem) : fX1_countPlaces_25  (n + 1) x1 x2 x3 M = (ic ((M.1 115 1) ≤ x3) ((some M)) ((ic (inb x3 720) (ic (x2 < (M.1 137 (ix x3))) ((lt (x3 + 1) fun y10 => (fX1_countPlaces_25 n) x1 x2 y10 M)) (((fX1_unpack x3 M).bind fun q12 => fX1_countPlaces_51 (fX1_countPlaces_25 n) FU x1 x2 x3 0 q12))) (none))) : Option (Mem)) := by
  rw [fX1_countPlaces_25] <;> rfl
theorem e_X1_countPlaces_2  (n : Nat) (x1 : Int32) (x2 : Int32) (x3 : Int32) (M : Mem) : fX1_countPlaces_2  (n + 1) x1 x2 x3 M = (ic ((M.1 115 0) ≤ x3) ((fX1_countPlaces_25 FU x1 x2 0 M)) ((ic (inb x3 6) (lt (sI M 138 (ix x3) 0) fun M3 => lt (x3 + 1) fun y5 => (fX1_countPlaces_2 n) x1 x2 y5 M3) (none))) : Option (Mem)) := by
  rw [fX1_countPlaces_2] <;> rfl
theorem e_X1_countPlaces (x1 : Int32) (x2 : Int32) (M : Mem) : fX1_countPlaces x1 x2 M = (fX1_countPlaces_2 FU x1 x2 0 M : Option (Mem)) := by
  unfold fX1_countPlaces <;> rfl
theorem e_X9_sign_19  (n : Nat) (x1 : Int32) (x2 : Int32) (M : Mem) : fX9_sign_19  (n + 1) x1 x2 M = (ic (x2 < 0) ((some (M.1 2 1, M))) (((fX8_add (((x1.toUInt32 >>> (Int32.toUInt32 x2 &&& Int32.toUInt32 31)).toInt32) &&& 255) M).bind fun q3 => lt (x2 + (-8)) fun y5 => (fX9_sign_19 n) x1 y5 q3)) : Option (Int32 × Mem)) := by
  rw [fX9_sign_19] <;> rfl
theorem e_X9_sign (x1 : Int32) (M : Mem) : fX9_sign x1 M = (ic (((M.1 2 1) + 4) ≤ 80) ((fX9_sign_19 FU x1 24 M)) ((some ((-1), M))) : Option (Int32 × Mem)) := by
  unfold fX9_sign <;> rfl
theorem e_X9_end (x1 : Int32) (M : Mem) : fX9_end x1 M = (ic (x1 < 0) ((some (0, M))) ((ic (x1 ≤ (M.1 2 1)) ((lt (sI M 2 1 x1) fun M3 => some (1, M3))) ((some (0, M))))) : Option (Int32 × Mem)) := by
  unfold fX9_end <;> rfl
theorem e_X9_fitsLine (x1 : Int32) (x2 : Int32) (M : Mem) : fX9_fitsLine x1 x2 M = (lt (x1 - x1 / 3 * 3) fun y1 => ic (y1 = 0) ((ic (x2 ≤ (x1 / 3)) ((some (0, M))) (((fX8_digitAt x1 M).bind fun q5 => ic (q5.1 ≤ 0) ((some (0, q5.2))) ((some (1, q5.2))))))) ((ic (y1 = 1) (((fX8_digitAt x1 M).bind fun q9 => ic (q9.1 < 0) ((some (0, q9.2))) ((some (1, q9.2))))) (((fX8_signAt x1 M).bind fun q12 => ic (q12.1 = 59) ((some (1, q12.2))) ((some (0, q12.2))))))) : Option (Int32 × Mem)) := by
  unfold fX9_fitsLine <;> rfl
theorem e_X9_boatsFault_13  (n : Nat) (x1 : Int32) (x2 : Int32) (M : Mem) : fX9_boatsFault_13  (n + 1) x1 x2 M = (ic ((M.1 2 1) ≤ x2) ((ic ((M.1 2 1) = 0) ((some ((-1), M))) ((ic (((M.1 2 1) - (M.1 2 1) / 3 * 3) = 2) ((some ((-1), M))) ((some (M.1 2 1, M))))))) ((ic (17 ≤ x2) ((some (x2, M))) (((fX9_fitsLine x2 x1 M).bind fun q7 => ic (q7.1 = 0) ((some (x2, q7.2))) ((lt (x2 + 1) fun y10 => (fX9_boatsFault_13 n) x1 y10 q7.2)))))) : Option (Int32 × Mem)) := by
  rw [fX9_boatsFault_13] <;> rfl
theorem e_X9_boatsFault (M : Mem) : fX9_boatsFault M = (lt (6 - (M.1 6 0)) fun y1 => fX9_boatsFault_13 FU y1 0 M : Option (Int32 × Mem)) := by
  unfold fX9_boatsFault <;> rfl
theorem e_X9_forgetKept_2  (n : Nat) (x1 : Int32) (M : Mem) : fX9_forgetKept_2  (n + 1) x1 M = (ic (3 ≤ x1) ((some M)) ((ic (inb x1 3) (lt (sI M 104 (ix x1) (0 &&& 1)) fun M3 => lt (x1 + 1) fun y5 => (fX9_forgetKept_2 n) y5 M3) (none))) : Option (Mem)) := by
  rw [fX9_forgetKept_2] <;> rfl
theorem e_X9_forgetKept (M : Mem) : fX9_forgetKept M = (fX9_forgetKept_2 FU 0 M : Option (Mem)) := by
  unfold fX9_forgetKept <;> rfl
theorem e_X9_boats_83 (x1 : Int32) (x2 : Int32) (M : Mem) : fX9_boats_83 x1 x2 M = (lt (sI M 2 1 0) fun M20 => ic (x1 < 0) ((some (x2, M20))) ((some ((-1) - x1, M20))) : Option (Int32 × Mem)) := by
  unfold fX9_boats_83 <;> rfl
theorem e_X9_boats_27  (n : Nat) (x1 : Int32) (x2 : Int32) (x3 : Int32) (M : Mem) : fX9_boats_27  (n + 1) x1 x2 x3 M = (ic (x2 ≤ x3) ((ic (x2 ≤ 0) ((fX9_boats_83 x1 x2 M)) ((lt (sI M 26 1 0) fun M8 => (fX9_forgetKept M8).bind fun q10 => fX9_boats_83 x1 x2 q10)))) (((fX8_digitAt (3 * x3) M).bind fun q12 => (fX8_digitAt ((3 * x3) + 1) q12.2).bind fun q14 => (fX4_addBoat 6 q12.1 q14.1 q14.2).bind fun q16 => lt (x3 + 1) fun y18 => (fX9_boats_27 n) x1 x2 y18 q16)) : Option (Int32 × Mem)) := by
  rw [fX9_boats_27] <;> rfl
theorem e_X9_boats (M : Mem) : fX9_boats M = ((fX9_boatsFault M).bind fun q1 => ic (q1.1 < 0) ((lt (((q1.2.1 2 1) + 1) / 3) fun y4 => fX9_boats_27 FU q1.1 y4 0 q1.2)) ((fX9_boats_27 FU q1.1 0 0 q1.2)) : Option (Int32 × Mem)) := by
  unfold fX9_boats <;> rfl
theorem e_X9_rule (M : Mem) : fX9_rule M = ((fX6_compile (M.2.2 1 18) M).bind fun q2 => lt (sI q2.2 2 1 0) fun M4 => ic (q2.1 < 0) ((lt (sR M4 1 17 (M4.2.2 1 18)) fun M9 => lt (sR M9 1 18 (M4.2.2 1 17)) fun M11 => some (0, M11))) ((some ((-1) - q2.1, M4))) : Option (Int32 × Mem)) := by
  unfold fX9_rule <;> rfl
theorem e_X9_sheet (x1 : Int32) (x2 : Int32) (x3 : Int32) (x4 : Int32) (M : Mem) : fX9_sheet x1 x2 x3 x4 M = (ic (x1 < 0) ((some ((-1), M))) ((ic (3 < x1) ((some ((-1), M))) ((ic (x2 ≤ 6) ((ic (x1 = 3) (((fX4_takeSheet 6 x1 0 x3 x4 M).bind fun q10 => some ((-3), q10))) ((ic (0 ≤ x2) (((fX4_takeSheet 6 x1 x2 x3 x4 M).bind fun q6 => (fX4_sumOfPaces 6 q6).bind fun q8 => some (q8.1, q8.2))) ((some ((-2), M))))))) ((some ((-1), M))))))) : Option (Int32 × Mem)) := by
  unfold fX9_sheet <;> rfl
theorem e_X9_passDays_6  (n : Nat) (a1 : Nat) (a2 : Nat) (x3 : Int32) (x4 : Int32) (x5 : Int32) (M : Mem) : fX9_passDays_6  (n + 1) a1 a2 x3 x4 x5 M = (ic (x3 ≤ x5) ((some (x4, M))) (((fX3_run a1 a2 M).bind fun q2 => (fX3_settle a1 q2).bind fun q4 => lt (x4 + (q4.1 108 5)) fun y6 => lt (x5 + 1) fun y8 => (fX9_passDays_6 n) a1 a2 x3 y6 y8 q4)) : Option (Int32 × Mem)) := by
  rw [fX9_passDays_6] <;> rfl
theorem e_X9_passDays (a1 : Nat) (a2 : Nat) (x3 : Int32) (M : Mem) : fX9_passDays a1 a2 x3 M = (fX9_passDays_6 FU a1 a2 x3 0 0 M : Option (Int32 × Mem)) := by
  unfold fX9_passDays <;> rfl
theorem e_X9_days (x1 : Int32) (M : Mem) : fX9_days x1 M = (ic (x1 < 0) ((some ((-2), M))) ((ic (x1 ≤ 60) (((fX2_push 6 M).bind fun q3 => (fX9_passDays 6 (q3.2.2 1 17) x1 q3).bind fun q6 => (fX5_tell q6.1.toInt64 q6.2).bind fun q8 => (fX4_boatOn 6 0 q8).bind fun q10 => some (q10.1, q10.2))) ((some ((-2), M))))) : Option (Int32 × Mem)) := by
  unfold fX9_days <;> rfl
theorem e_X9_noted (x1 : Int32) (M : Mem) : fX9_noted x1 M = (ic (x1 < 0) ((some (x1, M))) (((fX2_push 11 M).bind fun q2 => some (x1, q2))) : Option (Int32 × Mem)) := by
  unfold fX9_noted <;> rfl
theorem e_X9_scratches (x1 : Int32) (M : Mem) : fX9_scratches x1 M = ((fX4_copyFrom 11 6 M).bind fun q1 => (fX4_moveToFoot 6 x1 q1).bind fun q3 => (fX9_noted q3.1 q3.2).bind fun q5 => some (q5.1, q5.2) : Option (Int32 × Mem)) := by
  unfold fX9_scratches <;> rfl
theorem e_X9_rests (x1 : Int32) (M : Mem) : fX9_rests x1 M = ((fX4_copyFrom 11 6 M).bind fun q1 => (fX4_restBoat 6 x1 q1).bind fun q3 => (fX9_noted q3.1 q3.2).bind fun q5 => some (q5.1, q5.2) : Option (Int32 × Mem)) := by
  unfold fX9_rests <;> rfl
theorem e_X9_paces (x1 : Int32) (x2 : Int32) (M : Mem) : fX9_paces x1 x2 M = ((fX4_copyFrom 11 6 M).bind fun q1 => (fX4_setPace 6 x1 x2 q1).bind fun q3 => (fX9_noted q3.1 q3.2).bind fun q5 => some (q5.1, q5.2) : Option (Int32 × Mem)) := by
  unfold fX9_paces <;> rfl
theorem e_X9_gap (x1 : Int32) (M : Mem) : fX9_gap x1 M = ((fX4_copyFrom 11 6 M).bind fun q1 => (fX4_setGap 6 x1 q1).bind fun q3 => (fX9_noted q3.1 q3.2).bind fun q5 => some (q5.1, q5.2) : Option (Int32 × Mem)) := by
  unfold fX9_gap <;> rfl
theorem e_X9_strokes (x1 : Int32) (M : Mem) : fX9_strokes x1 M = ((fX4_copyFrom 11 6 M).bind fun q1 => (fX4_setStrokes 6 x1 q1).bind fun q3 => (fX9_noted q3.1 q3.2).bind fun q5 => some (q5.1, q5.2) : Option (Int32 × Mem)) := by
  unfold fX9_strokes <;> rfl
theorem e_X9_actLength (x0 : Int32) (M : Mem) : fX9_actLength x0 M = (ic (x0 = 103) ((some (3, M))) ((ic (x0 = 104) ((some (0, M))) ((ic (x0 = 105) ((some (0, M))) ((ic (x0 = 106) ((some (0, M))) ((ic (x0 = 107) ((some (3, M))) ((ic (x0 = 108) ((some (0, M))) ((ic (x0 = 109) ((some (0, M))) ((ic (x0 = 110) ((some (2, M))) ((ic (x0 = 111) ((some (0, M))) ((ic (x0 = 112) ((some (3, M))) ((ic (x0 = 113) ((some (0, M))) ((ic (x0 = 114) ((some (2, M))) ((ic (x0 = 115) ((some (2, M))) ((some (0, M))))))))))))))))))))))))))) : Option (Int32 × Mem)) := by
  unfold fX9_actLength <;> rfl
theorem e_X9_weekFault_83 (k53 : Int32 → Int32 → Int32 → Int32 → Mem → Option (Int32 × Mem)) (x1 : Int32) (x2 : Int32) (x3 : Int32) (x4 : Int32) (s0 : Int32) (M : Mem) : fX9_weekFault_83 k53 x1 x2 x3 x4 s0 M = (ic (s0 < 0) ((some (x1 + x4, M))) ((ic (s0 = 0) ((ic (x4 = 2) ((ic (inb x1 80) (ic ((M.1 3 (ix x1)) = 112) ((some (x1 + x4, M))) ((lt (x4 + 1) fun y25 => k53 x1 x2 x3 y25 M))) (none))) ((lt (x4 + 1) fun y21 => k53 x1 x2 x3 y21 M)))) ((lt (x4 + 1) fun y18 => k53 x1 x2 x3 y18 M)))) : Option (Int32 × Mem)) := by
  unfold fX9_weekFault_83 <;> rfl
theorem e_X9_weekFault_53 (k4 : Int32 → Int32 → Mem → Option (Int32 × Mem)) (n : Nat) (x1 : Int32) (x2 : Int32) (x3 : Int32) (x4 : Int32) (M : Mem) : fX9_weekFault_53 k4 (n + 1) x1 x2 x3 x4 M = (ic (x3 ≤ x4) ((lt (x1 + x3) fun y9 => lt (x2 + 1) fun y11 => k4 y9 y11 M)) ((ic (60 ≤ (x1 + x4)) ((fX9_weekFault_83 (fX9_weekFault_53 k4 n) x1 x2 x3 x4 (-1) M)) (((fX8_digitAt (x1 + x4) M).bind fun q14 => fX9_weekFault_83 (fX9_weekFault_53 k4 n) x1 x2 x3 x4 q14.1 q14.2)))) : Option (Int32 × Mem)) := by
  rw [fX9_weekFault_53] <;> rfl
theorem e_X9_weekFault_43 (k4 : Int32 → Int32 → Mem → Option (Int32 × Mem)) (x1 : Int32) (x2 : Int32) (s0 : Int32) (M : Mem) : fX9_weekFault_43 k4 x1 x2 s0 M = (ic (s0 = 0) ((some (x1, M))) ((fX9_weekFault_53 k4 FU x1 x2 s0 1 M)) : Option (Int32 × Mem)) := by
  unfold fX9_weekFault_43 <;> rfl
theorem e_X9_weekFault_4  (n : Nat) (x1 : Int32) (x2 : Int32) (M : Mem) : fX9_weekFault_4  (n + 1) x1 x2 M = (ic (80 ≤ x2) ((some ((-1), M))) ((ic ((M.1 2 1) ≤ x1) ((some ((-1), M))) ((ic (60 ≤ x1) ((fX9_weekFault_43 (fX9_weekFault_4 n) x1 x2 0 M)) ((ic (inb x1 80) ((fX9_actLength (M.1 3 (ix x1)) M).bind fun q5 => fX9_weekFault_43 (fX9_weekFault_4 n) x1 x2 q5.1 q5.2) (none))))))) : Option (Int32 × Mem)) := by
  rw [fX9_weekFault_4] <;> rfl
theorem e_X9_weekFault (M : Mem) : fX9_weekFault M = (fX9_weekFault_4 FU 0 0 M : Option (Int32 × Mem)) := by
  unfold fX9_weekFault <;> rfl
theorem e_X9_doAct_186 (x2 : Int32) (x3 : Int32) (M : Mem) : fX9_doAct_186 x2 x3 M = ((fX4_setStrokes 6 ((10 * x2) + x3) M).bind fun q36 => ic (q36.1 < 0) ((some (0, q36.2))) ((some (1, q36.2))) : Option (Int32 × Mem)) := by
  unfold fX9_doAct_186 <;> rfl
theorem e_X9_doAct (x1 : Int32) (M : Mem) : fX9_doAct x1 M = ((fX8_digitAt (x1 + 1) M).bind fun q1 => (fX8_digitAt (x1 + 2) q1.2).bind fun q3 => ic (inb x1 80) (lt (q3.2.1 3 (ix x1)) fun y6 => ic (y6 = 103) (((fX4_setGap 6 ((10 * q1.1) + q3.1) q3.2).bind fun q9 => ic (q9.1 < 0) ((some (0, q9.2))) ((some (1, q9.2))))) ((ic (y6 = 104) ((fX9_doAct_186 q1.1 q3.1 q3.2)) ((ic (y6 = 105) ((fX9_doAct_186 q1.1 q3.1 q3.2)) ((ic (y6 = 106) ((fX9_doAct_186 q1.1 q3.1 q3.2)) ((ic (y6 = 107) ((fX9_doAct_186 q1.1 q3.1 q3.2)) ((ic (y6 = 108) ((fX9_doAct_186 q1.1 q3.1 q3.2)) ((ic (y6 = 109) ((fX9_doAct_186 q1.1 q3.1 q3.2)) ((ic (y6 = 110) (((fX9_passDays 6 (q3.2.2.2 1 17) q1.1 q3.2).bind fun q20 => some (1, q20.2))) ((ic (y6 = 111) ((fX9_doAct_186 q1.1 q3.1 q3.2)) ((ic (y6 = 112) (((fX4_setPace 6 q1.1 q3.1 q3.2).bind fun q24 => ic (q24.1 < 0) ((some (0, q24.2))) ((some (1, q24.2))))) ((ic (y6 = 113) ((fX9_doAct_186 q1.1 q3.1 q3.2)) ((ic (y6 = 114) (((fX4_restBoat 6 q1.1 q3.2).bind fun q29 => ic (q29.1 < 0) ((some (0, q29.2))) ((some (1, q29.2))))) ((ic (y6 = 115) (((fX4_moveToFoot 6 q1.1 q3.2).bind fun q33 => ic (q33.1 < 0) ((some (0, q33.2))) ((some (1, q33.2))))) ((fX9_doAct_186 q1.1 q3.1 q3.2))))))))))))))))))))))))))) (none) : Option (Int32 × Mem)) := by
  unfold fX9_doAct <;> rfl
theorem e_X9_week_91 (k42 : Int32 → Int32 → Int32 → Int32 → Mem → Option (Int32 × Mem)) (x3 : Int32) (x4 : Int32) (x5 : Int32) (s0 : Int32) (s1 : Int32) (M : Mem) : fX9_week_91 k42 x3 x4 x5 s0 s1 M = (lt (s1 + s0) fun y21 => ic (inb x3 80) ((fX9_actLength (M.1 3 (ix x3)) M).bind fun q24 => lt (x3 + q24.1) fun y26 => lt (x5 + 1) fun y28 => k42 y21 y26 x4 y28 q24.2) (none) : Option (Int32 × Mem)) := by
  unfold fX9_week_91 <;> rfl
theorem e_X9_week_78 (k42 : Int32 → Int32 → Int32 → Int32 → Mem → Option (Int32 × Mem)) (x2 : Int32) (x3 : Int32) (x5 : Int32) (s0 : Int32) (M : Mem) : fX9_week_78 k42 x2 x3 x5 s0 M = (ic (s0 = 0) ((fX9_week_91 k42 x3 s0 x5 1 x2 M)) ((fX9_week_91 k42 x3 s0 x5 0 x2 M)) : Option (Int32 × Mem)) := by
  unfold fX9_week_78 <;> rfl
theorem e_X9_week_151 (x2 : Int32) (s0 : Int64) (M : Mem) : fX9_week_151 x2 s0 M = ((fX5_tellBoth s0 ((M.1 6 7).toInt64) M).bind fun q30 => some (x2, q30) : Option (Int32 × Mem)) := by
  unfold fX9_week_151 <;> rfl
theorem e_X9_week_137 (x2 : Int32) (x4 : Int32) (M : Mem) : fX9_week_137 x2 x4 M = (ic (x4 = 0) ((fX9_week_151 x2 0 M)) ((fX9_week_151 x2 1 M)) : Option (Int32 × Mem)) := by
  unfold fX9_week_137 <;> rfl
theorem e_X9_week_114 (x2 : Int32) (x4 : Int32) (M : Mem) : fX9_week_114 x2 x4 M = (lt (sI M 2 1 0) fun M14 => ic (x2 ≤ 0) ((fX9_week_137 x2 x4 M14)) (((fX2_push 11 M14).bind fun q17 => fX9_week_137 x2 x4 q17)) : Option (Int32 × Mem)) := by
  unfold fX9_week_114 <;> rfl
theorem e_X9_week_42  (n : Nat) (x2 : Int32) (x3 : Int32) (x4 : Int32) (x5 : Int32) (M : Mem) : fX9_week_42  (n + 1) x2 x3 x4 x5 M = (ic (60 ≤ x5) ((fX9_week_114 x2 x4 M)) ((ic ((M.1 2 1) ≤ x3) ((fX9_week_114 x2 x4 M)) ((ic (x4 = 0) (((fX9_doAct x3 M).bind fun q11 => ic (q11.1 = 0) ((fX9_week_78 (fX9_week_42 n) x2 x3 x5 1 q11.2)) ((fX9_week_78 (fX9_week_42 n) x2 x3 x5 0 q11.2)))) ((fX9_week_114 x2 x4 M)))))) : Option (Int32 × Mem)) := by
  rw [fX9_week_42] <;> rfl
theorem e_X9_week (M : Mem) : fX9_week M = ((fX9_weekFault M).bind fun q1 => ic (q1.1 < 0) (((fX4_copyFrom 11 6 q1.2).bind fun q4 => fX9_week_42 FU 0 0 0 0 q4)) ((lt (sI q1.2 2 1 0) fun M6 => some ((-1) - q1.1, M6))) : Option (Int32 × Mem)) := by
  unfold fX9_week <;> rfl
theorem e_X9_undo (M : Mem) : fX9_undo M = ((fX2_pop 6 M).bind fun q1 => ic (q1.1 = 0) ((some ((-1), q1.2))) ((some (q1.2.1 26 1, q1.2))) : Option (Int32 × Mem)) := by
  unfold fX9_undo <;> rfl
theorem e_X9_race_25  (n : Nat) (x1 : Int32) (M : Mem) : fX9_race_25  (n + 1) x1 M = (ic ((M.1 108 5) ≤ x1) ((some (M.1 108 5, M))) ((ic (inb x1 3) ((fX5_add ((M.1 112 (ix x1)).toInt64) M).bind fun q8 => ic (inb x1 3) ((fX5_add ((q8.1 113 (ix x1)).toInt64) q8).bind fun q11 => ic (inb x1 3) ((fX5_add ((q11.1 114 (ix x1)).toInt64) q11).bind fun q14 => lt (x1 + 1) fun y16 => (fX9_race_25 n) y16 q14) (none)) (none)) (none))) : Option (Int32 × Mem)) := by
  rw [fX9_race_25] <;> rfl
theorem e_X9_race (M : Mem) : fX9_race M = ((fX3_run 6 (M.2.2 1 17) M).bind fun q2 => lt (sI q2 4 1 0) fun M4 => fX9_race_25 FU 0 M4 : Option (Int32 × Mem)) := by
  unfold fX9_race <;> rfl
theorem e_X9_lies_98 (x3 : Int32) (s0 : Int64) (M : Mem) : fX9_lies_98 x3 s0 M = ((fX5_tell s0 M).bind fun q20 => ic (inb x3 6) (some (1000 + (q20.1 109 (ix x3)), q20)) (none) : Option (Int32 × Mem)) := by
  unfold fX9_lies_98 <;> rfl
theorem e_X9_lies_40  (n : Nat) (x1 : Int32) (x2 : Int32) (x3 : Int32) (M : Mem) : fX9_lies_40  (n + 1) x1 x2 x3 M = (ic (x2 ≤ x3) ((ic (inb x1 6) (lt (M.1 9 (ix x1)) fun y11 => ic (inb y11 6) (ic ((M.1 110 (ix y11)) = 0) ((fX9_lies_98 y11 0 M)) ((fX9_lies_98 y11 1 M))) (none)) (none))) (((fX3_pull 6 (M.2.2 1 17) x3 M).bind fun q16 => lt (x3 + 1) fun y18 => (fX9_lies_40 n) x1 x2 y18 q16)) : Option (Int32 × Mem)) := by
  rw [fX9_lies_40] <;> rfl
theorem e_X9_lies (x1 : Int32) (x2 : Int32) (M : Mem) : fX9_lies x1 x2 M = ((fX4_has 6 x1 M).bind fun q1 => ic (q1.1 = 0) ((some ((-1), q1.2))) ((ic (x2 < 0) ((some ((-1), q1.2))) ((ic (x2 ≤ 40) (((fX3_begin 6 (q1.2.2.2 1 17) q1.2).bind fun q7 => fX9_lies_40 FU x1 x2 0 q7)) ((some ((-1), q1.2))))))) : Option (Int32 × Mem)) := by
  unfold fX9_lies <;> rfl
theorem e_X9_over (M : Mem) : fX9_over M = ((fX3_run 6 (M.2.2 1 17) M).bind fun q2 => (fX3_touchers q2).bind fun q4 => (fX3_touchedOnes q4.2).bind fun q6 => (fX5_tellBoth q4.1.toInt64 q6.1.toInt64 q6.2).bind fun q8 => (fX3_goingOnes 6 q8).bind fun q10 => some (q10.1, q10.2) : Option (Int32 × Mem)) := by
  unfold fX9_over <;> rfl
theorem e_X9_closest_163 (k49 : Int32 → Int32 → Int32 → Int32 → Int32 → Mem → Option (Int32 × Mem)) (x2 : Int32) (x3 : Int32) (x4 : Int32) (x5 : Int32) (x6 : Int32) (M : Mem) : fX9_closest_163 k49 x2 x3 x4 x5 x6 M = ((fX3_pull 6 (M.2.2 1 17) x6 M).bind fun q25 => lt (x6 + 1) fun y27 => k49 x2 x3 x4 x5 y27 q25 : Option (Int32 × Mem)) := by
  unfold fX9_closest_163 <;> rfl
theorem e_X9_closest_127 (k49 : Int32 → Int32 → Int32 → Int32 → Int32 → Mem → Option (Int32 × Mem)) (x2 : Int32) (x6 : Int32) (x7 : Int32) (M : Mem) : fX9_closest_127 k49 x2 x6 x7 M = (ic (inb x7 6) (ic (inb x2 6) (lt ((M.1 109 (ix x7)) - (M.1 109 (ix x2))) fun y31 => (fX4_boatOn 6 x7 M).bind fun q33 => fX9_closest_163 k49 x2 y31 x6 q33.1 x6 q33.2) (none)) (none) : Option (Int32 × Mem)) := by
  unfold fX9_closest_127 <;> rfl
theorem e_X9_closest_186 (x3 : Int32) (x4 : Int32) (x5 : Int32) (M : Mem) : fX9_closest_186 x3 x4 x5 M = (ic (0 ≤ x3) (((fX5_tellBoth x4.toInt64 x5.toInt64 M).bind fun q22 => some (x3, q22))) ((some ((-2), M))) : Option (Int32 × Mem)) := by
  unfold fX9_closest_186 <;> rfl
theorem e_X9_closest_49  (n : Nat) (x2 : Int32) (x3 : Int32) (x4 : Int32) (x5 : Int32) (x6 : Int32) (M : Mem) : fX9_closest_49  (n + 1) x2 x3 x4 x5 x6 M = (ic ((M.1 6 6) < x6) ((fX9_closest_186 x3 x4 x5 M)) ((ic ((M.1 108 4) ≤ 1) ((fX9_closest_186 x3 x4 x5 M)) ((ic (inb x2 6) (ic ((M.1 110 (ix x2)) = 0) ((fX9_closest_186 x3 x4 x5 M)) (((fX3_nextAhead x2 M).bind fun q14 => ic (q14.1 < 0) ((fX9_closest_163 (fX9_closest_49 n) x2 x3 x4 x5 x6 q14.2)) ((ic (x3 < 0) ((fX9_closest_127 (fX9_closest_49 n) x2 x6 q14.1 q14.2)) ((ic (inb q14.1 6) (ic (inb x2 6) (ic (x3 ≤ ((q14.2.1 109 (ix q14.1)) - (q14.2.1 109 (ix x2)))) ((fX9_closest_163 (fX9_closest_49 n) x2 x3 x4 x5 x6 q14.2)) ((fX9_closest_127 (fX9_closest_49 n) x2 x6 q14.1 q14.2))) (none)) (none)))))))) (none))))) : Option (Int32 × Mem)) := by
  rw [fX9_closest_49] <;> rfl
theorem e_X9_closest (x1 : Int32) (M : Mem) : fX9_closest x1 M = ((fX4_has 6 x1 M).bind fun q1 => ic (q1.1 = 0) ((some ((-1), q1.2))) ((ic (inb x1 6) (lt (q1.2.1 9 (ix x1)) fun y5 => (fX3_begin 6 (q1.2.2.2 1 17) q1.2).bind fun q8 => fX9_closest_49 FU y5 (-1) 0 (-1) 0 q8) (none))) : Option (Int32 × Mem)) := by
  unfold fX9_closest <;> rfl
theorem e_X9_later (x1 : Int32) (x2 : Int32) (M : Mem) : fX9_later x1 x2 M = ((fX4_has 6 x1 M).bind fun q1 => ic (q1.1 = 0) ((some ((-1), q1.2))) ((ic (x2 < 0) ((some ((-1), q1.2))) ((ic (x2 ≤ 60) (((fX4_copyFrom 16 6 q1.2).bind fun q6 => (fX9_passDays 16 (q6.2.2 1 17) x2 q6).bind fun q9 => ic (inb x1 6) ((fX5_tellBoth ((q9.2.1 18 (ix x1)).toInt64) q9.1.toInt64 q9.2).bind fun q12 => ic (inb x1 6) (some (q12.1 19 (ix x1), q12)) (none)) (none))) ((some ((-1), q1.2))))))) : Option (Int32 × Mem)) := by
  unfold fX9_later <;> rfl
theorem e_X9_head_28  (n : Nat) (x1 : Int32) (x2 : Int32) (x3 : Int32) (M : Mem) : fX9_head_28  (n + 1) x1 x2 x3 M = (ic (60 < x3) ((some ((-2), M))) ((ic (inb x1 6) (ic ((M.1 19 (ix x1)) = 0) (((fX5_tell x2.toInt64 M).bind fun q16 => some (x3, q16))) (((fX4_boatOn 16 0 M).bind fun q9 => (fX9_passDays 16 (q9.2.2.2 1 17) 1 q9.2).bind fun q12 => lt (x3 + 1) fun y14 => (fX9_head_28 n) x1 q9.1 y14 q12.2))) (none))) : Option (Int32 × Mem)) := by
  rw [fX9_head_28] <;> rfl
theorem e_X9_head (x1 : Int32) (M : Mem) : fX9_head x1 M = ((fX4_has 6 x1 M).bind fun q1 => ic (q1.1 = 0) ((some ((-1), q1.2))) (((fX4_copyFrom 16 6 q1.2).bind fun q4 => fX9_head_28 FU x1 (-1) 0 q4)) : Option (Int32 × Mem)) := by
  unfold fX9_head <;> rfl
theorem e_X9_bumps_49  (n : Nat) (x1 : Int32) (x2 : Int32) (x3 : Int32) (x4 : Int32) (x5 : Int32) (M : Mem) : fX9_bumps_49  (n + 1) x1 x2 x3 x4 x5 M = (ic (60 < x5) ((ic (x4 ≤ 0) ((some (x3, M))) (((fX5_tell x4.toInt64 M).bind fun q12 => some (x3, q12))))) (((fX9_passDays 16 (M.2.2 1 17) 1 M).bind fun q15 => (fX3_touchedBy x1 q15.2).bind fun q17 => ic (q17.1 = x2) ((ic (x4 = 0) ((lt (x4 + 1) fun y27 => lt (x5 + 1) fun y29 => (fX9_bumps_49 n) x1 x2 x5 y27 y29 q17.2)) ((lt (x4 + 1) fun y23 => lt (x5 + 1) fun y25 => (fX9_bumps_49 n) x1 x2 x3 y23 y25 q17.2)))) ((lt (x5 + 1) fun y20 => (fX9_bumps_49 n) x1 x2 x3 x4 y20 q17.2)))) : Option (Int32 × Mem)) := by
  rw [fX9_bumps_49] <;> rfl
theorem e_X9_bumps (x1 : Int32) (x2 : Int32) (M : Mem) : fX9_bumps x1 x2 M = ((fX4_has 6 x1 M).bind fun q1 => ic (q1.1 = 0) ((some ((-1), q1.2))) (((fX4_has 6 x2 q1.2).bind fun q4 => ic (q4.1 = 0) ((some ((-1), q4.2))) ((ic (x1 = x2) ((some ((-1), q4.2))) (((fX4_copyFrom 16 6 q4.2).bind fun q8 => fX9_bumps_49 FU x1 x2 (-2) 0 1 q8)))))) : Option (Int32 × Mem)) := by
  unfold fX9_bumps <;> rfl
theorem e_X9_blades_41  (n : Nat) (x1 : Int32) (x2 : Int32) (x3 : Int32) (x4 : Int32) (M : Mem) : fX9_blades_41  (n + 1) x1 x2 x3 x4 M = (ic (x1 ≤ x4) (((fX5_tell x3.toInt64 M).bind fun q8 => some (x2, q8))) (((fX9_passDays 16 (M.2.2 1 17) 1 M).bind fun q11 => (fX3_touchers q11.2).bind fun q13 => lt (x2 &&& q13.1) fun y15 => (fX3_touchedOnes q13.2).bind fun q17 => lt (x3 &&& q17.1) fun y19 => lt (x4 + 1) fun y21 => (fX9_blades_41 n) x1 y15 y19 y21 q17.2)) : Option (Int32 × Mem)) := by
  rw [fX9_blades_41] <;> rfl
theorem e_X9_blades (x1 : Int32) (M : Mem) : fX9_blades x1 M = (ic (x1 < 1) ((some ((-1), M))) ((ic (x1 ≤ 9) (((fX4_copyFrom 16 6 M).bind fun q3 => lt ((1 <<< ((q3.1 6 0) &&& 31)) - 1) fun y5 => fX9_blades_41 FU x1 y5 y5 0 q3)) ((some ((-1), M))))) : Option (Int32 × Mem)) := by
  unfold fX9_blades <;> rfl
theorem e_X9_isSeen_2  (n : Nat) (x1 : Int32) (x2 : Int32) (x3 : Int32) (M : Mem) : fX9_isSeen_2  (n + 1) x1 x2 x3 M = (ic (x2 ≤ x3) ((some (0, M))) ((ic (61 ≤ x3) ((some (0, M))) ((ic (inb x3 61) (ic ((M.1 144 (ix x3)) = x1) ((some (1, M))) ((lt (x3 + 1) fun y5 => (fX9_isSeen_2 n) x1 x2 y5 M))) (none))))) : Option (Int32 × Mem)) := by
  rw [fX9_isSeen_2] <;> rfl
theorem e_X9_isSeen (x1 : Int32) (x2 : Int32) (M : Mem) : fX9_isSeen x1 x2 M = (fX9_isSeen_2 FU x1 x2 0 M : Option (Int32 × Mem)) := by
  unfold fX9_isSeen <;> rfl
theorem e_X9_round_30  (n : Nat) (x1 : Int32) (x2 : Int32) (x3 : Int32) (M : Mem) : fX9_round_30  (n + 1) x1 x2 x3 M = (ic (60 < x3) ((some ((-2), M))) (((fX9_passDays 16 (M.2.2 1 17) 1 M).bind fun q10 => (fX4_orderNumber 16 q10.2).bind fun q12 => ic (q12.1 = x1) (((fX5_tell x2.toInt64 q12.2).bind fun q27 => some (x3, q27))) (((fX9_isSeen q12.1 x2 q12.2).bind fun q15 => ic (q15.1 = 0) ((ic (inb x2 61) (lt (sI q15.2 144 (ix x2) q12.1) fun M21 => lt (x2 + 1) fun y23 => lt (x3 + 1) fun y25 => (fX9_round_30 n) x1 y23 y25 M21) (none))) ((lt (x3 + 1) fun y18 => (fX9_round_30 n) x1 x2 y18 q15.2)))))) : Option (Int32 × Mem)) := by
  rw [fX9_round_30] <;> rfl
theorem e_X9_round (M : Mem) : fX9_round M = ((fX4_copyFrom 16 6 M).bind fun q1 => (fX4_orderNumber 6 q1).bind fun q3 => ic (inb 0 61) (lt (sI q3.2 144 (ix 0) q3.1) fun M6 => fX9_round_30 FU q3.1 1 1 M6) (none) : Option (Int32 × Mem)) := by
  unfold fX9_round <;> rfl
theorem e_X9_sets (M : Mem) : fX9_sets M = ((fX1_prepare (M.1 6 0) M).bind fun q1 => (fX5_tellBoth ((q1.1 115 3).toInt64) ((q1.1 115 4).toInt64) q1).bind fun q3 => some (q3.1 115 2, q3) : Option (Int32 × Mem)) := by
  unfold fX9_sets <;> rfl
theorem e_X9_orders (x1 : Int32) (M : Mem) : fX9_orders x1 M = (ic (x1 < 0) ((some ((-1), M))) ((ic (x1 ≤ 6) (((fX1_prepare (M.1 6 0) M).bind fun q3 => (fX1_ordersWithin x1 q3).bind fun q5 => (fX1_ordersWithin (x1 - 1) q5.2).bind fun q7 => (fX5_tell ((q5.1 - q7.1).toInt64) q7.2).bind fun q9 => some (q5.1, q9))) ((some ((-1), M))))) : Option (Int32 × Mem)) := by
  unfold fX9_orders <;> rfl
theorem e_X9_best_104  (n : Nat) (x3 : Int32) (x4 : Int32) (x5 : Int32) (M : Mem) : fX9_best_104  (n + 1) x3 x4 x5 M = (ic ((M.1 6 0) ≤ x5) ((ic (inb x3 6) ((fX5_tellBoth x4.toInt64 ((M.1 138 (ix x3)).toInt64) M).bind fun q22 => some (x3, q22)) (none))) ((ic (inb x5 6) (ic ((M.1 138 (ix x5)) ≤ 0) ((lt (x5 + 1) fun y26 => (fX9_best_104 n) x3 x4 y26 M)) ((lt (x5 + 1) fun y28 => (fX9_best_104 n) x3 x5 y28 M))) (none))) : Option (Int32 × Mem)) := by
  rw [fX9_best_104] <;> rfl
theorem e_X9_best_70  (n : Nat) (x3 : Int32) (x4 : Int32) (x5 : Int32) (M : Mem) : fX9_best_70  (n + 1) x3 x4 x5 M = (ic (x5 < 0) ((fX9_best_104 FU x3 x4 0 M)) ((ic (inb x5 6) (ic ((M.1 138 (ix x5)) ≤ 0) ((lt (x5 + (-1)) fun y16 => (fX9_best_70 n) x3 x4 y16 M)) ((lt (x5 + (-1)) fun y18 => (fX9_best_70 n) x5 x4 y18 M))) (none))) : Option (Int32 × Mem)) := by
  rw [fX9_best_70] <;> rfl
theorem e_X9_best (x1 : Int32) (x2 : Int32) (M : Mem) : fX9_best x1 x2 M = ((fX4_has 6 x1 M).bind fun q1 => ic (q1.1 = 0) ((some ((-1), q1.2))) ((ic (x2 < 0) ((some ((-1), q1.2))) ((ic (x2 ≤ 6) (((fX1_prepare (q1.2.1 6 0) q1.2).bind fun q6 => ic (inb x1 6) ((fX1_countPlaces (q6.1 9 (ix x1)) x2 q6).bind fun q9 => lt ((q9.1 6 0) - 1) fun y11 => fX9_best_70 FU 0 0 y11 q9) (none))) ((some ((-1), q1.2))))))) : Option (Int32 × Mem)) := by
  unfold fX9_best <;> rfl
theorem e_X9_readOrder_4  (n : Nat) (x1 : Int32) (x2 : Int32) (x3 : Int32) (M : Mem) : fX9_readOrder_4  (n + 1) x1 x2 x3 M = (ic ((M.1 6 0) ≤ x3) ((some ((-1), M))) (((fX8_digitAt (x1 + x3) M).bind fun q2 => (fX4_has 6 q2.1 q2.2).bind fun q4 => ic (q4.1 = 0) ((some (x1 + x3, q4.2))) ((ic (((x2 >>> (q2.1 &&& 31)) &&& 1) = 0) ((lt (x2 ||| (1 <<< (q2.1 &&& 31))) fun y8 => ic (inb x3 6) (lt (sI q4.2 142 (ix x3) q2.1) fun M11 => lt (x3 + 1) fun y13 => (fX9_readOrder_4 n) x1 y8 y13 M11) (none))) ((some (x1 + x3, q4.2))))))) : Option (Int32 × Mem)) := by
  rw [fX9_readOrder_4] <;> rfl
theorem e_X9_readOrder (x1 : Int32) (M : Mem) : fX9_readOrder x1 M = (fX9_readOrder_4 FU x1 0 0 M : Option (Int32 × Mem)) := by
  unfold fX9_readOrder <;> rfl
theorem e_X9_orderFault (M : Mem) : fX9_orderFault M = ((fX9_readOrder 0 M).bind fun q1 => ic (0 ≤ q1.1) ((lt (sI q1.2 2 1 0) fun M4 => some (q1.1, M4))) ((ic ((q1.2.1 2 1) ≤ (q1.2.1 6 0)) ((lt (sI q1.2 2 1 0) fun M7 => some (q1.1, M7))) ((lt (q1.2.1 6 0) fun y9 => lt (sI q1.2 2 1 0) fun M11 => some (y9, M11))))) : Option (Int32 × Mem)) := by
  unfold fX9_orderFault <;> rfl
theorem e_X9_relate_2  (n : Nat) (a1 : Nat) (x2 : Int32) (M : Mem) : fX9_relate_2  (n + 1) a1 x2 M = (ic ((M.1 a1 0) ≤ x2) ((some M)) ((ic (inb x2 6) ((fX4_has a1 (M.1 142 (ix x2)) M).bind fun q3 => ic (q3.1 = 0) ((ic (inb x2 6) (lt (sI q3.2 143 (ix x2) x2) fun M7 => lt (x2 + 1) fun y9 => (fX9_relate_2 n) a1 y9 M7) (none))) ((ic (inb x2 6) (ic (inb (q3.2.1 142 (ix x2)) 6) (ic (inb x2 6) (lt (sI q3.2 143 (ix x2) (q3.2.1 (a1 + 3) (ix (q3.2.1 142 (ix x2))))) fun M14 => lt (x2 + 1) fun y16 => (fX9_relate_2 n) a1 y16 M14) (none)) (none)) (none)))) (none))) : Option (Mem)) := by
  rw [fX9_relate_2] <;> rfl
theorem e_X9_relate (a1 : Nat) (M : Mem) : fX9_relate a1 M = (fX9_relate_2 FU a1 0 M : Option (Mem)) := by
  unfold fX9_relate <;> rfl
theorem e_X9_soonest (M : Mem) : fX9_soonest M = ((fX9_orderFault M).bind fun q1 => ic (q1.1 < 0) (((fX9_relate 6 q1.2).bind fun q4 => (fX1_prepare (q4.1 6 0) q4).bind fun q6 => (fX1_daysFor 143 q6).bind fun q8 => some (q8.1, q8.2))) ((some ((-1) - q1.1, q1.2))) : Option (Int32 × Mem)) := by
  unfold fX9_soonest <;> rfl
theorem e_X9_tellFarthest_20 (k6 : Int32 → Int32 → Int32 → Mem → Option (Mem)) (n : Nat) (x1 : Int32) (x2 : Int32) (x3 : Int32) (x4 : Int32) (M : Mem) : fX9_tellFarthest_20 k6 (n + 1) x1 x2 x3 x4 M = (ic ((M.1 6 0) ≤ x4) ((lt (x3 + 1) fun y5 => k6 x1 x2 y5 M)) ((ic (inb x3 6) (lt (if 0 ≤ (x4 - (M.1 9 (ix x3))) then (x4 - (M.1 9 (ix x3))) else 0 - (x4 - (M.1 9 (ix x3)))) fun y8 => ic (inb x4 6) (ic ((M.1 142 (ix x4)) = x3) ((ic (y8 ≤ x2) ((lt (x4 + 1) fun y15 => (fX9_tellFarthest_20 k6 n) x1 x2 x3 y15 M)) ((lt (x4 + 1) fun y17 => (fX9_tellFarthest_20 k6 n) x3 y8 x3 y17 M)))) ((lt (x4 + 1) fun y12 => (fX9_tellFarthest_20 k6 n) x1 x2 x3 y12 M))) (none)) (none))) : Option (Mem)) := by
  rw [fX9_tellFarthest_20] <;> rfl
theorem e_X9_tellFarthest_6  (n : Nat) (x1 : Int32) (x2 : Int32) (x3 : Int32) (M : Mem) : fX9_tellFarthest_6  (n + 1) x1 x2 x3 M = (ic ((M.1 6 0) ≤ x3) (((fX5_tellBoth x1.toInt64 x2.toInt64 M).bind fun q2 => some q2)) ((fX9_tellFarthest_20 (fX9_tellFarthest_6 n) FU x1 x2 x3 0 M)) : Option (Mem)) := by
  rw [fX9_tellFarthest_6] <;> rfl
theorem e_X9_tellFarthest (M : Mem) : fX9_tellFarthest M = (fX9_tellFarthest_6 FU 0 0 0 M : Option (Mem)) := by
  unfold fX9_tellFarthest <;> rfl
theorem e_X9_crossed_39 (k25 : Int32 → Int32 → Mem → Option (Int32 × Mem)) (n : Nat) (x2 : Int32) (x3 : Int32) (x4 : Int32) (M : Mem) : fX9_crossed_39 k25 (n + 1) x2 x3 x4 M = (ic (x3 ≤ x4) ((lt (x3 + 1) fun y10 => k25 x2 y10 M)) ((ic (inb x4 6) (ic (inb x3 6) (ic ((M.1 143 (ix x4)) ≤ (M.1 143 (ix x3))) ((lt (x2 + 0) fun y15 => lt (x4 + 1) fun y17 => (fX9_crossed_39 k25 n) y15 x3 y17 M)) ((lt (x2 + 1) fun y19 => lt (x4 + 1) fun y21 => (fX9_crossed_39 k25 n) y19 x3 y21 M))) (none)) (none))) : Option (Int32 × Mem)) := by
  rw [fX9_crossed_39] <;> rfl
theorem e_X9_crossed_25  (n : Nat) (x2 : Int32) (x3 : Int32) (M : Mem) : fX9_crossed_25  (n + 1) x2 x3 M = (ic ((M.1 6 0) ≤ x3) (((fX9_tellFarthest M).bind fun q7 => some (x2, q7))) ((fX9_crossed_39 (fX9_crossed_25 n) FU x2 x3 0 M)) : Option (Int32 × Mem)) := by
  rw [fX9_crossed_25] <;> rfl
theorem e_X9_crossed (M : Mem) : fX9_crossed M = ((fX9_orderFault M).bind fun q1 => ic (q1.1 < 0) (((fX9_relate 6 q1.2).bind fun q4 => fX9_crossed_25 FU 0 0 q4)) ((some ((-1) - q1.1, q1.2))) : Option (Int32 × Mem)) := by
  unfold fX9_crossed <;> rfl
theorem e_X9_chartFault_4  (n : Nat) (x1 : Int32) (x2 : Int32) (M : Mem) : fX9_chartFault_4  (n + 1) x1 x2 M = (ic (80 < x2) ((some ((-1), M))) (((fX9_readOrder x1 M).bind fun q2 => ic (q2.1 < 0) ((lt (x1 + (q2.2.1 6 0)) fun y5 => ic (y5 < (q2.2.1 2 1)) ((ic (inb y5 80) (ic ((q2.2.1 3 (ix y5)) = 59) ((lt (y5 + 1) fun y10 => lt (x2 + 1) fun y12 => (fX9_chartFault_4 n) y10 y12 q2.2)) ((some (y5, q2.2)))) (none))) ((some ((-1), q2.2))))) ((some (q2.1, q2.2))))) : Option (Int32 × Mem)) := by
  rw [fX9_chartFault_4] <;> rfl
theorem e_X9_chartFault (M : Mem) : fX9_chartFault M = (fX9_chartFault_4 FU 0 0 M : Option (Int32 × Mem)) := by
  unfold fX9_chartFault <;> rfl
theorem e_X9_chart_163 (x2 : Int32) (x3 : Int32) (s0 : Int64) (M : Mem) : fX9_chart_163 x2 x3 s0 M = ((fX5_tellBoth s0 x3.toInt64 M).bind fun q30 => some (x2, q30) : Option (Int32 × Mem)) := by
  unfold fX9_chart_163 <;> rfl
theorem e_X9_chart_141 (x2 : Int32) (x3 : Int32) (x4 : Int32) (M : Mem) : fX9_chart_141 x2 x3 x4 M = (lt (sI M 2 1 0) fun M27 => ic (x4 = 0) ((fX9_chart_163 x2 x3 0 M27)) ((fX9_chart_163 x2 x3 1 M27)) : Option (Int32 × Mem)) := by
  unfold fX9_chart_141 <;> rfl
theorem e_X9_chart_42  (n : Nat) (x2 : Int32) (x3 : Int32) (x4 : Int32) (x5 : Int32) (M : Mem) : fX9_chart_42  (n + 1) x2 x3 x4 x5 M = (ic ((M.1 2 1) < x5) ((fX9_chart_141 x2 x3 x4 M)) ((ic (x4 = 0) ((fX9_chart_141 x2 x3 x4 M)) (((fX9_readOrder x5 M).bind fun q10 => (fX9_relate 16 q10.2).bind fun q12 => (fX1_isLawful 143 (q12.1 6 0) q12).bind fun q14 => ic (q14.1 = 0) ((lt (x5 + ((q14.2.1 6 0) + 1)) fun y17 => (fX9_chart_42 n) x2 x3 q14.1 y17 q14.2)) (((fX1_pairsOf 143 (q14.2.1 6 0) q14.2).bind fun q19 => lt (x2 + 1) fun y21 => (fX4_standAs 16 142 q19.2).bind fun q23 => lt (x5 + ((q23.1 6 0) + 1)) fun y25 => (fX9_chart_42 n) y21 q19.1 q14.1 y25 q23)))))) : Option (Int32 × Mem)) := by
  rw [fX9_chart_42] <;> rfl
theorem e_X9_chart (M : Mem) : fX9_chart M = ((fX9_chartFault M).bind fun q1 => ic (q1.1 < 0) (((fX4_copyFrom 16 6 q1.2).bind fun q4 => fX9_chart_42 FU 0 0 1 0 q4)) ((lt (sI q1.2 2 1 0) fun M6 => some ((-1) - q1.1, M6))) : Option (Int32 × Mem)) := by
  unfold fX9_chart <;> rfl
theorem e_X9_spurs_26  (n : Nat) (x1 : Int32) (x2 : Int32) (M : Mem) : fX9_spurs_26  (n + 1) x1 x2 M = (ic (9 < x2) ((some ((-2), M))) ((ic (inb x1 6) (lt (sI M 17 (ix x1) x2) fun M8 => (fX3_run 16 (M8.2.2 1 17) M8).bind fun q11 => (fX3_touchedBy x1 q11).bind fun q13 => ic (q13.1 < 0) ((lt (x2 + 1) fun y16 => (fX9_spurs_26 n) x1 y16 q13.2)) (((fX3_strokeBy x1 q13.2).bind fun q18 => (fX5_tellBoth q13.1.toInt64 q18.1.toInt64 q18.2).bind fun q20 => some (x2, q20)))) (none))) : Option (Int32 × Mem)) := by
  rw [fX9_spurs_26] <;> rfl
theorem e_X9_spurs (x1 : Int32) (M : Mem) : fX9_spurs x1 M = ((fX4_has 6 x1 M).bind fun q1 => ic (q1.1 = 0) ((some ((-1), q1.2))) (((fX4_copyFrom 16 6 q1.2).bind fun q4 => fX9_spurs_26 FU x1 1 q4)) : Option (Int32 × Mem)) := by
  unfold fX9_spurs <;> rfl
theorem e_X9_calm_18  (n : Nat) (x1 : Int32) (x2 : Int32) (x3 : Int32) (M : Mem) : fX9_calm_18  (n + 1) x1 x2 x3 M = (ic (30 < x3) ((ic (x2 ≤ 0) ((some (x1, M))) (((fX5_tell x2.toInt64 M).bind fun q5 => some (x1, q5))))) ((lt (sI M 16 5 x3) fun M7 => (fX3_run 16 (M7.2.2 1 17) M7).bind fun q10 => ic ((q10.1 108 5) = 0) ((ic (x2 = 0) ((lt (x2 + 1) fun y20 => lt (x3 + 1) fun y22 => (fX9_calm_18 n) x3 y20 y22 q10)) ((lt (x2 + 1) fun y16 => lt (x3 + 1) fun y18 => (fX9_calm_18 n) x1 y16 y18 q10)))) ((lt (x3 + 1) fun y13 => (fX9_calm_18 n) x1 x2 y13 q10)))) : Option (Int32 × Mem)) := by
  rw [fX9_calm_18] <;> rfl
theorem e_X9_calm (M : Mem) : fX9_calm M = ((fX4_copyFrom 16 6 M).bind fun q1 => fX9_calm_18 FU (-2) 0 1 q1 : Option (Int32 × Mem)) := by
  unfold fX9_calm <;> rfl
theorem e_X9_differ_106 (k64 : Int32 → Int32 → Int32 → Mem → Option (Int32 × Mem)) (n : Nat) (x1 : Int32) (x2 : Int32) (x3 : Int32) (x4 : Int32) (M : Mem) : fX9_differ_106 k64 (n + 1) x1 x2 x3 x4 M = (ic ((M.1 6 0) ≤ x4) ((lt (x3 + 1) fun y22 => k64 x1 x2 y22 M)) ((ic (inb x4 6) (ic (inb x4 6) (ic ((M.1 20 (ix x4)) = (M.1 25 (ix x4))) ((lt (x4 + 1) fun y27 => (fX9_differ_106 k64 n) x1 x2 x3 y27 M)) ((ic (inb x4 6) ((fX5_tellBoth x4.toInt64 ((M.1 20 (ix x4)).toInt64) M).bind fun q30 => ic (inb x4 6) ((fX5_add ((q30.1 25 (ix x4)).toInt64) q30).bind fun q33 => some (x3, q33)) (none)) (none)))) (none)) (none))) : Option (Int32 × Mem)) := by
  rw [fX9_differ_106] <;> rfl
theorem e_X9_differ_64  (n : Nat) (x1 : Int32) (x2 : Int32) (x3 : Int32) (M : Mem) : fX9_differ_64  (n + 1) x1 x2 x3 M = (ic (60 < x3) ((some ((-2), M))) ((ic (x1 = x2) ((some ((-2), M))) (((fX9_passDays 16 (M.2.2 1 17) 1 M).bind fun q16 => (fX9_passDays 21 (q16.2.2.2 1 17) 1 q16.2).bind fun q19 => fX9_differ_106 (fX9_differ_64 n) FU x1 x2 x3 0 q19.2)))) : Option (Int32 × Mem)) := by
  rw [fX9_differ_64] <;> rfl
theorem e_X9_differ (x1 : Int32) (x2 : Int32) (M : Mem) : fX9_differ x1 x2 M = (ic (x1 < 1) ((some ((-1), M))) ((ic (30 < x1) ((some ((-1), M))) ((ic (x2 < 1) ((some ((-1), M))) ((ic (x2 ≤ 30) (((fX4_copyFrom 16 6 M).bind fun q5 => lt (sI q5 16 5 x1) fun M7 => (fX4_copyFrom 21 6 M7).bind fun q9 => lt (sI q9 21 5 x2) fun M11 => fX9_differ_64 FU x1 x2 1 M11)) ((some ((-1), M))))))))) : Option (Int32 × Mem)) := by
  unfold fX9_differ <;> rfl
theorem e_X9_placeIfRested (x1 : Int32) (x2 : Int32) (x3 : Int32) (M : Mem) : fX9_placeIfRested x1 x2 x3 M = ((fX4_copyFrom 16 6 M).bind fun q1 => (fX4_restBoat 16 x1 q1).bind fun q3 => (fX9_passDays 16 (q3.2.2.2 1 17) x3 q3.2).bind fun q6 => ic (inb x2 6) (some (q6.2.1 19 (ix x2), q6.2)) (none) : Option (Int32 × Mem)) := by
  unfold fX9_placeIfRested <;> rfl
theorem e_X9_helps_79 (k42 : Int32 → Int32 → Int32 → Int32 → Int32 → Int32 → Mem → Option (Int32 × Mem)) (x1 : Int32) (x2 : Int32) (x3 : Int32) (x4 : Int32) (x5 : Int32) (x6 : Int32) (s0 : Int32) (M : Mem) : fX9_helps_79 k42 x1 x2 x3 x4 x5 x6 s0 M = (ic (x4 ≤ s0) ((lt (x6 + 1) fun y16 => k42 x1 x2 x3 x4 x5 y16 M)) ((lt (x6 + 1) fun y18 => k42 x1 x2 x3 s0 x6 y18 M)) : Option (Int32 × Mem)) := by
  unfold fX9_helps_79 <;> rfl
theorem e_X9_helps_42  (n : Nat) (x1 : Int32) (x2 : Int32) (x3 : Int32) (x4 : Int32) (x5 : Int32) (x6 : Int32) (M : Mem) : fX9_helps_42  (n + 1) x1 x2 x3 x4 x5 x6 M = (ic ((M.1 6 0) ≤ x6) (((fX5_tellBoth x4.toInt64 x3.toInt64 M).bind fun q9 => some (x5, q9))) ((ic (inb x6 6) (ic ((M.1 8 (ix x6)) = 0) ((fX9_helps_79 (fX9_helps_42 n) x1 x2 x3 x4 x5 x6 x3 M)) (((fX9_placeIfRested x6 x1 x2 M).bind fun q13 => fX9_helps_79 (fX9_helps_42 n) x1 x2 x3 x4 x5 x6 q13.1 q13.2))) (none))) : Option (Int32 × Mem)) := by
  rw [fX9_helps_42] <;> rfl
theorem e_X9_helps (x1 : Int32) (x2 : Int32) (M : Mem) : fX9_helps x1 x2 M = ((fX4_has 6 x1 M).bind fun q1 => ic (q1.1 = 0) ((some ((-1), q1.2))) ((ic (x2 < 1) ((some ((-1), q1.2))) ((ic (x2 ≤ 30) (((fX9_placeIfRested (-1) x1 x2 q1.2).bind fun q6 => fX9_helps_42 FU x1 x2 q6.1 6 (-1) 0 q6.2)) ((some ((-1), q1.2))))))) : Option (Int32 × Mem)) := by
  unfold fX9_helps <;> rfl
theorem e_X9_mayBeHeard (x0 : Int32) (x1 : Int32) (M : Mem) : fX9_mayBeHeard x0 x1 M = (ic (x0 < 0) ((some (0, M))) ((ic (5 ≤ x0) ((some (0, M))) ((ic (inb x0 5) (ic (x1 < (hLeast (ix x0))) ((some (0, M))) ((ic (inb x0 5) (ic ((hMost (ix x0)) < x1) ((some (0, M))) ((some (1, M)))) (none)))) (none))))) : Option (Int32 × Mem)) := by
  unfold fX9_mayBeHeard <;> rfl
theorem e_X9_heard (x1 : Int32) (x2 : Int32) (M : Mem) : fX9_heard x1 x2 M = ((fX9_mayBeHeard x1 x2 M).bind fun q1 => ic (q1.1 = 0) ((some ((-1), q1.2))) ((ic ((q1.2.1 105 2) < 12) (((fX7_add x1 x2 q1.2).bind fun q5 => some (q5.1 105 2, q5))) ((some ((-1), q1.2))))) : Option (Int32 × Mem)) := by
  unfold fX9_heard <;> rfl
theorem e_X9_forget (M : Mem) : fX9_forget M = (lt (M.1 105 2) fun y1 => lt (sI M 105 2 0) fun M3 => some (y1, M3) : Option (Int32 × Mem)) := by
  unfold fX9_forget <;> rfl
theorem e_X9_boatsOfWhich_166 (k82 : Int32 → Int32 → Int32 → Int32 → Mem → Option (Int32 × Mem)) (x1 : Int32) (x2 : Int32) (x4 : Int32) (x5 : Int32) (s0 : Int32) (M : Mem) : fX9_boatsOfWhich_166 k82 x1 x2 x4 x5 s0 M = (ic (s0 = 0) ((lt (x4 ||| 0) fun y25 => lt (x5 + 1) fun y27 => k82 x1 x2 y25 y27 M)) ((lt (x4 ||| (1 <<< (x5 &&& 31))) fun y29 => lt (x5 + 1) fun y31 => k82 x1 x2 y29 y31 M)) : Option (Int32 × Mem)) := by
  unfold fX9_boatsOfWhich_166 <;> rfl
theorem e_X9_boatsOfWhich_82  (n : Nat) (x1 : Int32) (x2 : Int32) (x4 : Int32) (x5 : Int32) (M : Mem) : fX9_boatsOfWhich_82  (n + 1) x1 x2 x4 x5 M = (ic ((M.1 6 0) ≤ x5) ((some (x4, M))) ((ic (x1 = 0) ((ic (inb x5 6) (ic ((M.1 7 (ix x5)) < x2) ((fX9_boatsOfWhich_166 (fX9_boatsOfWhich_82 n) x1 x2 x4 x5 0 M)) ((fX9_boatsOfWhich_166 (fX9_boatsOfWhich_82 n) x1 x2 x4 x5 1 M))) (none))) ((ic (x1 = 1) ((ic (inb x5 6) (ic ((M.1 8 (ix x5)) < x2) ((fX9_boatsOfWhich_166 (fX9_boatsOfWhich_82 n) x1 x2 x4 x5 0 M)) ((fX9_boatsOfWhich_166 (fX9_boatsOfWhich_82 n) x1 x2 x4 x5 1 M))) (none))) ((ic (inb x5 6) (ic (x2 < (M.1 9 (ix x5))) ((fX9_boatsOfWhich_166 (fX9_boatsOfWhich_82 n) x1 x2 x4 x5 0 M)) ((fX9_boatsOfWhich_166 (fX9_boatsOfWhich_82 n) x1 x2 x4 x5 1 M))) (none))))))) : Option (Int32 × Mem)) := by
  rw [fX9_boatsOfWhich_82] <;> rfl
theorem e_X9_boatsOfWhich (x1 : Int32) (x2 : Int32) (M : Mem) : fX9_boatsOfWhich x1 x2 M = (lt ((1 <<< ((M.1 6 0) &&& 31)) - 1) fun y1 => ic (x1 = 3) ((ic (x2 = 1) (((fX3_touchers M).bind fun q13 => some (q13.1, q13.2))) (((fX3_touchers M).bind fun q11 => some (y1 &&& (q11.1 ^^^ (-1)), q11.2))))) ((ic (x1 = 4) ((ic (x2 = 1) (((fX3_touchedOnes M).bind fun q8 => some (q8.1, q8.2))) (((fX3_touchedOnes M).bind fun q6 => some (y1 &&& (q6.1 ^^^ (-1)), q6.2))))) ((fX9_boatsOfWhich_82 FU x1 x2 0 0 M)))) : Option (Int32 × Mem)) := by
  unfold fX9_boatsOfWhich <;> rfl
theorem e_X9_fittingBoats_29  (n : Nat) (x1 : Int32) (x2 : Int32) (M : Mem) : fX9_fittingBoats_29  (n + 1) x1 x2 M = (ic ((M.1 105 2) ≤ x2) ((some (x1, M))) ((ic (inb x2 12) (ic (inb x2 12) ((fX9_boatsOfWhich (M.1 106 (ix x2)) (M.1 107 (ix x2)) M).bind fun q9 => lt (x1 &&& q9.1) fun y11 => lt (x2 + 1) fun y13 => (fX9_fittingBoats_29 n) y11 y13 q9.2) (none)) (none))) : Option (Int32 × Mem)) := by
  rw [fX9_fittingBoats_29] <;> rfl
theorem e_X9_fittingBoats (M : Mem) : fX9_fittingBoats M = ((fX3_run 6 (M.2.2 1 17) M).bind fun q2 => lt ((1 <<< ((q2.1 6 0) &&& 31)) - 1) fun y4 => fX9_fittingBoats_29 FU y4 0 q2 : Option (Int32 × Mem)) := by
  unfold fX9_fittingBoats <;> rfl
theorem e_X9_fits (M : Mem) : fX9_fits M = ((fX9_fittingBoats M).bind fun q1 => (fBC q1.1 q1.2).bind fun q3 => (fX5_tell q3.1.toInt64 q3.2).bind fun q5 => some (q1.1, q5) : Option (Int32 × Mem)) := by
  unfold fX9_fits <;> rfl
theorem e_X9_asks_44 (k27 : Int32 → Int32 → Int32 → Int32 → Int32 → Mem → Option (Int32 × Mem)) (n : Nat) (x1 : Int32) (x2 : Int32) (x3 : Int32) (x4 : Int32) (x5 : Int32) (x6 : Int32) (M : Mem) : fX9_asks_44 k27 (n + 1) x1 x2 x3 x4 x5 x6 M = (ic (inb x5 5) (ic ((hMost (ix x5)) < x6) ((lt (x5 + 1) fun y16 => k27 x1 x2 x3 x4 y16 M)) (((fX9_boatsOfWhich x5 x6 M).bind fun q18 => (fBC (x1 &&& q18.1) q18.2).bind fun q20 => lt (if q20.1 < (x2 - q20.1) then (x2 - q20.1) else q20.1) fun y22 => ic (x3 ≤ y22) ((lt (x6 + 1) fun y25 => (fX9_asks_44 k27 n) x1 x2 x3 x4 x5 y25 q20.2)) ((lt ((10 * x5) + x6) fun y27 => lt (x6 + 1) fun y29 => (fX9_asks_44 k27 n) x1 x2 y22 y27 x5 y29 q20.2))))) (none) : Option (Int32 × Mem)) := by
  rw [fX9_asks_44] <;> rfl
theorem e_X9_asks_27  (n : Nat) (x1 : Int32) (x2 : Int32) (x3 : Int32) (x4 : Int32) (x5 : Int32) (M : Mem) : fX9_asks_27  (n + 1) x1 x2 x3 x4 x5 M = (ic (5 ≤ x5) (((fX5_tell x3.toInt64 M).bind fun q9 => some (x4, q9))) ((ic (inb x5 5) (lt (hLeast (ix x5)) fun y12 => fX9_asks_44 (fX9_asks_27 n) FU x1 x2 x3 x4 x5 y12 M) (none))) : Option (Int32 × Mem)) := by
  rw [fX9_asks_27] <;> rfl
theorem e_X9_asks (M : Mem) : fX9_asks M = ((fX9_fittingBoats M).bind fun q1 => ic (q1.1 = 0) ((some ((-2), q1.2))) (((fBC q1.1 q1.2).bind fun q4 => lt (q4.1 + 1) fun y6 => fX9_asks_27 FU q1.1 q4.1 y6 (-1) 0 q4.2)) : Option (Int32 × Mem)) := by
  unfold fX9_asks <;> rfl
theorem e_X9_weightOf_5  (n : Nat) (x1 : Int32) (x2 : Int32) (x3 : Int32) (x4 : Int32) (M : Mem) : fX9_weightOf_5  (n + 1) x1 x2 x3 x4 M = (ic ((M.1 6 0) ≤ x4) ((some (x3, M))) ((ic (((x1 >>> (x4 &&& 31)) &&& 1) = 0) ((lt (x3 * (10 - x2)) fun y3 => lt (x4 + 1) fun y5 => (fX9_weightOf_5 n) x1 x2 y3 y5 M)) ((lt (x3 * x2) fun y7 => lt (x4 + 1) fun y9 => (fX9_weightOf_5 n) x1 x2 y7 y9 M)))) : Option (Int32 × Mem)) := by
  rw [fX9_weightOf_5] <;> rfl
theorem e_X9_weightOf (x1 : Int32) (x2 : Int32) (M : Mem) : fX9_weightOf x1 x2 M = (fX9_weightOf_5 FU x1 x2 1 0 M : Option (Int32 × Mem)) := by
  unfold fX9_weightOf <;> rfl
theorem e_X9_rowBetter_2  (n : Nat) (x1 : Int32) (x2 : Int32) (M : Mem) : fX9_rowBetter_2  (n + 1) x1 x2 M = (ic ((M.1 6 0) ≤ x2) ((some M)) ((ic (inb x2 6) (ic (inb x2 6) (lt (sI M 17 (ix x2) ((M.1 7 (ix x2)) + ((x1 >>> (x2 &&& 31)) &&& 1))) fun M4 => lt (x2 + 1) fun y6 => (fX9_rowBetter_2 n) x1 y6 M4) (none)) (none))) : Option (Mem)) := by
  rw [fX9_rowBetter_2] <;> rfl
theorem e_X9_rowBetter (x1 : Int32) (M : Mem) : fX9_rowBetter x1 M = (fX9_rowBetter_2 FU x1 0 M : Option (Mem)) := by
  unfold fX9_rowBetter <;> rfl
theorem e_X9_greatestDivisor_7  (n : Nat) (x2 : Int32) (x3 : Int32) (x4 : Int32) (M : Mem) : fX9_greatestDivisor_7  (n + 1) x2 x3 x4 M = (ic (64 ≤ x4) ((some (x2, M))) ((ic (x3 = 0) ((some (x2, M))) ((ic (¬ x3 = 0) (lt (x2 - x2 / x3 * x3) fun y4 => lt (x4 + 1) fun y6 => (fX9_greatestDivisor_7 n) x3 y4 y6 M) (none))))) : Option (Int32 × Mem)) := by
  rw [fX9_greatestDivisor_7] <;> rfl
theorem e_X9_greatestDivisor (x0 : Int32) (x1 : Int32) (M : Mem) : fX9_greatestDivisor x0 x1 M = (fX9_greatestDivisor_7 FU x0 x1 0 M : Option (Int32 × Mem)) := by
  unfold fX9_greatestDivisor <;> rfl
theorem e_X9_likely_70  (n : Nat) (x1 : Int32) (x2 : Int32) (x3 : Int32) (x4 : Int32) (x5 : Int32) (M : Mem) : fX9_likely_70  (n + 1) x1 x2 x3 x4 x5 M = (ic ((1 <<< ((M.1 6 0) &&& 31)) ≤ x5) (((fX9_greatestDivisor x3 x4 M).bind fun q14 => ic (q14.1 ≤ 0) ((some (0, q14.2))) ((ic (¬ q14.1 = 0) (ic (¬ q14.1 = 0) ((fX5_tellBoth ((x3 / q14.1).toInt64) ((x4 / q14.1).toInt64) q14.2).bind fun q19 => some (0, q19)) (none)) (none))))) (((fX9_weightOf x5 x2 M).bind fun q21 => ic (q21.1 ≤ 0) ((lt (x5 + 1) fun y24 => (fX9_likely_70 n) x1 x2 x3 x4 y24 q21.2)) (((fX9_rowBetter x5 q21.2).bind fun q26 => (fX3_run 16 (q26.2.2 1 17) q26).bind fun q29 => (fX3_touchedBy x1 q29).bind fun q31 => ic (q31.1 < 0) ((lt (x3 + 0) fun y34 => lt (x5 + 1) fun y36 => (fX9_likely_70 n) x1 x2 y34 x4 y36 q31.2)) ((lt (x3 + q21.1) fun y38 => lt (x5 + 1) fun y40 => (fX9_likely_70 n) x1 x2 y38 x4 y40 q31.2)))))) : Option (Int32 × Mem)) := by
  rw [fX9_likely_70] <;> rfl
theorem e_X9_likely_42  (n : Nat) (x1 : Int32) (x2 : Int32) (x3 : Int32) (x4 : Int32) (x5 : Int32) (M : Mem) : fX9_likely_42  (n + 1) x1 x2 x3 x4 x5 M = (ic ((M.1 6 0) ≤ x5) ((fX9_likely_70 FU x1 x2 x3 x4 0 M)) ((lt (x4 * 10) fun y9 => lt (x5 + 1) fun y11 => (fX9_likely_42 n) x1 x2 x3 y9 y11 M)) : Option (Int32 × Mem)) := by
  rw [fX9_likely_42] <;> rfl
theorem e_X9_likely (x1 : Int32) (x2 : Int32) (M : Mem) : fX9_likely x1 x2 M = ((fX4_has 6 x1 M).bind fun q1 => ic (q1.1 = 0) ((some ((-1), q1.2))) ((ic (x2 < 0) ((some ((-1), q1.2))) ((ic (x2 ≤ 10) (((fX4_copyFrom 16 6 q1.2).bind fun q6 => fX9_likely_42 FU x1 x2 0 1 0 q6)) ((some ((-1), q1.2))))))) : Option (Int32 × Mem)) := by
  unfold fX9_likely <;> rfl
theorem e_X9_winningPull_24 (k2 : Int32 → Int32 → Int32 → Mem → Option (Int32 × Mem)) (x1 : Int32) (x2 : Int32) (x3 : Int32) (s0 : Int32) (M : Mem) : fX9_winningPull_24 k2 x1 x2 x3 s0 M = (ic (s0 = 0) ((lt (x3 + 1) fun y5 => k2 x1 x2 y5 M)) ((ic (inb (x1 - x3) 61) (ic ((M.1 145 (ix (x1 - x3))) = 0) ((some (x3, M))) ((lt (x3 + 1) fun y9 => k2 x1 x2 y9 M))) (none))) : Option (Int32 × Mem)) := by
  unfold fX9_winningPull_24 <;> rfl
theorem e_X9_winningPull_19 (k2 : Int32 → Int32 → Int32 → Mem → Option (Int32 × Mem)) (x1 : Int32) (x2 : Int32) (x3 : Int32) (M : Mem) : fX9_winningPull_19 k2 x1 x2 x3 M = (fX9_winningPull_24 k2 x1 x2 x3 1 M : Option (Int32 × Mem)) := by
  unfold fX9_winningPull_19 <;> rfl
theorem e_X9_winningPull_2  (n : Nat) (x1 : Int32) (x2 : Int32) (x3 : Int32) (M : Mem) : fX9_winningPull_2  (n + 1) x1 x2 x3 M = (ic (x1 < x3) ((some (0, M))) ((ic (x3 ≤ x2) ((fX9_winningPull_19 (fX9_winningPull_2 n) x1 x2 x3 M)) ((ic ((x3 * 2) = x1) ((fX9_winningPull_19 (fX9_winningPull_2 n) x1 x2 x3 M)) ((fX9_winningPull_24 (fX9_winningPull_2 n) x1 x2 x3 0 M)))))) : Option (Int32 × Mem)) := by
  rw [fX9_winningPull_2] <;> rfl
theorem e_X9_winningPull (x1 : Int32) (x2 : Int32) (M : Mem) : fX9_winningPull x1 x2 M = (fX9_winningPull_2 FU x1 x2 1 M : Option (Int32 × Mem)) := by
  unfold fX9_winningPull <;> rfl
theorem e_X9_pulls_32  (n : Nat) (x1 : Int32) (x2 : Int32) (x3 : Int32) (M : Mem) : fX9_pulls_32  (n + 1) x1 x2 x3 M = (ic (x1 < x3) (((fX9_winningPull x1 x2 M).bind fun q9 => some (q9.1, q9.2))) (((fX9_winningPull x3 x2 M).bind fun q11 => ic (q11.1 ≤ 0) ((ic (inb x3 61) (lt (sI q11.2 145 (ix x3) (0 &&& 1)) fun M15 => lt (x3 + 1) fun y17 => (fX9_pulls_32 n) x1 x2 y17 M15) (none))) ((ic (inb x3 61) (lt (sI q11.2 145 (ix x3) (1 &&& 1)) fun M20 => lt (x3 + 1) fun y22 => (fX9_pulls_32 n) x1 x2 y22 M20) (none))))) : Option (Int32 × Mem)) := by
  rw [fX9_pulls_32] <;> rfl
theorem e_X9_pulls (x1 : Int32) (x2 : Int32) (M : Mem) : fX9_pulls x1 x2 M = (ic (x1 < 0) ((some ((-1), M))) ((ic (60 < x1) ((some ((-1), M))) ((ic (x2 < 2) ((some ((-1), M))) ((ic (x2 ≤ 9) ((ic (inb 0 61) (lt (sI M 145 (ix 0) (1 &&& 1)) fun M6 => fX9_pulls_32 FU x1 x2 1 M6) (none))) ((some ((-1), M))))))))) : Option (Int32 × Mem)) := by
  unfold fX9_pulls <;> rfl
theorem e_X9_law_88  (n : Nat) (x2 : Int32) (x3 : Int32) (x4 : Int32) (M : Mem) : fX9_law_88  (n + 1) x2 x3 x4 M = (ic ((M.1 16 0) ≤ x4) ((some (x3 - x2, M))) ((ic (inb x4 6) ((fX5_add ((M.1 20 (ix x4)).toInt64) M).bind fun q21 => lt (x4 + 1) fun y23 => (fX9_law_88 n) x2 x3 y23 q21) (none))) : Option (Int32 × Mem)) := by
  rw [fX9_law_88] <;> rfl
theorem e_X9_law (M : Mem) : fX9_law M = ((fX6_compile (M.2.2 1 18) M).bind fun q2 => lt (sI q2.2 2 1 0) fun M4 => ic (q2.1 < 0) (((fX3_run 6 (M4.2.2 1 17) M4).bind fun q8 => lt (q8.1 108 5) fun y10 => (fX4_copyFrom 16 6 q8).bind fun q12 => (fX9_passDays 16 (q12.2.2 1 18) 1 q12).bind fun q15 => (fX5_tellBoth q15.1.toInt64 y10.toInt64 q15.2).bind fun q17 => fX9_law_88 FU y10 q15.1 0 q17)) ((some ((-10000) - q2.1, M4))) : Option (Int32 × Mem)) := by
  unfold fX9_law <;> rfl
theorem e_X9_spurtGain_10 (x0 : Int32) (x1 : Int32) (s0 : Int32) (M : Mem) : fX9_spurtGain_10 x0 x1 s0 M = (ic (x1 ≤ x0) ((some ((s0 - x0) - 0, M))) ((some ((s0 - x0) - 1, M))) : Option (Int32 × Mem)) := by
  unfold fX9_spurtGain_10 <;> rfl
theorem e_X9_spurtGain (x0 : Int32) (x1 : Int32) (x2 : Int32) (M : Mem) : fX9_spurtGain x0 x1 x2 M = (ic (x0 ≤ x1) ((fX9_spurtGain_10 x0 x1 0 M)) ((fX9_spurtGain_10 x0 x1 x2 M)) : Option (Int32 × Mem)) := by
  unfold fX9_spurtGain <;> rfl
theorem e_X9_isBestSpurt_10  (n : Nat) (x1 : Int32) (x2 : Int32) (x3 : Int32) (x4 : Int32) (M : Mem) : fX9_isBestSpurt_10  (n + 1) x1 x2 x3 x4 M = (ic (9 < x4) ((some (1, M))) (((fX9_spurtGain x4 x1 x2 M).bind fun q4 => ic (q4.1 ≤ x3) ((lt (x4 + 1) fun y7 => (fX9_isBestSpurt_10 n) x1 x2 x3 y7 q4.2)) ((some (0, q4.2))))) : Option (Int32 × Mem)) := by
  rw [fX9_isBestSpurt_10] <;> rfl
theorem e_X9_isBestSpurt (x0 : Int32) (x1 : Int32) (x2 : Int32) (M : Mem) : fX9_isBestSpurt x0 x1 x2 M = ((fX9_spurtGain x0 x1 x2 M).bind fun q1 => fX9_isBestSpurt_10 FU x1 x2 q1.1 0 q1.2 : Option (Int32 × Mem)) := by
  unfold fX9_isBestSpurt <;> rfl
theorem e_X9_crews_33 (k24 : Int32 → Int32 → Int32 → Mem → Option (Int32 × Mem)) (n : Nat) (x1 : Int32) (x2 : Int32) (x3 : Int32) (x4 : Int32) (M : Mem) : fX9_crews_33 k24 (n + 1) x1 x2 x3 x4 M = (ic (9 < x4) ((lt (x3 + 1) fun y7 => k24 x1 x2 y7 M)) (((fX9_isBestSpurt x3 x4 x1 M).bind fun q9 => ic (q9.1 = 0) ((lt (x4 + 1) fun y12 => (fX9_crews_33 k24 n) x1 x2 x3 y12 q9.2)) (((fX9_isBestSpurt x4 x3 x1 q9.2).bind fun q14 => ic (q14.1 = 0) ((lt (x4 + 1) fun y17 => (fX9_crews_33 k24 n) x1 x2 x3 y17 q14.2)) ((ic (x2 = 0) (((fX5_tellBoth x3.toInt64 x4.toInt64 q14.2).bind fun q24 => lt (x2 + 1) fun y26 => lt (x4 + 1) fun y28 => (fX9_crews_33 k24 n) x1 y26 x3 y28 q24)) ((lt (x2 + 1) fun y20 => lt (x4 + 1) fun y22 => (fX9_crews_33 k24 n) x1 y20 x3 y22 q14.2)))))))) : Option (Int32 × Mem)) := by
  rw [fX9_crews_33] <;> rfl
theorem e_X9_crews_24  (n : Nat) (x1 : Int32) (x2 : Int32) (x3 : Int32) (M : Mem) : fX9_crews_24  (n + 1) x1 x2 x3 M = (ic (9 < x3) ((some (x2, M))) ((fX9_crews_33 (fX9_crews_24 n) FU x1 x2 x3 0 M)) : Option (Int32 × Mem)) := by
  rw [fX9_crews_24] <;> rfl
theorem e_X9_crews (x1 : Int32) (M : Mem) : fX9_crews x1 M = (ic (x1 < 0) ((some ((-1), M))) ((ic (x1 ≤ 20) ((lt (sI M 4 1 0) fun M3 => fX9_crews_24 FU x1 0 0 M3)) ((some ((-1), M))))) : Option (Int32 × Mem)) := by
  unfold fX9_crews <;> rfl
theorem e_X9_drawnTurn (M : Mem) : fX9_drawnTurn M = ((fX0_draw 4 M).bind fun q1 => ic (2 ≤ q1.1) ((ic ((q1.2.1 16 0) = 0) ((some (0, q1.2))) (((fX0_draw (q1.2.1 16 0) q1.2).bind fun q5 => ic (q1.1 = 2) (((fX0_draw 9 q5.2).bind fun q10 => (fX4_setPace 16 q5.1 (q10.1 + 1) q10.2).bind fun q12 => some (0, q12.2))) (((fX4_moveToFoot 16 q5.1 q5.2).bind fun q8 => some (0, q8.2))))))) (((fX9_passDays 16 (q1.2.2.2 1 17) 1 q1.2).bind fun q15 => some (q15.1, q15.2))) : Option (Int32 × Mem)) := by
  unfold fX9_drawnTurn <;> rfl
theorem e_X9_years_38  (n : Nat) (x2 : Int32) (x3 : Int32) (x4 : Int32) (M : Mem) : fX9_years_38  (n + 1) x2 x3 x4 M = (ic (x2 ≤ x4) (((fX4_sumOfTired 16 M).bind fun q8 => (fX5_tellBoth x3.toInt64 q8.1.toInt64 q8.2).bind fun q10 => (fX4_boatOn 16 0 q10).bind fun q12 => some (q12.1, q12.2))) (((fX9_drawnTurn M).bind fun q14 => lt (x3 + q14.1) fun y16 => lt (x4 + 1) fun y18 => (fX9_years_38 n) x2 y16 y18 q14.2)) : Option (Int32 × Mem)) := by
  rw [fX9_years_38] <;> rfl
theorem e_X9_years (x1 : Int32) (x2 : Int32) (M : Mem) : fX9_years x1 x2 M = (ic (x2 < 1) ((some ((-2), M))) ((ic (x2 ≤ 60) (((fX4_copyFrom 16 6 M).bind fun q3 => lt (sI q3 141 0 x1) fun M5 => fX9_years_38 FU x2 0 0 M5)) ((some ((-2), M))))) : Option (Int32 × Mem)) := by
  unfold fX9_years <;> rfl
theorem e_X9_keep (x1 : Int32) (M : Mem) : fX9_keep x1 M = (ic (x1 < 0) ((some (0, M))) ((ic (x1 < 3) ((ic (inb x1 3) ((fX4_copyFrom (M.2.2 103 (ix x1)) 6 M).bind fun q5 => ic (inb x1 3) (lt (sI q5 104 (ix x1) (1 &&& 1)) fun M8 => some (1, M8)) (none)) (none))) ((some (0, M))))) : Option (Int32 × Mem)) := by
  unfold fX9_keep <;> rfl
theorem e_X9_again (x1 : Int32) (M : Mem) : fX9_again x1 M = (ic (x1 < 0) ((some (0, M))) ((ic (3 ≤ x1) ((some (0, M))) ((ic (inb x1 3) (ic ((M.1 104 (ix x1)) = 0) ((some (0, M))) ((ic (inb x1 3) ((fX4_copyFrom 6 (M.2.2 103 (ix x1)) M).bind fun q7 => lt (sI q7 26 1 0) fun M9 => some (1, M9)) (none)))) (none))))) : Option (Int32 × Mem)) := by
  unfold fX9_again <;> rfl
theorem e_X9_count (x1 : Int32) (M : Mem) : fX9_count x1 M = (ic (x1 = 0) ((some (M.1 6 0, M))) ((ic (x1 = 1) ((some (M.1 6 5, M))) ((ic (x1 = 2) ((some (M.1 6 6, M))) ((ic (x1 = 3) ((some (M.1 6 7, M))) ((ic (x1 = 4) ((some (M.1 6 8, M))) ((ic (x1 = 5) (((fX4_sumOfPaces 6 M).bind fun q7 => some (q7.1, q7.2))) ((ic (x1 = 6) (((fX4_sumOfTired 6 M).bind fun q10 => some (q10.1, q10.2))) ((ic (x1 = 7) ((some (M.1 105 2, M))) ((ic (x1 = 8) ((some (M.1 26 1, M))) ((ic (x1 = 9) ((some (M.1 4 1, M))) ((ic (x1 = 10) ((some (M.1 2 1, M))) ((some ((-100), M))))))))))))))))))))))) : Option (Int32 × Mem)) := by
  unfold fX9_count <;> rfl
theorem e_X10_thrown (M : Mem) : fX10_thrown M = (some (M.1 169 0, M) : Option (Int32 × Mem)) := by
  unfold fX10_thrown <;> rfl
theorem e_X10_refuse (M : Mem) : fX10_refuse M = (lt (sI M 169 0 1) fun M1 => some (0, M1) : Option (Int32 × Mem)) := by
  unfold fX10_refuse <;> rfl
theorem e_X10_in (x0 : Int64) (x2 : Int64) (x4 : Int64) (M : Mem) : fX10_in x0 x2 x4 M = (ic ((lg_cmp x0 x2) < 0) ((some (0, M))) ((ic (0 < (lg_cmp x0 x4)) ((some (0, M))) ((some (1, M))))) : Option (Int32 × Mem)) := by
  unfold fX10_in <;> rfl
theorem e_X10_has (x0 : Int32) (x1 : Int32) (M : Mem) : fX10_has x0 x1 M = (ic (((x0 >>> (x1 &&& 31)) &&& 1) = 1) ((some (1, M))) ((some (0, M))) : Option (Int32 × Mem)) := by
  unfold fX10_has <;> rfl
theorem e_X10_flag (x0 : Int32) (M : Mem) : fX10_flag x0 M = (ic (x0 = 0) ((some (0, M))) ((some (1, M))) : Option (Int32 × Mem)) := by
  unfold fX10_flag <;> rfl
theorem e_X10_common_b (rc : Int64 → Int64 → Mem → Option (Int64 × Mem)) (x0 : Int64) (x2 : Int64) (M : Mem) : fX10_common_b rc x0 x2 M = (ic ((lg_cmp x2 0) = 0) ((some (x0, M))) ((ic (¬ x2 = 0) ((rc x2 (x0 - x0 / x2 * x2) M).bind fun q3 => some (q3.1, q3.2)) (none))) : Option (Int64 × Mem)) := by
  unfold fX10_common_b <;> rfl
theorem e_X10_common  (d : Nat) (x0 : Int64) (x2 : Int64) (M : Mem) : fX10_common  (d + 1) x0 x2 M = (fX10_common_b (fX10_common d) x0 x2 M : Option (Int64 × Mem)) := by
  rw [fX10_common] <;> rfl
theorem e_X10_enters (x1 : Int64) (M : Mem) : fX10_enters x1 M = (ic (inb (M.1 169 1) 24) (lt (sJ M 170 (ix (M.1 169 1)) x1) fun M2 => lt (sI M2 169 1 ((M2.1 169 1) + 1)) fun M4 => some M4) (none) : Option (Mem)) := by
  unfold fX10_enters <;> rfl
theorem e_X10_isBoat (x1 : Int32) (M : Mem) : fX10_isBoat x1 M = ((fX10_in x1.toInt64 0 (((M.1 169 3) - 1).toInt64) M).bind fun q1 => ic (q1.1 = 0 ∨ q1.1 = 1) (some (q1.1, q1.2)) (none) : Option (Int32 × Mem)) := by
  unfold fX10_isBoat <;> rfl
theorem e_X10_sumOf_5  (n : Nat) (a1 : Nat) (x2 : Int32) (x3 : Int32) (x4 : Int32) (M : Mem) : fX10_sumOf_5  (n + 1) a1 x2 x3 x4 M = (ic ((M.1 169 3) ≤ x4) ((some (x3, M))) ((ic (inb (x2 + x4) (ln a1)) (lt (x3 + (M.1 a1 (ix (x2 + x4)))) fun y3 => lt (x4 + 1) fun y5 => (fX10_sumOf_5 n) a1 x2 y3 y5 M) (none))) : Option (Int32 × Mem)) := by
  rw [fX10_sumOf_5] <;> rfl
theorem e_X10_sumOf (a1 : Nat) (x2 : Int32) (M : Mem) : fX10_sumOf a1 x2 M = (fX10_sumOf_5 FU a1 x2 0 0 M : Option (Int32 × Mem)) := by
  unfold fX10_sumOf <;> rfl
theorem e_X10_boatOn_2  (n : Nat) (a1 : Nat) (x2 : Int32) (x3 : Int32) (M : Mem) : fX10_boatOn_2  (n + 1) a1 x2 x3 M = (ic ((M.1 169 3) ≤ x3) ((some ((-1), M))) ((ic (inb (12 + x3) (ln a1)) (ic ((M.1 a1 (ix (12 + x3))) = x2) ((some (x3, M))) ((lt (x3 + 1) fun y4 => (fX10_boatOn_2 n) a1 x2 y4 M))) (none))) : Option (Int32 × Mem)) := by
  rw [fX10_boatOn_2] <;> rfl
theorem e_X10_boatOn (a1 : Nat) (x2 : Int32) (M : Mem) : fX10_boatOn a1 x2 M = (fX10_boatOn_2 FU a1 x2 0 M : Option (Int32 × Mem)) := by
  unfold fX10_boatOn <;> rfl
theorem e_X10_sign_18  (n : Nat) (x1 : Int32) (x2 : Int32) (M : Mem) : fX10_sign_18  (n + 1) x1 x2 M = (ic (4 ≤ x2) ((lt (sI M 169 8 ((M.1 169 8) + 4)) fun M5 => some (M5.1 169 8, M5))) ((ic (inb ((M.1 169 8) + x2) 80) (lt (sI M 173 (ix ((M.1 169 8) + x2)) ((x1 >>> ((24 - (8 * x2)) &&& 31)) &&& 255)) fun M8 => lt (x2 + 1) fun y10 => (fX10_sign_18 n) x1 y10 M8) (none))) : Option (Int32 × Mem)) := by
  rw [fX10_sign_18] <;> rfl
theorem e_X10_sign (x1 : Int32) (M : Mem) : fX10_sign x1 M = (lt (sI M 169 0 0) fun M1 => ic ((M1.1 169 8) ≤ 76) ((fX10_sign_18 FU x1 0 M1)) ((some ((-1), M1))) : Option (Int32 × Mem)) := by
  unfold fX10_sign <;> rfl
theorem e_X10_end (x1 : Int32) (M : Mem) : fX10_end x1 M = (lt (sI M 169 0 0) fun M1 => (fX10_in x1.toInt64 0 ((M1.1 169 8).toInt64) M1).bind fun q3 => ic (q3.1 = 0) ((some (0, q3.2))) ((lt (sI q3.2 169 8 x1) fun M6 => some (1, M6))) : Option (Int32 × Mem)) := by
  unfold fX10_end <;> rfl
theorem e_X10_begins (x1 : Int32) (M : Mem) : fX10_begins x1 M = (lt (M.1 169 8) fun y1 => lt (sI M 169 8 0) fun M3 => lt (sI M3 169 9 0) fun M5 => lt (sI M5 169 11 0) fun M7 => lt (sI M7 169 10 (if x1 < y1 then x1 else y1)) fun M9 => some (y1, M9) : Option (Int32 × Mem)) := by
  unfold fX10_begins <;> rfl
theorem e_X10_takes_29 (s0 : Int32) (M : Mem) : fX10_takes_29 s0 M = ((fX10_flag s0 M).bind fun q4 => lt (sI q4.2 169 9 ((M.1 169 9) + q4.1)) fun M6 => ic (s0 = 0 ∨ s0 = 1) (some (s0, M6)) (none) : Option (Int32 × Mem)) := by
  unfold fX10_takes_29 <;> rfl
theorem e_X10_takes_28 (M : Mem) : fX10_takes_28 M = (fX10_takes_29 0 M : Option (Int32 × Mem)) := by
  unfold fX10_takes_28 <;> rfl
theorem e_X10_takes (x1 : Int32) (M : Mem) : fX10_takes x1 M = (ic ((M.1 169 10) ≤ (M.1 169 9)) ((fX10_takes_28 M)) ((ic (inb (M.1 169 9) 80) (ic ((M.1 173 (ix (M.1 169 9))) = x1) ((fX10_takes_29 1 M)) ((fX10_takes_28 M))) (none))) : Option (Int32 × Mem)) := by
  unfold fX10_takes <;> rfl
theorem e_X10_isDigit (M : Mem) : fX10_isDigit M = (ic ((M.1 169 10) ≤ (M.1 169 9)) ((some (0, M))) ((ic (inb (M.1 169 9) 80) ((fX10_in ((M.1 173 (ix (M.1 169 9))).toInt64) 48 57 M).bind fun q3 => ic (q3.1 = 0) ((some (0, q3.2))) ((some (1, q3.2)))) (none))) : Option (Int32 × Mem)) := by
  unfold fX10_isDigit <;> rfl
theorem e_X10_takesOf_2  (n : Nat) (a1 : Nat) (x2 : Int32) (M : Mem) : fX10_takesOf_2  (n + 1) a1 x2 M = (ic ((slen a1) ≤ x2) ((some ((-1), M))) ((ic ((M.1 169 10) ≤ (M.1 169 9)) ((some ((-1), M))) ((ic (inb x2 (slenN a1)) (ic (inb (M.1 169 9) 80) (ic ((sch a1 (ix x2)) = (M.1 173 (ix (M.1 169 9)))) ((lt (sI M 169 9 ((M.1 169 9) + 1)) fun M8 => some (x2, M8))) ((lt (x2 + 1) fun y6 => (fX10_takesOf_2 n) a1 y6 M))) (none)) (none))))) : Option (Int32 × Mem)) := by
  rw [fX10_takesOf_2] <;> rfl
theorem e_X10_takesOf (a1 : Nat) (M : Mem) : fX10_takesOf a1 M = (fX10_takesOf_2 FU a1 0 M : Option (Int32 × Mem)) := by
  unfold fX10_takesOf <;> rfl
theorem e_X10_number_13  (n : Nat) (x1 : Int32) (x2 : Int32) (x3 : Int32) (M : Mem) : fX10_number_13  (n + 1) x1 x2 x3 M = (ic (x1 ≤ x3) ((some (x2, M))) (((fX10_isDigit M).bind fun q5 => ic (q5.1 = 0) ((some (x2, q5.2))) ((ic (inb (q5.2.1 169 9) 80) (lt (((10 * x2) + (q5.2.1 173 (ix (q5.2.1 169 9)))) - 48) fun y9 => lt (sI q5.2 169 9 ((q5.2.1 169 9) + 1)) fun M11 => lt (x3 + 1) fun y13 => (fX10_number_13 n) x1 y9 y13 M11) (none))))) : Option (Int32 × Mem)) := by
  rw [fX10_number_13] <;> rfl
theorem e_X10_number (x1 : Int32) (M : Mem) : fX10_number x1 M = ((fX10_isDigit M).bind fun q1 => ic (q1.1 = 0) ((some ((-1), q1.2))) ((fX10_number_13 FU x1 0 0 q1.2)) : Option (Int32 × Mem)) := by
  unfold fX10_number <;> rfl
theorem e_X10_digitIn (x1 : Int32) (x2 : Int32) (M : Mem) : fX10_digitIn x1 x2 M = (ic ((M.1 169 10) ≤ (M.1 169 9)) ((some ((-1), M))) ((ic (inb (M.1 169 9) 80) ((fX10_in (((M.1 173 (ix (M.1 169 9))) - 48).toInt64) x1.toInt64 x2.toInt64 M).bind fun q3 => ic (q3.1 = 0) ((some ((-1), q3.2))) ((lt (sI q3.2 169 9 ((q3.2.1 169 9) + 1)) fun M6 => ic (inb ((M6.1 169 9) - 1) 80) (some ((M6.1 173 (ix ((M6.1 169 9) - 1))) - 48, M6)) (none)))) (none))) : Option (Int32 × Mem)) := by
  unfold fX10_digitIn <;> rfl
theorem e_X10_faultOf_44 (x4 : Int32) (M : Mem) : fX10_faultOf_44 x4 M = (ic (x4 = 0) ((some ((-1) - (M.1 169 9), M))) ((some (0, M))) : Option (Int32 × Mem)) := by
  unfold fX10_faultOf_44 <;> rfl
theorem e_X10_faultOf_20 (x1 : Int32) (x2 : Int32) (s0 : Int32) (M : Mem) : fX10_faultOf_20 x1 x2 s0 M = (ic (x1 ≤ x2) ((fX10_faultOf_44 s0 M)) ((ic (s0 = 0) ((ic ((M.1 169 9) < x2) ((fX10_faultOf_44 s0 M)) ((some ((-1) - x2, M))))) ((some ((-1) - x2, M))))) : Option (Int32 × Mem)) := by
  unfold fX10_faultOf_20 <;> rfl
theorem e_X10_faultOf_19 (x1 : Int32) (x2 : Int32) (M : Mem) : fX10_faultOf_19 x1 x2 M = (fX10_faultOf_20 x1 x2 0 M : Option (Int32 × Mem)) := by
  unfold fX10_faultOf_19 <;> rfl
theorem e_X10_faultOf (x1 : Int32) (x2 : Int32) (x3 : Int32) (M : Mem) : fX10_faultOf x1 x2 x3 M = (ic (x3 = 0) ((fX10_faultOf_19 x1 x2 M)) ((ic ((M.1 169 9) = (M.1 169 10)) ((fX10_faultOf_20 x1 x2 1 M)) ((fX10_faultOf_19 x1 x2 M)))) : Option (Int32 × Mem)) := by
  unfold fX10_faultOf <;> rfl
theorem e_X10_readsBoat_61 (x1 : Int32) (s0 : Int32) (s1 : Int32) (M : Mem) : fX10_readsBoat_61 x1 s0 s1 M = (ic (inb s1 12) (lt (sI M 174 (ix s1) s0) fun M14 => lt (sI M14 169 13 ((M14.1 169 13) + 1)) fun M16 => ic (inb (x1 + 1) 12) (ic ((M16.1 174 (ix (x1 + 1))) < 0) ((some (0, M16))) ((some (1, M16)))) (none)) (none) : Option (Int32 × Mem)) := by
  unfold fX10_readsBoat_61 <;> rfl
theorem e_X10_readsBoat (M : Mem) : fX10_readsBoat M = (ic (((M.1 169 3) + (M.1 169 13)) = 6) ((some (0, M))) ((lt (2 * (M.1 169 13)) fun y2 => (fX10_digitIn 1 9 M).bind fun q4 => ic (inb y2 12) (lt (sI q4.2 174 (ix y2) q4.1) fun M7 => ic (inb y2 12) (ic (0 ≤ (M7.1 174 (ix y2))) (((fX10_number 1 M7).bind fun q11 => fX10_readsBoat_61 y2 q11.1 (y2 + 1) q11.2)) ((fX10_readsBoat_61 y2 (-1) (y2 + 1) M7))) (none)) (none))) : Option (Int32 × Mem)) := by
  unfold fX10_readsBoat <;> rfl
theorem e_X10_boats_199 (s0 : Int32) (s1 : Int32) (M : Mem) : fX10_boats_199 s0 s1 M = ((fX10_flag s0 M).bind fun q38 => lt (sI q38.2 169 4 (s1 + q38.1)) fun M40 => some (M40.1 169 13, M40) : Option (Int32 × Mem)) := by
  unfold fX10_boats_199 <;> rfl
theorem e_X10_boats_179 (s0 : Int32) (M : Mem) : fX10_boats_179 s0 M = (lt (sI M 169 28 s0) fun M35 => ic ((M35.1 169 13) ≤ 0) ((fX10_boats_199 0 (M35.1 169 4) M35)) ((fX10_boats_199 1 (M35.1 169 4) M35)) : Option (Int32 × Mem)) := by
  unfold fX10_boats_179 <;> rfl
theorem e_X10_boats_81  (n : Nat) (x5 : Int32) (M : Mem) : fX10_boats_81  (n + 1) x5 M = (ic ((M.1 169 13) ≤ x5) ((ic ((M.1 169 13) ≤ 0) ((fX10_boats_179 (M.1 169 28) M)) ((fX10_boats_179 0 M)))) ((ic (inb (2 * x5) 12) (ic (inb (M.1 169 3) 22) (lt (sI M 171 (ix (M.1 169 3)) (M.1 174 (ix (2 * x5)))) fun M22 => ic (inb ((2 * x5) + 1) 12) (ic (inb (6 + (M22.1 169 3)) 22) (lt (sI M22 171 (ix (6 + (M22.1 169 3))) (M22.1 174 (ix ((2 * x5) + 1)))) fun M26 => ic (inb (12 + (M26.1 169 3)) 22) (lt (sI M26 171 (ix (12 + (M26.1 169 3))) (M26.1 169 3)) fun M29 => lt (sI M29 169 3 ((M29.1 169 3) + 1)) fun M31 => lt (x5 + 1) fun y33 => (fX10_boats_81 n) y33 M31) (none)) (none)) (none)) (none)) (none))) : Option (Int32 × Mem)) := by
  rw [fX10_boats_81] <;> rfl
theorem e_X10_boats_29  (n : Nat) (x1 : Int32) (x2 : Int32) (x3 : Int32) (M : Mem) : fX10_boats_29  (n + 1) x1 x2 x3 M = (ic (x3 = 0) (((fX10_faultOf x1 17 x2 M).bind fun q9 => ic (0 ≤ q9.1) ((fX10_boats_81 FU 0 q9.2)) ((some (q9.1, q9.2))))) (((fX10_readsBoat M).bind fun q12 => ic (q12.1 = 0) (((fX10_boats_29 n) x1 q12.1 0 q12.2)) (((fX10_takes 59 q12.2).bind fun q15 => ic (q15.1 = 0) (((fX10_boats_29 n) x1 q12.1 0 q15.2)) (((fX10_boats_29 n) x1 q12.1 1 q15.2)))))) : Option (Int32 × Mem)) := by
  rw [fX10_boats_29] <;> rfl
theorem e_X10_boats (M : Mem) : fX10_boats M = (lt (sI M 169 0 0) fun M1 => (fX10_begins 17 M1).bind fun q3 => lt (sI q3.2 169 13 0) fun M5 => ic (q3.1 ≤ 0) ((fX10_boats_29 FU q3.1 1 0 M5)) ((fX10_boats_29 FU q3.1 1 1 M5)) : Option (Int32 × Mem)) := by
  unfold fX10_boats <;> rfl
theorem e_X10_codes (x1 : Int32) (M : Mem) : fX10_codes x1 M = (ic (inb (M.1 169 17) 80) (lt (sI M 176 (ix (M.1 169 17)) x1) fun M2 => lt (sI M2 169 17 ((M2.1 169 17) + 1)) fun M4 => some M4) (none) : Option (Mem)) := by
  unfold fX10_codes <;> rfl
theorem e_X10_readsThing_b (rc : Int32 → Mem → Option (Int32 × Mem)) (rd : Mem → Option (Int32 × Mem))  (M : Mem) : fX10_readsThing_b rc rd M = ((fX10_takes 45 M).bind fun q1 => ic (q1.1 = 0) (((fX10_isDigit q1.2).bind fun q4 => ic (q4.1 = 0) (((fX10_takesOf 0 q4.2).bind fun q7 => ic (q7.1 < 0) ((ic ((q7.2.1 169 11) = 4) ((some (0, q7.2))) (((fX10_takes 40 q7.2).bind fun q11 => ic (q11.1 = 0) ((some (0, q11.2))) ((lt (sI q11.2 169 11 ((q11.2.1 169 11) + 1)) fun M14 => (rc 0 M14).bind fun q16 => ic (q16.1 = 0) ((some (0, q16.2))) (((fX10_takes 41 q16.2).bind fun q19 => ic (q19.1 = 0) ((some (0, q19.2))) ((lt (sI q19.2 169 11 ((q19.2.1 169 11) - 1)) fun M22 => some (1, M22))))))))))) (((fX10_codes (1000 + q7.1) q7.2).bind fun q24 => some (1, q24))))) (((fX10_number 3 q4.2).bind fun q26 => (fX10_codes q26.1 q26.2).bind fun q28 => some (1, q28))))) (((rd q1.2).bind fun q30 => (fX10_codes 3000 q30.2).bind fun q32 => ic (q30.1 = 0 ∨ q30.1 = 1) (some (q30.1, q32)) (none))) : Option (Int32 × Mem)) := by
  unfold fX10_readsThing_b <;> rfl
theorem e_X10_readsThing (rc : Int32 → Mem → Option (Int32 × Mem)) (d : Nat) (M : Mem) : fX10_readsThing rc (d + 1) M = (fX10_readsThing_b rc (fX10_readsThing rc d) M : Option (Int32 × Mem)) := by
  rw [fX10_readsThing] <;> rfl
theorem e_X10_readsRank_96 (rc : Int32 → Mem → Option (Int32 × Mem)) (k24 : Int32 → Int32 → Mem → Option (Int32 × Mem)) (x1 : Int32) (s0 : Int32) (s1 : Int32) (M : Mem) : fX10_readsRank_96 rc k24 x1 s0 s1 M = ((fX10_codes (s1 + s0) M).bind fun q19 => ic (x1 ≤ 0) ((k24 x1 0 q19)) ((k24 x1 1 q19)) : Option (Int32 × Mem)) := by
  unfold fX10_readsRank_96 <;> rfl
theorem e_X10_readsRank_50 (rc : Int32 → Mem → Option (Int32 × Mem)) (k24 : Int32 → Int32 → Mem → Option (Int32 × Mem)) (x1 : Int32) (t0 : Nat) (M : Mem) : fX10_readsRank_50 rc k24 x1 t0 M = ((fX10_takesOf t0 M).bind fun q11 => ic (0 ≤ q11.1) (((rc (x1 + 1) q11.2).bind fun q14 => ic (q14.1 = 0) ((some (0, q14.2))) ((ic (x1 = 0) ((fX10_readsRank_96 rc k24 x1 0 (2000 + q11.1) q14.2)) ((ic (x1 = 1) ((fX10_readsRank_96 rc k24 x1 3 (2000 + q11.1) q14.2)) ((fX10_readsRank_96 rc k24 x1 5 (2000 + q11.1) q14.2)))))))) ((some (1, q11.2))) : Option (Int32 × Mem)) := by
  unfold fX10_readsRank_50 <;> rfl
theorem e_X10_readsRank_24 (rc : Int32 → Mem → Option (Int32 × Mem)) (n : Nat) (x1 : Int32) (x2 : Int32) (M : Mem) : fX10_readsRank_24 rc (n + 1) x1 x2 M = (ic (x2 = 0) ((some (1, M))) ((ic (x1 = 0) ((fX10_readsRank_50 rc (fX10_readsRank_24 rc n) x1 1 M)) ((ic (x1 = 1) ((fX10_readsRank_50 rc (fX10_readsRank_24 rc n) x1 2 M)) ((fX10_readsRank_50 rc (fX10_readsRank_24 rc n) x1 3 M)))))) : Option (Int32 × Mem)) := by
  rw [fX10_readsRank_24] <;> rfl
theorem e_X10_readsRank_b (rc : Int32 → Mem → Option (Int32 × Mem)) (x1 : Int32) (M : Mem) : fX10_readsRank_b rc x1 M = (ic (x1 = 3) (((fX10_readsThing rc 41 M).bind fun q5 => ic (q5.1 = 0 ∨ q5.1 = 1) (some (q5.1, q5.2)) (none))) (((rc (x1 + 1) M).bind fun q2 => ic (q2.1 = 0) ((some (0, q2.2))) ((fX10_readsRank_24 rc FU x1 1 q2.2)))) : Option (Int32 × Mem)) := by
  unfold fX10_readsRank_b <;> rfl
theorem e_X10_readsRank  (d : Nat) (x1 : Int32) (M : Mem) : fX10_readsRank  (d + 1) x1 M = (fX10_readsRank_b (fX10_readsRank d) x1 M : Option (Int32 × Mem)) := by
  rw [fX10_readsRank] <;> rfl
theorem e_X10_readsRule_29 (x1 : Int32) (s0 : Int32) (M : Mem) : fX10_readsRule_29 x1 s0 M = ((fX10_faultOf x1 40 s0 M).bind fun q9 => some (q9.1, q9.2) : Option (Int32 × Mem)) := by
  unfold fX10_readsRule_29 <;> rfl
theorem e_X10_readsRule_24 (x1 : Int32) (M : Mem) : fX10_readsRule_24 x1 M = (fX10_readsRule_29 x1 1 M : Option (Int32 × Mem)) := by
  unfold fX10_readsRule_24 <;> rfl
theorem e_X10_readsRule (M : Mem) : fX10_readsRule M = ((fX10_begins 40 M).bind fun q1 => lt (sI q1.2 169 17 0) fun M3 => ic (q1.1 = 0) ((fX10_readsRule_24 q1.1 M3)) (((fX10_readsRank 21 0 M3).bind fun q6 => ic (q6.1 = 0) ((fX10_readsRule_29 q1.1 0 q6.2)) ((fX10_readsRule_24 q1.1 q6.2)))) : Option (Int32 × Mem)) := by
  unfold fX10_readsRule <;> rfl
theorem e_X10_laysCode_7  (n : Nat) (a1 : Nat) (x2 : Int32) (x3 : Int32) (M : Mem) : fX10_laysCode_7  (n + 1) a1 x2 x3 M = (ic (x2 ≤ x3) ((some M)) ((ic (inb x3 (ln a1)) (ic (inb x3 80) (lt (sI M 175 (ix x3) (M.1 a1 (ix x3))) fun M6 => lt (x3 + 1) fun y8 => (fX10_laysCode_7 n) a1 x2 y8 M6) (none)) (none))) : Option (Mem)) := by
  rw [fX10_laysCode_7] <;> rfl
theorem e_X10_laysCode (a1 : Nat) (x2 : Int32) (M : Mem) : fX10_laysCode a1 x2 M = (lt (sI M 169 16 x2) fun M1 => fX10_laysCode_7 FU a1 x2 0 M1 : Option (Mem)) := by
  unfold fX10_laysCode <;> rfl
theorem e_X10_rule (M : Mem) : fX10_rule M = (lt (sI M 169 0 0) fun M1 => (fX10_readsRule M1).bind fun q3 => ic (q3.1 = 0) (((fX10_laysCode 176 (q3.2.1 169 17) q3.2).bind fun q6 => some (q3.1, q6))) ((some (q3.1, q3.2))) : Option (Int32 × Mem)) := by
  unfold fX10_rule <;> rfl
theorem e_X10_worked_50 (s0 : Int32) (M : Mem) : fX10_worked_50 s0 M = ((fX10_flag s0 M).bind fun q12 => some (q12.1, q12.2) : Option (Int32 × Mem)) := by
  unfold fX10_worked_50 <;> rfl
theorem e_X10_worked_64 (s0 : Int32) (M : Mem) : fX10_worked_64 s0 M = ((fX10_flag s0 M).bind fun q14 => some (q14.1, q14.2) : Option (Int32 × Mem)) := by
  unfold fX10_worked_64 <;> rfl
theorem e_X10_worked_78 (s0 : Int32) (M : Mem) : fX10_worked_78 s0 M = ((fX10_flag s0 M).bind fun q16 => some (q16.1, q16.2) : Option (Int32 × Mem)) := by
  unfold fX10_worked_78 <;> rfl
theorem e_X10_worked (x0 : Int32) (x1 : Int32) (x2 : Int32) (M : Mem) : fX10_worked x0 x1 x2 M = (ic (x0 = 0) ((ic (x2 ≤ x1) ((fX10_worked_50 0 M)) ((fX10_worked_50 1 M)))) ((ic (x0 = 1) ((ic (x1 ≤ x2) ((fX10_worked_64 0 M)) ((fX10_worked_64 1 M)))) ((ic (x0 = 2) ((ic (x1 = x2) ((fX10_worked_78 1 M)) ((fX10_worked_78 0 M)))) ((ic (x0 = 3) ((some (x1 + x2, M))) ((ic (x0 = 4) ((some (x1 - x2, M))) ((ic (x0 = 5) ((some (x1 * x2, M))) ((ic (x2 = 0) ((some (0, M))) ((ic (¬ x2 = 0) (some (x1 / x2, M)) (none))))))))))))))) : Option (Int32 × Mem)) := by
  unfold fX10_worked <;> rfl
theorem e_X10_ruled_4  (n : Nat) (x1 : Int32) (x2 : Int32) (M : Mem) : fX10_ruled_4  (n + 1) x1 x2 M = (ic ((M.1 169 16) ≤ x2) ((ic ((M.1 169 16) = 0) ((ic (inb 0 7) (ic (inb 1 7) (some ((M.1 178 (ix 0)) - ((M.1 178 (ix 1)) / 4), M)) (none)) (none))) ((ic (inb 0 80) (some (M.1 177 (ix 0), M)) (none))))) ((ic (inb x2 80) (lt (M.1 175 (ix x2)) fun y7 => ic (y7 = 3000) ((ic (inb (x1 - 1) 80) (ic (inb (x1 - 1) 80) (lt (sI M 177 (ix (x1 - 1)) (-(M.1 177 (ix (x1 - 1))))) fun M40 => lt (x2 + 1) fun y42 => (fX10_ruled_4 n) x1 y42 M40) (none)) (none))) ((ic (y7 < 2000) ((ic (y7 < 1000) ((ic (inb x1 80) (lt (sI M 177 (ix x1) y7) fun M13 => lt (x1 + 1) fun y15 => lt (x2 + 1) fun y17 => (fX10_ruled_4 n) y15 y17 M13) (none))) ((ic (inb (y7 - 1000) 7) (ic (inb x1 80) (lt (sI M 177 (ix x1) (M.1 178 (ix (y7 - 1000)))) fun M21 => lt (x1 + 1) fun y23 => lt (x2 + 1) fun y25 => (fX10_ruled_4 n) y23 y25 M21) (none)) (none))))) ((lt (x1 + (-1)) fun y27 => ic (inb (y27 - 1) 80) (ic (inb y27 80) ((fX10_worked (y7 - 2000) (M.1 177 (ix (y27 - 1))) (M.1 177 (ix y27)) M).bind fun q31 => ic (inb (y27 - 1) 80) (lt (sI q31.2 177 (ix (y27 - 1)) q31.1) fun M34 => lt (x2 + 1) fun y36 => (fX10_ruled_4 n) y27 y36 M34) (none)) (none)) (none)))))) (none))) : Option (Int32 × Mem)) := by
  rw [fX10_ruled_4] <;> rfl
theorem e_X10_ruled (M : Mem) : fX10_ruled M = (fX10_ruled_4 FU 0 0 M : Option (Int32 × Mem)) := by
  unfold fX10_ruled <;> rfl
theorem e_X10_nextPlace_4  (n : Nat) (x2 : Int32) (x3 : Int32) (M : Mem) : fX10_nextPlace_4  (n + 1) x2 x3 M = (ic (x3 < 0) ((some ((-1), M))) ((ic ((M.1 169 3) ≤ x3) ((some ((-1), M))) ((ic (inb x3 6) ((fX10_has (M.1 169 23) (M.1 179 (ix x3)) M).bind fun q6 => ic (q6.1 = 0) ((lt (x3 + x2) fun y9 => (fX10_nextPlace_4 n) x2 y9 q6.2)) ((some (x3, q6.2)))) (none))))) : Option (Int32 × Mem)) := by
  rw [fX10_nextPlace_4] <;> rfl
theorem e_X10_nextPlace (x1 : Int32) (x2 : Int32) (M : Mem) : fX10_nextPlace x1 x2 M = (lt (x1 + x2) fun y1 => fX10_nextPlace_4 FU x2 y1 M : Option (Int32 × Mem)) := by
  unfold fX10_nextPlace <;> rfl
theorem e_X10_behind (x1 : Int32) (M : Mem) : fX10_behind x1 M = ((fX10_nextPlace x1 (-1) M).bind fun q1 => ic (0 ≤ q1.1) ((ic (inb q1.1 6) (ic (inb (q1.2.1 179 (ix q1.1)) 6) (ic (inb x1 6) (ic (inb (q1.2.1 179 (ix x1)) 6) (some ((q1.2.1 180 (ix (q1.2.1 179 (ix q1.1)))) - (q1.2.1 180 (ix (q1.2.1 179 (ix x1)))), q1.2)) (none)) (none)) (none)) (none))) ((some (99, q1.2))) : Option (Int32 × Mem)) := by
  unfold fX10_behind <;> rfl
theorem e_X10_laysRace_19  (n : Nat) (a1 : Nat) (x2 : Int32) (M : Mem) : fX10_laysRace_19  (n + 1) a1 x2 M = (ic ((M.1 169 3) ≤ x2) ((some M)) (((fX10_boatOn a1 x2 M).bind fun q6 => ic (inb x2 6) (lt (sI q6.2 179 (ix x2) q6.1) fun M9 => ic (inb x2 6) (ic (inb 18 (ln a1)) (ic (inb (M9.1 179 (ix x2)) 6) (lt (sI M9 180 (ix (M9.1 179 (ix x2))) ((-x2) * (M9.1 a1 (ix 18)))) fun M14 => lt (x2 + 1) fun y16 => (fX10_laysRace_19 n) a1 y16 M14) (none)) (none)) (none)) (none))) : Option (Mem)) := by
  rw [fX10_laysRace_19] <;> rfl
theorem e_X10_laysRace (a1 : Nat) (M : Mem) : fX10_laysRace a1 M = (lt (sI M 169 23 ((1 <<< ((M.1 169 3) &&& 31)) - 1)) fun M1 => lt (sI M1 169 27 0) fun M3 => fX10_laysRace_19 FU a1 0 M3 : Option (Mem)) := by
  unfold fX10_laysRace <;> rfl
theorem e_X10_strokeGoes_109 (k2 : Nat → Int32 → Int32 → Mem → Option (Mem)) (a1 : Nat) (x2 : Int32) (x3 : Int32) (x4 : Int32) (s0 : Int32) (s1 : Int32) (M : Mem) : fX10_strokeGoes_109 k2 a1 x2 x3 x4 s0 s1 M = (ic (inb s1 7) (lt (sI M 178 (ix s1) s0) fun M39 => ic (inb 20 (ln a1)) (ic (inb 6 7) (lt (sI M39 178 (ix 6) ((M39.1 a1 (ix 20)) - (M39.1 a1 (ix 20)) / 7 * 7)) fun M43 => (fX10_has (M43.1 169 23) x4 M43).bind fun q45 => ic (q45.1 = 0) ((ic (inb x4 6) (lt (sI q45.2 181 (ix x4) 0) fun M49 => lt (x3 + 1) fun y51 => k2 a1 x2 y51 M49) (none))) (((fX10_ruled q45.2).bind fun q53 => ic (inb x4 6) (lt (sI q53.2 181 (ix x4) (if (0 : Int32) < (if q53.1 < (20 : Int32) then q53.1 else 20) then (if q53.1 < (20 : Int32) then q53.1 else 20) else 0)) fun M56 => lt (x3 + 1) fun y58 => k2 a1 x2 y58 M56) (none)))) (none)) (none)) (none) : Option (Mem)) := by
  unfold fX10_strokeGoes_109 <;> rfl
theorem e_X10_strokeGoes_199  (n : Nat) (x2 : Int32) (x3 : Int32) (M : Mem) : fX10_strokeGoes_199  (n + 1) x2 x3 M = (ic ((M.1 169 3) ≤ x3) ((some M)) (((fX10_nextPlace x3 (-1) M).bind fun q61 => ic (inb x3 6) ((fX10_has (q61.2.1 169 23) (q61.2.1 179 (ix x3)) q61.2).bind fun q64 => ic (q64.1 = 0) ((lt (x3 + 1) fun y67 => (fX10_strokeGoes_199 n) x2 y67 q64.2)) ((ic (q61.1 < 0) ((lt (x3 + 1) fun y70 => (fX10_strokeGoes_199 n) x2 y70 q64.2)) (((fX10_behind x3 q64.2).bind fun q72 => ic (0 < q72.1) ((lt (x3 + 1) fun y75 => (fX10_strokeGoes_199 n) x2 y75 q72.2)) ((ic (inb (q72.2.1 169 27) 6) (lt (sI q72.2 182 (ix (q72.2.1 169 27)) (x2 + 1)) fun M78 => ic (inb x3 6) (ic (inb (M78.1 169 27) 6) (lt (sI M78 183 (ix (M78.1 169 27)) (M78.1 179 (ix x3))) fun M82 => ic (inb q61.1 6) (ic (inb (M82.1 169 27) 6) (lt (sI M82 184 (ix (M82.1 169 27)) (M82.1 179 (ix q61.1))) fun M86 => lt (sI M86 169 27 ((M86.1 169 27) + 1)) fun M88 => ic (inb x3 6) (ic (inb q61.1 6) (lt (sI M88 169 23 ((M88.1 169 23) &&& (((1 <<< ((M88.1 179 (ix x3)) &&& 31)) ||| (1 <<< ((M88.1 179 (ix q61.1)) &&& 31))) ^^^ (-1)))) fun M92 => lt (x3 + 1) fun y94 => (fX10_strokeGoes_199 n) x2 y94 M92) (none)) (none)) (none)) (none)) (none)) (none)) (none)))))))) (none))) : Option (Mem)) := by
  rw [fX10_strokeGoes_199] <;> rfl
theorem e_X10_strokeGoes_168  (n : Nat) (x2 : Int32) (x3 : Int32) (M : Mem) : fX10_strokeGoes_168  (n + 1) x2 x3 M = (ic ((M.1 169 3) ≤ x3) ((fX10_strokeGoes_199 FU x2 1 M)) ((ic (inb x3 6) (ic (inb x3 6) (ic (inb x3 6) (lt (sI M 180 (ix x3) ((M.1 180 (ix x3)) + (M.1 181 (ix x3)))) fun M34 => lt (x3 + 1) fun y36 => (fX10_strokeGoes_168 n) x2 y36 M34) (none)) (none)) (none))) : Option (Mem)) := by
  rw [fX10_strokeGoes_168] <;> rfl
theorem e_X10_strokeGoes_2  (n : Nat) (a1 : Nat) (x2 : Int32) (x3 : Int32) (M : Mem) : fX10_strokeGoes_2  (n + 1) a1 x2 x3 M = (ic ((M.1 169 3) ≤ x3) ((fX10_strokeGoes_168 FU x2 0 M)) ((ic (inb x3 6) (lt (M.1 179 (ix x3)) fun y3 => (fX10_nextPlace x3 1 M).bind fun q5 => ic (inb y3 (ln a1)) (ic (inb 0 7) (lt (sI q5.2 178 (ix 0) (q5.2.1 a1 (ix y3))) fun M9 => ic (inb (6 + y3) (ln a1)) (ic (inb 1 7) (lt (sI M9 178 (ix 1) (M9.1 a1 (ix (6 + y3)))) fun M13 => ic (inb 2 7) (lt (sI M13 178 (ix 2) x2) fun M16 => ic (inb 3 7) (lt (sI M16 178 (ix 3) x3) fun M19 => (fX10_behind x3 M19).bind fun q21 => ic (inb 4 7) (lt (sI q21.2 178 (ix 4) q21.1) fun M24 => ic (0 ≤ q5.1) ((ic (inb y3 6) (ic (inb q5.1 6) (ic (inb (M24.1 179 (ix q5.1)) 6) (fX10_strokeGoes_109 (fX10_strokeGoes_2 n) a1 x2 x3 y3 ((M24.1 180 (ix y3)) - (M24.1 180 (ix (M24.1 179 (ix q5.1))))) 5 M24) (none)) (none)) (none))) ((fX10_strokeGoes_109 (fX10_strokeGoes_2 n) a1 x2 x3 y3 99 5 M24))) (none)) (none)) (none)) (none)) (none)) (none)) (none)) (none))) : Option (Mem)) := by
  rw [fX10_strokeGoes_2] <;> rfl
theorem e_X10_strokeGoes (a1 : Nat) (x2 : Int32) (M : Mem) : fX10_strokeGoes a1 x2 M = (fX10_strokeGoes_2 FU a1 x2 0 M : Option (Mem)) := by
  unfold fX10_strokeGoes <;> rfl
theorem e_X10_races_7  (n : Nat) (a1 : Nat) (x2 : Int32) (x3 : Int32) (M : Mem) : fX10_races_7  (n + 1) a1 x2 x3 M = (ic (x2 ≤ x3) ((some M)) (((fX10_strokeGoes a1 x3 M).bind fun q4 => lt (x3 + 1) fun y6 => (fX10_races_7 n) a1 x2 y6 q4)) : Option (Mem)) := by
  rw [fX10_races_7] <;> rfl
theorem e_X10_races (a1 : Nat) (x2 : Int32) (M : Mem) : fX10_races a1 x2 M = ((fX10_laysRace a1 M).bind fun q1 => fX10_races_7 FU a1 x2 0 q1 : Option (Mem)) := by
  unfold fX10_races <;> rfl
theorem e_X10_touchOf_2  (n : Nat) (x1 : Int32) (x2 : Int32) (M : Mem) : fX10_touchOf_2  (n + 1) x1 x2 M = (ic ((M.1 169 27) ≤ x2) ((some ((-1), M))) ((ic (inb x2 6) (ic ((M.1 183 (ix x2)) = x1) ((some (x2, M))) ((lt (x2 + 1) fun y4 => (fX10_touchOf_2 n) x1 y4 M))) (none))) : Option (Int32 × Mem)) := by
  rw [fX10_touchOf_2] <;> rfl
theorem e_X10_touchOf (x1 : Int32) (M : Mem) : fX10_touchOf x1 M = (fX10_touchOf_2 FU x1 0 M : Option (Int32 × Mem)) := by
  unfold fX10_touchOf <;> rfl
theorem e_X10_touchers_4  (n : Nat) (x1 : Int32) (x2 : Int32) (x3 : Int32) (M : Mem) : fX10_touchers_4  (n + 1) x1 x2 x3 M = (ic ((M.1 169 27) ≤ x3) ((some (x2, M))) ((ic (x1 = 0) ((ic (inb x3 6) (lt (x2 ||| (1 <<< ((M.1 184 (ix x3)) &&& 31))) fun y4 => lt (x3 + 1) fun y6 => (fX10_touchers_4 n) x1 y4 y6 M) (none))) ((ic (inb x3 6) (lt (x2 ||| (1 <<< ((M.1 183 (ix x3)) &&& 31))) fun y9 => lt (x3 + 1) fun y11 => (fX10_touchers_4 n) x1 y9 y11 M) (none))))) : Option (Int32 × Mem)) := by
  rw [fX10_touchers_4] <;> rfl
theorem e_X10_touchers (x1 : Int32) (M : Mem) : fX10_touchers x1 M = (fX10_touchers_4 FU x1 0 0 M : Option (Int32 × Mem)) := by
  unfold fX10_touchers <;> rfl
theorem e_X10_touchedBy_2  (n : Nat) (x1 : Int32) (x2 : Int32) (M : Mem) : fX10_touchedBy_2  (n + 1) x1 x2 M = (ic ((M.1 169 27) ≤ x2) ((some ((-1), M))) ((ic (inb x2 6) (ic ((M.1 184 (ix x2)) = x1) ((ic (inb x2 6) (some (M.1 183 (ix x2), M)) (none))) ((lt (x2 + 1) fun y4 => (fX10_touchedBy_2 n) x1 y4 M))) (none))) : Option (Int32 × Mem)) := by
  rw [fX10_touchedBy_2] <;> rfl
theorem e_X10_touchedBy (x1 : Int32) (M : Mem) : fX10_touchedBy x1 M = (fX10_touchedBy_2 FU x1 0 M : Option (Int32 × Mem)) := by
  unfold fX10_touchedBy <;> rfl
theorem e_X10_boat_25 (M : Mem) : fX10_boat_25 M = ((fX10_refuse M).bind fun q29 => some (q29.1, q29.2) : Option (Int32 × Mem)) := by
  unfold fX10_boat_25 <;> rfl
theorem e_X10_boat (x1 : Int32) (x2 : Int32) (M : Mem) : fX10_boat x1 x2 M = (lt (sI M 169 0 0) fun M1 => (fX10_isBoat x1 M1).bind fun q3 => ic (q3.1 = 0) ((fX10_boat_25 q3.2)) (((fX10_in x2.toInt64 0 5 q3.2).bind fun q6 => ic (q6.1 = 0) ((fX10_boat_25 q6.2)) ((ic (inb 19 22) ((fX10_races 171 (q6.2.1 171 (ix 19)) q6.2).bind fun q10 => (fX10_touchOf x1 q10).bind fun q12 => ic (x2 = 0) ((ic (inb x1 22) (some (q12.2.1 171 (ix x1), q12.2)) (none))) ((ic (x2 = 1) ((ic (inb (6 + x1) 22) (some (q12.2.1 171 (ix (6 + x1)), q12.2)) (none))) ((ic (x2 = 2) ((ic (inb (12 + x1) 22) (some (q12.2.1 171 (ix (12 + x1)), q12.2)) (none))) ((ic (x2 = 3) ((ic (inb (12 + x1) 22) ((fX10_boatOn 171 ((q12.2.1 171 (ix (12 + x1))) - 1) q12.2).bind fun q22 => some (q22.1, q22.2)) (none))) ((ic (x2 = 4) ((ic (0 ≤ q12.1) ((ic (inb q12.1 6) (some (q12.2.1 184 (ix q12.1), q12.2)) (none))) ((some ((-1), q12.2))))) (((fX10_touchedBy x1 q12.2).bind fun q27 => some (q27.1, q27.2)))))))))))) (none))))) : Option (Int32 × Mem)) := by
  unfold fX10_boat <;> rfl
theorem e_X10_at (x1 : Int32) (M : Mem) : fX10_at x1 M = (lt (sI M 169 0 0) fun M1 => (fX10_isBoat x1 M1).bind fun q3 => ic (q3.1 = 0) (((fX10_refuse q3.2).bind fun q6 => some (q6.1, q6.2))) (((fX10_boatOn 171 x1 q3.2).bind fun q8 => some (q8.1, q8.2))) : Option (Int32 × Mem)) := by
  unfold fX10_at <;> rfl
theorem e_X10_sheet_75 (k43 : Int32 → Int32 → Int32 → Int32 → Int32 → Mem → Option (Int32 × Mem)) (x1 : Int32) (x2 : Int32) (x4 : Int32) (x5 : Int32) (x6 : Int32) (s0 : Int32) (M : Mem) : fX10_sheet_75 k43 x1 x2 x4 x5 x6 s0 M = (ic (x1 = 3) ((ic (inb x6 22) (lt (sI M 171 (ix x6) 1) fun M17 => lt (x5 + x4) fun y19 => lt (x6 + 1) fun y21 => k43 x1 x2 x4 y19 y21 M17) (none))) ((ic (x6 < x2) ((ic (inb x6 22) (lt (sI M 171 (ix x6) (if (1 : Int32) < (if s0 < (9 : Int32) then s0 else 9) then (if s0 < (9 : Int32) then s0 else 9) else 1)) fun M25 => lt (x5 + x4) fun y27 => lt (x6 + 1) fun y29 => k43 x1 x2 x4 y27 y29 M25) (none))) ((ic (inb x6 22) (lt (sI M 171 (ix x6) 1) fun M32 => lt (x5 + x4) fun y34 => lt (x6 + 1) fun y36 => k43 x1 x2 x4 y34 y36 M32) (none))))) : Option (Int32 × Mem)) := by
  unfold fX10_sheet_75 <;> rfl
theorem e_X10_sheet_43  (n : Nat) (x1 : Int32) (x2 : Int32) (x4 : Int32) (x5 : Int32) (x6 : Int32) (M : Mem) : fX10_sheet_43  (n + 1) x1 x2 x4 x5 x6 M = (ic ((M.1 169 3) ≤ x6) ((ic (x1 = 3) ((some ((-3), M))) (((fX10_sumOf 171 0 M).bind fun q11 => some (q11.1, q11.2))))) ((ic (x1 = 0) ((fX10_sheet_75 (fX10_sheet_43 n) x1 x2 x4 x5 x6 x5.toInt8.toInt32 M)) ((ic (x1 = 1) ((fX10_sheet_75 (fX10_sheet_43 n) x1 x2 x4 x5 x6 x5.toInt16.toInt32 M)) ((fX10_sheet_75 (fX10_sheet_43 n) x1 x2 x4 x5 x6 x5 M)))))) : Option (Int32 × Mem)) := by
  rw [fX10_sheet_43] <;> rfl
theorem e_X10_sheet (x1 : Int32) (x2 : Int32) (x3 : Int32) (x4 : Int32) (M : Mem) : fX10_sheet x1 x2 x3 x4 M = (lt (sI M 169 0 0) fun M1 => (fX10_in x1.toInt64 0 3 M1).bind fun q3 => ic (q3.1 = 0) ((some ((-1), q3.2))) ((ic (x2 ≤ 6) ((ic (x1 = 3) ((fX10_sheet_43 FU x1 x2 x4 x3 0 q3.2)) ((ic (0 ≤ x2) ((fX10_sheet_43 FU x1 x2 x4 x3 0 q3.2)) ((some ((-2), q3.2))))))) ((some ((-1), q3.2))))) : Option (Int32 × Mem)) := by
  unfold fX10_sheet <;> rfl
theorem e_X10_putsBy_2  (n : Nat) (x1 : Int32) (M : Mem) : fX10_putsBy_2  (n + 1) x1 M = (ic (22 ≤ x1) ((some M)) ((ic (inb x1 22) (ic (inb ((22 * (M.1 169 28)) + x1) 352) (lt (sI M 185 (ix ((22 * (M.1 169 28)) + x1)) (M.1 171 (ix x1))) fun M4 => lt (x1 + 1) fun y6 => (fX10_putsBy_2 n) y6 M4) (none)) (none))) : Option (Mem)) := by
  rw [fX10_putsBy_2] <;> rfl
theorem e_X10_putsBy (M : Mem) : fX10_putsBy M = (fX10_putsBy_2 FU 0 M : Option (Mem)) := by
  unfold fX10_putsBy <;> rfl
theorem e_X10_adds_21  (n : Nat) (x1 : Int32) (x2 : Int32) (M : Mem) : fX10_adds_21  (n + 1) x1 x2 M = (ic (330 ≤ x2) ((lt (sI M 169 28 ((M.1 169 28) - 1)) fun M5 => some (x1, M5))) ((ic (inb (x2 + 22) 352) (ic (inb x2 352) (lt (sI M 185 (ix x2) (M.1 185 (ix (x2 + 22)))) fun M9 => lt (x2 + 1) fun y11 => (fX10_adds_21 n) x1 y11 M9) (none)) (none))) : Option (Int32 × Mem)) := by
  rw [fX10_adds_21] <;> rfl
theorem e_X10_adds (x1 : Int32) (M : Mem) : fX10_adds x1 M = (lt (sI M 169 28 ((M.1 169 28) + 1)) fun M1 => ic ((M1.1 169 28) ≤ 15) ((some (x1, M1))) ((fX10_adds_21 FU x1 0 M1)) : Option (Int32 × Mem)) := by
  unfold fX10_adds <;> rfl
theorem e_X10_counted (x1 : Int32) (M : Mem) : fX10_counted x1 M = (ic (0 ≤ x1) (((fX10_adds x1 M).bind fun q2 => some (q2.1, q2.2))) ((some (x1, M))) : Option (Int32 × Mem)) := by
  unfold fX10_counted <;> rfl
theorem e_X10_undo_26  (n : Nat) (x1 : Int32) (M : Mem) : fX10_undo_26  (n + 1) x1 M = (ic (22 ≤ x1) ((some (M.1 169 28, M))) ((ic (inb ((22 * (M.1 169 28)) + x1) 352) (ic (inb x1 22) (lt (sI M 171 (ix x1) (M.1 185 (ix ((22 * (M.1 169 28)) + x1)))) fun M9 => lt (x1 + 1) fun y11 => (fX10_undo_26 n) y11 M9) (none)) (none))) : Option (Int32 × Mem)) := by
  rw [fX10_undo_26] <;> rfl
theorem e_X10_undo (M : Mem) : fX10_undo M = (lt (sI M 169 0 0) fun M1 => ic ((M1.1 169 28) = 0) ((some ((-1), M1))) ((lt (sI M1 169 28 ((M1.1 169 28) - 1)) fun M4 => fX10_undo_26 FU 0 M4)) : Option (Int32 × Mem)) := by
  unfold fX10_undo <;> rfl
theorem e_X10_dayGoes_111 (k73 : Nat → Int32 → Mem → Option (Mem)) (a1 : Nat) (x2 : Int32) (s0 : Int32) (s1 : Int32) (s2 : Int32) (s3 : Int32) (s4 : Int32) (t5 : Nat) (M : Mem) : fX10_dayGoes_111 k73 a1 x2 s0 s1 s2 s3 s4 t5 M = (ic (inb s4 (ln t5)) (lt (sI M t5 (ix s4) (if s3 < (if (s1 + s0) < s2 then (s1 + s0) else s2) then (if (s1 + s0) < s2 then (s1 + s0) else s2) else s3)) fun M37 => lt (x2 + 1) fun y39 => k73 a1 y39 M37) (none) : Option (Mem)) := by
  unfold fX10_dayGoes_111 <;> rfl
theorem e_X10_dayGoes_73  (n : Nat) (a1 : Nat) (x2 : Int32) (M : Mem) : fX10_dayGoes_73  (n + 1) a1 x2 M = (ic ((M.1 169 3) ≤ x2) ((lt (sI M 169 30 ((M.1 169 30) + (M.1 169 27))) fun M22 => ic (inb 21 (ln a1)) (ic (inb 21 (ln a1)) (lt (sI M22 a1 (ix 21) (if ((M22.1 a1 (ix 21)) + (M22.1 169 27)) < (9999 : Int32) then ((M22.1 a1 (ix 21)) + (M22.1 169 27)) else 9999)) fun M26 => ic (inb 20 (ln a1)) (ic (inb 20 (ln a1)) (lt (sI M26 a1 (ix 20) ((M26.1 a1 (ix 20)) + 1)) fun M30 => some M30) (none)) (none)) (none)) (none))) ((ic (inb (6 + x2) (ln a1)) ((fX10_has (M.1 169 23) x2 M).bind fun q33 => ic (q33.1 = 0) ((fX10_dayGoes_111 (fX10_dayGoes_73 n) a1 x2 (-1) (M.1 a1 (ix (6 + x2))) 9 0 (6 + x2) a1 q33.2)) ((fX10_dayGoes_111 (fX10_dayGoes_73 n) a1 x2 1 (M.1 a1 (ix (6 + x2))) 9 0 (6 + x2) a1 q33.2))) (none))) : Option (Mem)) := by
  rw [fX10_dayGoes_73] <;> rfl
theorem e_X10_dayGoes_11  (n : Nat) (a1 : Nat) (x2 : Int32) (M : Mem) : fX10_dayGoes_11  (n + 1) a1 x2 M = (ic ((M.1 169 27) ≤ x2) ((fX10_dayGoes_73 FU a1 0 M)) ((ic (inb x2 6) (ic (inb (12 + (M.1 183 (ix x2))) (ln a1)) (lt (M.1 a1 (ix (12 + (M.1 183 (ix x2))))) fun y7 => ic (inb x2 6) (ic (inb x2 6) (ic (inb (12 + (M.1 184 (ix x2))) (ln a1)) (ic (inb (12 + (M.1 183 (ix x2))) (ln a1)) (lt (sI M a1 (ix (12 + (M.1 183 (ix x2)))) (M.1 a1 (ix (12 + (M.1 184 (ix x2)))))) fun M13 => ic (inb x2 6) (ic (inb (12 + (M13.1 184 (ix x2))) (ln a1)) (lt (sI M13 a1 (ix (12 + (M13.1 184 (ix x2)))) y7) fun M17 => lt (x2 + 1) fun y19 => (fX10_dayGoes_11 n) a1 y19 M17) (none)) (none)) (none)) (none)) (none)) (none)) (none)) (none))) : Option (Mem)) := by
  rw [fX10_dayGoes_11] <;> rfl
theorem e_X10_dayGoes (a1 : Nat) (M : Mem) : fX10_dayGoes a1 M = (ic (inb 19 (ln a1)) ((fX10_races a1 (M.1 a1 (ix 19)) M).bind fun q2 => fX10_dayGoes_11 FU a1 0 q2) (none) : Option (Mem)) := by
  unfold fX10_dayGoes <;> rfl
theorem e_X10_goesOn_7  (n : Nat) (a1 : Nat) (x2 : Int32) (x3 : Int32) (M : Mem) : fX10_goesOn_7  (n + 1) a1 x2 x3 M = (ic (x2 ≤ x3) ((some M)) (((fX10_dayGoes a1 M).bind fun q4 => lt (x3 + 1) fun y6 => (fX10_goesOn_7 n) a1 x2 y6 q4)) : Option (Mem)) := by
  rw [fX10_goesOn_7] <;> rfl
theorem e_X10_goesOn (a1 : Nat) (x2 : Int32) (M : Mem) : fX10_goesOn a1 x2 M = (lt (sI M 169 30 0) fun M1 => fX10_goesOn_7 FU a1 x2 0 M1 : Option (Mem)) := by
  unfold fX10_goesOn <;> rfl
theorem e_X10_scratchesOne_53 (k20 : Nat → Int32 → Int32 → Int32 → Mem → Option (Int32 × Mem)) (a1 : Nat) (x2 : Int32) (x3 : Int32) (x4 : Int32) (s0 : Int32) (s1 : Int32) (s2 : Int32) (t3 : Nat) (M : Mem) : fX10_scratchesOne_53 k20 a1 x2 x3 x4 s0 s1 s2 t3 M = ((fX10_flag s0 M).bind fun q15 => ic (inb s2 (ln t3)) (lt (sI q15.2 t3 (ix s2) (s1 - q15.1)) fun M18 => lt (x4 + 1) fun y20 => k20 a1 x2 x3 y20 M18) (none) : Option (Int32 × Mem)) := by
  unfold fX10_scratchesOne_53 <;> rfl
theorem e_X10_scratchesOne_20  (n : Nat) (a1 : Nat) (x2 : Int32) (x3 : Int32) (x4 : Int32) (M : Mem) : fX10_scratchesOne_20  (n + 1) a1 x2 x3 x4 M = (ic ((M.1 169 3) ≤ x4) ((ic (inb (12 + x2) (ln a1)) (lt (sI M a1 (ix (12 + x2)) ((M.1 169 3) - 1)) fun M9 => ic (x3 = ((M9.1 169 3) - 1)) ((some ((-2), M9))) ((some (x3, M9)))) (none))) ((ic (inb (12 + x4) (ln a1)) (ic (inb (12 + x4) (ln a1)) (ic ((M.1 a1 (ix (12 + x4))) ≤ x3) ((fX10_scratchesOne_53 (fX10_scratchesOne_20 n) a1 x2 x3 x4 0 (M.1 a1 (ix (12 + x4))) (12 + x4) a1 M)) ((fX10_scratchesOne_53 (fX10_scratchesOne_20 n) a1 x2 x3 x4 1 (M.1 a1 (ix (12 + x4))) (12 + x4) a1 M))) (none)) (none))) : Option (Int32 × Mem)) := by
  rw [fX10_scratchesOne_20] <;> rfl
theorem e_X10_scratchesOne (a1 : Nat) (x2 : Int32) (M : Mem) : fX10_scratchesOne a1 x2 M = ((fX10_isBoat x2 M).bind fun q1 => ic (q1.1 = 0) ((some ((-1), q1.2))) ((ic (inb (12 + x2) (ln a1)) (lt (q1.2.1 a1 (ix (12 + x2))) fun y5 => fX10_scratchesOne_20 FU a1 x2 y5 0 q1.2) (none))) : Option (Int32 × Mem)) := by
  unfold fX10_scratchesOne <;> rfl
theorem e_X10_becomes (x1 : Int32) (x2 : Int32) (x3 : Int32) (M : Mem) : fX10_becomes x1 x2 x3 M = (ic (x3 = 0) ((some ((-1), M))) ((ic (inb x1 22) (lt (M.1 171 (ix x1)) fun y3 => ic (inb x1 22) (lt (sI M 171 (ix x1) x2) fun M6 => ic (y3 = x2) ((some ((-2), M6))) ((some (y3, M6)))) (none)) (none))) : Option (Int32 × Mem)) := by
  unfold fX10_becomes <;> rfl
theorem e_X10_days (x1 : Int32) (M : Mem) : fX10_days x1 M = (lt (sI M 169 0 0) fun M1 => (fX10_in x1.toInt64 0 60 M1).bind fun q3 => ic (q3.1 = 0) ((some ((-2), q3.2))) (((fX10_putsBy q3.2).bind fun q6 => (fX10_goesOn 171 x1 q6).bind fun q8 => lt (sI q8 169 1 0) fun M10 => (fX10_enters ((M10.1 169 30).toInt64) M10).bind fun q12 => (fX10_boatOn 171 0 q12).bind fun q14 => (fX10_adds q14.1 q14.2).bind fun q16 => some (q16.1, q16.2))) : Option (Int32 × Mem)) := by
  unfold fX10_days <;> rfl
theorem e_X10_restsOne (x1 : Int32) (M : Mem) : fX10_restsOne x1 M = ((fX10_isBoat x1 M).bind fun q1 => ic (q1.1 = 0) ((some ((-1), q1.2))) (((fX10_becomes (6 + x1) 0 1 q1.2).bind fun q4 => some (q4.1, q4.2))) : Option (Int32 × Mem)) := by
  unfold fX10_restsOne <;> rfl
theorem e_X10_pacesOne (x1 : Int32) (x2 : Int32) (M : Mem) : fX10_pacesOne x1 x2 M = ((fX10_isBoat x1 M).bind fun q1 => ic (q1.1 = 0) ((some ((-1), q1.2))) (((fX10_in x2.toInt64 1 9 q1.2).bind fun q4 => (fX10_becomes x1 x2 q4.1 q4.2).bind fun q6 => some (q6.1, q6.2))) : Option (Int32 × Mem)) := by
  unfold fX10_pacesOne <;> rfl
theorem e_X10_scratches (x1 : Int32) (M : Mem) : fX10_scratches x1 M = (lt (sI M 169 0 0) fun M1 => (fX10_putsBy M1).bind fun q3 => (fX10_scratchesOne 171 x1 q3).bind fun q5 => (fX10_counted q5.1 q5.2).bind fun q7 => some (q7.1, q7.2) : Option (Int32 × Mem)) := by
  unfold fX10_scratches <;> rfl
theorem e_X10_rests (x1 : Int32) (M : Mem) : fX10_rests x1 M = (lt (sI M 169 0 0) fun M1 => (fX10_putsBy M1).bind fun q3 => (fX10_restsOne x1 q3).bind fun q5 => (fX10_counted q5.1 q5.2).bind fun q7 => some (q7.1, q7.2) : Option (Int32 × Mem)) := by
  unfold fX10_rests <;> rfl
theorem e_X10_paces (x1 : Int32) (x2 : Int32) (M : Mem) : fX10_paces x1 x2 M = (lt (sI M 169 0 0) fun M1 => (fX10_putsBy M1).bind fun q3 => (fX10_pacesOne x1 x2 q3).bind fun q5 => (fX10_counted q5.1 q5.2).bind fun q7 => some (q7.1, q7.2) : Option (Int32 × Mem)) := by
  unfold fX10_paces <;> rfl
theorem e_X10_gap (x1 : Int32) (M : Mem) : fX10_gap x1 M = (lt (sI M 169 0 0) fun M1 => (fX10_putsBy M1).bind fun q3 => (fX10_in x1.toInt64 1 30 q3).bind fun q5 => (fX10_becomes 18 x1 q5.1 q5.2).bind fun q7 => (fX10_counted q7.1 q7.2).bind fun q9 => some (q9.1, q9.2) : Option (Int32 × Mem)) := by
  unfold fX10_gap <;> rfl
theorem e_X10_strokes (x1 : Int32) (M : Mem) : fX10_strokes x1 M = (lt (sI M 169 0 0) fun M1 => (fX10_putsBy M1).bind fun q3 => (fX10_in x1.toInt64 1 40 q3).bind fun q5 => (fX10_becomes 19 x1 q5.1 q5.2).bind fun q7 => (fX10_counted q7.1 q7.2).bind fun q9 => some (q9.1, q9.2) : Option (Int32 × Mem)) := by
  unfold fX10_strokes <;> rfl
theorem e_X10_readsAct_69 (x1 : Int32) (M : Mem) : fX10_readsAct_69 x1 M = (ic (inb x1 60) (ic ((M.1 187 (ix x1)) < 0) ((some (0, M))) ((some (1, M)))) (none) : Option (Int32 × Mem)) := by
  unfold fX10_readsAct_69 <;> rfl
theorem e_X10_readsAct_105 (x1 : Int32) (s0 : Int32) (s2 : Int32) (M : Mem) : fX10_readsAct_105 x1 s0 s2 M = ((fX10_flag s0 M).bind fun q25 => (fX10_digitIn q25.1 9 q25.2).bind fun q27 => ic (inb s2 60) (lt (sI q27.2 188 (ix s2) q27.1) fun M30 => ic (inb x1 60) (ic ((M30.1 188 (ix x1)) < 0) ((some (0, M30))) ((some (1, M30)))) (none)) (none) : Option (Int32 × Mem)) := by
  unfold fX10_readsAct_105 <;> rfl
theorem e_X10_readsAct (M : Mem) : fX10_readsAct M = (lt (M.1 169 34) fun y1 => (fX10_takesOf 4 M).bind fun q3 => ic (inb y1 60) (lt (sI q3.2 186 (ix y1) q3.1) fun M6 => lt (sI M6 169 34 ((M6.1 169 34) + 1)) fun M8 => ic (inb y1 60) (ic (0 ≤ (M8.1 186 (ix y1))) (((fX10_number 1 M8).bind fun q12 => ic (inb y1 60) (lt (sI q12.2 187 (ix y1) q12.1) fun M15 => ic (inb y1 60) (ic ((M15.1 187 (ix y1)) < 0) ((fX10_readsAct_69 y1 M15)) ((ic (inb y1 60) (ic (3 ≤ (M15.1 186 (ix y1))) ((ic (inb y1 60) (ic ((M15.1 186 (ix y1)) = 3) ((fX10_readsAct_105 y1 1 y1 M15)) ((fX10_readsAct_105 y1 0 y1 M15))) (none))) ((fX10_readsAct_69 y1 M15))) (none)))) (none)) (none))) ((some (0, M8)))) (none)) (none) : Option (Int32 × Mem)) := by
  unfold fX10_readsAct <;> rfl
theorem e_X10_does_63  (n : Nat) (x2 : Int32) (x4 : Int32) (M : Mem) : fX10_does_63  (n + 1) x2 x4 M = (ic (x2 ≤ x4) ((some (1, M))) (((fX10_dayGoes 171 M).bind fun q36 => lt (x4 + 1) fun y38 => (fX10_does_63 n) x2 y38 q36)) : Option (Int32 × Mem)) := by
  rw [fX10_does_63] <;> rfl
theorem e_X10_does (x1 : Int32) (M : Mem) : fX10_does x1 M = (ic (inb x1 60) (lt (M.1 187 (ix x1)) fun y2 => ic (inb x1 60) (lt ((10 * y2) + (M.1 188 (ix x1))) fun y5 => ic (inb x1 60) (lt (M.1 186 (ix x1)) fun y8 => ic (y8 = 0) ((fX10_does_63 FU y2 0 M)) ((ic (y8 = 1) (((fX10_scratchesOne 171 y2 M).bind fun q12 => ic (q12.1 < 0) ((some (0, q12.2))) ((some (1, q12.2))))) ((ic (y8 = 2) (((fX10_restsOne y2 M).bind fun q16 => ic (q16.1 < 0) ((some (0, q16.2))) ((some (1, q16.2))))) ((ic (y8 = 3) ((ic (inb x1 60) ((fX10_pacesOne y2 (M.1 188 (ix x1)) M).bind fun q21 => ic (q21.1 < 0) ((some (0, q21.2))) ((some (1, q21.2)))) (none))) ((ic (y8 = 4) (((fX10_in y5.toInt64 1 30 M).bind fun q25 => (fX10_becomes 18 y5 q25.1 q25.2).bind fun q27 => ic (q27.1 < 0) ((some (0, q27.2))) ((some (1, q27.2))))) (((fX10_in y5.toInt64 1 40 M).bind fun q30 => (fX10_becomes 19 y5 q30.1 q30.2).bind fun q32 => ic (q32.1 < 0) ((some (0, q32.2))) ((some (1, q32.2)))))))))))))) (none)) (none)) (none) : Option (Int32 × Mem)) := by
  unfold fX10_does <;> rfl
theorem e_X10_week_108 (x4 : Int32) (s0 : Int32) (M : Mem) : fX10_week_108 x4 s0 M = ((fX10_flag s0 M).bind fun q25 => (fX10_enters q25.1.toInt64 q25.2).bind fun q27 => ic (inb 20 22) ((fX10_enters ((q27.1 171 (ix 20)).toInt64) q27).bind fun q30 => ic (x4 ≤ 0) ((some (0, q30))) (((fX10_adds x4 q30).bind fun q33 => some (q33.1, q33.2)))) (none) : Option (Int32 × Mem)) := by
  unfold fX10_week_108 <;> rfl
theorem e_X10_week_88 (x4 : Int32) (M : Mem) : fX10_week_88 x4 M = (lt (sI M 169 1 0) fun M22 => ic ((M22.1 169 34) ≤ x4) ((fX10_week_108 x4 0 M22)) ((fX10_week_108 x4 1 M22)) : Option (Int32 × Mem)) := by
  unfold fX10_week_88 <;> rfl
theorem e_X10_week_64  (n : Nat) (x4 : Int32) (M : Mem) : fX10_week_64  (n + 1) x4 M = (ic ((M.1 169 34) ≤ x4) ((fX10_week_88 x4 M)) (((fX10_does x4 M).bind fun q17 => ic (q17.1 = 0) ((fX10_week_88 x4 q17.2)) ((lt (x4 + 1) fun y20 => (fX10_week_64 n) y20 q17.2)))) : Option (Int32 × Mem)) := by
  rw [fX10_week_64] <;> rfl
theorem e_X10_week_42 (x1 : Int32) (x2 : Int32) (M : Mem) : fX10_week_42 x1 x2 M = ((fX10_faultOf x1 60 x2 M).bind fun q11 => ic (0 ≤ q11.1) (((fX10_putsBy q11.2).bind fun q14 => fX10_week_64 FU 0 q14)) ((some (q11.1, q11.2))) : Option (Int32 × Mem)) := by
  unfold fX10_week_42 <;> rfl
theorem e_X10_week_19  (n : Nat) (x1 : Int32) (x2 : Int32) (M : Mem) : fX10_week_19  (n + 1) x1 x2 M = (ic (x2 = 0) ((fX10_week_42 x1 x2 M)) ((ic ((M.1 169 10) ≤ (M.1 169 9)) ((fX10_week_42 x1 x2 M)) (((fX10_readsAct M).bind fun q9 => (fX10_week_19 n) x1 q9.1 q9.2)))) : Option (Int32 × Mem)) := by
  rw [fX10_week_19] <;> rfl
theorem e_X10_week (M : Mem) : fX10_week M = (lt (sI M 169 0 0) fun M1 => (fX10_begins 60 M1).bind fun q3 => lt (sI q3.2 169 34 0) fun M5 => fX10_week_19 FU q3.1 1 M5 : Option (Int32 × Mem)) := by
  unfold fX10_week <;> rfl
theorem e_X10_copies_2  (n : Nat) (x1 : Int32) (M : Mem) : fX10_copies_2  (n + 1) x1 M = (ic (22 ≤ x1) ((some M)) ((ic (inb x1 22) (ic (inb x1 22) (lt (sI M 172 (ix x1) (M.1 171 (ix x1))) fun M4 => lt (x1 + 1) fun y6 => (fX10_copies_2 n) y6 M4) (none)) (none))) : Option (Mem)) := by
  rw [fX10_copies_2] <;> rfl
theorem e_X10_copies (M : Mem) : fX10_copies M = (fX10_copies_2 FU 0 M : Option (Mem)) := by
  unfold fX10_copies <;> rfl
theorem e_X10_race_27  (n : Nat) (x1 : Int32) (M : Mem) : fX10_race_27  (n + 1) x1 M = (ic ((M.1 169 27) ≤ x1) ((some (M.1 169 27, M))) ((ic (inb x1 6) ((fX10_enters ((M.1 182 (ix x1)).toInt64) M).bind fun q10 => ic (inb x1 6) ((fX10_enters ((q10.1 183 (ix x1)).toInt64) q10).bind fun q13 => ic (inb x1 6) ((fX10_enters ((q13.1 184 (ix x1)).toInt64) q13).bind fun q16 => lt (x1 + 1) fun y18 => (fX10_race_27 n) y18 q16) (none)) (none)) (none))) : Option (Int32 × Mem)) := by
  rw [fX10_race_27] <;> rfl
theorem e_X10_race (M : Mem) : fX10_race M = (lt (sI M 169 0 0) fun M1 => ic (inb 19 22) ((fX10_races 171 (M1.1 171 (ix 19)) M1).bind fun q4 => lt (sI q4 169 1 0) fun M6 => fX10_race_27 FU 0 M6) (none) : Option (Int32 × Mem)) := by
  unfold fX10_race <;> rfl
theorem e_X10_lies (x1 : Int32) (x2 : Int32) (M : Mem) : fX10_lies x1 x2 M = (lt (sI M 169 0 0) fun M1 => (fX10_isBoat x1 M1).bind fun q3 => ic (q3.1 = 0) ((some ((-1), q3.2))) (((fX10_in x2.toInt64 0 40 q3.2).bind fun q6 => ic (q6.1 = 0) ((some ((-1), q6.2))) (((fX10_races 171 x2 q6.2).bind fun q9 => lt (sI q9 169 1 0) fun M11 => (fX10_has (M11.1 169 23) x1 M11).bind fun q13 => (fX10_flag q13.1 q13.2).bind fun q15 => (fX10_enters q15.1.toInt64 q15.2).bind fun q17 => ic (inb x1 6) (some (1000 + (q17.1 180 (ix x1)), q17)) (none))))) : Option (Int32 × Mem)) := by
  unfold fX10_lies <;> rfl
theorem e_X10_over (M : Mem) : fX10_over M = (lt (sI M 169 0 0) fun M1 => ic (inb 19 22) ((fX10_races 171 (M1.1 171 (ix 19)) M1).bind fun q4 => lt (sI q4 169 1 0) fun M6 => (fX10_touchers 1 M6).bind fun q8 => (fX10_enters q8.1.toInt64 q8.2).bind fun q10 => (fX10_touchers 0 q10).bind fun q12 => (fX10_enters q12.1.toInt64 q12.2).bind fun q14 => some (q14.1 169 23, q14)) (none) : Option (Int32 × Mem)) := by
  unfold fX10_over <;> rfl
theorem e_X10_closest_155 (k35 : Int32 → Int32 → Int32 → Int32 → Int32 → Mem → Option (Int32 × Mem)) (x1 : Int32) (x2 : Int32) (x3 : Int32) (x5 : Int32) (s0 : Int32) (M : Mem) : fX10_closest_155 k35 x1 x2 x3 x5 s0 M = ((fX10_strokeGoes 171 x5 M).bind fun q35 => lt (x5 + 1) fun y37 => k35 x1 x2 x3 s0 y37 q35 : Option (Int32 × Mem)) := by
  unfold fX10_closest_155 <;> rfl
theorem e_X10_closest_137 (k35 : Int32 → Int32 → Int32 → Int32 → Int32 → Mem → Option (Int32 × Mem)) (x1 : Int32) (x2 : Int32) (x4 : Int32) (x5 : Int32) (x6 : Int32) (x7 : Int32) (s0 : Int32) (M : Mem) : fX10_closest_137 k35 x1 x2 x4 x5 x6 x7 s0 M = (ic (x7 = 0) ((fX10_closest_155 k35 x1 x2 s0 x5 x4 M)) ((ic (inb x6 6) (fX10_closest_155 k35 x1 x2 s0 x5 (M.1 179 (ix x6)) M) (none))) : Option (Int32 × Mem)) := by
  unfold fX10_closest_137 <;> rfl
theorem e_X10_closest_125 (k35 : Int32 → Int32 → Int32 → Int32 → Int32 → Mem → Option (Int32 × Mem)) (x1 : Int32) (x3 : Int32) (x4 : Int32) (x5 : Int32) (x6 : Int32) (x7 : Int32) (s0 : Int32) (M : Mem) : fX10_closest_125 k35 x1 x3 x4 x5 x6 x7 s0 M = (ic (x7 = 0) ((fX10_closest_137 k35 x1 s0 x4 x5 x6 x7 x3 M)) ((fX10_closest_137 k35 x1 s0 x4 x5 x6 x7 x5 M)) : Option (Int32 × Mem)) := by
  unfold fX10_closest_125 <;> rfl
theorem e_X10_closest_101 (k35 : Int32 → Int32 → Int32 → Int32 → Int32 → Mem → Option (Int32 × Mem)) (x1 : Int32) (x2 : Int32) (x3 : Int32) (x4 : Int32) (x5 : Int32) (x6 : Int32) (s0 : Int32) (M : Mem) : fX10_closest_101 k35 x1 x2 x3 x4 x5 x6 s0 M = (ic (s0 = 0) ((fX10_closest_125 k35 x1 x3 x4 x5 x6 s0 x2 M)) ((ic (inb (12 + x1) 22) ((fX10_behind (M.1 171 (ix (12 + x1))) M).bind fun q30 => fX10_closest_125 k35 x1 x3 x4 x5 x6 s0 q30.1 q30.2) (none))) : Option (Int32 × Mem)) := by
  unfold fX10_closest_101 <;> rfl
theorem e_X10_closest_100 (k35 : Int32 → Int32 → Int32 → Int32 → Int32 → Mem → Option (Int32 × Mem)) (x1 : Int32) (x2 : Int32) (x3 : Int32) (x4 : Int32) (x5 : Int32) (x6 : Int32) (M : Mem) : fX10_closest_100 k35 x1 x2 x3 x4 x5 x6 M = (fX10_closest_101 k35 x1 x2 x3 x4 x5 x6 0 M : Option (Int32 × Mem)) := by
  unfold fX10_closest_100 <;> rfl
theorem e_X10_closest_35  (n : Nat) (x1 : Int32) (x2 : Int32) (x3 : Int32) (x4 : Int32) (x5 : Int32) (M : Mem) : fX10_closest_35  (n + 1) x1 x2 x3 x4 x5 M = (ic (inb 19 22) (ic ((M.1 171 (ix 19)) < x5) ((ic (0 ≤ x3) ((lt (sI M 169 1 0) fun M11 => (fX10_enters x3.toInt64 M11).bind fun q13 => (fX10_enters x4.toInt64 q13).bind fun q15 => some (x2, q15))) ((some ((-2), M))))) ((ic (inb (12 + x1) 22) ((fX10_nextPlace (M.1 171 (ix (12 + x1))) (-1) M).bind fun q18 => (fX10_has (q18.2.1 169 23) x1 q18.2).bind fun q20 => ic (q20.1 = 0) ((fX10_closest_100 (fX10_closest_35 n) x1 x2 x3 x4 x5 q18.1 q20.2)) ((ic (q18.1 < 0) ((fX10_closest_100 (fX10_closest_35 n) x1 x2 x3 x4 x5 q18.1 q20.2)) ((ic (inb (12 + x1) 22) ((fX10_behind (q20.2.1 171 (ix (12 + x1))) q20.2).bind fun q25 => ic (x2 ≤ q25.1) ((fX10_closest_100 (fX10_closest_35 n) x1 x2 x3 x4 x5 q18.1 q25.2)) ((fX10_closest_101 (fX10_closest_35 n) x1 x2 x3 x4 x5 q18.1 1 q25.2))) (none)))))) (none)))) (none) : Option (Int32 × Mem)) := by
  rw [fX10_closest_35] <;> rfl
theorem e_X10_closest (x1 : Int32) (M : Mem) : fX10_closest x1 M = (lt (sI M 169 0 0) fun M1 => (fX10_isBoat x1 M1).bind fun q3 => ic (q3.1 = 0) ((some ((-1), q3.2))) (((fX10_laysRace 171 q3.2).bind fun q6 => fX10_closest_35 FU x1 1000000 (-1) (-1) 0 q6)) : Option (Int32 × Mem)) := by
  unfold fX10_closest <;> rfl
theorem e_X10_later (x1 : Int32) (x2 : Int32) (M : Mem) : fX10_later x1 x2 M = (lt (sI M 169 0 0) fun M1 => (fX10_isBoat x1 M1).bind fun q3 => ic (q3.1 = 0) ((some ((-1), q3.2))) (((fX10_in x2.toInt64 0 60 q3.2).bind fun q6 => ic (q6.1 = 0) ((some ((-1), q6.2))) (((fX10_copies q6.2).bind fun q9 => (fX10_goesOn 172 x2 q9).bind fun q11 => lt (sI q11 169 1 0) fun M13 => ic (inb (6 + x1) 22) ((fX10_enters ((M13.1 172 (ix (6 + x1))).toInt64) M13).bind fun q16 => (fX10_enters ((q16.1 169 30).toInt64) q16).bind fun q18 => ic (inb (12 + x1) 22) (some (q18.1 172 (ix (12 + x1)), q18)) (none)) (none))))) : Option (Int32 × Mem)) := by
  unfold fX10_later <;> rfl
theorem e_X10_head_23  (n : Nat) (x1 : Int32) (x2 : Int32) (x3 : Int32) (M : Mem) : fX10_head_23  (n + 1) x1 x2 x3 M = (ic (60 < x3) ((some ((-2), M))) ((ic (inb (12 + x1) 22) (ic ((M.1 172 (ix (12 + x1))) = 0) ((lt (sI M 169 1 0) fun M17 => (fX10_enters x2.toInt64 M17).bind fun q19 => some (x3, q19))) (((fX10_boatOn 172 0 M).bind fun q11 => (fX10_dayGoes 172 q11.2).bind fun q13 => lt (x3 + 1) fun y15 => (fX10_head_23 n) x1 q11.1 y15 q13))) (none))) : Option (Int32 × Mem)) := by
  rw [fX10_head_23] <;> rfl
theorem e_X10_head (x1 : Int32) (M : Mem) : fX10_head x1 M = (lt (sI M 169 0 0) fun M1 => (fX10_isBoat x1 M1).bind fun q3 => ic (q3.1 = 0) ((some ((-1), q3.2))) (((fX10_copies q3.2).bind fun q6 => fX10_head_23 FU x1 (-1) 0 q6)) : Option (Int32 × Mem)) := by
  unfold fX10_head <;> rfl
theorem e_X10_bumps_102 (k41 : Int32 → Int32 → Int32 → Int32 → Int32 → Mem → Option (Int32 × Mem)) (x1 : Int32) (x2 : Int32) (x4 : Int32) (x5 : Int32) (x7 : Int32) (s0 : Int32) (M : Mem) : fX10_bumps_102 k41 x1 x2 x4 x5 x7 s0 M = ((fX10_flag x7 M).bind fun q27 => lt (x4 + q27.1) fun y29 => lt (x5 + 1) fun y31 => k41 x1 x2 s0 y29 y31 q27.2 : Option (Int32 × Mem)) := by
  unfold fX10_bumps_102 <;> rfl
theorem e_X10_bumps_101 (k41 : Int32 → Int32 → Int32 → Int32 → Int32 → Mem → Option (Int32 × Mem)) (x1 : Int32) (x2 : Int32) (x3 : Int32) (x4 : Int32) (x5 : Int32) (x7 : Int32) (M : Mem) : fX10_bumps_101 k41 x1 x2 x3 x4 x5 x7 M = (fX10_bumps_102 k41 x1 x2 x4 x5 x7 x3 M : Option (Int32 × Mem)) := by
  unfold fX10_bumps_101 <;> rfl
theorem e_X10_bumps_84 (k41 : Int32 → Int32 → Int32 → Int32 → Int32 → Mem → Option (Int32 × Mem)) (x1 : Int32) (x2 : Int32) (x3 : Int32) (x4 : Int32) (x5 : Int32) (s0 : Int32) (M : Mem) : fX10_bumps_84 k41 x1 x2 x3 x4 x5 s0 M = (ic (s0 = 0) ((fX10_bumps_101 k41 x1 x2 x3 x4 x5 s0 M)) ((ic (x4 = 0) ((fX10_bumps_102 k41 x1 x2 x4 x5 s0 x5 M)) ((fX10_bumps_101 k41 x1 x2 x3 x4 x5 s0 M)))) : Option (Int32 × Mem)) := by
  unfold fX10_bumps_84 <;> rfl
theorem e_X10_bumps_83 (k41 : Int32 → Int32 → Int32 → Int32 → Int32 → Mem → Option (Int32 × Mem)) (x1 : Int32) (x2 : Int32) (x3 : Int32) (x4 : Int32) (x5 : Int32) (M : Mem) : fX10_bumps_83 k41 x1 x2 x3 x4 x5 M = (fX10_bumps_84 k41 x1 x2 x3 x4 x5 0 M : Option (Int32 × Mem)) := by
  unfold fX10_bumps_83 <;> rfl
theorem e_X10_bumps_41  (n : Nat) (x1 : Int32) (x2 : Int32) (x3 : Int32) (x4 : Int32) (x5 : Int32) (M : Mem) : fX10_bumps_41  (n + 1) x1 x2 x3 x4 x5 M = (ic (60 < x5) ((ic (x4 ≤ 0) ((some (x3, M))) ((lt (sI M 169 1 0) fun M14 => (fX10_enters x4.toInt64 M14).bind fun q16 => some (x3, q16))))) (((fX10_dayGoes 172 M).bind fun q18 => (fX10_touchOf x1 q18).bind fun q20 => ic (q20.1 < 0) ((fX10_bumps_83 (fX10_bumps_41 n) x1 x2 x3 x4 x5 q20.2)) ((ic (inb q20.1 6) (ic ((q20.2.1 184 (ix q20.1)) = x2) ((fX10_bumps_84 (fX10_bumps_41 n) x1 x2 x3 x4 x5 1 q20.2)) ((fX10_bumps_83 (fX10_bumps_41 n) x1 x2 x3 x4 x5 q20.2))) (none))))) : Option (Int32 × Mem)) := by
  rw [fX10_bumps_41] <;> rfl
theorem e_X10_bumps (x1 : Int32) (x2 : Int32) (M : Mem) : fX10_bumps x1 x2 M = (lt (sI M 169 0 0) fun M1 => (fX10_isBoat x1 M1).bind fun q3 => ic (q3.1 = 0) ((some ((-1), q3.2))) (((fX10_isBoat x2 q3.2).bind fun q6 => ic (q6.1 = 0) ((some ((-1), q6.2))) ((ic (x1 = x2) ((some ((-1), q6.2))) (((fX10_copies q6.2).bind fun q10 => fX10_bumps_41 FU x1 x2 (-2) 0 1 q10)))))) : Option (Int32 × Mem)) := by
  unfold fX10_bumps <;> rfl
theorem e_X10_blades_37  (n : Nat) (x1 : Int32) (x2 : Int32) (x3 : Int32) (x4 : Int32) (M : Mem) : fX10_blades_37  (n + 1) x1 x2 x3 x4 M = (ic (x1 ≤ x4) ((lt (sI M 169 1 0) fun M11 => (fX10_enters x3.toInt64 M11).bind fun q13 => some (x2, q13))) (((fX10_dayGoes 172 M).bind fun q15 => (fX10_touchers 1 q15).bind fun q17 => lt (x2 &&& q17.1) fun y19 => (fX10_touchers 0 q17.2).bind fun q21 => lt (x3 &&& q21.1) fun y23 => lt (x4 + 1) fun y25 => (fX10_blades_37 n) x1 y19 y23 y25 q21.2)) : Option (Int32 × Mem)) := by
  rw [fX10_blades_37] <;> rfl
theorem e_X10_blades (x1 : Int32) (M : Mem) : fX10_blades x1 M = (lt (sI M 169 0 0) fun M1 => (fX10_in x1.toInt64 1 9 M1).bind fun q3 => ic (q3.1 = 0) ((some ((-1), q3.2))) (((fX10_copies q3.2).bind fun q6 => lt ((1 <<< ((q6.1 169 3) &&& 31)) - 1) fun y8 => fX10_blades_37 FU x1 y8 y8 0 q6)) : Option (Int32 × Mem)) := by
  unfold fX10_blades <;> rfl
theorem e_X10_many_b (rc : Int32 → Mem → Option (Int32 × Mem)) (x0 : Int32) (M : Mem) : fX10_many_b rc x0 M = (ic (2 ≤ x0) (((rc (x0 - 1) M).bind fun q2 => some (x0 * q2.1, q2.2))) ((some (1, M))) : Option (Int32 × Mem)) := by
  unfold fX10_many_b <;> rfl
theorem e_X10_many  (d : Nat) (x0 : Int32) (M : Mem) : fX10_many  (d + 1) x0 M = (fX10_many_b (fX10_many d) x0 M : Option (Int32 × Mem)) := by
  rw [fX10_many] <;> rfl
theorem e_X10_numberOf_46 (k20 : Nat → Int32 → Int32 → Int32 → Int32 → Mem → Option (Int32 × Mem)) (a1 : Nat) (x2 : Int32) (x3 : Int32) (x5 : Int32) (s0 : Int32) (s1 : Int32) (M : Mem) : fX10_numberOf_46 k20 a1 x2 x3 x5 s0 s1 M = ((fX10_flag s0 M).bind fun q14 => lt (s1 + q14.1) fun y16 => lt (x5 + 1) fun y18 => k20 a1 x2 x3 y16 y18 q14.2 : Option (Int32 × Mem)) := by
  unfold fX10_numberOf_46 <;> rfl
theorem e_X10_numberOf_20 (k4 : Nat → Int32 → Int32 → Mem → Option (Int32 × Mem)) (n : Nat) (a1 : Nat) (x2 : Int32) (x3 : Int32) (x4 : Int32) (x5 : Int32) (M : Mem) : fX10_numberOf_20 k4 (n + 1) a1 x2 x3 x4 x5 M = (ic ((M.1 169 3) ≤ x5) (((fX10_many 12 (((M.1 169 3) - 1) - x3) M).bind fun q5 => lt (x2 + (x4 * q5.1)) fun y7 => lt (x3 + 1) fun y9 => k4 a1 y7 y9 q5.2)) ((ic (inb x5 (ln a1)) (ic (inb x3 (ln a1)) (ic ((M.1 a1 (ix x3)) ≤ (M.1 a1 (ix x5))) ((fX10_numberOf_46 (fX10_numberOf_20 k4 n) a1 x2 x3 x5 0 x4 M)) ((fX10_numberOf_46 (fX10_numberOf_20 k4 n) a1 x2 x3 x5 1 x4 M))) (none)) (none))) : Option (Int32 × Mem)) := by
  rw [fX10_numberOf_20] <;> rfl
theorem e_X10_numberOf_4  (n : Nat) (a1 : Nat) (x2 : Int32) (x3 : Int32) (M : Mem) : fX10_numberOf_4  (n + 1) a1 x2 x3 M = (ic ((M.1 169 3) ≤ x3) ((some (x2, M))) ((lt (x3 + 1) fun y2 => fX10_numberOf_20 (fX10_numberOf_4 n) FU a1 x2 x3 0 y2 M)) : Option (Int32 × Mem)) := by
  rw [fX10_numberOf_4] <;> rfl
theorem e_X10_numberOf (a1 : Nat) (M : Mem) : fX10_numberOf a1 M = (fX10_numberOf_4 FU a1 0 0 M : Option (Int32 × Mem)) := by
  unfold fX10_numberOf <;> rfl
theorem e_X10_laysOrder_83 (k51 : Nat → Int32 → Int32 → Int32 → Int32 → Int32 → Mem → Option (Mem)) (a1 : Nat) (x3 : Int32) (x4 : Int32) (x5 : Int32) (x7 : Int32) (s0 : Int32) (s1 : Int32) (M : Mem) : fX10_laysOrder_83 k51 a1 x3 x4 x5 x7 s0 s1 M = ((fX10_flag s0 M).bind fun q26 => lt (s1 - q26.1) fun y28 => lt (x7 + 1) fun y30 => k51 a1 x3 x4 x5 y28 y30 q26.2 : Option (Mem)) := by
  unfold fX10_laysOrder_83 <;> rfl
theorem e_X10_laysOrder_66 (k51 : Nat → Int32 → Int32 → Int32 → Int32 → Int32 → Mem → Option (Mem)) (a1 : Nat) (x3 : Int32) (x4 : Int32) (x5 : Int32) (x6 : Int32) (x7 : Int32) (M : Mem) : fX10_laysOrder_66 k51 a1 x3 x4 x5 x6 x7 M = ((fX10_has x4 x7 M).bind fun q23 => ic (q23.1 = 0) ((fX10_laysOrder_83 k51 a1 x3 x4 x5 x7 1 x6 q23.2)) ((fX10_laysOrder_83 k51 a1 x3 x4 x5 x7 0 x6 q23.2)) : Option (Mem)) := by
  unfold fX10_laysOrder_66 <;> rfl
theorem e_X10_laysOrder_51 (k8 : Nat → Int32 → Int32 → Int32 → Mem → Option (Mem)) (n : Nat) (a1 : Nat) (x3 : Int32) (x4 : Int32) (x5 : Int32) (x6 : Int32) (x7 : Int32) (M : Mem) : fX10_laysOrder_51 k8 (n + 1) a1 x3 x4 x5 x6 x7 M = ((fX10_has x4 x7 M).bind fun q12 => ic (q12.1 = 0) ((ic (x6 ≤ 0) ((ic (inb x5 (ln a1)) (lt (sI q12.2 a1 (ix x5) x7) fun M17 => lt (x4 ||| (1 <<< (x7 &&& 31))) fun y19 => lt (x5 + 1) fun y21 => k8 a1 x3 y19 y21 M17) (none))) ((fX10_laysOrder_66 (fX10_laysOrder_51 k8 n) a1 x3 x4 x5 x6 x7 q12.2)))) ((fX10_laysOrder_66 (fX10_laysOrder_51 k8 n) a1 x3 x4 x5 x6 x7 q12.2)) : Option (Mem)) := by
  rw [fX10_laysOrder_51] <;> rfl
theorem e_X10_laysOrder_8  (n : Nat) (a1 : Nat) (x3 : Int32) (x4 : Int32) (x5 : Int32) (M : Mem) : fX10_laysOrder_8  (n + 1) a1 x3 x4 x5 M = (ic ((M.1 169 3) ≤ x5) ((some M)) (((fX10_many 12 (((M.1 169 3) - 1) - x5) M).bind fun q2 => ic (¬ q2.1 = 0) (lt (x3 / q2.1) fun y5 => (fX10_many 12 (((q2.2.1 169 3) - 1) - x5) q2.2).bind fun q7 => ic (¬ q7.1 = 0) (lt (x3 - x3 / q7.1 * q7.1) fun y10 => fX10_laysOrder_51 (fX10_laysOrder_8 n) FU a1 y10 x4 x5 y5 0 q7.2) (none)) (none))) : Option (Mem)) := by
  rw [fX10_laysOrder_8] <;> rfl
theorem e_X10_laysOrder (a1 : Nat) (x2 : Int32) (M : Mem) : fX10_laysOrder a1 x2 M = (fX10_laysOrder_8 FU a1 x2 0 0 M : Option (Mem)) := by
  unfold fX10_laysOrder <;> rfl
theorem e_X10_laysStanding_2  (n : Nat) (a1 : Nat) (a2 : Nat) (x3 : Int32) (M : Mem) : fX10_laysStanding_2  (n + 1) a1 a2 x3 M = (ic ((M.1 169 3) ≤ x3) ((some M)) (((fX10_boatOn a1 x3 M).bind fun q2 => ic (inb x3 (ln a2)) (lt (sI q2.2 a2 (ix x3) q2.1) fun M5 => lt (x3 + 1) fun y7 => (fX10_laysStanding_2 n) a1 a2 y7 M5) (none))) : Option (Mem)) := by
  rw [fX10_laysStanding_2] <;> rfl
theorem e_X10_laysStanding (a1 : Nat) (a2 : Nat) (M : Mem) : fX10_laysStanding a1 a2 M = (fX10_laysStanding_2 FU a1 a2 0 M : Option (Mem)) := by
  unfold fX10_laysStanding <;> rfl
theorem e_X10_round_123 (k56 : Int32 → Int32 → Int32 → Mem → Option (Int32 × Mem)) (x1 : Int32) (x3 : Int32) (x4 : Int32) (s0 : Int32) (s1 : Int32) (M : Mem) : fX10_round_123 k56 x1 x3 x4 s0 s1 M = ((fX10_flag s0 M).bind fun q28 => lt (s1 + q28.1) fun y30 => ic (inb x4 720) (lt (sI q28.2 191 (ix x4) (1 &&& 1)) fun M33 => (fX10_dayGoes 172 M33).bind fun q35 => lt (x3 + 1) fun y37 => k56 x1 y30 y37 q35) (none) : Option (Int32 × Mem)) := by
  unfold fX10_round_123 <;> rfl
theorem e_X10_round_107 (k56 : Int32 → Int32 → Int32 → Mem → Option (Int32 × Mem)) (x1 : Int32) (x2 : Int32) (x3 : Int32) (x4 : Int32) (M : Mem) : fX10_round_107 k56 x1 x2 x3 x4 M = (ic (inb x4 720) (ic ((M.1 191 (ix x4)) = 0) ((fX10_round_123 k56 x1 x3 x4 1 x2 M)) ((fX10_round_123 k56 x1 x3 x4 0 x2 M))) (none) : Option (Int32 × Mem)) := by
  unfold fX10_round_107 <;> rfl
theorem e_X10_round_56  (n : Nat) (x1 : Int32) (x2 : Int32) (x3 : Int32) (M : Mem) : fX10_round_56  (n + 1) x1 x2 x3 M = (ic (60 < x3) ((some ((-2), M))) (((fX10_laysStanding 172 189 M).bind fun q16 => (fX10_numberOf 189 q16).bind fun q18 => ic (x3 ≤ 0) ((fX10_round_107 (fX10_round_56 n) x1 x2 x3 q18.1 q18.2)) ((ic (q18.1 = x1) ((lt (sI q18.2 169 1 0) fun M22 => (fX10_enters x2.toInt64 M22).bind fun q24 => some (x3, q24))) ((fX10_round_107 (fX10_round_56 n) x1 x2 x3 q18.1 q18.2)))))) : Option (Int32 × Mem)) := by
  rw [fX10_round_56] <;> rfl
theorem e_X10_round_11  (n : Nat) (x1 : Int32) (M : Mem) : fX10_round_11  (n + 1) x1 M = (ic (720 ≤ x1) (((fX10_laysStanding 171 189 M).bind fun q6 => (fX10_numberOf 189 q6).bind fun q8 => fX10_round_56 FU q8.1 0 0 q8.2)) ((ic (inb x1 720) (lt (sI M 191 (ix x1) (0 &&& 1)) fun M11 => lt (x1 + 1) fun y13 => (fX10_round_11 n) y13 M11) (none))) : Option (Int32 × Mem)) := by
  rw [fX10_round_11] <;> rfl
theorem e_X10_round (M : Mem) : fX10_round M = (lt (sI M 169 0 0) fun M1 => (fX10_copies M1).bind fun q3 => fX10_round_11 FU 0 q3 : Option (Int32 × Mem)) := by
  unfold fX10_round <;> rfl
theorem e_X10_isLawful_17 (k4 : Nat → Int32 → Int32 → Mem → Option (Int32 × Mem)) (n : Nat) (a1 : Nat) (x2 : Int32) (x3 : Int32) (x4 : Int32) (M : Mem) : fX10_isLawful_17 k4 (n + 1) a1 x2 x3 x4 M = (ic (inb x3 (ln a1)) (ic ((M.1 a1 (ix x3)) ≤ x4) ((lt (x3 + 1) fun y7 => k4 a1 x2 y7 M)) ((ic (x2 = 0) ((lt (x4 + 1) fun y10 => (fX10_isLawful_17 k4 n) a1 0 x3 y10 M)) ((ic (inb x4 (ln a1)) (ic ((M.1 a1 (ix x4)) = x4) ((lt (x4 + 1) fun y14 => (fX10_isLawful_17 k4 n) a1 0 x3 y14 M)) ((ic (inb x4 (ln a1)) (ic (inb x3 (ln a1)) ((fX10_in ((M.1 a1 (ix x4)).toInt64) ((x3 + 1).toInt64) (((M.1 a1 (ix x3)) - 1).toInt64) M).bind fun q18 => ic (q18.1 = 0) ((lt (x4 + 1) fun y21 => (fX10_isLawful_17 k4 n) a1 0 x3 y21 q18.2)) ((lt (x4 + 1) fun y23 => (fX10_isLawful_17 k4 n) a1 1 x3 y23 q18.2))) (none)) (none)))) (none)))))) (none) : Option (Int32 × Mem)) := by
  rw [fX10_isLawful_17] <;> rfl
theorem e_X10_isLawful_4  (n : Nat) (a1 : Nat) (x2 : Int32) (x3 : Int32) (M : Mem) : fX10_isLawful_4  (n + 1) a1 x2 x3 M = (ic ((M.1 169 3) ≤ x3) ((ic (x2 = 0 ∨ x2 = 1) (some (x2, M)) (none))) ((lt (x3 + 1) fun y3 => fX10_isLawful_17 (fX10_isLawful_4 n) FU a1 x2 x3 y3 M)) : Option (Int32 × Mem)) := by
  rw [fX10_isLawful_4] <;> rfl
theorem e_X10_isLawful (a1 : Nat) (M : Mem) : fX10_isLawful a1 M = (fX10_isLawful_4 FU a1 1 0 M : Option (Int32 × Mem)) := by
  unfold fX10_isLawful <;> rfl
theorem e_X10_pairsFrom_85 (rc : Int32 → Mem → Option (Mem)) (n : Nat) (x1 : Int32) (x2 : Int32) (M : Mem) : fX10_pairsFrom_85 rc (n + 1) x1 x2 M = (ic ((M.1 169 3) ≤ x2) ((some M)) ((ic (inb x2 6) (ic (0 ≤ (M.1 193 (ix x2))) ((lt (x2 + 1) fun y12 => (fX10_pairsFrom_85 rc n) x1 y12 M)) ((ic (inb x1 6) (lt (sI M 193 (ix x1) x2) fun M15 => ic (inb x2 6) (lt (sI M15 193 (ix x2) x1) fun M18 => (rc (x1 + 1) M18).bind fun q20 => ic (inb x1 6) (lt (sI q20 193 (ix x1) (-1)) fun M23 => ic (inb x2 6) (lt (sI M23 193 (ix x2) (-1)) fun M26 => lt (x2 + 1) fun y28 => (fX10_pairsFrom_85 rc n) x1 y28 M26) (none)) (none)) (none)) (none)))) (none))) : Option (Mem)) := by
  rw [fX10_pairsFrom_85] <;> rfl
theorem e_X10_pairsFrom_21 (rc : Int32 → Mem → Option (Mem)) (n : Nat) (x2 : Int32) (M : Mem) : fX10_pairsFrom_21 rc (n + 1) x2 M = (ic ((M.1 169 3) ≤ x2) ((lt (sI M 169 40 ((M.1 169 40) + 1)) fun M31 => some M31)) ((ic (inb x2 6) (ic (inb ((6 * (M.1 169 40)) + x2) 120) (lt (sI M 192 (ix ((6 * (M.1 169 40)) + x2)) (M.1 193 (ix x2))) fun M35 => lt (x2 + 1) fun y37 => (fX10_pairsFrom_21 rc n) y37 M35) (none)) (none))) : Option (Mem)) := by
  rw [fX10_pairsFrom_21] <;> rfl
theorem e_X10_pairsFrom_b (rc : Int32 → Mem → Option (Mem)) (x1 : Int32) (M : Mem) : fX10_pairsFrom_b rc x1 M = (ic (x1 = (M.1 169 3)) (((fX10_isLawful 193 M).bind fun q6 => ic (q6.1 = 0) ((some q6.2)) ((fX10_pairsFrom_21 rc FU 0 q6.2)))) ((ic (inb x1 6) (ic ((M.1 193 (ix x1)) < 0) ((fX10_pairsFrom_85 rc FU x1 x1 M)) (((rc (x1 + 1) M).bind fun q4 => some q4))) (none))) : Option (Mem)) := by
  unfold fX10_pairsFrom_b <;> rfl
theorem e_X10_pairsFrom  (d : Nat) (x1 : Int32) (M : Mem) : fX10_pairsFrom  (d + 1) x1 M = (fX10_pairsFrom_b (fX10_pairsFrom d) x1 M : Option (Mem)) := by
  rw [fX10_pairsFrom] <;> rfl
theorem e_X10_laysSets_7  (n : Nat) (x1 : Int32) (M : Mem) : fX10_laysSets_7  (n + 1) x1 M = (ic ((M.1 169 3) ≤ x1) (((fX10_pairsFrom 8 0 M).bind fun q4 => some q4)) ((ic (inb x1 6) (lt (sI M 193 (ix x1) (-1)) fun M7 => lt (x1 + 1) fun y9 => (fX10_laysSets_7 n) y9 M7) (none))) : Option (Mem)) := by
  rw [fX10_laysSets_7] <;> rfl
theorem e_X10_laysSets (M : Mem) : fX10_laysSets M = (lt (sI M 169 40 0) fun M1 => fX10_laysSets_7 FU 0 M1 : Option (Mem)) := by
  unfold fX10_laysSets <;> rfl
theorem e_X10_pairsOf_33 (k4 : Int32 → Int32 → Int32 → Mem → Option (Int32 × Mem)) (x1 : Int32) (x3 : Int32) (s0 : Int32) (s1 : Int32) (M : Mem) : fX10_pairsOf_33 k4 x1 x3 s0 s1 M = ((fX10_flag s0 M).bind fun q4 => lt (s1 + q4.1) fun y6 => lt (x3 + 1) fun y8 => k4 x1 y6 y8 q4.2 : Option (Int32 × Mem)) := by
  unfold fX10_pairsOf_33 <;> rfl
theorem e_X10_pairsOf_4  (n : Nat) (x1 : Int32) (x2 : Int32) (x3 : Int32) (M : Mem) : fX10_pairsOf_4  (n + 1) x1 x2 x3 M = (ic ((M.1 169 3) ≤ x3) ((some (x2, M))) ((ic (inb ((6 * x1) + x3) 120) (ic ((M.1 192 (ix ((6 * x1) + x3))) ≤ x3) ((fX10_pairsOf_33 (fX10_pairsOf_4 n) x1 x3 0 x2 M)) ((fX10_pairsOf_33 (fX10_pairsOf_4 n) x1 x3 1 x2 M))) (none))) : Option (Int32 × Mem)) := by
  rw [fX10_pairsOf_4] <;> rfl
theorem e_X10_pairsOf (x1 : Int32) (M : Mem) : fX10_pairsOf x1 M = (fX10_pairsOf_4 FU x1 0 0 M : Option (Int32 × Mem)) := by
  unfold fX10_pairsOf <;> rfl
theorem e_X10_sets_63 (k15 : Int32 → Int32 → Int32 → Mem → Option (Int32 × Mem)) (x1 : Int32) (x3 : Int32) (s0 : Int32) (s1 : Int32) (M : Mem) : fX10_sets_63 k15 x1 x3 s0 s1 M = ((fX10_flag s0 M).bind fun q22 => lt (s1 + q22.1) fun y24 => lt (x3 + 1) fun y26 => k15 x1 y24 y26 q22.2 : Option (Int32 × Mem)) := by
  unfold fX10_sets_63 <;> rfl
theorem e_X10_sets_37 (k15 : Int32 → Int32 → Int32 → Mem → Option (Int32 × Mem)) (x1 : Int32) (x3 : Int32) (s0 : Int32) (M : Mem) : fX10_sets_37 k15 x1 x3 s0 M = ((fX10_pairsOf x3 M).bind fun q15 => lt (if x1 < q15.1 then q15.1 else x1) fun y17 => (fX10_pairsOf x3 q15.2).bind fun q19 => ic (q19.1 = y17) ((fX10_sets_63 k15 y17 x3 1 s0 q19.2)) ((fX10_sets_63 k15 y17 x3 0 s0 q19.2)) : Option (Int32 × Mem)) := by
  unfold fX10_sets_37 <;> rfl
theorem e_X10_sets_15  (n : Nat) (x1 : Int32) (x2 : Int32) (x3 : Int32) (M : Mem) : fX10_sets_15  (n + 1) x1 x2 x3 M = (ic ((M.1 169 40) ≤ x3) ((lt (sI M 169 1 0) fun M6 => (fX10_enters x1.toInt64 M6).bind fun q8 => (fX10_enters x2.toInt64 q8).bind fun q10 => some (q10.1 169 40, q10))) (((fX10_pairsOf x3 M).bind fun q12 => ic (q12.1 ≤ x1) ((fX10_sets_37 (fX10_sets_15 n) x1 x3 x2 q12.2)) ((fX10_sets_37 (fX10_sets_15 n) x1 x3 0 q12.2)))) : Option (Int32 × Mem)) := by
  rw [fX10_sets_15] <;> rfl
theorem e_X10_sets (M : Mem) : fX10_sets M = (lt (sI M 169 0 0) fun M1 => (fX10_laysSets M1).bind fun q3 => fX10_sets_15 FU 0 0 0 q3 : Option (Int32 × Mem)) := by
  unfold fX10_sets <;> rfl
theorem e_X10_laysSoon_102 (k91 : Int32 → Int32 → Int32 → Mem → Option (Mem)) (n : Nat) (x1 : Int32) (x2 : Int32) (x3 : Int32) (x4 : Int32) (M : Mem) : fX10_laysSoon_102 k91 (n + 1) x1 x2 x3 x4 M = (ic ((M.1 169 3) ≤ x4) (((fX10_numberOf 190 M).bind fun q28 => ic (inb q28.1 720) (ic ((q28.2.1 194 (ix q28.1)) = 1000000) ((ic (inb x2 720) (ic (inb (q28.2.1 195 (ix x2)) 720) (ic (inb q28.1 720) (lt (sI q28.2 194 (ix q28.1) ((q28.2.1 194 (ix (q28.2.1 195 (ix x2)))) + 1)) fun M37 => ic (inb x1 720) (lt (sI M37 195 (ix x1) q28.1) fun M40 => lt (x1 + 1) fun y42 => lt (x3 + 1) fun y44 => k91 y42 x2 y44 M40) (none)) (none)) (none)) (none))) ((lt (x3 + 1) fun y32 => k91 x1 x2 y32 q28.2))) (none))) ((ic (inb ((6 * x3) + x4) 120) (ic (inb (M.1 192 (ix ((6 * x3) + x4))) 6) (ic (inb x4 6) (lt (sI M 190 (ix x4) (M.1 189 (ix (M.1 192 (ix ((6 * x3) + x4)))))) fun M49 => lt (x4 + 1) fun y51 => (fX10_laysSoon_102 k91 n) x1 x2 x3 y51 M49) (none)) (none)) (none))) : Option (Mem)) := by
  rw [fX10_laysSoon_102] <;> rfl
theorem e_X10_laysSoon_91 (k70 : Int32 → Int32 → Mem → Option (Mem)) (n : Nat) (x1 : Int32) (x2 : Int32) (x3 : Int32) (M : Mem) : fX10_laysSoon_91 k70 (n + 1) x1 x2 x3 M = (ic ((M.1 169 40) ≤ x3) ((lt (x2 + 1) fun y25 => k70 x1 y25 M)) ((fX10_laysSoon_102 (fX10_laysSoon_91 k70 n) FU x1 x2 x3 0 M)) : Option (Mem)) := by
  rw [fX10_laysSoon_91] <;> rfl
theorem e_X10_laysSoon_70  (n : Nat) (x1 : Int32) (x2 : Int32) (M : Mem) : fX10_laysSoon_70  (n + 1) x1 x2 M = (ic (x1 ≤ x2) ((some M)) ((ic (inb x2 720) ((fX10_laysOrder 189 (M.1 195 (ix x2)) M).bind fun q22 => fX10_laysSoon_91 (fX10_laysSoon_70 n) FU x1 x2 0 q22) (none))) : Option (Mem)) := by
  rw [fX10_laysSoon_70] <;> rfl
theorem e_X10_laysSoon_6  (n : Nat) (x1 : Int32) (M : Mem) : fX10_laysSoon_6  (n + 1) x1 M = (ic (720 ≤ x1) (((fX10_laysStanding 171 189 M).bind fun q4 => (fX10_numberOf 189 q4).bind fun q6 => ic (inb 0 720) (lt (sI q6.2 195 (ix 0) q6.1) fun M9 => ic (inb 0 720) (ic (inb (M9.1 195 (ix 0)) 720) (lt (sI M9 194 (ix (M9.1 195 (ix 0))) 0) fun M13 => fX10_laysSoon_70 FU 1 0 M13) (none)) (none)) (none))) ((ic (inb x1 720) (lt (sI M 194 (ix x1) 1000000) fun M16 => lt (x1 + 1) fun y18 => (fX10_laysSoon_6 n) y18 M16) (none))) : Option (Mem)) := by
  rw [fX10_laysSoon_6] <;> rfl
theorem e_X10_laysSoon (M : Mem) : fX10_laysSoon M = ((fX10_laysSets M).bind fun q1 => fX10_laysSoon_6 FU 0 q1 : Option (Mem)) := by
  unfold fX10_laysSoon <;> rfl
theorem e_X10_orders_81 (k30 : Int32 → Int32 → Int32 → Int32 → Mem → Option (Int32 × Mem)) (x1 : Int32) (x2 : Int32) (x4 : Int32) (s0 : Int32) (s1 : Int32) (M : Mem) : fX10_orders_81 k30 x1 x2 x4 s0 s1 M = ((fX10_flag s0 M).bind fun q23 => lt (s1 + q23.1) fun y25 => lt (x4 + 1) fun y27 => k30 x1 x2 y25 y27 q23.2 : Option (Int32 × Mem)) := by
  unfold fX10_orders_81 <;> rfl
theorem e_X10_orders_59 (k30 : Int32 → Int32 → Int32 → Int32 → Mem → Option (Int32 × Mem)) (x1 : Int32) (x3 : Int32) (x4 : Int32) (s0 : Int32) (s1 : Int32) (M : Mem) : fX10_orders_59 k30 x1 x3 x4 s0 s1 M = ((fX10_flag s0 M).bind fun q17 => lt (s1 + q17.1) fun y19 => ic (inb x4 720) (ic ((q17.2.1 194 (ix x4)) = x1) ((fX10_orders_81 k30 x1 y19 x4 1 x3 q17.2)) ((fX10_orders_81 k30 x1 y19 x4 0 x3 q17.2))) (none) : Option (Int32 × Mem)) := by
  unfold fX10_orders_59 <;> rfl
theorem e_X10_orders_30  (n : Nat) (x1 : Int32) (x2 : Int32) (x3 : Int32) (x4 : Int32) (M : Mem) : fX10_orders_30  (n + 1) x1 x2 x3 x4 M = ((fX10_many 12 (M.1 169 3) M).bind fun q8 => ic (q8.1 ≤ x4) ((lt (sI q8.2 169 1 0) fun M11 => (fX10_enters x3.toInt64 M11).bind fun q13 => some (x2, q13))) ((ic (inb x4 720) (ic (x1 < (q8.2.1 194 (ix x4))) ((fX10_orders_59 (fX10_orders_30 n) x1 x3 x4 0 x2 q8.2)) ((fX10_orders_59 (fX10_orders_30 n) x1 x3 x4 1 x2 q8.2))) (none))) : Option (Int32 × Mem)) := by
  rw [fX10_orders_30] <;> rfl
theorem e_X10_orders (x1 : Int32) (M : Mem) : fX10_orders x1 M = (lt (sI M 169 0 0) fun M1 => (fX10_in x1.toInt64 0 6 M1).bind fun q3 => ic (q3.1 = 0) ((some ((-1), q3.2))) (((fX10_laysSoon q3.2).bind fun q6 => fX10_orders_30 FU x1 0 0 0 q6)) : Option (Int32 × Mem)) := by
  unfold fX10_orders <;> rfl
theorem e_X10_best_178 (k68 : Int32 → Int32 → Int32 → Int32 → Int32 → Int32 → Int32 → Mem → Option (Int32 × Mem)) (x1 : Int32) (x2 : Int32) (x3 : Int32) (x4 : Int32) (x6 : Int32) (x7 : Int32) (s0 : Int32) (s1 : Int32) (M : Mem) : fX10_best_178 k68 x1 x2 x3 x4 x6 x7 s0 s1 M = ((fX10_flag s0 M).bind fun q35 => lt (s1 + q35.1) fun y37 => lt (x7 + 1) fun y39 => k68 x1 x2 x3 x4 y37 x6 y39 q35.2 : Option (Int32 × Mem)) := by
  unfold fX10_best_178 <;> rfl
theorem e_X10_best_177 (k68 : Int32 → Int32 → Int32 → Int32 → Int32 → Int32 → Int32 → Mem → Option (Int32 × Mem)) (x1 : Int32) (x2 : Int32) (x3 : Int32) (x4 : Int32) (x6 : Int32) (x7 : Int32) (s0 : Int32) (M : Mem) : fX10_best_177 k68 x1 x2 x3 x4 x6 x7 s0 M = (fX10_best_178 k68 x1 x2 x3 x4 x6 x7 0 s0 M : Option (Int32 × Mem)) := by
  unfold fX10_best_177 <;> rfl
theorem e_X10_best_158 (k68 : Int32 → Int32 → Int32 → Int32 → Int32 → Int32 → Int32 → Mem → Option (Int32 × Mem)) (x1 : Int32) (x2 : Int32) (x3 : Int32) (x5 : Int32) (x6 : Int32) (x7 : Int32) (x8 : Int32) (s0 : Int32) (M : Mem) : fX10_best_158 k68 x1 x2 x3 x5 x6 x7 x8 s0 M = (ic (x8 = 0) ((fX10_best_177 k68 x1 x2 x3 s0 x6 x7 x5 M)) ((ic (x7 = x3) ((fX10_best_178 k68 x1 x2 x3 s0 x6 x7 1 x5 M)) ((fX10_best_177 k68 x1 x2 x3 s0 x6 x7 x5 M)))) : Option (Int32 × Mem)) := by
  unfold fX10_best_158 <;> rfl
theorem e_X10_best_140 (k68 : Int32 → Int32 → Int32 → Int32 → Int32 → Int32 → Int32 → Mem → Option (Int32 × Mem)) (x1 : Int32) (x2 : Int32) (x4 : Int32) (x5 : Int32) (x6 : Int32) (x7 : Int32) (x8 : Int32) (s0 : Int32) (M : Mem) : fX10_best_140 k68 x1 x2 x4 x5 x6 x7 x8 s0 M = (ic (x8 = 0) ((fX10_best_158 k68 x1 x2 s0 x5 x6 x7 x8 x4 M)) ((fX10_best_158 k68 x1 x2 s0 x5 x6 x7 x8 (if x4 < x7 then x7 else x4) M)) : Option (Int32 × Mem)) := by
  unfold fX10_best_140 <;> rfl
theorem e_X10_best_123 (k68 : Int32 → Int32 → Int32 → Int32 → Int32 → Int32 → Int32 → Mem → Option (Int32 × Mem)) (x1 : Int32) (x2 : Int32) (x3 : Int32) (x4 : Int32) (x6 : Int32) (x7 : Int32) (x8 : Int32) (s0 : Int32) (M : Mem) : fX10_best_123 k68 x1 x2 x3 x4 x6 x7 x8 s0 M = (ic (x8 = 0) ((fX10_best_140 k68 x1 x2 x4 s0 x6 x7 x8 x3 M)) ((fX10_best_140 k68 x1 x2 x4 s0 x6 x7 x8 (if x7 < x3 then x7 else x3) M)) : Option (Int32 × Mem)) := by
  unfold fX10_best_123 <;> rfl
theorem e_X10_best_121 (k68 : Int32 → Int32 → Int32 → Int32 → Int32 → Int32 → Int32 → Mem → Option (Int32 × Mem)) (x1 : Int32) (x2 : Int32) (x3 : Int32) (x4 : Int32) (x5 : Int32) (x6 : Int32) (x7 : Int32) (x8 : Int32) (M : Mem) : fX10_best_121 k68 x1 x2 x3 x4 x5 x6 x7 x8 M = (fX10_best_123 k68 x1 x2 x3 x4 x6 x7 x8 x5 M : Option (Int32 × Mem)) := by
  unfold fX10_best_121 <;> rfl
theorem e_X10_best_104 (k68 : Int32 → Int32 → Int32 → Int32 → Int32 → Int32 → Int32 → Mem → Option (Int32 × Mem)) (x1 : Int32) (x2 : Int32) (x3 : Int32) (x4 : Int32) (x5 : Int32) (x6 : Int32) (x7 : Int32) (s0 : Int32) (M : Mem) : fX10_best_104 k68 x1 x2 x3 x4 x5 x6 x7 s0 M = (ic (s0 = 0) ((fX10_best_121 k68 x1 x2 x3 x4 x5 x6 x7 s0 M)) ((ic (x3 ≤ x7) ((fX10_best_121 k68 x1 x2 x3 x4 x5 x6 x7 s0 M)) ((fX10_best_123 k68 x1 x2 x3 x4 x6 x7 s0 0 M)))) : Option (Int32 × Mem)) := by
  unfold fX10_best_104 <;> rfl
theorem e_X10_best_103 (k68 : Int32 → Int32 → Int32 → Int32 → Int32 → Int32 → Int32 → Mem → Option (Int32 × Mem)) (x1 : Int32) (x2 : Int32) (x3 : Int32) (x4 : Int32) (x5 : Int32) (x6 : Int32) (x7 : Int32) (M : Mem) : fX10_best_103 k68 x1 x2 x3 x4 x5 x6 x7 M = (fX10_best_104 k68 x1 x2 x3 x4 x5 x6 x7 0 M : Option (Int32 × Mem)) := by
  unfold fX10_best_103 <;> rfl
theorem e_X10_best_68 (k43 : Int32 → Int32 → Int32 → Int32 → Int32 → Int32 → Mem → Option (Int32 × Mem)) (n : Nat) (x1 : Int32) (x2 : Int32) (x3 : Int32) (x4 : Int32) (x5 : Int32) (x6 : Int32) (x7 : Int32) (M : Mem) : fX10_best_68 k43 (n + 1) x1 x2 x3 x4 x5 x6 x7 M = (ic ((M.1 169 3) ≤ x7) ((lt (x6 + 1) fun y23 => k43 x1 x2 x3 x4 x5 y23 M)) ((ic (inb x7 6) (ic ((M.1 189 (ix x7)) = x1) ((ic (inb x6 720) (ic (x2 < (M.1 194 (ix x6))) ((fX10_best_103 (fX10_best_68 k43 n) x1 x2 x3 x4 x5 x6 x7 M)) ((fX10_best_104 (fX10_best_68 k43 n) x1 x2 x3 x4 x5 x6 x7 1 M))) (none))) ((fX10_best_103 (fX10_best_68 k43 n) x1 x2 x3 x4 x5 x6 x7 M))) (none))) : Option (Int32 × Mem)) := by
  rw [fX10_best_68] <;> rfl
theorem e_X10_best_43  (n : Nat) (x1 : Int32) (x2 : Int32) (x3 : Int32) (x4 : Int32) (x5 : Int32) (x6 : Int32) (M : Mem) : fX10_best_43  (n + 1) x1 x2 x3 x4 x5 x6 M = ((fX10_many 12 (M.1 169 3) M).bind fun q11 => ic (q11.1 ≤ x6) ((lt (sI q11.2 169 1 0) fun M14 => (fX10_enters x4.toInt64 M14).bind fun q16 => (fX10_enters x5.toInt64 q16).bind fun q18 => some (x3, q18))) (((fX10_laysOrder 189 x6 q11.2).bind fun q20 => fX10_best_68 (fX10_best_43 n) FU x1 x2 x3 x4 x5 x6 0 q20)) : Option (Int32 × Mem)) := by
  rw [fX10_best_43] <;> rfl
theorem e_X10_best (x1 : Int32) (x2 : Int32) (M : Mem) : fX10_best x1 x2 M = (lt (sI M 169 0 0) fun M1 => (fX10_isBoat x1 M1).bind fun q3 => ic (q3.1 = 0) ((some ((-1), q3.2))) (((fX10_in x2.toInt64 0 6 q3.2).bind fun q6 => ic (q6.1 = 0) ((some ((-1), q6.2))) (((fX10_laysSoon q6.2).bind fun q9 => fX10_best_43 FU x1 x2 6 (-1) 0 0 q9)))) : Option (Int32 × Mem)) := by
  unfold fX10_best <;> rfl
theorem e_X10_readsOrder_4  (n : Nat) (a1 : Nat) (x2 : Int32) (x3 : Int32) (M : Mem) : fX10_readsOrder_4  (n + 1) a1 x2 x3 M = (ic ((M.1 169 3) ≤ x3) ((some (1, M))) (((fX10_digitIn 0 ((M.1 169 3) - 1) M).bind fun q2 => ic (0 ≤ q2.1) (((fX10_has x2 q2.1 q2.2).bind fun q5 => ic (q5.1 = 0) ((lt (x2 ||| (1 <<< (q2.1 &&& 31))) fun y8 => ic (inb x3 (ln a1)) (lt (sI q5.2 a1 (ix x3) q2.1) fun M11 => lt (x3 + 1) fun y13 => (fX10_readsOrder_4 n) a1 y8 y13 M11) (none))) ((lt (sI q5.2 169 9 ((q5.2.1 169 9) - 1)) fun M15 => some (0, M15))))) ((some (0, q2.2))))) : Option (Int32 × Mem)) := by
  rw [fX10_readsOrder_4] <;> rfl
theorem e_X10_readsOrder (a1 : Nat) (M : Mem) : fX10_readsOrder a1 M = (fX10_readsOrder_4 FU a1 0 0 M : Option (Int32 × Mem)) := by
  unfold fX10_readsOrder <;> rfl
theorem e_X10_soonest (M : Mem) : fX10_soonest M = (lt (sI M 169 0 0) fun M1 => (fX10_begins 80 M1).bind fun q3 => (fX10_readsOrder 190 q3.2).bind fun q5 => ic (q5.1 = 0) ((some ((-1) - (q5.2.1 169 9), q5.2))) ((ic ((q5.2.1 169 10) ≤ (q5.2.1 169 9)) (((fX10_numberOf 190 q5.2).bind fun q9 => (fX10_laysSoon q9.2).bind fun q11 => ic (inb q9.1 720) (some (q11.1 194 (ix q9.1), q11)) (none))) ((some ((-1) - (q5.2.1 169 9), q5.2))))) : Option (Int32 × Mem)) := by
  unfold fX10_soonest <;> rfl
theorem e_X10_placeIn_2  (n : Nat) (a0 : Nat) (x1 : Int32) (x2 : Int32) (M : Mem) : fX10_placeIn_2  (n + 1) a0 x1 x2 M = (ic (inb x2 (ln a0)) (ic ((M.1 a0 (ix x2)) = x1) ((some (x2, M))) ((lt (x2 + 1) fun y3 => (fX10_placeIn_2 n) a0 x1 y3 M))) (none) : Option (Int32 × Mem)) := by
  rw [fX10_placeIn_2] <;> rfl
theorem e_X10_placeIn (a0 : Nat) (x1 : Int32) (M : Mem) : fX10_placeIn a0 x1 M = (fX10_placeIn_2 FU a0 x1 0 M : Option (Int32 × Mem)) := by
  unfold fX10_placeIn <;> rfl
theorem e_X10_crossed_177 (k107 : Int32 → Int32 → Int32 → Int32 → Int32 → Mem → Option (Int32 × Mem)) (x2 : Int32) (x3 : Int32) (x4 : Int32) (x6 : Int32) (s0 : Int32) (s1 : Int32) (M : Mem) : fX10_crossed_177 k107 x2 x3 x4 x6 s0 s1 M = ((fX10_flag s0 M).bind fun q36 => lt (s1 + q36.1) fun y38 => lt (x6 + 1) fun y40 => k107 y38 x2 x3 x4 y40 q36.2 : Option (Int32 × Mem)) := by
  unfold fX10_crossed_177 <;> rfl
theorem e_X10_crossed_169 (k107 : Int32 → Int32 → Int32 → Int32 → Int32 → Mem → Option (Int32 × Mem)) (x2 : Int32) (x3 : Int32) (x4 : Int32) (x6 : Int32) (s0 : Int32) (s1 : Int32) (s2 : Int32) (M : Mem) : fX10_crossed_169 k107 x2 x3 x4 x6 s0 s1 s2 M = (ic (s1 = s0) ((fX10_crossed_177 k107 x2 x3 x4 x6 0 s2 M)) ((fX10_crossed_177 k107 x2 x3 x4 x6 1 s2 M)) : Option (Int32 × Mem)) := by
  unfold fX10_crossed_169 <;> rfl
theorem e_X10_crossed_143 (k107 : Int32 → Int32 → Int32 → Int32 → Int32 → Mem → Option (Int32 × Mem)) (x2 : Int32) (x3 : Int32) (x4 : Int32) (x6 : Int32) (s0 : Int32) (s1 : Int32) (M : Mem) : fX10_crossed_143 k107 x2 x3 x4 x6 s0 s1 M = ((fX10_placeIn 190 x4 M).bind fun q30 => (fX10_placeIn 190 x6 q30.2).bind fun q32 => ic (q32.1 ≤ q30.1) ((fX10_crossed_169 k107 x2 x3 x4 x6 0 s0 s1 q32.2)) ((fX10_crossed_169 k107 x2 x3 x4 x6 1 s0 s1 q32.2)) : Option (Int32 × Mem)) := by
  unfold fX10_crossed_143 <;> rfl
theorem e_X10_crossed_107 (k50 : Int32 → Int32 → Int32 → Int32 → Mem → Option (Int32 × Mem)) (n : Nat) (x1 : Int32) (x2 : Int32) (x3 : Int32) (x4 : Int32) (x6 : Int32) (M : Mem) : fX10_crossed_107 k50 (n + 1) x1 x2 x3 x4 x6 M = (ic (x4 ≤ x6) ((lt (x4 + 1) fun y25 => k50 x1 x2 x3 y25 M)) ((ic (inb (12 + x4) 22) (ic (inb (12 + x6) 22) (ic ((M.1 171 (ix (12 + x6))) ≤ (M.1 171 (ix (12 + x4)))) ((fX10_crossed_143 (fX10_crossed_107 k50 n) x2 x3 x4 x6 0 x1 M)) ((fX10_crossed_143 (fX10_crossed_107 k50 n) x2 x3 x4 x6 1 x1 M))) (none)) (none))) : Option (Int32 × Mem)) := by
  rw [fX10_crossed_107] <;> rfl
theorem e_X10_crossed_96 (k50 : Int32 → Int32 → Int32 → Int32 → Mem → Option (Int32 × Mem)) (x1 : Int32) (x3 : Int32) (x4 : Int32) (x5 : Int32) (s0 : Int32) (M : Mem) : fX10_crossed_96 k50 x1 x3 x4 x5 s0 M = (lt (if x3 < x5 then x5 else x3) fun y22 => fX10_crossed_107 k50 FU x1 s0 y22 x4 0 M : Option (Int32 × Mem)) := by
  unfold fX10_crossed_96 <;> rfl
theorem e_X10_crossed_50  (n : Nat) (x1 : Int32) (x2 : Int32) (x3 : Int32) (x4 : Int32) (M : Mem) : fX10_crossed_50  (n + 1) x1 x2 x3 x4 M = (ic ((M.1 169 3) ≤ x4) ((lt (sI M 169 1 0) fun M10 => (fX10_enters x2.toInt64 M10).bind fun q12 => (fX10_enters x3.toInt64 q12).bind fun q14 => some (x1, q14))) (((fX10_placeIn 190 x4 M).bind fun q16 => ic (inb (12 + x4) 22) (lt (if 0 ≤ (q16.1 - (q16.2.1 171 (ix (12 + x4)))) then (q16.1 - (q16.2.1 171 (ix (12 + x4)))) else 0 - (q16.1 - (q16.2.1 171 (ix (12 + x4))))) fun y19 => ic (y19 ≤ x3) ((fX10_crossed_96 (fX10_crossed_50 n) x1 x3 x4 y19 x2 q16.2)) ((fX10_crossed_96 (fX10_crossed_50 n) x1 x3 x4 y19 x4 q16.2))) (none))) : Option (Int32 × Mem)) := by
  rw [fX10_crossed_50] <;> rfl
theorem e_X10_crossed (M : Mem) : fX10_crossed M = (lt (sI M 169 0 0) fun M1 => (fX10_begins 80 M1).bind fun q3 => (fX10_readsOrder 190 q3.2).bind fun q5 => ic (q5.1 = 0) ((some ((-1) - (q5.2.1 169 9), q5.2))) ((ic ((q5.2.1 169 10) ≤ (q5.2.1 169 9)) ((fX10_crossed_50 FU 0 0 0 0 q5.2)) ((some ((-1) - (q5.2.1 169 9), q5.2))))) : Option (Int32 × Mem)) := by
  unfold fX10_crossed <;> rfl
theorem e_X10_changesTo_50 (k8 : Nat → Nat → Int32 → Int32 → Int32 → Mem → Option (Int32 × Mem)) (a1 : Nat) (a2 : Nat) (x4 : Int32) (x5 : Int32) (s0 : Int32) (s1 : Int32) (M : Mem) : fX10_changesTo_50 k8 a1 a2 x4 x5 s0 s1 M = ((fX10_flag s0 M).bind fun q25 => lt (s1 + q25.1) fun y27 => lt (x5 + 1) fun y29 => k8 a1 a2 y27 x4 y29 q25.2 : Option (Int32 × Mem)) := by
  unfold fX10_changesTo_50 <;> rfl
theorem e_X10_changesTo_64  (n : Nat) (x3 : Int32) (x4 : Int32) (x5 : Int32) (M : Mem) : fX10_changesTo_64  (n + 1) x3 x4 x5 M = (ic ((M.1 169 3) ≤ x5) ((ic (x4 = 0) ((some ((-1), M))) (((fX10_isLawful 193 M).bind fun q12 => ic (q12.1 = 0) ((some ((-1), q12.2))) ((some (x3 / 2, q12.2))))))) ((ic (x4 = 0) ((lt (x5 + 1) fun y16 => (fX10_changesTo_64 n) x3 0 y16 M)) ((ic (inb x5 6) (ic (inb (M.1 193 (ix x5)) 6) (ic ((M.1 193 (ix (M.1 193 (ix x5)))) = x5) ((lt (x5 + 1) fun y23 => (fX10_changesTo_64 n) x3 1 y23 M)) ((lt (x5 + 1) fun y21 => (fX10_changesTo_64 n) x3 0 y21 M))) (none)) (none))))) : Option (Int32 × Mem)) := by
  rw [fX10_changesTo_64] <;> rfl
theorem e_X10_changesTo_8  (n : Nat) (a1 : Nat) (a2 : Nat) (x3 : Int32) (x4 : Int32) (x5 : Int32) (M : Mem) : fX10_changesTo_8  (n + 1) a1 a2 x3 x4 x5 M = (ic ((M.1 169 3) ≤ x5) ((fX10_changesTo_64 FU x3 x4 0 M)) ((ic (inb x5 (ln a1)) ((fX10_placeIn a2 (M.1 a1 (ix x5)) M).bind fun q3 => ic (inb x5 6) (lt (sI q3.2 193 (ix x5) q3.1) fun M6 => ic (inb x5 6) (ic ((M6.1 193 (ix x5)) = x5) ((fX10_changesTo_50 (fX10_changesTo_8 n) a1 a2 x4 x5 0 x3 M6)) ((fX10_changesTo_50 (fX10_changesTo_8 n) a1 a2 x4 x5 1 x3 M6))) (none)) (none)) (none))) : Option (Int32 × Mem)) := by
  rw [fX10_changesTo_8] <;> rfl
theorem e_X10_changesTo (a1 : Nat) (a2 : Nat) (M : Mem) : fX10_changesTo a1 a2 M = (fX10_changesTo_8 FU a1 a2 0 1 0 M : Option (Int32 × Mem)) := by
  unfold fX10_changesTo <;> rfl
theorem e_X10_chart_40 (k16 : Int32 → Int32 → Mem → Option (Int32 × Mem)) (n : Nat) (x1 : Int32) (x3 : Int32) (M : Mem) : fX10_chart_40 k16 (n + 1) x1 x3 M = (ic ((M.1 169 3) ≤ x3) ((lt (x1 + 1) fun y15 => (fX10_takes 59 M).bind fun q17 => k16 y15 q17.1 q17.2)) ((ic (inb x3 6) (ic (inb ((6 * x1) + x3) 480) (lt (sI M 196 (ix ((6 * x1) + x3)) (M.1 190 (ix x3))) fun M21 => lt (x3 + 1) fun y23 => (fX10_chart_40 k16 n) x1 y23 M21) (none)) (none))) : Option (Int32 × Mem)) := by
  rw [fX10_chart_40] <;> rfl
theorem e_X10_chart_216 (k122 : Int32 → Int32 → Int32 → Int32 → Mem → Option (Int32 × Mem)) (n : Nat) (x1 : Int32) (x3 : Int32) (x4 : Int32) (x5 : Int32) (x6 : Int32) (M : Mem) : fX10_chart_216 k122 (n + 1) x1 x3 x4 x5 x6 M = (ic ((M.1 169 3) ≤ x6) ((k122 x1 x3 x4 x5 M)) ((ic (inb x6 6) (ic (inb x6 6) (lt (sI M 189 (ix x6) (M.1 190 (ix x6))) fun M52 => lt (x6 + 1) fun y54 => (fX10_chart_216 k122 n) x1 x3 x4 x5 y54 M52) (none)) (none))) : Option (Int32 × Mem)) := by
  rw [fX10_chart_216] <;> rfl
theorem e_X10_chart_208 (k122 : Int32 → Int32 → Int32 → Int32 → Mem → Option (Int32 × Mem)) (x1 : Int32) (x4 : Int32) (x5 : Int32) (s0 : Int32) (s1 : Int32) (M : Mem) : fX10_chart_208 k122 x1 x4 x5 s0 s1 M = ((fX10_flag s0 M).bind fun q45 => lt (s1 + q45.1) fun y47 => fX10_chart_216 k122 FU x1 y47 x4 x5 0 q45.2 : Option (Int32 × Mem)) := by
  unfold fX10_chart_208 <;> rfl
theorem e_X10_chart_195 (k122 : Int32 → Int32 → Int32 → Int32 → Mem → Option (Int32 × Mem)) (x1 : Int32) (x3 : Int32) (x5 : Int32) (s0 : Int32) (M : Mem) : fX10_chart_195 k122 x1 x3 x5 s0 M = (ic (x5 < 0) ((fX10_chart_208 k122 x1 s0 x5 0 x3 M)) ((fX10_chart_208 k122 x1 s0 x5 1 x3 M)) : Option (Int32 × Mem)) := by
  unfold fX10_chart_195 <;> rfl
theorem e_X10_chart_135 (k122 : Int32 → Int32 → Int32 → Int32 → Mem → Option (Int32 × Mem)) (n : Nat) (x1 : Int32) (x3 : Int32) (x4 : Int32) (x6 : Int32) (M : Mem) : fX10_chart_135 k122 (n + 1) x1 x3 x4 x6 M = (ic ((M.1 169 3) ≤ x6) (((fX10_changesTo 189 190 M).bind fun q29 => ic (0 ≤ q29.1) ((fX10_chart_195 k122 x1 x3 q29.1 q29.1 q29.2)) ((fX10_chart_195 k122 x1 x3 q29.1 x4 q29.2)))) ((ic (inb ((6 * x3) + x6) 480) (ic (inb x6 6) (lt (sI M 190 (ix x6) (M.1 196 (ix ((6 * x3) + x6)))) fun M34 => lt (x6 + 1) fun y36 => (fX10_chart_135 k122 n) x1 x3 x4 y36 M34) (none)) (none))) : Option (Int32 × Mem)) := by
  rw [fX10_chart_135] <;> rfl
theorem e_X10_chart_264 (x3 : Int32) (x4 : Int32) (s0 : Int32) (M : Mem) : fX10_chart_264 x3 x4 s0 M = ((fX10_flag s0 M).bind fun q38 => (fX10_enters q38.1.toInt64 q38.2).bind fun q40 => (fX10_enters x4.toInt64 q40).bind fun q42 => some (x3, q42) : Option (Int32 × Mem)) := by
  unfold fX10_chart_264 <;> rfl
theorem e_X10_chart_248 (x1 : Int32) (x3 : Int32) (x4 : Int32) (M : Mem) : fX10_chart_248 x1 x3 x4 M = (lt (sI M 169 1 0) fun M25 => ic (x3 = x1) ((fX10_chart_264 x3 x4 1 M25)) ((fX10_chart_264 x3 x4 0 M25)) : Option (Int32 × Mem)) := by
  unfold fX10_chart_248 <;> rfl
theorem e_X10_chart_122  (n : Nat) (x1 : Int32) (x3 : Int32) (x4 : Int32) (x5 : Int32) (M : Mem) : fX10_chart_122  (n + 1) x1 x3 x4 x5 M = (ic (x1 ≤ x3) ((fX10_chart_248 x1 x3 x4 M)) ((ic (x5 < 0) ((fX10_chart_248 x1 x3 x4 M)) ((fX10_chart_135 (fX10_chart_122 n) FU x1 x3 x4 0 M)))) : Option (Int32 × Mem)) := by
  rw [fX10_chart_122] <;> rfl
theorem e_X10_chart_16  (n : Nat) (x1 : Int32) (x2 : Int32) (M : Mem) : fX10_chart_16  (n + 1) x1 x2 M = (ic (x2 = 0) ((ic ((M.1 169 10) ≤ (M.1 169 9)) (((fX10_laysStanding 171 189 M).bind fun q7 => fX10_chart_122 FU x1 0 0 0 q7)) ((some ((-1) - (M.1 169 9), M))))) (((fX10_readsOrder 190 M).bind fun q9 => ic (q9.1 = 0) ((some ((-1) - (q9.2.1 169 9), q9.2))) ((fX10_chart_40 (fX10_chart_16 n) FU x1 0 q9.2)))) : Option (Int32 × Mem)) := by
  rw [fX10_chart_16] <;> rfl
theorem e_X10_chart (M : Mem) : fX10_chart M = (lt (sI M 169 0 0) fun M1 => (fX10_begins 80 M1).bind fun q3 => fX10_chart_16 FU 0 1 q3.2 : Option (Int32 × Mem)) := by
  unfold fX10_chart <;> rfl
theorem e_X10_spurs_21  (n : Nat) (x1 : Int32) (x2 : Int32) (M : Mem) : fX10_spurs_21  (n + 1) x1 x2 M = (ic (9 < x2) ((some ((-2), M))) ((ic (inb x1 22) (lt (sI M 172 (ix x1) x2) fun M10 => ic (inb 19 22) ((fX10_races 172 (M10.1 172 (ix 19)) M10).bind fun q13 => (fX10_touchOf x1 q13).bind fun q15 => ic (q15.1 < 0) ((lt (x2 + 1) fun y18 => (fX10_spurs_21 n) x1 y18 q15.2)) ((lt (sI q15.2 169 1 0) fun M20 => ic (inb q15.1 6) ((fX10_enters ((M20.1 184 (ix q15.1)).toInt64) M20).bind fun q23 => ic (inb q15.1 6) ((fX10_enters ((q23.1 182 (ix q15.1)).toInt64) q23).bind fun q26 => some (x2, q26)) (none)) (none)))) (none)) (none))) : Option (Int32 × Mem)) := by
  rw [fX10_spurs_21] <;> rfl
theorem e_X10_spurs (x1 : Int32) (M : Mem) : fX10_spurs x1 M = (lt (sI M 169 0 0) fun M1 => (fX10_isBoat x1 M1).bind fun q3 => ic (q3.1 = 0) ((some ((-1), q3.2))) (((fX10_copies q3.2).bind fun q6 => fX10_spurs_21 FU x1 1 q6)) : Option (Int32 × Mem)) := by
  unfold fX10_spurs <;> rfl
theorem e_X10_calm_70 (k17 : Int32 → Int32 → Int32 → Mem → Option (Int32 × Mem)) (x1 : Int32) (x3 : Int32) (s0 : Int32) (s1 : Int32) (M : Mem) : fX10_calm_70 k17 x1 x3 s0 s1 M = ((fX10_flag s0 M).bind fun q19 => lt (s1 + q19.1) fun y21 => lt (x3 + (-1)) fun y23 => k17 x1 y21 y23 q19.2 : Option (Int32 × Mem)) := by
  unfold fX10_calm_70 <;> rfl
theorem e_X10_calm_56 (k17 : Int32 → Int32 → Int32 → Mem → Option (Int32 × Mem)) (x2 : Int32) (x3 : Int32) (s0 : Int32) (M : Mem) : fX10_calm_56 k17 x2 x3 s0 M = (ic ((M.1 169 27) = 0) ((fX10_calm_70 k17 s0 x3 1 x2 M)) ((fX10_calm_70 k17 s0 x3 0 x2 M)) : Option (Int32 × Mem)) := by
  unfold fX10_calm_56 <;> rfl
theorem e_X10_calm_17  (n : Nat) (x1 : Int32) (x2 : Int32) (x3 : Int32) (M : Mem) : fX10_calm_17  (n + 1) x1 x2 x3 M = (ic (x3 ≤ 0) ((ic (x2 ≤ 0) ((some (x1, M))) ((lt (sI M 169 1 0) fun M7 => (fX10_enters x2.toInt64 M7).bind fun q9 => some (x1, q9))))) ((ic (inb 18 22) (lt (sI M 172 (ix 18) x3) fun M12 => ic (inb 19 22) ((fX10_races 172 (M12.1 172 (ix 19)) M12).bind fun q15 => ic ((q15.1 169 27) = 0) ((fX10_calm_56 (fX10_calm_17 n) x2 x3 x3 q15)) ((fX10_calm_56 (fX10_calm_17 n) x2 x3 x1 q15))) (none)) (none))) : Option (Int32 × Mem)) := by
  rw [fX10_calm_17] <;> rfl
theorem e_X10_calm (M : Mem) : fX10_calm M = (lt (sI M 169 0 0) fun M1 => (fX10_copies M1).bind fun q3 => fX10_calm_17 FU (-2) 0 30 q3 : Option (Int32 × Mem)) := by
  unfold fX10_calm <;> rfl
theorem e_X10_differ_104 (k79 : Int32 → Mem → Option (Int32 × Mem)) (n : Nat) (x3 : Int32) (x4 : Int32) (M : Mem) : fX10_differ_104 k79 (n + 1) x3 x4 M = (ic ((M.1 169 3) ≤ x4) ((lt (x3 + 1) fun y30 => k79 y30 M)) (((fX10_boatOn 172 x4 M).bind fun q32 => (fX10_boatOn 197 x4 q32.2).bind fun q34 => ic (q32.1 = q34.1) ((lt (x4 + 1) fun y37 => (fX10_differ_104 k79 n) x3 y37 q34.2)) ((lt (sI q34.2 169 1 0) fun M39 => (fX10_enters x4.toInt64 M39).bind fun q41 => (fX10_boatOn 172 x4 q41).bind fun q43 => (fX10_enters q43.1.toInt64 q43.2).bind fun q45 => (fX10_boatOn 197 x4 q45).bind fun q47 => (fX10_enters q47.1.toInt64 q47.2).bind fun q49 => some (x3, q49))))) : Option (Int32 × Mem)) := by
  rw [fX10_differ_104] <;> rfl
theorem e_X10_differ_79  (n : Nat) (x3 : Int32) (M : Mem) : fX10_differ_79  (n + 1) x3 M = (ic (60 < x3) ((some ((-2), M))) (((fX10_dayGoes 172 M).bind fun q25 => (fX10_dayGoes 197 q25).bind fun q27 => fX10_differ_104 (fX10_differ_79 n) FU x3 0 q27)) : Option (Int32 × Mem)) := by
  rw [fX10_differ_79] <;> rfl
theorem e_X10_differ_37  (n : Nat) (x1 : Int32) (x2 : Int32) (x3 : Int32) (M : Mem) : fX10_differ_37  (n + 1) x1 x2 x3 M = (ic (22 ≤ x3) ((ic (inb 18 22) (lt (sI M 172 (ix 18) x1) fun M13 => ic (inb 18 22) (lt (sI M13 197 (ix 18) x2) fun M16 => fX10_differ_79 FU 1 M16) (none)) (none))) ((ic (inb x3 22) (ic (inb x3 22) (lt (sI M 197 (ix x3) (M.1 171 (ix x3))) fun M20 => lt (x3 + 1) fun y22 => (fX10_differ_37 n) x1 x2 y22 M20) (none)) (none))) : Option (Int32 × Mem)) := by
  rw [fX10_differ_37] <;> rfl
theorem e_X10_differ (x1 : Int32) (x2 : Int32) (M : Mem) : fX10_differ x1 x2 M = (lt (sI M 169 0 0) fun M1 => (fX10_in x1.toInt64 1 30 M1).bind fun q3 => ic (q3.1 = 0) ((some ((-1), q3.2))) (((fX10_in x2.toInt64 1 30 q3.2).bind fun q6 => ic (q6.1 = 0) ((some ((-1), q6.2))) (((fX10_copies q6.2).bind fun q9 => fX10_differ_37 FU x1 x2 0 q9)))) : Option (Int32 × Mem)) := by
  unfold fX10_differ <;> rfl
theorem e_X10_placeWith_18 (x2 : Int32) (x3 : Int32) (M : Mem) : fX10_placeWith_18 x2 x3 M = ((fX10_goesOn 172 x3 M).bind fun q7 => ic (inb (12 + x2) 22) (some (q7.1 172 (ix (12 + x2)), q7)) (none) : Option (Int32 × Mem)) := by
  unfold fX10_placeWith_18 <;> rfl
theorem e_X10_placeWith (x1 : Int32) (x2 : Int32) (x3 : Int32) (M : Mem) : fX10_placeWith x1 x2 x3 M = ((fX10_copies M).bind fun q1 => ic (x1 < 0) ((fX10_placeWith_18 x2 x3 q1)) ((ic (inb (6 + x1) 22) (lt (sI q1 172 (ix (6 + x1)) 0) fun M5 => fX10_placeWith_18 x2 x3 M5) (none))) : Option (Int32 × Mem)) := by
  unfold fX10_placeWith <;> rfl
theorem e_X10_helps_69 (k37 : Int32 → Int32 → Int32 → Int32 → Int32 → Mem → Option (Int32 × Mem)) (x1 : Int32) (x2 : Int32) (x4 : Int32) (x5 : Int32) (x6 : Int32) (s0 : Int32) (M : Mem) : fX10_helps_69 k37 x1 x2 x4 x5 x6 s0 M = (lt (if x6 < x4 then x6 else x4) fun y21 => lt (x5 + 1) fun y23 => k37 x1 x2 s0 y21 y23 M : Option (Int32 × Mem)) := by
  unfold fX10_helps_69 <;> rfl
theorem e_X10_helps_37  (n : Nat) (x1 : Int32) (x2 : Int32) (x3 : Int32) (x4 : Int32) (x5 : Int32) (M : Mem) : fX10_helps_37  (n + 1) x1 x2 x3 x4 x5 M = (ic ((M.1 169 3) ≤ x5) ((lt (sI M 169 1 0) fun M10 => (fX10_enters x4.toInt64 M10).bind fun q12 => (fX10_placeWith (-1) x1 x2 q12).bind fun q14 => (fX10_enters q14.1.toInt64 q14.2).bind fun q16 => some (x3, q16))) (((fX10_placeWith x5 x1 x2 M).bind fun q18 => ic (x4 ≤ q18.1) ((fX10_helps_69 (fX10_helps_37 n) x1 x2 x4 x5 q18.1 x3 q18.2)) ((fX10_helps_69 (fX10_helps_37 n) x1 x2 x4 x5 q18.1 x5 q18.2)))) : Option (Int32 × Mem)) := by
  rw [fX10_helps_37] <;> rfl
theorem e_X10_helps (x1 : Int32) (x2 : Int32) (M : Mem) : fX10_helps x1 x2 M = (lt (sI M 169 0 0) fun M1 => (fX10_isBoat x1 M1).bind fun q3 => ic (q3.1 = 0) ((some ((-1), q3.2))) (((fX10_in x2.toInt64 1 30 q3.2).bind fun q6 => ic (q6.1 = 0) ((some ((-1), q6.2))) ((fX10_helps_37 FU x1 x2 (-1) 1000000 0 q6.2)))) : Option (Int32 × Mem)) := by
  unfold fX10_helps <;> rfl
theorem e_X10_lowest_9 (s0 : Int32) (M : Mem) : fX10_lowest_9 s0 M = ((fX10_flag s0 M).bind fun q2 => some (q2.1, q2.2) : Option (Int32 × Mem)) := by
  unfold fX10_lowest_9 <;> rfl
theorem e_X10_lowest (x0 : Int32) (M : Mem) : fX10_lowest x0 M = (ic (x0 = 0) ((fX10_lowest_9 1 M)) ((fX10_lowest_9 0 M)) : Option (Int32 × Mem)) := by
  unfold fX10_lowest <;> rfl
theorem e_X10_highest (x0 : Int32) (M : Mem) : fX10_highest x0 M = (ic (2 ≤ x0) ((ic (x0 = 2) ((some (5, M))) ((some (1, M))))) ((some (9, M))) : Option (Int32 × Mem)) := by
  unfold fX10_highest <;> rfl
theorem e_X10_heard (x1 : Int32) (x2 : Int32) (M : Mem) : fX10_heard x1 x2 M = (lt (sI M 169 0 0) fun M1 => (fX10_in x1.toInt64 0 4 M1).bind fun q3 => ic (q3.1 = 0) ((some ((-1), q3.2))) (((fX10_lowest x1 q3.2).bind fun q6 => (fX10_highest x1 q6.2).bind fun q8 => (fX10_in x2.toInt64 q6.1.toInt64 q8.1.toInt64 q8.2).bind fun q10 => ic (q10.1 = 0) ((some ((-1), q10.2))) ((ic ((q10.2.1 169 45) = 12) ((some ((-1), q10.2))) ((ic (inb (q10.2.1 169 45) 12) (lt (sI q10.2 198 (ix (q10.2.1 169 45)) x1) fun M15 => ic (inb (M15.1 169 45) 12) (lt (sI M15 199 (ix (M15.1 169 45)) x2) fun M18 => lt (sI M18 169 45 ((M18.1 169 45) + 1)) fun M20 => some (M20.1 169 45, M20)) (none)) (none))))))) : Option (Int32 × Mem)) := by
  unfold fX10_heard <;> rfl
theorem e_X10_forget (M : Mem) : fX10_forget M = (lt (sI M 169 0 0) fun M1 => lt (M1.1 169 45) fun y3 => lt (sI M1 169 45 0) fun M5 => some (y3, M5) : Option (Int32 × Mem)) := by
  unfold fX10_forget <;> rfl
theorem e_X10_isSo (x1 : Int32) (x2 : Int32) (x3 : Int32) (M : Mem) : fX10_isSo x1 x2 x3 M = (ic (x2 = 0) ((ic (inb x1 22) (ic ((M.1 171 (ix x1)) < x3) ((some (0, M))) ((some (1, M)))) (none))) ((ic (x2 = 1) ((ic (inb (6 + x1) 22) (ic ((M.1 171 (ix (6 + x1))) < x3) ((some (0, M))) ((some (1, M)))) (none))) ((ic (x2 = 2) ((ic (inb (12 + x1) 22) (ic (x3 < (M.1 171 (ix (12 + x1)))) ((some (0, M))) ((some (1, M)))) (none))) ((ic (x2 = 3) (((fX10_touchers 1 M).bind fun q11 => (fX10_has q11.1 x1 q11.2).bind fun q13 => (fX10_flag q13.1 q13.2).bind fun q15 => ic (q15.1 = x3) ((some (1, q15.2))) ((some (0, q15.2))))) (((fX10_touchers 0 M).bind fun q18 => (fX10_has q18.1 x1 q18.2).bind fun q20 => (fX10_flag q20.1 q20.2).bind fun q22 => ic (q22.1 = x3) ((some (1, q22.2))) ((some (0, q22.2))))))))))) : Option (Int32 × Mem)) := by
  unfold fX10_isSo <;> rfl
theorem e_X10_fitting_32 (k19 : Int32 → Int32 → Mem → Option (Int32 × Mem)) (n : Nat) (x1 : Int32) (x2 : Int32) (x3 : Int32) (x4 : Int32) (M : Mem) : fX10_fitting_32 k19 (n + 1) x1 x2 x3 x4 M = (ic ((M.1 169 45) ≤ x4) ((ic (x3 = 0) ((lt (x1 ||| 0) fun y7 => lt (x2 + 1) fun y9 => k19 y7 y9 M)) ((lt (x1 ||| (1 <<< (x2 &&& 31))) fun y11 => lt (x2 + 1) fun y13 => k19 y11 y13 M)))) ((ic (x3 = 0) ((lt (x4 + 1) fun y16 => (fX10_fitting_32 k19 n) x1 x2 0 y16 M)) ((ic (inb x4 12) (ic (inb x4 12) ((fX10_isSo x2 (M.1 198 (ix x4)) (M.1 199 (ix x4)) M).bind fun q20 => ic (q20.1 = 0) ((lt (x4 + 1) fun y23 => (fX10_fitting_32 k19 n) x1 x2 0 y23 q20.2)) ((lt (x4 + 1) fun y25 => (fX10_fitting_32 k19 n) x1 x2 1 y25 q20.2))) (none)) (none))))) : Option (Int32 × Mem)) := by
  rw [fX10_fitting_32] <;> rfl
theorem e_X10_fitting_19  (n : Nat) (x1 : Int32) (x2 : Int32) (M : Mem) : fX10_fitting_19  (n + 1) x1 x2 M = (ic ((M.1 169 3) ≤ x2) ((some (x1, M))) ((fX10_fitting_32 (fX10_fitting_19 n) FU x1 x2 1 0 M)) : Option (Int32 × Mem)) := by
  rw [fX10_fitting_19] <;> rfl
theorem e_X10_fitting (M : Mem) : fX10_fitting M = (ic (inb 19 22) ((fX10_races 171 (M.1 171 (ix 19)) M).bind fun q2 => fX10_fitting_19 FU 0 0 q2) (none) : Option (Int32 × Mem)) := by
  unfold fX10_fitting <;> rfl
theorem e_X10_fits (M : Mem) : fX10_fits M = (lt (sI M 169 0 0) fun M1 => (fX10_fitting M1).bind fun q3 => lt (sI q3.2 169 1 0) fun M5 => (fBC q3.1 M5).bind fun q7 => (fX10_enters q7.1.toInt64 q7.2).bind fun q9 => some (q3.1, q9) : Option (Int32 × Mem)) := by
  unfold fX10_fits <;> rfl
theorem e_X10_asks_93 (k55 : Int32 → Int32 → Int32 → Int32 → Int32 → Int32 → Int32 → Mem → Option (Int32 × Mem)) (x1 : Int32) (x2 : Int32) (x3 : Int32) (x4 : Int32) (x5 : Int32) (x7 : Int32) (s0 : Int32) (s1 : Int32) (M : Mem) : fX10_asks_93 k55 x1 x2 x3 x4 x5 x7 s0 s1 M = ((fX10_flag s0 M).bind fun q34 => lt (s1 + q34.1) fun y36 => lt (x7 + 1) fun y38 => k55 x1 x2 x3 x4 x5 y36 y38 q34.2 : Option (Int32 × Mem)) := by
  unfold fX10_asks_93 <;> rfl
theorem e_X10_asks_92 (k55 : Int32 → Int32 → Int32 → Int32 → Int32 → Int32 → Int32 → Mem → Option (Int32 × Mem)) (x1 : Int32) (x2 : Int32) (x3 : Int32) (x4 : Int32) (x5 : Int32) (x7 : Int32) (s0 : Int32) (M : Mem) : fX10_asks_92 k55 x1 x2 x3 x4 x5 x7 s0 M = (fX10_asks_93 k55 x1 x2 x3 x4 x5 x7 0 s0 M : Option (Int32 × Mem)) := by
  unfold fX10_asks_92 <;> rfl
theorem e_X10_asks_137 (k39 : Int32 → Int32 → Int32 → Int32 → Int32 → Mem → Option (Int32 × Mem)) (x1 : Int32) (x3 : Int32) (x4 : Int32) (x5 : Int32) (x7 : Int32) (s0 : Int32) (M : Mem) : fX10_asks_137 k39 x1 x3 x4 x5 x7 s0 M = (lt (if x7 < x3 then x7 else x3) fun y30 => lt (x5 + 1) fun y32 => k39 x1 s0 y30 x4 y32 M : Option (Int32 × Mem)) := by
  unfold fX10_asks_137 <;> rfl
theorem e_X10_asks_55 (k39 : Int32 → Int32 → Int32 → Int32 → Int32 → Mem → Option (Int32 × Mem)) (n : Nat) (x1 : Int32) (x2 : Int32) (x3 : Int32) (x4 : Int32) (x5 : Int32) (x6 : Int32) (x7 : Int32) (M : Mem) : fX10_asks_55 k39 (n + 1) x1 x2 x3 x4 x5 x6 x7 M = (ic ((M.1 169 3) ≤ x7) (((fBC x1 M).bind fun q19 => lt (if x6 < (q19.1 - x6) then (q19.1 - x6) else x6) fun y21 => ic (x3 ≤ y21) ((fX10_asks_137 k39 x1 x3 x4 x5 y21 x2 q19.2)) ((fX10_asks_137 k39 x1 x3 x4 x5 y21 ((10 * x4) + x5) q19.2)))) (((fX10_has x1 x7 M).bind fun q24 => ic (q24.1 = 0) ((fX10_asks_92 (fX10_asks_55 k39 n) x1 x2 x3 x4 x5 x7 x6 q24.2)) (((fX10_isSo x7 x4 x5 q24.2).bind fun q27 => ic (q27.1 = 0) ((fX10_asks_92 (fX10_asks_55 k39 n) x1 x2 x3 x4 x5 x7 x6 q27.2)) ((fX10_asks_93 (fX10_asks_55 k39 n) x1 x2 x3 x4 x5 x7 1 x6 q27.2)))))) : Option (Int32 × Mem)) := by
  rw [fX10_asks_55] <;> rfl
theorem e_X10_asks_39 (k26 : Int32 → Int32 → Int32 → Int32 → Mem → Option (Int32 × Mem)) (n : Nat) (x1 : Int32) (x2 : Int32) (x3 : Int32) (x4 : Int32) (x5 : Int32) (M : Mem) : fX10_asks_39 k26 (n + 1) x1 x2 x3 x4 x5 M = ((fX10_highest x4 M).bind fun q13 => ic (q13.1 < x5) ((lt (x4 + 1) fun y16 => k26 x1 x2 x3 y16 q13.2)) ((fX10_asks_55 (fX10_asks_39 k26 n) FU x1 x2 x3 x4 x5 0 0 q13.2)) : Option (Int32 × Mem)) := by
  rw [fX10_asks_39] <;> rfl
theorem e_X10_asks_26  (n : Nat) (x1 : Int32) (x2 : Int32) (x3 : Int32) (x4 : Int32) (M : Mem) : fX10_asks_26  (n + 1) x1 x2 x3 x4 M = (ic (5 ≤ x4) ((lt (sI M 169 1 0) fun M7 => (fX10_enters x3.toInt64 M7).bind fun q9 => some (x2, q9))) (((fX10_lowest x4 M).bind fun q11 => fX10_asks_39 (fX10_asks_26 n) FU x1 x2 x3 x4 q11.1 q11.2)) : Option (Int32 × Mem)) := by
  rw [fX10_asks_26] <;> rfl
theorem e_X10_asks (M : Mem) : fX10_asks M = (lt (sI M 169 0 0) fun M1 => (fX10_fitting M1).bind fun q3 => ic (q3.1 = 0) ((some ((-2), q3.2))) ((fX10_asks_26 FU q3.1 (-1) 1000000 0 q3.2)) : Option (Int32 × Mem)) := by
  unfold fX10_asks <;> rfl
theorem e_X10_likely_82 (k61 : Int32 → Int32 → Int64 → Int64 → Int32 → Mem → Option (Int32 × Mem)) (n : Nat) (x1 : Int32) (x2 : Int32) (x3 : Int64) (x5 : Int64) (x7 : Int32) (x8 : Int64) (x10 : Int32) (M : Mem) : fX10_likely_82 k61 (n + 1) x1 x2 x3 x5 x7 x8 x10 M = (ic ((M.1 169 3) ≤ x10) ((ic (inb 19 22) ((fX10_races 172 (M.1 172 (ix 19)) M).bind fun q29 => (fX10_touchOf x1 q29).bind fun q31 => ic (q31.1 < 0) ((lt (x3 + 0) fun y34 => lt (x7 + 1) fun y36 => k61 x1 x2 y34 x5 y36 q31.2)) ((lt (x3 + x8) fun y38 => lt (x7 + 1) fun y40 => k61 x1 x2 y38 x5 y40 q31.2))) (none))) ((ic (inb x10 22) ((fX10_has x7 x10 M).bind fun q43 => (fX10_flag q43.1 q43.2).bind fun q45 => ic (inb x10 22) (lt (sI q45.2 172 (ix x10) ((M.1 172 (ix x10)) + q45.1)) fun M48 => (fX10_has x7 x10 M48).bind fun q50 => ic (q50.1 = 0) ((lt (x8 * ((10 - x2).toInt64)) fun y53 => lt (x10 + 1) fun y55 => (fX10_likely_82 k61 n) x1 x2 x3 x5 x7 y53 y55 q50.2)) ((lt (x8 * x2.toInt64) fun y57 => lt (x10 + 1) fun y59 => (fX10_likely_82 k61 n) x1 x2 x3 x5 x7 y57 y59 q50.2))) (none)) (none))) : Option (Int32 × Mem)) := by
  rw [fX10_likely_82] <;> rfl
theorem e_X10_likely_61  (n : Nat) (x1 : Int32) (x2 : Int32) (x3 : Int64) (x5 : Int64) (x7 : Int32) (M : Mem) : fX10_likely_61  (n + 1) x1 x2 x3 x5 x7 M = (ic ((1 <<< ((M.1 169 3) &&& 31)) ≤ x7) (((fX10_common 64 x3 x5 M).bind fun q15 => lt (sI q15.2 169 1 0) fun M17 => ic (¬ q15.1 = 0) ((fX10_enters (x3 / q15.1) M17).bind fun q20 => ic (¬ q15.1 = 0) ((fX10_enters (x5 / q15.1) q20).bind fun q23 => some (0, q23)) (none)) (none))) (((fX10_copies M).bind fun q25 => fX10_likely_82 (fX10_likely_61 n) FU x1 x2 x3 x5 x7 1 0 q25)) : Option (Int32 × Mem)) := by
  rw [fX10_likely_61] <;> rfl
theorem e_X10_likely_35  (n : Nat) (x1 : Int32) (x2 : Int32) (x3 : Int64) (x5 : Int64) (x7 : Int32) (M : Mem) : fX10_likely_35  (n + 1) x1 x2 x3 x5 x7 M = (ic ((M.1 169 3) ≤ x7) ((fX10_likely_61 FU x1 x2 x3 x5 0 M)) ((lt (x5 * 10) fun y10 => lt (x7 + 1) fun y12 => (fX10_likely_35 n) x1 x2 x3 y10 y12 M)) : Option (Int32 × Mem)) := by
  rw [fX10_likely_35] <;> rfl
theorem e_X10_likely (x1 : Int32) (x2 : Int32) (M : Mem) : fX10_likely x1 x2 M = (lt (sI M 169 0 0) fun M1 => (fX10_isBoat x1 M1).bind fun q3 => ic (q3.1 = 0) ((some ((-1), q3.2))) (((fX10_in x2.toInt64 0 10 q3.2).bind fun q6 => ic (q6.1 = 0) ((some ((-1), q6.2))) ((fX10_likely_35 FU x1 x2 0 1 0 q6.2)))) : Option (Int32 × Mem)) := by
  unfold fX10_likely <;> rfl
theorem e_X10_pulls_95 (k72 : Int32 → Int32 → Int32 → Int32 → Int32 → Mem → Option (Int32 × Mem)) (x1 : Int32) (x2 : Int32) (x3 : Int32) (x4 : Int32) (x5 : Int32) (s0 : Int32) (M : Mem) : fX10_pulls_95 k72 x1 x2 x3 x4 x5 s0 M = (ic (s0 = 0) ((ic (inb x3 61) (ic (inb x3 61) (lt (sI M 200 (ix x3) (M.1 200 (ix x3))) fun M32 => lt (x5 + (-1)) fun y34 => k72 x1 x2 x3 x4 y34 M32) (none)) (none))) ((ic (inb (x3 - x5) 61) (ic ((M.1 200 (ix (x3 - x5))) = 0) ((ic (inb x3 61) (lt (sI M 200 (ix x3) x5) fun M45 => lt (x5 + (-1)) fun y47 => k72 x1 x2 x3 x4 y47 M45) (none))) ((ic (inb x3 61) (ic (inb x3 61) (lt (sI M 200 (ix x3) (M.1 200 (ix x3))) fun M40 => lt (x5 + (-1)) fun y42 => k72 x1 x2 x3 x4 y42 M40) (none)) (none)))) (none))) : Option (Int32 × Mem)) := by
  unfold fX10_pulls_95 <;> rfl
theorem e_X10_pulls_90 (k72 : Int32 → Int32 → Int32 → Int32 → Int32 → Mem → Option (Int32 × Mem)) (x1 : Int32) (x2 : Int32) (x3 : Int32) (x4 : Int32) (x5 : Int32) (M : Mem) : fX10_pulls_90 k72 x1 x2 x3 x4 x5 M = (fX10_pulls_95 k72 x1 x2 x3 x4 x5 1 M : Option (Int32 × Mem)) := by
  unfold fX10_pulls_90 <;> rfl
theorem e_X10_pulls_72 (k42 : Int32 → Int32 → Int32 → Mem → Option (Int32 × Mem)) (n : Nat) (x1 : Int32) (x2 : Int32) (x3 : Int32) (x4 : Int32) (x5 : Int32) (M : Mem) : fX10_pulls_72 k42 (n + 1) x1 x2 x3 x4 x5 M = (ic (x5 ≤ 0) ((lt (x3 + 1) fun y25 => k42 x1 x2 y25 M)) ((ic (x5 ≤ x2) ((fX10_pulls_90 (fX10_pulls_72 k42 n) x1 x2 x3 x4 x5 M)) ((ic (x5 = x4) ((fX10_pulls_90 (fX10_pulls_72 k42 n) x1 x2 x3 x4 x5 M)) ((fX10_pulls_95 (fX10_pulls_72 k42 n) x1 x2 x3 x4 x5 0 M)))))) : Option (Int32 × Mem)) := by
  rw [fX10_pulls_72] <;> rfl
theorem e_X10_pulls_42  (n : Nat) (x1 : Int32) (x2 : Int32) (x3 : Int32) (M : Mem) : fX10_pulls_42  (n + 1) x1 x2 x3 M = (ic (x1 < x3) ((ic (x1 = 0) ((some (0, M))) ((ic (inb x1 61) (some (M.1 200 (ix x1), M)) (none))))) ((ic ((x3 - x3 / 2 * 2) = 0) ((lt (x3 / 2) fun y19 => ic (inb x3 61) (lt (sI M 200 (ix x3) 0) fun M22 => fX10_pulls_72 (fX10_pulls_42 n) FU x1 x2 x3 y19 x3 M22) (none))) ((ic (inb x3 61) (lt (sI M 200 (ix x3) 0) fun M17 => fX10_pulls_72 (fX10_pulls_42 n) FU x1 x2 x3 0 x3 M17) (none))))) : Option (Int32 × Mem)) := by
  rw [fX10_pulls_42] <;> rfl
theorem e_X10_pulls (x1 : Int32) (x2 : Int32) (M : Mem) : fX10_pulls x1 x2 M = (lt (sI M 169 0 0) fun M1 => (fX10_in x1.toInt64 0 60 M1).bind fun q3 => ic (q3.1 = 0) ((some ((-1), q3.2))) (((fX10_in x2.toInt64 2 9 q3.2).bind fun q6 => ic (q6.1 = 0) ((some ((-1), q6.2))) ((ic (inb 0 61) (lt (sI q6.2 200 (ix 0) 1) fun M10 => fX10_pulls_42 FU x1 x2 1 M10) (none))))) : Option (Int32 × Mem)) := by
  unfold fX10_pulls <;> rfl
theorem e_X10_law_136  (n : Nat) (x2 : Int32) (x4 : Int32) (M : Mem) : fX10_law_136  (n + 1) x2 x4 M = (ic ((M.1 169 3) ≤ x4) ((some ((M.1 169 30) - x2, M))) (((fX10_boatOn 172 x4 M).bind fun q35 => (fX10_enters q35.1.toInt64 q35.2).bind fun q37 => lt (x4 + 1) fun y39 => (fX10_law_136 n) x2 y39 q37)) : Option (Int32 × Mem)) := by
  rw [fX10_law_136] <;> rfl
theorem e_X10_law_50  (n : Nat) (x2 : Int32) (x3 : Int32) (x4 : Int32) (M : Mem) : fX10_law_50  (n + 1) x2 x3 x4 M = (ic ((M.1 169 16) ≤ x4) (((fX10_laysCode 176 (M.1 169 17) M).bind fun q14 => (fX10_copies q14).bind fun q16 => (fX10_goesOn 172 1 q16).bind fun q18 => (fX10_laysCode 201 x3 q18).bind fun q20 => lt (sI q20 169 1 0) fun M22 => (fX10_enters ((M22.1 169 30).toInt64) M22).bind fun q24 => (fX10_enters x2.toInt64 q24).bind fun q26 => fX10_law_136 FU x2 0 q26)) ((ic (inb x4 80) (ic (inb x4 80) (lt (sI M 201 (ix x4) (M.1 175 (ix x4))) fun M30 => lt (x4 + 1) fun y32 => (fX10_law_50 n) x2 x3 y32 M30) (none)) (none))) : Option (Int32 × Mem)) := by
  rw [fX10_law_50] <;> rfl
theorem e_X10_law (M : Mem) : fX10_law M = (lt (sI M 169 0 0) fun M1 => (fX10_readsRule M1).bind fun q3 => ic (0 ≤ q3.1) ((ic (inb 19 22) ((fX10_races 171 (q3.2.1 171 (ix 19)) q3.2).bind fun q7 => lt (q7.1 169 27) fun y9 => lt (q7.1 169 16) fun y11 => fX10_law_50 FU y9 y11 0 q7) (none))) ((some ((q3.1 + 1) - 10000, q3.2))) : Option (Int32 × Mem)) := by
  unfold fX10_law <;> rfl
theorem e_X10_gets_22 (s0 : Int32) (s1 : Int32) (M : Mem) : fX10_gets_22 s0 s1 M = ((fX10_flag s0 M).bind fun q3 => some (s1 - q3.1, q3.2) : Option (Int32 × Mem)) := by
  unfold fX10_gets_22 <;> rfl
theorem e_X10_gets_10 (x0 : Int32) (x1 : Int32) (s0 : Int32) (M : Mem) : fX10_gets_10 x0 x1 s0 M = (ic (x1 ≤ x0) ((fX10_gets_22 0 (s0 - x0) M)) ((fX10_gets_22 1 (s0 - x0) M)) : Option (Int32 × Mem)) := by
  unfold fX10_gets_10 <;> rfl
theorem e_X10_gets (x0 : Int32) (x1 : Int32) (x2 : Int32) (M : Mem) : fX10_gets x0 x1 x2 M = (ic (x0 ≤ x1) ((fX10_gets_10 x0 x1 0 M)) ((fX10_gets_10 x0 x1 x2 M)) : Option (Int32 × Mem)) := by
  unfold fX10_gets <;> rfl
theorem e_X10_isRest_5  (n : Nat) (x0 : Int32) (x1 : Int32) (x2 : Int32) (x3 : Int32) (x4 : Int32) (M : Mem) : fX10_isRest_5  (n + 1) x0 x1 x2 x3 x4 M = (ic (9 < x4) ((ic (x3 = 0 ∨ x3 = 1) (some (x3, M)) (none))) ((ic (x3 = 0) ((lt (x4 + 1) fun y4 => (fX10_isRest_5 n) x0 x1 x2 0 y4 M)) (((fX10_gets x4 x1 x2 M).bind fun q6 => (fX10_gets x0 x1 x2 q6.2).bind fun q8 => ic (q8.1 < q6.1) ((lt (x4 + 1) fun y11 => (fX10_isRest_5 n) x0 x1 x2 0 y11 q8.2)) ((lt (x4 + 1) fun y13 => (fX10_isRest_5 n) x0 x1 x2 1 y13 q8.2)))))) : Option (Int32 × Mem)) := by
  rw [fX10_isRest_5] <;> rfl
theorem e_X10_isRest (x0 : Int32) (x1 : Int32) (x2 : Int32) (M : Mem) : fX10_isRest x0 x1 x2 M = (fX10_isRest_5 FU x0 x1 x2 1 0 M : Option (Int32 × Mem)) := by
  unfold fX10_isRest <;> rfl
theorem e_X10_crews_37 (k28 : Int32 → Int32 → Int32 → Mem → Option (Int32 × Mem)) (n : Nat) (x1 : Int32) (x2 : Int32) (x3 : Int32) (x4 : Int32) (M : Mem) : fX10_crews_37 k28 (n + 1) x1 x2 x3 x4 M = (ic (9 < x4) ((lt (x3 + 1) fun y10 => k28 x1 x2 y10 M)) (((fX10_isRest x3 x4 x1 M).bind fun q12 => ic (q12.1 = 0) ((lt (x4 + 1) fun y15 => (fX10_crews_37 k28 n) x1 x2 x3 y15 q12.2)) (((fX10_isRest x4 x3 x1 q12.2).bind fun q17 => ic (q17.1 = 0) ((lt (x4 + 1) fun y20 => (fX10_crews_37 k28 n) x1 x2 x3 y20 q17.2)) ((ic (x2 = 0) (((fX10_enters x3.toInt64 q17.2).bind fun q27 => (fX10_enters x4.toInt64 q27).bind fun q29 => lt (x2 + 1) fun y31 => lt (x4 + 1) fun y33 => (fX10_crews_37 k28 n) x1 y31 x3 y33 q29)) ((lt (x2 + 1) fun y23 => lt (x4 + 1) fun y25 => (fX10_crews_37 k28 n) x1 y23 x3 y25 q17.2)))))))) : Option (Int32 × Mem)) := by
  rw [fX10_crews_37] <;> rfl
theorem e_X10_crews_28  (n : Nat) (x1 : Int32) (x2 : Int32) (x3 : Int32) (M : Mem) : fX10_crews_28  (n + 1) x1 x2 x3 M = (ic (9 < x3) ((some (x2, M))) ((fX10_crews_37 (fX10_crews_28 n) FU x1 x2 x3 0 M)) : Option (Int32 × Mem)) := by
  rw [fX10_crews_28] <;> rfl
theorem e_X10_crews (x1 : Int32) (M : Mem) : fX10_crews x1 M = (lt (sI M 169 0 0) fun M1 => (fX10_in x1.toInt64 0 20 M1).bind fun q3 => ic (q3.1 = 0) ((some ((-1), q3.2))) ((lt (sI q3.2 169 1 0) fun M6 => fX10_crews_28 FU x1 0 0 M6)) : Option (Int32 × Mem)) := by
  unfold fX10_crews <;> rfl
theorem e_X10_draws (x1 : Int32) (M : Mem) : fX10_draws x1 M = (lt (sI M 169 50 (((M.1 169 50) * 1103515245) + 12345)) fun M1 => ic (¬ x1 = 0) (some ((((M1.1 169 50).toUInt32 >>> (Int32.toUInt32 16 &&& Int32.toUInt32 31)).toInt32) - (((M1.1 169 50).toUInt32 >>> (Int32.toUInt32 16 &&& Int32.toUInt32 31)).toInt32) / x1 * x1, M1)) (none) : Option (Int32 × Mem)) := by
  unfold fX10_draws <;> rfl
theorem e_X10_years_40  (n : Nat) (x2 : Int32) (x3 : Int32) (M : Mem) : fX10_years_40  (n + 1) x2 x3 M = (ic (x2 ≤ x3) ((lt (sI M 169 1 0) fun M13 => (fX10_enters ((M13.1 169 30).toInt64) M13).bind fun q15 => (fX10_sumOf 172 6 q15).bind fun q17 => (fX10_enters q17.1.toInt64 q17.2).bind fun q19 => (fX10_boatOn 172 0 q19).bind fun q21 => some (q21.1, q21.2))) (((fX10_draws 4 M).bind fun q23 => ic (2 ≤ q23.1) ((ic ((q23.2.1 169 3) ≤ 0) ((lt (x3 + 1) fun y27 => (fX10_years_40 n) x2 y27 q23.2)) (((fX10_draws (q23.2.1 169 3) q23.2).bind fun q29 => ic (q23.1 = 2) (((fX10_draws 9 q29.2).bind fun q36 => ic (inb q29.1 22) (lt (sI q36.2 172 (ix q29.1) (1 + q36.1)) fun M39 => lt (x3 + 1) fun y41 => (fX10_years_40 n) x2 y41 M39) (none))) (((fX10_scratchesOne 172 q29.1 q29.2).bind fun q32 => lt (x3 + 1) fun y34 => (fX10_years_40 n) x2 y34 q32.2)))))) (((fX10_dayGoes 172 q23.2).bind fun q43 => lt (x3 + 1) fun y45 => (fX10_years_40 n) x2 y45 q43)))) : Option (Int32 × Mem)) := by
  rw [fX10_years_40] <;> rfl
theorem e_X10_years (x1 : Int32) (x2 : Int32) (M : Mem) : fX10_years x1 x2 M = (lt (sI M 169 0 0) fun M1 => (fX10_in x2.toInt64 1 60 M1).bind fun q3 => ic (q3.1 = 0) ((some ((-2), q3.2))) ((lt (sI q3.2 169 50 x1) fun M6 => (fX10_copies M6).bind fun q8 => (fX10_goesOn 172 0 q8).bind fun q10 => fX10_years_40 FU x2 0 q10)) : Option (Int32 × Mem)) := by
  unfold fX10_years <;> rfl
theorem e_X10_keep_38  (n : Nat) (x1 : Int32) (x2 : Int32) (M : Mem) : fX10_keep_38  (n + 1) x1 x2 M = (ic (22 ≤ x2) ((some (1, M))) ((ic (inb x2 22) (ic (inb ((22 * x1) + x2) 66) (lt (sI M 204 (ix ((22 * x1) + x2)) (M.1 171 (ix x2))) fun M15 => lt (x2 + 1) fun y17 => (fX10_keep_38 n) x1 y17 M15) (none)) (none))) : Option (Int32 × Mem)) := by
  rw [fX10_keep_38] <;> rfl
theorem e_X10_keep (x1 : Int32) (M : Mem) : fX10_keep x1 M = (lt (sI M 169 0 0) fun M1 => (fX10_in x1.toInt64 0 2 M1).bind fun q3 => ic (q3.1 = 0) ((some (0, q3.2))) ((ic (inb x1 3) (lt (sI q3.2 202 (ix x1) (1 &&& 1)) fun M7 => ic (inb x1 3) (lt (sI M7 203 (ix x1) (M7.1 169 4)) fun M10 => fX10_keep_38 FU x1 0 M10) (none)) (none))) : Option (Int32 × Mem)) := by
  unfold fX10_keep <;> rfl
theorem e_X10_again_43  (n : Nat) (x1 : Int32) (x2 : Int32) (M : Mem) : fX10_again_43  (n + 1) x1 x2 M = (ic (22 ≤ x2) ((lt (sI M 169 28 0) fun M11 => some (1, M11))) ((ic (inb ((22 * x1) + x2) 66) (ic (inb x2 22) (lt (sI M 171 (ix x2) (M.1 204 (ix ((22 * x1) + x2)))) fun M15 => lt (x2 + 1) fun y17 => (fX10_again_43 n) x1 y17 M15) (none)) (none))) : Option (Int32 × Mem)) := by
  rw [fX10_again_43] <;> rfl
theorem e_X10_again (x1 : Int32) (M : Mem) : fX10_again x1 M = (lt (sI M 169 0 0) fun M1 => (fX10_in x1.toInt64 0 2 M1).bind fun q3 => ic (q3.1 = 0) ((some (0, q3.2))) ((ic (inb x1 3) (ic ((q3.2.1 202 (ix x1)) = 0) ((some (0, q3.2))) ((ic (inb x1 3) (ic ((q3.2.1 203 (ix x1)) = (q3.2.1 169 4)) ((fX10_again_43 FU x1 0 q3.2)) ((some (0, q3.2)))) (none)))) (none))) : Option (Int32 × Mem)) := by
  unfold fX10_again <;> rfl
theorem e_X10_count (x1 : Int32) (M : Mem) : fX10_count x1 M = (lt (sI M 169 0 0) fun M1 => ic (x1 = 0) ((some (M1.1 169 3, M1))) ((ic (x1 = 1) ((ic (inb 18 22) (some (M1.1 171 (ix 18), M1)) (none))) ((ic (x1 = 2) ((ic (inb 19 22) (some (M1.1 171 (ix 19), M1)) (none))) ((ic (x1 = 3) ((ic (inb 20 22) (some (M1.1 171 (ix 20), M1)) (none))) ((ic (x1 = 4) ((ic (inb 21 22) (some (M1.1 171 (ix 21), M1)) (none))) ((ic (x1 = 5) (((fX10_sumOf 171 0 M1).bind fun q13 => some (q13.1, q13.2))) ((ic (x1 = 6) (((fX10_sumOf 171 6 M1).bind fun q16 => some (q16.1, q16.2))) ((ic (x1 = 7) ((some (M1.1 169 45, M1))) ((ic (x1 = 8) ((some (M1.1 169 28, M1))) ((ic (x1 = 9) ((some (M1.1 169 1, M1))) ((ic (x1 = 10) ((some (M1.1 169 8, M1))) ((some ((-100), M1))))))))))))))))))))))) : Option (Int32 × Mem)) := by
  unfold fX10_count <;> rfl
theorem e_X10_row (x1 : Int32) (M : Mem) : fX10_row x1 M = (lt (sI M 169 0 0) fun M1 => (fX10_in x1.toInt64 0 (((M1.1 169 1) - 1).toInt64) M1).bind fun q3 => ic (q3.1 = 0) ((lt (sI q3.2 169 0 1) fun M7 => some (0, M7))) ((ic (inb x1 24) (some (q3.2.2.1 170 (ix x1), q3.2)) (none))) : Option (Int64 × Mem)) := by
  unfold fX10_row <;> rfl
