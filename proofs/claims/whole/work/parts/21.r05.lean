/-! rows of X11_boundMany, X11_boundOn, X11_manyOn, X11_xOf, X11_yOf, X11_isDay, X11_isPoint, X11_refuses, X11_refusesAt, X11_corners, X11_corner, X11_area, X11_isEast, X11_isIn, X11_inside, X11_isBetween, X11_onEdge, X11_nextMove, X11_settledIn, X11_laysStack, X11_settled, X11_stack, X11_stackAt, X11_nextStack, X11_overlap, X11_points, X11_stacked, X11_ownRate, X11_rateOf, X11_isOf, X11_isFree, X11_capOf, X11_rate -/
section
variable {u : xMem} {P : Option Value → xMem → Prop} {st : List Value} {v0 v1 v2 v3 v4 v5 v6 v7 v8 v9 v10 v11 v12 v13 v14 v15 : Value} {x0 x1 x2 x3 x4 x5 x6 x7 x8 x9 x10 x11 x12 x13 x14 x15 : Int32} {a0 a1 a2 a3 a4 a5 a6 a7 a8 a9 a10 a11 a12 a13 a14 a15 : Nat} {j0 j1 j2 j3 j4 j5 j6 j7 j8 j9 j10 j11 j12 j13 j14 j15 : Int64} {y1 y2 y3 y4 y5 y6 y7 y8 : Int32} {b1 b2 b3 b4 b5 b6 b7 b8 : Nat} {w1 w2 w3 w4 : Int64}
theorem k217_0 : xcd 217 0 = oI 0 1 := rfl
theorem r217_0 : zr 217 0 [v0, v1, v2, v3] st u P = zr 217 1 [v0, v1, v2, v3] (.int 0 :: st) u P := zr_I k217_0
theorem k217_1 : xcd 217 1 = oIs 2 2 := rfl
theorem r217_1 : zr 217 1 [v0, .int x1, v2, v3] (.int y1 :: st) u P = zr 217 2 [v0, .int x1, .int y1, v3] st u P := zr_Is k217_1 ⟨Nat.le_of_ble_eq_true rfl, rfl⟩
theorem k217_2 : xcd 217 2 = oI 0 3 := rfl
theorem r217_2 : zr 217 2 [v0, v1, v2, v3] st u P = zr 217 3 [v0, v1, v2, v3] (.int 0 :: st) u P := zr_I k217_2
theorem k217_3 : xcd 217 3 = oIs 3 4 := rfl
theorem r217_3 : zr 217 3 [v0, v1, .int x2, v3] (.int y1 :: st) u P = zr 217 4 [v0, v1, .int x2, .int y1] st u P := zr_Is k217_3 ⟨Nat.le_of_ble_eq_true rfl, rfl⟩
theorem k217_4 : xcd 217 4 = oIl 3 5 := rfl
theorem r217_4 : zr 217 4 [v0, v1, v2, .int x3] st u P = zr 217 5 [v0, v1, v2, .int x3] (.int x3 :: st) u P := zr_Il k217_4 rfl
theorem k217_5 : xcd 217 5 = oAl 0 6 := rfl
theorem r217_5 : zr 217 5 [.ref a0, v1, v2, v3] st u P = zr 217 6 [.ref a0, v1, v2, v3] (.ref a0 :: st) u P := zr_Al k217_5 rfl
theorem k217_6 : xcd 217 6 = oGR 11 3 9 := rfl
theorem r217_6 : zr 217 6 [v0, v1, v2, v3] (.ref b1 :: st) u P = (xIs u b1 11 ∧ ∃ b, xR u b1 3 = some b ∧ zr 217 9 [v0, v1, v2, v3] (.ref b :: st) u P) := zr_GR k217_6
theorem k217_9 : xcd 217 9 = oI 4 10 := rfl
theorem r217_9 : zr 217 9 [v0, v1, v2, v3] st u P = zr 217 10 [v0, v1, v2, v3] (.int 4 :: st) u P := zr_I k217_9
theorem k217_10 : xcd 217 10 = oLd 13 11 := rfl
theorem r217_10 : zr 217 10 [v0, v1, v2, v3] (.int y1 :: .ref b1 :: st) u P = ((xIs u b1 13 ∧ xinb y1 (xN u b1)) ∧ zr 217 11 [v0, v1, v2, v3] (.int (xI u b1 (xix y1)) :: st) u P) := zr_Ld k217_10
theorem k217_11 : xcd 217 11 = oCmp (fun x y => decide (y ≤ x)) 41 14 := rfl
theorem r217_11 : zr 217 11 [v0, v1, v2, v3] (.int y1 :: .int y2 :: st) u P = (if y1 ≤ y2 then zr 217 41 [v0, v1, v2, v3] st u P else zr 217 14 [v0, v1, v2, v3] st u P) := zr_Cmp k217_11
theorem k217_14 : xcd 217 14 = oIl 2 15 := rfl
theorem r217_14 : zr 217 14 [v0, v1, .int x2, v3] st u P = zr 217 15 [v0, v1, .int x2, v3] (.int x2 :: st) u P := zr_Il k217_14 rfl
theorem k217_15 : xcd 217 15 = oAl 0 16 := rfl
theorem r217_15 : zr 217 15 [.ref a0, v1, v2, v3] st u P = zr 217 16 [.ref a0, v1, v2, v3] (.ref a0 :: st) u P := zr_Al k217_15 rfl
theorem k217_16 : xcd 217 16 = oGR 11 3 19 := rfl
theorem r217_16 : zr 217 16 [v0, v1, v2, v3] (.ref b1 :: st) u P = (xIs u b1 11 ∧ ∃ b, xR u b1 3 = some b ∧ zr 217 19 [v0, v1, v2, v3] (.ref b :: st) u P) := zr_GR k217_16
theorem k217_19 : xcd 217 19 = oIl 3 20 := rfl
theorem r217_19 : zr 217 19 [v0, v1, v2, .int x3] st u P = zr 217 20 [v0, v1, v2, .int x3] (.int x3 :: st) u P := zr_Il k217_19 rfl
theorem k217_20 : xcd 217 20 = oCal 199 1 23 := rfl
theorem r217_20 : zr 217 20 [v0, v1, v2, v3] (.int y1 :: st) u P = (xcat st ≤ 8 ∧ zr 199 0 [.int y1] [] u (fun r u2 => zr 217 23 [v0, v1, v2, v3] (r.toList ++ st) u2 P)) := zr_CS k217_20 (Nat.le_add_left _ _) rfl rfl ⟨Nat.le_of_ble_eq_true rfl, Nat.succ_ne_zero _, by decide⟩ rfl
theorem k217_23 : xcd 217 23 = oLd 13 24 := rfl
theorem r217_23 : zr 217 23 [v0, v1, v2, v3] (.int y1 :: .ref b1 :: st) u P = ((xIs u b1 13 ∧ xinb y1 (xN u b1)) ∧ zr 217 24 [v0, v1, v2, v3] (.int (xI u b1 (xix y1)) :: st) u P) := zr_Ld k217_23
theorem k217_24 : xcd 217 24 = oIl 1 25 := rfl
theorem r217_24 : zr 217 24 [v0, .int x1, v2, v3] st u P = zr 217 25 [v0, .int x1, v2, v3] (.int x1 :: st) u P := zr_Il k217_24 rfl
theorem k217_25 : xcd 217 25 = oCmp (fun x y => decide (¬ x = y)) 32 28 := rfl
theorem r217_25 : zr 217 25 [v0, v1, v2, v3] (.int y1 :: .int y2 :: st) u P = (if ¬ y2 = y1 then zr 217 32 [v0, v1, v2, v3] st u P else zr 217 28 [v0, v1, v2, v3] st u P) := zr_Cmp k217_25
theorem k217_28 : xcd 217 28 = oI 1 29 := rfl
theorem r217_28 : zr 217 28 [v0, v1, v2, v3] st u P = zr 217 29 [v0, v1, v2, v3] (.int 1 :: st) u P := zr_I k217_28
theorem k217_29 : xcd 217 29 = oGoto 33 := rfl
theorem r217_29 : zr 217 29 [v0, v1, v2, v3] st u P = zr 217 33 [v0, v1, v2, v3] st u P := zr_Goto k217_29
theorem k217_32 : xcd 217 32 = oI 0 33 := rfl
theorem r217_32 : zr 217 32 [v0, v1, v2, v3] st u P = zr 217 33 [v0, v1, v2, v3] (.int 0 :: st) u P := zr_I k217_32
theorem k217_33 : xcd 217 33 = oB (fun x y => x + y) 34 := rfl
theorem r217_33 : zr 217 33 [v0, v1, v2, v3] (.int y1 :: .int y2 :: st) u P = zr 217 34 [v0, v1, v2, v3] (.int (y2 + y1) :: st) u P := zr_B k217_33
theorem k217_34 : xcd 217 34 = oIs 2 35 := rfl
theorem r217_34 : zr 217 34 [v0, .int x1, v2, v3] (.int y1 :: st) u P = zr 217 35 [v0, .int x1, .int y1, v3] st u P := zr_Is k217_34 ⟨Nat.le_of_ble_eq_true rfl, rfl⟩
theorem k217_35 : xcd 217 35 = oInc 3 1 38 := rfl
theorem r217_35 : zr 217 35 [v0, v1, .int x2, .int x3] st u P = zr 217 38 [v0, v1, .int x2, .int (x3 + 1)] st u P := zr_Inc k217_35 rfl rfl
theorem k217_38 : xcd 217 38 = oGoto 4 := rfl
theorem r217_38 : zr 217 38 [v0, v1, v2, v3] st u P = zr 217 4 [v0, v1, v2, v3] st u P := zr_Goto k217_38
theorem k217_41 : xcd 217 41 = oIl 2 42 := rfl
theorem r217_41 : zr 217 41 [v0, v1, .int x2, v3] st u P = zr 217 42 [v0, v1, .int x2, v3] (.int x2 :: st) u P := zr_Il k217_41 rfl
theorem k217_42 : xcd 217 42 = oRi 0 := rfl
theorem r217_42 : zr 217 42 [v0, v1, v2, v3] [.int y1] u P = P (some (.int y1)) u := zr_Ri k217_42
theorem k218_0 : xcd 218 0 = oI (-1) 1 := rfl
theorem r218_0 : zr 218 0 [v0, v1, v2, v3, v4] st u P = zr 218 1 [v0, v1, v2, v3, v4] (.int (-1) :: st) u P := zr_I k218_0
theorem k218_1 : xcd 218 1 = oIs 3 2 := rfl
theorem r218_1 : zr 218 1 [v0, v1, .int x2, v3, v4] (.int y1 :: st) u P = zr 218 2 [v0, v1, .int x2, .int y1, v4] st u P := zr_Is k218_1 ⟨Nat.le_of_ble_eq_true rfl, rfl⟩
theorem k218_2 : xcd 218 2 = oI 0 3 := rfl
theorem r218_2 : zr 218 2 [v0, v1, v2, v3, v4] st u P = zr 218 3 [v0, v1, v2, v3, v4] (.int 0 :: st) u P := zr_I k218_2
theorem k218_3 : xcd 218 3 = oIs 4 5 := rfl
theorem r218_3 : zr 218 3 [v0, v1, v2, .int x3, v4] (.int y1 :: st) u P = zr 218 5 [v0, v1, v2, .int x3, .int y1] st u P := zr_Is k218_3 ⟨Nat.le_of_ble_eq_true rfl, rfl⟩
theorem k218_5 : xcd 218 5 = oIl 4 7 := rfl
theorem r218_5 : zr 218 5 [v0, v1, v2, v3, .int x4] st u P = zr 218 7 [v0, v1, v2, v3, .int x4] (.int x4 :: st) u P := zr_Il k218_5 rfl
theorem k218_7 : xcd 218 7 = oAl 0 8 := rfl
theorem r218_7 : zr 218 7 [.ref a0, v1, v2, v3, v4] st u P = zr 218 8 [.ref a0, v1, v2, v3, v4] (.ref a0 :: st) u P := zr_Al k218_7 rfl
theorem k218_8 : xcd 218 8 = oGR 11 3 11 := rfl
theorem r218_8 : zr 218 8 [v0, v1, v2, v3, v4] (.ref b1 :: st) u P = (xIs u b1 11 ∧ ∃ b, xR u b1 3 = some b ∧ zr 218 11 [v0, v1, v2, v3, v4] (.ref b :: st) u P) := zr_GR k218_8
theorem k218_11 : xcd 218 11 = oI 4 12 := rfl
theorem r218_11 : zr 218 11 [v0, v1, v2, v3, v4] st u P = zr 218 12 [v0, v1, v2, v3, v4] (.int 4 :: st) u P := zr_I k218_11
theorem k218_12 : xcd 218 12 = oLd 13 13 := rfl
theorem r218_12 : zr 218 12 [v0, v1, v2, v3, v4] (.int y1 :: .ref b1 :: st) u P = ((xIs u b1 13 ∧ xinb y1 (xN u b1)) ∧ zr 218 13 [v0, v1, v2, v3, v4] (.int (xI u b1 (xix y1)) :: st) u P) := zr_Ld k218_12
theorem k218_13 : xcd 218 13 = oCmp (fun x y => decide (y ≤ x)) 55 16 := rfl
theorem r218_13 : zr 218 13 [v0, v1, v2, v3, v4] (.int y1 :: .int y2 :: st) u P = (if y1 ≤ y2 then zr 218 55 [v0, v1, v2, v3, v4] st u P else zr 218 16 [v0, v1, v2, v3, v4] st u P) := zr_Cmp k218_13
theorem k218_16 : xcd 218 16 = oAl 0 17 := rfl
theorem r218_16 : zr 218 16 [.ref a0, v1, v2, v3, v4] st u P = zr 218 17 [.ref a0, v1, v2, v3, v4] (.ref a0 :: st) u P := zr_Al k218_16 rfl
theorem k218_17 : xcd 218 17 = oGR 11 3 20 := rfl
theorem r218_17 : zr 218 17 [v0, v1, v2, v3, v4] (.ref b1 :: st) u P = (xIs u b1 11 ∧ ∃ b, xR u b1 3 = some b ∧ zr 218 20 [v0, v1, v2, v3, v4] (.ref b :: st) u P) := zr_GR k218_17
theorem k218_20 : xcd 218 20 = oIl 4 22 := rfl
theorem r218_20 : zr 218 20 [v0, v1, v2, v3, .int x4] st u P = zr 218 22 [v0, v1, v2, v3, .int x4] (.int x4 :: st) u P := zr_Il k218_20 rfl
theorem k218_22 : xcd 218 22 = oCal 199 1 25 := rfl
theorem r218_22 : zr 218 22 [v0, v1, v2, v3, v4] (.int y1 :: st) u P = (xcat st ≤ 8 ∧ zr 199 0 [.int y1] [] u (fun r u2 => zr 218 25 [v0, v1, v2, v3, v4] (r.toList ++ st) u2 P)) := zr_CS k218_22 (Nat.le_add_left _ _) rfl rfl ⟨Nat.le_of_ble_eq_true rfl, Nat.succ_ne_zero _, by decide⟩ rfl
theorem k218_25 : xcd 218 25 = oLd 13 26 := rfl
theorem r218_25 : zr 218 25 [v0, v1, v2, v3, v4] (.int y1 :: .ref b1 :: st) u P = ((xIs u b1 13 ∧ xinb y1 (xN u b1)) ∧ zr 218 26 [v0, v1, v2, v3, v4] (.int (xI u b1 (xix y1)) :: st) u P) := zr_Ld k218_25
theorem k218_26 : xcd 218 26 = oIl 1 27 := rfl
theorem r218_26 : zr 218 26 [v0, .int x1, v2, v3, v4] st u P = zr 218 27 [v0, .int x1, v2, v3, v4] (.int x1 :: st) u P := zr_Il k218_26 rfl
theorem k218_27 : xcd 218 27 = oCmp (fun x y => decide (¬ x = y)) 49 30 := rfl
theorem r218_27 : zr 218 27 [v0, v1, v2, v3, v4] (.int y1 :: .int y2 :: st) u P = (if ¬ y2 = y1 then zr 218 49 [v0, v1, v2, v3, v4] st u P else zr 218 30 [v0, v1, v2, v3, v4] st u P) := zr_Cmp k218_27
theorem k218_30 : xcd 218 30 = oAl 0 31 := rfl
theorem r218_30 : zr 218 30 [.ref a0, v1, v2, v3, v4] st u P = zr 218 31 [.ref a0, v1, v2, v3, v4] (.ref a0 :: st) u P := zr_Al k218_30 rfl
theorem k218_31 : xcd 218 31 = oGR 11 3 34 := rfl
theorem r218_31 : zr 218 31 [v0, v1, v2, v3, v4] (.ref b1 :: st) u P = (xIs u b1 11 ∧ ∃ b, xR u b1 3 = some b ∧ zr 218 34 [v0, v1, v2, v3, v4] (.ref b :: st) u P) := zr_GR k218_31
theorem k218_34 : xcd 218 34 = oIl 4 36 := rfl
theorem r218_34 : zr 218 34 [v0, v1, v2, v3, .int x4] st u P = zr 218 36 [v0, v1, v2, v3, .int x4] (.int x4 :: st) u P := zr_Il k218_34 rfl
theorem k218_36 : xcd 218 36 = oCal 199 1 39 := rfl
theorem r218_36 : zr 218 36 [v0, v1, v2, v3, v4] (.int y1 :: st) u P = (xcat st ≤ 8 ∧ zr 199 0 [.int y1] [] u (fun r u2 => zr 218 39 [v0, v1, v2, v3, v4] (r.toList ++ st) u2 P)) := zr_CS k218_36 (Nat.le_add_left _ _) rfl rfl ⟨Nat.le_of_ble_eq_true rfl, Nat.succ_ne_zero _, by decide⟩ rfl
theorem k218_39 : xcd 218 39 = oI 1 40 := rfl
theorem r218_39 : zr 218 39 [v0, v1, v2, v3, v4] st u P = zr 218 40 [v0, v1, v2, v3, v4] (.int 1 :: st) u P := zr_I k218_39
theorem k218_40 : xcd 218 40 = oB (fun x y => x + y) 41 := rfl
theorem r218_40 : zr 218 40 [v0, v1, v2, v3, v4] (.int y1 :: .int y2 :: st) u P = zr 218 41 [v0, v1, v2, v3, v4] (.int (y2 + y1) :: st) u P := zr_B k218_40
theorem k218_41 : xcd 218 41 = oLd 13 42 := rfl
theorem r218_41 : zr 218 41 [v0, v1, v2, v3, v4] (.int y1 :: .ref b1 :: st) u P = ((xIs u b1 13 ∧ xinb y1 (xN u b1)) ∧ zr 218 42 [v0, v1, v2, v3, v4] (.int (xI u b1 (xix y1)) :: st) u P) := zr_Ld k218_41
theorem k218_42 : xcd 218 42 = oIl 2 43 := rfl
theorem r218_42 : zr 218 42 [v0, v1, .int x2, v3, v4] st u P = zr 218 43 [v0, v1, .int x2, v3, v4] (.int x2 :: st) u P := zr_Il k218_42 rfl
theorem k218_43 : xcd 218 43 = oCmp (fun x y => decide (y < x)) 49 46 := rfl
theorem r218_43 : zr 218 43 [v0, v1, v2, v3, v4] (.int y1 :: .int y2 :: st) u P = (if y1 < y2 then zr 218 49 [v0, v1, v2, v3, v4] st u P else zr 218 46 [v0, v1, v2, v3, v4] st u P) := zr_Cmp k218_43
theorem k218_46 : xcd 218 46 = oIl 4 48 := rfl
theorem r218_46 : zr 218 46 [v0, v1, v2, v3, .int x4] st u P = zr 218 48 [v0, v1, v2, v3, .int x4] (.int x4 :: st) u P := zr_Il k218_46 rfl
theorem k218_48 : xcd 218 48 = oIs 3 49 := rfl
theorem r218_48 : zr 218 48 [v0, v1, .int x2, v3, v4] (.int y1 :: st) u P = zr 218 49 [v0, v1, .int x2, .int y1, v4] st u P := zr_Is k218_48 ⟨Nat.le_of_ble_eq_true rfl, rfl⟩
theorem k218_49 : xcd 218 49 = oInc 4 1 52 := rfl
theorem r218_49 : zr 218 49 [v0, v1, v2, .int x3, .int x4] st u P = zr 218 52 [v0, v1, v2, .int x3, .int (x4 + 1)] st u P := zr_Inc k218_49 rfl rfl
theorem k218_52 : xcd 218 52 = oGoto 5 := rfl
theorem r218_52 : zr 218 52 [v0, v1, v2, v3, v4] st u P = zr 218 5 [v0, v1, v2, v3, v4] st u P := zr_Goto k218_52
theorem k218_55 : xcd 218 55 = oIl 3 56 := rfl
theorem r218_55 : zr 218 55 [v0, v1, v2, .int x3, v4] st u P = zr 218 56 [v0, v1, v2, .int x3, v4] (.int x3 :: st) u P := zr_Il k218_55 rfl
theorem k218_56 : xcd 218 56 = oRi 0 := rfl
theorem r218_56 : zr 218 56 [v0, v1, v2, v3, v4] [.int y1] u P = P (some (.int y1)) u := zr_Ri k218_56
theorem k219_0 : xcd 219 0 = oAl 0 1 := rfl
theorem r219_0 : zr 219 0 [.ref a0, v1, v2, v3] st u P = zr 219 1 [.ref a0, v1, v2, v3] (.ref a0 :: st) u P := zr_Al k219_0 rfl
theorem k219_1 : xcd 219 1 = oIl 1 2 := rfl
theorem r219_1 : zr 219 1 [v0, .int x1, v2, v3] st u P = zr 219 2 [v0, .int x1, v2, v3] (.int x1 :: st) u P := zr_Il k219_1 rfl
theorem k219_2 : xcd 219 2 = oIl 2 3 := rfl
theorem r219_2 : zr 219 2 [v0, v1, .int x2, v3] st u P = zr 219 3 [v0, v1, .int x2, v3] (.int x2 :: st) u P := zr_Il k219_2 rfl
theorem k219_3 : xcd 219 3 = oCalV 11 218 2 6 := rfl
theorem r219_3 : zr 219 3 [v0, v1, v2, v3] (.int y2 :: .int y1 :: .ref b8 :: st) u P = ((xIs u b8 11 ∧ xcat st ≤ 8) ∧ zr 218 0 [.ref b8, .int y1, .int y2, .null, .null] [] u (fun r u2 => zr 219 6 [v0, v1, v2, v3] (r.toList ++ st) u2 P)) := zr_CV k219_3 rfl rfl rfl ⟨Nat.le_of_ble_eq_true rfl, Nat.succ_ne_zero _, by decide⟩ rfl
theorem k219_6 : xcd 219 6 = oIs 3 7 := rfl
theorem r219_6 : zr 219 6 [v0, v1, .int x2, v3] (.int y1 :: st) u P = zr 219 7 [v0, v1, .int x2, .int y1] st u P := zr_Is k219_6 ⟨Nat.le_of_ble_eq_true rfl, rfl⟩
theorem k219_7 : xcd 219 7 = oIl 3 8 := rfl
theorem r219_7 : zr 219 7 [v0, v1, v2, .int x3] st u P = zr 219 8 [v0, v1, v2, .int x3] (.int x3 :: st) u P := zr_Il k219_7 rfl
theorem k219_8 : xcd 219 8 = oI (-1) 9 := rfl
theorem r219_8 : zr 219 8 [v0, v1, v2, v3] st u P = zr 219 9 [v0, v1, v2, v3] (.int (-1) :: st) u P := zr_I k219_8
theorem k219_9 : xcd 219 9 = oCmp (fun x y => decide (¬ x = y)) 16 12 := rfl
theorem r219_9 : zr 219 9 [v0, v1, v2, v3] (.int y1 :: .int y2 :: st) u P = (if ¬ y2 = y1 then zr 219 16 [v0, v1, v2, v3] st u P else zr 219 12 [v0, v1, v2, v3] st u P) := zr_Cmp k219_9
theorem k219_12 : xcd 219 12 = oI 0 13 := rfl
theorem r219_12 : zr 219 12 [v0, v1, v2, v3] st u P = zr 219 13 [v0, v1, v2, v3] (.int 0 :: st) u P := zr_I k219_12
theorem k219_13 : xcd 219 13 = oGoto 27 := rfl
theorem r219_13 : zr 219 13 [v0, v1, v2, v3] st u P = zr 219 27 [v0, v1, v2, v3] st u P := zr_Goto k219_13
theorem k219_16 : xcd 219 16 = oAl 0 17 := rfl
theorem r219_16 : zr 219 16 [.ref a0, v1, v2, v3] st u P = zr 219 17 [.ref a0, v1, v2, v3] (.ref a0 :: st) u P := zr_Al k219_16 rfl
theorem k219_17 : xcd 219 17 = oGR 11 3 20 := rfl
theorem r219_17 : zr 219 17 [v0, v1, v2, v3] (.ref b1 :: st) u P = (xIs u b1 11 ∧ ∃ b, xR u b1 3 = some b ∧ zr 219 20 [v0, v1, v2, v3] (.ref b :: st) u P) := zr_GR k219_17
theorem k219_20 : xcd 219 20 = oIl 3 21 := rfl
theorem r219_20 : zr 219 20 [v0, v1, v2, .int x3] st u P = zr 219 21 [v0, v1, v2, .int x3] (.int x3 :: st) u P := zr_Il k219_20 rfl
theorem k219_21 : xcd 219 21 = oCal 199 1 24 := rfl
theorem r219_21 : zr 219 21 [v0, v1, v2, v3] (.int y1 :: st) u P = (xcat st ≤ 8 ∧ zr 199 0 [.int y1] [] u (fun r u2 => zr 219 24 [v0, v1, v2, v3] (r.toList ++ st) u2 P)) := zr_CS k219_21 (Nat.le_add_left _ _) rfl rfl ⟨Nat.le_of_ble_eq_true rfl, Nat.succ_ne_zero _, by decide⟩ rfl
theorem k219_24 : xcd 219 24 = oI 2 25 := rfl
theorem r219_24 : zr 219 24 [v0, v1, v2, v3] st u P = zr 219 25 [v0, v1, v2, v3] (.int 2 :: st) u P := zr_I k219_24
theorem k219_25 : xcd 219 25 = oB (fun x y => x + y) 26 := rfl
theorem r219_25 : zr 219 25 [v0, v1, v2, v3] (.int y1 :: .int y2 :: st) u P = zr 219 26 [v0, v1, v2, v3] (.int (y2 + y1) :: st) u P := zr_B k219_25
theorem k219_26 : xcd 219 26 = oLd 13 27 := rfl
theorem r219_26 : zr 219 26 [v0, v1, v2, v3] (.int y1 :: .ref b1 :: st) u P = ((xIs u b1 13 ∧ xinb y1 (xN u b1)) ∧ zr 219 27 [v0, v1, v2, v3] (.int (xI u b1 (xix y1)) :: st) u P) := zr_Ld k219_26
theorem k219_27 : xcd 219 27 = oRi 0 := rfl
theorem r219_27 : zr 219 27 [v0, v1, v2, v3] [.int y1] u P = P (some (.int y1)) u := zr_Ri k219_27
theorem k220_0 : xcd 220 0 = oAl 0 1 := rfl
theorem r220_0 : zr 220 0 [.ref a0, v1, v2] st u P = zr 220 1 [.ref a0, v1, v2] (.ref a0 :: st) u P := zr_Al k220_0 rfl
theorem k220_1 : xcd 220 1 = oGR 11 3 4 := rfl
theorem r220_1 : zr 220 1 [v0, v1, v2] (.ref b1 :: st) u P = (xIs u b1 11 ∧ ∃ b, xR u b1 3 = some b ∧ zr 220 4 [v0, v1, v2] (.ref b :: st) u P) := zr_GR k220_1
theorem k220_4 : xcd 220 4 = oIl 1 5 := rfl
theorem r220_4 : zr 220 4 [v0, .int x1, v2] st u P = zr 220 5 [v0, .int x1, v2] (.int x1 :: st) u P := zr_Il k220_4 rfl
theorem k220_5 : xcd 220 5 = oCal 199 1 8 := rfl
theorem r220_5 : zr 220 5 [v0, v1, v2] (.int y1 :: st) u P = (xcat st ≤ 8 ∧ zr 199 0 [.int y1] [] u (fun r u2 => zr 220 8 [v0, v1, v2] (r.toList ++ st) u2 P)) := zr_CS k220_5 (Nat.le_add_left _ _) rfl rfl ⟨Nat.le_of_ble_eq_true rfl, Nat.succ_ne_zero _, by decide⟩ rfl
theorem k220_8 : xcd 220 8 = oI 3 9 := rfl
theorem r220_8 : zr 220 8 [v0, v1, v2] st u P = zr 220 9 [v0, v1, v2] (.int 3 :: st) u P := zr_I k220_8
theorem k220_9 : xcd 220 9 = oB (fun x y => x + y) 10 := rfl
theorem r220_9 : zr 220 9 [v0, v1, v2] (.int y1 :: .int y2 :: st) u P = zr 220 10 [v0, v1, v2] (.int (y2 + y1) :: st) u P := zr_B k220_9
theorem k220_10 : xcd 220 10 = oI 2 11 := rfl
theorem r220_10 : zr 220 10 [v0, v1, v2] st u P = zr 220 11 [v0, v1, v2] (.int 2 :: st) u P := zr_I k220_10
theorem k220_11 : xcd 220 11 = oIl 2 12 := rfl
theorem r220_11 : zr 220 11 [v0, v1, .int x2] st u P = zr 220 12 [v0, v1, .int x2] (.int x2 :: st) u P := zr_Il k220_11 rfl
theorem k220_12 : xcd 220 12 = oB (fun x y => x * y) 13 := rfl
theorem r220_12 : zr 220 12 [v0, v1, v2] (.int y1 :: .int y2 :: st) u P = zr 220 13 [v0, v1, v2] (.int (y2 * y1) :: st) u P := zr_B k220_12
theorem k220_13 : xcd 220 13 = oB (fun x y => x + y) 14 := rfl
theorem r220_13 : zr 220 13 [v0, v1, v2] (.int y1 :: .int y2 :: st) u P = zr 220 14 [v0, v1, v2] (.int (y2 + y1) :: st) u P := zr_B k220_13
theorem k220_14 : xcd 220 14 = oLd 13 15 := rfl
theorem r220_14 : zr 220 14 [v0, v1, v2] (.int y1 :: .ref b1 :: st) u P = ((xIs u b1 13 ∧ xinb y1 (xN u b1)) ∧ zr 220 15 [v0, v1, v2] (.int (xI u b1 (xix y1)) :: st) u P) := zr_Ld k220_14
theorem k220_15 : xcd 220 15 = oRi 0 := rfl
theorem r220_15 : zr 220 15 [v0, v1, v2] [.int y1] u P = P (some (.int y1)) u := zr_Ri k220_15
theorem k221_0 : xcd 221 0 = oAl 0 1 := rfl
theorem r221_0 : zr 221 0 [.ref a0, v1, v2] st u P = zr 221 1 [.ref a0, v1, v2] (.ref a0 :: st) u P := zr_Al k221_0 rfl
theorem k221_1 : xcd 221 1 = oGR 11 3 4 := rfl
theorem r221_1 : zr 221 1 [v0, v1, v2] (.ref b1 :: st) u P = (xIs u b1 11 ∧ ∃ b, xR u b1 3 = some b ∧ zr 221 4 [v0, v1, v2] (.ref b :: st) u P) := zr_GR k221_1
theorem k221_4 : xcd 221 4 = oIl 1 5 := rfl
theorem r221_4 : zr 221 4 [v0, .int x1, v2] st u P = zr 221 5 [v0, .int x1, v2] (.int x1 :: st) u P := zr_Il k221_4 rfl
theorem k221_5 : xcd 221 5 = oCal 199 1 8 := rfl
theorem r221_5 : zr 221 5 [v0, v1, v2] (.int y1 :: st) u P = (xcat st ≤ 8 ∧ zr 199 0 [.int y1] [] u (fun r u2 => zr 221 8 [v0, v1, v2] (r.toList ++ st) u2 P)) := zr_CS k221_5 (Nat.le_add_left _ _) rfl rfl ⟨Nat.le_of_ble_eq_true rfl, Nat.succ_ne_zero _, by decide⟩ rfl
theorem k221_8 : xcd 221 8 = oI 4 9 := rfl
theorem r221_8 : zr 221 8 [v0, v1, v2] st u P = zr 221 9 [v0, v1, v2] (.int 4 :: st) u P := zr_I k221_8
theorem k221_9 : xcd 221 9 = oB (fun x y => x + y) 10 := rfl
theorem r221_9 : zr 221 9 [v0, v1, v2] (.int y1 :: .int y2 :: st) u P = zr 221 10 [v0, v1, v2] (.int (y2 + y1) :: st) u P := zr_B k221_9
theorem k221_10 : xcd 221 10 = oI 2 11 := rfl
theorem r221_10 : zr 221 10 [v0, v1, v2] st u P = zr 221 11 [v0, v1, v2] (.int 2 :: st) u P := zr_I k221_10
theorem k221_11 : xcd 221 11 = oIl 2 12 := rfl
theorem r221_11 : zr 221 11 [v0, v1, .int x2] st u P = zr 221 12 [v0, v1, .int x2] (.int x2 :: st) u P := zr_Il k221_11 rfl
theorem k221_12 : xcd 221 12 = oB (fun x y => x * y) 13 := rfl
theorem r221_12 : zr 221 12 [v0, v1, v2] (.int y1 :: .int y2 :: st) u P = zr 221 13 [v0, v1, v2] (.int (y2 * y1) :: st) u P := zr_B k221_12
theorem k221_13 : xcd 221 13 = oB (fun x y => x + y) 14 := rfl
theorem r221_13 : zr 221 13 [v0, v1, v2] (.int y1 :: .int y2 :: st) u P = zr 221 14 [v0, v1, v2] (.int (y2 + y1) :: st) u P := zr_B k221_13
theorem k221_14 : xcd 221 14 = oLd 13 15 := rfl
theorem r221_14 : zr 221 14 [v0, v1, v2] (.int y1 :: .ref b1 :: st) u P = ((xIs u b1 13 ∧ xinb y1 (xN u b1)) ∧ zr 221 15 [v0, v1, v2] (.int (xI u b1 (xix y1)) :: st) u P) := zr_Ld k221_14
theorem k221_15 : xcd 221 15 = oRi 0 := rfl
theorem r221_15 : zr 221 15 [v0, v1, v2] [.int y1] u P = P (some (.int y1)) u := zr_Ri k221_15
theorem k222_0 : xcd 222 0 = oIl 0 1 := rfl
theorem r222_0 : zr 222 0 [.int x0] st u P = zr 222 1 [.int x0] (.int x0 :: st) u P := zr_Il k222_0 rfl
theorem k222_1 : xcd 222 1 = oI 0 2 := rfl
theorem r222_1 : zr 222 1 [v0] st u P = zr 222 2 [v0] (.int 0 :: st) u P := zr_I k222_1
theorem k222_2 : xcd 222 2 = oI 999 5 := rfl
theorem r222_2 : zr 222 2 [v0] st u P = zr 222 5 [v0] (.int 999 :: st) u P := zr_I k222_2
theorem k222_5 : xcd 222 5 = oCal 175 3 8 := rfl
theorem r222_5 : zr 222 5 [v0] (.int y3 :: .int y2 :: .int y1 :: st) u P = (xcat st ≤ 8 ∧ zr 175 0 [.int y1, .int y2, .int y3] [] u (fun r u2 => zr 222 8 [v0] (r.toList ++ st) u2 P)) := zr_CS k222_5 (Nat.le_add_left _ _) rfl rfl ⟨Nat.le_of_ble_eq_true rfl, Nat.succ_ne_zero _, by decide⟩ rfl
theorem k222_8 : xcd 222 8 = oRz 0 := rfl
theorem r222_8 : zr 222 8 [v0] [.int y1] u P = ((y1 = 0 ∨ y1 = 1) ∧ P (some (.int y1)) u) := zr_Rz k222_8
theorem k223_0 : xcd 223 0 = oIl 1 1 := rfl
theorem r223_0 : zr 223 0 [v0, .int x1, v2] st u P = zr 223 1 [v0, .int x1, v2] (.int x1 :: st) u P := zr_Il k223_0 rfl
theorem k223_1 : xcd 223 1 = oI 0 2 := rfl
theorem r223_1 : zr 223 1 [v0, v1, v2] st u P = zr 223 2 [v0, v1, v2] (.int 0 :: st) u P := zr_I k223_1
theorem k223_2 : xcd 223 2 = oAl 0 3 := rfl
theorem r223_2 : zr 223 2 [.ref a0, v1, v2] st u P = zr 223 3 [.ref a0, v1, v2] (.ref a0 :: st) u P := zr_Al k223_2 rfl
theorem k223_3 : xcd 223 3 = oGR 11 3 6 := rfl
theorem r223_3 : zr 223 3 [v0, v1, v2] (.ref b1 :: st) u P = (xIs u b1 11 ∧ ∃ b, xR u b1 3 = some b ∧ zr 223 6 [v0, v1, v2] (.ref b :: st) u P) := zr_GR k223_3
theorem k223_6 : xcd 223 6 = oI 0 7 := rfl
theorem r223_6 : zr 223 6 [v0, v1, v2] st u P = zr 223 7 [v0, v1, v2] (.int 0 :: st) u P := zr_I k223_6
theorem k223_7 : xcd 223 7 = oLd 13 8 := rfl
theorem r223_7 : zr 223 7 [v0, v1, v2] (.int y1 :: .ref b1 :: st) u P = ((xIs u b1 13 ∧ xinb y1 (xN u b1)) ∧ zr 223 8 [v0, v1, v2] (.int (xI u b1 (xix y1)) :: st) u P) := zr_Ld k223_7
theorem k223_8 : xcd 223 8 = oCal 175 3 11 := rfl
theorem r223_8 : zr 223 8 [v0, v1, v2] (.int y3 :: .int y2 :: .int y1 :: st) u P = (xcat st ≤ 8 ∧ zr 175 0 [.int y1, .int y2, .int y3] [] u (fun r u2 => zr 223 11 [v0, v1, v2] (r.toList ++ st) u2 P)) := zr_CS k223_8 (Nat.le_add_left _ _) rfl rfl ⟨Nat.le_of_ble_eq_true rfl, Nat.succ_ne_zero _, by decide⟩ rfl
theorem k223_11 : xcd 223 11 = oIf (fun x => decide (x = 0)) 32 14 := rfl
theorem r223_11 : zr 223 11 [v0, v1, v2] (.int y1 :: st) u P = (if y1 = 0 then zr 223 32 [v0, v1, v2] st u P else zr 223 14 [v0, v1, v2] st u P) := zr_If k223_11
theorem k223_14 : xcd 223 14 = oIl 2 15 := rfl
theorem r223_14 : zr 223 14 [v0, v1, .int x2] st u P = zr 223 15 [v0, v1, .int x2] (.int x2 :: st) u P := zr_Il k223_14 rfl
theorem k223_15 : xcd 223 15 = oI 0 16 := rfl
theorem r223_15 : zr 223 15 [v0, v1, v2] st u P = zr 223 16 [v0, v1, v2] (.int 0 :: st) u P := zr_I k223_15
theorem k223_16 : xcd 223 16 = oAl 0 17 := rfl
theorem r223_16 : zr 223 16 [.ref a0, v1, v2] st u P = zr 223 17 [.ref a0, v1, v2] (.ref a0 :: st) u P := zr_Al k223_16 rfl
theorem k223_17 : xcd 223 17 = oGR 11 3 20 := rfl
theorem r223_17 : zr 223 17 [v0, v1, v2] (.ref b1 :: st) u P = (xIs u b1 11 ∧ ∃ b, xR u b1 3 = some b ∧ zr 223 20 [v0, v1, v2] (.ref b :: st) u P) := zr_GR k223_17
theorem k223_20 : xcd 223 20 = oI 0 21 := rfl
theorem r223_20 : zr 223 20 [v0, v1, v2] st u P = zr 223 21 [v0, v1, v2] (.int 0 :: st) u P := zr_I k223_20
theorem k223_21 : xcd 223 21 = oLd 13 22 := rfl
theorem r223_21 : zr 223 21 [v0, v1, v2] (.int y1 :: .ref b1 :: st) u P = ((xIs u b1 13 ∧ xinb y1 (xN u b1)) ∧ zr 223 22 [v0, v1, v2] (.int (xI u b1 (xix y1)) :: st) u P) := zr_Ld k223_21
theorem k223_22 : xcd 223 22 = oCal 175 3 25 := rfl
theorem r223_22 : zr 223 22 [v0, v1, v2] (.int y3 :: .int y2 :: .int y1 :: st) u P = (xcat st ≤ 8 ∧ zr 175 0 [.int y1, .int y2, .int y3] [] u (fun r u2 => zr 223 25 [v0, v1, v2] (r.toList ++ st) u2 P)) := zr_CS k223_22 (Nat.le_add_left _ _) rfl rfl ⟨Nat.le_of_ble_eq_true rfl, Nat.succ_ne_zero _, by decide⟩ rfl
theorem k223_25 : xcd 223 25 = oIf (fun x => decide (x = 0)) 32 28 := rfl
theorem r223_25 : zr 223 25 [v0, v1, v2] (.int y1 :: st) u P = (if y1 = 0 then zr 223 32 [v0, v1, v2] st u P else zr 223 28 [v0, v1, v2] st u P) := zr_If k223_25
theorem k223_28 : xcd 223 28 = oI 1 29 := rfl
theorem r223_28 : zr 223 28 [v0, v1, v2] st u P = zr 223 29 [v0, v1, v2] (.int 1 :: st) u P := zr_I k223_28
theorem k223_29 : xcd 223 29 = oGoto 33 := rfl
theorem r223_29 : zr 223 29 [v0, v1, v2] st u P = zr 223 33 [v0, v1, v2] st u P := zr_Goto k223_29
theorem k223_32 : xcd 223 32 = oI 0 33 := rfl
theorem r223_32 : zr 223 32 [v0, v1, v2] st u P = zr 223 33 [v0, v1, v2] (.int 0 :: st) u P := zr_I k223_32
theorem k223_33 : xcd 223 33 = oRz 0 := rfl
theorem r223_33 : zr 223 33 [v0, v1, v2] [.int y1] u P = ((y1 = 0 ∨ y1 = 1) ∧ P (some (.int y1)) u) := zr_Rz k223_33
theorem k224_0 : xcd 224 0 = oAl 0 1 := rfl
theorem r224_0 : zr 224 0 [.ref a0, v1, v2] st u P = zr 224 1 [.ref a0, v1, v2] (.ref a0 :: st) u P := zr_Al k224_0 rfl
theorem k224_1 : xcd 224 1 = oGI 11 7 4 := rfl
theorem r224_1 : zr 224 1 [v0, v1, v2] (.ref b1 :: st) u P = (xIs u b1 11 ∧ zr 224 4 [v0, v1, v2] (.int (xI u b1 7) :: st) u P) := zr_GI k224_1
theorem k224_4 : xcd 224 4 = oIf (fun x => decide (x = 0)) 11 7 := rfl
theorem r224_4 : zr 224 4 [v0, v1, v2] (.int y1 :: st) u P = (if y1 = 0 then zr 224 11 [v0, v1, v2] st u P else zr 224 7 [v0, v1, v2] st u P) := zr_If k224_4
theorem k224_7 : xcd 224 7 = oIl 1 8 := rfl
theorem r224_7 : zr 224 7 [v0, .int x1, v2] st u P = zr 224 8 [v0, .int x1, v2] (.int x1 :: st) u P := zr_Il k224_7 rfl
theorem k224_8 : xcd 224 8 = oIf (fun x => decide (¬ x = 0)) 15 11 := rfl
theorem r224_8 : zr 224 8 [v0, v1, v2] (.int y1 :: st) u P = (if ¬ y1 = 0 then zr 224 15 [v0, v1, v2] st u P else zr 224 11 [v0, v1, v2] st u P) := zr_If k224_8
theorem k224_11 : xcd 224 11 = oI 1 12 := rfl
theorem r224_11 : zr 224 11 [v0, v1, v2] st u P = zr 224 12 [v0, v1, v2] (.int 1 :: st) u P := zr_I k224_11
theorem k224_12 : xcd 224 12 = oGoto 27 := rfl
theorem r224_12 : zr 224 12 [v0, v1, v2] st u P = zr 224 27 [v0, v1, v2] st u P := zr_Goto k224_12
theorem k224_15 : xcd 224 15 = oIl 2 16 := rfl
theorem r224_15 : zr 224 15 [v0, v1, .int x2] st u P = zr 224 16 [v0, v1, .int x2] (.int x2 :: st) u P := zr_Il k224_15 rfl
theorem k224_16 : xcd 224 16 = oCal 222 1 19 := rfl
theorem r224_16 : zr 224 16 [v0, v1, v2] (.int y1 :: st) u P = (xcat st ≤ 8 ∧ zr 222 0 [.int y1] [] u (fun r u2 => zr 224 19 [v0, v1, v2] (r.toList ++ st) u2 P)) := zr_CS k224_16 (Nat.le_add_left _ _) rfl rfl ⟨Nat.le_of_ble_eq_true rfl, Nat.succ_ne_zero _, by decide⟩ rfl
theorem k224_19 : xcd 224 19 = oIf (fun x => decide (x = 0)) 26 22 := rfl
theorem r224_19 : zr 224 19 [v0, v1, v2] (.int y1 :: st) u P = (if y1 = 0 then zr 224 26 [v0, v1, v2] st u P else zr 224 22 [v0, v1, v2] st u P) := zr_If k224_19
theorem k224_22 : xcd 224 22 = oI 0 23 := rfl
theorem r224_22 : zr 224 22 [v0, v1, v2] st u P = zr 224 23 [v0, v1, v2] (.int 0 :: st) u P := zr_I k224_22
theorem k224_23 : xcd 224 23 = oGoto 27 := rfl
theorem r224_23 : zr 224 23 [v0, v1, v2] st u P = zr 224 27 [v0, v1, v2] st u P := zr_Goto k224_23
theorem k224_26 : xcd 224 26 = oI 2 27 := rfl
theorem r224_26 : zr 224 26 [v0, v1, v2] st u P = zr 224 27 [v0, v1, v2] (.int 2 :: st) u P := zr_I k224_26
theorem k224_27 : xcd 224 27 = oRi 0 := rfl
theorem r224_27 : zr 224 27 [v0, v1, v2] [.int y1] u P = P (some (.int y1)) u := zr_Ri k224_27
theorem k225_0 : xcd 225 0 = oAl 0 1 := rfl
theorem r225_0 : zr 225 0 [.ref a0, v1, v2, v3, v4, v5] st u P = zr 225 1 [.ref a0, v1, v2, v3, v4, v5] (.ref a0 :: st) u P := zr_Al k225_0 rfl
theorem k225_1 : xcd 225 1 = oIl 1 2 := rfl
theorem r225_1 : zr 225 1 [v0, .int x1, v2, v3, v4, v5] st u P = zr 225 2 [v0, .int x1, v2, v3, v4, v5] (.int x1 :: st) u P := zr_Il k225_1 rfl
theorem k225_2 : xcd 225 2 = oIl 2 3 := rfl
theorem r225_2 : zr 225 2 [v0, v1, .int x2, v3, v4, v5] st u P = zr 225 3 [v0, v1, .int x2, v3, v4, v5] (.int x2 :: st) u P := zr_Il k225_2 rfl
theorem k225_3 : xcd 225 3 = oCalV 11 224 2 6 := rfl
theorem r225_3 : zr 225 3 [v0, v1, v2, v3, v4, v5] (.int y2 :: .int y1 :: .ref b8 :: st) u P = ((xIs u b8 11 ∧ xcat st ≤ 8) ∧ zr 224 0 [.ref b8, .int y1, .int y2] [] u (fun r u2 => zr 225 6 [v0, v1, v2, v3, v4, v5] (r.toList ++ st) u2 P)) := zr_CV k225_3 rfl rfl rfl ⟨Nat.le_of_ble_eq_true rfl, Nat.succ_ne_zero _, by decide⟩ rfl
theorem k225_6 : xcd 225 6 = oIs 5 8 := rfl
theorem r225_6 : zr 225 6 [v0, v1, v2, v3, .int x4, v5] (.int y1 :: st) u P = zr 225 8 [v0, v1, v2, v3, .int x4, .int y1] st u P := zr_Is k225_6 ⟨Nat.le_of_ble_eq_true rfl, rfl⟩
theorem k225_8 : xcd 225 8 = oIl 5 10 := rfl
theorem r225_8 : zr 225 8 [v0, v1, v2, v3, v4, .int x5] st u P = zr 225 10 [v0, v1, v2, v3, v4, .int x5] (.int x5 :: st) u P := zr_Il k225_8 rfl
theorem k225_10 : xcd 225 10 = oIf (fun x => decide (¬ x = 0)) 27 13 := rfl
theorem r225_10 : zr 225 10 [v0, v1, v2, v3, v4, v5] (.int y1 :: st) u P = (if ¬ y1 = 0 then zr 225 27 [v0, v1, v2, v3, v4, v5] st u P else zr 225 13 [v0, v1, v2, v3, v4, v5] st u P) := zr_If k225_10
theorem k225_13 : xcd 225 13 = oAl 0 14 := rfl
theorem r225_13 : zr 225 13 [.ref a0, v1, v2, v3, v4, v5] st u P = zr 225 14 [.ref a0, v1, v2, v3, v4, v5] (.ref a0 :: st) u P := zr_Al k225_13 rfl
theorem k225_14 : xcd 225 14 = oIl 3 15 := rfl
theorem r225_14 : zr 225 14 [v0, v1, v2, .int x3, v4, v5] st u P = zr 225 15 [v0, v1, v2, .int x3, v4, v5] (.int x3 :: st) u P := zr_Il k225_14 rfl
theorem k225_15 : xcd 225 15 = oIl 4 17 := rfl
theorem r225_15 : zr 225 15 [v0, v1, v2, v3, .int x4, v5] st u P = zr 225 17 [v0, v1, v2, v3, .int x4, v5] (.int x4 :: st) u P := zr_Il k225_15 rfl
theorem k225_17 : xcd 225 17 = oCalV 11 223 2 20 := rfl
theorem r225_17 : zr 225 17 [v0, v1, v2, v3, v4, v5] (.int y2 :: .int y1 :: .ref b8 :: st) u P = ((xIs u b8 11 ∧ xcat st ≤ 8) ∧ zr 223 0 [.ref b8, .int y1, .int y2] [] u (fun r u2 => zr 225 20 [v0, v1, v2, v3, v4, v5] (r.toList ++ st) u2 P)) := zr_CV k225_17 rfl rfl rfl ⟨Nat.le_of_ble_eq_true rfl, Nat.succ_ne_zero _, by decide⟩ rfl
theorem k225_20 : xcd 225 20 = oIf (fun x => decide (¬ x = 0)) 27 23 := rfl
theorem r225_20 : zr 225 20 [v0, v1, v2, v3, v4, v5] (.int y1 :: st) u P = (if ¬ y1 = 0 then zr 225 27 [v0, v1, v2, v3, v4, v5] st u P else zr 225 23 [v0, v1, v2, v3, v4, v5] st u P) := zr_If k225_20
theorem k225_23 : xcd 225 23 = oI 2 24 := rfl
theorem r225_23 : zr 225 23 [v0, v1, v2, v3, v4, v5] st u P = zr 225 24 [v0, v1, v2, v3, v4, v5] (.int 2 :: st) u P := zr_I k225_23
theorem k225_24 : xcd 225 24 = oGoto 29 := rfl
theorem r225_24 : zr 225 24 [v0, v1, v2, v3, v4, v5] st u P = zr 225 29 [v0, v1, v2, v3, v4, v5] st u P := zr_Goto k225_24
theorem k225_27 : xcd 225 27 = oIl 5 29 := rfl
theorem r225_27 : zr 225 27 [v0, v1, v2, v3, v4, .int x5] st u P = zr 225 29 [v0, v1, v2, v3, v4, .int x5] (.int x5 :: st) u P := zr_Il k225_27 rfl
theorem k225_29 : xcd 225 29 = oRi 0 := rfl
theorem r225_29 : zr 225 29 [v0, v1, v2, v3, v4, v5] [.int y1] u P = P (some (.int y1)) u := zr_Ri k225_29
theorem k226_0 : xcd 226 0 = oAl 0 1 := rfl
theorem r226_0 : zr 226 0 [.ref a0, v1, v2, v3] st u P = zr 226 1 [.ref a0, v1, v2, v3] (.ref a0 :: st) u P := zr_Al k226_0 rfl
theorem k226_1 : xcd 226 1 = oI 0 2 := rfl
theorem r226_1 : zr 226 1 [v0, v1, v2, v3] st u P = zr 226 2 [v0, v1, v2, v3] (.int 0 :: st) u P := zr_I k226_1
theorem k226_2 : xcd 226 2 = oPI 11 0 5 := rfl
theorem r226_2 : zr 226 2 [v0, v1, v2, v3] (.int y1 :: .ref b1 :: st) u P = (xIs u b1 11 ∧ zr 226 5 [v0, v1, v2, v3] st (xsI u b1 0 y1) P) := zr_PI k226_2
theorem k226_5 : xcd 226 5 = oAl 0 6 := rfl
theorem r226_5 : zr 226 5 [.ref a0, v1, v2, v3] st u P = zr 226 6 [.ref a0, v1, v2, v3] (.ref a0 :: st) u P := zr_Al k226_5 rfl
theorem k226_6 : xcd 226 6 = oAl 0 7 := rfl
theorem r226_6 : zr 226 6 [.ref a0, v1, v2, v3] st u P = zr 226 7 [.ref a0, v1, v2, v3] (.ref a0 :: st) u P := zr_Al k226_6 rfl
theorem k226_7 : xcd 226 7 = oIl 1 8 := rfl
theorem r226_7 : zr 226 7 [v0, .int x1, v2, v3] st u P = zr 226 8 [v0, .int x1, v2, v3] (.int x1 :: st) u P := zr_Il k226_7 rfl
theorem k226_8 : xcd 226 8 = oCalV 11 214 1 11 := rfl
theorem r226_8 : zr 226 8 [v0, v1, v2, v3] (.int y1 :: .ref b8 :: st) u P = ((xIs u b8 11 ∧ xcat st ≤ 8) ∧ zr 214 0 [.ref b8, .int y1] [] u (fun r u2 => zr 226 11 [v0, v1, v2, v3] (r.toList ++ st) u2 P)) := zr_CV k226_8 rfl rfl rfl ⟨Nat.le_of_ble_eq_true rfl, Nat.succ_ne_zero _, by decide⟩ rfl
theorem k226_11 : xcd 226 11 = oIl 2 12 := rfl
theorem r226_11 : zr 226 11 [v0, v1, .int x2, v3] st u P = zr 226 12 [v0, v1, .int x2, v3] (.int x2 :: st) u P := zr_Il k226_11 rfl
theorem k226_12 : xcd 226 12 = oCalV 11 224 2 15 := rfl
theorem r226_12 : zr 226 12 [v0, v1, v2, v3] (.int y2 :: .int y1 :: .ref b8 :: st) u P = ((xIs u b8 11 ∧ xcat st ≤ 8) ∧ zr 224 0 [.ref b8, .int y1, .int y2] [] u (fun r u2 => zr 226 15 [v0, v1, v2, v3] (r.toList ++ st) u2 P)) := zr_CV k226_12 rfl rfl rfl ⟨Nat.le_of_ble_eq_true rfl, Nat.succ_ne_zero _, by decide⟩ rfl
theorem k226_15 : xcd 226 15 = oIs 3 16 := rfl
theorem r226_15 : zr 226 15 [v0, v1, .int x2, v3] (.int y1 :: st) u P = zr 226 16 [v0, v1, .int x2, .int y1] st u P := zr_Is k226_15 ⟨Nat.le_of_ble_eq_true rfl, rfl⟩
theorem k226_16 : xcd 226 16 = oIl 3 17 := rfl
theorem r226_16 : zr 226 16 [v0, v1, v2, .int x3] st u P = zr 226 17 [v0, v1, v2, .int x3] (.int x3 :: st) u P := zr_Il k226_16 rfl
theorem k226_17 : xcd 226 17 = oIf (fun x => decide (x ≤ 0)) 28 20 := rfl
theorem r226_17 : zr 226 17 [v0, v1, v2, v3] (.int y1 :: st) u P = (if y1 ≤ 0 then zr 226 28 [v0, v1, v2, v3] st u P else zr 226 20 [v0, v1, v2, v3] st u P) := zr_If k226_17
theorem k226_20 : xcd 226 20 = oAl 0 21 := rfl
theorem r226_20 : zr 226 20 [.ref a0, v1, v2, v3] st u P = zr 226 21 [.ref a0, v1, v2, v3] (.ref a0 :: st) u P := zr_Al k226_20 rfl
theorem k226_21 : xcd 226 21 = oIl 3 22 := rfl
theorem r226_21 : zr 226 21 [v0, v1, v2, .int x3] st u P = zr 226 22 [v0, v1, v2, .int x3] (.int x3 :: st) u P := zr_Il k226_21 rfl
theorem k226_22 : xcd 226 22 = oCalV 11 172 1 25 := rfl
theorem r226_22 : zr 226 22 [v0, v1, v2, v3] (.int y1 :: .ref b8 :: st) u P = ((xIs u b8 11 ∧ xcat st ≤ 8) ∧ zr 172 0 [.ref b8, .int y1] [] u (fun r u2 => zr 226 25 [v0, v1, v2, v3] (r.toList ++ st) u2 P)) := zr_CV k226_22 rfl rfl rfl ⟨Nat.le_of_ble_eq_true rfl, Nat.succ_ne_zero _, by decide⟩ rfl
theorem k226_25 : xcd 226 25 = oGoto 38 := rfl
theorem r226_25 : zr 226 25 [v0, v1, v2, v3] st u P = zr 226 38 [v0, v1, v2, v3] st u P := zr_Goto k226_25
theorem k226_28 : xcd 226 28 = oAl 0 29 := rfl
theorem r226_28 : zr 226 28 [.ref a0, v1, v2, v3] st u P = zr 226 29 [.ref a0, v1, v2, v3] (.ref a0 :: st) u P := zr_Al k226_28 rfl
theorem k226_29 : xcd 226 29 = oAl 0 30 := rfl
theorem r226_29 : zr 226 29 [.ref a0, v1, v2, v3] st u P = zr 226 30 [.ref a0, v1, v2, v3] (.ref a0 :: st) u P := zr_Al k226_29 rfl
theorem k226_30 : xcd 226 30 = oIl 1 31 := rfl
theorem r226_30 : zr 226 30 [v0, .int x1, v2, v3] st u P = zr 226 31 [v0, .int x1, v2, v3] (.int x1 :: st) u P := zr_Il k226_30 rfl
theorem k226_31 : xcd 226 31 = oIl 2 32 := rfl
theorem r226_31 : zr 226 31 [v0, v1, .int x2, v3] st u P = zr 226 32 [v0, v1, .int x2, v3] (.int x2 :: st) u P := zr_Il k226_31 rfl
theorem k226_32 : xcd 226 32 = oCalV 11 219 2 35 := rfl
theorem r226_32 : zr 226 32 [v0, v1, v2, v3] (.int y2 :: .int y1 :: .ref b8 :: st) u P = ((xIs u b8 11 ∧ xcat st ≤ 8) ∧ zr 219 0 [.ref b8, .int y1, .int y2, .null] [] u (fun r u2 => zr 226 35 [v0, v1, v2, v3] (r.toList ++ st) u2 P)) := zr_CV k226_32 rfl rfl rfl ⟨Nat.le_of_ble_eq_true rfl, Nat.succ_ne_zero _, by decide⟩ rfl
theorem k226_35 : xcd 226 35 = oCalV 11 174 1 38 := rfl
theorem r226_35 : zr 226 35 [v0, v1, v2, v3] (.int y1 :: .ref b8 :: st) u P = ((xIs u b8 11 ∧ xcat st ≤ 8) ∧ zr 174 0 [.ref b8, .int y1] [] u (fun r u2 => zr 226 38 [v0, v1, v2, v3] (r.toList ++ st) u2 P)) := zr_CV k226_35 rfl rfl rfl ⟨Nat.le_of_ble_eq_true rfl, Nat.succ_ne_zero _, by decide⟩ rfl
theorem k226_38 : xcd 226 38 = oRi 0 := rfl
theorem r226_38 : zr 226 38 [v0, v1, v2, v3] [.int y1] u P = P (some (.int y1)) u := zr_Ri k226_38
theorem k227_0 : xcd 227 0 = oAl 0 1 := rfl
theorem r227_0 : zr 227 0 [.ref a0, v1, v2, v3, v4, v5, v6] st u P = zr 227 1 [.ref a0, v1, v2, v3, v4, v5, v6] (.ref a0 :: st) u P := zr_Al k227_0 rfl
theorem k227_1 : xcd 227 1 = oI 0 2 := rfl
theorem r227_1 : zr 227 1 [v0, v1, v2, v3, v4, v5, v6] st u P = zr 227 2 [v0, v1, v2, v3, v4, v5, v6] (.int 0 :: st) u P := zr_I k227_1
theorem k227_2 : xcd 227 2 = oPI 11 0 5 := rfl
theorem r227_2 : zr 227 2 [v0, v1, v2, v3, v4, v5, v6] (.int y1 :: .ref b1 :: st) u P = (xIs u b1 11 ∧ zr 227 5 [v0, v1, v2, v3, v4, v5, v6] st (xsI u b1 0 y1) P) := zr_PI k227_2
theorem k227_5 : xcd 227 5 = oAl 0 6 := rfl
theorem r227_5 : zr 227 5 [.ref a0, v1, v2, v3, v4, v5, v6] st u P = zr 227 6 [.ref a0, v1, v2, v3, v4, v5, v6] (.ref a0 :: st) u P := zr_Al k227_5 rfl
theorem k227_6 : xcd 227 6 = oAl 0 7 := rfl
theorem r227_6 : zr 227 6 [.ref a0, v1, v2, v3, v4, v5, v6] st u P = zr 227 7 [.ref a0, v1, v2, v3, v4, v5, v6] (.ref a0 :: st) u P := zr_Al k227_6 rfl
theorem k227_7 : xcd 227 7 = oIl 1 8 := rfl
theorem r227_7 : zr 227 7 [v0, .int x1, v2, v3, v4, v5, v6] st u P = zr 227 8 [v0, .int x1, v2, v3, v4, v5, v6] (.int x1 :: st) u P := zr_Il k227_7 rfl
theorem k227_8 : xcd 227 8 = oCalV 11 214 1 11 := rfl
theorem r227_8 : zr 227 8 [v0, v1, v2, v3, v4, v5, v6] (.int y1 :: .ref b8 :: st) u P = ((xIs u b8 11 ∧ xcat st ≤ 8) ∧ zr 214 0 [.ref b8, .int y1] [] u (fun r u2 => zr 227 11 [v0, v1, v2, v3, v4, v5, v6] (r.toList ++ st) u2 P)) := zr_CV k227_8 rfl rfl rfl ⟨Nat.le_of_ble_eq_true rfl, Nat.succ_ne_zero _, by decide⟩ rfl
theorem k227_11 : xcd 227 11 = oIf (fun x => decide (x = 0)) 28 14 := rfl
theorem r227_11 : zr 227 11 [v0, v1, v2, v3, v4, v5, v6] (.int y1 :: st) u P = (if y1 = 0 then zr 227 28 [v0, v1, v2, v3, v4, v5, v6] st u P else zr 227 14 [v0, v1, v2, v3, v4, v5, v6] st u P) := zr_If k227_11
theorem k227_14 : xcd 227 14 = oIl 4 16 := rfl
theorem r227_14 : zr 227 14 [v0, v1, v2, v3, .int x4, v5, v6] st u P = zr 227 16 [v0, v1, v2, v3, .int x4, v5, v6] (.int x4 :: st) u P := zr_Il k227_14 rfl
theorem k227_16 : xcd 227 16 = oI 0 17 := rfl
theorem r227_16 : zr 227 16 [v0, v1, v2, v3, v4, v5, v6] st u P = zr 227 17 [v0, v1, v2, v3, v4, v5, v6] (.int 0 :: st) u P := zr_I k227_16
theorem k227_17 : xcd 227 17 = oI 1 18 := rfl
theorem r227_17 : zr 227 17 [v0, v1, v2, v3, v4, v5, v6] st u P = zr 227 18 [v0, v1, v2, v3, v4, v5, v6] (.int 1 :: st) u P := zr_I k227_17
theorem k227_18 : xcd 227 18 = oCal 175 3 21 := rfl
theorem r227_18 : zr 227 18 [v0, v1, v2, v3, v4, v5, v6] (.int y3 :: .int y2 :: .int y1 :: st) u P = (xcat st ≤ 8 ∧ zr 175 0 [.int y1, .int y2, .int y3] [] u (fun r u2 => zr 227 21 [v0, v1, v2, v3, v4, v5, v6] (r.toList ++ st) u2 P)) := zr_CS k227_18 (Nat.le_add_left _ _) rfl rfl ⟨Nat.le_of_ble_eq_true rfl, Nat.succ_ne_zero _, by decide⟩ rfl
theorem k227_21 : xcd 227 21 = oIf (fun x => decide (x = 0)) 28 24 := rfl
theorem r227_21 : zr 227 21 [v0, v1, v2, v3, v4, v5, v6] (.int y1 :: st) u P = (if y1 = 0 then zr 227 28 [v0, v1, v2, v3, v4, v5, v6] st u P else zr 227 24 [v0, v1, v2, v3, v4, v5, v6] st u P) := zr_If k227_21
theorem k227_24 : xcd 227 24 = oI 1 25 := rfl
theorem r227_24 : zr 227 24 [v0, v1, v2, v3, v4, v5, v6] st u P = zr 227 25 [v0, v1, v2, v3, v4, v5, v6] (.int 1 :: st) u P := zr_I k227_24
theorem k227_25 : xcd 227 25 = oGoto 29 := rfl
theorem r227_25 : zr 227 25 [v0, v1, v2, v3, v4, v5, v6] st u P = zr 227 29 [v0, v1, v2, v3, v4, v5, v6] st u P := zr_Goto k227_25
theorem k227_28 : xcd 227 28 = oI 0 29 := rfl
theorem r227_28 : zr 227 28 [v0, v1, v2, v3, v4, v5, v6] st u P = zr 227 29 [v0, v1, v2, v3, v4, v5, v6] (.int 0 :: st) u P := zr_I k227_28
theorem k227_29 : xcd 227 29 = oIl 2 30 := rfl
theorem r227_29 : zr 227 29 [v0, v1, .int x2, v3, v4, v5, v6] st u P = zr 227 30 [v0, v1, .int x2, v3, v4, v5, v6] (.int x2 :: st) u P := zr_Il k227_29 rfl
theorem k227_30 : xcd 227 30 = oCalV 11 224 2 33 := rfl
theorem r227_30 : zr 227 30 [v0, v1, v2, v3, v4, v5, v6] (.int y2 :: .int y1 :: .ref b8 :: st) u P = ((xIs u b8 11 ∧ xcat st ≤ 8) ∧ zr 224 0 [.ref b8, .int y1, .int y2] [] u (fun r u2 => zr 227 33 [v0, v1, v2, v3, v4, v5, v6] (r.toList ++ st) u2 P)) := zr_CV k227_30 rfl rfl rfl ⟨Nat.le_of_ble_eq_true rfl, Nat.succ_ne_zero _, by decide⟩ rfl
theorem k227_33 : xcd 227 33 = oIs 5 35 := rfl
theorem r227_33 : zr 227 33 [v0, v1, v2, v3, .int x4, v5, v6] (.int y1 :: st) u P = zr 227 35 [v0, v1, v2, v3, .int x4, .int y1, v6] st u P := zr_Is k227_33 ⟨Nat.le_of_ble_eq_true rfl, rfl⟩
theorem k227_35 : xcd 227 35 = oIl 5 37 := rfl
theorem r227_35 : zr 227 35 [v0, v1, v2, v3, v4, .int x5, v6] st u P = zr 227 37 [v0, v1, v2, v3, v4, .int x5, v6] (.int x5 :: st) u P := zr_Il k227_35 rfl
theorem k227_37 : xcd 227 37 = oIf (fun x => decide (x ≤ 0)) 47 40 := rfl
theorem r227_37 : zr 227 37 [v0, v1, v2, v3, v4, v5, v6] (.int y1 :: st) u P = (if y1 ≤ 0 then zr 227 47 [v0, v1, v2, v3, v4, v5, v6] st u P else zr 227 40 [v0, v1, v2, v3, v4, v5, v6] st u P) := zr_If k227_37
theorem k227_40 : xcd 227 40 = oAl 0 41 := rfl
theorem r227_40 : zr 227 40 [.ref a0, v1, v2, v3, v4, v5, v6] st u P = zr 227 41 [.ref a0, v1, v2, v3, v4, v5, v6] (.ref a0 :: st) u P := zr_Al k227_40 rfl
theorem k227_41 : xcd 227 41 = oIl 5 43 := rfl
theorem r227_41 : zr 227 41 [v0, v1, v2, v3, v4, .int x5, v6] st u P = zr 227 43 [v0, v1, v2, v3, v4, .int x5, v6] (.int x5 :: st) u P := zr_Il k227_41 rfl
theorem k227_43 : xcd 227 43 = oCalV 11 172 1 46 := rfl
theorem r227_43 : zr 227 43 [v0, v1, v2, v3, v4, v5, v6] (.int y1 :: .ref b8 :: st) u P = ((xIs u b8 11 ∧ xcat st ≤ 8) ∧ zr 172 0 [.ref b8, .int y1] [] u (fun r u2 => zr 227 46 [v0, v1, v2, v3, v4, v5, v6] (r.toList ++ st) u2 P)) := zr_CV k227_43 rfl rfl rfl ⟨Nat.le_of_ble_eq_true rfl, Nat.succ_ne_zero _, by decide⟩ rfl
theorem k227_46 : xcd 227 46 = oRi 0 := rfl
theorem r227_46 : zr 227 46 [v0, v1, v2, v3, v4, v5, v6] [.int y1] u P = P (some (.int y1)) u := zr_Ri k227_46
theorem k227_47 : xcd 227 47 = oIl 3 48 := rfl
theorem r227_47 : zr 227 47 [v0, v1, v2, .int x3, v4, v5, v6] st u P = zr 227 48 [v0, v1, v2, .int x3, v4, v5, v6] (.int x3 :: st) u P := zr_Il k227_47 rfl
theorem k227_48 : xcd 227 48 = oI 0 49 := rfl
theorem r227_48 : zr 227 48 [v0, v1, v2, v3, v4, v5, v6] st u P = zr 227 49 [v0, v1, v2, v3, v4, v5, v6] (.int 0 :: st) u P := zr_I k227_48
theorem k227_49 : xcd 227 49 = oAl 0 50 := rfl
theorem r227_49 : zr 227 49 [.ref a0, v1, v2, v3, v4, v5, v6] st u P = zr 227 50 [.ref a0, v1, v2, v3, v4, v5, v6] (.ref a0 :: st) u P := zr_Al k227_49 rfl
theorem k227_50 : xcd 227 50 = oIl 1 51 := rfl
theorem r227_50 : zr 227 50 [v0, .int x1, v2, v3, v4, v5, v6] st u P = zr 227 51 [v0, .int x1, v2, v3, v4, v5, v6] (.int x1 :: st) u P := zr_Il k227_50 rfl
theorem k227_51 : xcd 227 51 = oIl 2 52 := rfl
theorem r227_51 : zr 227 51 [v0, v1, .int x2, v3, v4, v5, v6] st u P = zr 227 52 [v0, v1, .int x2, v3, v4, v5, v6] (.int x2 :: st) u P := zr_Il k227_51 rfl
theorem k227_52 : xcd 227 52 = oCalV 11 219 2 55 := rfl
theorem r227_52 : zr 227 52 [v0, v1, v2, v3, v4, v5, v6] (.int y2 :: .int y1 :: .ref b8 :: st) u P = ((xIs u b8 11 ∧ xcat st ≤ 8) ∧ zr 219 0 [.ref b8, .int y1, .int y2, .null] [] u (fun r u2 => zr 227 55 [v0, v1, v2, v3, v4, v5, v6] (r.toList ++ st) u2 P)) := zr_CV k227_52 rfl rfl rfl ⟨Nat.le_of_ble_eq_true rfl, Nat.succ_ne_zero _, by decide⟩ rfl
theorem k227_55 : xcd 227 55 = oI 1 56 := rfl
theorem r227_55 : zr 227 55 [v0, v1, v2, v3, v4, v5, v6] st u P = zr 227 56 [v0, v1, v2, v3, v4, v5, v6] (.int 1 :: st) u P := zr_I k227_55
theorem k227_56 : xcd 227 56 = oB (fun x y => x - y) 57 := rfl
theorem r227_56 : zr 227 56 [v0, v1, v2, v3, v4, v5, v6] (.int y1 :: .int y2 :: st) u P = zr 227 57 [v0, v1, v2, v3, v4, v5, v6] (.int (y2 - y1) :: st) u P := zr_B k227_56
theorem k227_57 : xcd 227 57 = oCal 175 3 60 := rfl
theorem r227_57 : zr 227 57 [v0, v1, v2, v3, v4, v5, v6] (.int y3 :: .int y2 :: .int y1 :: st) u P = (xcat st ≤ 8 ∧ zr 175 0 [.int y1, .int y2, .int y3] [] u (fun r u2 => zr 227 60 [v0, v1, v2, v3, v4, v5, v6] (r.toList ++ st) u2 P)) := zr_CS k227_57 (Nat.le_add_left _ _) rfl rfl ⟨Nat.le_of_ble_eq_true rfl, Nat.succ_ne_zero _, by decide⟩ rfl
theorem k227_60 : xcd 227 60 = oIf (fun x => decide (¬ x = 0)) 69 63 := rfl
theorem r227_60 : zr 227 60 [v0, v1, v2, v3, v4, v5, v6] (.int y1 :: st) u P = (if ¬ y1 = 0 then zr 227 69 [v0, v1, v2, v3, v4, v5, v6] st u P else zr 227 63 [v0, v1, v2, v3, v4, v5, v6] st u P) := zr_If k227_60
theorem k227_63 : xcd 227 63 = oAl 0 64 := rfl
theorem r227_63 : zr 227 63 [.ref a0, v1, v2, v3, v4, v5, v6] st u P = zr 227 64 [.ref a0, v1, v2, v3, v4, v5, v6] (.ref a0 :: st) u P := zr_Al k227_63 rfl
theorem k227_64 : xcd 227 64 = oI 1 65 := rfl
theorem r227_64 : zr 227 64 [v0, v1, v2, v3, v4, v5, v6] st u P = zr 227 65 [v0, v1, v2, v3, v4, v5, v6] (.int 1 :: st) u P := zr_I k227_64
theorem k227_65 : xcd 227 65 = oCalV 11 172 1 68 := rfl
theorem r227_65 : zr 227 65 [v0, v1, v2, v3, v4, v5, v6] (.int y1 :: .ref b8 :: st) u P = ((xIs u b8 11 ∧ xcat st ≤ 8) ∧ zr 172 0 [.ref b8, .int y1] [] u (fun r u2 => zr 227 68 [v0, v1, v2, v3, v4, v5, v6] (r.toList ++ st) u2 P)) := zr_CV k227_65 rfl rfl rfl ⟨Nat.le_of_ble_eq_true rfl, Nat.succ_ne_zero _, by decide⟩ rfl
theorem k227_68 : xcd 227 68 = oRi 0 := rfl
theorem r227_68 : zr 227 68 [v0, v1, v2, v3, v4, v5, v6] [.int y1] u P = P (some (.int y1)) u := zr_Ri k227_68
theorem k227_69 : xcd 227 69 = oAl 0 70 := rfl
theorem r227_69 : zr 227 69 [.ref a0, v1, v2, v3, v4, v5, v6] st u P = zr 227 70 [.ref a0, v1, v2, v3, v4, v5, v6] (.ref a0 :: st) u P := zr_Al k227_69 rfl
theorem k227_70 : xcd 227 70 = oIl 1 71 := rfl
theorem r227_70 : zr 227 70 [v0, .int x1, v2, v3, v4, v5, v6] st u P = zr 227 71 [v0, .int x1, v2, v3, v4, v5, v6] (.int x1 :: st) u P := zr_Il k227_70 rfl
theorem k227_71 : xcd 227 71 = oIl 2 72 := rfl
theorem r227_71 : zr 227 71 [v0, v1, .int x2, v3, v4, v5, v6] st u P = zr 227 72 [v0, v1, .int x2, v3, v4, v5, v6] (.int x2 :: st) u P := zr_Il k227_71 rfl
theorem k227_72 : xcd 227 72 = oCalV 11 218 2 75 := rfl
theorem r227_72 : zr 227 72 [v0, v1, v2, v3, v4, v5, v6] (.int y2 :: .int y1 :: .ref b8 :: st) u P = ((xIs u b8 11 ∧ xcat st ≤ 8) ∧ zr 218 0 [.ref b8, .int y1, .int y2, .null, .null] [] u (fun r u2 => zr 227 75 [v0, v1, v2, v3, v4, v5, v6] (r.toList ++ st) u2 P)) := zr_CV k227_72 rfl rfl rfl ⟨Nat.le_of_ble_eq_true rfl, Nat.succ_ne_zero _, by decide⟩ rfl
theorem k227_75 : xcd 227 75 = oIs 6 77 := rfl
theorem r227_75 : zr 227 75 [v0, v1, v2, v3, v4, .int x5, v6] (.int y1 :: st) u P = zr 227 77 [v0, v1, v2, v3, v4, .int x5, .int y1] st u P := zr_Is k227_75 ⟨Nat.le_of_ble_eq_true rfl, rfl⟩
theorem k227_77 : xcd 227 77 = oAl 0 78 := rfl
theorem r227_77 : zr 227 77 [.ref a0, v1, v2, v3, v4, v5, v6] st u P = zr 227 78 [.ref a0, v1, v2, v3, v4, v5, v6] (.ref a0 :: st) u P := zr_Al k227_77 rfl
theorem k227_78 : xcd 227 78 = oIl 4 80 := rfl
theorem r227_78 : zr 227 78 [v0, v1, v2, v3, .int x4, v5, v6] st u P = zr 227 80 [v0, v1, v2, v3, .int x4, v5, v6] (.int x4 :: st) u P := zr_Il k227_78 rfl
theorem k227_80 : xcd 227 80 = oIf (fun x => decide (¬ x = 0)) 93 83 := rfl
theorem r227_80 : zr 227 80 [v0, v1, v2, v3, v4, v5, v6] (.int y1 :: st) u P = (if ¬ y1 = 0 then zr 227 93 [v0, v1, v2, v3, v4, v5, v6] st u P else zr 227 83 [v0, v1, v2, v3, v4, v5, v6] st u P) := zr_If k227_80
theorem k227_83 : xcd 227 83 = oAl 0 84 := rfl
theorem r227_83 : zr 227 83 [.ref a0, v1, v2, v3, v4, v5, v6] st u P = zr 227 84 [.ref a0, v1, v2, v3, v4, v5, v6] (.ref a0 :: st) u P := zr_Al k227_83 rfl
theorem k227_84 : xcd 227 84 = oIl 6 86 := rfl
theorem r227_84 : zr 227 84 [v0, v1, v2, v3, v4, v5, .int x6] st u P = zr 227 86 [v0, v1, v2, v3, v4, v5, .int x6] (.int x6 :: st) u P := zr_Il k227_84 rfl
theorem k227_86 : xcd 227 86 = oIl 3 87 := rfl
theorem r227_86 : zr 227 86 [v0, v1, v2, .int x3, v4, v5, v6] st u P = zr 227 87 [v0, v1, v2, .int x3, v4, v5, v6] (.int x3 :: st) u P := zr_Il k227_86 rfl
theorem k227_87 : xcd 227 87 = oCalV 11 220 2 90 := rfl
theorem r227_87 : zr 227 87 [v0, v1, v2, v3, v4, v5, v6] (.int y2 :: .int y1 :: .ref b8 :: st) u P = ((xIs u b8 11 ∧ xcat st ≤ 8) ∧ zr 220 0 [.ref b8, .int y1, .int y2] [] u (fun r u2 => zr 227 90 [v0, v1, v2, v3, v4, v5, v6] (r.toList ++ st) u2 P)) := zr_CV k227_87 rfl rfl rfl ⟨Nat.le_of_ble_eq_true rfl, Nat.succ_ne_zero _, by decide⟩ rfl
theorem k227_90 : xcd 227 90 = oGoto 100 := rfl
theorem r227_90 : zr 227 90 [v0, v1, v2, v3, v4, v5, v6] st u P = zr 227 100 [v0, v1, v2, v3, v4, v5, v6] st u P := zr_Goto k227_90
theorem k227_93 : xcd 227 93 = oAl 0 94 := rfl
theorem r227_93 : zr 227 93 [.ref a0, v1, v2, v3, v4, v5, v6] st u P = zr 227 94 [.ref a0, v1, v2, v3, v4, v5, v6] (.ref a0 :: st) u P := zr_Al k227_93 rfl
theorem k227_94 : xcd 227 94 = oIl 6 96 := rfl
theorem r227_94 : zr 227 94 [v0, v1, v2, v3, v4, v5, .int x6] st u P = zr 227 96 [v0, v1, v2, v3, v4, v5, .int x6] (.int x6 :: st) u P := zr_Il k227_94 rfl
theorem k227_96 : xcd 227 96 = oIl 3 97 := rfl
theorem r227_96 : zr 227 96 [v0, v1, v2, .int x3, v4, v5, v6] st u P = zr 227 97 [v0, v1, v2, .int x3, v4, v5, v6] (.int x3 :: st) u P := zr_Il k227_96 rfl
theorem k227_97 : xcd 227 97 = oCalV 11 221 2 100 := rfl
theorem r227_97 : zr 227 97 [v0, v1, v2, v3, v4, v5, v6] (.int y2 :: .int y1 :: .ref b8 :: st) u P = ((xIs u b8 11 ∧ xcat st ≤ 8) ∧ zr 221 0 [.ref b8, .int y1, .int y2] [] u (fun r u2 => zr 227 100 [v0, v1, v2, v3, v4, v5, v6] (r.toList ++ st) u2 P)) := zr_CV k227_97 rfl rfl rfl ⟨Nat.le_of_ble_eq_true rfl, Nat.succ_ne_zero _, by decide⟩ rfl
theorem k227_100 : xcd 227 100 = oCalV 11 174 1 103 := rfl
theorem r227_100 : zr 227 100 [v0, v1, v2, v3, v4, v5, v6] (.int y1 :: .ref b8 :: st) u P = ((xIs u b8 11 ∧ xcat st ≤ 8) ∧ zr 174 0 [.ref b8, .int y1] [] u (fun r u2 => zr 227 103 [v0, v1, v2, v3, v4, v5, v6] (r.toList ++ st) u2 P)) := zr_CV k227_100 rfl rfl rfl ⟨Nat.le_of_ble_eq_true rfl, Nat.succ_ne_zero _, by decide⟩ rfl
theorem k227_103 : xcd 227 103 = oRi 0 := rfl
theorem r227_103 : zr 227 103 [v0, v1, v2, v3, v4, v5, v6] [.int y1] u P = P (some (.int y1)) u := zr_Ri k227_103
theorem k228_0 : xcd 228 0 = oAl 0 1 := rfl
theorem r228_0 : zr 228 0 [.ref a0, v1, v2, v3, v4, v5, v6, v7, v8] st u P = zr 228 1 [.ref a0, v1, v2, v3, v4, v5, v6, v7, v8] (.ref a0 :: st) u P := zr_Al k228_0 rfl
theorem k228_1 : xcd 228 1 = oI 0 2 := rfl
theorem r228_1 : zr 228 1 [v0, v1, v2, v3, v4, v5, v6, v7, v8] st u P = zr 228 2 [v0, v1, v2, v3, v4, v5, v6, v7, v8] (.int 0 :: st) u P := zr_I k228_1
theorem k228_2 : xcd 228 2 = oPI 11 0 5 := rfl
theorem r228_2 : zr 228 2 [v0, v1, v2, v3, v4, v5, v6, v7, v8] (.int y1 :: .ref b1 :: st) u P = (xIs u b1 11 ∧ zr 228 5 [v0, v1, v2, v3, v4, v5, v6, v7, v8] st (xsI u b1 0 y1) P) := zr_PI k228_2
theorem k228_5 : xcd 228 5 = oAl 0 6 := rfl
theorem r228_5 : zr 228 5 [.ref a0, v1, v2, v3, v4, v5, v6, v7, v8] st u P = zr 228 6 [.ref a0, v1, v2, v3, v4, v5, v6, v7, v8] (.ref a0 :: st) u P := zr_Al k228_5 rfl
theorem k228_6 : xcd 228 6 = oAl 0 7 := rfl
theorem r228_6 : zr 228 6 [.ref a0, v1, v2, v3, v4, v5, v6, v7, v8] st u P = zr 228 7 [.ref a0, v1, v2, v3, v4, v5, v6, v7, v8] (.ref a0 :: st) u P := zr_Al k228_6 rfl
theorem k228_7 : xcd 228 7 = oIl 1 8 := rfl
theorem r228_7 : zr 228 7 [v0, .int x1, v2, v3, v4, v5, v6, v7, v8] st u P = zr 228 8 [v0, .int x1, v2, v3, v4, v5, v6, v7, v8] (.int x1 :: st) u P := zr_Il k228_7 rfl
theorem k228_8 : xcd 228 8 = oCalV 11 214 1 11 := rfl
theorem r228_8 : zr 228 8 [v0, v1, v2, v3, v4, v5, v6, v7, v8] (.int y1 :: .ref b8 :: st) u P = ((xIs u b8 11 ∧ xcat st ≤ 8) ∧ zr 214 0 [.ref b8, .int y1] [] u (fun r u2 => zr 228 11 [v0, v1, v2, v3, v4, v5, v6, v7, v8] (r.toList ++ st) u2 P)) := zr_CV k228_8 rfl rfl rfl ⟨Nat.le_of_ble_eq_true rfl, Nat.succ_ne_zero _, by decide⟩ rfl
theorem k228_11 : xcd 228 11 = oIl 2 12 := rfl
theorem r228_11 : zr 228 11 [v0, v1, .int x2, v3, v4, v5, v6, v7, v8] st u P = zr 228 12 [v0, v1, .int x2, v3, v4, v5, v6, v7, v8] (.int x2 :: st) u P := zr_Il k228_11 rfl
theorem k228_12 : xcd 228 12 = oCalV 11 224 2 15 := rfl
theorem r228_12 : zr 228 12 [v0, v1, v2, v3, v4, v5, v6, v7, v8] (.int y2 :: .int y1 :: .ref b8 :: st) u P = ((xIs u b8 11 ∧ xcat st ≤ 8) ∧ zr 224 0 [.ref b8, .int y1, .int y2] [] u (fun r u2 => zr 228 15 [v0, v1, v2, v3, v4, v5, v6, v7, v8] (r.toList ++ st) u2 P)) := zr_CV k228_12 rfl rfl rfl ⟨Nat.le_of_ble_eq_true rfl, Nat.succ_ne_zero _, by decide⟩ rfl
theorem k228_15 : xcd 228 15 = oIs 3 16 := rfl
theorem r228_15 : zr 228 15 [v0, v1, .int x2, v3, v4, v5, v6, v7, v8] (.int y1 :: st) u P = zr 228 16 [v0, v1, .int x2, .int y1, v4, v5, v6, v7, v8] st u P := zr_Is k228_15 ⟨Nat.le_of_ble_eq_true rfl, rfl⟩
theorem k228_16 : xcd 228 16 = oIl 3 17 := rfl
theorem r228_16 : zr 228 16 [v0, v1, v2, .int x3, v4, v5, v6, v7, v8] st u P = zr 228 17 [v0, v1, v2, .int x3, v4, v5, v6, v7, v8] (.int x3 :: st) u P := zr_Il k228_16 rfl
theorem k228_17 : xcd 228 17 = oIf (fun x => decide (x ≤ 0)) 26 20 := rfl
theorem r228_17 : zr 228 17 [v0, v1, v2, v3, v4, v5, v6, v7, v8] (.int y1 :: st) u P = (if y1 ≤ 0 then zr 228 26 [v0, v1, v2, v3, v4, v5, v6, v7, v8] st u P else zr 228 20 [v0, v1, v2, v3, v4, v5, v6, v7, v8] st u P) := zr_If k228_17
theorem k228_20 : xcd 228 20 = oAl 0 21 := rfl
theorem r228_20 : zr 228 20 [.ref a0, v1, v2, v3, v4, v5, v6, v7, v8] st u P = zr 228 21 [.ref a0, v1, v2, v3, v4, v5, v6, v7, v8] (.ref a0 :: st) u P := zr_Al k228_20 rfl
theorem k228_21 : xcd 228 21 = oIl 3 22 := rfl
theorem r228_21 : zr 228 21 [v0, v1, v2, .int x3, v4, v5, v6, v7, v8] st u P = zr 228 22 [v0, v1, v2, .int x3, v4, v5, v6, v7, v8] (.int x3 :: st) u P := zr_Il k228_21 rfl
theorem k228_22 : xcd 228 22 = oCalV 11 173 1 25 := rfl
theorem r228_22 : zr 228 22 [v0, v1, v2, v3, v4, v5, v6, v7, v8] (.int y1 :: .ref b8 :: st) u P = ((xIs u b8 11 ∧ xcat st ≤ 8) ∧ zr 173 0 [.ref b8, .int y1] [] u (fun r u2 => zr 228 25 [v0, v1, v2, v3, v4, v5, v6, v7, v8] (r.toList ++ st) u2 P)) := zr_CV k228_22 rfl rfl rfl ⟨Nat.le_of_ble_eq_true rfl, Nat.succ_ne_zero _, by decide⟩ rfl
theorem k228_25 : xcd 228 25 = oRi 0 := rfl
theorem r228_25 : zr 228 25 [v0, v1, v2, v3, v4, v5, v6, v7, v8] [.int y1] u P = P (some (.int y1)) u := zr_Ri k228_25
theorem k228_26 : xcd 228 26 = oAl 0 27 := rfl
theorem r228_26 : zr 228 26 [.ref a0, v1, v2, v3, v4, v5, v6, v7, v8] st u P = zr 228 27 [.ref a0, v1, v2, v3, v4, v5, v6, v7, v8] (.ref a0 :: st) u P := zr_Al k228_26 rfl
theorem k228_27 : xcd 228 27 = oIl 1 28 := rfl
theorem r228_27 : zr 228 27 [v0, .int x1, v2, v3, v4, v5, v6, v7, v8] st u P = zr 228 28 [v0, .int x1, v2, v3, v4, v5, v6, v7, v8] (.int x1 :: st) u P := zr_Il k228_27 rfl
theorem k228_28 : xcd 228 28 = oIl 2 29 := rfl
theorem r228_28 : zr 228 28 [v0, v1, .int x2, v3, v4, v5, v6, v7, v8] st u P = zr 228 29 [v0, v1, .int x2, v3, v4, v5, v6, v7, v8] (.int x2 :: st) u P := zr_Il k228_28 rfl
theorem k228_29 : xcd 228 29 = oCalV 11 218 2 32 := rfl
theorem r228_29 : zr 228 29 [v0, v1, v2, v3, v4, v5, v6, v7, v8] (.int y2 :: .int y1 :: .ref b8 :: st) u P = ((xIs u b8 11 ∧ xcat st ≤ 8) ∧ zr 218 0 [.ref b8, .int y1, .int y2, .null, .null] [] u (fun r u2 => zr 228 32 [v0, v1, v2, v3, v4, v5, v6, v7, v8] (r.toList ++ st) u2 P)) := zr_CV k228_29 rfl rfl rfl ⟨Nat.le_of_ble_eq_true rfl, Nat.succ_ne_zero _, by decide⟩ rfl
theorem k228_32 : xcd 228 32 = oIs 4 34 := rfl
theorem r228_32 : zr 228 32 [v0, v1, v2, .int x3, v4, v5, v6, v7, v8] (.int y1 :: st) u P = zr 228 34 [v0, v1, v2, .int x3, .int y1, v5, v6, v7, v8] st u P := zr_Is k228_32 ⟨Nat.le_of_ble_eq_true rfl, rfl⟩
theorem k228_34 : xcd 228 34 = oAl 0 35 := rfl
theorem r228_34 : zr 228 34 [.ref a0, v1, v2, v3, v4, v5, v6, v7, v8] st u P = zr 228 35 [.ref a0, v1, v2, v3, v4, v5, v6, v7, v8] (.ref a0 :: st) u P := zr_Al k228_34 rfl
theorem k228_35 : xcd 228 35 = oIl 1 36 := rfl
theorem r228_35 : zr 228 35 [v0, .int x1, v2, v3, v4, v5, v6, v7, v8] st u P = zr 228 36 [v0, .int x1, v2, v3, v4, v5, v6, v7, v8] (.int x1 :: st) u P := zr_Il k228_35 rfl
theorem k228_36 : xcd 228 36 = oIl 2 37 := rfl
theorem r228_36 : zr 228 36 [v0, v1, .int x2, v3, v4, v5, v6, v7, v8] st u P = zr 228 37 [v0, v1, .int x2, v3, v4, v5, v6, v7, v8] (.int x2 :: st) u P := zr_Il k228_36 rfl
theorem k228_37 : xcd 228 37 = oCalV 11 219 2 40 := rfl
theorem r228_37 : zr 228 37 [v0, v1, v2, v3, v4, v5, v6, v7, v8] (.int y2 :: .int y1 :: .ref b8 :: st) u P = ((xIs u b8 11 ∧ xcat st ≤ 8) ∧ zr 219 0 [.ref b8, .int y1, .int y2, .null] [] u (fun r u2 => zr 228 40 [v0, v1, v2, v3, v4, v5, v6, v7, v8] (r.toList ++ st) u2 P)) := zr_CV k228_37 rfl rfl rfl ⟨Nat.le_of_ble_eq_true rfl, Nat.succ_ne_zero _, by decide⟩ rfl
theorem k228_40 : xcd 228 40 = oIs 5 42 := rfl
theorem r228_40 : zr 228 40 [v0, v1, v2, v3, .int x4, v5, v6, v7, v8] (.int y1 :: st) u P = zr 228 42 [v0, v1, v2, v3, .int x4, .int y1, v6, v7, v8] st u P := zr_Is k228_40 ⟨Nat.le_of_ble_eq_true rfl, rfl⟩
theorem k228_42 : xcd 228 42 = oI 0 43 := rfl
theorem r228_42 : zr 228 42 [v0, v1, v2, v3, v4, v5, v6, v7, v8] st u P = zr 228 43 [v0, v1, v2, v3, v4, v5, v6, v7, v8] (.int 0 :: st) u P := zr_I k228_42
theorem k228_43 : xcd 228 43 = oIs 6 45 := rfl
theorem r228_43 : zr 228 43 [v0, v1, v2, v3, v4, .int x5, v6, v7, v8] (.int y1 :: st) u P = zr 228 45 [v0, v1, v2, v3, v4, .int x5, .int y1, v7, v8] st u P := zr_Is k228_43 ⟨Nat.le_of_ble_eq_true rfl, rfl⟩
theorem k228_45 : xcd 228 45 = oI 0 46 := rfl
theorem r228_45 : zr 228 45 [v0, v1, v2, v3, v4, v5, v6, v7, v8] st u P = zr 228 46 [v0, v1, v2, v3, v4, v5, v6, v7, v8] (.int 0 :: st) u P := zr_I k228_45
theorem k228_46 : xcd 228 46 = oIs 7 48 := rfl
theorem r228_46 : zr 228 46 [v0, v1, v2, v3, v4, v5, .int x6, v7, v8] (.int y1 :: st) u P = zr 228 48 [v0, v1, v2, v3, v4, v5, .int x6, .int y1, v8] st u P := zr_Is k228_46 ⟨Nat.le_of_ble_eq_true rfl, rfl⟩
theorem k228_48 : xcd 228 48 = oIl 7 50 := rfl
theorem r228_48 : zr 228 48 [v0, v1, v2, v3, v4, v5, v6, .int x7, v8] st u P = zr 228 50 [v0, v1, v2, v3, v4, v5, v6, .int x7, v8] (.int x7 :: st) u P := zr_Il k228_48 rfl
theorem k228_50 : xcd 228 50 = oIl 5 52 := rfl
theorem r228_50 : zr 228 50 [v0, v1, v2, v3, v4, .int x5, v6, v7, v8] st u P = zr 228 52 [v0, v1, v2, v3, v4, .int x5, v6, v7, v8] (.int x5 :: st) u P := zr_Il k228_50 rfl
theorem k228_52 : xcd 228 52 = oCmp (fun x y => decide (y ≤ x)) 110 55 := rfl
theorem r228_52 : zr 228 52 [v0, v1, v2, v3, v4, v5, v6, v7, v8] (.int y1 :: .int y2 :: st) u P = (if y1 ≤ y2 then zr 228 110 [v0, v1, v2, v3, v4, v5, v6, v7, v8] st u P else zr 228 55 [v0, v1, v2, v3, v4, v5, v6, v7, v8] st u P) := zr_Cmp k228_52
theorem k228_55 : xcd 228 55 = oIl 7 57 := rfl
theorem r228_55 : zr 228 55 [v0, v1, v2, v3, v4, v5, v6, .int x7, v8] st u P = zr 228 57 [v0, v1, v2, v3, v4, v5, v6, .int x7, v8] (.int x7 :: st) u P := zr_Il k228_55 rfl
theorem k228_57 : xcd 228 57 = oI 1 58 := rfl
theorem r228_57 : zr 228 57 [v0, v1, v2, v3, v4, v5, v6, v7, v8] st u P = zr 228 58 [v0, v1, v2, v3, v4, v5, v6, v7, v8] (.int 1 :: st) u P := zr_I k228_57
theorem k228_58 : xcd 228 58 = oB (fun x y => x + y) 59 := rfl
theorem r228_58 : zr 228 58 [v0, v1, v2, v3, v4, v5, v6, v7, v8] (.int y1 :: .int y2 :: st) u P = zr 228 59 [v0, v1, v2, v3, v4, v5, v6, v7, v8] (.int (y2 + y1) :: st) u P := zr_B k228_58
theorem k228_59 : xcd 228 59 = oIl 5 61 := rfl
theorem r228_59 : zr 228 59 [v0, v1, v2, v3, v4, .int x5, v6, v7, v8] st u P = zr 228 61 [v0, v1, v2, v3, v4, .int x5, v6, v7, v8] (.int x5 :: st) u P := zr_Il k228_59 rfl
theorem k228_61 : xcd 228 61 = oRem 62 := rfl
theorem r228_61 : zr 228 61 [v0, v1, v2, v3, v4, v5, v6, v7, v8] (.int y1 :: .int y2 :: st) u P = (¬ y1 = 0 ∧ zr 228 62 [v0, v1, v2, v3, v4, v5, v6, v7, v8] (.int (y2 - y2 / y1 * y1) :: st) u P) := zr_Rem k228_61
theorem k228_62 : xcd 228 62 = oIs 8 64 := rfl
theorem r228_62 : zr 228 62 [v0, v1, v2, v3, v4, v5, v6, .int x7, v8] (.int y1 :: st) u P = zr 228 64 [v0, v1, v2, v3, v4, v5, v6, .int x7, .int y1] st u P := zr_Is k228_62 ⟨Nat.le_of_ble_eq_true rfl, rfl⟩
theorem k228_64 : xcd 228 64 = oIl 6 66 := rfl
theorem r228_64 : zr 228 64 [v0, v1, v2, v3, v4, v5, .int x6, v7, v8] st u P = zr 228 66 [v0, v1, v2, v3, v4, v5, .int x6, v7, v8] (.int x6 :: st) u P := zr_Il k228_64 rfl
theorem k228_66 : xcd 228 66 = oAl 0 67 := rfl
theorem r228_66 : zr 228 66 [.ref a0, v1, v2, v3, v4, v5, v6, v7, v8] st u P = zr 228 67 [.ref a0, v1, v2, v3, v4, v5, v6, v7, v8] (.ref a0 :: st) u P := zr_Al k228_66 rfl
theorem k228_67 : xcd 228 67 = oIl 4 69 := rfl
theorem r228_67 : zr 228 67 [v0, v1, v2, v3, .int x4, v5, v6, v7, v8] st u P = zr 228 69 [v0, v1, v2, v3, .int x4, v5, v6, v7, v8] (.int x4 :: st) u P := zr_Il k228_67 rfl
theorem k228_69 : xcd 228 69 = oIl 7 71 := rfl
theorem r228_69 : zr 228 69 [v0, v1, v2, v3, v4, v5, v6, .int x7, v8] st u P = zr 228 71 [v0, v1, v2, v3, v4, v5, v6, .int x7, v8] (.int x7 :: st) u P := zr_Il k228_69 rfl
theorem k228_71 : xcd 228 71 = oCalV 11 220 2 74 := rfl
theorem r228_71 : zr 228 71 [v0, v1, v2, v3, v4, v5, v6, v7, v8] (.int y2 :: .int y1 :: .ref b8 :: st) u P = ((xIs u b8 11 ∧ xcat st ≤ 8) ∧ zr 220 0 [.ref b8, .int y1, .int y2] [] u (fun r u2 => zr 228 74 [v0, v1, v2, v3, v4, v5, v6, v7, v8] (r.toList ++ st) u2 P)) := zr_CV k228_71 rfl rfl rfl ⟨Nat.le_of_ble_eq_true rfl, Nat.succ_ne_zero _, by decide⟩ rfl
theorem k228_74 : xcd 228 74 = oAl 0 75 := rfl
theorem r228_74 : zr 228 74 [.ref a0, v1, v2, v3, v4, v5, v6, v7, v8] st u P = zr 228 75 [.ref a0, v1, v2, v3, v4, v5, v6, v7, v8] (.ref a0 :: st) u P := zr_Al k228_74 rfl
theorem k228_75 : xcd 228 75 = oIl 4 77 := rfl
theorem r228_75 : zr 228 75 [v0, v1, v2, v3, .int x4, v5, v6, v7, v8] st u P = zr 228 77 [v0, v1, v2, v3, .int x4, v5, v6, v7, v8] (.int x4 :: st) u P := zr_Il k228_75 rfl
theorem k228_77 : xcd 228 77 = oIl 8 79 := rfl
theorem r228_77 : zr 228 77 [v0, v1, v2, v3, v4, v5, v6, v7, .int x8] st u P = zr 228 79 [v0, v1, v2, v3, v4, v5, v6, v7, .int x8] (.int x8 :: st) u P := zr_Il k228_77 rfl
theorem k228_79 : xcd 228 79 = oCalV 11 221 2 82 := rfl
theorem r228_79 : zr 228 79 [v0, v1, v2, v3, v4, v5, v6, v7, v8] (.int y2 :: .int y1 :: .ref b8 :: st) u P = ((xIs u b8 11 ∧ xcat st ≤ 8) ∧ zr 221 0 [.ref b8, .int y1, .int y2] [] u (fun r u2 => zr 228 82 [v0, v1, v2, v3, v4, v5, v6, v7, v8] (r.toList ++ st) u2 P)) := zr_CV k228_79 rfl rfl rfl ⟨Nat.le_of_ble_eq_true rfl, Nat.succ_ne_zero _, by decide⟩ rfl
theorem k228_82 : xcd 228 82 = oB (fun x y => x * y) 83 := rfl
theorem r228_82 : zr 228 82 [v0, v1, v2, v3, v4, v5, v6, v7, v8] (.int y1 :: .int y2 :: st) u P = zr 228 83 [v0, v1, v2, v3, v4, v5, v6, v7, v8] (.int (y2 * y1) :: st) u P := zr_B k228_82
theorem k228_83 : xcd 228 83 = oAl 0 84 := rfl
theorem r228_83 : zr 228 83 [.ref a0, v1, v2, v3, v4, v5, v6, v7, v8] st u P = zr 228 84 [.ref a0, v1, v2, v3, v4, v5, v6, v7, v8] (.ref a0 :: st) u P := zr_Al k228_83 rfl
theorem k228_84 : xcd 228 84 = oIl 4 86 := rfl
theorem r228_84 : zr 228 84 [v0, v1, v2, v3, .int x4, v5, v6, v7, v8] st u P = zr 228 86 [v0, v1, v2, v3, .int x4, v5, v6, v7, v8] (.int x4 :: st) u P := zr_Il k228_84 rfl
theorem k228_86 : xcd 228 86 = oIl 8 88 := rfl
theorem r228_86 : zr 228 86 [v0, v1, v2, v3, v4, v5, v6, v7, .int x8] st u P = zr 228 88 [v0, v1, v2, v3, v4, v5, v6, v7, .int x8] (.int x8 :: st) u P := zr_Il k228_86 rfl
theorem k228_88 : xcd 228 88 = oCalV 11 220 2 91 := rfl
theorem r228_88 : zr 228 88 [v0, v1, v2, v3, v4, v5, v6, v7, v8] (.int y2 :: .int y1 :: .ref b8 :: st) u P = ((xIs u b8 11 ∧ xcat st ≤ 8) ∧ zr 220 0 [.ref b8, .int y1, .int y2] [] u (fun r u2 => zr 228 91 [v0, v1, v2, v3, v4, v5, v6, v7, v8] (r.toList ++ st) u2 P)) := zr_CV k228_88 rfl rfl rfl ⟨Nat.le_of_ble_eq_true rfl, Nat.succ_ne_zero _, by decide⟩ rfl
theorem k228_91 : xcd 228 91 = oAl 0 92 := rfl
theorem r228_91 : zr 228 91 [.ref a0, v1, v2, v3, v4, v5, v6, v7, v8] st u P = zr 228 92 [.ref a0, v1, v2, v3, v4, v5, v6, v7, v8] (.ref a0 :: st) u P := zr_Al k228_91 rfl
theorem k228_92 : xcd 228 92 = oIl 4 94 := rfl
theorem r228_92 : zr 228 92 [v0, v1, v2, v3, .int x4, v5, v6, v7, v8] st u P = zr 228 94 [v0, v1, v2, v3, .int x4, v5, v6, v7, v8] (.int x4 :: st) u P := zr_Il k228_92 rfl
theorem k228_94 : xcd 228 94 = oIl 7 96 := rfl
theorem r228_94 : zr 228 94 [v0, v1, v2, v3, v4, v5, v6, .int x7, v8] st u P = zr 228 96 [v0, v1, v2, v3, v4, v5, v6, .int x7, v8] (.int x7 :: st) u P := zr_Il k228_94 rfl
theorem k228_96 : xcd 228 96 = oCalV 11 221 2 99 := rfl
theorem r228_96 : zr 228 96 [v0, v1, v2, v3, v4, v5, v6, v7, v8] (.int y2 :: .int y1 :: .ref b8 :: st) u P = ((xIs u b8 11 ∧ xcat st ≤ 8) ∧ zr 221 0 [.ref b8, .int y1, .int y2] [] u (fun r u2 => zr 228 99 [v0, v1, v2, v3, v4, v5, v6, v7, v8] (r.toList ++ st) u2 P)) := zr_CV k228_96 rfl rfl rfl ⟨Nat.le_of_ble_eq_true rfl, Nat.succ_ne_zero _, by decide⟩ rfl
theorem k228_99 : xcd 228 99 = oB (fun x y => x * y) 100 := rfl
theorem r228_99 : zr 228 99 [v0, v1, v2, v3, v4, v5, v6, v7, v8] (.int y1 :: .int y2 :: st) u P = zr 228 100 [v0, v1, v2, v3, v4, v5, v6, v7, v8] (.int (y2 * y1) :: st) u P := zr_B k228_99
theorem k228_100 : xcd 228 100 = oB (fun x y => x - y) 101 := rfl
theorem r228_100 : zr 228 100 [v0, v1, v2, v3, v4, v5, v6, v7, v8] (.int y1 :: .int y2 :: st) u P = zr 228 101 [v0, v1, v2, v3, v4, v5, v6, v7, v8] (.int (y2 - y1) :: st) u P := zr_B k228_100
theorem k228_101 : xcd 228 101 = oB (fun x y => x + y) 102 := rfl
theorem r228_101 : zr 228 101 [v0, v1, v2, v3, v4, v5, v6, v7, v8] (.int y1 :: .int y2 :: st) u P = zr 228 102 [v0, v1, v2, v3, v4, v5, v6, v7, v8] (.int (y2 + y1) :: st) u P := zr_B k228_101
theorem k228_102 : xcd 228 102 = oIs 6 104 := rfl
theorem r228_102 : zr 228 102 [v0, v1, v2, v3, v4, .int x5, v6, v7, v8] (.int y1 :: st) u P = zr 228 104 [v0, v1, v2, v3, v4, .int x5, .int y1, v7, v8] st u P := zr_Is k228_102 ⟨Nat.le_of_ble_eq_true rfl, rfl⟩
theorem k228_104 : xcd 228 104 = oInc 7 1 107 := rfl
theorem r228_104 : zr 228 104 [v0, v1, v2, v3, v4, v5, .int x6, .int x7, v8] st u P = zr 228 107 [v0, v1, v2, v3, v4, v5, .int x6, .int (x7 + 1), v8] st u P := zr_Inc k228_104 rfl rfl
theorem k228_107 : xcd 228 107 = oGoto 48 := rfl
theorem r228_107 : zr 228 107 [v0, v1, v2, v3, v4, v5, v6, v7, v8] st u P = zr 228 48 [v0, v1, v2, v3, v4, v5, v6, v7, v8] st u P := zr_Goto k228_107
theorem k228_110 : xcd 228 110 = oAl 0 111 := rfl
theorem r228_110 : zr 228 110 [.ref a0, v1, v2, v3, v4, v5, v6, v7, v8] st u P = zr 228 111 [.ref a0, v1, v2, v3, v4, v5, v6, v7, v8] (.ref a0 :: st) u P := zr_Al k228_110 rfl
theorem k228_111 : xcd 228 111 = oIl 6 113 := rfl
theorem r228_111 : zr 228 111 [v0, v1, v2, v3, v4, v5, .int x6, v7, v8] st u P = zr 228 113 [v0, v1, v2, v3, v4, v5, .int x6, v7, v8] (.int x6 :: st) u P := zr_Il k228_111 rfl
theorem k228_113 : xcd 228 113 = oCalV 11 174 1 116 := rfl
theorem r228_113 : zr 228 113 [v0, v1, v2, v3, v4, v5, v6, v7, v8] (.int y1 :: .ref b8 :: st) u P = ((xIs u b8 11 ∧ xcat st ≤ 8) ∧ zr 174 0 [.ref b8, .int y1] [] u (fun r u2 => zr 228 116 [v0, v1, v2, v3, v4, v5, v6, v7, v8] (r.toList ++ st) u2 P)) := zr_CV k228_113 rfl rfl rfl ⟨Nat.le_of_ble_eq_true rfl, Nat.succ_ne_zero _, by decide⟩ rfl
theorem k228_116 : xcd 228 116 = oRi 0 := rfl
theorem r228_116 : zr 228 116 [v0, v1, v2, v3, v4, v5, v6, v7, v8] [.int y1] u P = P (some (.int y1)) u := zr_Ri k228_116
theorem k229_0 : xcd 229 0 = oAl 0 1 := rfl
theorem r229_0 : zr 229 0 [.ref a0, v1, v2, v3, v4, v5, v6, v7, v8, v9, v10] st u P = zr 229 1 [.ref a0, v1, v2, v3, v4, v5, v6, v7, v8, v9, v10] (.ref a0 :: st) u P := zr_Al k229_0 rfl
theorem k229_1 : xcd 229 1 = oIl 1 2 := rfl
theorem r229_1 : zr 229 1 [v0, .int x1, v2, v3, v4, v5, v6, v7, v8, v9, v10] st u P = zr 229 2 [v0, .int x1, v2, v3, v4, v5, v6, v7, v8, v9, v10] (.int x1 :: st) u P := zr_Il k229_1 rfl
theorem k229_2 : xcd 229 2 = oIl 2 3 := rfl
theorem r229_2 : zr 229 2 [v0, v1, .int x2, v3, v4, v5, v6, v7, v8, v9, v10] st u P = zr 229 3 [v0, v1, .int x2, v3, v4, v5, v6, v7, v8, v9, v10] (.int x2 :: st) u P := zr_Il k229_2 rfl
theorem k229_3 : xcd 229 3 = oCalV 11 221 2 6 := rfl
theorem r229_3 : zr 229 3 [v0, v1, v2, v3, v4, v5, v6, v7, v8, v9, v10] (.int y2 :: .int y1 :: .ref b8 :: st) u P = ((xIs u b8 11 ∧ xcat st ≤ 8) ∧ zr 221 0 [.ref b8, .int y1, .int y2] [] u (fun r u2 => zr 229 6 [v0, v1, v2, v3, v4, v5, v6, v7, v8, v9, v10] (r.toList ++ st) u2 P)) := zr_CV k229_3 rfl rfl rfl ⟨Nat.le_of_ble_eq_true rfl, Nat.succ_ne_zero _, by decide⟩ rfl
theorem k229_6 : xcd 229 6 = oIl 5 8 := rfl
theorem r229_6 : zr 229 6 [v0, v1, v2, v3, v4, .int x5, v6, v7, v8, v9, v10] st u P = zr 229 8 [v0, v1, v2, v3, v4, .int x5, v6, v7, v8, v9, v10] (.int x5 :: st) u P := zr_Il k229_6 rfl
theorem k229_8 : xcd 229 8 = oCmp (fun x y => decide (x ≤ y)) 15 11 := rfl
theorem r229_8 : zr 229 8 [v0, v1, v2, v3, v4, v5, v6, v7, v8, v9, v10] (.int y1 :: .int y2 :: st) u P = (if y2 ≤ y1 then zr 229 15 [v0, v1, v2, v3, v4, v5, v6, v7, v8, v9, v10] st u P else zr 229 11 [v0, v1, v2, v3, v4, v5, v6, v7, v8, v9, v10] st u P) := zr_Cmp k229_8
theorem k229_11 : xcd 229 11 = oI 1 12 := rfl
theorem r229_11 : zr 229 11 [v0, v1, v2, v3, v4, v5, v6, v7, v8, v9, v10] st u P = zr 229 12 [v0, v1, v2, v3, v4, v5, v6, v7, v8, v9, v10] (.int 1 :: st) u P := zr_I k229_11
theorem k229_12 : xcd 229 12 = oGoto 16 := rfl
theorem r229_12 : zr 229 12 [v0, v1, v2, v3, v4, v5, v6, v7, v8, v9, v10] st u P = zr 229 16 [v0, v1, v2, v3, v4, v5, v6, v7, v8, v9, v10] st u P := zr_Goto k229_12
theorem k229_15 : xcd 229 15 = oI 0 16 := rfl
theorem r229_15 : zr 229 15 [v0, v1, v2, v3, v4, v5, v6, v7, v8, v9, v10] st u P = zr 229 16 [v0, v1, v2, v3, v4, v5, v6, v7, v8, v9, v10] (.int 0 :: st) u P := zr_I k229_15
theorem k229_16 : xcd 229 16 = oIs 6 18 := rfl
theorem r229_16 : zr 229 16 [v0, v1, v2, v3, v4, .int x5, v6, v7, v8, v9, v10] (.int y1 :: st) u P = zr 229 18 [v0, v1, v2, v3, v4, .int x5, .int y1, v7, v8, v9, v10] st u P := zr_Is k229_16 ⟨Nat.le_of_ble_eq_true rfl, rfl⟩
theorem k229_18 : xcd 229 18 = oAl 0 19 := rfl
theorem r229_18 : zr 229 18 [.ref a0, v1, v2, v3, v4, v5, v6, v7, v8, v9, v10] st u P = zr 229 19 [.ref a0, v1, v2, v3, v4, v5, v6, v7, v8, v9, v10] (.ref a0 :: st) u P := zr_Al k229_18 rfl
theorem k229_19 : xcd 229 19 = oIl 1 20 := rfl
theorem r229_19 : zr 229 19 [v0, .int x1, v2, v3, v4, v5, v6, v7, v8, v9, v10] st u P = zr 229 20 [v0, .int x1, v2, v3, v4, v5, v6, v7, v8, v9, v10] (.int x1 :: st) u P := zr_Il k229_19 rfl
theorem k229_20 : xcd 229 20 = oIl 3 21 := rfl
theorem r229_20 : zr 229 20 [v0, v1, v2, .int x3, v4, v5, v6, v7, v8, v9, v10] st u P = zr 229 21 [v0, v1, v2, .int x3, v4, v5, v6, v7, v8, v9, v10] (.int x3 :: st) u P := zr_Il k229_20 rfl
theorem k229_21 : xcd 229 21 = oCalV 11 221 2 24 := rfl
theorem r229_21 : zr 229 21 [v0, v1, v2, v3, v4, v5, v6, v7, v8, v9, v10] (.int y2 :: .int y1 :: .ref b8 :: st) u P = ((xIs u b8 11 ∧ xcat st ≤ 8) ∧ zr 221 0 [.ref b8, .int y1, .int y2] [] u (fun r u2 => zr 229 24 [v0, v1, v2, v3, v4, v5, v6, v7, v8, v9, v10] (r.toList ++ st) u2 P)) := zr_CV k229_21 rfl rfl rfl ⟨Nat.le_of_ble_eq_true rfl, Nat.succ_ne_zero _, by decide⟩ rfl
theorem k229_24 : xcd 229 24 = oIl 5 26 := rfl
theorem r229_24 : zr 229 24 [v0, v1, v2, v3, v4, .int x5, v6, v7, v8, v9, v10] st u P = zr 229 26 [v0, v1, v2, v3, v4, .int x5, v6, v7, v8, v9, v10] (.int x5 :: st) u P := zr_Il k229_24 rfl
theorem k229_26 : xcd 229 26 = oCmp (fun x y => decide (x ≤ y)) 33 29 := rfl
theorem r229_26 : zr 229 26 [v0, v1, v2, v3, v4, v5, v6, v7, v8, v9, v10] (.int y1 :: .int y2 :: st) u P = (if y2 ≤ y1 then zr 229 33 [v0, v1, v2, v3, v4, v5, v6, v7, v8, v9, v10] st u P else zr 229 29 [v0, v1, v2, v3, v4, v5, v6, v7, v8, v9, v10] st u P) := zr_Cmp k229_26
theorem k229_29 : xcd 229 29 = oI 1 30 := rfl
theorem r229_29 : zr 229 29 [v0, v1, v2, v3, v4, v5, v6, v7, v8, v9, v10] st u P = zr 229 30 [v0, v1, v2, v3, v4, v5, v6, v7, v8, v9, v10] (.int 1 :: st) u P := zr_I k229_29
theorem k229_30 : xcd 229 30 = oGoto 34 := rfl
theorem r229_30 : zr 229 30 [v0, v1, v2, v3, v4, v5, v6, v7, v8, v9, v10] st u P = zr 229 34 [v0, v1, v2, v3, v4, v5, v6, v7, v8, v9, v10] st u P := zr_Goto k229_30
theorem k229_33 : xcd 229 33 = oI 0 34 := rfl
theorem r229_33 : zr 229 33 [v0, v1, v2, v3, v4, v5, v6, v7, v8, v9, v10] st u P = zr 229 34 [v0, v1, v2, v3, v4, v5, v6, v7, v8, v9, v10] (.int 0 :: st) u P := zr_I k229_33
theorem k229_34 : xcd 229 34 = oIs 7 36 := rfl
theorem r229_34 : zr 229 34 [v0, v1, v2, v3, v4, v5, .int x6, v7, v8, v9, v10] (.int y1 :: st) u P = zr 229 36 [v0, v1, v2, v3, v4, v5, .int x6, .int y1, v8, v9, v10] st u P := zr_Is k229_34 ⟨Nat.le_of_ble_eq_true rfl, rfl⟩
theorem k229_36 : xcd 229 36 = oIl 6 38 := rfl
theorem r229_36 : zr 229 36 [v0, v1, v2, v3, v4, v5, .int x6, v7, v8, v9, v10] st u P = zr 229 38 [v0, v1, v2, v3, v4, v5, .int x6, v7, v8, v9, v10] (.int x6 :: st) u P := zr_Il k229_36 rfl
theorem k229_38 : xcd 229 38 = oIl 7 40 := rfl
theorem r229_38 : zr 229 38 [v0, v1, v2, v3, v4, v5, v6, .int x7, v8, v9, v10] st u P = zr 229 40 [v0, v1, v2, v3, v4, v5, v6, .int x7, v8, v9, v10] (.int x7 :: st) u P := zr_Il k229_38 rfl
theorem k229_40 : xcd 229 40 = oCmp (fun x y => decide (¬ x = y)) 45 43 := rfl
theorem r229_40 : zr 229 40 [v0, v1, v2, v3, v4, v5, v6, v7, v8, v9, v10] (.int y1 :: .int y2 :: st) u P = (if ¬ y2 = y1 then zr 229 45 [v0, v1, v2, v3, v4, v5, v6, v7, v8, v9, v10] st u P else zr 229 43 [v0, v1, v2, v3, v4, v5, v6, v7, v8, v9, v10] st u P) := zr_Cmp k229_40
theorem k229_43 : xcd 229 43 = oI 0 44 := rfl
theorem r229_43 : zr 229 43 [v0, v1, v2, v3, v4, v5, v6, v7, v8, v9, v10] st u P = zr 229 44 [v0, v1, v2, v3, v4, v5, v6, v7, v8, v9, v10] (.int 0 :: st) u P := zr_I k229_43
theorem k229_44 : xcd 229 44 = oRz 0 := rfl
theorem r229_44 : zr 229 44 [v0, v1, v2, v3, v4, v5, v6, v7, v8, v9, v10] [.int y1] u P = ((y1 = 0 ∨ y1 = 1) ∧ P (some (.int y1)) u) := zr_Rz k229_44
theorem k229_45 : xcd 229 45 = oIl 6 47 := rfl
theorem r229_45 : zr 229 45 [v0, v1, v2, v3, v4, v5, .int x6, v7, v8, v9, v10] st u P = zr 229 47 [v0, v1, v2, v3, v4, v5, .int x6, v7, v8, v9, v10] (.int x6 :: st) u P := zr_Il k229_45 rfl
theorem k229_47 : xcd 229 47 = oIf (fun x => decide (x = 0)) 54 50 := rfl
theorem r229_47 : zr 229 47 [v0, v1, v2, v3, v4, v5, v6, v7, v8, v9, v10] (.int y1 :: st) u P = (if y1 = 0 then zr 229 54 [v0, v1, v2, v3, v4, v5, v6, v7, v8, v9, v10] st u P else zr 229 50 [v0, v1, v2, v3, v4, v5, v6, v7, v8, v9, v10] st u P) := zr_If k229_47
theorem k229_50 : xcd 229 50 = oIl 3 51 := rfl
theorem r229_50 : zr 229 50 [v0, v1, v2, .int x3, v4, v5, v6, v7, v8, v9, v10] st u P = zr 229 51 [v0, v1, v2, .int x3, v4, v5, v6, v7, v8, v9, v10] (.int x3 :: st) u P := zr_Il k229_50 rfl
theorem k229_51 : xcd 229 51 = oGoto 55 := rfl
theorem r229_51 : zr 229 51 [v0, v1, v2, v3, v4, v5, v6, v7, v8, v9, v10] st u P = zr 229 55 [v0, v1, v2, v3, v4, v5, v6, v7, v8, v9, v10] st u P := zr_Goto k229_51
theorem k229_54 : xcd 229 54 = oIl 2 55 := rfl
theorem r229_54 : zr 229 54 [v0, v1, .int x2, v3, v4, v5, v6, v7, v8, v9, v10] st u P = zr 229 55 [v0, v1, .int x2, v3, v4, v5, v6, v7, v8, v9, v10] (.int x2 :: st) u P := zr_Il k229_54 rfl
theorem k229_55 : xcd 229 55 = oIs 8 57 := rfl
theorem r229_55 : zr 229 55 [v0, v1, v2, v3, v4, v5, v6, .int x7, v8, v9, v10] (.int y1 :: st) u P = zr 229 57 [v0, v1, v2, v3, v4, v5, v6, .int x7, .int y1, v9, v10] st u P := zr_Is k229_55 ⟨Nat.le_of_ble_eq_true rfl, rfl⟩
theorem k229_57 : xcd 229 57 = oIl 6 59 := rfl
theorem r229_57 : zr 229 57 [v0, v1, v2, v3, v4, v5, .int x6, v7, v8, v9, v10] st u P = zr 229 59 [v0, v1, v2, v3, v4, v5, .int x6, v7, v8, v9, v10] (.int x6 :: st) u P := zr_Il k229_57 rfl
theorem k229_59 : xcd 229 59 = oIf (fun x => decide (x = 0)) 66 62 := rfl
theorem r229_59 : zr 229 59 [v0, v1, v2, v3, v4, v5, v6, v7, v8, v9, v10] (.int y1 :: st) u P = (if y1 = 0 then zr 229 66 [v0, v1, v2, v3, v4, v5, v6, v7, v8, v9, v10] st u P else zr 229 62 [v0, v1, v2, v3, v4, v5, v6, v7, v8, v9, v10] st u P) := zr_If k229_59
theorem k229_62 : xcd 229 62 = oIl 2 63 := rfl
theorem r229_62 : zr 229 62 [v0, v1, .int x2, v3, v4, v5, v6, v7, v8, v9, v10] st u P = zr 229 63 [v0, v1, .int x2, v3, v4, v5, v6, v7, v8, v9, v10] (.int x2 :: st) u P := zr_Il k229_62 rfl
theorem k229_63 : xcd 229 63 = oGoto 67 := rfl
theorem r229_63 : zr 229 63 [v0, v1, v2, v3, v4, v5, v6, v7, v8, v9, v10] st u P = zr 229 67 [v0, v1, v2, v3, v4, v5, v6, v7, v8, v9, v10] st u P := zr_Goto k229_63
theorem k229_66 : xcd 229 66 = oIl 3 67 := rfl
theorem r229_66 : zr 229 66 [v0, v1, v2, .int x3, v4, v5, v6, v7, v8, v9, v10] st u P = zr 229 67 [v0, v1, v2, .int x3, v4, v5, v6, v7, v8, v9, v10] (.int x3 :: st) u P := zr_Il k229_66 rfl
theorem k229_67 : xcd 229 67 = oIs 9 69 := rfl
theorem r229_67 : zr 229 67 [v0, v1, v2, v3, v4, v5, v6, v7, .int x8, v9, v10] (.int y1 :: st) u P = zr 229 69 [v0, v1, v2, v3, v4, v5, v6, v7, .int x8, .int y1, v10] st u P := zr_Is k229_67 ⟨Nat.le_of_ble_eq_true rfl, rfl⟩
theorem k229_69 : xcd 229 69 = oAl 0 70 := rfl
theorem r229_69 : zr 229 69 [.ref a0, v1, v2, v3, v4, v5, v6, v7, v8, v9, v10] st u P = zr 229 70 [.ref a0, v1, v2, v3, v4, v5, v6, v7, v8, v9, v10] (.ref a0 :: st) u P := zr_Al k229_69 rfl
theorem k229_70 : xcd 229 70 = oIl 1 71 := rfl
theorem r229_70 : zr 229 70 [v0, .int x1, v2, v3, v4, v5, v6, v7, v8, v9, v10] st u P = zr 229 71 [v0, .int x1, v2, v3, v4, v5, v6, v7, v8, v9, v10] (.int x1 :: st) u P := zr_Il k229_70 rfl
theorem k229_71 : xcd 229 71 = oIl 9 73 := rfl
theorem r229_71 : zr 229 71 [v0, v1, v2, v3, v4, v5, v6, v7, v8, .int x9, v10] st u P = zr 229 73 [v0, v1, v2, v3, v4, v5, v6, v7, v8, .int x9, v10] (.int x9 :: st) u P := zr_Il k229_71 rfl
theorem k229_73 : xcd 229 73 = oCalV 11 221 2 76 := rfl
theorem r229_73 : zr 229 73 [v0, v1, v2, v3, v4, v5, v6, v7, v8, v9, v10] (.int y2 :: .int y1 :: .ref b8 :: st) u P = ((xIs u b8 11 ∧ xcat st ≤ 8) ∧ zr 221 0 [.ref b8, .int y1, .int y2] [] u (fun r u2 => zr 229 76 [v0, v1, v2, v3, v4, v5, v6, v7, v8, v9, v10] (r.toList ++ st) u2 P)) := zr_CV k229_73 rfl rfl rfl ⟨Nat.le_of_ble_eq_true rfl, Nat.succ_ne_zero _, by decide⟩ rfl
theorem k229_76 : xcd 229 76 = oAl 0 77 := rfl
theorem r229_76 : zr 229 76 [.ref a0, v1, v2, v3, v4, v5, v6, v7, v8, v9, v10] st u P = zr 229 77 [.ref a0, v1, v2, v3, v4, v5, v6, v7, v8, v9, v10] (.ref a0 :: st) u P := zr_Al k229_76 rfl
theorem k229_77 : xcd 229 77 = oIl 1 78 := rfl
theorem r229_77 : zr 229 77 [v0, .int x1, v2, v3, v4, v5, v6, v7, v8, v9, v10] st u P = zr 229 78 [v0, .int x1, v2, v3, v4, v5, v6, v7, v8, v9, v10] (.int x1 :: st) u P := zr_Il k229_77 rfl
theorem k229_78 : xcd 229 78 = oIl 8 80 := rfl
theorem r229_78 : zr 229 78 [v0, v1, v2, v3, v4, v5, v6, v7, .int x8, v9, v10] st u P = zr 229 80 [v0, v1, v2, v3, v4, v5, v6, v7, .int x8, v9, v10] (.int x8 :: st) u P := zr_Il k229_78 rfl
theorem k229_80 : xcd 229 80 = oCalV 11 221 2 83 := rfl
theorem r229_80 : zr 229 80 [v0, v1, v2, v3, v4, v5, v6, v7, v8, v9, v10] (.int y2 :: .int y1 :: .ref b8 :: st) u P = ((xIs u b8 11 ∧ xcat st ≤ 8) ∧ zr 221 0 [.ref b8, .int y1, .int y2] [] u (fun r u2 => zr 229 83 [v0, v1, v2, v3, v4, v5, v6, v7, v8, v9, v10] (r.toList ++ st) u2 P)) := zr_CV k229_80 rfl rfl rfl ⟨Nat.le_of_ble_eq_true rfl, Nat.succ_ne_zero _, by decide⟩ rfl
theorem k229_83 : xcd 229 83 = oB (fun x y => x - y) 84 := rfl
theorem r229_83 : zr 229 83 [v0, v1, v2, v3, v4, v5, v6, v7, v8, v9, v10] (.int y1 :: .int y2 :: st) u P = zr 229 84 [v0, v1, v2, v3, v4, v5, v6, v7, v8, v9, v10] (.int (y2 - y1) :: st) u P := zr_B k229_83
theorem k229_84 : xcd 229 84 = oIs 10 86 := rfl
theorem r229_84 : zr 229 84 [v0, v1, v2, v3, v4, v5, v6, v7, v8, .int x9, v10] (.int y1 :: st) u P = zr 229 86 [v0, v1, v2, v3, v4, v5, v6, v7, v8, .int x9, .int y1] st u P := zr_Is k229_84 ⟨Nat.le_of_ble_eq_true rfl, rfl⟩
theorem k229_86 : xcd 229 86 = oAl 0 87 := rfl
theorem r229_86 : zr 229 86 [.ref a0, v1, v2, v3, v4, v5, v6, v7, v8, v9, v10] st u P = zr 229 87 [.ref a0, v1, v2, v3, v4, v5, v6, v7, v8, v9, v10] (.ref a0 :: st) u P := zr_Al k229_86 rfl
theorem k229_87 : xcd 229 87 = oIl 1 88 := rfl
theorem r229_87 : zr 229 87 [v0, .int x1, v2, v3, v4, v5, v6, v7, v8, v9, v10] st u P = zr 229 88 [v0, .int x1, v2, v3, v4, v5, v6, v7, v8, v9, v10] (.int x1 :: st) u P := zr_Il k229_87 rfl
theorem k229_88 : xcd 229 88 = oIl 8 90 := rfl
theorem r229_88 : zr 229 88 [v0, v1, v2, v3, v4, v5, v6, v7, .int x8, v9, v10] st u P = zr 229 90 [v0, v1, v2, v3, v4, v5, v6, v7, .int x8, v9, v10] (.int x8 :: st) u P := zr_Il k229_88 rfl
theorem k229_90 : xcd 229 90 = oCalV 11 220 2 93 := rfl
theorem r229_90 : zr 229 90 [v0, v1, v2, v3, v4, v5, v6, v7, v8, v9, v10] (.int y2 :: .int y1 :: .ref b8 :: st) u P = ((xIs u b8 11 ∧ xcat st ≤ 8) ∧ zr 220 0 [.ref b8, .int y1, .int y2] [] u (fun r u2 => zr 229 93 [v0, v1, v2, v3, v4, v5, v6, v7, v8, v9, v10] (r.toList ++ st) u2 P)) := zr_CV k229_90 rfl rfl rfl ⟨Nat.le_of_ble_eq_true rfl, Nat.succ_ne_zero _, by decide⟩ rfl
theorem k229_93 : xcd 229 93 = oIl 4 95 := rfl
theorem r229_93 : zr 229 93 [v0, v1, v2, v3, .int x4, v5, v6, v7, v8, v9, v10] st u P = zr 229 95 [v0, v1, v2, v3, .int x4, v5, v6, v7, v8, v9, v10] (.int x4 :: st) u P := zr_Il k229_93 rfl
theorem k229_95 : xcd 229 95 = oB (fun x y => x - y) 96 := rfl
theorem r229_95 : zr 229 95 [v0, v1, v2, v3, v4, v5, v6, v7, v8, v9, v10] (.int y1 :: .int y2 :: st) u P = zr 229 96 [v0, v1, v2, v3, v4, v5, v6, v7, v8, v9, v10] (.int (y2 - y1) :: st) u P := zr_B k229_95
theorem k229_96 : xcd 229 96 = oIl 10 98 := rfl
theorem r229_96 : zr 229 96 [v0, v1, v2, v3, v4, v5, v6, v7, v8, v9, .int x10] st u P = zr 229 98 [v0, v1, v2, v3, v4, v5, v6, v7, v8, v9, .int x10] (.int x10 :: st) u P := zr_Il k229_96 rfl
theorem k229_98 : xcd 229 98 = oB (fun x y => x * y) 99 := rfl
theorem r229_98 : zr 229 98 [v0, v1, v2, v3, v4, v5, v6, v7, v8, v9, v10] (.int y1 :: .int y2 :: st) u P = zr 229 99 [v0, v1, v2, v3, v4, v5, v6, v7, v8, v9, v10] (.int (y2 * y1) :: st) u P := zr_B k229_98
theorem k229_99 : xcd 229 99 = oIl 5 101 := rfl
theorem r229_99 : zr 229 99 [v0, v1, v2, v3, v4, .int x5, v6, v7, v8, v9, v10] st u P = zr 229 101 [v0, v1, v2, v3, v4, .int x5, v6, v7, v8, v9, v10] (.int x5 :: st) u P := zr_Il k229_99 rfl
theorem k229_101 : xcd 229 101 = oAl 0 102 := rfl
theorem r229_101 : zr 229 101 [.ref a0, v1, v2, v3, v4, v5, v6, v7, v8, v9, v10] st u P = zr 229 102 [.ref a0, v1, v2, v3, v4, v5, v6, v7, v8, v9, v10] (.ref a0 :: st) u P := zr_Al k229_101 rfl
theorem k229_102 : xcd 229 102 = oIl 1 103 := rfl
theorem r229_102 : zr 229 102 [v0, .int x1, v2, v3, v4, v5, v6, v7, v8, v9, v10] st u P = zr 229 103 [v0, .int x1, v2, v3, v4, v5, v6, v7, v8, v9, v10] (.int x1 :: st) u P := zr_Il k229_102 rfl
theorem k229_103 : xcd 229 103 = oIl 8 105 := rfl
theorem r229_103 : zr 229 103 [v0, v1, v2, v3, v4, v5, v6, v7, .int x8, v9, v10] st u P = zr 229 105 [v0, v1, v2, v3, v4, v5, v6, v7, .int x8, v9, v10] (.int x8 :: st) u P := zr_Il k229_103 rfl
theorem k229_105 : xcd 229 105 = oCalV 11 221 2 108 := rfl
theorem r229_105 : zr 229 105 [v0, v1, v2, v3, v4, v5, v6, v7, v8, v9, v10] (.int y2 :: .int y1 :: .ref b8 :: st) u P = ((xIs u b8 11 ∧ xcat st ≤ 8) ∧ zr 221 0 [.ref b8, .int y1, .int y2] [] u (fun r u2 => zr 229 108 [v0, v1, v2, v3, v4, v5, v6, v7, v8, v9, v10] (r.toList ++ st) u2 P)) := zr_CV k229_105 rfl rfl rfl ⟨Nat.le_of_ble_eq_true rfl, Nat.succ_ne_zero _, by decide⟩ rfl
theorem k229_108 : xcd 229 108 = oB (fun x y => x - y) 109 := rfl
theorem r229_108 : zr 229 108 [v0, v1, v2, v3, v4, v5, v6, v7, v8, v9, v10] (.int y1 :: .int y2 :: st) u P = zr 229 109 [v0, v1, v2, v3, v4, v5, v6, v7, v8, v9, v10] (.int (y2 - y1) :: st) u P := zr_B k229_108
theorem k229_109 : xcd 229 109 = oAl 0 110 := rfl
theorem r229_109 : zr 229 109 [.ref a0, v1, v2, v3, v4, v5, v6, v7, v8, v9, v10] st u P = zr 229 110 [.ref a0, v1, v2, v3, v4, v5, v6, v7, v8, v9, v10] (.ref a0 :: st) u P := zr_Al k229_109 rfl
theorem k229_110 : xcd 229 110 = oIl 1 111 := rfl
theorem r229_110 : zr 229 110 [v0, .int x1, v2, v3, v4, v5, v6, v7, v8, v9, v10] st u P = zr 229 111 [v0, .int x1, v2, v3, v4, v5, v6, v7, v8, v9, v10] (.int x1 :: st) u P := zr_Il k229_110 rfl
theorem k229_111 : xcd 229 111 = oIl 9 113 := rfl
theorem r229_111 : zr 229 111 [v0, v1, v2, v3, v4, v5, v6, v7, v8, .int x9, v10] st u P = zr 229 113 [v0, v1, v2, v3, v4, v5, v6, v7, v8, .int x9, v10] (.int x9 :: st) u P := zr_Il k229_111 rfl
theorem k229_113 : xcd 229 113 = oCalV 11 220 2 116 := rfl
theorem r229_113 : zr 229 113 [v0, v1, v2, v3, v4, v5, v6, v7, v8, v9, v10] (.int y2 :: .int y1 :: .ref b8 :: st) u P = ((xIs u b8 11 ∧ xcat st ≤ 8) ∧ zr 220 0 [.ref b8, .int y1, .int y2] [] u (fun r u2 => zr 229 116 [v0, v1, v2, v3, v4, v5, v6, v7, v8, v9, v10] (r.toList ++ st) u2 P)) := zr_CV k229_113 rfl rfl rfl ⟨Nat.le_of_ble_eq_true rfl, Nat.succ_ne_zero _, by decide⟩ rfl
theorem k229_116 : xcd 229 116 = oAl 0 117 := rfl
theorem r229_116 : zr 229 116 [.ref a0, v1, v2, v3, v4, v5, v6, v7, v8, v9, v10] st u P = zr 229 117 [.ref a0, v1, v2, v3, v4, v5, v6, v7, v8, v9, v10] (.ref a0 :: st) u P := zr_Al k229_116 rfl
theorem k229_117 : xcd 229 117 = oIl 1 118 := rfl
theorem r229_117 : zr 229 117 [v0, .int x1, v2, v3, v4, v5, v6, v7, v8, v9, v10] st u P = zr 229 118 [v0, .int x1, v2, v3, v4, v5, v6, v7, v8, v9, v10] (.int x1 :: st) u P := zr_Il k229_117 rfl
theorem k229_118 : xcd 229 118 = oIl 8 120 := rfl
theorem r229_118 : zr 229 118 [v0, v1, v2, v3, v4, v5, v6, v7, .int x8, v9, v10] st u P = zr 229 120 [v0, v1, v2, v3, v4, v5, v6, v7, .int x8, v9, v10] (.int x8 :: st) u P := zr_Il k229_118 rfl
theorem k229_120 : xcd 229 120 = oCalV 11 220 2 123 := rfl
theorem r229_120 : zr 229 120 [v0, v1, v2, v3, v4, v5, v6, v7, v8, v9, v10] (.int y2 :: .int y1 :: .ref b8 :: st) u P = ((xIs u b8 11 ∧ xcat st ≤ 8) ∧ zr 220 0 [.ref b8, .int y1, .int y2] [] u (fun r u2 => zr 229 123 [v0, v1, v2, v3, v4, v5, v6, v7, v8, v9, v10] (r.toList ++ st) u2 P)) := zr_CV k229_120 rfl rfl rfl ⟨Nat.le_of_ble_eq_true rfl, Nat.succ_ne_zero _, by decide⟩ rfl
theorem k229_123 : xcd 229 123 = oB (fun x y => x - y) 124 := rfl
theorem r229_123 : zr 229 123 [v0, v1, v2, v3, v4, v5, v6, v7, v8, v9, v10] (.int y1 :: .int y2 :: st) u P = zr 229 124 [v0, v1, v2, v3, v4, v5, v6, v7, v8, v9, v10] (.int (y2 - y1) :: st) u P := zr_B k229_123
theorem k229_124 : xcd 229 124 = oB (fun x y => x * y) 125 := rfl
theorem r229_124 : zr 229 124 [v0, v1, v2, v3, v4, v5, v6, v7, v8, v9, v10] (.int y1 :: .int y2 :: st) u P = zr 229 125 [v0, v1, v2, v3, v4, v5, v6, v7, v8, v9, v10] (.int (y2 * y1) :: st) u P := zr_B k229_124
theorem k229_125 : xcd 229 125 = oB (fun x y => x + y) 126 := rfl
theorem r229_125 : zr 229 125 [v0, v1, v2, v3, v4, v5, v6, v7, v8, v9, v10] (.int y1 :: .int y2 :: st) u P = zr 229 126 [v0, v1, v2, v3, v4, v5, v6, v7, v8, v9, v10] (.int (y2 + y1) :: st) u P := zr_B k229_125
theorem k229_126 : xcd 229 126 = oIf (fun x => decide (x ≤ 0)) 133 129 := rfl
theorem r229_126 : zr 229 126 [v0, v1, v2, v3, v4, v5, v6, v7, v8, v9, v10] (.int y1 :: st) u P = (if y1 ≤ 0 then zr 229 133 [v0, v1, v2, v3, v4, v5, v6, v7, v8, v9, v10] st u P else zr 229 129 [v0, v1, v2, v3, v4, v5, v6, v7, v8, v9, v10] st u P) := zr_If k229_126
theorem k229_129 : xcd 229 129 = oI 1 130 := rfl
theorem r229_129 : zr 229 129 [v0, v1, v2, v3, v4, v5, v6, v7, v8, v9, v10] st u P = zr 229 130 [v0, v1, v2, v3, v4, v5, v6, v7, v8, v9, v10] (.int 1 :: st) u P := zr_I k229_129
theorem k229_130 : xcd 229 130 = oGoto 134 := rfl
theorem r229_130 : zr 229 130 [v0, v1, v2, v3, v4, v5, v6, v7, v8, v9, v10] st u P = zr 229 134 [v0, v1, v2, v3, v4, v5, v6, v7, v8, v9, v10] st u P := zr_Goto k229_130
theorem k229_133 : xcd 229 133 = oI 0 134 := rfl
theorem r229_133 : zr 229 133 [v0, v1, v2, v3, v4, v5, v6, v7, v8, v9, v10] st u P = zr 229 134 [v0, v1, v2, v3, v4, v5, v6, v7, v8, v9, v10] (.int 0 :: st) u P := zr_I k229_133
theorem k229_134 : xcd 229 134 = oRz 0 := rfl
theorem r229_134 : zr 229 134 [v0, v1, v2, v3, v4, v5, v6, v7, v8, v9, v10] [.int y1] u P = ((y1 = 0 ∨ y1 = 1) ∧ P (some (.int y1)) u) := zr_Rz k229_134
theorem k230_0 : xcd 230 0 = oAl 0 1 := rfl
theorem r230_0 : zr 230 0 [.ref a0, v1, v2, v3, v4, v5, v6, v7, v8] st u P = zr 230 1 [.ref a0, v1, v2, v3, v4, v5, v6, v7, v8] (.ref a0 :: st) u P := zr_Al k230_0 rfl
theorem k230_1 : xcd 230 1 = oIl 1 2 := rfl
theorem r230_1 : zr 230 1 [v0, .int x1, v2, v3, v4, v5, v6, v7, v8] st u P = zr 230 2 [v0, .int x1, v2, v3, v4, v5, v6, v7, v8] (.int x1 :: st) u P := zr_Il k230_1 rfl
theorem k230_2 : xcd 230 2 = oIl 2 3 := rfl
theorem r230_2 : zr 230 2 [v0, v1, .int x2, v3, v4, v5, v6, v7, v8] st u P = zr 230 3 [v0, v1, .int x2, v3, v4, v5, v6, v7, v8] (.int x2 :: st) u P := zr_Il k230_2 rfl
theorem k230_3 : xcd 230 3 = oCalV 11 218 2 6 := rfl
theorem r230_3 : zr 230 3 [v0, v1, v2, v3, v4, v5, v6, v7, v8] (.int y2 :: .int y1 :: .ref b8 :: st) u P = ((xIs u b8 11 ∧ xcat st ≤ 8) ∧ zr 218 0 [.ref b8, .int y1, .int y2, .null, .null] [] u (fun r u2 => zr 230 6 [v0, v1, v2, v3, v4, v5, v6, v7, v8] (r.toList ++ st) u2 P)) := zr_CV k230_3 rfl rfl rfl ⟨Nat.le_of_ble_eq_true rfl, Nat.succ_ne_zero _, by decide⟩ rfl
theorem k230_6 : xcd 230 6 = oIs 5 8 := rfl
theorem r230_6 : zr 230 6 [v0, v1, v2, v3, .int x4, v5, v6, v7, v8] (.int y1 :: st) u P = zr 230 8 [v0, v1, v2, v3, .int x4, .int y1, v6, v7, v8] st u P := zr_Is k230_6 ⟨Nat.le_of_ble_eq_true rfl, rfl⟩
theorem k230_8 : xcd 230 8 = oAl 0 9 := rfl
theorem r230_8 : zr 230 8 [.ref a0, v1, v2, v3, v4, v5, v6, v7, v8] st u P = zr 230 9 [.ref a0, v1, v2, v3, v4, v5, v6, v7, v8] (.ref a0 :: st) u P := zr_Al k230_8 rfl
theorem k230_9 : xcd 230 9 = oIl 1 10 := rfl
theorem r230_9 : zr 230 9 [v0, .int x1, v2, v3, v4, v5, v6, v7, v8] st u P = zr 230 10 [v0, .int x1, v2, v3, v4, v5, v6, v7, v8] (.int x1 :: st) u P := zr_Il k230_9 rfl
theorem k230_10 : xcd 230 10 = oIl 2 11 := rfl
theorem r230_10 : zr 230 10 [v0, v1, .int x2, v3, v4, v5, v6, v7, v8] st u P = zr 230 11 [v0, v1, .int x2, v3, v4, v5, v6, v7, v8] (.int x2 :: st) u P := zr_Il k230_10 rfl
theorem k230_11 : xcd 230 11 = oCalV 11 219 2 14 := rfl
theorem r230_11 : zr 230 11 [v0, v1, v2, v3, v4, v5, v6, v7, v8] (.int y2 :: .int y1 :: .ref b8 :: st) u P = ((xIs u b8 11 ∧ xcat st ≤ 8) ∧ zr 219 0 [.ref b8, .int y1, .int y2, .null] [] u (fun r u2 => zr 230 14 [v0, v1, v2, v3, v4, v5, v6, v7, v8] (r.toList ++ st) u2 P)) := zr_CV k230_11 rfl rfl rfl ⟨Nat.le_of_ble_eq_true rfl, Nat.succ_ne_zero _, by decide⟩ rfl
theorem k230_14 : xcd 230 14 = oIs 6 16 := rfl
theorem r230_14 : zr 230 14 [v0, v1, v2, v3, v4, .int x5, v6, v7, v8] (.int y1 :: st) u P = zr 230 16 [v0, v1, v2, v3, v4, .int x5, .int y1, v7, v8] st u P := zr_Is k230_14 ⟨Nat.le_of_ble_eq_true rfl, rfl⟩
theorem k230_16 : xcd 230 16 = oI 0 17 := rfl
theorem r230_16 : zr 230 16 [v0, v1, v2, v3, v4, v5, v6, v7, v8] st u P = zr 230 17 [v0, v1, v2, v3, v4, v5, v6, v7, v8] (.int 0 :: st) u P := zr_I k230_16
theorem k230_17 : xcd 230 17 = oIs 7 19 := rfl
theorem r230_17 : zr 230 17 [v0, v1, v2, v3, v4, v5, .int x6, v7, v8] (.int y1 :: st) u P = zr 230 19 [v0, v1, v2, v3, v4, v5, .int x6, .int y1, v8] st u P := zr_Is k230_17 ⟨Nat.le_of_ble_eq_true rfl, rfl⟩
theorem k230_19 : xcd 230 19 = oI 0 20 := rfl
theorem r230_19 : zr 230 19 [v0, v1, v2, v3, v4, v5, v6, v7, v8] st u P = zr 230 20 [v0, v1, v2, v3, v4, v5, v6, v7, v8] (.int 0 :: st) u P := zr_I k230_19
theorem k230_20 : xcd 230 20 = oIs 8 22 := rfl
theorem r230_20 : zr 230 20 [v0, v1, v2, v3, v4, v5, v6, .int x7, v8] (.int y1 :: st) u P = zr 230 22 [v0, v1, v2, v3, v4, v5, v6, .int x7, .int y1] st u P := zr_Is k230_20 ⟨Nat.le_of_ble_eq_true rfl, rfl⟩
theorem k230_22 : xcd 230 22 = oIl 8 24 := rfl
theorem r230_22 : zr 230 22 [v0, v1, v2, v3, v4, v5, v6, v7, .int x8] st u P = zr 230 24 [v0, v1, v2, v3, v4, v5, v6, v7, .int x8] (.int x8 :: st) u P := zr_Il k230_22 rfl
theorem k230_24 : xcd 230 24 = oIl 6 26 := rfl
theorem r230_24 : zr 230 24 [v0, v1, v2, v3, v4, v5, .int x6, v7, v8] st u P = zr 230 26 [v0, v1, v2, v3, v4, v5, .int x6, v7, v8] (.int x6 :: st) u P := zr_Il k230_24 rfl
theorem k230_26 : xcd 230 26 = oCmp (fun x y => decide (y ≤ x)) 68 29 := rfl
theorem r230_26 : zr 230 26 [v0, v1, v2, v3, v4, v5, v6, v7, v8] (.int y1 :: .int y2 :: st) u P = (if y1 ≤ y2 then zr 230 68 [v0, v1, v2, v3, v4, v5, v6, v7, v8] st u P else zr 230 29 [v0, v1, v2, v3, v4, v5, v6, v7, v8] st u P) := zr_Cmp k230_26
theorem k230_29 : xcd 230 29 = oAl 0 30 := rfl
theorem r230_29 : zr 230 29 [.ref a0, v1, v2, v3, v4, v5, v6, v7, v8] st u P = zr 230 30 [.ref a0, v1, v2, v3, v4, v5, v6, v7, v8] (.ref a0 :: st) u P := zr_Al k230_29 rfl
theorem k230_30 : xcd 230 30 = oIl 5 32 := rfl
theorem r230_30 : zr 230 30 [v0, v1, v2, v3, v4, .int x5, v6, v7, v8] st u P = zr 230 32 [v0, v1, v2, v3, v4, .int x5, v6, v7, v8] (.int x5 :: st) u P := zr_Il k230_30 rfl
theorem k230_32 : xcd 230 32 = oIl 8 34 := rfl
theorem r230_32 : zr 230 32 [v0, v1, v2, v3, v4, v5, v6, v7, .int x8] st u P = zr 230 34 [v0, v1, v2, v3, v4, v5, v6, v7, .int x8] (.int x8 :: st) u P := zr_Il k230_32 rfl
theorem k230_34 : xcd 230 34 = oIl 8 36 := rfl
theorem r230_34 : zr 230 34 [v0, v1, v2, v3, v4, v5, v6, v7, .int x8] st u P = zr 230 36 [v0, v1, v2, v3, v4, v5, v6, v7, .int x8] (.int x8 :: st) u P := zr_Il k230_34 rfl
theorem k230_36 : xcd 230 36 = oI 1 37 := rfl
theorem r230_36 : zr 230 36 [v0, v1, v2, v3, v4, v5, v6, v7, v8] st u P = zr 230 37 [v0, v1, v2, v3, v4, v5, v6, v7, v8] (.int 1 :: st) u P := zr_I k230_36
theorem k230_37 : xcd 230 37 = oB (fun x y => x + y) 38 := rfl
theorem r230_37 : zr 230 37 [v0, v1, v2, v3, v4, v5, v6, v7, v8] (.int y1 :: .int y2 :: st) u P = zr 230 38 [v0, v1, v2, v3, v4, v5, v6, v7, v8] (.int (y2 + y1) :: st) u P := zr_B k230_37
theorem k230_38 : xcd 230 38 = oIl 6 40 := rfl
theorem r230_38 : zr 230 38 [v0, v1, v2, v3, v4, v5, .int x6, v7, v8] st u P = zr 230 40 [v0, v1, v2, v3, v4, v5, .int x6, v7, v8] (.int x6 :: st) u P := zr_Il k230_38 rfl
theorem k230_40 : xcd 230 40 = oRem 41 := rfl
theorem r230_40 : zr 230 40 [v0, v1, v2, v3, v4, v5, v6, v7, v8] (.int y1 :: .int y2 :: st) u P = (¬ y1 = 0 ∧ zr 230 41 [v0, v1, v2, v3, v4, v5, v6, v7, v8] (.int (y2 - y2 / y1 * y1) :: st) u P) := zr_Rem k230_40
theorem k230_41 : xcd 230 41 = oIl 3 42 := rfl
theorem r230_41 : zr 230 41 [v0, v1, v2, .int x3, v4, v5, v6, v7, v8] st u P = zr 230 42 [v0, v1, v2, .int x3, v4, v5, v6, v7, v8] (.int x3 :: st) u P := zr_Il k230_41 rfl
theorem k230_42 : xcd 230 42 = oIl 4 44 := rfl
theorem r230_42 : zr 230 42 [v0, v1, v2, v3, .int x4, v5, v6, v7, v8] st u P = zr 230 44 [v0, v1, v2, v3, .int x4, v5, v6, v7, v8] (.int x4 :: st) u P := zr_Il k230_42 rfl
theorem k230_44 : xcd 230 44 = oCalV 11 229 5 47 := rfl
theorem r230_44 : zr 230 44 [v0, v1, v2, v3, v4, v5, v6, v7, v8] (.int y5 :: .int y4 :: .int y3 :: .int y2 :: .int y1 :: .ref b8 :: st) u P = ((xIs u b8 11 ∧ xcat st ≤ 8) ∧ zr 229 0 [.ref b8, .int y1, .int y2, .int y3, .int y4, .int y5, .null, .null, .null, .null, .null] [] u (fun r u2 => zr 230 47 [v0, v1, v2, v3, v4, v5, v6, v7, v8] (r.toList ++ st) u2 P)) := zr_CV k230_44 rfl rfl rfl ⟨Nat.le_of_ble_eq_true rfl, Nat.succ_ne_zero _, by decide⟩ rfl
theorem k230_47 : xcd 230 47 = oIf (fun x => decide (x = 0)) 62 50 := rfl
theorem r230_47 : zr 230 47 [v0, v1, v2, v3, v4, v5, v6, v7, v8] (.int y1 :: st) u P = (if y1 = 0 then zr 230 62 [v0, v1, v2, v3, v4, v5, v6, v7, v8] st u P else zr 230 50 [v0, v1, v2, v3, v4, v5, v6, v7, v8] st u P) := zr_If k230_47
theorem k230_50 : xcd 230 50 = oIl 7 52 := rfl
theorem r230_50 : zr 230 50 [v0, v1, v2, v3, v4, v5, v6, .int x7, v8] st u P = zr 230 52 [v0, v1, v2, v3, v4, v5, v6, .int x7, v8] (.int x7 :: st) u P := zr_Il k230_50 rfl
theorem k230_52 : xcd 230 52 = oIf (fun x => decide (¬ x = 0)) 59 55 := rfl
theorem r230_52 : zr 230 52 [v0, v1, v2, v3, v4, v5, v6, v7, v8] (.int y1 :: st) u P = (if ¬ y1 = 0 then zr 230 59 [v0, v1, v2, v3, v4, v5, v6, v7, v8] st u P else zr 230 55 [v0, v1, v2, v3, v4, v5, v6, v7, v8] st u P) := zr_If k230_52
theorem k230_55 : xcd 230 55 = oI 1 56 := rfl
theorem r230_55 : zr 230 55 [v0, v1, v2, v3, v4, v5, v6, v7, v8] st u P = zr 230 56 [v0, v1, v2, v3, v4, v5, v6, v7, v8] (.int 1 :: st) u P := zr_I k230_55
theorem k230_56 : xcd 230 56 = oGoto 60 := rfl
theorem r230_56 : zr 230 56 [v0, v1, v2, v3, v4, v5, v6, v7, v8] st u P = zr 230 60 [v0, v1, v2, v3, v4, v5, v6, v7, v8] st u P := zr_Goto k230_56
theorem k230_59 : xcd 230 59 = oI 0 60 := rfl
theorem r230_59 : zr 230 59 [v0, v1, v2, v3, v4, v5, v6, v7, v8] st u P = zr 230 60 [v0, v1, v2, v3, v4, v5, v6, v7, v8] (.int 0 :: st) u P := zr_I k230_59
theorem k230_60 : xcd 230 60 = oIs 7 62 := rfl
theorem r230_60 : zr 230 60 [v0, v1, v2, v3, v4, v5, .int x6, v7, v8] (.int y1 :: st) u P = zr 230 62 [v0, v1, v2, v3, v4, v5, .int x6, .int y1, v8] st u P := zr_Is k230_60 ⟨Nat.le_of_ble_eq_true rfl, rfl⟩
theorem k230_62 : xcd 230 62 = oInc 8 1 65 := rfl
theorem r230_62 : zr 230 62 [v0, v1, v2, v3, v4, v5, v6, .int x7, .int x8] st u P = zr 230 65 [v0, v1, v2, v3, v4, v5, v6, .int x7, .int (x8 + 1)] st u P := zr_Inc k230_62 rfl rfl
theorem k230_65 : xcd 230 65 = oGoto 22 := rfl
theorem r230_65 : zr 230 65 [v0, v1, v2, v3, v4, v5, v6, v7, v8] st u P = zr 230 22 [v0, v1, v2, v3, v4, v5, v6, v7, v8] st u P := zr_Goto k230_65
theorem k230_68 : xcd 230 68 = oIl 7 70 := rfl
theorem r230_68 : zr 230 68 [v0, v1, v2, v3, v4, v5, v6, .int x7, v8] st u P = zr 230 70 [v0, v1, v2, v3, v4, v5, v6, .int x7, v8] (.int x7 :: st) u P := zr_Il k230_68 rfl
theorem k230_70 : xcd 230 70 = oRz 0 := rfl
theorem r230_70 : zr 230 70 [v0, v1, v2, v3, v4, v5, v6, v7, v8] [.int y1] u P = ((y1 = 0 ∨ y1 = 1) ∧ P (some (.int y1)) u) := zr_Rz k230_70
theorem k231_0 : xcd 231 0 = oAl 0 1 := rfl
theorem r231_0 : zr 231 0 [.ref a0, v1, v2, v3, v4, v5] st u P = zr 231 1 [.ref a0, v1, v2, v3, v4, v5] (.ref a0 :: st) u P := zr_Al k231_0 rfl
theorem k231_1 : xcd 231 1 = oI 0 2 := rfl
theorem r231_1 : zr 231 1 [v0, v1, v2, v3, v4, v5] st u P = zr 231 2 [v0, v1, v2, v3, v4, v5] (.int 0 :: st) u P := zr_I k231_1
theorem k231_2 : xcd 231 2 = oPI 11 0 5 := rfl
theorem r231_2 : zr 231 2 [v0, v1, v2, v3, v4, v5] (.int y1 :: .ref b1 :: st) u P = (xIs u b1 11 ∧ zr 231 5 [v0, v1, v2, v3, v4, v5] st (xsI u b1 0 y1) P) := zr_PI k231_2
theorem k231_5 : xcd 231 5 = oAl 0 6 := rfl
theorem r231_5 : zr 231 5 [.ref a0, v1, v2, v3, v4, v5] st u P = zr 231 6 [.ref a0, v1, v2, v3, v4, v5] (.ref a0 :: st) u P := zr_Al k231_5 rfl
theorem k231_6 : xcd 231 6 = oAl 0 7 := rfl
theorem r231_6 : zr 231 6 [.ref a0, v1, v2, v3, v4, v5] st u P = zr 231 7 [.ref a0, v1, v2, v3, v4, v5] (.ref a0 :: st) u P := zr_Al k231_6 rfl
theorem k231_7 : xcd 231 7 = oIl 1 8 := rfl
theorem r231_7 : zr 231 7 [v0, .int x1, v2, v3, v4, v5] st u P = zr 231 8 [v0, .int x1, v2, v3, v4, v5] (.int x1 :: st) u P := zr_Il k231_7 rfl
theorem k231_8 : xcd 231 8 = oCalV 11 214 1 11 := rfl
theorem r231_8 : zr 231 8 [v0, v1, v2, v3, v4, v5] (.int y1 :: .ref b8 :: st) u P = ((xIs u b8 11 ∧ xcat st ≤ 8) ∧ zr 214 0 [.ref b8, .int y1] [] u (fun r u2 => zr 231 11 [v0, v1, v2, v3, v4, v5] (r.toList ++ st) u2 P)) := zr_CV k231_8 rfl rfl rfl ⟨Nat.le_of_ble_eq_true rfl, Nat.succ_ne_zero _, by decide⟩ rfl
theorem k231_11 : xcd 231 11 = oIl 2 12 := rfl
theorem r231_11 : zr 231 11 [v0, v1, .int x2, v3, v4, v5] st u P = zr 231 12 [v0, v1, .int x2, v3, v4, v5] (.int x2 :: st) u P := zr_Il k231_11 rfl
theorem k231_12 : xcd 231 12 = oIl 3 13 := rfl
theorem r231_12 : zr 231 12 [v0, v1, v2, .int x3, v4, v5] st u P = zr 231 13 [v0, v1, v2, .int x3, v4, v5] (.int x3 :: st) u P := zr_Il k231_12 rfl
theorem k231_13 : xcd 231 13 = oIl 4 15 := rfl
theorem r231_13 : zr 231 13 [v0, v1, v2, v3, .int x4, v5] st u P = zr 231 15 [v0, v1, v2, v3, .int x4, v5] (.int x4 :: st) u P := zr_Il k231_13 rfl
theorem k231_15 : xcd 231 15 = oCalV 11 225 4 18 := rfl
theorem r231_15 : zr 231 15 [v0, v1, v2, v3, v4, v5] (.int y4 :: .int y3 :: .int y2 :: .int y1 :: .ref b8 :: st) u P = ((xIs u b8 11 ∧ xcat st ≤ 8) ∧ zr 225 0 [.ref b8, .int y1, .int y2, .int y3, .int y4, .null] [] u (fun r u2 => zr 231 18 [v0, v1, v2, v3, v4, v5] (r.toList ++ st) u2 P)) := zr_CV k231_15 rfl rfl rfl ⟨Nat.le_of_ble_eq_true rfl, Nat.succ_ne_zero _, by decide⟩ rfl
theorem k231_18 : xcd 231 18 = oIs 5 20 := rfl
theorem r231_18 : zr 231 18 [v0, v1, v2, v3, .int x4, v5] (.int y1 :: st) u P = zr 231 20 [v0, v1, v2, v3, .int x4, .int y1] st u P := zr_Is k231_18 ⟨Nat.le_of_ble_eq_true rfl, rfl⟩
theorem k231_20 : xcd 231 20 = oIl 5 22 := rfl
theorem r231_20 : zr 231 20 [v0, v1, v2, v3, v4, .int x5] st u P = zr 231 22 [v0, v1, v2, v3, v4, .int x5] (.int x5 :: st) u P := zr_Il k231_20 rfl
theorem k231_22 : xcd 231 22 = oIf (fun x => decide (x ≤ 0)) 34 25 := rfl
theorem r231_22 : zr 231 22 [v0, v1, v2, v3, v4, v5] (.int y1 :: st) u P = (if y1 ≤ 0 then zr 231 34 [v0, v1, v2, v3, v4, v5] st u P else zr 231 25 [v0, v1, v2, v3, v4, v5] st u P) := zr_If k231_22
theorem k231_25 : xcd 231 25 = oAl 0 26 := rfl
theorem r231_25 : zr 231 25 [.ref a0, v1, v2, v3, v4, v5] st u P = zr 231 26 [.ref a0, v1, v2, v3, v4, v5] (.ref a0 :: st) u P := zr_Al k231_25 rfl
theorem k231_26 : xcd 231 26 = oIl 5 28 := rfl
theorem r231_26 : zr 231 26 [v0, v1, v2, v3, v4, .int x5] st u P = zr 231 28 [v0, v1, v2, v3, v4, .int x5] (.int x5 :: st) u P := zr_Il k231_26 rfl
theorem k231_28 : xcd 231 28 = oCalV 11 172 1 31 := rfl
theorem r231_28 : zr 231 28 [v0, v1, v2, v3, v4, v5] (.int y1 :: .ref b8 :: st) u P = ((xIs u b8 11 ∧ xcat st ≤ 8) ∧ zr 172 0 [.ref b8, .int y1] [] u (fun r u2 => zr 231 31 [v0, v1, v2, v3, v4, v5] (r.toList ++ st) u2 P)) := zr_CV k231_28 rfl rfl rfl ⟨Nat.le_of_ble_eq_true rfl, Nat.succ_ne_zero _, by decide⟩ rfl
theorem k231_31 : xcd 231 31 = oGoto 55 := rfl
theorem r231_31 : zr 231 31 [v0, v1, v2, v3, v4, v5] st u P = zr 231 55 [v0, v1, v2, v3, v4, v5] st u P := zr_Goto k231_31
theorem k231_34 : xcd 231 34 = oAl 0 35 := rfl
theorem r231_34 : zr 231 34 [.ref a0, v1, v2, v3, v4, v5] st u P = zr 231 35 [.ref a0, v1, v2, v3, v4, v5] (.ref a0 :: st) u P := zr_Al k231_34 rfl
theorem k231_35 : xcd 231 35 = oAl 0 36 := rfl
theorem r231_35 : zr 231 35 [.ref a0, v1, v2, v3, v4, v5] st u P = zr 231 36 [.ref a0, v1, v2, v3, v4, v5] (.ref a0 :: st) u P := zr_Al k231_35 rfl
theorem k231_36 : xcd 231 36 = oIl 1 37 := rfl
theorem r231_36 : zr 231 36 [v0, .int x1, v2, v3, v4, v5] st u P = zr 231 37 [v0, .int x1, v2, v3, v4, v5] (.int x1 :: st) u P := zr_Il k231_36 rfl
theorem k231_37 : xcd 231 37 = oIl 2 38 := rfl
theorem r231_37 : zr 231 37 [v0, v1, .int x2, v3, v4, v5] st u P = zr 231 38 [v0, v1, .int x2, v3, v4, v5] (.int x2 :: st) u P := zr_Il k231_37 rfl
theorem k231_38 : xcd 231 38 = oIl 3 39 := rfl
theorem r231_38 : zr 231 38 [v0, v1, v2, .int x3, v4, v5] st u P = zr 231 39 [v0, v1, v2, .int x3, v4, v5] (.int x3 :: st) u P := zr_Il k231_38 rfl
theorem k231_39 : xcd 231 39 = oIl 4 41 := rfl
theorem r231_39 : zr 231 39 [v0, v1, v2, v3, .int x4, v5] st u P = zr 231 41 [v0, v1, v2, v3, .int x4, v5] (.int x4 :: st) u P := zr_Il k231_39 rfl
theorem k231_41 : xcd 231 41 = oCalV 11 230 4 44 := rfl
theorem r231_41 : zr 231 41 [v0, v1, v2, v3, v4, v5] (.int y4 :: .int y3 :: .int y2 :: .int y1 :: .ref b8 :: st) u P = ((xIs u b8 11 ∧ xcat st ≤ 8) ∧ zr 230 0 [.ref b8, .int y1, .int y2, .int y3, .int y4, .null, .null, .null, .null] [] u (fun r u2 => zr 231 44 [v0, v1, v2, v3, v4, v5] (r.toList ++ st) u2 P)) := zr_CV k231_41 rfl rfl rfl ⟨Nat.le_of_ble_eq_true rfl, Nat.succ_ne_zero _, by decide⟩ rfl
theorem k231_44 : xcd 231 44 = oIf (fun x => decide (x = 0)) 51 47 := rfl
theorem r231_44 : zr 231 44 [v0, v1, v2, v3, v4, v5] (.int y1 :: st) u P = (if y1 = 0 then zr 231 51 [v0, v1, v2, v3, v4, v5] st u P else zr 231 47 [v0, v1, v2, v3, v4, v5] st u P) := zr_If k231_44
theorem k231_47 : xcd 231 47 = oI 1 48 := rfl
theorem r231_47 : zr 231 47 [v0, v1, v2, v3, v4, v5] st u P = zr 231 48 [v0, v1, v2, v3, v4, v5] (.int 1 :: st) u P := zr_I k231_47
theorem k231_48 : xcd 231 48 = oGoto 52 := rfl
theorem r231_48 : zr 231 48 [v0, v1, v2, v3, v4, v5] st u P = zr 231 52 [v0, v1, v2, v3, v4, v5] st u P := zr_Goto k231_48
theorem k231_51 : xcd 231 51 = oI 0 52 := rfl
theorem r231_51 : zr 231 51 [v0, v1, v2, v3, v4, v5] st u P = zr 231 52 [v0, v1, v2, v3, v4, v5] (.int 0 :: st) u P := zr_I k231_51
theorem k231_52 : xcd 231 52 = oCalV 11 174 1 55 := rfl
theorem r231_52 : zr 231 52 [v0, v1, v2, v3, v4, v5] (.int y1 :: .ref b8 :: st) u P = ((xIs u b8 11 ∧ xcat st ≤ 8) ∧ zr 174 0 [.ref b8, .int y1] [] u (fun r u2 => zr 231 55 [v0, v1, v2, v3, v4, v5] (r.toList ++ st) u2 P)) := zr_CV k231_52 rfl rfl rfl ⟨Nat.le_of_ble_eq_true rfl, Nat.succ_ne_zero _, by decide⟩ rfl
theorem k231_55 : xcd 231 55 = oRi 0 := rfl
theorem r231_55 : zr 231 55 [v0, v1, v2, v3, v4, v5] [.int y1] u P = P (some (.int y1)) u := zr_Ri k231_55
theorem k232_0 : xcd 232 0 = oIl 1 1 := rfl
theorem r232_0 : zr 232 0 [v0, .int x1, v2] st u P = zr 232 1 [v0, .int x1, v2] (.int x1 :: st) u P := zr_Il k232_0 rfl
theorem k232_1 : xcd 232 1 = oIl 2 2 := rfl
theorem r232_1 : zr 232 1 [v0, v1, .int x2] st u P = zr 232 2 [v0, v1, .int x2] (.int x2 :: st) u P := zr_Il k232_1 rfl
theorem k232_2 : xcd 232 2 = oCmp (fun x y => decide (y ≤ x)) 14 5 := rfl
theorem r232_2 : zr 232 2 [v0, v1, v2] (.int y1 :: .int y2 :: st) u P = (if y1 ≤ y2 then zr 232 14 [v0, v1, v2] st u P else zr 232 5 [v0, v1, v2] st u P) := zr_Cmp k232_2
theorem k232_5 : xcd 232 5 = oIl 0 6 := rfl
theorem r232_5 : zr 232 5 [.int x0, v1, v2] st u P = zr 232 6 [.int x0, v1, v2] (.int x0 :: st) u P := zr_Il k232_5 rfl
theorem k232_6 : xcd 232 6 = oIl 1 7 := rfl
theorem r232_6 : zr 232 6 [v0, .int x1, v2] st u P = zr 232 7 [v0, .int x1, v2] (.int x1 :: st) u P := zr_Il k232_6 rfl
theorem k232_7 : xcd 232 7 = oIl 2 8 := rfl
theorem r232_7 : zr 232 7 [v0, v1, .int x2] st u P = zr 232 8 [v0, v1, .int x2] (.int x2 :: st) u P := zr_Il k232_7 rfl
theorem k232_8 : xcd 232 8 = oCal 175 3 11 := rfl
theorem r232_8 : zr 232 8 [v0, v1, v2] (.int y3 :: .int y2 :: .int y1 :: st) u P = (xcat st ≤ 8 ∧ zr 175 0 [.int y1, .int y2, .int y3] [] u (fun r u2 => zr 232 11 [v0, v1, v2] (r.toList ++ st) u2 P)) := zr_CS k232_8 (Nat.le_add_left _ _) rfl rfl ⟨Nat.le_of_ble_eq_true rfl, Nat.succ_ne_zero _, by decide⟩ rfl
theorem k232_11 : xcd 232 11 = oGoto 20 := rfl
theorem r232_11 : zr 232 11 [v0, v1, v2] st u P = zr 232 20 [v0, v1, v2] st u P := zr_Goto k232_11
theorem k232_14 : xcd 232 14 = oIl 0 15 := rfl
theorem r232_14 : zr 232 14 [.int x0, v1, v2] st u P = zr 232 15 [.int x0, v1, v2] (.int x0 :: st) u P := zr_Il k232_14 rfl
theorem k232_15 : xcd 232 15 = oIl 2 16 := rfl
theorem r232_15 : zr 232 15 [v0, v1, .int x2] st u P = zr 232 16 [v0, v1, .int x2] (.int x2 :: st) u P := zr_Il k232_15 rfl
theorem k232_16 : xcd 232 16 = oIl 1 17 := rfl
theorem r232_16 : zr 232 16 [v0, .int x1, v2] st u P = zr 232 17 [v0, .int x1, v2] (.int x1 :: st) u P := zr_Il k232_16 rfl
theorem k232_17 : xcd 232 17 = oCal 175 3 20 := rfl
theorem r232_17 : zr 232 17 [v0, v1, v2] (.int y3 :: .int y2 :: .int y1 :: st) u P = (xcat st ≤ 8 ∧ zr 175 0 [.int y1, .int y2, .int y3] [] u (fun r u2 => zr 232 20 [v0, v1, v2] (r.toList ++ st) u2 P)) := zr_CS k232_17 (Nat.le_add_left _ _) rfl rfl ⟨Nat.le_of_ble_eq_true rfl, Nat.succ_ne_zero _, by decide⟩ rfl
theorem k232_20 : xcd 232 20 = oRz 0 := rfl
theorem r232_20 : zr 232 20 [v0, v1, v2] [.int y1] u P = ((y1 = 0 ∨ y1 = 1) ∧ P (some (.int y1)) u) := zr_Rz k232_20
theorem k233_0 : xcd 233 0 = oAl 0 1 := rfl
theorem r233_0 : zr 233 0 [.ref a0, v1, v2, v3, v4, v5, v6, v7, v8, v9, v10, v11] st u P = zr 233 1 [.ref a0, v1, v2, v3, v4, v5, v6, v7, v8, v9, v10, v11] (.ref a0 :: st) u P := zr_Al k233_0 rfl
theorem k233_1 : xcd 233 1 = oI 0 2 := rfl
theorem r233_1 : zr 233 1 [v0, v1, v2, v3, v4, v5, v6, v7, v8, v9, v10, v11] st u P = zr 233 2 [v0, v1, v2, v3, v4, v5, v6, v7, v8, v9, v10, v11] (.int 0 :: st) u P := zr_I k233_1
theorem k233_2 : xcd 233 2 = oPI 11 0 5 := rfl
theorem r233_2 : zr 233 2 [v0, v1, v2, v3, v4, v5, v6, v7, v8, v9, v10, v11] (.int y1 :: .ref b1 :: st) u P = (xIs u b1 11 ∧ zr 233 5 [v0, v1, v2, v3, v4, v5, v6, v7, v8, v9, v10, v11] st (xsI u b1 0 y1) P) := zr_PI k233_2
theorem k233_5 : xcd 233 5 = oAl 0 6 := rfl
theorem r233_5 : zr 233 5 [.ref a0, v1, v2, v3, v4, v5, v6, v7, v8, v9, v10, v11] st u P = zr 233 6 [.ref a0, v1, v2, v3, v4, v5, v6, v7, v8, v9, v10, v11] (.ref a0 :: st) u P := zr_Al k233_5 rfl
theorem k233_6 : xcd 233 6 = oAl 0 7 := rfl
theorem r233_6 : zr 233 6 [.ref a0, v1, v2, v3, v4, v5, v6, v7, v8, v9, v10, v11] st u P = zr 233 7 [.ref a0, v1, v2, v3, v4, v5, v6, v7, v8, v9, v10, v11] (.ref a0 :: st) u P := zr_Al k233_6 rfl
theorem k233_7 : xcd 233 7 = oIl 1 8 := rfl
theorem r233_7 : zr 233 7 [v0, .int x1, v2, v3, v4, v5, v6, v7, v8, v9, v10, v11] st u P = zr 233 8 [v0, .int x1, v2, v3, v4, v5, v6, v7, v8, v9, v10, v11] (.int x1 :: st) u P := zr_Il k233_7 rfl
theorem k233_8 : xcd 233 8 = oCalV 11 214 1 11 := rfl
theorem r233_8 : zr 233 8 [v0, v1, v2, v3, v4, v5, v6, v7, v8, v9, v10, v11] (.int y1 :: .ref b8 :: st) u P = ((xIs u b8 11 ∧ xcat st ≤ 8) ∧ zr 214 0 [.ref b8, .int y1] [] u (fun r u2 => zr 233 11 [v0, v1, v2, v3, v4, v5, v6, v7, v8, v9, v10, v11] (r.toList ++ st) u2 P)) := zr_CV k233_8 rfl rfl rfl ⟨Nat.le_of_ble_eq_true rfl, Nat.succ_ne_zero _, by decide⟩ rfl
theorem k233_11 : xcd 233 11 = oIl 2 12 := rfl
theorem r233_11 : zr 233 11 [v0, v1, .int x2, v3, v4, v5, v6, v7, v8, v9, v10, v11] st u P = zr 233 12 [v0, v1, .int x2, v3, v4, v5, v6, v7, v8, v9, v10, v11] (.int x2 :: st) u P := zr_Il k233_11 rfl
theorem k233_12 : xcd 233 12 = oIl 3 13 := rfl
theorem r233_12 : zr 233 12 [v0, v1, v2, .int x3, v4, v5, v6, v7, v8, v9, v10, v11] st u P = zr 233 13 [v0, v1, v2, .int x3, v4, v5, v6, v7, v8, v9, v10, v11] (.int x3 :: st) u P := zr_Il k233_12 rfl
theorem k233_13 : xcd 233 13 = oIl 4 15 := rfl
theorem r233_13 : zr 233 13 [v0, v1, v2, v3, .int x4, v5, v6, v7, v8, v9, v10, v11] st u P = zr 233 15 [v0, v1, v2, v3, .int x4, v5, v6, v7, v8, v9, v10, v11] (.int x4 :: st) u P := zr_Il k233_13 rfl
theorem k233_15 : xcd 233 15 = oCalV 11 225 4 18 := rfl
theorem r233_15 : zr 233 15 [v0, v1, v2, v3, v4, v5, v6, v7, v8, v9, v10, v11] (.int y4 :: .int y3 :: .int y2 :: .int y1 :: .ref b8 :: st) u P = ((xIs u b8 11 ∧ xcat st ≤ 8) ∧ zr 225 0 [.ref b8, .int y1, .int y2, .int y3, .int y4, .null] [] u (fun r u2 => zr 233 18 [v0, v1, v2, v3, v4, v5, v6, v7, v8, v9, v10, v11] (r.toList ++ st) u2 P)) := zr_CV k233_15 rfl rfl rfl ⟨Nat.le_of_ble_eq_true rfl, Nat.succ_ne_zero _, by decide⟩ rfl
theorem k233_18 : xcd 233 18 = oIs 5 20 := rfl
theorem r233_18 : zr 233 18 [v0, v1, v2, v3, .int x4, v5, v6, v7, v8, v9, v10, v11] (.int y1 :: st) u P = zr 233 20 [v0, v1, v2, v3, .int x4, .int y1, v6, v7, v8, v9, v10, v11] st u P := zr_Is k233_18 ⟨Nat.le_of_ble_eq_true rfl, rfl⟩
theorem k233_20 : xcd 233 20 = oIl 5 22 := rfl
theorem r233_20 : zr 233 20 [v0, v1, v2, v3, v4, .int x5, v6, v7, v8, v9, v10, v11] st u P = zr 233 22 [v0, v1, v2, v3, v4, .int x5, v6, v7, v8, v9, v10, v11] (.int x5 :: st) u P := zr_Il k233_20 rfl
theorem k233_22 : xcd 233 22 = oIf (fun x => decide (x ≤ 0)) 32 25 := rfl
theorem r233_22 : zr 233 22 [v0, v1, v2, v3, v4, v5, v6, v7, v8, v9, v10, v11] (.int y1 :: st) u P = (if y1 ≤ 0 then zr 233 32 [v0, v1, v2, v3, v4, v5, v6, v7, v8, v9, v10, v11] st u P else zr 233 25 [v0, v1, v2, v3, v4, v5, v6, v7, v8, v9, v10, v11] st u P) := zr_If k233_22
theorem k233_25 : xcd 233 25 = oAl 0 26 := rfl
theorem r233_25 : zr 233 25 [.ref a0, v1, v2, v3, v4, v5, v6, v7, v8, v9, v10, v11] st u P = zr 233 26 [.ref a0, v1, v2, v3, v4, v5, v6, v7, v8, v9, v10, v11] (.ref a0 :: st) u P := zr_Al k233_25 rfl
theorem k233_26 : xcd 233 26 = oIl 5 28 := rfl
theorem r233_26 : zr 233 26 [v0, v1, v2, v3, v4, .int x5, v6, v7, v8, v9, v10, v11] st u P = zr 233 28 [v0, v1, v2, v3, v4, .int x5, v6, v7, v8, v9, v10, v11] (.int x5 :: st) u P := zr_Il k233_26 rfl
theorem k233_28 : xcd 233 28 = oCalV 11 172 1 31 := rfl
theorem r233_28 : zr 233 28 [v0, v1, v2, v3, v4, v5, v6, v7, v8, v9, v10, v11] (.int y1 :: .ref b8 :: st) u P = ((xIs u b8 11 ∧ xcat st ≤ 8) ∧ zr 172 0 [.ref b8, .int y1] [] u (fun r u2 => zr 233 31 [v0, v1, v2, v3, v4, v5, v6, v7, v8, v9, v10, v11] (r.toList ++ st) u2 P)) := zr_CV k233_28 rfl rfl rfl ⟨Nat.le_of_ble_eq_true rfl, Nat.succ_ne_zero _, by decide⟩ rfl
theorem k233_31 : xcd 233 31 = oRi 0 := rfl
theorem r233_31 : zr 233 31 [v0, v1, v2, v3, v4, v5, v6, v7, v8, v9, v10, v11] [.int y1] u P = P (some (.int y1)) u := zr_Ri k233_31
theorem k233_32 : xcd 233 32 = oAl 0 33 := rfl
theorem r233_32 : zr 233 32 [.ref a0, v1, v2, v3, v4, v5, v6, v7, v8, v9, v10, v11] st u P = zr 233 33 [.ref a0, v1, v2, v3, v4, v5, v6, v7, v8, v9, v10, v11] (.ref a0 :: st) u P := zr_Al k233_32 rfl
theorem k233_33 : xcd 233 33 = oIl 1 34 := rfl
theorem r233_33 : zr 233 33 [v0, .int x1, v2, v3, v4, v5, v6, v7, v8, v9, v10, v11] st u P = zr 233 34 [v0, .int x1, v2, v3, v4, v5, v6, v7, v8, v9, v10, v11] (.int x1 :: st) u P := zr_Il k233_33 rfl
theorem k233_34 : xcd 233 34 = oIl 2 35 := rfl
theorem r233_34 : zr 233 34 [v0, v1, .int x2, v3, v4, v5, v6, v7, v8, v9, v10, v11] st u P = zr 233 35 [v0, v1, .int x2, v3, v4, v5, v6, v7, v8, v9, v10, v11] (.int x2 :: st) u P := zr_Il k233_34 rfl
theorem k233_35 : xcd 233 35 = oCalV 11 218 2 38 := rfl
theorem r233_35 : zr 233 35 [v0, v1, v2, v3, v4, v5, v6, v7, v8, v9, v10, v11] (.int y2 :: .int y1 :: .ref b8 :: st) u P = ((xIs u b8 11 ∧ xcat st ≤ 8) ∧ zr 218 0 [.ref b8, .int y1, .int y2, .null, .null] [] u (fun r u2 => zr 233 38 [v0, v1, v2, v3, v4, v5, v6, v7, v8, v9, v10, v11] (r.toList ++ st) u2 P)) := zr_CV k233_35 rfl rfl rfl ⟨Nat.le_of_ble_eq_true rfl, Nat.succ_ne_zero _, by decide⟩ rfl
theorem k233_38 : xcd 233 38 = oIs 6 40 := rfl
theorem r233_38 : zr 233 38 [v0, v1, v2, v3, v4, .int x5, v6, v7, v8, v9, v10, v11] (.int y1 :: st) u P = zr 233 40 [v0, v1, v2, v3, v4, .int x5, .int y1, v7, v8, v9, v10, v11] st u P := zr_Is k233_38 ⟨Nat.le_of_ble_eq_true rfl, rfl⟩
theorem k233_40 : xcd 233 40 = oAl 0 41 := rfl
theorem r233_40 : zr 233 40 [.ref a0, v1, v2, v3, v4, v5, v6, v7, v8, v9, v10, v11] st u P = zr 233 41 [.ref a0, v1, v2, v3, v4, v5, v6, v7, v8, v9, v10, v11] (.ref a0 :: st) u P := zr_Al k233_40 rfl
theorem k233_41 : xcd 233 41 = oIl 1 42 := rfl
theorem r233_41 : zr 233 41 [v0, .int x1, v2, v3, v4, v5, v6, v7, v8, v9, v10, v11] st u P = zr 233 42 [v0, .int x1, v2, v3, v4, v5, v6, v7, v8, v9, v10, v11] (.int x1 :: st) u P := zr_Il k233_41 rfl
theorem k233_42 : xcd 233 42 = oIl 2 43 := rfl
theorem r233_42 : zr 233 42 [v0, v1, .int x2, v3, v4, v5, v6, v7, v8, v9, v10, v11] st u P = zr 233 43 [v0, v1, .int x2, v3, v4, v5, v6, v7, v8, v9, v10, v11] (.int x2 :: st) u P := zr_Il k233_42 rfl
theorem k233_43 : xcd 233 43 = oCalV 11 219 2 46 := rfl
theorem r233_43 : zr 233 43 [v0, v1, v2, v3, v4, v5, v6, v7, v8, v9, v10, v11] (.int y2 :: .int y1 :: .ref b8 :: st) u P = ((xIs u b8 11 ∧ xcat st ≤ 8) ∧ zr 219 0 [.ref b8, .int y1, .int y2, .null] [] u (fun r u2 => zr 233 46 [v0, v1, v2, v3, v4, v5, v6, v7, v8, v9, v10, v11] (r.toList ++ st) u2 P)) := zr_CV k233_43 rfl rfl rfl ⟨Nat.le_of_ble_eq_true rfl, Nat.succ_ne_zero _, by decide⟩ rfl
theorem k233_46 : xcd 233 46 = oIs 7 48 := rfl
theorem r233_46 : zr 233 46 [v0, v1, v2, v3, v4, v5, .int x6, v7, v8, v9, v10, v11] (.int y1 :: st) u P = zr 233 48 [v0, v1, v2, v3, v4, v5, .int x6, .int y1, v8, v9, v10, v11] st u P := zr_Is k233_46 ⟨Nat.le_of_ble_eq_true rfl, rfl⟩
theorem k233_48 : xcd 233 48 = oI 0 49 := rfl
theorem r233_48 : zr 233 48 [v0, v1, v2, v3, v4, v5, v6, v7, v8, v9, v10, v11] st u P = zr 233 49 [v0, v1, v2, v3, v4, v5, v6, v7, v8, v9, v10, v11] (.int 0 :: st) u P := zr_I k233_48
theorem k233_49 : xcd 233 49 = oIs 8 51 := rfl
theorem r233_49 : zr 233 49 [v0, v1, v2, v3, v4, v5, v6, .int x7, v8, v9, v10, v11] (.int y1 :: st) u P = zr 233 51 [v0, v1, v2, v3, v4, v5, v6, .int x7, .int y1, v9, v10, v11] st u P := zr_Is k233_49 ⟨Nat.le_of_ble_eq_true rfl, rfl⟩
theorem k233_51 : xcd 233 51 = oI 0 52 := rfl
theorem r233_51 : zr 233 51 [v0, v1, v2, v3, v4, v5, v6, v7, v8, v9, v10, v11] st u P = zr 233 52 [v0, v1, v2, v3, v4, v5, v6, v7, v8, v9, v10, v11] (.int 0 :: st) u P := zr_I k233_51
theorem k233_52 : xcd 233 52 = oIs 9 54 := rfl
theorem r233_52 : zr 233 52 [v0, v1, v2, v3, v4, v5, v6, v7, .int x8, v9, v10, v11] (.int y1 :: st) u P = zr 233 54 [v0, v1, v2, v3, v4, v5, v6, v7, .int x8, .int y1, v10, v11] st u P := zr_Is k233_52 ⟨Nat.le_of_ble_eq_true rfl, rfl⟩
theorem k233_54 : xcd 233 54 = oIl 9 56 := rfl
theorem r233_54 : zr 233 54 [v0, v1, v2, v3, v4, v5, v6, v7, v8, .int x9, v10, v11] st u P = zr 233 56 [v0, v1, v2, v3, v4, v5, v6, v7, v8, .int x9, v10, v11] (.int x9 :: st) u P := zr_Il k233_54 rfl
theorem k233_56 : xcd 233 56 = oIl 7 58 := rfl
theorem r233_56 : zr 233 56 [v0, v1, v2, v3, v4, v5, v6, .int x7, v8, v9, v10, v11] st u P = zr 233 58 [v0, v1, v2, v3, v4, v5, v6, .int x7, v8, v9, v10, v11] (.int x7 :: st) u P := zr_Il k233_56 rfl
theorem k233_58 : xcd 233 58 = oCmp (fun x y => decide (y ≤ x)) 200 61 := rfl
theorem r233_58 : zr 233 58 [v0, v1, v2, v3, v4, v5, v6, v7, v8, v9, v10, v11] (.int y1 :: .int y2 :: st) u P = (if y1 ≤ y2 then zr 233 200 [v0, v1, v2, v3, v4, v5, v6, v7, v8, v9, v10, v11] st u P else zr 233 61 [v0, v1, v2, v3, v4, v5, v6, v7, v8, v9, v10, v11] st u P) := zr_Cmp k233_58
theorem k233_61 : xcd 233 61 = oIl 9 63 := rfl
theorem r233_61 : zr 233 61 [v0, v1, v2, v3, v4, v5, v6, v7, v8, .int x9, v10, v11] st u P = zr 233 63 [v0, v1, v2, v3, v4, v5, v6, v7, v8, .int x9, v10, v11] (.int x9 :: st) u P := zr_Il k233_61 rfl
theorem k233_63 : xcd 233 63 = oI 1 64 := rfl
theorem r233_63 : zr 233 63 [v0, v1, v2, v3, v4, v5, v6, v7, v8, v9, v10, v11] st u P = zr 233 64 [v0, v1, v2, v3, v4, v5, v6, v7, v8, v9, v10, v11] (.int 1 :: st) u P := zr_I k233_63
theorem k233_64 : xcd 233 64 = oB (fun x y => x + y) 65 := rfl
theorem r233_64 : zr 233 64 [v0, v1, v2, v3, v4, v5, v6, v7, v8, v9, v10, v11] (.int y1 :: .int y2 :: st) u P = zr 233 65 [v0, v1, v2, v3, v4, v5, v6, v7, v8, v9, v10, v11] (.int (y2 + y1) :: st) u P := zr_B k233_64
theorem k233_65 : xcd 233 65 = oIl 7 67 := rfl
theorem r233_65 : zr 233 65 [v0, v1, v2, v3, v4, v5, v6, .int x7, v8, v9, v10, v11] st u P = zr 233 67 [v0, v1, v2, v3, v4, v5, v6, .int x7, v8, v9, v10, v11] (.int x7 :: st) u P := zr_Il k233_65 rfl
theorem k233_67 : xcd 233 67 = oRem 68 := rfl
theorem r233_67 : zr 233 67 [v0, v1, v2, v3, v4, v5, v6, v7, v8, v9, v10, v11] (.int y1 :: .int y2 :: st) u P = (¬ y1 = 0 ∧ zr 233 68 [v0, v1, v2, v3, v4, v5, v6, v7, v8, v9, v10, v11] (.int (y2 - y2 / y1 * y1) :: st) u P) := zr_Rem k233_67
theorem k233_68 : xcd 233 68 = oIs 10 70 := rfl
theorem r233_68 : zr 233 68 [v0, v1, v2, v3, v4, v5, v6, v7, v8, .int x9, v10, v11] (.int y1 :: st) u P = zr 233 70 [v0, v1, v2, v3, v4, v5, v6, v7, v8, .int x9, .int y1, v11] st u P := zr_Is k233_68 ⟨Nat.le_of_ble_eq_true rfl, rfl⟩
theorem k233_70 : xcd 233 70 = oAl 0 71 := rfl
theorem r233_70 : zr 233 70 [.ref a0, v1, v2, v3, v4, v5, v6, v7, v8, v9, v10, v11] st u P = zr 233 71 [.ref a0, v1, v2, v3, v4, v5, v6, v7, v8, v9, v10, v11] (.ref a0 :: st) u P := zr_Al k233_70 rfl
theorem k233_71 : xcd 233 71 = oIl 6 73 := rfl
theorem r233_71 : zr 233 71 [v0, v1, v2, v3, v4, v5, .int x6, v7, v8, v9, v10, v11] st u P = zr 233 73 [v0, v1, v2, v3, v4, v5, .int x6, v7, v8, v9, v10, v11] (.int x6 :: st) u P := zr_Il k233_71 rfl
theorem k233_73 : xcd 233 73 = oIl 10 75 := rfl
theorem r233_73 : zr 233 73 [v0, v1, v2, v3, v4, v5, v6, v7, v8, v9, .int x10, v11] st u P = zr 233 75 [v0, v1, v2, v3, v4, v5, v6, v7, v8, v9, .int x10, v11] (.int x10 :: st) u P := zr_Il k233_73 rfl
theorem k233_75 : xcd 233 75 = oCalV 11 220 2 78 := rfl
theorem r233_75 : zr 233 75 [v0, v1, v2, v3, v4, v5, v6, v7, v8, v9, v10, v11] (.int y2 :: .int y1 :: .ref b8 :: st) u P = ((xIs u b8 11 ∧ xcat st ≤ 8) ∧ zr 220 0 [.ref b8, .int y1, .int y2] [] u (fun r u2 => zr 233 78 [v0, v1, v2, v3, v4, v5, v6, v7, v8, v9, v10, v11] (r.toList ++ st) u2 P)) := zr_CV k233_75 rfl rfl rfl ⟨Nat.le_of_ble_eq_true rfl, Nat.succ_ne_zero _, by decide⟩ rfl
theorem k233_78 : xcd 233 78 = oAl 0 79 := rfl
theorem r233_78 : zr 233 78 [.ref a0, v1, v2, v3, v4, v5, v6, v7, v8, v9, v10, v11] st u P = zr 233 79 [.ref a0, v1, v2, v3, v4, v5, v6, v7, v8, v9, v10, v11] (.ref a0 :: st) u P := zr_Al k233_78 rfl
theorem k233_79 : xcd 233 79 = oIl 6 81 := rfl
theorem r233_79 : zr 233 79 [v0, v1, v2, v3, v4, v5, .int x6, v7, v8, v9, v10, v11] st u P = zr 233 81 [v0, v1, v2, v3, v4, v5, .int x6, v7, v8, v9, v10, v11] (.int x6 :: st) u P := zr_Il k233_79 rfl
theorem k233_81 : xcd 233 81 = oIl 9 83 := rfl
theorem r233_81 : zr 233 81 [v0, v1, v2, v3, v4, v5, v6, v7, v8, .int x9, v10, v11] st u P = zr 233 83 [v0, v1, v2, v3, v4, v5, v6, v7, v8, .int x9, v10, v11] (.int x9 :: st) u P := zr_Il k233_81 rfl
theorem k233_83 : xcd 233 83 = oCalV 11 220 2 86 := rfl
theorem r233_83 : zr 233 83 [v0, v1, v2, v3, v4, v5, v6, v7, v8, v9, v10, v11] (.int y2 :: .int y1 :: .ref b8 :: st) u P = ((xIs u b8 11 ∧ xcat st ≤ 8) ∧ zr 220 0 [.ref b8, .int y1, .int y2] [] u (fun r u2 => zr 233 86 [v0, v1, v2, v3, v4, v5, v6, v7, v8, v9, v10, v11] (r.toList ++ st) u2 P)) := zr_CV k233_83 rfl rfl rfl ⟨Nat.le_of_ble_eq_true rfl, Nat.succ_ne_zero _, by decide⟩ rfl
theorem k233_86 : xcd 233 86 = oB (fun x y => x - y) 87 := rfl
theorem r233_86 : zr 233 86 [v0, v1, v2, v3, v4, v5, v6, v7, v8, v9, v10, v11] (.int y1 :: .int y2 :: st) u P = zr 233 87 [v0, v1, v2, v3, v4, v5, v6, v7, v8, v9, v10, v11] (.int (y2 - y1) :: st) u P := zr_B k233_86
theorem k233_87 : xcd 233 87 = oIl 4 89 := rfl
theorem r233_87 : zr 233 87 [v0, v1, v2, v3, .int x4, v5, v6, v7, v8, v9, v10, v11] st u P = zr 233 89 [v0, v1, v2, v3, .int x4, v5, v6, v7, v8, v9, v10, v11] (.int x4 :: st) u P := zr_Il k233_87 rfl
theorem k233_89 : xcd 233 89 = oAl 0 90 := rfl
theorem r233_89 : zr 233 89 [.ref a0, v1, v2, v3, v4, v5, v6, v7, v8, v9, v10, v11] st u P = zr 233 90 [.ref a0, v1, v2, v3, v4, v5, v6, v7, v8, v9, v10, v11] (.ref a0 :: st) u P := zr_Al k233_89 rfl
theorem k233_90 : xcd 233 90 = oIl 6 92 := rfl
theorem r233_90 : zr 233 90 [v0, v1, v2, v3, v4, v5, .int x6, v7, v8, v9, v10, v11] st u P = zr 233 92 [v0, v1, v2, v3, v4, v5, .int x6, v7, v8, v9, v10, v11] (.int x6 :: st) u P := zr_Il k233_90 rfl
theorem k233_92 : xcd 233 92 = oIl 9 94 := rfl
theorem r233_92 : zr 233 92 [v0, v1, v2, v3, v4, v5, v6, v7, v8, .int x9, v10, v11] st u P = zr 233 94 [v0, v1, v2, v3, v4, v5, v6, v7, v8, .int x9, v10, v11] (.int x9 :: st) u P := zr_Il k233_92 rfl
theorem k233_94 : xcd 233 94 = oCalV 11 221 2 97 := rfl
theorem r233_94 : zr 233 94 [v0, v1, v2, v3, v4, v5, v6, v7, v8, v9, v10, v11] (.int y2 :: .int y1 :: .ref b8 :: st) u P = ((xIs u b8 11 ∧ xcat st ≤ 8) ∧ zr 221 0 [.ref b8, .int y1, .int y2] [] u (fun r u2 => zr 233 97 [v0, v1, v2, v3, v4, v5, v6, v7, v8, v9, v10, v11] (r.toList ++ st) u2 P)) := zr_CV k233_94 rfl rfl rfl ⟨Nat.le_of_ble_eq_true rfl, Nat.succ_ne_zero _, by decide⟩ rfl
theorem k233_97 : xcd 233 97 = oB (fun x y => x - y) 98 := rfl
theorem r233_97 : zr 233 97 [v0, v1, v2, v3, v4, v5, v6, v7, v8, v9, v10, v11] (.int y1 :: .int y2 :: st) u P = zr 233 98 [v0, v1, v2, v3, v4, v5, v6, v7, v8, v9, v10, v11] (.int (y2 - y1) :: st) u P := zr_B k233_97
theorem k233_98 : xcd 233 98 = oB (fun x y => x * y) 99 := rfl
theorem r233_98 : zr 233 98 [v0, v1, v2, v3, v4, v5, v6, v7, v8, v9, v10, v11] (.int y1 :: .int y2 :: st) u P = zr 233 99 [v0, v1, v2, v3, v4, v5, v6, v7, v8, v9, v10, v11] (.int (y2 * y1) :: st) u P := zr_B k233_98
theorem k233_99 : xcd 233 99 = oAl 0 100 := rfl
theorem r233_99 : zr 233 99 [.ref a0, v1, v2, v3, v4, v5, v6, v7, v8, v9, v10, v11] st u P = zr 233 100 [.ref a0, v1, v2, v3, v4, v5, v6, v7, v8, v9, v10, v11] (.ref a0 :: st) u P := zr_Al k233_99 rfl
theorem k233_100 : xcd 233 100 = oIl 6 102 := rfl
theorem r233_100 : zr 233 100 [v0, v1, v2, v3, v4, v5, .int x6, v7, v8, v9, v10, v11] st u P = zr 233 102 [v0, v1, v2, v3, v4, v5, .int x6, v7, v8, v9, v10, v11] (.int x6 :: st) u P := zr_Il k233_100 rfl
theorem k233_102 : xcd 233 102 = oIl 10 104 := rfl
theorem r233_102 : zr 233 102 [v0, v1, v2, v3, v4, v5, v6, v7, v8, v9, .int x10, v11] st u P = zr 233 104 [v0, v1, v2, v3, v4, v5, v6, v7, v8, v9, .int x10, v11] (.int x10 :: st) u P := zr_Il k233_102 rfl
theorem k233_104 : xcd 233 104 = oCalV 11 221 2 107 := rfl
theorem r233_104 : zr 233 104 [v0, v1, v2, v3, v4, v5, v6, v7, v8, v9, v10, v11] (.int y2 :: .int y1 :: .ref b8 :: st) u P = ((xIs u b8 11 ∧ xcat st ≤ 8) ∧ zr 221 0 [.ref b8, .int y1, .int y2] [] u (fun r u2 => zr 233 107 [v0, v1, v2, v3, v4, v5, v6, v7, v8, v9, v10, v11] (r.toList ++ st) u2 P)) := zr_CV k233_104 rfl rfl rfl ⟨Nat.le_of_ble_eq_true rfl, Nat.succ_ne_zero _, by decide⟩ rfl
theorem k233_107 : xcd 233 107 = oAl 0 108 := rfl
theorem r233_107 : zr 233 107 [.ref a0, v1, v2, v3, v4, v5, v6, v7, v8, v9, v10, v11] st u P = zr 233 108 [.ref a0, v1, v2, v3, v4, v5, v6, v7, v8, v9, v10, v11] (.ref a0 :: st) u P := zr_Al k233_107 rfl
theorem k233_108 : xcd 233 108 = oIl 6 110 := rfl
theorem r233_108 : zr 233 108 [v0, v1, v2, v3, v4, v5, .int x6, v7, v8, v9, v10, v11] st u P = zr 233 110 [v0, v1, v2, v3, v4, v5, .int x6, v7, v8, v9, v10, v11] (.int x6 :: st) u P := zr_Il k233_108 rfl
theorem k233_110 : xcd 233 110 = oIl 9 112 := rfl
theorem r233_110 : zr 233 110 [v0, v1, v2, v3, v4, v5, v6, v7, v8, .int x9, v10, v11] st u P = zr 233 112 [v0, v1, v2, v3, v4, v5, v6, v7, v8, .int x9, v10, v11] (.int x9 :: st) u P := zr_Il k233_110 rfl
theorem k233_112 : xcd 233 112 = oCalV 11 221 2 115 := rfl
theorem r233_112 : zr 233 112 [v0, v1, v2, v3, v4, v5, v6, v7, v8, v9, v10, v11] (.int y2 :: .int y1 :: .ref b8 :: st) u P = ((xIs u b8 11 ∧ xcat st ≤ 8) ∧ zr 221 0 [.ref b8, .int y1, .int y2] [] u (fun r u2 => zr 233 115 [v0, v1, v2, v3, v4, v5, v6, v7, v8, v9, v10, v11] (r.toList ++ st) u2 P)) := zr_CV k233_112 rfl rfl rfl ⟨Nat.le_of_ble_eq_true rfl, Nat.succ_ne_zero _, by decide⟩ rfl
theorem k233_115 : xcd 233 115 = oB (fun x y => x - y) 116 := rfl
theorem r233_115 : zr 233 115 [v0, v1, v2, v3, v4, v5, v6, v7, v8, v9, v10, v11] (.int y1 :: .int y2 :: st) u P = zr 233 116 [v0, v1, v2, v3, v4, v5, v6, v7, v8, v9, v10, v11] (.int (y2 - y1) :: st) u P := zr_B k233_115
theorem k233_116 : xcd 233 116 = oIl 3 117 := rfl
theorem r233_116 : zr 233 116 [v0, v1, v2, .int x3, v4, v5, v6, v7, v8, v9, v10, v11] st u P = zr 233 117 [v0, v1, v2, .int x3, v4, v5, v6, v7, v8, v9, v10, v11] (.int x3 :: st) u P := zr_Il k233_116 rfl
theorem k233_117 : xcd 233 117 = oAl 0 118 := rfl
theorem r233_117 : zr 233 117 [.ref a0, v1, v2, v3, v4, v5, v6, v7, v8, v9, v10, v11] st u P = zr 233 118 [.ref a0, v1, v2, v3, v4, v5, v6, v7, v8, v9, v10, v11] (.ref a0 :: st) u P := zr_Al k233_117 rfl
theorem k233_118 : xcd 233 118 = oIl 6 120 := rfl
theorem r233_118 : zr 233 118 [v0, v1, v2, v3, v4, v5, .int x6, v7, v8, v9, v10, v11] st u P = zr 233 120 [v0, v1, v2, v3, v4, v5, .int x6, v7, v8, v9, v10, v11] (.int x6 :: st) u P := zr_Il k233_118 rfl
theorem k233_120 : xcd 233 120 = oIl 9 122 := rfl
theorem r233_120 : zr 233 120 [v0, v1, v2, v3, v4, v5, v6, v7, v8, .int x9, v10, v11] st u P = zr 233 122 [v0, v1, v2, v3, v4, v5, v6, v7, v8, .int x9, v10, v11] (.int x9 :: st) u P := zr_Il k233_120 rfl
theorem k233_122 : xcd 233 122 = oCalV 11 220 2 125 := rfl
theorem r233_122 : zr 233 122 [v0, v1, v2, v3, v4, v5, v6, v7, v8, v9, v10, v11] (.int y2 :: .int y1 :: .ref b8 :: st) u P = ((xIs u b8 11 ∧ xcat st ≤ 8) ∧ zr 220 0 [.ref b8, .int y1, .int y2] [] u (fun r u2 => zr 233 125 [v0, v1, v2, v3, v4, v5, v6, v7, v8, v9, v10, v11] (r.toList ++ st) u2 P)) := zr_CV k233_122 rfl rfl rfl ⟨Nat.le_of_ble_eq_true rfl, Nat.succ_ne_zero _, by decide⟩ rfl
theorem k233_125 : xcd 233 125 = oB (fun x y => x - y) 126 := rfl
theorem r233_125 : zr 233 125 [v0, v1, v2, v3, v4, v5, v6, v7, v8, v9, v10, v11] (.int y1 :: .int y2 :: st) u P = zr 233 126 [v0, v1, v2, v3, v4, v5, v6, v7, v8, v9, v10, v11] (.int (y2 - y1) :: st) u P := zr_B k233_125
theorem k233_126 : xcd 233 126 = oB (fun x y => x * y) 127 := rfl
theorem r233_126 : zr 233 126 [v0, v1, v2, v3, v4, v5, v6, v7, v8, v9, v10, v11] (.int y1 :: .int y2 :: st) u P = zr 233 127 [v0, v1, v2, v3, v4, v5, v6, v7, v8, v9, v10, v11] (.int (y2 * y1) :: st) u P := zr_B k233_126
theorem k233_127 : xcd 233 127 = oB (fun x y => x - y) 128 := rfl
theorem r233_127 : zr 233 127 [v0, v1, v2, v3, v4, v5, v6, v7, v8, v9, v10, v11] (.int y1 :: .int y2 :: st) u P = zr 233 128 [v0, v1, v2, v3, v4, v5, v6, v7, v8, v9, v10, v11] (.int (y2 - y1) :: st) u P := zr_B k233_127
theorem k233_128 : xcd 233 128 = oIs 11 130 := rfl
theorem r233_128 : zr 233 128 [v0, v1, v2, v3, v4, v5, v6, v7, v8, v9, .int x10, v11] (.int y1 :: st) u P = zr 233 130 [v0, v1, v2, v3, v4, v5, v6, v7, v8, v9, .int x10, .int y1] st u P := zr_Is k233_128 ⟨Nat.le_of_ble_eq_true rfl, rfl⟩
theorem k233_130 : xcd 233 130 = oIl 8 132 := rfl
theorem r233_130 : zr 233 130 [v0, v1, v2, v3, v4, v5, v6, v7, .int x8, v9, v10, v11] st u P = zr 233 132 [v0, v1, v2, v3, v4, v5, v6, v7, .int x8, v9, v10, v11] (.int x8 :: st) u P := zr_Il k233_130 rfl
theorem k233_132 : xcd 233 132 = oIf (fun x => decide (¬ x = 0)) 187 135 := rfl
theorem r233_132 : zr 233 132 [v0, v1, v2, v3, v4, v5, v6, v7, v8, v9, v10, v11] (.int y1 :: st) u P = (if ¬ y1 = 0 then zr 233 187 [v0, v1, v2, v3, v4, v5, v6, v7, v8, v9, v10, v11] st u P else zr 233 135 [v0, v1, v2, v3, v4, v5, v6, v7, v8, v9, v10, v11] st u P) := zr_If k233_132
theorem k233_135 : xcd 233 135 = oIl 11 137 := rfl
theorem r233_135 : zr 233 135 [v0, v1, v2, v3, v4, v5, v6, v7, v8, v9, v10, .int x11] st u P = zr 233 137 [v0, v1, v2, v3, v4, v5, v6, v7, v8, v9, v10, .int x11] (.int x11 :: st) u P := zr_Il k233_135 rfl
theorem k233_137 : xcd 233 137 = oIf (fun x => decide (¬ x = 0)) 191 140 := rfl
theorem r233_137 : zr 233 137 [v0, v1, v2, v3, v4, v5, v6, v7, v8, v9, v10, v11] (.int y1 :: st) u P = (if ¬ y1 = 0 then zr 233 191 [v0, v1, v2, v3, v4, v5, v6, v7, v8, v9, v10, v11] st u P else zr 233 140 [v0, v1, v2, v3, v4, v5, v6, v7, v8, v9, v10, v11] st u P) := zr_If k233_137
theorem k233_140 : xcd 233 140 = oIl 3 141 := rfl
theorem r233_140 : zr 233 140 [v0, v1, v2, .int x3, v4, v5, v6, v7, v8, v9, v10, v11] st u P = zr 233 141 [v0, v1, v2, .int x3, v4, v5, v6, v7, v8, v9, v10, v11] (.int x3 :: st) u P := zr_Il k233_140 rfl
theorem k233_141 : xcd 233 141 = oAl 0 142 := rfl
theorem r233_141 : zr 233 141 [.ref a0, v1, v2, v3, v4, v5, v6, v7, v8, v9, v10, v11] st u P = zr 233 142 [.ref a0, v1, v2, v3, v4, v5, v6, v7, v8, v9, v10, v11] (.ref a0 :: st) u P := zr_Al k233_141 rfl
theorem k233_142 : xcd 233 142 = oIl 6 144 := rfl
theorem r233_142 : zr 233 142 [v0, v1, v2, v3, v4, v5, .int x6, v7, v8, v9, v10, v11] st u P = zr 233 144 [v0, v1, v2, v3, v4, v5, .int x6, v7, v8, v9, v10, v11] (.int x6 :: st) u P := zr_Il k233_142 rfl
theorem k233_144 : xcd 233 144 = oIl 9 146 := rfl
theorem r233_144 : zr 233 144 [v0, v1, v2, v3, v4, v5, v6, v7, v8, .int x9, v10, v11] st u P = zr 233 146 [v0, v1, v2, v3, v4, v5, v6, v7, v8, .int x9, v10, v11] (.int x9 :: st) u P := zr_Il k233_144 rfl
theorem k233_146 : xcd 233 146 = oCalV 11 220 2 149 := rfl
theorem r233_146 : zr 233 146 [v0, v1, v2, v3, v4, v5, v6, v7, v8, v9, v10, v11] (.int y2 :: .int y1 :: .ref b8 :: st) u P = ((xIs u b8 11 ∧ xcat st ≤ 8) ∧ zr 220 0 [.ref b8, .int y1, .int y2] [] u (fun r u2 => zr 233 149 [v0, v1, v2, v3, v4, v5, v6, v7, v8, v9, v10, v11] (r.toList ++ st) u2 P)) := zr_CV k233_146 rfl rfl rfl ⟨Nat.le_of_ble_eq_true rfl, Nat.succ_ne_zero _, by decide⟩ rfl
theorem k233_149 : xcd 233 149 = oAl 0 150 := rfl
theorem r233_149 : zr 233 149 [.ref a0, v1, v2, v3, v4, v5, v6, v7, v8, v9, v10, v11] st u P = zr 233 150 [.ref a0, v1, v2, v3, v4, v5, v6, v7, v8, v9, v10, v11] (.ref a0 :: st) u P := zr_Al k233_149 rfl
theorem k233_150 : xcd 233 150 = oIl 6 152 := rfl
theorem r233_150 : zr 233 150 [v0, v1, v2, v3, v4, v5, .int x6, v7, v8, v9, v10, v11] st u P = zr 233 152 [v0, v1, v2, v3, v4, v5, .int x6, v7, v8, v9, v10, v11] (.int x6 :: st) u P := zr_Il k233_150 rfl
theorem k233_152 : xcd 233 152 = oIl 10 154 := rfl
theorem r233_152 : zr 233 152 [v0, v1, v2, v3, v4, v5, v6, v7, v8, v9, .int x10, v11] st u P = zr 233 154 [v0, v1, v2, v3, v4, v5, v6, v7, v8, v9, .int x10, v11] (.int x10 :: st) u P := zr_Il k233_152 rfl
theorem k233_154 : xcd 233 154 = oCalV 11 220 2 157 := rfl
theorem r233_154 : zr 233 154 [v0, v1, v2, v3, v4, v5, v6, v7, v8, v9, v10, v11] (.int y2 :: .int y1 :: .ref b8 :: st) u P = ((xIs u b8 11 ∧ xcat st ≤ 8) ∧ zr 220 0 [.ref b8, .int y1, .int y2] [] u (fun r u2 => zr 233 157 [v0, v1, v2, v3, v4, v5, v6, v7, v8, v9, v10, v11] (r.toList ++ st) u2 P)) := zr_CV k233_154 rfl rfl rfl ⟨Nat.le_of_ble_eq_true rfl, Nat.succ_ne_zero _, by decide⟩ rfl
theorem k233_157 : xcd 233 157 = oCal 232 3 160 := rfl
theorem r233_157 : zr 233 157 [v0, v1, v2, v3, v4, v5, v6, v7, v8, v9, v10, v11] (.int y3 :: .int y2 :: .int y1 :: st) u P = (xcat st ≤ 8 ∧ zr 232 0 [.int y1, .int y2, .int y3] [] u (fun r u2 => zr 233 160 [v0, v1, v2, v3, v4, v5, v6, v7, v8, v9, v10, v11] (r.toList ++ st) u2 P)) := zr_CS k233_157 (Nat.le_add_left _ _) rfl rfl ⟨Nat.le_of_ble_eq_true rfl, Nat.succ_ne_zero _, by decide⟩ rfl
theorem k233_160 : xcd 233 160 = oIf (fun x => decide (x = 0)) 191 163 := rfl
theorem r233_160 : zr 233 160 [v0, v1, v2, v3, v4, v5, v6, v7, v8, v9, v10, v11] (.int y1 :: st) u P = (if y1 = 0 then zr 233 191 [v0, v1, v2, v3, v4, v5, v6, v7, v8, v9, v10, v11] st u P else zr 233 163 [v0, v1, v2, v3, v4, v5, v6, v7, v8, v9, v10, v11] st u P) := zr_If k233_160
theorem k233_163 : xcd 233 163 = oIl 4 165 := rfl
theorem r233_163 : zr 233 163 [v0, v1, v2, v3, .int x4, v5, v6, v7, v8, v9, v10, v11] st u P = zr 233 165 [v0, v1, v2, v3, .int x4, v5, v6, v7, v8, v9, v10, v11] (.int x4 :: st) u P := zr_Il k233_163 rfl
theorem k233_165 : xcd 233 165 = oAl 0 166 := rfl
theorem r233_165 : zr 233 165 [.ref a0, v1, v2, v3, v4, v5, v6, v7, v8, v9, v10, v11] st u P = zr 233 166 [.ref a0, v1, v2, v3, v4, v5, v6, v7, v8, v9, v10, v11] (.ref a0 :: st) u P := zr_Al k233_165 rfl
theorem k233_166 : xcd 233 166 = oIl 6 168 := rfl
theorem r233_166 : zr 233 166 [v0, v1, v2, v3, v4, v5, .int x6, v7, v8, v9, v10, v11] st u P = zr 233 168 [v0, v1, v2, v3, v4, v5, .int x6, v7, v8, v9, v10, v11] (.int x6 :: st) u P := zr_Il k233_166 rfl
theorem k233_168 : xcd 233 168 = oIl 9 170 := rfl
theorem r233_168 : zr 233 168 [v0, v1, v2, v3, v4, v5, v6, v7, v8, .int x9, v10, v11] st u P = zr 233 170 [v0, v1, v2, v3, v4, v5, v6, v7, v8, .int x9, v10, v11] (.int x9 :: st) u P := zr_Il k233_168 rfl
theorem k233_170 : xcd 233 170 = oCalV 11 221 2 173 := rfl
theorem r233_170 : zr 233 170 [v0, v1, v2, v3, v4, v5, v6, v7, v8, v9, v10, v11] (.int y2 :: .int y1 :: .ref b8 :: st) u P = ((xIs u b8 11 ∧ xcat st ≤ 8) ∧ zr 221 0 [.ref b8, .int y1, .int y2] [] u (fun r u2 => zr 233 173 [v0, v1, v2, v3, v4, v5, v6, v7, v8, v9, v10, v11] (r.toList ++ st) u2 P)) := zr_CV k233_170 rfl rfl rfl ⟨Nat.le_of_ble_eq_true rfl, Nat.succ_ne_zero _, by decide⟩ rfl
theorem k233_173 : xcd 233 173 = oAl 0 174 := rfl
theorem r233_173 : zr 233 173 [.ref a0, v1, v2, v3, v4, v5, v6, v7, v8, v9, v10, v11] st u P = zr 233 174 [.ref a0, v1, v2, v3, v4, v5, v6, v7, v8, v9, v10, v11] (.ref a0 :: st) u P := zr_Al k233_173 rfl
theorem k233_174 : xcd 233 174 = oIl 6 176 := rfl
theorem r233_174 : zr 233 174 [v0, v1, v2, v3, v4, v5, .int x6, v7, v8, v9, v10, v11] st u P = zr 233 176 [v0, v1, v2, v3, v4, v5, .int x6, v7, v8, v9, v10, v11] (.int x6 :: st) u P := zr_Il k233_174 rfl
theorem k233_176 : xcd 233 176 = oIl 10 178 := rfl
theorem r233_176 : zr 233 176 [v0, v1, v2, v3, v4, v5, v6, v7, v8, v9, .int x10, v11] st u P = zr 233 178 [v0, v1, v2, v3, v4, v5, v6, v7, v8, v9, .int x10, v11] (.int x10 :: st) u P := zr_Il k233_176 rfl
theorem k233_178 : xcd 233 178 = oCalV 11 221 2 181 := rfl
theorem r233_178 : zr 233 178 [v0, v1, v2, v3, v4, v5, v6, v7, v8, v9, v10, v11] (.int y2 :: .int y1 :: .ref b8 :: st) u P = ((xIs u b8 11 ∧ xcat st ≤ 8) ∧ zr 221 0 [.ref b8, .int y1, .int y2] [] u (fun r u2 => zr 233 181 [v0, v1, v2, v3, v4, v5, v6, v7, v8, v9, v10, v11] (r.toList ++ st) u2 P)) := zr_CV k233_178 rfl rfl rfl ⟨Nat.le_of_ble_eq_true rfl, Nat.succ_ne_zero _, by decide⟩ rfl
theorem k233_181 : xcd 233 181 = oCal 232 3 184 := rfl
theorem r233_181 : zr 233 181 [v0, v1, v2, v3, v4, v5, v6, v7, v8, v9, v10, v11] (.int y3 :: .int y2 :: .int y1 :: st) u P = (xcat st ≤ 8 ∧ zr 232 0 [.int y1, .int y2, .int y3] [] u (fun r u2 => zr 233 184 [v0, v1, v2, v3, v4, v5, v6, v7, v8, v9, v10, v11] (r.toList ++ st) u2 P)) := zr_CS k233_181 (Nat.le_add_left _ _) rfl rfl ⟨Nat.le_of_ble_eq_true rfl, Nat.succ_ne_zero _, by decide⟩ rfl
theorem k233_184 : xcd 233 184 = oIf (fun x => decide (x = 0)) 191 187 := rfl
theorem r233_184 : zr 233 184 [v0, v1, v2, v3, v4, v5, v6, v7, v8, v9, v10, v11] (.int y1 :: st) u P = (if y1 = 0 then zr 233 191 [v0, v1, v2, v3, v4, v5, v6, v7, v8, v9, v10, v11] st u P else zr 233 187 [v0, v1, v2, v3, v4, v5, v6, v7, v8, v9, v10, v11] st u P) := zr_If k233_184
theorem k233_187 : xcd 233 187 = oI 1 188 := rfl
theorem r233_187 : zr 233 187 [v0, v1, v2, v3, v4, v5, v6, v7, v8, v9, v10, v11] st u P = zr 233 188 [v0, v1, v2, v3, v4, v5, v6, v7, v8, v9, v10, v11] (.int 1 :: st) u P := zr_I k233_187
theorem k233_188 : xcd 233 188 = oGoto 192 := rfl
theorem r233_188 : zr 233 188 [v0, v1, v2, v3, v4, v5, v6, v7, v8, v9, v10, v11] st u P = zr 233 192 [v0, v1, v2, v3, v4, v5, v6, v7, v8, v9, v10, v11] st u P := zr_Goto k233_188
theorem k233_191 : xcd 233 191 = oI 0 192 := rfl
theorem r233_191 : zr 233 191 [v0, v1, v2, v3, v4, v5, v6, v7, v8, v9, v10, v11] st u P = zr 233 192 [v0, v1, v2, v3, v4, v5, v6, v7, v8, v9, v10, v11] (.int 0 :: st) u P := zr_I k233_191
theorem k233_192 : xcd 233 192 = oIs 8 194 := rfl
theorem r233_192 : zr 233 192 [v0, v1, v2, v3, v4, v5, v6, .int x7, v8, v9, v10, v11] (.int y1 :: st) u P = zr 233 194 [v0, v1, v2, v3, v4, v5, v6, .int x7, .int y1, v9, v10, v11] st u P := zr_Is k233_192 ⟨Nat.le_of_ble_eq_true rfl, rfl⟩
theorem k233_194 : xcd 233 194 = oInc 9 1 197 := rfl
theorem r233_194 : zr 233 194 [v0, v1, v2, v3, v4, v5, v6, v7, .int x8, .int x9, v10, v11] st u P = zr 233 197 [v0, v1, v2, v3, v4, v5, v6, v7, .int x8, .int (x9 + 1), v10, v11] st u P := zr_Inc k233_194 rfl rfl
theorem k233_197 : xcd 233 197 = oGoto 54 := rfl
theorem r233_197 : zr 233 197 [v0, v1, v2, v3, v4, v5, v6, v7, v8, v9, v10, v11] st u P = zr 233 54 [v0, v1, v2, v3, v4, v5, v6, v7, v8, v9, v10, v11] st u P := zr_Goto k233_197
theorem k233_200 : xcd 233 200 = oAl 0 201 := rfl
theorem r233_200 : zr 233 200 [.ref a0, v1, v2, v3, v4, v5, v6, v7, v8, v9, v10, v11] st u P = zr 233 201 [.ref a0, v1, v2, v3, v4, v5, v6, v7, v8, v9, v10, v11] (.ref a0 :: st) u P := zr_Al k233_200 rfl
theorem k233_201 : xcd 233 201 = oIl 8 203 := rfl
theorem r233_201 : zr 233 201 [v0, v1, v2, v3, v4, v5, v6, v7, .int x8, v9, v10, v11] st u P = zr 233 203 [v0, v1, v2, v3, v4, v5, v6, v7, .int x8, v9, v10, v11] (.int x8 :: st) u P := zr_Il k233_201 rfl
theorem k233_203 : xcd 233 203 = oIf (fun x => decide (x = 0)) 210 206 := rfl
theorem r233_203 : zr 233 203 [v0, v1, v2, v3, v4, v5, v6, v7, v8, v9, v10, v11] (.int y1 :: st) u P = (if y1 = 0 then zr 233 210 [v0, v1, v2, v3, v4, v5, v6, v7, v8, v9, v10, v11] st u P else zr 233 206 [v0, v1, v2, v3, v4, v5, v6, v7, v8, v9, v10, v11] st u P) := zr_If k233_203
theorem k233_206 : xcd 233 206 = oI 1 207 := rfl
theorem r233_206 : zr 233 206 [v0, v1, v2, v3, v4, v5, v6, v7, v8, v9, v10, v11] st u P = zr 233 207 [v0, v1, v2, v3, v4, v5, v6, v7, v8, v9, v10, v11] (.int 1 :: st) u P := zr_I k233_206
theorem k233_207 : xcd 233 207 = oGoto 211 := rfl
theorem r233_207 : zr 233 207 [v0, v1, v2, v3, v4, v5, v6, v7, v8, v9, v10, v11] st u P = zr 233 211 [v0, v1, v2, v3, v4, v5, v6, v7, v8, v9, v10, v11] st u P := zr_Goto k233_207
theorem k233_210 : xcd 233 210 = oI 0 211 := rfl
theorem r233_210 : zr 233 210 [v0, v1, v2, v3, v4, v5, v6, v7, v8, v9, v10, v11] st u P = zr 233 211 [v0, v1, v2, v3, v4, v5, v6, v7, v8, v9, v10, v11] (.int 0 :: st) u P := zr_I k233_210
theorem k233_211 : xcd 233 211 = oCalV 11 174 1 214 := rfl
theorem r233_211 : zr 233 211 [v0, v1, v2, v3, v4, v5, v6, v7, v8, v9, v10, v11] (.int y1 :: .ref b8 :: st) u P = ((xIs u b8 11 ∧ xcat st ≤ 8) ∧ zr 174 0 [.ref b8, .int y1] [] u (fun r u2 => zr 233 214 [v0, v1, v2, v3, v4, v5, v6, v7, v8, v9, v10, v11] (r.toList ++ st) u2 P)) := zr_CV k233_211 rfl rfl rfl ⟨Nat.le_of_ble_eq_true rfl, Nat.succ_ne_zero _, by decide⟩ rfl
theorem k233_214 : xcd 233 214 = oRi 0 := rfl
theorem r233_214 : zr 233 214 [v0, v1, v2, v3, v4, v5, v6, v7, v8, v9, v10, v11] [.int y1] u P = P (some (.int y1)) u := zr_Ri k233_214
theorem k234_0 : xcd 234 0 = oAl 0 1 := rfl
theorem r234_0 : zr 234 0 [.ref a0, v1, v2, v3, v4] st u P = zr 234 1 [.ref a0, v1, v2, v3, v4] (.ref a0 :: st) u P := zr_Al k234_0 rfl
theorem k234_1 : xcd 234 1 = oI 0 2 := rfl
theorem r234_1 : zr 234 1 [v0, v1, v2, v3, v4] st u P = zr 234 2 [v0, v1, v2, v3, v4] (.int 0 :: st) u P := zr_I k234_1
theorem k234_2 : xcd 234 2 = oPI 11 0 5 := rfl
theorem r234_2 : zr 234 2 [v0, v1, v2, v3, v4] (.int y1 :: .ref b1 :: st) u P = (xIs u b1 11 ∧ zr 234 5 [v0, v1, v2, v3, v4] st (xsI u b1 0 y1) P) := zr_PI k234_2
theorem k234_5 : xcd 234 5 = oAl 0 6 := rfl
theorem r234_5 : zr 234 5 [.ref a0, v1, v2, v3, v4] st u P = zr 234 6 [.ref a0, v1, v2, v3, v4] (.ref a0 :: st) u P := zr_Al k234_5 rfl
theorem k234_6 : xcd 234 6 = oAl 0 7 := rfl
theorem r234_6 : zr 234 6 [.ref a0, v1, v2, v3, v4] st u P = zr 234 7 [.ref a0, v1, v2, v3, v4] (.ref a0 :: st) u P := zr_Al k234_6 rfl
theorem k234_7 : xcd 234 7 = oIl 1 8 := rfl
theorem r234_7 : zr 234 7 [v0, .int x1, v2, v3, v4] st u P = zr 234 8 [v0, .int x1, v2, v3, v4] (.int x1 :: st) u P := zr_Il k234_7 rfl
theorem k234_8 : xcd 234 8 = oCalV 11 214 1 11 := rfl
theorem r234_8 : zr 234 8 [v0, v1, v2, v3, v4] (.int y1 :: .ref b8 :: st) u P = ((xIs u b8 11 ∧ xcat st ≤ 8) ∧ zr 214 0 [.ref b8, .int y1] [] u (fun r u2 => zr 234 11 [v0, v1, v2, v3, v4] (r.toList ++ st) u2 P)) := zr_CV k234_8 rfl rfl rfl ⟨Nat.le_of_ble_eq_true rfl, Nat.succ_ne_zero _, by decide⟩ rfl
theorem k234_11 : xcd 234 11 = oIl 2 12 := rfl
theorem r234_11 : zr 234 11 [v0, v1, .int x2, v3, v4] st u P = zr 234 12 [v0, v1, .int x2, v3, v4] (.int x2 :: st) u P := zr_Il k234_11 rfl
theorem k234_12 : xcd 234 12 = oCalV 11 224 2 15 := rfl
theorem r234_12 : zr 234 12 [v0, v1, v2, v3, v4] (.int y2 :: .int y1 :: .ref b8 :: st) u P = ((xIs u b8 11 ∧ xcat st ≤ 8) ∧ zr 224 0 [.ref b8, .int y1, .int y2] [] u (fun r u2 => zr 234 15 [v0, v1, v2, v3, v4] (r.toList ++ st) u2 P)) := zr_CV k234_12 rfl rfl rfl ⟨Nat.le_of_ble_eq_true rfl, Nat.succ_ne_zero _, by decide⟩ rfl
theorem k234_15 : xcd 234 15 = oIs 3 16 := rfl
theorem r234_15 : zr 234 15 [v0, v1, .int x2, v3, v4] (.int y1 :: st) u P = zr 234 16 [v0, v1, .int x2, .int y1, v4] st u P := zr_Is k234_15 ⟨Nat.le_of_ble_eq_true rfl, rfl⟩
theorem k234_16 : xcd 234 16 = oIl 3 17 := rfl
theorem r234_16 : zr 234 16 [v0, v1, v2, .int x3, v4] st u P = zr 234 17 [v0, v1, v2, .int x3, v4] (.int x3 :: st) u P := zr_Il k234_16 rfl
theorem k234_17 : xcd 234 17 = oIf (fun x => decide (x ≤ 0)) 26 20 := rfl
theorem r234_17 : zr 234 17 [v0, v1, v2, v3, v4] (.int y1 :: st) u P = (if y1 ≤ 0 then zr 234 26 [v0, v1, v2, v3, v4] st u P else zr 234 20 [v0, v1, v2, v3, v4] st u P) := zr_If k234_17
theorem k234_20 : xcd 234 20 = oAl 0 21 := rfl
theorem r234_20 : zr 234 20 [.ref a0, v1, v2, v3, v4] st u P = zr 234 21 [.ref a0, v1, v2, v3, v4] (.ref a0 :: st) u P := zr_Al k234_20 rfl
theorem k234_21 : xcd 234 21 = oIl 3 22 := rfl
theorem r234_21 : zr 234 21 [v0, v1, v2, .int x3, v4] st u P = zr 234 22 [v0, v1, v2, .int x3, v4] (.int x3 :: st) u P := zr_Il k234_21 rfl
theorem k234_22 : xcd 234 22 = oCalV 11 172 1 25 := rfl
theorem r234_22 : zr 234 22 [v0, v1, v2, v3, v4] (.int y1 :: .ref b8 :: st) u P = ((xIs u b8 11 ∧ xcat st ≤ 8) ∧ zr 172 0 [.ref b8, .int y1] [] u (fun r u2 => zr 234 25 [v0, v1, v2, v3, v4] (r.toList ++ st) u2 P)) := zr_CV k234_22 rfl rfl rfl ⟨Nat.le_of_ble_eq_true rfl, Nat.succ_ne_zero _, by decide⟩ rfl
theorem k234_25 : xcd 234 25 = oRi 0 := rfl
theorem r234_25 : zr 234 25 [v0, v1, v2, v3, v4] [.int y1] u P = P (some (.int y1)) u := zr_Ri k234_25
theorem k234_26 : xcd 234 26 = oI 0 27 := rfl
theorem r234_26 : zr 234 26 [v0, v1, v2, v3, v4] st u P = zr 234 27 [v0, v1, v2, v3, v4] (.int 0 :: st) u P := zr_I k234_26
theorem k234_27 : xcd 234 27 = oIs 4 29 := rfl
theorem r234_27 : zr 234 27 [v0, v1, v2, .int x3, v4] (.int y1 :: st) u P = zr 234 29 [v0, v1, v2, .int x3, .int y1] st u P := zr_Is k234_27 ⟨Nat.le_of_ble_eq_true rfl, rfl⟩
theorem k234_29 : xcd 234 29 = oIl 4 31 := rfl
theorem r234_29 : zr 234 29 [v0, v1, v2, v3, .int x4] st u P = zr 234 31 [v0, v1, v2, v3, .int x4] (.int x4 :: st) u P := zr_Il k234_29 rfl
theorem k234_31 : xcd 234 31 = oAl 0 32 := rfl
theorem r234_31 : zr 234 31 [.ref a0, v1, v2, v3, v4] st u P = zr 234 32 [.ref a0, v1, v2, v3, v4] (.ref a0 :: st) u P := zr_Al k234_31 rfl
theorem k234_32 : xcd 234 32 = oGR 11 3 35 := rfl
theorem r234_32 : zr 234 32 [v0, v1, v2, v3, v4] (.ref b1 :: st) u P = (xIs u b1 11 ∧ ∃ b, xR u b1 3 = some b ∧ zr 234 35 [v0, v1, v2, v3, v4] (.ref b :: st) u P) := zr_GR k234_32
theorem k234_35 : xcd 234 35 = oI 4 36 := rfl
theorem r234_35 : zr 234 35 [v0, v1, v2, v3, v4] st u P = zr 234 36 [v0, v1, v2, v3, v4] (.int 4 :: st) u P := zr_I k234_35
theorem k234_36 : xcd 234 36 = oLd 13 37 := rfl
theorem r234_36 : zr 234 36 [v0, v1, v2, v3, v4] (.int y1 :: .ref b1 :: st) u P = ((xIs u b1 13 ∧ xinb y1 (xN u b1)) ∧ zr 234 37 [v0, v1, v2, v3, v4] (.int (xI u b1 (xix y1)) :: st) u P) := zr_Ld k234_36
theorem k234_37 : xcd 234 37 = oCmp (fun x y => decide (y ≤ x)) 93 40 := rfl
theorem r234_37 : zr 234 37 [v0, v1, v2, v3, v4] (.int y1 :: .int y2 :: st) u P = (if y1 ≤ y2 then zr 234 93 [v0, v1, v2, v3, v4] st u P else zr 234 40 [v0, v1, v2, v3, v4] st u P) := zr_Cmp k234_37
theorem k234_40 : xcd 234 40 = oAl 0 41 := rfl
theorem r234_40 : zr 234 40 [.ref a0, v1, v2, v3, v4] st u P = zr 234 41 [.ref a0, v1, v2, v3, v4] (.ref a0 :: st) u P := zr_Al k234_40 rfl
theorem k234_41 : xcd 234 41 = oGR 11 3 44 := rfl
theorem r234_41 : zr 234 41 [v0, v1, v2, v3, v4] (.ref b1 :: st) u P = (xIs u b1 11 ∧ ∃ b, xR u b1 3 = some b ∧ zr 234 44 [v0, v1, v2, v3, v4] (.ref b :: st) u P) := zr_GR k234_41
theorem k234_44 : xcd 234 44 = oIl 4 46 := rfl
theorem r234_44 : zr 234 44 [v0, v1, v2, v3, .int x4] st u P = zr 234 46 [v0, v1, v2, v3, .int x4] (.int x4 :: st) u P := zr_Il k234_44 rfl
theorem k234_46 : xcd 234 46 = oCal 199 1 49 := rfl
theorem r234_46 : zr 234 46 [v0, v1, v2, v3, v4] (.int y1 :: st) u P = (xcat st ≤ 8 ∧ zr 199 0 [.int y1] [] u (fun r u2 => zr 234 49 [v0, v1, v2, v3, v4] (r.toList ++ st) u2 P)) := zr_CS k234_46 (Nat.le_add_left _ _) rfl rfl ⟨Nat.le_of_ble_eq_true rfl, Nat.succ_ne_zero _, by decide⟩ rfl
theorem k234_49 : xcd 234 49 = oLd 13 50 := rfl
theorem r234_49 : zr 234 49 [v0, v1, v2, v3, v4] (.int y1 :: .ref b1 :: st) u P = ((xIs u b1 13 ∧ xinb y1 (xN u b1)) ∧ zr 234 50 [v0, v1, v2, v3, v4] (.int (xI u b1 (xix y1)) :: st) u P) := zr_Ld k234_49
theorem k234_50 : xcd 234 50 = oIl 1 51 := rfl
theorem r234_50 : zr 234 50 [v0, .int x1, v2, v3, v4] st u P = zr 234 51 [v0, .int x1, v2, v3, v4] (.int x1 :: st) u P := zr_Il k234_50 rfl
theorem k234_51 : xcd 234 51 = oCmp (fun x y => decide (¬ x = y)) 87 54 := rfl
theorem r234_51 : zr 234 51 [v0, v1, v2, v3, v4] (.int y1 :: .int y2 :: st) u P = (if ¬ y2 = y1 then zr 234 87 [v0, v1, v2, v3, v4] st u P else zr 234 54 [v0, v1, v2, v3, v4] st u P) := zr_Cmp k234_51
theorem k234_54 : xcd 234 54 = oAl 0 55 := rfl
theorem r234_54 : zr 234 54 [.ref a0, v1, v2, v3, v4] st u P = zr 234 55 [.ref a0, v1, v2, v3, v4] (.ref a0 :: st) u P := zr_Al k234_54 rfl
theorem k234_55 : xcd 234 55 = oGR 11 3 58 := rfl
theorem r234_55 : zr 234 55 [v0, v1, v2, v3, v4] (.ref b1 :: st) u P = (xIs u b1 11 ∧ ∃ b, xR u b1 3 = some b ∧ zr 234 58 [v0, v1, v2, v3, v4] (.ref b :: st) u P) := zr_GR k234_55
theorem k234_58 : xcd 234 58 = oIl 4 60 := rfl
theorem r234_58 : zr 234 58 [v0, v1, v2, v3, .int x4] st u P = zr 234 60 [v0, v1, v2, v3, .int x4] (.int x4 :: st) u P := zr_Il k234_58 rfl
theorem k234_60 : xcd 234 60 = oCal 199 1 63 := rfl
theorem r234_60 : zr 234 60 [v0, v1, v2, v3, v4] (.int y1 :: st) u P = (xcat st ≤ 8 ∧ zr 199 0 [.int y1] [] u (fun r u2 => zr 234 63 [v0, v1, v2, v3, v4] (r.toList ++ st) u2 P)) := zr_CS k234_60 (Nat.le_add_left _ _) rfl rfl ⟨Nat.le_of_ble_eq_true rfl, Nat.succ_ne_zero _, by decide⟩ rfl
theorem k234_63 : xcd 234 63 = oI 1 64 := rfl
theorem r234_63 : zr 234 63 [v0, v1, v2, v3, v4] st u P = zr 234 64 [v0, v1, v2, v3, v4] (.int 1 :: st) u P := zr_I k234_63
theorem k234_64 : xcd 234 64 = oB (fun x y => x + y) 65 := rfl
theorem r234_64 : zr 234 64 [v0, v1, v2, v3, v4] (.int y1 :: .int y2 :: st) u P = zr 234 65 [v0, v1, v2, v3, v4] (.int (y2 + y1) :: st) u P := zr_B k234_64
theorem k234_65 : xcd 234 65 = oLd 13 66 := rfl
theorem r234_65 : zr 234 65 [v0, v1, v2, v3, v4] (.int y1 :: .ref b1 :: st) u P = ((xIs u b1 13 ∧ xinb y1 (xN u b1)) ∧ zr 234 66 [v0, v1, v2, v3, v4] (.int (xI u b1 (xix y1)) :: st) u P) := zr_Ld k234_65
theorem k234_66 : xcd 234 66 = oIl 2 67 := rfl
theorem r234_66 : zr 234 66 [v0, v1, .int x2, v3, v4] st u P = zr 234 67 [v0, v1, .int x2, v3, v4] (.int x2 :: st) u P := zr_Il k234_66 rfl
theorem k234_67 : xcd 234 67 = oCmp (fun x y => decide (x ≤ y)) 87 70 := rfl
theorem r234_67 : zr 234 67 [v0, v1, v2, v3, v4] (.int y1 :: .int y2 :: st) u P = (if y2 ≤ y1 then zr 234 87 [v0, v1, v2, v3, v4] st u P else zr 234 70 [v0, v1, v2, v3, v4] st u P) := zr_Cmp k234_67
theorem k234_70 : xcd 234 70 = oAl 0 71 := rfl
theorem r234_70 : zr 234 70 [.ref a0, v1, v2, v3, v4] st u P = zr 234 71 [.ref a0, v1, v2, v3, v4] (.ref a0 :: st) u P := zr_Al k234_70 rfl
theorem k234_71 : xcd 234 71 = oAl 0 72 := rfl
theorem r234_71 : zr 234 71 [.ref a0, v1, v2, v3, v4] st u P = zr 234 72 [.ref a0, v1, v2, v3, v4] (.ref a0 :: st) u P := zr_Al k234_71 rfl
theorem k234_72 : xcd 234 72 = oGR 11 3 75 := rfl
theorem r234_72 : zr 234 72 [v0, v1, v2, v3, v4] (.ref b1 :: st) u P = (xIs u b1 11 ∧ ∃ b, xR u b1 3 = some b ∧ zr 234 75 [v0, v1, v2, v3, v4] (.ref b :: st) u P) := zr_GR k234_72
theorem k234_75 : xcd 234 75 = oIl 4 77 := rfl
theorem r234_75 : zr 234 75 [v0, v1, v2, v3, .int x4] st u P = zr 234 77 [v0, v1, v2, v3, .int x4] (.int x4 :: st) u P := zr_Il k234_75 rfl
theorem k234_77 : xcd 234 77 = oCal 199 1 80 := rfl
theorem r234_77 : zr 234 77 [v0, v1, v2, v3, v4] (.int y1 :: st) u P = (xcat st ≤ 8 ∧ zr 199 0 [.int y1] [] u (fun r u2 => zr 234 80 [v0, v1, v2, v3, v4] (r.toList ++ st) u2 P)) := zr_CS k234_77 (Nat.le_add_left _ _) rfl rfl ⟨Nat.le_of_ble_eq_true rfl, Nat.succ_ne_zero _, by decide⟩ rfl
theorem k234_80 : xcd 234 80 = oI 1 81 := rfl
theorem r234_80 : zr 234 80 [v0, v1, v2, v3, v4] st u P = zr 234 81 [v0, v1, v2, v3, v4] (.int 1 :: st) u P := zr_I k234_80
theorem k234_81 : xcd 234 81 = oB (fun x y => x + y) 82 := rfl
theorem r234_81 : zr 234 81 [v0, v1, v2, v3, v4] (.int y1 :: .int y2 :: st) u P = zr 234 82 [v0, v1, v2, v3, v4] (.int (y2 + y1) :: st) u P := zr_B k234_81
theorem k234_82 : xcd 234 82 = oLd 13 83 := rfl
theorem r234_82 : zr 234 82 [v0, v1, v2, v3, v4] (.int y1 :: .ref b1 :: st) u P = ((xIs u b1 13 ∧ xinb y1 (xN u b1)) ∧ zr 234 83 [v0, v1, v2, v3, v4] (.int (xI u b1 (xix y1)) :: st) u P) := zr_Ld k234_82
theorem k234_83 : xcd 234 83 = oCalV 11 174 1 86 := rfl
theorem r234_83 : zr 234 83 [v0, v1, v2, v3, v4] (.int y1 :: .ref b8 :: st) u P = ((xIs u b8 11 ∧ xcat st ≤ 8) ∧ zr 174 0 [.ref b8, .int y1] [] u (fun r u2 => zr 234 86 [v0, v1, v2, v3, v4] (r.toList ++ st) u2 P)) := zr_CV k234_83 rfl rfl rfl ⟨Nat.le_of_ble_eq_true rfl, Nat.succ_ne_zero _, by decide⟩ rfl
theorem k234_86 : xcd 234 86 = oRi 0 := rfl
theorem r234_86 : zr 234 86 [v0, v1, v2, v3, v4] [.int y1] u P = P (some (.int y1)) u := zr_Ri k234_86
theorem k234_87 : xcd 234 87 = oInc 4 1 90 := rfl
theorem r234_87 : zr 234 87 [v0, v1, v2, .int x3, .int x4] st u P = zr 234 90 [v0, v1, v2, .int x3, .int (x4 + 1)] st u P := zr_Inc k234_87 rfl rfl
theorem k234_90 : xcd 234 90 = oGoto 29 := rfl
theorem r234_90 : zr 234 90 [v0, v1, v2, v3, v4] st u P = zr 234 29 [v0, v1, v2, v3, v4] st u P := zr_Goto k234_90
theorem k234_93 : xcd 234 93 = oAl 0 94 := rfl
theorem r234_93 : zr 234 93 [.ref a0, v1, v2, v3, v4] st u P = zr 234 94 [.ref a0, v1, v2, v3, v4] (.ref a0 :: st) u P := zr_Al k234_93 rfl
theorem k234_94 : xcd 234 94 = oI (-2) 96 := rfl
theorem r234_94 : zr 234 94 [v0, v1, v2, v3, v4] st u P = zr 234 96 [v0, v1, v2, v3, v4] (.int (-2) :: st) u P := zr_I k234_94
theorem k234_96 : xcd 234 96 = oCalV 11 174 1 99 := rfl
theorem r234_96 : zr 234 96 [v0, v1, v2, v3, v4] (.int y1 :: .ref b8 :: st) u P = ((xIs u b8 11 ∧ xcat st ≤ 8) ∧ zr 174 0 [.ref b8, .int y1] [] u (fun r u2 => zr 234 99 [v0, v1, v2, v3, v4] (r.toList ++ st) u2 P)) := zr_CV k234_96 rfl rfl rfl ⟨Nat.le_of_ble_eq_true rfl, Nat.succ_ne_zero _, by decide⟩ rfl
theorem k234_99 : xcd 234 99 = oRi 0 := rfl
theorem r234_99 : zr 234 99 [v0, v1, v2, v3, v4] [.int y1] u P = P (some (.int y1)) u := zr_Ri k234_99
theorem k235_0 : xcd 235 0 = oI 0 1 := rfl
theorem r235_0 : zr 235 0 [v0, v1, v2, v3, v4, v5] st u P = zr 235 1 [v0, v1, v2, v3, v4, v5] (.int 0 :: st) u P := zr_I k235_0
theorem k235_1 : xcd 235 1 = oIs 5 3 := rfl
theorem r235_1 : zr 235 1 [v0, v1, v2, v3, .int x4, v5] (.int y1 :: st) u P = zr 235 3 [v0, v1, v2, v3, .int x4, .int y1] st u P := zr_Is k235_1 ⟨Nat.le_of_ble_eq_true rfl, rfl⟩
theorem k235_3 : xcd 235 3 = oIl 5 5 := rfl
theorem r235_3 : zr 235 3 [v0, v1, v2, v3, v4, .int x5] st u P = zr 235 5 [v0, v1, v2, v3, v4, .int x5] (.int x5 :: st) u P := zr_Il k235_3 rfl
theorem k235_5 : xcd 235 5 = oAl 0 6 := rfl
theorem r235_5 : zr 235 5 [.ref a0, v1, v2, v3, v4, v5] st u P = zr 235 6 [.ref a0, v1, v2, v3, v4, v5] (.ref a0 :: st) u P := zr_Al k235_5 rfl
theorem k235_6 : xcd 235 6 = oGR 11 3 9 := rfl
theorem r235_6 : zr 235 6 [v0, v1, v2, v3, v4, v5] (.ref b1 :: st) u P = (xIs u b1 11 ∧ ∃ b, xR u b1 3 = some b ∧ zr 235 9 [v0, v1, v2, v3, v4, v5] (.ref b :: st) u P) := zr_GR k235_6
theorem k235_9 : xcd 235 9 = oI 3 10 := rfl
theorem r235_9 : zr 235 9 [v0, v1, v2, v3, v4, v5] st u P = zr 235 10 [v0, v1, v2, v3, v4, v5] (.int 3 :: st) u P := zr_I k235_9
theorem k235_10 : xcd 235 10 = oLd 13 11 := rfl
theorem r235_10 : zr 235 10 [v0, v1, v2, v3, v4, v5] (.int y1 :: .ref b1 :: st) u P = ((xIs u b1 13 ∧ xinb y1 (xN u b1)) ∧ zr 235 11 [v0, v1, v2, v3, v4, v5] (.int (xI u b1 (xix y1)) :: st) u P) := zr_Ld k235_10
theorem k235_11 : xcd 235 11 = oCmp (fun x y => decide (y ≤ x)) 50 14 := rfl
theorem r235_11 : zr 235 11 [v0, v1, v2, v3, v4, v5] (.int y1 :: .int y2 :: st) u P = (if y1 ≤ y2 then zr 235 50 [v0, v1, v2, v3, v4, v5] st u P else zr 235 14 [v0, v1, v2, v3, v4, v5] st u P) := zr_Cmp k235_11
theorem k235_14 : xcd 235 14 = oAl 0 15 := rfl
theorem r235_14 : zr 235 14 [.ref a0, v1, v2, v3, v4, v5] st u P = zr 235 15 [.ref a0, v1, v2, v3, v4, v5] (.ref a0 :: st) u P := zr_Al k235_14 rfl
theorem k235_15 : xcd 235 15 = oGR 11 3 18 := rfl
theorem r235_15 : zr 235 15 [v0, v1, v2, v3, v4, v5] (.ref b1 :: st) u P = (xIs u b1 11 ∧ ∃ b, xR u b1 3 = some b ∧ zr 235 18 [v0, v1, v2, v3, v4, v5] (.ref b :: st) u P) := zr_GR k235_15
theorem k235_18 : xcd 235 18 = oI 14 20 := rfl
theorem r235_18 : zr 235 18 [v0, v1, v2, v3, v4, v5] st u P = zr 235 20 [v0, v1, v2, v3, v4, v5] (.int 14 :: st) u P := zr_I k235_18
theorem k235_20 : xcd 235 20 = oIl 5 22 := rfl
theorem r235_20 : zr 235 20 [v0, v1, v2, v3, v4, .int x5] st u P = zr 235 22 [v0, v1, v2, v3, v4, .int x5] (.int x5 :: st) u P := zr_Il k235_20 rfl
theorem k235_22 : xcd 235 22 = oB (fun x y => x + y) 23 := rfl
theorem r235_22 : zr 235 22 [v0, v1, v2, v3, v4, v5] (.int y1 :: .int y2 :: st) u P = zr 235 23 [v0, v1, v2, v3, v4, v5] (.int (y2 + y1) :: st) u P := zr_B k235_22
theorem k235_23 : xcd 235 23 = oLd 13 24 := rfl
theorem r235_23 : zr 235 23 [v0, v1, v2, v3, v4, v5] (.int y1 :: .ref b1 :: st) u P = ((xIs u b1 13 ∧ xinb y1 (xN u b1)) ∧ zr 235 24 [v0, v1, v2, v3, v4, v5] (.int (xI u b1 (xix y1)) :: st) u P) := zr_Ld k235_23
theorem k235_24 : xcd 235 24 = oIl 1 25 := rfl
theorem r235_24 : zr 235 24 [v0, .int x1, v2, v3, v4, v5] st u P = zr 235 25 [v0, .int x1, v2, v3, v4, v5] (.int x1 :: st) u P := zr_Il k235_24 rfl
theorem k235_25 : xcd 235 25 = oCmp (fun x y => decide (¬ x = y)) 44 28 := rfl
theorem r235_25 : zr 235 25 [v0, v1, v2, v3, v4, v5] (.int y1 :: .int y2 :: st) u P = (if ¬ y2 = y1 then zr 235 44 [v0, v1, v2, v3, v4, v5] st u P else zr 235 28 [v0, v1, v2, v3, v4, v5] st u P) := zr_Cmp k235_25
theorem k235_28 : xcd 235 28 = oAl 0 29 := rfl
theorem r235_28 : zr 235 28 [.ref a0, v1, v2, v3, v4, v5] st u P = zr 235 29 [.ref a0, v1, v2, v3, v4, v5] (.ref a0 :: st) u P := zr_Al k235_28 rfl
theorem k235_29 : xcd 235 29 = oIl 5 31 := rfl
theorem r235_29 : zr 235 29 [v0, v1, v2, v3, v4, .int x5] st u P = zr 235 31 [v0, v1, v2, v3, v4, .int x5] (.int x5 :: st) u P := zr_Il k235_29 rfl
theorem k235_31 : xcd 235 31 = oIl 2 32 := rfl
theorem r235_31 : zr 235 31 [v0, v1, .int x2, v3, v4, v5] st u P = zr 235 32 [v0, v1, .int x2, v3, v4, v5] (.int x2 :: st) u P := zr_Il k235_31 rfl
theorem k235_32 : xcd 235 32 = oIl 3 33 := rfl
theorem r235_32 : zr 235 32 [v0, v1, v2, .int x3, v4, v5] st u P = zr 235 33 [v0, v1, v2, .int x3, v4, v5] (.int x3 :: st) u P := zr_Il k235_32 rfl
theorem k235_33 : xcd 235 33 = oIl 4 35 := rfl
theorem r235_33 : zr 235 33 [v0, v1, v2, v3, .int x4, v5] st u P = zr 235 35 [v0, v1, v2, v3, .int x4, v5] (.int x4 :: st) u P := zr_Il k235_33 rfl
theorem k235_35 : xcd 235 35 = oCalV 11 230 4 38 := rfl
theorem r235_35 : zr 235 35 [v0, v1, v2, v3, v4, v5] (.int y4 :: .int y3 :: .int y2 :: .int y1 :: .ref b8 :: st) u P = ((xIs u b8 11 ∧ xcat st ≤ 8) ∧ zr 230 0 [.ref b8, .int y1, .int y2, .int y3, .int y4, .null, .null, .null, .null] [] u (fun r u2 => zr 235 38 [v0, v1, v2, v3, v4, v5] (r.toList ++ st) u2 P)) := zr_CV k235_35 rfl rfl rfl ⟨Nat.le_of_ble_eq_true rfl, Nat.succ_ne_zero _, by decide⟩ rfl
theorem k235_38 : xcd 235 38 = oIf (fun x => decide (x = 0)) 44 41 := rfl
theorem r235_38 : zr 235 38 [v0, v1, v2, v3, v4, v5] (.int y1 :: st) u P = (if y1 = 0 then zr 235 44 [v0, v1, v2, v3, v4, v5] st u P else zr 235 41 [v0, v1, v2, v3, v4, v5] st u P) := zr_If k235_38
theorem k235_41 : xcd 235 41 = oIl 5 43 := rfl
theorem r235_41 : zr 235 41 [v0, v1, v2, v3, v4, .int x5] st u P = zr 235 43 [v0, v1, v2, v3, v4, .int x5] (.int x5 :: st) u P := zr_Il k235_41 rfl
theorem k235_43 : xcd 235 43 = oRi 0 := rfl
theorem r235_43 : zr 235 43 [v0, v1, v2, v3, v4, v5] [.int y1] u P = P (some (.int y1)) u := zr_Ri k235_43
theorem k235_44 : xcd 235 44 = oInc 5 1 47 := rfl
theorem r235_44 : zr 235 44 [v0, v1, v2, v3, .int x4, .int x5] st u P = zr 235 47 [v0, v1, v2, v3, .int x4, .int (x5 + 1)] st u P := zr_Inc k235_44 rfl rfl
theorem k235_47 : xcd 235 47 = oGoto 3 := rfl
theorem r235_47 : zr 235 47 [v0, v1, v2, v3, v4, v5] st u P = zr 235 3 [v0, v1, v2, v3, v4, v5] st u P := zr_Goto k235_47
theorem k235_50 : xcd 235 50 = oI (-2) 52 := rfl
theorem r235_50 : zr 235 50 [v0, v1, v2, v3, v4, v5] st u P = zr 235 52 [v0, v1, v2, v3, v4, v5] (.int (-2) :: st) u P := zr_I k235_50
theorem k235_52 : xcd 235 52 = oRi 0 := rfl
theorem r235_52 : zr 235 52 [v0, v1, v2, v3, v4, v5] [.int y1] u P = P (some (.int y1)) u := zr_Ri k235_52
theorem k236_0 : xcd 236 0 = oI 0 1 := rfl
theorem r236_0 : zr 236 0 [v0, v1, v2, v3, v4, v5, v6, v7] st u P = zr 236 1 [v0, v1, v2, v3, v4, v5, v6, v7] (.int 0 :: st) u P := zr_I k236_0
theorem k236_1 : xcd 236 1 = oIs 5 3 := rfl
theorem r236_1 : zr 236 1 [v0, v1, v2, v3, .ref a4, v5, v6, v7] (.int y1 :: st) u P = zr 236 3 [v0, v1, v2, v3, .ref a4, .int y1, v6, v7] st u P := zr_Is k236_1 ⟨Nat.le_of_ble_eq_true rfl, rfl⟩
theorem k236_3 : xcd 236 3 = oI 0 4 := rfl
theorem r236_3 : zr 236 3 [v0, v1, v2, v3, v4, v5, v6, v7] st u P = zr 236 4 [v0, v1, v2, v3, v4, v5, v6, v7] (.int 0 :: st) u P := zr_I k236_3
theorem k236_4 : xcd 236 4 = oIs 6 6 := rfl
theorem r236_4 : zr 236 4 [v0, v1, v2, v3, v4, .int x5, v6, v7] (.int y1 :: st) u P = zr 236 6 [v0, v1, v2, v3, v4, .int x5, .int y1, v7] st u P := zr_Is k236_4 ⟨Nat.le_of_ble_eq_true rfl, rfl⟩
theorem k236_6 : xcd 236 6 = oIl 6 8 := rfl
theorem r236_6 : zr 236 6 [v0, v1, v2, v3, v4, v5, .int x6, v7] st u P = zr 236 8 [v0, v1, v2, v3, v4, v5, .int x6, v7] (.int x6 :: st) u P := zr_Il k236_6 rfl
theorem k236_8 : xcd 236 8 = oAl 0 9 := rfl
theorem r236_8 : zr 236 8 [.ref a0, v1, v2, v3, v4, v5, v6, v7] st u P = zr 236 9 [.ref a0, v1, v2, v3, v4, v5, v6, v7] (.ref a0 :: st) u P := zr_Al k236_8 rfl
theorem k236_9 : xcd 236 9 = oGR 11 3 12 := rfl
theorem r236_9 : zr 236 9 [v0, v1, v2, v3, v4, v5, v6, v7] (.ref b1 :: st) u P = (xIs u b1 11 ∧ ∃ b, xR u b1 3 = some b ∧ zr 236 12 [v0, v1, v2, v3, v4, v5, v6, v7] (.ref b :: st) u P) := zr_GR k236_9
theorem k236_12 : xcd 236 12 = oI 1 13 := rfl
theorem r236_12 : zr 236 12 [v0, v1, v2, v3, v4, v5, v6, v7] st u P = zr 236 13 [v0, v1, v2, v3, v4, v5, v6, v7] (.int 1 :: st) u P := zr_I k236_12
theorem k236_13 : xcd 236 13 = oLd 13 14 := rfl
theorem r236_13 : zr 236 13 [v0, v1, v2, v3, v4, v5, v6, v7] (.int y1 :: .ref b1 :: st) u P = ((xIs u b1 13 ∧ xinb y1 (xN u b1)) ∧ zr 236 14 [v0, v1, v2, v3, v4, v5, v6, v7] (.int (xI u b1 (xix y1)) :: st) u P) := zr_Ld k236_13
theorem k236_14 : xcd 236 14 = oCmp (fun x y => decide (y ≤ x)) 71 17 := rfl
theorem r236_14 : zr 236 14 [v0, v1, v2, v3, v4, v5, v6, v7] (.int y1 :: .int y2 :: st) u P = (if y1 ≤ y2 then zr 236 71 [v0, v1, v2, v3, v4, v5, v6, v7] st u P else zr 236 17 [v0, v1, v2, v3, v4, v5, v6, v7] st u P) := zr_Cmp k236_14
theorem k236_17 : xcd 236 17 = oAl 0 18 := rfl
theorem r236_17 : zr 236 17 [.ref a0, v1, v2, v3, v4, v5, v6, v7] st u P = zr 236 18 [.ref a0, v1, v2, v3, v4, v5, v6, v7] (.ref a0 :: st) u P := zr_Al k236_17 rfl
theorem k236_18 : xcd 236 18 = oIl 6 20 := rfl
theorem r236_18 : zr 236 18 [v0, v1, v2, v3, v4, v5, .int x6, v7] st u P = zr 236 20 [v0, v1, v2, v3, v4, v5, .int x6, v7] (.int x6 :: st) u P := zr_Il k236_18 rfl
theorem k236_20 : xcd 236 20 = oIl 1 21 := rfl
theorem r236_20 : zr 236 20 [v0, .int x1, v2, v3, v4, v5, v6, v7] st u P = zr 236 21 [v0, .int x1, v2, v3, v4, v5, v6, v7] (.int x1 :: st) u P := zr_Il k236_20 rfl
theorem k236_21 : xcd 236 21 = oIl 2 22 := rfl
theorem r236_21 : zr 236 21 [v0, v1, .int x2, v3, v4, v5, v6, v7] st u P = zr 236 22 [v0, v1, .int x2, v3, v4, v5, v6, v7] (.int x2 :: st) u P := zr_Il k236_21 rfl
theorem k236_22 : xcd 236 22 = oIl 3 23 := rfl
theorem r236_22 : zr 236 22 [v0, v1, v2, .int x3, v4, v5, v6, v7] st u P = zr 236 23 [v0, v1, v2, .int x3, v4, v5, v6, v7] (.int x3 :: st) u P := zr_Il k236_22 rfl
theorem k236_23 : xcd 236 23 = oCalV 11 235 4 26 := rfl
theorem r236_23 : zr 236 23 [v0, v1, v2, v3, v4, v5, v6, v7] (.int y4 :: .int y3 :: .int y2 :: .int y1 :: .ref b8 :: st) u P = ((xIs u b8 11 ∧ xcat st ≤ 8) ∧ zr 235 0 [.ref b8, .int y1, .int y2, .int y3, .int y4, .null] [] u (fun r u2 => zr 236 26 [v0, v1, v2, v3, v4, v5, v6, v7] (r.toList ++ st) u2 P)) := zr_CV k236_23 rfl rfl rfl ⟨Nat.le_of_ble_eq_true rfl, Nat.succ_ne_zero _, by decide⟩ rfl
theorem k236_26 : xcd 236 26 = oIs 7 28 := rfl
theorem r236_26 : zr 236 26 [v0, v1, v2, v3, v4, v5, .int x6, v7] (.int y1 :: st) u P = zr 236 28 [v0, v1, v2, v3, v4, v5, .int x6, .int y1] st u P := zr_Is k236_26 ⟨Nat.le_of_ble_eq_true rfl, rfl⟩
theorem k236_28 : xcd 236 28 = oIl 7 30 := rfl
theorem r236_28 : zr 236 28 [v0, v1, v2, v3, v4, v5, v6, .int x7] st u P = zr 236 30 [v0, v1, v2, v3, v4, v5, v6, .int x7] (.int x7 :: st) u P := zr_Il k236_28 rfl
theorem k236_30 : xcd 236 30 = oI (-2) 32 := rfl
theorem r236_30 : zr 236 30 [v0, v1, v2, v3, v4, v5, v6, v7] st u P = zr 236 32 [v0, v1, v2, v3, v4, v5, v6, v7] (.int (-2) :: st) u P := zr_I k236_30
theorem k236_32 : xcd 236 32 = oCmp (fun x y => decide (¬ x = y)) 38 35 := rfl
theorem r236_32 : zr 236 32 [v0, v1, v2, v3, v4, v5, v6, v7] (.int y1 :: .int y2 :: st) u P = (if ¬ y2 = y1 then zr 236 38 [v0, v1, v2, v3, v4, v5, v6, v7] st u P else zr 236 35 [v0, v1, v2, v3, v4, v5, v6, v7] st u P) := zr_Cmp k236_32
theorem k236_35 : xcd 236 35 = oGoto 65 := rfl
theorem r236_35 : zr 236 35 [v0, v1, v2, v3, v4, v5, v6, v7] st u P = zr 236 65 [v0, v1, v2, v3, v4, v5, v6, v7] st u P := zr_Goto k236_35
theorem k236_38 : xcd 236 38 = oAl 4 40 := rfl
theorem r236_38 : zr 236 38 [v0, v1, v2, v3, .ref a4, v5, v6, v7] st u P = zr 236 40 [v0, v1, v2, v3, .ref a4, v5, v6, v7] (.ref a4 :: st) u P := zr_Al k236_38 rfl
theorem k236_40 : xcd 236 40 = oIl 5 42 := rfl
theorem r236_40 : zr 236 40 [v0, v1, v2, v3, v4, .int x5, v6, v7] st u P = zr 236 42 [v0, v1, v2, v3, v4, .int x5, v6, v7] (.int x5 :: st) u P := zr_Il k236_40 rfl
theorem k236_42 : xcd 236 42 = oIl 7 44 := rfl
theorem r236_42 : zr 236 42 [v0, v1, v2, v3, v4, v5, v6, .int x7] st u P = zr 236 44 [v0, v1, v2, v3, v4, v5, v6, .int x7] (.int x7 :: st) u P := zr_Il k236_42 rfl
theorem k236_44 : xcd 236 44 = oSt 13 (fun x => x) 45 := rfl
theorem r236_44 : zr 236 44 [v0, v1, v2, v3, v4, v5, v6, v7] (.int y2 :: .int y1 :: .ref b1 :: st) u P = ((xIs u b1 13 ∧ xinb y1 (xN u b1)) ∧ zr 236 45 [v0, v1, v2, v3, v4, v5, v6, v7] st (xsI u b1 (xix y1) y2) P) := zr_St k236_44
theorem k236_45 : xcd 236 45 = oInc 5 1 48 := rfl
theorem r236_45 : zr 236 45 [v0, v1, v2, v3, .ref a4, .int x5, v6, v7] st u P = zr 236 48 [v0, v1, v2, v3, .ref a4, .int (x5 + 1), v6, v7] st u P := zr_Inc k236_45 rfl rfl
theorem k236_48 : xcd 236 48 = oAl 0 49 := rfl
theorem r236_48 : zr 236 48 [.ref a0, v1, v2, v3, v4, v5, v6, v7] st u P = zr 236 49 [.ref a0, v1, v2, v3, v4, v5, v6, v7] (.ref a0 :: st) u P := zr_Al k236_48 rfl
theorem k236_49 : xcd 236 49 = oGR 11 3 52 := rfl
theorem r236_49 : zr 236 49 [v0, v1, v2, v3, v4, v5, v6, v7] (.ref b1 :: st) u P = (xIs u b1 11 ∧ ∃ b, xR u b1 3 = some b ∧ zr 236 52 [v0, v1, v2, v3, v4, v5, v6, v7] (.ref b :: st) u P) := zr_GR k236_49
theorem k236_52 : xcd 236 52 = oI 24 54 := rfl
theorem r236_52 : zr 236 52 [v0, v1, v2, v3, v4, v5, v6, v7] st u P = zr 236 54 [v0, v1, v2, v3, v4, v5, v6, v7] (.int 24 :: st) u P := zr_I k236_52
theorem k236_54 : xcd 236 54 = oIl 7 56 := rfl
theorem r236_54 : zr 236 54 [v0, v1, v2, v3, v4, v5, v6, .int x7] st u P = zr 236 56 [v0, v1, v2, v3, v4, v5, v6, .int x7] (.int x7 :: st) u P := zr_Il k236_54 rfl
theorem k236_56 : xcd 236 56 = oB (fun x y => x + y) 57 := rfl
theorem r236_56 : zr 236 56 [v0, v1, v2, v3, v4, v5, v6, v7] (.int y1 :: .int y2 :: st) u P = zr 236 57 [v0, v1, v2, v3, v4, v5, v6, v7] (.int (y2 + y1) :: st) u P := zr_B k236_56
theorem k236_57 : xcd 236 57 = oLd 13 58 := rfl
theorem r236_57 : zr 236 57 [v0, v1, v2, v3, v4, v5, v6, v7] (.int y1 :: .ref b1 :: st) u P = ((xIs u b1 13 ∧ xinb y1 (xN u b1)) ∧ zr 236 58 [v0, v1, v2, v3, v4, v5, v6, v7] (.int (xI u b1 (xix y1)) :: st) u P) := zr_Ld k236_57
theorem k236_58 : xcd 236 58 = oI 1 59 := rfl
theorem r236_58 : zr 236 58 [v0, v1, v2, v3, v4, v5, v6, v7] st u P = zr 236 59 [v0, v1, v2, v3, v4, v5, v6, v7] (.int 1 :: st) u P := zr_I k236_58
theorem k236_59 : xcd 236 59 = oCmp (fun x y => decide (¬ x = y)) 65 62 := rfl
theorem r236_59 : zr 236 59 [v0, v1, v2, v3, v4, v5, v6, v7] (.int y1 :: .int y2 :: st) u P = (if ¬ y2 = y1 then zr 236 65 [v0, v1, v2, v3, v4, v5, v6, v7] st u P else zr 236 62 [v0, v1, v2, v3, v4, v5, v6, v7] st u P) := zr_Cmp k236_59
theorem k236_62 : xcd 236 62 = oIl 5 64 := rfl
theorem r236_62 : zr 236 62 [v0, v1, v2, v3, v4, .int x5, v6, v7] st u P = zr 236 64 [v0, v1, v2, v3, v4, .int x5, v6, v7] (.int x5 :: st) u P := zr_Il k236_62 rfl
theorem k236_64 : xcd 236 64 = oRi 0 := rfl
theorem r236_64 : zr 236 64 [v0, v1, v2, v3, v4, v5, v6, v7] [.int y1] u P = P (some (.int y1)) u := zr_Ri k236_64
theorem k236_65 : xcd 236 65 = oInc 6 1 68 := rfl
theorem r236_65 : zr 236 65 [v0, v1, v2, v3, v4, .int x5, .int x6, v7] st u P = zr 236 68 [v0, v1, v2, v3, v4, .int x5, .int (x6 + 1), v7] st u P := zr_Inc k236_65 rfl rfl
theorem k236_68 : xcd 236 68 = oGoto 6 := rfl
theorem r236_68 : zr 236 68 [v0, v1, v2, v3, v4, v5, v6, v7] st u P = zr 236 6 [v0, v1, v2, v3, v4, v5, v6, v7] st u P := zr_Goto k236_68
theorem k236_71 : xcd 236 71 = oIl 5 73 := rfl
theorem r236_71 : zr 236 71 [v0, v1, v2, v3, v4, .int x5, v6, v7] st u P = zr 236 73 [v0, v1, v2, v3, v4, .int x5, v6, v7] (.int x5 :: st) u P := zr_Il k236_71 rfl
theorem k236_73 : xcd 236 73 = oRi 0 := rfl
theorem r236_73 : zr 236 73 [v0, v1, v2, v3, v4, v5, v6, v7] [.int y1] u P = P (some (.int y1)) u := zr_Ri k236_73
theorem k237_0 : xcd 237 0 = oAl 0 1 := rfl
theorem r237_0 : zr 237 0 [.ref a0, v1, v2, v3, v4, v5] st u P = zr 237 1 [.ref a0, v1, v2, v3, v4, v5] (.ref a0 :: st) u P := zr_Al k237_0 rfl
theorem k237_1 : xcd 237 1 = oI 0 2 := rfl
theorem r237_1 : zr 237 1 [v0, v1, v2, v3, v4, v5] st u P = zr 237 2 [v0, v1, v2, v3, v4, v5] (.int 0 :: st) u P := zr_I k237_1
theorem k237_2 : xcd 237 2 = oPI 11 0 5 := rfl
theorem r237_2 : zr 237 2 [v0, v1, v2, v3, v4, v5] (.int y1 :: .ref b1 :: st) u P = (xIs u b1 11 ∧ zr 237 5 [v0, v1, v2, v3, v4, v5] st (xsI u b1 0 y1) P) := zr_PI k237_2
theorem k237_5 : xcd 237 5 = oAl 0 6 := rfl
theorem r237_5 : zr 237 5 [.ref a0, v1, v2, v3, v4, v5] st u P = zr 237 6 [.ref a0, v1, v2, v3, v4, v5] (.ref a0 :: st) u P := zr_Al k237_5 rfl
theorem k237_6 : xcd 237 6 = oAl 0 7 := rfl
theorem r237_6 : zr 237 6 [.ref a0, v1, v2, v3, v4, v5] st u P = zr 237 7 [.ref a0, v1, v2, v3, v4, v5] (.ref a0 :: st) u P := zr_Al k237_6 rfl
theorem k237_7 : xcd 237 7 = oGI 11 7 10 := rfl
theorem r237_7 : zr 237 7 [v0, v1, v2, v3, v4, v5] (.ref b1 :: st) u P = (xIs u b1 11 ∧ zr 237 10 [v0, v1, v2, v3, v4, v5] (.int (xI u b1 7) :: st) u P) := zr_GI k237_7
theorem k237_10 : xcd 237 10 = oIf (fun x => decide (x = 0)) 33 13 := rfl
theorem r237_10 : zr 237 10 [v0, v1, v2, v3, v4, v5] (.int y1 :: st) u P = (if y1 = 0 then zr 237 33 [v0, v1, v2, v3, v4, v5] st u P else zr 237 13 [v0, v1, v2, v3, v4, v5] st u P) := zr_If k237_10
theorem k237_13 : xcd 237 13 = oIl 1 14 := rfl
theorem r237_13 : zr 237 13 [v0, .int x1, v2, v3, v4, v5] st u P = zr 237 14 [v0, .int x1, v2, v3, v4, v5] (.int x1 :: st) u P := zr_Il k237_13 rfl
theorem k237_14 : xcd 237 14 = oI 0 15 := rfl
theorem r237_14 : zr 237 14 [v0, v1, v2, v3, v4, v5] st u P = zr 237 15 [v0, v1, v2, v3, v4, v5] (.int 0 :: st) u P := zr_I k237_14
theorem k237_15 : xcd 237 15 = oAl 0 16 := rfl
theorem r237_15 : zr 237 15 [.ref a0, v1, v2, v3, v4, v5] st u P = zr 237 16 [.ref a0, v1, v2, v3, v4, v5] (.ref a0 :: st) u P := zr_Al k237_15 rfl
theorem k237_16 : xcd 237 16 = oGR 11 3 19 := rfl
theorem r237_16 : zr 237 16 [v0, v1, v2, v3, v4, v5] (.ref b1 :: st) u P = (xIs u b1 11 ∧ ∃ b, xR u b1 3 = some b ∧ zr 237 19 [v0, v1, v2, v3, v4, v5] (.ref b :: st) u P) := zr_GR k237_16
theorem k237_19 : xcd 237 19 = oI 1 20 := rfl
theorem r237_19 : zr 237 19 [v0, v1, v2, v3, v4, v5] st u P = zr 237 20 [v0, v1, v2, v3, v4, v5] (.int 1 :: st) u P := zr_I k237_19
theorem k237_20 : xcd 237 20 = oLd 13 21 := rfl
theorem r237_20 : zr 237 20 [v0, v1, v2, v3, v4, v5] (.int y1 :: .ref b1 :: st) u P = ((xIs u b1 13 ∧ xinb y1 (xN u b1)) ∧ zr 237 21 [v0, v1, v2, v3, v4, v5] (.int (xI u b1 (xix y1)) :: st) u P) := zr_Ld k237_20
theorem k237_21 : xcd 237 21 = oI 1 22 := rfl
theorem r237_21 : zr 237 21 [v0, v1, v2, v3, v4, v5] st u P = zr 237 22 [v0, v1, v2, v3, v4, v5] (.int 1 :: st) u P := zr_I k237_21
theorem k237_22 : xcd 237 22 = oB (fun x y => x - y) 23 := rfl
theorem r237_22 : zr 237 22 [v0, v1, v2, v3, v4, v5] (.int y1 :: .int y2 :: st) u P = zr 237 23 [v0, v1, v2, v3, v4, v5] (.int (y2 - y1) :: st) u P := zr_B k237_22
theorem k237_23 : xcd 237 23 = oCal 175 3 26 := rfl
theorem r237_23 : zr 237 23 [v0, v1, v2, v3, v4, v5] (.int y3 :: .int y2 :: .int y1 :: st) u P = (xcat st ≤ 8 ∧ zr 175 0 [.int y1, .int y2, .int y3] [] u (fun r u2 => zr 237 26 [v0, v1, v2, v3, v4, v5] (r.toList ++ st) u2 P)) := zr_CS k237_23 (Nat.le_add_left _ _) rfl rfl ⟨Nat.le_of_ble_eq_true rfl, Nat.succ_ne_zero _, by decide⟩ rfl
theorem k237_26 : xcd 237 26 = oIf (fun x => decide (x = 0)) 33 29 := rfl
theorem r237_26 : zr 237 26 [v0, v1, v2, v3, v4, v5] (.int y1 :: st) u P = (if y1 = 0 then zr 237 33 [v0, v1, v2, v3, v4, v5] st u P else zr 237 29 [v0, v1, v2, v3, v4, v5] st u P) := zr_If k237_26
theorem k237_29 : xcd 237 29 = oI 1 30 := rfl
theorem r237_29 : zr 237 29 [v0, v1, v2, v3, v4, v5] st u P = zr 237 30 [v0, v1, v2, v3, v4, v5] (.int 1 :: st) u P := zr_I k237_29
theorem k237_30 : xcd 237 30 = oGoto 34 := rfl
theorem r237_30 : zr 237 30 [v0, v1, v2, v3, v4, v5] st u P = zr 237 34 [v0, v1, v2, v3, v4, v5] st u P := zr_Goto k237_30
theorem k237_33 : xcd 237 33 = oI 0 34 := rfl
theorem r237_33 : zr 237 33 [v0, v1, v2, v3, v4, v5] st u P = zr 237 34 [v0, v1, v2, v3, v4, v5] (.int 0 :: st) u P := zr_I k237_33
theorem k237_34 : xcd 237 34 = oIl 2 35 := rfl
theorem r237_34 : zr 237 34 [v0, v1, .int x2, v3, v4, v5] st u P = zr 237 35 [v0, v1, .int x2, v3, v4, v5] (.int x2 :: st) u P := zr_Il k237_34 rfl
theorem k237_35 : xcd 237 35 = oIl 3 36 := rfl
theorem r237_35 : zr 237 35 [v0, v1, v2, .int x3, v4, v5] st u P = zr 237 36 [v0, v1, v2, .int x3, v4, v5] (.int x3 :: st) u P := zr_Il k237_35 rfl
theorem k237_36 : xcd 237 36 = oIl 4 38 := rfl
theorem r237_36 : zr 237 36 [v0, v1, v2, v3, .int x4, v5] st u P = zr 237 38 [v0, v1, v2, v3, .int x4, v5] (.int x4 :: st) u P := zr_Il k237_36 rfl
theorem k237_38 : xcd 237 38 = oCalV 11 225 4 41 := rfl
theorem r237_38 : zr 237 38 [v0, v1, v2, v3, v4, v5] (.int y4 :: .int y3 :: .int y2 :: .int y1 :: .ref b8 :: st) u P = ((xIs u b8 11 ∧ xcat st ≤ 8) ∧ zr 225 0 [.ref b8, .int y1, .int y2, .int y3, .int y4, .null] [] u (fun r u2 => zr 237 41 [v0, v1, v2, v3, v4, v5] (r.toList ++ st) u2 P)) := zr_CV k237_38 rfl rfl rfl ⟨Nat.le_of_ble_eq_true rfl, Nat.succ_ne_zero _, by decide⟩ rfl
theorem k237_41 : xcd 237 41 = oIs 5 43 := rfl
theorem r237_41 : zr 237 41 [v0, v1, v2, v3, .int x4, v5] (.int y1 :: st) u P = zr 237 43 [v0, v1, v2, v3, .int x4, .int y1] st u P := zr_Is k237_41 ⟨Nat.le_of_ble_eq_true rfl, rfl⟩
theorem k237_43 : xcd 237 43 = oIl 5 45 := rfl
theorem r237_43 : zr 237 43 [v0, v1, v2, v3, v4, .int x5] st u P = zr 237 45 [v0, v1, v2, v3, v4, .int x5] (.int x5 :: st) u P := zr_Il k237_43 rfl
theorem k237_45 : xcd 237 45 = oIf (fun x => decide (x ≤ 0)) 57 48 := rfl
theorem r237_45 : zr 237 45 [v0, v1, v2, v3, v4, v5] (.int y1 :: st) u P = (if y1 ≤ 0 then zr 237 57 [v0, v1, v2, v3, v4, v5] st u P else zr 237 48 [v0, v1, v2, v3, v4, v5] st u P) := zr_If k237_45
theorem k237_48 : xcd 237 48 = oAl 0 49 := rfl
theorem r237_48 : zr 237 48 [.ref a0, v1, v2, v3, v4, v5] st u P = zr 237 49 [.ref a0, v1, v2, v3, v4, v5] (.ref a0 :: st) u P := zr_Al k237_48 rfl
theorem k237_49 : xcd 237 49 = oIl 5 51 := rfl
theorem r237_49 : zr 237 49 [v0, v1, v2, v3, v4, .int x5] st u P = zr 237 51 [v0, v1, v2, v3, v4, .int x5] (.int x5 :: st) u P := zr_Il k237_49 rfl
theorem k237_51 : xcd 237 51 = oCalV 11 172 1 54 := rfl
theorem r237_51 : zr 237 51 [v0, v1, v2, v3, v4, v5] (.int y1 :: .ref b8 :: st) u P = ((xIs u b8 11 ∧ xcat st ≤ 8) ∧ zr 172 0 [.ref b8, .int y1] [] u (fun r u2 => zr 237 54 [v0, v1, v2, v3, v4, v5] (r.toList ++ st) u2 P)) := zr_CV k237_51 rfl rfl rfl ⟨Nat.le_of_ble_eq_true rfl, Nat.succ_ne_zero _, by decide⟩ rfl
theorem k237_54 : xcd 237 54 = oGoto 70 := rfl
theorem r237_54 : zr 237 54 [v0, v1, v2, v3, v4, v5] st u P = zr 237 70 [v0, v1, v2, v3, v4, v5] st u P := zr_Goto k237_54
theorem k237_57 : xcd 237 57 = oAl 0 58 := rfl
theorem r237_57 : zr 237 57 [.ref a0, v1, v2, v3, v4, v5] st u P = zr 237 58 [.ref a0, v1, v2, v3, v4, v5] (.ref a0 :: st) u P := zr_Al k237_57 rfl
theorem k237_58 : xcd 237 58 = oAl 0 59 := rfl
theorem r237_58 : zr 237 58 [.ref a0, v1, v2, v3, v4, v5] st u P = zr 237 59 [.ref a0, v1, v2, v3, v4, v5] (.ref a0 :: st) u P := zr_Al k237_58 rfl
theorem k237_59 : xcd 237 59 = oIl 1 60 := rfl
theorem r237_59 : zr 237 59 [v0, .int x1, v2, v3, v4, v5] st u P = zr 237 60 [v0, .int x1, v2, v3, v4, v5] (.int x1 :: st) u P := zr_Il k237_59 rfl
theorem k237_60 : xcd 237 60 = oIl 2 61 := rfl
theorem r237_60 : zr 237 60 [v0, v1, .int x2, v3, v4, v5] st u P = zr 237 61 [v0, v1, .int x2, v3, v4, v5] (.int x2 :: st) u P := zr_Il k237_60 rfl
theorem k237_61 : xcd 237 61 = oIl 3 62 := rfl
theorem r237_61 : zr 237 61 [v0, v1, v2, .int x3, v4, v5] st u P = zr 237 62 [v0, v1, v2, .int x3, v4, v5] (.int x3 :: st) u P := zr_Il k237_61 rfl
theorem k237_62 : xcd 237 62 = oIl 4 64 := rfl
theorem r237_62 : zr 237 62 [v0, v1, v2, v3, .int x4, v5] st u P = zr 237 64 [v0, v1, v2, v3, .int x4, v5] (.int x4 :: st) u P := zr_Il k237_62 rfl
theorem k237_64 : xcd 237 64 = oCalV 11 235 4 67 := rfl
theorem r237_64 : zr 237 64 [v0, v1, v2, v3, v4, v5] (.int y4 :: .int y3 :: .int y2 :: .int y1 :: .ref b8 :: st) u P = ((xIs u b8 11 ∧ xcat st ≤ 8) ∧ zr 235 0 [.ref b8, .int y1, .int y2, .int y3, .int y4, .null] [] u (fun r u2 => zr 237 67 [v0, v1, v2, v3, v4, v5] (r.toList ++ st) u2 P)) := zr_CV k237_64 rfl rfl rfl ⟨Nat.le_of_ble_eq_true rfl, Nat.succ_ne_zero _, by decide⟩ rfl
theorem k237_67 : xcd 237 67 = oCalV 11 174 1 70 := rfl
theorem r237_67 : zr 237 67 [v0, v1, v2, v3, v4, v5] (.int y1 :: .ref b8 :: st) u P = ((xIs u b8 11 ∧ xcat st ≤ 8) ∧ zr 174 0 [.ref b8, .int y1] [] u (fun r u2 => zr 237 70 [v0, v1, v2, v3, v4, v5] (r.toList ++ st) u2 P)) := zr_CV k237_67 rfl rfl rfl ⟨Nat.le_of_ble_eq_true rfl, Nat.succ_ne_zero _, by decide⟩ rfl
theorem k237_70 : xcd 237 70 = oRi 0 := rfl
theorem r237_70 : zr 237 70 [v0, v1, v2, v3, v4, v5] [.int y1] u P = P (some (.int y1)) u := zr_Ri k237_70
theorem k238_0 : xcd 238 0 = oAl 0 1 := rfl
theorem r238_0 : zr 238 0 [.ref a0, v1, v2, v3, v4] st u P = zr 238 1 [.ref a0, v1, v2, v3, v4] (.ref a0 :: st) u P := zr_Al k238_0 rfl
theorem k238_1 : xcd 238 1 = oI 0 2 := rfl
theorem r238_1 : zr 238 1 [v0, v1, v2, v3, v4] st u P = zr 238 2 [v0, v1, v2, v3, v4] (.int 0 :: st) u P := zr_I k238_1
theorem k238_2 : xcd 238 2 = oPI 11 0 5 := rfl
theorem r238_2 : zr 238 2 [v0, v1, v2, v3, v4] (.int y1 :: .ref b1 :: st) u P = (xIs u b1 11 ∧ zr 238 5 [v0, v1, v2, v3, v4] st (xsI u b1 0 y1) P) := zr_PI k238_2
theorem k238_5 : xcd 238 5 = oAl 0 6 := rfl
theorem r238_5 : zr 238 5 [.ref a0, v1, v2, v3, v4] st u P = zr 238 6 [.ref a0, v1, v2, v3, v4] (.ref a0 :: st) u P := zr_Al k238_5 rfl
theorem k238_6 : xcd 238 6 = oI 1 7 := rfl
theorem r238_6 : zr 238 6 [v0, v1, v2, v3, v4] st u P = zr 238 7 [v0, v1, v2, v3, v4] (.int 1 :: st) u P := zr_I k238_6
theorem k238_7 : xcd 238 7 = oIl 1 8 := rfl
theorem r238_7 : zr 238 7 [v0, .int x1, v2, v3, v4] st u P = zr 238 8 [v0, .int x1, v2, v3, v4] (.int x1 :: st) u P := zr_Il k238_7 rfl
theorem k238_8 : xcd 238 8 = oIl 2 9 := rfl
theorem r238_8 : zr 238 8 [v0, v1, .int x2, v3, v4] st u P = zr 238 9 [v0, v1, .int x2, v3, v4] (.int x2 :: st) u P := zr_Il k238_8 rfl
theorem k238_9 : xcd 238 9 = oIl 3 10 := rfl
theorem r238_9 : zr 238 9 [v0, v1, v2, .int x3, v4] st u P = zr 238 10 [v0, v1, v2, .int x3, v4] (.int x3 :: st) u P := zr_Il k238_9 rfl
theorem k238_10 : xcd 238 10 = oCalV 11 225 4 13 := rfl
theorem r238_10 : zr 238 10 [v0, v1, v2, v3, v4] (.int y4 :: .int y3 :: .int y2 :: .int y1 :: .ref b8 :: st) u P = ((xIs u b8 11 ∧ xcat st ≤ 8) ∧ zr 225 0 [.ref b8, .int y1, .int y2, .int y3, .int y4, .null] [] u (fun r u2 => zr 238 13 [v0, v1, v2, v3, v4] (r.toList ++ st) u2 P)) := zr_CV k238_10 rfl rfl rfl ⟨Nat.le_of_ble_eq_true rfl, Nat.succ_ne_zero _, by decide⟩ rfl
theorem k238_13 : xcd 238 13 = oIs 4 15 := rfl
theorem r238_13 : zr 238 13 [v0, v1, v2, .int x3, v4] (.int y1 :: st) u P = zr 238 15 [v0, v1, v2, .int x3, .int y1] st u P := zr_Is k238_13 ⟨Nat.le_of_ble_eq_true rfl, rfl⟩
theorem k238_15 : xcd 238 15 = oIl 4 17 := rfl
theorem r238_15 : zr 238 15 [v0, v1, v2, v3, .int x4] st u P = zr 238 17 [v0, v1, v2, v3, .int x4] (.int x4 :: st) u P := zr_Il k238_15 rfl
theorem k238_17 : xcd 238 17 = oIf (fun x => decide (x ≤ 0)) 29 20 := rfl
theorem r238_17 : zr 238 17 [v0, v1, v2, v3, v4] (.int y1 :: st) u P = (if y1 ≤ 0 then zr 238 29 [v0, v1, v2, v3, v4] st u P else zr 238 20 [v0, v1, v2, v3, v4] st u P) := zr_If k238_17
theorem k238_20 : xcd 238 20 = oAl 0 21 := rfl
theorem r238_20 : zr 238 20 [.ref a0, v1, v2, v3, v4] st u P = zr 238 21 [.ref a0, v1, v2, v3, v4] (.ref a0 :: st) u P := zr_Al k238_20 rfl
theorem k238_21 : xcd 238 21 = oIl 4 23 := rfl
theorem r238_21 : zr 238 21 [v0, v1, v2, v3, .int x4] st u P = zr 238 23 [v0, v1, v2, v3, .int x4] (.int x4 :: st) u P := zr_Il k238_21 rfl
theorem k238_23 : xcd 238 23 = oCalV 11 172 1 26 := rfl
theorem r238_23 : zr 238 23 [v0, v1, v2, v3, v4] (.int y1 :: .ref b8 :: st) u P = ((xIs u b8 11 ∧ xcat st ≤ 8) ∧ zr 172 0 [.ref b8, .int y1] [] u (fun r u2 => zr 238 26 [v0, v1, v2, v3, v4] (r.toList ++ st) u2 P)) := zr_CV k238_23 rfl rfl rfl ⟨Nat.le_of_ble_eq_true rfl, Nat.succ_ne_zero _, by decide⟩ rfl
theorem k238_26 : xcd 238 26 = oGoto 44 := rfl
theorem r238_26 : zr 238 26 [v0, v1, v2, v3, v4] st u P = zr 238 44 [v0, v1, v2, v3, v4] st u P := zr_Goto k238_26
theorem k238_29 : xcd 238 29 = oAl 0 30 := rfl
theorem r238_29 : zr 238 29 [.ref a0, v1, v2, v3, v4] st u P = zr 238 30 [.ref a0, v1, v2, v3, v4] (.ref a0 :: st) u P := zr_Al k238_29 rfl
theorem k238_30 : xcd 238 30 = oAl 0 31 := rfl
theorem r238_30 : zr 238 30 [.ref a0, v1, v2, v3, v4] st u P = zr 238 31 [.ref a0, v1, v2, v3, v4] (.ref a0 :: st) u P := zr_Al k238_30 rfl
theorem k238_31 : xcd 238 31 = oIl 1 32 := rfl
theorem r238_31 : zr 238 31 [v0, .int x1, v2, v3, v4] st u P = zr 238 32 [v0, .int x1, v2, v3, v4] (.int x1 :: st) u P := zr_Il k238_31 rfl
theorem k238_32 : xcd 238 32 = oIl 2 33 := rfl
theorem r238_32 : zr 238 32 [v0, v1, .int x2, v3, v4] st u P = zr 238 33 [v0, v1, .int x2, v3, v4] (.int x2 :: st) u P := zr_Il k238_32 rfl
theorem k238_33 : xcd 238 33 = oIl 3 34 := rfl
theorem r238_33 : zr 238 33 [v0, v1, v2, .int x3, v4] st u P = zr 238 34 [v0, v1, v2, .int x3, v4] (.int x3 :: st) u P := zr_Il k238_33 rfl
theorem k238_34 : xcd 238 34 = oAl 0 35 := rfl
theorem r238_34 : zr 238 34 [.ref a0, v1, v2, v3, v4] st u P = zr 238 35 [.ref a0, v1, v2, v3, v4] (.ref a0 :: st) u P := zr_Al k238_34 rfl
theorem k238_35 : xcd 238 35 = oGR 11 17 38 := rfl
theorem r238_35 : zr 238 35 [v0, v1, v2, v3, v4] (.ref b1 :: st) u P = (xIs u b1 11 ∧ ∃ b, xR u b1 17 = some b ∧ zr 238 38 [v0, v1, v2, v3, v4] (.ref b :: st) u P) := zr_GR k238_35
theorem k238_38 : xcd 238 38 = oCalV 11 236 4 41 := rfl
theorem r238_38 : zr 238 38 [v0, v1, v2, v3, v4] (.ref b4 :: .int y3 :: .int y2 :: .int y1 :: .ref b8 :: st) u P = ((xIs u b8 11 ∧ xcat st ≤ 8) ∧ zr 236 0 [.ref b8, .int y1, .int y2, .int y3, .ref b4, .null, .null, .null] [] u (fun r u2 => zr 238 41 [v0, v1, v2, v3, v4] (r.toList ++ st) u2 P)) := zr_CV k238_38 rfl rfl rfl ⟨Nat.le_of_ble_eq_true rfl, Nat.succ_ne_zero _, by decide⟩ rfl
theorem k238_41 : xcd 238 41 = oCalV 11 174 1 44 := rfl
theorem r238_41 : zr 238 41 [v0, v1, v2, v3, v4] (.int y1 :: .ref b8 :: st) u P = ((xIs u b8 11 ∧ xcat st ≤ 8) ∧ zr 174 0 [.ref b8, .int y1] [] u (fun r u2 => zr 238 44 [v0, v1, v2, v3, v4] (r.toList ++ st) u2 P)) := zr_CV k238_41 rfl rfl rfl ⟨Nat.le_of_ble_eq_true rfl, Nat.succ_ne_zero _, by decide⟩ rfl
theorem k238_44 : xcd 238 44 = oRi 0 := rfl
theorem r238_44 : zr 238 44 [v0, v1, v2, v3, v4] [.int y1] u P = P (some (.int y1)) u := zr_Ri k238_44
theorem k239_0 : xcd 239 0 = oAl 0 1 := rfl
theorem r239_0 : zr 239 0 [.ref a0, v1, v2, v3, v4, v5] st u P = zr 239 1 [.ref a0, v1, v2, v3, v4, v5] (.ref a0 :: st) u P := zr_Al k239_0 rfl
theorem k239_1 : xcd 239 1 = oI 0 2 := rfl
theorem r239_1 : zr 239 1 [v0, v1, v2, v3, v4, v5] st u P = zr 239 2 [v0, v1, v2, v3, v4, v5] (.int 0 :: st) u P := zr_I k239_1
theorem k239_2 : xcd 239 2 = oPI 11 0 5 := rfl
theorem r239_2 : zr 239 2 [v0, v1, v2, v3, v4, v5] (.int y1 :: .ref b1 :: st) u P = (xIs u b1 11 ∧ zr 239 5 [v0, v1, v2, v3, v4, v5] st (xsI u b1 0 y1) P) := zr_PI k239_2
theorem k239_5 : xcd 239 5 = oAl 0 6 := rfl
theorem r239_5 : zr 239 5 [.ref a0, v1, v2, v3, v4, v5] st u P = zr 239 6 [.ref a0, v1, v2, v3, v4, v5] (.ref a0 :: st) u P := zr_Al k239_5 rfl
theorem k239_6 : xcd 239 6 = oI 1 7 := rfl
theorem r239_6 : zr 239 6 [v0, v1, v2, v3, v4, v5] st u P = zr 239 7 [v0, v1, v2, v3, v4, v5] (.int 1 :: st) u P := zr_I k239_6
theorem k239_7 : xcd 239 7 = oIl 1 8 := rfl
theorem r239_7 : zr 239 7 [v0, .int x1, v2, v3, v4, v5] st u P = zr 239 8 [v0, .int x1, v2, v3, v4, v5] (.int x1 :: st) u P := zr_Il k239_7 rfl
theorem k239_8 : xcd 239 8 = oIl 2 9 := rfl
theorem r239_8 : zr 239 8 [v0, v1, .int x2, v3, v4, v5] st u P = zr 239 9 [v0, v1, .int x2, v3, v4, v5] (.int x2 :: st) u P := zr_Il k239_8 rfl
theorem k239_9 : xcd 239 9 = oIl 3 10 := rfl
theorem r239_9 : zr 239 9 [v0, v1, v2, .int x3, v4, v5] st u P = zr 239 10 [v0, v1, v2, .int x3, v4, v5] (.int x3 :: st) u P := zr_Il k239_9 rfl
theorem k239_10 : xcd 239 10 = oCalV 11 225 4 13 := rfl
theorem r239_10 : zr 239 10 [v0, v1, v2, v3, v4, v5] (.int y4 :: .int y3 :: .int y2 :: .int y1 :: .ref b8 :: st) u P = ((xIs u b8 11 ∧ xcat st ≤ 8) ∧ zr 225 0 [.ref b8, .int y1, .int y2, .int y3, .int y4, .null] [] u (fun r u2 => zr 239 13 [v0, v1, v2, v3, v4, v5] (r.toList ++ st) u2 P)) := zr_CV k239_10 rfl rfl rfl ⟨Nat.le_of_ble_eq_true rfl, Nat.succ_ne_zero _, by decide⟩ rfl
theorem k239_13 : xcd 239 13 = oIs 5 15 := rfl
theorem r239_13 : zr 239 13 [v0, v1, v2, v3, .int x4, v5] (.int y1 :: st) u P = zr 239 15 [v0, v1, v2, v3, .int x4, .int y1] st u P := zr_Is k239_13 ⟨Nat.le_of_ble_eq_true rfl, rfl⟩
theorem k239_15 : xcd 239 15 = oIl 5 17 := rfl
theorem r239_15 : zr 239 15 [v0, v1, v2, v3, v4, .int x5] st u P = zr 239 17 [v0, v1, v2, v3, v4, .int x5] (.int x5 :: st) u P := zr_Il k239_15 rfl
theorem k239_17 : xcd 239 17 = oIf (fun x => decide (x ≤ 0)) 27 20 := rfl
theorem r239_17 : zr 239 17 [v0, v1, v2, v3, v4, v5] (.int y1 :: st) u P = (if y1 ≤ 0 then zr 239 27 [v0, v1, v2, v3, v4, v5] st u P else zr 239 20 [v0, v1, v2, v3, v4, v5] st u P) := zr_If k239_17
theorem k239_20 : xcd 239 20 = oAl 0 21 := rfl
theorem r239_20 : zr 239 20 [.ref a0, v1, v2, v3, v4, v5] st u P = zr 239 21 [.ref a0, v1, v2, v3, v4, v5] (.ref a0 :: st) u P := zr_Al k239_20 rfl
theorem k239_21 : xcd 239 21 = oIl 5 23 := rfl
theorem r239_21 : zr 239 21 [v0, v1, v2, v3, v4, .int x5] st u P = zr 239 23 [v0, v1, v2, v3, v4, .int x5] (.int x5 :: st) u P := zr_Il k239_21 rfl
theorem k239_23 : xcd 239 23 = oCalV 11 172 1 26 := rfl
theorem r239_23 : zr 239 23 [v0, v1, v2, v3, v4, v5] (.int y1 :: .ref b8 :: st) u P = ((xIs u b8 11 ∧ xcat st ≤ 8) ∧ zr 172 0 [.ref b8, .int y1] [] u (fun r u2 => zr 239 26 [v0, v1, v2, v3, v4, v5] (r.toList ++ st) u2 P)) := zr_CV k239_23 rfl rfl rfl ⟨Nat.le_of_ble_eq_true rfl, Nat.succ_ne_zero _, by decide⟩ rfl
theorem k239_26 : xcd 239 26 = oRi 0 := rfl
theorem r239_26 : zr 239 26 [v0, v1, v2, v3, v4, v5] [.int y1] u P = P (some (.int y1)) u := zr_Ri k239_26
theorem k239_27 : xcd 239 27 = oIl 4 29 := rfl
theorem r239_27 : zr 239 27 [v0, v1, v2, v3, .int x4, v5] st u P = zr 239 29 [v0, v1, v2, v3, .int x4, v5] (.int x4 :: st) u P := zr_Il k239_27 rfl
theorem k239_29 : xcd 239 29 = oI 0 30 := rfl
theorem r239_29 : zr 239 29 [v0, v1, v2, v3, v4, v5] st u P = zr 239 30 [v0, v1, v2, v3, v4, v5] (.int 0 :: st) u P := zr_I k239_29
theorem k239_30 : xcd 239 30 = oAl 0 31 := rfl
theorem r239_30 : zr 239 30 [.ref a0, v1, v2, v3, v4, v5] st u P = zr 239 31 [.ref a0, v1, v2, v3, v4, v5] (.ref a0 :: st) u P := zr_Al k239_30 rfl
theorem k239_31 : xcd 239 31 = oIl 1 32 := rfl
theorem r239_31 : zr 239 31 [v0, .int x1, v2, v3, v4, v5] st u P = zr 239 32 [v0, .int x1, v2, v3, v4, v5] (.int x1 :: st) u P := zr_Il k239_31 rfl
theorem k239_32 : xcd 239 32 = oIl 2 33 := rfl
theorem r239_32 : zr 239 32 [v0, v1, .int x2, v3, v4, v5] st u P = zr 239 33 [v0, v1, .int x2, v3, v4, v5] (.int x2 :: st) u P := zr_Il k239_32 rfl
theorem k239_33 : xcd 239 33 = oIl 3 34 := rfl
theorem r239_33 : zr 239 33 [v0, v1, v2, .int x3, v4, v5] st u P = zr 239 34 [v0, v1, v2, .int x3, v4, v5] (.int x3 :: st) u P := zr_Il k239_33 rfl
theorem k239_34 : xcd 239 34 = oAl 0 35 := rfl
theorem r239_34 : zr 239 34 [.ref a0, v1, v2, v3, v4, v5] st u P = zr 239 35 [.ref a0, v1, v2, v3, v4, v5] (.ref a0 :: st) u P := zr_Al k239_34 rfl
theorem k239_35 : xcd 239 35 = oGR 11 17 38 := rfl
theorem r239_35 : zr 239 35 [v0, v1, v2, v3, v4, v5] (.ref b1 :: st) u P = (xIs u b1 11 ∧ ∃ b, xR u b1 17 = some b ∧ zr 239 38 [v0, v1, v2, v3, v4, v5] (.ref b :: st) u P) := zr_GR k239_35
theorem k239_38 : xcd 239 38 = oCalV 11 236 4 41 := rfl
theorem r239_38 : zr 239 38 [v0, v1, v2, v3, v4, v5] (.ref b4 :: .int y3 :: .int y2 :: .int y1 :: .ref b8 :: st) u P = ((xIs u b8 11 ∧ xcat st ≤ 8) ∧ zr 236 0 [.ref b8, .int y1, .int y2, .int y3, .ref b4, .null, .null, .null] [] u (fun r u2 => zr 239 41 [v0, v1, v2, v3, v4, v5] (r.toList ++ st) u2 P)) := zr_CV k239_38 rfl rfl rfl ⟨Nat.le_of_ble_eq_true rfl, Nat.succ_ne_zero _, by decide⟩ rfl
theorem k239_41 : xcd 239 41 = oI 1 42 := rfl
theorem r239_41 : zr 239 41 [v0, v1, v2, v3, v4, v5] st u P = zr 239 42 [v0, v1, v2, v3, v4, v5] (.int 1 :: st) u P := zr_I k239_41
theorem k239_42 : xcd 239 42 = oB (fun x y => x - y) 43 := rfl
theorem r239_42 : zr 239 42 [v0, v1, v2, v3, v4, v5] (.int y1 :: .int y2 :: st) u P = zr 239 43 [v0, v1, v2, v3, v4, v5] (.int (y2 - y1) :: st) u P := zr_B k239_42
theorem k239_43 : xcd 239 43 = oCal 175 3 46 := rfl
theorem r239_43 : zr 239 43 [v0, v1, v2, v3, v4, v5] (.int y3 :: .int y2 :: .int y1 :: st) u P = (xcat st ≤ 8 ∧ zr 175 0 [.int y1, .int y2, .int y3] [] u (fun r u2 => zr 239 46 [v0, v1, v2, v3, v4, v5] (r.toList ++ st) u2 P)) := zr_CS k239_43 (Nat.le_add_left _ _) rfl rfl ⟨Nat.le_of_ble_eq_true rfl, Nat.succ_ne_zero _, by decide⟩ rfl
theorem k239_46 : xcd 239 46 = oIf (fun x => decide (x = 0)) 63 49 := rfl
theorem r239_46 : zr 239 46 [v0, v1, v2, v3, v4, v5] (.int y1 :: st) u P = (if y1 = 0 then zr 239 63 [v0, v1, v2, v3, v4, v5] st u P else zr 239 49 [v0, v1, v2, v3, v4, v5] st u P) := zr_If k239_46
theorem k239_49 : xcd 239 49 = oAl 0 50 := rfl
theorem r239_49 : zr 239 49 [.ref a0, v1, v2, v3, v4, v5] st u P = zr 239 50 [.ref a0, v1, v2, v3, v4, v5] (.ref a0 :: st) u P := zr_Al k239_49 rfl
theorem k239_50 : xcd 239 50 = oAl 0 51 := rfl
theorem r239_50 : zr 239 50 [.ref a0, v1, v2, v3, v4, v5] st u P = zr 239 51 [.ref a0, v1, v2, v3, v4, v5] (.ref a0 :: st) u P := zr_Al k239_50 rfl
theorem k239_51 : xcd 239 51 = oGR 11 17 54 := rfl
theorem r239_51 : zr 239 51 [v0, v1, v2, v3, v4, v5] (.ref b1 :: st) u P = (xIs u b1 11 ∧ ∃ b, xR u b1 17 = some b ∧ zr 239 54 [v0, v1, v2, v3, v4, v5] (.ref b :: st) u P) := zr_GR k239_51
theorem k239_54 : xcd 239 54 = oIl 4 56 := rfl
theorem r239_54 : zr 239 54 [v0, v1, v2, v3, .int x4, v5] st u P = zr 239 56 [v0, v1, v2, v3, .int x4, v5] (.int x4 :: st) u P := zr_Il k239_54 rfl
theorem k239_56 : xcd 239 56 = oLd 13 57 := rfl
theorem r239_56 : zr 239 56 [v0, v1, v2, v3, v4, v5] (.int y1 :: .ref b1 :: st) u P = ((xIs u b1 13 ∧ xinb y1 (xN u b1)) ∧ zr 239 57 [v0, v1, v2, v3, v4, v5] (.int (xI u b1 (xix y1)) :: st) u P) := zr_Ld k239_56
theorem k239_57 : xcd 239 57 = oCalV 11 174 1 60 := rfl
theorem r239_57 : zr 239 57 [v0, v1, v2, v3, v4, v5] (.int y1 :: .ref b8 :: st) u P = ((xIs u b8 11 ∧ xcat st ≤ 8) ∧ zr 174 0 [.ref b8, .int y1] [] u (fun r u2 => zr 239 60 [v0, v1, v2, v3, v4, v5] (r.toList ++ st) u2 P)) := zr_CV k239_57 rfl rfl rfl ⟨Nat.le_of_ble_eq_true rfl, Nat.succ_ne_zero _, by decide⟩ rfl
theorem k239_60 : xcd 239 60 = oGoto 68 := rfl
theorem r239_60 : zr 239 60 [v0, v1, v2, v3, v4, v5] st u P = zr 239 68 [v0, v1, v2, v3, v4, v5] st u P := zr_Goto k239_60
theorem k239_63 : xcd 239 63 = oAl 0 64 := rfl
theorem r239_63 : zr 239 63 [.ref a0, v1, v2, v3, v4, v5] st u P = zr 239 64 [.ref a0, v1, v2, v3, v4, v5] (.ref a0 :: st) u P := zr_Al k239_63 rfl
theorem k239_64 : xcd 239 64 = oI 1 65 := rfl
theorem r239_64 : zr 239 64 [v0, v1, v2, v3, v4, v5] st u P = zr 239 65 [v0, v1, v2, v3, v4, v5] (.int 1 :: st) u P := zr_I k239_64
theorem k239_65 : xcd 239 65 = oCalV 11 172 1 68 := rfl
theorem r239_65 : zr 239 65 [v0, v1, v2, v3, v4, v5] (.int y1 :: .ref b8 :: st) u P = ((xIs u b8 11 ∧ xcat st ≤ 8) ∧ zr 172 0 [.ref b8, .int y1] [] u (fun r u2 => zr 239 68 [v0, v1, v2, v3, v4, v5] (r.toList ++ st) u2 P)) := zr_CV k239_65 rfl rfl rfl ⟨Nat.le_of_ble_eq_true rfl, Nat.succ_ne_zero _, by decide⟩ rfl
theorem k239_68 : xcd 239 68 = oRi 0 := rfl
theorem r239_68 : zr 239 68 [v0, v1, v2, v3, v4, v5] [.int y1] u P = P (some (.int y1)) u := zr_Ri k239_68
theorem k240_0 : xcd 240 0 = oAl 0 1 := rfl
theorem r240_0 : zr 240 0 [.ref a0, v1, v2, v3, v4, v5, v6, v7, v8] st u P = zr 240 1 [.ref a0, v1, v2, v3, v4, v5, v6, v7, v8] (.ref a0 :: st) u P := zr_Al k240_0 rfl
theorem k240_1 : xcd 240 1 = oI 0 2 := rfl
theorem r240_1 : zr 240 1 [v0, v1, v2, v3, v4, v5, v6, v7, v8] st u P = zr 240 2 [v0, v1, v2, v3, v4, v5, v6, v7, v8] (.int 0 :: st) u P := zr_I k240_1
theorem k240_2 : xcd 240 2 = oPI 11 0 5 := rfl
theorem r240_2 : zr 240 2 [v0, v1, v2, v3, v4, v5, v6, v7, v8] (.int y1 :: .ref b1 :: st) u P = (xIs u b1 11 ∧ zr 240 5 [v0, v1, v2, v3, v4, v5, v6, v7, v8] st (xsI u b1 0 y1) P) := zr_PI k240_2
theorem k240_5 : xcd 240 5 = oAl 0 6 := rfl
theorem r240_5 : zr 240 5 [.ref a0, v1, v2, v3, v4, v5, v6, v7, v8] st u P = zr 240 6 [.ref a0, v1, v2, v3, v4, v5, v6, v7, v8] (.ref a0 :: st) u P := zr_Al k240_5 rfl
theorem k240_6 : xcd 240 6 = oI 1 7 := rfl
theorem r240_6 : zr 240 6 [v0, v1, v2, v3, v4, v5, v6, v7, v8] st u P = zr 240 7 [v0, v1, v2, v3, v4, v5, v6, v7, v8] (.int 1 :: st) u P := zr_I k240_6
theorem k240_7 : xcd 240 7 = oIl 1 8 := rfl
theorem r240_7 : zr 240 7 [v0, .int x1, v2, v3, v4, v5, v6, v7, v8] st u P = zr 240 8 [v0, .int x1, v2, v3, v4, v5, v6, v7, v8] (.int x1 :: st) u P := zr_Il k240_7 rfl
theorem k240_8 : xcd 240 8 = oIl 2 9 := rfl
theorem r240_8 : zr 240 8 [v0, v1, .int x2, v3, v4, v5, v6, v7, v8] st u P = zr 240 9 [v0, v1, .int x2, v3, v4, v5, v6, v7, v8] (.int x2 :: st) u P := zr_Il k240_8 rfl
theorem k240_9 : xcd 240 9 = oIl 3 10 := rfl
theorem r240_9 : zr 240 9 [v0, v1, v2, .int x3, v4, v5, v6, v7, v8] st u P = zr 240 10 [v0, v1, v2, .int x3, v4, v5, v6, v7, v8] (.int x3 :: st) u P := zr_Il k240_9 rfl
theorem k240_10 : xcd 240 10 = oCalV 11 225 4 13 := rfl
theorem r240_10 : zr 240 10 [v0, v1, v2, v3, v4, v5, v6, v7, v8] (.int y4 :: .int y3 :: .int y2 :: .int y1 :: .ref b8 :: st) u P = ((xIs u b8 11 ∧ xcat st ≤ 8) ∧ zr 225 0 [.ref b8, .int y1, .int y2, .int y3, .int y4, .null] [] u (fun r u2 => zr 240 13 [v0, v1, v2, v3, v4, v5, v6, v7, v8] (r.toList ++ st) u2 P)) := zr_CV k240_10 rfl rfl rfl ⟨Nat.le_of_ble_eq_true rfl, Nat.succ_ne_zero _, by decide⟩ rfl
theorem k240_13 : xcd 240 13 = oIs 4 15 := rfl
theorem r240_13 : zr 240 13 [v0, v1, v2, .int x3, v4, v5, v6, v7, v8] (.int y1 :: st) u P = zr 240 15 [v0, v1, v2, .int x3, .int y1, v5, v6, v7, v8] st u P := zr_Is k240_13 ⟨Nat.le_of_ble_eq_true rfl, rfl⟩
theorem k240_15 : xcd 240 15 = oIl 4 17 := rfl
theorem r240_15 : zr 240 15 [v0, v1, v2, v3, .int x4, v5, v6, v7, v8] st u P = zr 240 17 [v0, v1, v2, v3, .int x4, v5, v6, v7, v8] (.int x4 :: st) u P := zr_Il k240_15 rfl
theorem k240_17 : xcd 240 17 = oIf (fun x => decide (x ≤ 0)) 27 20 := rfl
theorem r240_17 : zr 240 17 [v0, v1, v2, v3, v4, v5, v6, v7, v8] (.int y1 :: st) u P = (if y1 ≤ 0 then zr 240 27 [v0, v1, v2, v3, v4, v5, v6, v7, v8] st u P else zr 240 20 [v0, v1, v2, v3, v4, v5, v6, v7, v8] st u P) := zr_If k240_17
theorem k240_20 : xcd 240 20 = oAl 0 21 := rfl
theorem r240_20 : zr 240 20 [.ref a0, v1, v2, v3, v4, v5, v6, v7, v8] st u P = zr 240 21 [.ref a0, v1, v2, v3, v4, v5, v6, v7, v8] (.ref a0 :: st) u P := zr_Al k240_20 rfl
theorem k240_21 : xcd 240 21 = oIl 4 23 := rfl
theorem r240_21 : zr 240 21 [v0, v1, v2, v3, .int x4, v5, v6, v7, v8] st u P = zr 240 23 [v0, v1, v2, v3, .int x4, v5, v6, v7, v8] (.int x4 :: st) u P := zr_Il k240_21 rfl
theorem k240_23 : xcd 240 23 = oCalV 11 172 1 26 := rfl
theorem r240_23 : zr 240 23 [v0, v1, v2, v3, v4, v5, v6, v7, v8] (.int y1 :: .ref b8 :: st) u P = ((xIs u b8 11 ∧ xcat st ≤ 8) ∧ zr 172 0 [.ref b8, .int y1] [] u (fun r u2 => zr 240 26 [v0, v1, v2, v3, v4, v5, v6, v7, v8] (r.toList ++ st) u2 P)) := zr_CV k240_23 rfl rfl rfl ⟨Nat.le_of_ble_eq_true rfl, Nat.succ_ne_zero _, by decide⟩ rfl
theorem k240_26 : xcd 240 26 = oRi 0 := rfl
theorem r240_26 : zr 240 26 [v0, v1, v2, v3, v4, v5, v6, v7, v8] [.int y1] u P = P (some (.int y1)) u := zr_Ri k240_26
theorem k240_27 : xcd 240 27 = oAl 0 28 := rfl
theorem r240_27 : zr 240 27 [.ref a0, v1, v2, v3, v4, v5, v6, v7, v8] st u P = zr 240 28 [.ref a0, v1, v2, v3, v4, v5, v6, v7, v8] (.ref a0 :: st) u P := zr_Al k240_27 rfl
theorem k240_28 : xcd 240 28 = oIl 1 29 := rfl
theorem r240_28 : zr 240 28 [v0, .int x1, v2, v3, v4, v5, v6, v7, v8] st u P = zr 240 29 [v0, .int x1, v2, v3, v4, v5, v6, v7, v8] (.int x1 :: st) u P := zr_Il k240_28 rfl
theorem k240_29 : xcd 240 29 = oIl 2 30 := rfl
theorem r240_29 : zr 240 29 [v0, v1, .int x2, v3, v4, v5, v6, v7, v8] st u P = zr 240 30 [v0, v1, .int x2, v3, v4, v5, v6, v7, v8] (.int x2 :: st) u P := zr_Il k240_29 rfl
theorem k240_30 : xcd 240 30 = oIl 3 31 := rfl
theorem r240_30 : zr 240 30 [v0, v1, v2, .int x3, v4, v5, v6, v7, v8] st u P = zr 240 31 [v0, v1, v2, .int x3, v4, v5, v6, v7, v8] (.int x3 :: st) u P := zr_Il k240_30 rfl
theorem k240_31 : xcd 240 31 = oAl 0 32 := rfl
theorem r240_31 : zr 240 31 [.ref a0, v1, v2, v3, v4, v5, v6, v7, v8] st u P = zr 240 32 [.ref a0, v1, v2, v3, v4, v5, v6, v7, v8] (.ref a0 :: st) u P := zr_Al k240_31 rfl
theorem k240_32 : xcd 240 32 = oGR 11 17 35 := rfl
theorem r240_32 : zr 240 32 [v0, v1, v2, v3, v4, v5, v6, v7, v8] (.ref b1 :: st) u P = (xIs u b1 11 ∧ ∃ b, xR u b1 17 = some b ∧ zr 240 35 [v0, v1, v2, v3, v4, v5, v6, v7, v8] (.ref b :: st) u P) := zr_GR k240_32
theorem k240_35 : xcd 240 35 = oCalV 11 236 4 38 := rfl
theorem r240_35 : zr 240 35 [v0, v1, v2, v3, v4, v5, v6, v7, v8] (.ref b4 :: .int y3 :: .int y2 :: .int y1 :: .ref b8 :: st) u P = ((xIs u b8 11 ∧ xcat st ≤ 8) ∧ zr 236 0 [.ref b8, .int y1, .int y2, .int y3, .ref b4, .null, .null, .null] [] u (fun r u2 => zr 240 38 [v0, v1, v2, v3, v4, v5, v6, v7, v8] (r.toList ++ st) u2 P)) := zr_CV k240_35 rfl rfl rfl ⟨Nat.le_of_ble_eq_true rfl, Nat.succ_ne_zero _, by decide⟩ rfl
theorem k240_38 : xcd 240 38 = oIs 5 40 := rfl
theorem r240_38 : zr 240 38 [v0, v1, v2, v3, .int x4, v5, v6, v7, v8] (.int y1 :: st) u P = zr 240 40 [v0, v1, v2, v3, .int x4, .int y1, v6, v7, v8] st u P := zr_Is k240_38 ⟨Nat.le_of_ble_eq_true rfl, rfl⟩
theorem k240_40 : xcd 240 40 = oIl 1 41 := rfl
theorem r240_40 : zr 240 40 [v0, .int x1, v2, v3, v4, v5, v6, v7, v8] st u P = zr 240 41 [v0, .int x1, v2, v3, v4, v5, v6, v7, v8] (.int x1 :: st) u P := zr_Il k240_40 rfl
theorem k240_41 : xcd 240 41 = oI 1 42 := rfl
theorem r240_41 : zr 240 41 [v0, v1, v2, v3, v4, v5, v6, v7, v8] st u P = zr 240 42 [v0, v1, v2, v3, v4, v5, v6, v7, v8] (.int 1 :: st) u P := zr_I k240_41
theorem k240_42 : xcd 240 42 = oB (fun x y => x + y) 43 := rfl
theorem r240_42 : zr 240 42 [v0, v1, v2, v3, v4, v5, v6, v7, v8] (.int y1 :: .int y2 :: st) u P = zr 240 43 [v0, v1, v2, v3, v4, v5, v6, v7, v8] (.int (y2 + y1) :: st) u P := zr_B k240_42
theorem k240_43 : xcd 240 43 = oIs 6 45 := rfl
theorem r240_43 : zr 240 43 [v0, v1, v2, v3, v4, .int x5, v6, v7, v8] (.int y1 :: st) u P = zr 240 45 [v0, v1, v2, v3, v4, .int x5, .int y1, v7, v8] st u P := zr_Is k240_43 ⟨Nat.le_of_ble_eq_true rfl, rfl⟩
theorem k240_45 : xcd 240 45 = oIl 6 47 := rfl
theorem r240_45 : zr 240 45 [v0, v1, v2, v3, v4, v5, .int x6, v7, v8] st u P = zr 240 47 [v0, v1, v2, v3, v4, v5, .int x6, v7, v8] (.int x6 :: st) u P := zr_Il k240_45 rfl
theorem k240_47 : xcd 240 47 = oI 999 50 := rfl
theorem r240_47 : zr 240 47 [v0, v1, v2, v3, v4, v5, v6, v7, v8] st u P = zr 240 50 [v0, v1, v2, v3, v4, v5, v6, v7, v8] (.int 999 :: st) u P := zr_I k240_47
theorem k240_50 : xcd 240 50 = oCmp (fun x y => decide (y < x)) 140 53 := rfl
theorem r240_50 : zr 240 50 [v0, v1, v2, v3, v4, v5, v6, v7, v8] (.int y1 :: .int y2 :: st) u P = (if y1 < y2 then zr 240 140 [v0, v1, v2, v3, v4, v5, v6, v7, v8] st u P else zr 240 53 [v0, v1, v2, v3, v4, v5, v6, v7, v8] st u P) := zr_Cmp k240_50
theorem k240_53 : xcd 240 53 = oAl 0 54 := rfl
theorem r240_53 : zr 240 53 [.ref a0, v1, v2, v3, v4, v5, v6, v7, v8] st u P = zr 240 54 [.ref a0, v1, v2, v3, v4, v5, v6, v7, v8] (.ref a0 :: st) u P := zr_Al k240_53 rfl
theorem k240_54 : xcd 240 54 = oIl 6 56 := rfl
theorem r240_54 : zr 240 54 [v0, v1, v2, v3, v4, v5, .int x6, v7, v8] st u P = zr 240 56 [v0, v1, v2, v3, v4, v5, .int x6, v7, v8] (.int x6 :: st) u P := zr_Il k240_54 rfl
theorem k240_56 : xcd 240 56 = oIl 2 57 := rfl
theorem r240_56 : zr 240 56 [v0, v1, .int x2, v3, v4, v5, v6, v7, v8] st u P = zr 240 57 [v0, v1, .int x2, v3, v4, v5, v6, v7, v8] (.int x2 :: st) u P := zr_Il k240_56 rfl
theorem k240_57 : xcd 240 57 = oIl 3 58 := rfl
theorem r240_57 : zr 240 57 [v0, v1, v2, .int x3, v4, v5, v6, v7, v8] st u P = zr 240 58 [v0, v1, v2, .int x3, v4, v5, v6, v7, v8] (.int x3 :: st) u P := zr_Il k240_57 rfl
theorem k240_58 : xcd 240 58 = oAl 0 59 := rfl
theorem r240_58 : zr 240 58 [.ref a0, v1, v2, v3, v4, v5, v6, v7, v8] st u P = zr 240 59 [.ref a0, v1, v2, v3, v4, v5, v6, v7, v8] (.ref a0 :: st) u P := zr_Al k240_58 rfl
theorem k240_59 : xcd 240 59 = oGR 11 18 62 := rfl
theorem r240_59 : zr 240 59 [v0, v1, v2, v3, v4, v5, v6, v7, v8] (.ref b1 :: st) u P = (xIs u b1 11 ∧ ∃ b, xR u b1 18 = some b ∧ zr 240 62 [v0, v1, v2, v3, v4, v5, v6, v7, v8] (.ref b :: st) u P) := zr_GR k240_59
theorem k240_62 : xcd 240 62 = oCalV 11 236 4 65 := rfl
theorem r240_62 : zr 240 62 [v0, v1, v2, v3, v4, v5, v6, v7, v8] (.ref b4 :: .int y3 :: .int y2 :: .int y1 :: .ref b8 :: st) u P = ((xIs u b8 11 ∧ xcat st ≤ 8) ∧ zr 236 0 [.ref b8, .int y1, .int y2, .int y3, .ref b4, .null, .null, .null] [] u (fun r u2 => zr 240 65 [v0, v1, v2, v3, v4, v5, v6, v7, v8] (r.toList ++ st) u2 P)) := zr_CV k240_62 rfl rfl rfl ⟨Nat.le_of_ble_eq_true rfl, Nat.succ_ne_zero _, by decide⟩ rfl
theorem k240_65 : xcd 240 65 = oIl 5 67 := rfl
theorem r240_65 : zr 240 65 [v0, v1, v2, v3, v4, .int x5, v6, v7, v8] st u P = zr 240 67 [v0, v1, v2, v3, v4, .int x5, v6, v7, v8] (.int x5 :: st) u P := zr_Il k240_65 rfl
theorem k240_67 : xcd 240 67 = oCmp (fun x y => decide (¬ x = y)) 74 70 := rfl
theorem r240_67 : zr 240 67 [v0, v1, v2, v3, v4, v5, v6, v7, v8] (.int y1 :: .int y2 :: st) u P = (if ¬ y2 = y1 then zr 240 74 [v0, v1, v2, v3, v4, v5, v6, v7, v8] st u P else zr 240 70 [v0, v1, v2, v3, v4, v5, v6, v7, v8] st u P) := zr_Cmp k240_67
theorem k240_70 : xcd 240 70 = oI 1 71 := rfl
theorem r240_70 : zr 240 70 [v0, v1, v2, v3, v4, v5, v6, v7, v8] st u P = zr 240 71 [v0, v1, v2, v3, v4, v5, v6, v7, v8] (.int 1 :: st) u P := zr_I k240_70
theorem k240_71 : xcd 240 71 = oGoto 75 := rfl
theorem r240_71 : zr 240 71 [v0, v1, v2, v3, v4, v5, v6, v7, v8] st u P = zr 240 75 [v0, v1, v2, v3, v4, v5, v6, v7, v8] st u P := zr_Goto k240_71
theorem k240_74 : xcd 240 74 = oI 0 75 := rfl
theorem r240_74 : zr 240 74 [v0, v1, v2, v3, v4, v5, v6, v7, v8] st u P = zr 240 75 [v0, v1, v2, v3, v4, v5, v6, v7, v8] (.int 0 :: st) u P := zr_I k240_74
theorem k240_75 : xcd 240 75 = oIs 7 77 := rfl
theorem r240_75 : zr 240 75 [v0, v1, v2, v3, v4, v5, .int x6, v7, v8] (.int y1 :: st) u P = zr 240 77 [v0, v1, v2, v3, v4, v5, .int x6, .int y1, v8] st u P := zr_Is k240_75 ⟨Nat.le_of_ble_eq_true rfl, rfl⟩
theorem k240_77 : xcd 240 77 = oI 0 78 := rfl
theorem r240_77 : zr 240 77 [v0, v1, v2, v3, v4, v5, v6, v7, v8] st u P = zr 240 78 [v0, v1, v2, v3, v4, v5, v6, v7, v8] (.int 0 :: st) u P := zr_I k240_77
theorem k240_78 : xcd 240 78 = oIs 8 80 := rfl
theorem r240_78 : zr 240 78 [v0, v1, v2, v3, v4, v5, v6, .int x7, v8] (.int y1 :: st) u P = zr 240 80 [v0, v1, v2, v3, v4, v5, v6, .int x7, .int y1] st u P := zr_Is k240_78 ⟨Nat.le_of_ble_eq_true rfl, rfl⟩
theorem k240_80 : xcd 240 80 = oIl 7 82 := rfl
theorem r240_80 : zr 240 80 [v0, v1, v2, v3, v4, v5, v6, .int x7, v8] st u P = zr 240 82 [v0, v1, v2, v3, v4, v5, v6, .int x7, v8] (.int x7 :: st) u P := zr_Il k240_80 rfl
theorem k240_82 : xcd 240 82 = oIf (fun x => decide (x = 0)) 122 85 := rfl
theorem r240_82 : zr 240 82 [v0, v1, v2, v3, v4, v5, v6, v7, v8] (.int y1 :: st) u P = (if y1 = 0 then zr 240 122 [v0, v1, v2, v3, v4, v5, v6, v7, v8] st u P else zr 240 85 [v0, v1, v2, v3, v4, v5, v6, v7, v8] st u P) := zr_If k240_82
theorem k240_85 : xcd 240 85 = oIl 8 87 := rfl
theorem r240_85 : zr 240 85 [v0, v1, v2, v3, v4, v5, v6, v7, .int x8] st u P = zr 240 87 [v0, v1, v2, v3, v4, v5, v6, v7, .int x8] (.int x8 :: st) u P := zr_Il k240_85 rfl
theorem k240_87 : xcd 240 87 = oIl 5 89 := rfl
theorem r240_87 : zr 240 87 [v0, v1, v2, v3, v4, .int x5, v6, v7, v8] st u P = zr 240 89 [v0, v1, v2, v3, v4, .int x5, v6, v7, v8] (.int x5 :: st) u P := zr_Il k240_87 rfl
theorem k240_89 : xcd 240 89 = oCmp (fun x y => decide (y ≤ x)) 122 92 := rfl
theorem r240_89 : zr 240 89 [v0, v1, v2, v3, v4, v5, v6, v7, v8] (.int y1 :: .int y2 :: st) u P = (if y1 ≤ y2 then zr 240 122 [v0, v1, v2, v3, v4, v5, v6, v7, v8] st u P else zr 240 92 [v0, v1, v2, v3, v4, v5, v6, v7, v8] st u P) := zr_Cmp k240_89
theorem k240_92 : xcd 240 92 = oAl 0 93 := rfl
theorem r240_92 : zr 240 92 [.ref a0, v1, v2, v3, v4, v5, v6, v7, v8] st u P = zr 240 93 [.ref a0, v1, v2, v3, v4, v5, v6, v7, v8] (.ref a0 :: st) u P := zr_Al k240_92 rfl
theorem k240_93 : xcd 240 93 = oGR 11 17 96 := rfl
theorem r240_93 : zr 240 93 [v0, v1, v2, v3, v4, v5, v6, v7, v8] (.ref b1 :: st) u P = (xIs u b1 11 ∧ ∃ b, xR u b1 17 = some b ∧ zr 240 96 [v0, v1, v2, v3, v4, v5, v6, v7, v8] (.ref b :: st) u P) := zr_GR k240_93
theorem k240_96 : xcd 240 96 = oIl 8 98 := rfl
theorem r240_96 : zr 240 96 [v0, v1, v2, v3, v4, v5, v6, v7, .int x8] st u P = zr 240 98 [v0, v1, v2, v3, v4, v5, v6, v7, .int x8] (.int x8 :: st) u P := zr_Il k240_96 rfl
theorem k240_98 : xcd 240 98 = oLd 13 99 := rfl
theorem r240_98 : zr 240 98 [v0, v1, v2, v3, v4, v5, v6, v7, v8] (.int y1 :: .ref b1 :: st) u P = ((xIs u b1 13 ∧ xinb y1 (xN u b1)) ∧ zr 240 99 [v0, v1, v2, v3, v4, v5, v6, v7, v8] (.int (xI u b1 (xix y1)) :: st) u P) := zr_Ld k240_98
theorem k240_99 : xcd 240 99 = oAl 0 100 := rfl
theorem r240_99 : zr 240 99 [.ref a0, v1, v2, v3, v4, v5, v6, v7, v8] st u P = zr 240 100 [.ref a0, v1, v2, v3, v4, v5, v6, v7, v8] (.ref a0 :: st) u P := zr_Al k240_99 rfl
theorem k240_100 : xcd 240 100 = oGR 11 18 103 := rfl
theorem r240_100 : zr 240 100 [v0, v1, v2, v3, v4, v5, v6, v7, v8] (.ref b1 :: st) u P = (xIs u b1 11 ∧ ∃ b, xR u b1 18 = some b ∧ zr 240 103 [v0, v1, v2, v3, v4, v5, v6, v7, v8] (.ref b :: st) u P) := zr_GR k240_100
theorem k240_103 : xcd 240 103 = oIl 8 105 := rfl
theorem r240_103 : zr 240 103 [v0, v1, v2, v3, v4, v5, v6, v7, .int x8] st u P = zr 240 105 [v0, v1, v2, v3, v4, v5, v6, v7, .int x8] (.int x8 :: st) u P := zr_Il k240_103 rfl
theorem k240_105 : xcd 240 105 = oLd 13 106 := rfl
theorem r240_105 : zr 240 105 [v0, v1, v2, v3, v4, v5, v6, v7, v8] (.int y1 :: .ref b1 :: st) u P = ((xIs u b1 13 ∧ xinb y1 (xN u b1)) ∧ zr 240 106 [v0, v1, v2, v3, v4, v5, v6, v7, v8] (.int (xI u b1 (xix y1)) :: st) u P) := zr_Ld k240_105
theorem k240_106 : xcd 240 106 = oCmp (fun x y => decide (¬ x = y)) 113 109 := rfl
theorem r240_106 : zr 240 106 [v0, v1, v2, v3, v4, v5, v6, v7, v8] (.int y1 :: .int y2 :: st) u P = (if ¬ y2 = y1 then zr 240 113 [v0, v1, v2, v3, v4, v5, v6, v7, v8] st u P else zr 240 109 [v0, v1, v2, v3, v4, v5, v6, v7, v8] st u P) := zr_Cmp k240_106
theorem k240_109 : xcd 240 109 = oI 1 110 := rfl
theorem r240_109 : zr 240 109 [v0, v1, v2, v3, v4, v5, v6, v7, v8] st u P = zr 240 110 [v0, v1, v2, v3, v4, v5, v6, v7, v8] (.int 1 :: st) u P := zr_I k240_109
theorem k240_110 : xcd 240 110 = oGoto 114 := rfl
theorem r240_110 : zr 240 110 [v0, v1, v2, v3, v4, v5, v6, v7, v8] st u P = zr 240 114 [v0, v1, v2, v3, v4, v5, v6, v7, v8] st u P := zr_Goto k240_110
theorem k240_113 : xcd 240 113 = oI 0 114 := rfl
theorem r240_113 : zr 240 113 [v0, v1, v2, v3, v4, v5, v6, v7, v8] st u P = zr 240 114 [v0, v1, v2, v3, v4, v5, v6, v7, v8] (.int 0 :: st) u P := zr_I k240_113
theorem k240_114 : xcd 240 114 = oIs 7 116 := rfl
theorem r240_114 : zr 240 114 [v0, v1, v2, v3, v4, v5, .int x6, v7, v8] (.int y1 :: st) u P = zr 240 116 [v0, v1, v2, v3, v4, v5, .int x6, .int y1, v8] st u P := zr_Is k240_114 ⟨Nat.le_of_ble_eq_true rfl, rfl⟩
theorem k240_116 : xcd 240 116 = oInc 8 1 119 := rfl
theorem r240_116 : zr 240 116 [v0, v1, v2, v3, v4, v5, v6, .int x7, .int x8] st u P = zr 240 119 [v0, v1, v2, v3, v4, v5, v6, .int x7, .int (x8 + 1)] st u P := zr_Inc k240_116 rfl rfl
theorem k240_119 : xcd 240 119 = oGoto 80 := rfl
theorem r240_119 : zr 240 119 [v0, v1, v2, v3, v4, v5, v6, v7, v8] st u P = zr 240 80 [v0, v1, v2, v3, v4, v5, v6, v7, v8] st u P := zr_Goto k240_119
theorem k240_122 : xcd 240 122 = oIl 7 124 := rfl
theorem r240_122 : zr 240 122 [v0, v1, v2, v3, v4, v5, v6, .int x7, v8] st u P = zr 240 124 [v0, v1, v2, v3, v4, v5, v6, .int x7, v8] (.int x7 :: st) u P := zr_Il k240_122 rfl
theorem k240_124 : xcd 240 124 = oIf (fun x => decide (¬ x = 0)) 134 127 := rfl
theorem r240_124 : zr 240 124 [v0, v1, v2, v3, v4, v5, v6, v7, v8] (.int y1 :: st) u P = (if ¬ y1 = 0 then zr 240 134 [v0, v1, v2, v3, v4, v5, v6, v7, v8] st u P else zr 240 127 [v0, v1, v2, v3, v4, v5, v6, v7, v8] st u P) := zr_If k240_124
theorem k240_127 : xcd 240 127 = oAl 0 128 := rfl
theorem r240_127 : zr 240 127 [.ref a0, v1, v2, v3, v4, v5, v6, v7, v8] st u P = zr 240 128 [.ref a0, v1, v2, v3, v4, v5, v6, v7, v8] (.ref a0 :: st) u P := zr_Al k240_127 rfl
theorem k240_128 : xcd 240 128 = oIl 6 130 := rfl
theorem r240_128 : zr 240 128 [v0, v1, v2, v3, v4, v5, .int x6, v7, v8] st u P = zr 240 130 [v0, v1, v2, v3, v4, v5, .int x6, v7, v8] (.int x6 :: st) u P := zr_Il k240_128 rfl
theorem k240_130 : xcd 240 130 = oCalV 11 174 1 133 := rfl
theorem r240_130 : zr 240 130 [v0, v1, v2, v3, v4, v5, v6, v7, v8] (.int y1 :: .ref b8 :: st) u P = ((xIs u b8 11 ∧ xcat st ≤ 8) ∧ zr 174 0 [.ref b8, .int y1] [] u (fun r u2 => zr 240 133 [v0, v1, v2, v3, v4, v5, v6, v7, v8] (r.toList ++ st) u2 P)) := zr_CV k240_130 rfl rfl rfl ⟨Nat.le_of_ble_eq_true rfl, Nat.succ_ne_zero _, by decide⟩ rfl
theorem k240_133 : xcd 240 133 = oRi 0 := rfl
theorem r240_133 : zr 240 133 [v0, v1, v2, v3, v4, v5, v6, v7, v8] [.int y1] u P = P (some (.int y1)) u := zr_Ri k240_133
theorem k240_134 : xcd 240 134 = oInc 6 1 137 := rfl
theorem r240_134 : zr 240 134 [v0, v1, v2, v3, v4, .int x5, .int x6, v7, v8] st u P = zr 240 137 [v0, v1, v2, v3, v4, .int x5, .int (x6 + 1), v7, v8] st u P := zr_Inc k240_134 rfl rfl
theorem k240_137 : xcd 240 137 = oGoto 45 := rfl
theorem r240_137 : zr 240 137 [v0, v1, v2, v3, v4, v5, v6, v7, v8] st u P = zr 240 45 [v0, v1, v2, v3, v4, v5, v6, v7, v8] st u P := zr_Goto k240_137
theorem k240_140 : xcd 240 140 = oAl 0 141 := rfl
theorem r240_140 : zr 240 140 [.ref a0, v1, v2, v3, v4, v5, v6, v7, v8] st u P = zr 240 141 [.ref a0, v1, v2, v3, v4, v5, v6, v7, v8] (.ref a0 :: st) u P := zr_Al k240_140 rfl
theorem k240_141 : xcd 240 141 = oI (-2) 143 := rfl
theorem r240_141 : zr 240 141 [v0, v1, v2, v3, v4, v5, v6, v7, v8] st u P = zr 240 143 [v0, v1, v2, v3, v4, v5, v6, v7, v8] (.int (-2) :: st) u P := zr_I k240_141
theorem k240_143 : xcd 240 143 = oCalV 11 174 1 146 := rfl
theorem r240_143 : zr 240 143 [v0, v1, v2, v3, v4, v5, v6, v7, v8] (.int y1 :: .ref b8 :: st) u P = ((xIs u b8 11 ∧ xcat st ≤ 8) ∧ zr 174 0 [.ref b8, .int y1] [] u (fun r u2 => zr 240 146 [v0, v1, v2, v3, v4, v5, v6, v7, v8] (r.toList ++ st) u2 P)) := zr_CV k240_143 rfl rfl rfl ⟨Nat.le_of_ble_eq_true rfl, Nat.succ_ne_zero _, by decide⟩ rfl
theorem k240_146 : xcd 240 146 = oRi 0 := rfl
theorem r240_146 : zr 240 146 [v0, v1, v2, v3, v4, v5, v6, v7, v8] [.int y1] u P = P (some (.int y1)) u := zr_Ri k240_146
theorem k241_0 : xcd 241 0 = oAl 0 1 := rfl
theorem r241_0 : zr 241 0 [.ref a0, v1, v2, v3, v4, v5, v6] st u P = zr 241 1 [.ref a0, v1, v2, v3, v4, v5, v6] (.ref a0 :: st) u P := zr_Al k241_0 rfl
theorem k241_1 : xcd 241 1 = oI 0 2 := rfl
theorem r241_1 : zr 241 1 [v0, v1, v2, v3, v4, v5, v6] st u P = zr 241 2 [v0, v1, v2, v3, v4, v5, v6] (.int 0 :: st) u P := zr_I k241_1
theorem k241_2 : xcd 241 2 = oPI 11 0 5 := rfl
theorem r241_2 : zr 241 2 [v0, v1, v2, v3, v4, v5, v6] (.int y1 :: .ref b1 :: st) u P = (xIs u b1 11 ∧ zr 241 5 [v0, v1, v2, v3, v4, v5, v6] st (xsI u b1 0 y1) P) := zr_PI k241_2
theorem k241_5 : xcd 241 5 = oAl 0 6 := rfl
theorem r241_5 : zr 241 5 [.ref a0, v1, v2, v3, v4, v5, v6] st u P = zr 241 6 [.ref a0, v1, v2, v3, v4, v5, v6] (.ref a0 :: st) u P := zr_Al k241_5 rfl
theorem k241_6 : xcd 241 6 = oIl 1 7 := rfl
theorem r241_6 : zr 241 6 [v0, .int x1, v2, v3, v4, v5, v6] st u P = zr 241 7 [v0, .int x1, v2, v3, v4, v5, v6] (.int x1 :: st) u P := zr_Il k241_6 rfl
theorem k241_7 : xcd 241 7 = oCalV 11 214 1 10 := rfl
theorem r241_7 : zr 241 7 [v0, v1, v2, v3, v4, v5, v6] (.int y1 :: .ref b8 :: st) u P = ((xIs u b8 11 ∧ xcat st ≤ 8) ∧ zr 214 0 [.ref b8, .int y1] [] u (fun r u2 => zr 241 10 [v0, v1, v2, v3, v4, v5, v6] (r.toList ++ st) u2 P)) := zr_CV k241_7 rfl rfl rfl ⟨Nat.le_of_ble_eq_true rfl, Nat.succ_ne_zero _, by decide⟩ rfl
theorem k241_10 : xcd 241 10 = oIf (fun x => decide (x = 0)) 26 13 := rfl
theorem r241_10 : zr 241 10 [v0, v1, v2, v3, v4, v5, v6] (.int y1 :: st) u P = (if y1 = 0 then zr 241 26 [v0, v1, v2, v3, v4, v5, v6] st u P else zr 241 13 [v0, v1, v2, v3, v4, v5, v6] st u P) := zr_If k241_10
theorem k241_13 : xcd 241 13 = oAl 0 14 := rfl
theorem r241_13 : zr 241 13 [.ref a0, v1, v2, v3, v4, v5, v6] st u P = zr 241 14 [.ref a0, v1, v2, v3, v4, v5, v6] (.ref a0 :: st) u P := zr_Al k241_13 rfl
theorem k241_14 : xcd 241 14 = oIl 2 15 := rfl
theorem r241_14 : zr 241 14 [v0, v1, .int x2, v3, v4, v5, v6] st u P = zr 241 15 [v0, v1, .int x2, v3, v4, v5, v6] (.int x2 :: st) u P := zr_Il k241_14 rfl
theorem k241_15 : xcd 241 15 = oCalV 11 214 1 18 := rfl
theorem r241_15 : zr 241 15 [v0, v1, v2, v3, v4, v5, v6] (.int y1 :: .ref b8 :: st) u P = ((xIs u b8 11 ∧ xcat st ≤ 8) ∧ zr 214 0 [.ref b8, .int y1] [] u (fun r u2 => zr 241 18 [v0, v1, v2, v3, v4, v5, v6] (r.toList ++ st) u2 P)) := zr_CV k241_15 rfl rfl rfl ⟨Nat.le_of_ble_eq_true rfl, Nat.succ_ne_zero _, by decide⟩ rfl
theorem k241_18 : xcd 241 18 = oIf (fun x => decide (x = 0)) 26 21 := rfl
theorem r241_18 : zr 241 18 [v0, v1, v2, v3, v4, v5, v6] (.int y1 :: st) u P = (if y1 = 0 then zr 241 26 [v0, v1, v2, v3, v4, v5, v6] st u P else zr 241 21 [v0, v1, v2, v3, v4, v5, v6] st u P) := zr_If k241_18
theorem k241_21 : xcd 241 21 = oIl 1 22 := rfl
theorem r241_21 : zr 241 21 [v0, .int x1, v2, v3, v4, v5, v6] st u P = zr 241 22 [v0, .int x1, v2, v3, v4, v5, v6] (.int x1 :: st) u P := zr_Il k241_21 rfl
theorem k241_22 : xcd 241 22 = oIl 2 23 := rfl
theorem r241_22 : zr 241 22 [v0, v1, .int x2, v3, v4, v5, v6] st u P = zr 241 23 [v0, v1, .int x2, v3, v4, v5, v6] (.int x2 :: st) u P := zr_Il k241_22 rfl
theorem k241_23 : xcd 241 23 = oCmp (fun x y => decide (¬ x = y)) 32 26 := rfl
theorem r241_23 : zr 241 23 [v0, v1, v2, v3, v4, v5, v6] (.int y1 :: .int y2 :: st) u P = (if ¬ y2 = y1 then zr 241 32 [v0, v1, v2, v3, v4, v5, v6] st u P else zr 241 26 [v0, v1, v2, v3, v4, v5, v6] st u P) := zr_Cmp k241_23
theorem k241_26 : xcd 241 26 = oAl 0 27 := rfl
theorem r241_26 : zr 241 26 [.ref a0, v1, v2, v3, v4, v5, v6] st u P = zr 241 27 [.ref a0, v1, v2, v3, v4, v5, v6] (.ref a0 :: st) u P := zr_Al k241_26 rfl
theorem k241_27 : xcd 241 27 = oI 1 28 := rfl
theorem r241_27 : zr 241 27 [v0, v1, v2, v3, v4, v5, v6] st u P = zr 241 28 [v0, v1, v2, v3, v4, v5, v6] (.int 1 :: st) u P := zr_I k241_27
theorem k241_28 : xcd 241 28 = oCalV 11 172 1 31 := rfl
theorem r241_28 : zr 241 28 [v0, v1, v2, v3, v4, v5, v6] (.int y1 :: .ref b8 :: st) u P = ((xIs u b8 11 ∧ xcat st ≤ 8) ∧ zr 172 0 [.ref b8, .int y1] [] u (fun r u2 => zr 241 31 [v0, v1, v2, v3, v4, v5, v6] (r.toList ++ st) u2 P)) := zr_CV k241_28 rfl rfl rfl ⟨Nat.le_of_ble_eq_true rfl, Nat.succ_ne_zero _, by decide⟩ rfl
theorem k241_31 : xcd 241 31 = oRi 0 := rfl
theorem r241_31 : zr 241 31 [v0, v1, v2, v3, v4, v5, v6] [.int y1] u P = P (some (.int y1)) u := zr_Ri k241_31
theorem k241_32 : xcd 241 32 = oAl 0 33 := rfl
theorem r241_32 : zr 241 32 [.ref a0, v1, v2, v3, v4, v5, v6] st u P = zr 241 33 [.ref a0, v1, v2, v3, v4, v5, v6] (.ref a0 :: st) u P := zr_Al k241_32 rfl
theorem k241_33 : xcd 241 33 = oGR 11 3 36 := rfl
theorem r241_33 : zr 241 33 [v0, v1, v2, v3, v4, v5, v6] (.ref b1 :: st) u P = (xIs u b1 11 ∧ ∃ b, xR u b1 3 = some b ∧ zr 241 36 [v0, v1, v2, v3, v4, v5, v6] (.ref b :: st) u P) := zr_GR k241_33
theorem k241_36 : xcd 241 36 = oI 14 38 := rfl
theorem r241_36 : zr 241 36 [v0, v1, v2, v3, v4, v5, v6] st u P = zr 241 38 [v0, v1, v2, v3, v4, v5, v6] (.int 14 :: st) u P := zr_I k241_36
theorem k241_38 : xcd 241 38 = oIl 1 39 := rfl
theorem r241_38 : zr 241 38 [v0, .int x1, v2, v3, v4, v5, v6] st u P = zr 241 39 [v0, .int x1, v2, v3, v4, v5, v6] (.int x1 :: st) u P := zr_Il k241_38 rfl
theorem k241_39 : xcd 241 39 = oB (fun x y => x + y) 40 := rfl
theorem r241_39 : zr 241 39 [v0, v1, v2, v3, v4, v5, v6] (.int y1 :: .int y2 :: st) u P = zr 241 40 [v0, v1, v2, v3, v4, v5, v6] (.int (y2 + y1) :: st) u P := zr_B k241_39
theorem k241_40 : xcd 241 40 = oLd 13 41 := rfl
theorem r241_40 : zr 241 40 [v0, v1, v2, v3, v4, v5, v6] (.int y1 :: .ref b1 :: st) u P = ((xIs u b1 13 ∧ xinb y1 (xN u b1)) ∧ zr 241 41 [v0, v1, v2, v3, v4, v5, v6] (.int (xI u b1 (xix y1)) :: st) u P) := zr_Ld k241_40
theorem k241_41 : xcd 241 41 = oAl 0 42 := rfl
theorem r241_41 : zr 241 41 [.ref a0, v1, v2, v3, v4, v5, v6] st u P = zr 241 42 [.ref a0, v1, v2, v3, v4, v5, v6] (.ref a0 :: st) u P := zr_Al k241_41 rfl
theorem k241_42 : xcd 241 42 = oGR 11 3 45 := rfl
theorem r241_42 : zr 241 42 [v0, v1, v2, v3, v4, v5, v6] (.ref b1 :: st) u P = (xIs u b1 11 ∧ ∃ b, xR u b1 3 = some b ∧ zr 241 45 [v0, v1, v2, v3, v4, v5, v6] (.ref b :: st) u P) := zr_GR k241_42
theorem k241_45 : xcd 241 45 = oI 14 47 := rfl
theorem r241_45 : zr 241 45 [v0, v1, v2, v3, v4, v5, v6] st u P = zr 241 47 [v0, v1, v2, v3, v4, v5, v6] (.int 14 :: st) u P := zr_I k241_45
theorem k241_47 : xcd 241 47 = oIl 2 48 := rfl
theorem r241_47 : zr 241 47 [v0, v1, .int x2, v3, v4, v5, v6] st u P = zr 241 48 [v0, v1, .int x2, v3, v4, v5, v6] (.int x2 :: st) u P := zr_Il k241_47 rfl
theorem k241_48 : xcd 241 48 = oB (fun x y => x + y) 49 := rfl
theorem r241_48 : zr 241 48 [v0, v1, v2, v3, v4, v5, v6] (.int y1 :: .int y2 :: st) u P = zr 241 49 [v0, v1, v2, v3, v4, v5, v6] (.int (y2 + y1) :: st) u P := zr_B k241_48
theorem k241_49 : xcd 241 49 = oLd 13 50 := rfl
theorem r241_49 : zr 241 49 [v0, v1, v2, v3, v4, v5, v6] (.int y1 :: .ref b1 :: st) u P = ((xIs u b1 13 ∧ xinb y1 (xN u b1)) ∧ zr 241 50 [v0, v1, v2, v3, v4, v5, v6] (.int (xI u b1 (xix y1)) :: st) u P) := zr_Ld k241_49
theorem k241_50 : xcd 241 50 = oCmp (fun x y => decide (x = y)) 59 53 := rfl
theorem r241_50 : zr 241 50 [v0, v1, v2, v3, v4, v5, v6] (.int y1 :: .int y2 :: st) u P = (if y2 = y1 then zr 241 59 [v0, v1, v2, v3, v4, v5, v6] st u P else zr 241 53 [v0, v1, v2, v3, v4, v5, v6] st u P) := zr_Cmp k241_50
theorem k241_53 : xcd 241 53 = oAl 0 54 := rfl
theorem r241_53 : zr 241 53 [.ref a0, v1, v2, v3, v4, v5, v6] st u P = zr 241 54 [.ref a0, v1, v2, v3, v4, v5, v6] (.ref a0 :: st) u P := zr_Al k241_53 rfl
theorem k241_54 : xcd 241 54 = oI 5 55 := rfl
theorem r241_54 : zr 241 54 [v0, v1, v2, v3, v4, v5, v6] st u P = zr 241 55 [v0, v1, v2, v3, v4, v5, v6] (.int 5 :: st) u P := zr_I k241_54
theorem k241_55 : xcd 241 55 = oCalV 11 172 1 58 := rfl
theorem r241_55 : zr 241 55 [v0, v1, v2, v3, v4, v5, v6] (.int y1 :: .ref b8 :: st) u P = ((xIs u b8 11 ∧ xcat st ≤ 8) ∧ zr 172 0 [.ref b8, .int y1] [] u (fun r u2 => zr 241 58 [v0, v1, v2, v3, v4, v5, v6] (r.toList ++ st) u2 P)) := zr_CV k241_55 rfl rfl rfl ⟨Nat.le_of_ble_eq_true rfl, Nat.succ_ne_zero _, by decide⟩ rfl
theorem k241_58 : xcd 241 58 = oRi 0 := rfl
theorem r241_58 : zr 241 58 [v0, v1, v2, v3, v4, v5, v6] [.int y1] u P = P (some (.int y1)) u := zr_Ri k241_58
theorem k241_59 : xcd 241 59 = oIl 3 60 := rfl
theorem r241_59 : zr 241 59 [v0, v1, v2, .int x3, v4, v5, v6] st u P = zr 241 60 [v0, v1, v2, .int x3, v4, v5, v6] (.int x3 :: st) u P := zr_Il k241_59 rfl
theorem k241_60 : xcd 241 60 = oCal 222 1 63 := rfl
theorem r241_60 : zr 241 60 [v0, v1, v2, v3, v4, v5, v6] (.int y1 :: st) u P = (xcat st ≤ 8 ∧ zr 222 0 [.int y1] [] u (fun r u2 => zr 241 63 [v0, v1, v2, v3, v4, v5, v6] (r.toList ++ st) u2 P)) := zr_CS k241_60 (Nat.le_add_left _ _) rfl rfl ⟨Nat.le_of_ble_eq_true rfl, Nat.succ_ne_zero _, by decide⟩ rfl
theorem k241_63 : xcd 241 63 = oIf (fun x => decide (¬ x = 0)) 72 66 := rfl
theorem r241_63 : zr 241 63 [v0, v1, v2, v3, v4, v5, v6] (.int y1 :: st) u P = (if ¬ y1 = 0 then zr 241 72 [v0, v1, v2, v3, v4, v5, v6] st u P else zr 241 66 [v0, v1, v2, v3, v4, v5, v6] st u P) := zr_If k241_63
theorem k241_66 : xcd 241 66 = oAl 0 67 := rfl
theorem r241_66 : zr 241 66 [.ref a0, v1, v2, v3, v4, v5, v6] st u P = zr 241 67 [.ref a0, v1, v2, v3, v4, v5, v6] (.ref a0 :: st) u P := zr_Al k241_66 rfl
theorem k241_67 : xcd 241 67 = oI 2 68 := rfl
theorem r241_67 : zr 241 67 [v0, v1, v2, v3, v4, v5, v6] st u P = zr 241 68 [v0, v1, v2, v3, v4, v5, v6] (.int 2 :: st) u P := zr_I k241_67
theorem k241_68 : xcd 241 68 = oCalV 11 172 1 71 := rfl
theorem r241_68 : zr 241 68 [v0, v1, v2, v3, v4, v5, v6] (.int y1 :: .ref b8 :: st) u P = ((xIs u b8 11 ∧ xcat st ≤ 8) ∧ zr 172 0 [.ref b8, .int y1] [] u (fun r u2 => zr 241 71 [v0, v1, v2, v3, v4, v5, v6] (r.toList ++ st) u2 P)) := zr_CV k241_68 rfl rfl rfl ⟨Nat.le_of_ble_eq_true rfl, Nat.succ_ne_zero _, by decide⟩ rfl
theorem k241_71 : xcd 241 71 = oRi 0 := rfl
theorem r241_71 : zr 241 71 [v0, v1, v2, v3, v4, v5, v6] [.int y1] u P = P (some (.int y1)) u := zr_Ri k241_71
theorem k241_72 : xcd 241 72 = oI 0 73 := rfl
theorem r241_72 : zr 241 72 [v0, v1, v2, v3, v4, v5, v6] st u P = zr 241 73 [v0, v1, v2, v3, v4, v5, v6] (.int 0 :: st) u P := zr_I k241_72
theorem k241_73 : xcd 241 73 = oIs 4 75 := rfl
theorem r241_73 : zr 241 73 [v0, v1, v2, .int x3, v4, v5, v6] (.int y1 :: st) u P = zr 241 75 [v0, v1, v2, .int x3, .int y1, v5, v6] st u P := zr_Is k241_73 ⟨Nat.le_of_ble_eq_true rfl, rfl⟩
theorem k241_75 : xcd 241 75 = oI 0 76 := rfl
theorem r241_75 : zr 241 75 [v0, v1, v2, v3, v4, v5, v6] st u P = zr 241 76 [v0, v1, v2, v3, v4, v5, v6] (.int 0 :: st) u P := zr_I k241_75
theorem k241_76 : xcd 241 76 = oIs 5 78 := rfl
theorem r241_76 : zr 241 76 [v0, v1, v2, v3, .int x4, v5, v6] (.int y1 :: st) u P = zr 241 78 [v0, v1, v2, v3, .int x4, .int y1, v6] st u P := zr_Is k241_76 ⟨Nat.le_of_ble_eq_true rfl, rfl⟩
theorem k241_78 : xcd 241 78 = oIl 5 80 := rfl
theorem r241_78 : zr 241 78 [v0, v1, v2, v3, v4, .int x5, v6] st u P = zr 241 80 [v0, v1, v2, v3, v4, .int x5, v6] (.int x5 :: st) u P := zr_Il k241_78 rfl
theorem k241_80 : xcd 241 80 = oAl 0 81 := rfl
theorem r241_80 : zr 241 80 [.ref a0, v1, v2, v3, v4, v5, v6] st u P = zr 241 81 [.ref a0, v1, v2, v3, v4, v5, v6] (.ref a0 :: st) u P := zr_Al k241_80 rfl
theorem k241_81 : xcd 241 81 = oGR 11 3 84 := rfl
theorem r241_81 : zr 241 81 [v0, v1, v2, v3, v4, v5, v6] (.ref b1 :: st) u P = (xIs u b1 11 ∧ ∃ b, xR u b1 3 = some b ∧ zr 241 84 [v0, v1, v2, v3, v4, v5, v6] (.ref b :: st) u P) := zr_GR k241_81
theorem k241_84 : xcd 241 84 = oI 0 85 := rfl
theorem r241_84 : zr 241 84 [v0, v1, v2, v3, v4, v5, v6] st u P = zr 241 85 [v0, v1, v2, v3, v4, v5, v6] (.int 0 :: st) u P := zr_I k241_84
theorem k241_85 : xcd 241 85 = oLd 13 86 := rfl
theorem r241_85 : zr 241 85 [v0, v1, v2, v3, v4, v5, v6] (.int y1 :: .ref b1 :: st) u P = ((xIs u b1 13 ∧ xinb y1 (xN u b1)) ∧ zr 241 86 [v0, v1, v2, v3, v4, v5, v6] (.int (xI u b1 (xix y1)) :: st) u P) := zr_Ld k241_85
theorem k241_86 : xcd 241 86 = oCmp (fun x y => decide (y < x)) 151 89 := rfl
theorem r241_86 : zr 241 86 [v0, v1, v2, v3, v4, v5, v6] (.int y1 :: .int y2 :: st) u P = (if y1 < y2 then zr 241 151 [v0, v1, v2, v3, v4, v5, v6] st u P else zr 241 89 [v0, v1, v2, v3, v4, v5, v6] st u P) := zr_Cmp k241_86
theorem k241_89 : xcd 241 89 = oI 0 90 := rfl
theorem r241_89 : zr 241 89 [v0, v1, v2, v3, v4, v5, v6] st u P = zr 241 90 [v0, v1, v2, v3, v4, v5, v6] (.int 0 :: st) u P := zr_I k241_89
theorem k241_90 : xcd 241 90 = oIs 6 92 := rfl
theorem r241_90 : zr 241 90 [v0, v1, v2, v3, v4, .int x5, v6] (.int y1 :: st) u P = zr 241 92 [v0, v1, v2, v3, v4, .int x5, .int y1] st u P := zr_Is k241_90 ⟨Nat.le_of_ble_eq_true rfl, rfl⟩
theorem k241_92 : xcd 241 92 = oIl 6 94 := rfl
theorem r241_92 : zr 241 92 [v0, v1, v2, v3, v4, v5, .int x6] st u P = zr 241 94 [v0, v1, v2, v3, v4, v5, .int x6] (.int x6 :: st) u P := zr_Il k241_92 rfl
theorem k241_94 : xcd 241 94 = oAl 0 95 := rfl
theorem r241_94 : zr 241 94 [.ref a0, v1, v2, v3, v4, v5, v6] st u P = zr 241 95 [.ref a0, v1, v2, v3, v4, v5, v6] (.ref a0 :: st) u P := zr_Al k241_94 rfl
theorem k241_95 : xcd 241 95 = oGR 11 3 98 := rfl
theorem r241_95 : zr 241 95 [v0, v1, v2, v3, v4, v5, v6] (.ref b1 :: st) u P = (xIs u b1 11 ∧ ∃ b, xR u b1 3 = some b ∧ zr 241 98 [v0, v1, v2, v3, v4, v5, v6] (.ref b :: st) u P) := zr_GR k241_95
theorem k241_98 : xcd 241 98 = oI 0 99 := rfl
theorem r241_98 : zr 241 98 [v0, v1, v2, v3, v4, v5, v6] st u P = zr 241 99 [v0, v1, v2, v3, v4, v5, v6] (.int 0 :: st) u P := zr_I k241_98
theorem k241_99 : xcd 241 99 = oLd 13 100 := rfl
theorem r241_99 : zr 241 99 [v0, v1, v2, v3, v4, v5, v6] (.int y1 :: .ref b1 :: st) u P = ((xIs u b1 13 ∧ xinb y1 (xN u b1)) ∧ zr 241 100 [v0, v1, v2, v3, v4, v5, v6] (.int (xI u b1 (xix y1)) :: st) u P) := zr_Ld k241_99
theorem k241_100 : xcd 241 100 = oCmp (fun x y => decide (y < x)) 145 103 := rfl
theorem r241_100 : zr 241 100 [v0, v1, v2, v3, v4, v5, v6] (.int y1 :: .int y2 :: st) u P = (if y1 < y2 then zr 241 145 [v0, v1, v2, v3, v4, v5, v6] st u P else zr 241 103 [v0, v1, v2, v3, v4, v5, v6] st u P) := zr_Cmp k241_100
theorem k241_103 : xcd 241 103 = oIl 4 105 := rfl
theorem r241_103 : zr 241 103 [v0, v1, v2, v3, .int x4, v5, v6] st u P = zr 241 105 [v0, v1, v2, v3, .int x4, v5, v6] (.int x4 :: st) u P := zr_Il k241_103 rfl
theorem k241_105 : xcd 241 105 = oAl 0 106 := rfl
theorem r241_105 : zr 241 105 [.ref a0, v1, v2, v3, v4, v5, v6] st u P = zr 241 106 [.ref a0, v1, v2, v3, v4, v5, v6] (.ref a0 :: st) u P := zr_Al k241_105 rfl
theorem k241_106 : xcd 241 106 = oIl 1 107 := rfl
theorem r241_106 : zr 241 106 [v0, .int x1, v2, v3, v4, v5, v6] st u P = zr 241 107 [v0, .int x1, v2, v3, v4, v5, v6] (.int x1 :: st) u P := zr_Il k241_106 rfl
theorem k241_107 : xcd 241 107 = oIl 3 108 := rfl
theorem r241_107 : zr 241 107 [v0, v1, v2, .int x3, v4, v5, v6] st u P = zr 241 108 [v0, v1, v2, .int x3, v4, v5, v6] (.int x3 :: st) u P := zr_Il k241_107 rfl
theorem k241_108 : xcd 241 108 = oIl 6 110 := rfl
theorem r241_108 : zr 241 108 [v0, v1, v2, v3, v4, v5, .int x6] st u P = zr 241 110 [v0, v1, v2, v3, v4, v5, .int x6] (.int x6 :: st) u P := zr_Il k241_108 rfl
theorem k241_110 : xcd 241 110 = oIl 5 112 := rfl
theorem r241_110 : zr 241 110 [v0, v1, v2, v3, v4, .int x5, v6] st u P = zr 241 112 [v0, v1, v2, v3, v4, .int x5, v6] (.int x5 :: st) u P := zr_Il k241_110 rfl
theorem k241_112 : xcd 241 112 = oCalV 11 230 4 115 := rfl
theorem r241_112 : zr 241 112 [v0, v1, v2, v3, v4, v5, v6] (.int y4 :: .int y3 :: .int y2 :: .int y1 :: .ref b8 :: st) u P = ((xIs u b8 11 ∧ xcat st ≤ 8) ∧ zr 230 0 [.ref b8, .int y1, .int y2, .int y3, .int y4, .null, .null, .null, .null] [] u (fun r u2 => zr 241 115 [v0, v1, v2, v3, v4, v5, v6] (r.toList ++ st) u2 P)) := zr_CV k241_112 rfl rfl rfl ⟨Nat.le_of_ble_eq_true rfl, Nat.succ_ne_zero _, by decide⟩ rfl
theorem k241_115 : xcd 241 115 = oIf (fun x => decide (x = 0)) 135 118 := rfl
theorem r241_115 : zr 241 115 [v0, v1, v2, v3, v4, v5, v6] (.int y1 :: st) u P = (if y1 = 0 then zr 241 135 [v0, v1, v2, v3, v4, v5, v6] st u P else zr 241 118 [v0, v1, v2, v3, v4, v5, v6] st u P) := zr_If k241_115
theorem k241_118 : xcd 241 118 = oAl 0 119 := rfl
theorem r241_118 : zr 241 118 [.ref a0, v1, v2, v3, v4, v5, v6] st u P = zr 241 119 [.ref a0, v1, v2, v3, v4, v5, v6] (.ref a0 :: st) u P := zr_Al k241_118 rfl
theorem k241_119 : xcd 241 119 = oIl 2 120 := rfl
theorem r241_119 : zr 241 119 [v0, v1, .int x2, v3, v4, v5, v6] st u P = zr 241 120 [v0, v1, .int x2, v3, v4, v5, v6] (.int x2 :: st) u P := zr_Il k241_119 rfl
theorem k241_120 : xcd 241 120 = oIl 3 121 := rfl
theorem r241_120 : zr 241 120 [v0, v1, v2, .int x3, v4, v5, v6] st u P = zr 241 121 [v0, v1, v2, .int x3, v4, v5, v6] (.int x3 :: st) u P := zr_Il k241_120 rfl
theorem k241_121 : xcd 241 121 = oIl 6 123 := rfl
theorem r241_121 : zr 241 121 [v0, v1, v2, v3, v4, v5, .int x6] st u P = zr 241 123 [v0, v1, v2, v3, v4, v5, .int x6] (.int x6 :: st) u P := zr_Il k241_121 rfl
theorem k241_123 : xcd 241 123 = oIl 5 125 := rfl
theorem r241_123 : zr 241 123 [v0, v1, v2, v3, v4, .int x5, v6] st u P = zr 241 125 [v0, v1, v2, v3, v4, .int x5, v6] (.int x5 :: st) u P := zr_Il k241_123 rfl
theorem k241_125 : xcd 241 125 = oCalV 11 230 4 128 := rfl
theorem r241_125 : zr 241 125 [v0, v1, v2, v3, v4, v5, v6] (.int y4 :: .int y3 :: .int y2 :: .int y1 :: .ref b8 :: st) u P = ((xIs u b8 11 ∧ xcat st ≤ 8) ∧ zr 230 0 [.ref b8, .int y1, .int y2, .int y3, .int y4, .null, .null, .null, .null] [] u (fun r u2 => zr 241 128 [v0, v1, v2, v3, v4, v5, v6] (r.toList ++ st) u2 P)) := zr_CV k241_125 rfl rfl rfl ⟨Nat.le_of_ble_eq_true rfl, Nat.succ_ne_zero _, by decide⟩ rfl
theorem k241_128 : xcd 241 128 = oIf (fun x => decide (x = 0)) 135 131 := rfl
theorem r241_128 : zr 241 128 [v0, v1, v2, v3, v4, v5, v6] (.int y1 :: st) u P = (if y1 = 0 then zr 241 135 [v0, v1, v2, v3, v4, v5, v6] st u P else zr 241 131 [v0, v1, v2, v3, v4, v5, v6] st u P) := zr_If k241_128
theorem k241_131 : xcd 241 131 = oI 1 132 := rfl
theorem r241_131 : zr 241 131 [v0, v1, v2, v3, v4, v5, v6] st u P = zr 241 132 [v0, v1, v2, v3, v4, v5, v6] (.int 1 :: st) u P := zr_I k241_131
theorem k241_132 : xcd 241 132 = oGoto 136 := rfl
theorem r241_132 : zr 241 132 [v0, v1, v2, v3, v4, v5, v6] st u P = zr 241 136 [v0, v1, v2, v3, v4, v5, v6] st u P := zr_Goto k241_132
theorem k241_135 : xcd 241 135 = oI 0 136 := rfl
theorem r241_135 : zr 241 135 [v0, v1, v2, v3, v4, v5, v6] st u P = zr 241 136 [v0, v1, v2, v3, v4, v5, v6] (.int 0 :: st) u P := zr_I k241_135
theorem k241_136 : xcd 241 136 = oB (fun x y => x + y) 137 := rfl
theorem r241_136 : zr 241 136 [v0, v1, v2, v3, v4, v5, v6] (.int y1 :: .int y2 :: st) u P = zr 241 137 [v0, v1, v2, v3, v4, v5, v6] (.int (y2 + y1) :: st) u P := zr_B k241_136
theorem k241_137 : xcd 241 137 = oIs 4 139 := rfl
theorem r241_137 : zr 241 137 [v0, v1, v2, .int x3, v4, v5, v6] (.int y1 :: st) u P = zr 241 139 [v0, v1, v2, .int x3, .int y1, v5, v6] st u P := zr_Is k241_137 ⟨Nat.le_of_ble_eq_true rfl, rfl⟩
theorem k241_139 : xcd 241 139 = oInc 6 1 142 := rfl
theorem r241_139 : zr 241 139 [v0, v1, v2, v3, v4, .int x5, .int x6] st u P = zr 241 142 [v0, v1, v2, v3, v4, .int x5, .int (x6 + 1)] st u P := zr_Inc k241_139 rfl rfl
theorem k241_142 : xcd 241 142 = oGoto 92 := rfl
theorem r241_142 : zr 241 142 [v0, v1, v2, v3, v4, v5, v6] st u P = zr 241 92 [v0, v1, v2, v3, v4, v5, v6] st u P := zr_Goto k241_142
theorem k241_145 : xcd 241 145 = oInc 5 1 148 := rfl
theorem r241_145 : zr 241 145 [v0, v1, v2, v3, .int x4, .int x5, v6] st u P = zr 241 148 [v0, v1, v2, v3, .int x4, .int (x5 + 1), v6] st u P := zr_Inc k241_145 rfl rfl
theorem k241_148 : xcd 241 148 = oGoto 78 := rfl
theorem r241_148 : zr 241 148 [v0, v1, v2, v3, v4, v5, v6] st u P = zr 241 78 [v0, v1, v2, v3, v4, v5, v6] st u P := zr_Goto k241_148
theorem k241_151 : xcd 241 151 = oAl 0 152 := rfl
theorem r241_151 : zr 241 151 [.ref a0, v1, v2, v3, v4, v5, v6] st u P = zr 241 152 [.ref a0, v1, v2, v3, v4, v5, v6] (.ref a0 :: st) u P := zr_Al k241_151 rfl
theorem k241_152 : xcd 241 152 = oIl 4 154 := rfl
theorem r241_152 : zr 241 152 [v0, v1, v2, v3, .int x4, v5, v6] st u P = zr 241 154 [v0, v1, v2, v3, .int x4, v5, v6] (.int x4 :: st) u P := zr_Il k241_152 rfl
theorem k241_154 : xcd 241 154 = oCalV 11 174 1 157 := rfl
theorem r241_154 : zr 241 154 [v0, v1, v2, v3, v4, v5, v6] (.int y1 :: .ref b8 :: st) u P = ((xIs u b8 11 ∧ xcat st ≤ 8) ∧ zr 174 0 [.ref b8, .int y1] [] u (fun r u2 => zr 241 157 [v0, v1, v2, v3, v4, v5, v6] (r.toList ++ st) u2 P)) := zr_CV k241_154 rfl rfl rfl ⟨Nat.le_of_ble_eq_true rfl, Nat.succ_ne_zero _, by decide⟩ rfl
theorem k241_157 : xcd 241 157 = oRi 0 := rfl
theorem r241_157 : zr 241 157 [v0, v1, v2, v3, v4, v5, v6] [.int y1] u P = P (some (.int y1)) u := zr_Ri k241_157
theorem k242_0 : xcd 242 0 = oAl 0 1 := rfl
theorem r242_0 : zr 242 0 [.ref a0, v1, v2, v3, v4, v5, v6] st u P = zr 242 1 [.ref a0, v1, v2, v3, v4, v5, v6] (.ref a0 :: st) u P := zr_Al k242_0 rfl
theorem k242_1 : xcd 242 1 = oI 0 2 := rfl
theorem r242_1 : zr 242 1 [v0, v1, v2, v3, v4, v5, v6] st u P = zr 242 2 [v0, v1, v2, v3, v4, v5, v6] (.int 0 :: st) u P := zr_I k242_1
theorem k242_2 : xcd 242 2 = oPI 11 0 5 := rfl
theorem r242_2 : zr 242 2 [v0, v1, v2, v3, v4, v5, v6] (.int y1 :: .ref b1 :: st) u P = (xIs u b1 11 ∧ zr 242 5 [v0, v1, v2, v3, v4, v5, v6] st (xsI u b1 0 y1) P) := zr_PI k242_2
theorem k242_5 : xcd 242 5 = oAl 0 6 := rfl
theorem r242_5 : zr 242 5 [.ref a0, v1, v2, v3, v4, v5, v6] st u P = zr 242 6 [.ref a0, v1, v2, v3, v4, v5, v6] (.ref a0 :: st) u P := zr_Al k242_5 rfl
theorem k242_6 : xcd 242 6 = oAl 0 7 := rfl
theorem r242_6 : zr 242 6 [.ref a0, v1, v2, v3, v4, v5, v6] st u P = zr 242 7 [.ref a0, v1, v2, v3, v4, v5, v6] (.ref a0 :: st) u P := zr_Al k242_6 rfl
theorem k242_7 : xcd 242 7 = oIl 1 8 := rfl
theorem r242_7 : zr 242 7 [v0, .int x1, v2, v3, v4, v5, v6] st u P = zr 242 8 [v0, .int x1, v2, v3, v4, v5, v6] (.int x1 :: st) u P := zr_Il k242_7 rfl
theorem k242_8 : xcd 242 8 = oCalV 11 214 1 11 := rfl
theorem r242_8 : zr 242 8 [v0, v1, v2, v3, v4, v5, v6] (.int y1 :: .ref b8 :: st) u P = ((xIs u b8 11 ∧ xcat st ≤ 8) ∧ zr 214 0 [.ref b8, .int y1] [] u (fun r u2 => zr 242 11 [v0, v1, v2, v3, v4, v5, v6] (r.toList ++ st) u2 P)) := zr_CV k242_8 rfl rfl rfl ⟨Nat.le_of_ble_eq_true rfl, Nat.succ_ne_zero _, by decide⟩ rfl
theorem k242_11 : xcd 242 11 = oIl 2 12 := rfl
theorem r242_11 : zr 242 11 [v0, v1, .int x2, v3, v4, v5, v6] st u P = zr 242 12 [v0, v1, .int x2, v3, v4, v5, v6] (.int x2 :: st) u P := zr_Il k242_11 rfl
theorem k242_12 : xcd 242 12 = oCalV 11 224 2 15 := rfl
theorem r242_12 : zr 242 12 [v0, v1, v2, v3, v4, v5, v6] (.int y2 :: .int y1 :: .ref b8 :: st) u P = ((xIs u b8 11 ∧ xcat st ≤ 8) ∧ zr 224 0 [.ref b8, .int y1, .int y2] [] u (fun r u2 => zr 242 15 [v0, v1, v2, v3, v4, v5, v6] (r.toList ++ st) u2 P)) := zr_CV k242_12 rfl rfl rfl ⟨Nat.le_of_ble_eq_true rfl, Nat.succ_ne_zero _, by decide⟩ rfl
theorem k242_15 : xcd 242 15 = oIs 3 16 := rfl
theorem r242_15 : zr 242 15 [v0, v1, .int x2, v3, v4, v5, v6] (.int y1 :: st) u P = zr 242 16 [v0, v1, .int x2, .int y1, v4, v5, v6] st u P := zr_Is k242_15 ⟨Nat.le_of_ble_eq_true rfl, rfl⟩
theorem k242_16 : xcd 242 16 = oIl 3 17 := rfl
theorem r242_16 : zr 242 16 [v0, v1, v2, .int x3, v4, v5, v6] st u P = zr 242 17 [v0, v1, v2, .int x3, v4, v5, v6] (.int x3 :: st) u P := zr_Il k242_16 rfl
theorem k242_17 : xcd 242 17 = oIf (fun x => decide (x ≤ 0)) 26 20 := rfl
theorem r242_17 : zr 242 17 [v0, v1, v2, v3, v4, v5, v6] (.int y1 :: st) u P = (if y1 ≤ 0 then zr 242 26 [v0, v1, v2, v3, v4, v5, v6] st u P else zr 242 20 [v0, v1, v2, v3, v4, v5, v6] st u P) := zr_If k242_17
theorem k242_20 : xcd 242 20 = oAl 0 21 := rfl
theorem r242_20 : zr 242 20 [.ref a0, v1, v2, v3, v4, v5, v6] st u P = zr 242 21 [.ref a0, v1, v2, v3, v4, v5, v6] (.ref a0 :: st) u P := zr_Al k242_20 rfl
theorem k242_21 : xcd 242 21 = oIl 3 22 := rfl
theorem r242_21 : zr 242 21 [v0, v1, v2, .int x3, v4, v5, v6] st u P = zr 242 22 [v0, v1, v2, .int x3, v4, v5, v6] (.int x3 :: st) u P := zr_Il k242_21 rfl
theorem k242_22 : xcd 242 22 = oCalV 11 172 1 25 := rfl
theorem r242_22 : zr 242 22 [v0, v1, v2, v3, v4, v5, v6] (.int y1 :: .ref b8 :: st) u P = ((xIs u b8 11 ∧ xcat st ≤ 8) ∧ zr 172 0 [.ref b8, .int y1] [] u (fun r u2 => zr 242 25 [v0, v1, v2, v3, v4, v5, v6] (r.toList ++ st) u2 P)) := zr_CV k242_22 rfl rfl rfl ⟨Nat.le_of_ble_eq_true rfl, Nat.succ_ne_zero _, by decide⟩ rfl
theorem k242_25 : xcd 242 25 = oRi 0 := rfl
theorem r242_25 : zr 242 25 [v0, v1, v2, v3, v4, v5, v6] [.int y1] u P = P (some (.int y1)) u := zr_Ri k242_25
theorem k242_26 : xcd 242 26 = oI 0 27 := rfl
theorem r242_26 : zr 242 26 [v0, v1, v2, v3, v4, v5, v6] st u P = zr 242 27 [v0, v1, v2, v3, v4, v5, v6] (.int 0 :: st) u P := zr_I k242_26
theorem k242_27 : xcd 242 27 = oIs 4 29 := rfl
theorem r242_27 : zr 242 27 [v0, v1, v2, .int x3, v4, v5, v6] (.int y1 :: st) u P = zr 242 29 [v0, v1, v2, .int x3, .int y1, v5, v6] st u P := zr_Is k242_27 ⟨Nat.le_of_ble_eq_true rfl, rfl⟩
theorem k242_29 : xcd 242 29 = oI 0 30 := rfl
theorem r242_29 : zr 242 29 [v0, v1, v2, v3, v4, v5, v6] st u P = zr 242 30 [v0, v1, v2, v3, v4, v5, v6] (.int 0 :: st) u P := zr_I k242_29
theorem k242_30 : xcd 242 30 = oIs 5 32 := rfl
theorem r242_30 : zr 242 30 [v0, v1, v2, v3, .int x4, v5, v6] (.int y1 :: st) u P = zr 242 32 [v0, v1, v2, v3, .int x4, .int y1, v6] st u P := zr_Is k242_30 ⟨Nat.le_of_ble_eq_true rfl, rfl⟩
theorem k242_32 : xcd 242 32 = oIl 5 34 := rfl
theorem r242_32 : zr 242 32 [v0, v1, v2, v3, v4, .int x5, v6] st u P = zr 242 34 [v0, v1, v2, v3, v4, .int x5, v6] (.int x5 :: st) u P := zr_Il k242_32 rfl
theorem k242_34 : xcd 242 34 = oAl 0 35 := rfl
theorem r242_34 : zr 242 34 [.ref a0, v1, v2, v3, v4, v5, v6] st u P = zr 242 35 [.ref a0, v1, v2, v3, v4, v5, v6] (.ref a0 :: st) u P := zr_Al k242_34 rfl
theorem k242_35 : xcd 242 35 = oGR 11 3 38 := rfl
theorem r242_35 : zr 242 35 [v0, v1, v2, v3, v4, v5, v6] (.ref b1 :: st) u P = (xIs u b1 11 ∧ ∃ b, xR u b1 3 = some b ∧ zr 242 38 [v0, v1, v2, v3, v4, v5, v6] (.ref b :: st) u P) := zr_GR k242_35
theorem k242_38 : xcd 242 38 = oI 0 39 := rfl
theorem r242_38 : zr 242 38 [v0, v1, v2, v3, v4, v5, v6] st u P = zr 242 39 [v0, v1, v2, v3, v4, v5, v6] (.int 0 :: st) u P := zr_I k242_38
theorem k242_39 : xcd 242 39 = oLd 13 40 := rfl
theorem r242_39 : zr 242 39 [v0, v1, v2, v3, v4, v5, v6] (.int y1 :: .ref b1 :: st) u P = ((xIs u b1 13 ∧ xinb y1 (xN u b1)) ∧ zr 242 40 [v0, v1, v2, v3, v4, v5, v6] (.int (xI u b1 (xix y1)) :: st) u P) := zr_Ld k242_39
theorem k242_40 : xcd 242 40 = oCmp (fun x y => decide (y < x)) 101 43 := rfl
theorem r242_40 : zr 242 40 [v0, v1, v2, v3, v4, v5, v6] (.int y1 :: .int y2 :: st) u P = (if y1 < y2 then zr 242 101 [v0, v1, v2, v3, v4, v5, v6] st u P else zr 242 43 [v0, v1, v2, v3, v4, v5, v6] st u P) := zr_Cmp k242_40
theorem k242_43 : xcd 242 43 = oI 0 44 := rfl
theorem r242_43 : zr 242 43 [v0, v1, v2, v3, v4, v5, v6] st u P = zr 242 44 [v0, v1, v2, v3, v4, v5, v6] (.int 0 :: st) u P := zr_I k242_43
theorem k242_44 : xcd 242 44 = oIs 6 46 := rfl
theorem r242_44 : zr 242 44 [v0, v1, v2, v3, v4, .int x5, v6] (.int y1 :: st) u P = zr 242 46 [v0, v1, v2, v3, v4, .int x5, .int y1] st u P := zr_Is k242_44 ⟨Nat.le_of_ble_eq_true rfl, rfl⟩
theorem k242_46 : xcd 242 46 = oIl 6 48 := rfl
theorem r242_46 : zr 242 46 [v0, v1, v2, v3, v4, v5, .int x6] st u P = zr 242 48 [v0, v1, v2, v3, v4, v5, .int x6] (.int x6 :: st) u P := zr_Il k242_46 rfl
theorem k242_48 : xcd 242 48 = oAl 0 49 := rfl
theorem r242_48 : zr 242 48 [.ref a0, v1, v2, v3, v4, v5, v6] st u P = zr 242 49 [.ref a0, v1, v2, v3, v4, v5, v6] (.ref a0 :: st) u P := zr_Al k242_48 rfl
theorem k242_49 : xcd 242 49 = oGR 11 3 52 := rfl
theorem r242_49 : zr 242 49 [v0, v1, v2, v3, v4, v5, v6] (.ref b1 :: st) u P = (xIs u b1 11 ∧ ∃ b, xR u b1 3 = some b ∧ zr 242 52 [v0, v1, v2, v3, v4, v5, v6] (.ref b :: st) u P) := zr_GR k242_49
theorem k242_52 : xcd 242 52 = oI 0 53 := rfl
theorem r242_52 : zr 242 52 [v0, v1, v2, v3, v4, v5, v6] st u P = zr 242 53 [v0, v1, v2, v3, v4, v5, v6] (.int 0 :: st) u P := zr_I k242_52
theorem k242_53 : xcd 242 53 = oLd 13 54 := rfl
theorem r242_53 : zr 242 53 [v0, v1, v2, v3, v4, v5, v6] (.int y1 :: .ref b1 :: st) u P = ((xIs u b1 13 ∧ xinb y1 (xN u b1)) ∧ zr 242 54 [v0, v1, v2, v3, v4, v5, v6] (.int (xI u b1 (xix y1)) :: st) u P) := zr_Ld k242_53
theorem k242_54 : xcd 242 54 = oCmp (fun x y => decide (y < x)) 95 57 := rfl
theorem r242_54 : zr 242 54 [v0, v1, v2, v3, v4, v5, v6] (.int y1 :: .int y2 :: st) u P = (if y1 < y2 then zr 242 95 [v0, v1, v2, v3, v4, v5, v6] st u P else zr 242 57 [v0, v1, v2, v3, v4, v5, v6] st u P) := zr_Cmp k242_54
theorem k242_57 : xcd 242 57 = oIl 4 59 := rfl
theorem r242_57 : zr 242 57 [v0, v1, v2, v3, .int x4, v5, v6] st u P = zr 242 59 [v0, v1, v2, v3, .int x4, v5, v6] (.int x4 :: st) u P := zr_Il k242_57 rfl
theorem k242_59 : xcd 242 59 = oAl 0 60 := rfl
theorem r242_59 : zr 242 59 [.ref a0, v1, v2, v3, v4, v5, v6] st u P = zr 242 60 [.ref a0, v1, v2, v3, v4, v5, v6] (.ref a0 :: st) u P := zr_Al k242_59 rfl
theorem k242_60 : xcd 242 60 = oAl 0 61 := rfl
theorem r242_60 : zr 242 60 [.ref a0, v1, v2, v3, v4, v5, v6] st u P = zr 242 61 [.ref a0, v1, v2, v3, v4, v5, v6] (.ref a0 :: st) u P := zr_Al k242_60 rfl
theorem k242_61 : xcd 242 61 = oGR 11 3 64 := rfl
theorem r242_61 : zr 242 61 [v0, v1, v2, v3, v4, v5, v6] (.ref b1 :: st) u P = (xIs u b1 11 ∧ ∃ b, xR u b1 3 = some b ∧ zr 242 64 [v0, v1, v2, v3, v4, v5, v6] (.ref b :: st) u P) := zr_GR k242_61
theorem k242_64 : xcd 242 64 = oI 14 66 := rfl
theorem r242_64 : zr 242 64 [v0, v1, v2, v3, v4, v5, v6] st u P = zr 242 66 [v0, v1, v2, v3, v4, v5, v6] (.int 14 :: st) u P := zr_I k242_64
theorem k242_66 : xcd 242 66 = oIl 1 67 := rfl
theorem r242_66 : zr 242 66 [v0, .int x1, v2, v3, v4, v5, v6] st u P = zr 242 67 [v0, .int x1, v2, v3, v4, v5, v6] (.int x1 :: st) u P := zr_Il k242_66 rfl
theorem k242_67 : xcd 242 67 = oB (fun x y => x + y) 68 := rfl
theorem r242_67 : zr 242 67 [v0, v1, v2, v3, v4, v5, v6] (.int y1 :: .int y2 :: st) u P = zr 242 68 [v0, v1, v2, v3, v4, v5, v6] (.int (y2 + y1) :: st) u P := zr_B k242_67
theorem k242_68 : xcd 242 68 = oLd 13 69 := rfl
theorem r242_68 : zr 242 68 [v0, v1, v2, v3, v4, v5, v6] (.int y1 :: .ref b1 :: st) u P = ((xIs u b1 13 ∧ xinb y1 (xN u b1)) ∧ zr 242 69 [v0, v1, v2, v3, v4, v5, v6] (.int (xI u b1 (xix y1)) :: st) u P) := zr_Ld k242_68
theorem k242_69 : xcd 242 69 = oIl 2 70 := rfl
theorem r242_69 : zr 242 69 [v0, v1, .int x2, v3, v4, v5, v6] st u P = zr 242 70 [v0, v1, .int x2, v3, v4, v5, v6] (.int x2 :: st) u P := zr_Il k242_69 rfl
theorem k242_70 : xcd 242 70 = oIl 6 72 := rfl
theorem r242_70 : zr 242 70 [v0, v1, v2, v3, v4, v5, .int x6] st u P = zr 242 72 [v0, v1, v2, v3, v4, v5, .int x6] (.int x6 :: st) u P := zr_Il k242_70 rfl
theorem k242_72 : xcd 242 72 = oIl 5 74 := rfl
theorem r242_72 : zr 242 72 [v0, v1, v2, v3, v4, .int x5, v6] st u P = zr 242 74 [v0, v1, v2, v3, v4, .int x5, v6] (.int x5 :: st) u P := zr_Il k242_72 rfl
theorem k242_74 : xcd 242 74 = oCalV 11 235 4 77 := rfl
theorem r242_74 : zr 242 74 [v0, v1, v2, v3, v4, v5, v6] (.int y4 :: .int y3 :: .int y2 :: .int y1 :: .ref b8 :: st) u P = ((xIs u b8 11 ∧ xcat st ≤ 8) ∧ zr 235 0 [.ref b8, .int y1, .int y2, .int y3, .int y4, .null] [] u (fun r u2 => zr 242 77 [v0, v1, v2, v3, v4, v5, v6] (r.toList ++ st) u2 P)) := zr_CV k242_74 rfl rfl rfl ⟨Nat.le_of_ble_eq_true rfl, Nat.succ_ne_zero _, by decide⟩ rfl
theorem k242_77 : xcd 242 77 = oIl 1 78 := rfl
theorem r242_77 : zr 242 77 [v0, .int x1, v2, v3, v4, v5, v6] st u P = zr 242 78 [v0, .int x1, v2, v3, v4, v5, v6] (.int x1 :: st) u P := zr_Il k242_77 rfl
theorem k242_78 : xcd 242 78 = oCmp (fun x y => decide (¬ x = y)) 85 81 := rfl
theorem r242_78 : zr 242 78 [v0, v1, v2, v3, v4, v5, v6] (.int y1 :: .int y2 :: st) u P = (if ¬ y2 = y1 then zr 242 85 [v0, v1, v2, v3, v4, v5, v6] st u P else zr 242 81 [v0, v1, v2, v3, v4, v5, v6] st u P) := zr_Cmp k242_78
theorem k242_81 : xcd 242 81 = oI 1 82 := rfl
theorem r242_81 : zr 242 81 [v0, v1, v2, v3, v4, v5, v6] st u P = zr 242 82 [v0, v1, v2, v3, v4, v5, v6] (.int 1 :: st) u P := zr_I k242_81
theorem k242_82 : xcd 242 82 = oGoto 86 := rfl
theorem r242_82 : zr 242 82 [v0, v1, v2, v3, v4, v5, v6] st u P = zr 242 86 [v0, v1, v2, v3, v4, v5, v6] st u P := zr_Goto k242_82
theorem k242_85 : xcd 242 85 = oI 0 86 := rfl
theorem r242_85 : zr 242 85 [v0, v1, v2, v3, v4, v5, v6] st u P = zr 242 86 [v0, v1, v2, v3, v4, v5, v6] (.int 0 :: st) u P := zr_I k242_85
theorem k242_86 : xcd 242 86 = oB (fun x y => x + y) 87 := rfl
theorem r242_86 : zr 242 86 [v0, v1, v2, v3, v4, v5, v6] (.int y1 :: .int y2 :: st) u P = zr 242 87 [v0, v1, v2, v3, v4, v5, v6] (.int (y2 + y1) :: st) u P := zr_B k242_86
theorem k242_87 : xcd 242 87 = oIs 4 89 := rfl
theorem r242_87 : zr 242 87 [v0, v1, v2, .int x3, v4, v5, v6] (.int y1 :: st) u P = zr 242 89 [v0, v1, v2, .int x3, .int y1, v5, v6] st u P := zr_Is k242_87 ⟨Nat.le_of_ble_eq_true rfl, rfl⟩
theorem k242_89 : xcd 242 89 = oInc 6 1 92 := rfl
theorem r242_89 : zr 242 89 [v0, v1, v2, v3, v4, .int x5, .int x6] st u P = zr 242 92 [v0, v1, v2, v3, v4, .int x5, .int (x6 + 1)] st u P := zr_Inc k242_89 rfl rfl
theorem k242_92 : xcd 242 92 = oGoto 46 := rfl
theorem r242_92 : zr 242 92 [v0, v1, v2, v3, v4, v5, v6] st u P = zr 242 46 [v0, v1, v2, v3, v4, v5, v6] st u P := zr_Goto k242_92
theorem k242_95 : xcd 242 95 = oInc 5 1 98 := rfl
theorem r242_95 : zr 242 95 [v0, v1, v2, v3, .int x4, .int x5, v6] st u P = zr 242 98 [v0, v1, v2, v3, .int x4, .int (x5 + 1), v6] st u P := zr_Inc k242_95 rfl rfl
theorem k242_98 : xcd 242 98 = oGoto 32 := rfl
theorem r242_98 : zr 242 98 [v0, v1, v2, v3, v4, v5, v6] st u P = zr 242 32 [v0, v1, v2, v3, v4, v5, v6] st u P := zr_Goto k242_98
theorem k242_101 : xcd 242 101 = oAl 0 102 := rfl
theorem r242_101 : zr 242 101 [.ref a0, v1, v2, v3, v4, v5, v6] st u P = zr 242 102 [.ref a0, v1, v2, v3, v4, v5, v6] (.ref a0 :: st) u P := zr_Al k242_101 rfl
theorem k242_102 : xcd 242 102 = oIl 4 104 := rfl
theorem r242_102 : zr 242 102 [v0, v1, v2, v3, .int x4, v5, v6] st u P = zr 242 104 [v0, v1, v2, v3, .int x4, v5, v6] (.int x4 :: st) u P := zr_Il k242_102 rfl
theorem k242_104 : xcd 242 104 = oCalV 11 174 1 107 := rfl
theorem r242_104 : zr 242 104 [v0, v1, v2, v3, v4, v5, v6] (.int y1 :: .ref b8 :: st) u P = ((xIs u b8 11 ∧ xcat st ≤ 8) ∧ zr 174 0 [.ref b8, .int y1] [] u (fun r u2 => zr 242 107 [v0, v1, v2, v3, v4, v5, v6] (r.toList ++ st) u2 P)) := zr_CV k242_104 rfl rfl rfl ⟨Nat.le_of_ble_eq_true rfl, Nat.succ_ne_zero _, by decide⟩ rfl
theorem k242_107 : xcd 242 107 = oRi 0 := rfl
theorem r242_107 : zr 242 107 [v0, v1, v2, v3, v4, v5, v6] [.int y1] u P = P (some (.int y1)) u := zr_Ri k242_107
theorem k243_0 : xcd 243 0 = oAl 0 1 := rfl
theorem r243_0 : zr 243 0 [.ref a0, v1, v2, v3, v4, v5] st u P = zr 243 1 [.ref a0, v1, v2, v3, v4, v5] (.ref a0 :: st) u P := zr_Al k243_0 rfl
theorem k243_1 : xcd 243 1 = oI 0 2 := rfl
theorem r243_1 : zr 243 1 [v0, v1, v2, v3, v4, v5] st u P = zr 243 2 [v0, v1, v2, v3, v4, v5] (.int 0 :: st) u P := zr_I k243_1
theorem k243_2 : xcd 243 2 = oPI 11 0 5 := rfl
theorem r243_2 : zr 243 2 [v0, v1, v2, v3, v4, v5] (.int y1 :: .ref b1 :: st) u P = (xIs u b1 11 ∧ zr 243 5 [v0, v1, v2, v3, v4, v5] st (xsI u b1 0 y1) P) := zr_PI k243_2
theorem k243_5 : xcd 243 5 = oAl 0 6 := rfl
theorem r243_5 : zr 243 5 [.ref a0, v1, v2, v3, v4, v5] st u P = zr 243 6 [.ref a0, v1, v2, v3, v4, v5] (.ref a0 :: st) u P := zr_Al k243_5 rfl
theorem k243_6 : xcd 243 6 = oGI 11 7 9 := rfl
theorem r243_6 : zr 243 6 [v0, v1, v2, v3, v4, v5] (.ref b1 :: st) u P = (xIs u b1 11 ∧ zr 243 9 [v0, v1, v2, v3, v4, v5] (.int (xI u b1 7) :: st) u P) := zr_GI k243_6
theorem k243_9 : xcd 243 9 = oIf (fun x => decide (¬ x = 0)) 18 12 := rfl
theorem r243_9 : zr 243 9 [v0, v1, v2, v3, v4, v5] (.int y1 :: st) u P = (if ¬ y1 = 0 then zr 243 18 [v0, v1, v2, v3, v4, v5] st u P else zr 243 12 [v0, v1, v2, v3, v4, v5] st u P) := zr_If k243_9
theorem k243_12 : xcd 243 12 = oAl 0 13 := rfl
theorem r243_12 : zr 243 12 [.ref a0, v1, v2, v3, v4, v5] st u P = zr 243 13 [.ref a0, v1, v2, v3, v4, v5] (.ref a0 :: st) u P := zr_Al k243_12 rfl
theorem k243_13 : xcd 243 13 = oI 1 14 := rfl
theorem r243_13 : zr 243 13 [v0, v1, v2, v3, v4, v5] st u P = zr 243 14 [v0, v1, v2, v3, v4, v5] (.int 1 :: st) u P := zr_I k243_13
theorem k243_14 : xcd 243 14 = oCalV 11 172 1 17 := rfl
theorem r243_14 : zr 243 14 [v0, v1, v2, v3, v4, v5] (.int y1 :: .ref b8 :: st) u P = ((xIs u b8 11 ∧ xcat st ≤ 8) ∧ zr 172 0 [.ref b8, .int y1] [] u (fun r u2 => zr 243 17 [v0, v1, v2, v3, v4, v5] (r.toList ++ st) u2 P)) := zr_CV k243_14 rfl rfl rfl ⟨Nat.le_of_ble_eq_true rfl, Nat.succ_ne_zero _, by decide⟩ rfl
theorem k243_17 : xcd 243 17 = oRi 0 := rfl
theorem r243_17 : zr 243 17 [v0, v1, v2, v3, v4, v5] [.int y1] u P = P (some (.int y1)) u := zr_Ri k243_17
theorem k243_18 : xcd 243 18 = oIl 1 19 := rfl
theorem r243_18 : zr 243 18 [v0, .int x1, v2, v3, v4, v5] st u P = zr 243 19 [v0, .int x1, v2, v3, v4, v5] (.int x1 :: st) u P := zr_Il k243_18 rfl
theorem k243_19 : xcd 243 19 = oI 0 20 := rfl
theorem r243_19 : zr 243 19 [v0, v1, v2, v3, v4, v5] st u P = zr 243 20 [v0, v1, v2, v3, v4, v5] (.int 0 :: st) u P := zr_I k243_19
theorem k243_20 : xcd 243 20 = oI 4 21 := rfl
theorem r243_20 : zr 243 20 [v0, v1, v2, v3, v4, v5] st u P = zr 243 21 [v0, v1, v2, v3, v4, v5] (.int 4 :: st) u P := zr_I k243_20
theorem k243_21 : xcd 243 21 = oCal 175 3 24 := rfl
theorem r243_21 : zr 243 21 [v0, v1, v2, v3, v4, v5] (.int y3 :: .int y2 :: .int y1 :: st) u P = (xcat st ≤ 8 ∧ zr 175 0 [.int y1, .int y2, .int y3] [] u (fun r u2 => zr 243 24 [v0, v1, v2, v3, v4, v5] (r.toList ++ st) u2 P)) := zr_CS k243_21 (Nat.le_add_left _ _) rfl rfl ⟨Nat.le_of_ble_eq_true rfl, Nat.succ_ne_zero _, by decide⟩ rfl
theorem k243_24 : xcd 243 24 = oIf (fun x => decide (x = 0)) 34 27 := rfl
theorem r243_24 : zr 243 24 [v0, v1, v2, v3, v4, v5] (.int y1 :: st) u P = (if y1 = 0 then zr 243 34 [v0, v1, v2, v3, v4, v5] st u P else zr 243 27 [v0, v1, v2, v3, v4, v5] st u P) := zr_If k243_24
theorem k243_27 : xcd 243 27 = oIl 2 28 := rfl
theorem r243_27 : zr 243 27 [v0, v1, .int x2, v3, v4, v5] st u P = zr 243 28 [v0, v1, .int x2, v3, v4, v5] (.int x2 :: st) u P := zr_Il k243_27 rfl
theorem k243_28 : xcd 243 28 = oCal 222 1 31 := rfl
theorem r243_28 : zr 243 28 [v0, v1, v2, v3, v4, v5] (.int y1 :: st) u P = (xcat st ≤ 8 ∧ zr 222 0 [.int y1] [] u (fun r u2 => zr 243 31 [v0, v1, v2, v3, v4, v5] (r.toList ++ st) u2 P)) := zr_CS k243_28 (Nat.le_add_left _ _) rfl rfl ⟨Nat.le_of_ble_eq_true rfl, Nat.succ_ne_zero _, by decide⟩ rfl
theorem k243_31 : xcd 243 31 = oIf (fun x => decide (¬ x = 0)) 40 34 := rfl
theorem r243_31 : zr 243 31 [v0, v1, v2, v3, v4, v5] (.int y1 :: st) u P = (if ¬ y1 = 0 then zr 243 40 [v0, v1, v2, v3, v4, v5] st u P else zr 243 34 [v0, v1, v2, v3, v4, v5] st u P) := zr_If k243_31
theorem k243_34 : xcd 243 34 = oAl 0 35 := rfl
theorem r243_34 : zr 243 34 [.ref a0, v1, v2, v3, v4, v5] st u P = zr 243 35 [.ref a0, v1, v2, v3, v4, v5] (.ref a0 :: st) u P := zr_Al k243_34 rfl
theorem k243_35 : xcd 243 35 = oI 2 36 := rfl
theorem r243_35 : zr 243 35 [v0, v1, v2, v3, v4, v5] st u P = zr 243 36 [v0, v1, v2, v3, v4, v5] (.int 2 :: st) u P := zr_I k243_35
theorem k243_36 : xcd 243 36 = oCalV 11 172 1 39 := rfl
theorem r243_36 : zr 243 36 [v0, v1, v2, v3, v4, v5] (.int y1 :: .ref b8 :: st) u P = ((xIs u b8 11 ∧ xcat st ≤ 8) ∧ zr 172 0 [.ref b8, .int y1] [] u (fun r u2 => zr 243 39 [v0, v1, v2, v3, v4, v5] (r.toList ++ st) u2 P)) := zr_CV k243_36 rfl rfl rfl ⟨Nat.le_of_ble_eq_true rfl, Nat.succ_ne_zero _, by decide⟩ rfl
theorem k243_39 : xcd 243 39 = oRi 0 := rfl
theorem r243_39 : zr 243 39 [v0, v1, v2, v3, v4, v5] [.int y1] u P = P (some (.int y1)) u := zr_Ri k243_39
theorem k243_40 : xcd 243 40 = oI 0 41 := rfl
theorem r243_40 : zr 243 40 [v0, v1, v2, v3, v4, v5] st u P = zr 243 41 [v0, v1, v2, v3, v4, v5] (.int 0 :: st) u P := zr_I k243_40
theorem k243_41 : xcd 243 41 = oIs 3 42 := rfl
theorem r243_41 : zr 243 41 [v0, v1, .int x2, v3, v4, v5] (.int y1 :: st) u P = zr 243 42 [v0, v1, .int x2, .int y1, v4, v5] st u P := zr_Is k243_41 ⟨Nat.le_of_ble_eq_true rfl, rfl⟩
theorem k243_42 : xcd 243 42 = oI 0 43 := rfl
theorem r243_42 : zr 243 42 [v0, v1, v2, v3, v4, v5] st u P = zr 243 43 [v0, v1, v2, v3, v4, v5] (.int 0 :: st) u P := zr_I k243_42
theorem k243_43 : xcd 243 43 = oIs 4 45 := rfl
theorem r243_43 : zr 243 43 [v0, v1, v2, .int x3, v4, v5] (.int y1 :: st) u P = zr 243 45 [v0, v1, v2, .int x3, .int y1, v5] st u P := zr_Is k243_43 ⟨Nat.le_of_ble_eq_true rfl, rfl⟩
theorem k243_45 : xcd 243 45 = oIl 4 47 := rfl
theorem r243_45 : zr 243 45 [v0, v1, v2, v3, .int x4, v5] st u P = zr 243 47 [v0, v1, v2, v3, .int x4, v5] (.int x4 :: st) u P := zr_Il k243_45 rfl
theorem k243_47 : xcd 243 47 = oAl 0 48 := rfl
theorem r243_47 : zr 243 47 [.ref a0, v1, v2, v3, v4, v5] st u P = zr 243 48 [.ref a0, v1, v2, v3, v4, v5] (.ref a0 :: st) u P := zr_Al k243_47 rfl
theorem k243_48 : xcd 243 48 = oGR 11 3 51 := rfl
theorem r243_48 : zr 243 48 [v0, v1, v2, v3, v4, v5] (.ref b1 :: st) u P = (xIs u b1 11 ∧ ∃ b, xR u b1 3 = some b ∧ zr 243 51 [v0, v1, v2, v3, v4, v5] (.ref b :: st) u P) := zr_GR k243_48
theorem k243_51 : xcd 243 51 = oI 0 52 := rfl
theorem r243_51 : zr 243 51 [v0, v1, v2, v3, v4, v5] st u P = zr 243 52 [v0, v1, v2, v3, v4, v5] (.int 0 :: st) u P := zr_I k243_51
theorem k243_52 : xcd 243 52 = oLd 13 53 := rfl
theorem r243_52 : zr 243 52 [v0, v1, v2, v3, v4, v5] (.int y1 :: .ref b1 :: st) u P = ((xIs u b1 13 ∧ xinb y1 (xN u b1)) ∧ zr 243 53 [v0, v1, v2, v3, v4, v5] (.int (xI u b1 (xix y1)) :: st) u P) := zr_Ld k243_52
theorem k243_53 : xcd 243 53 = oCmp (fun x y => decide (y < x)) 107 56 := rfl
theorem r243_53 : zr 243 53 [v0, v1, v2, v3, v4, v5] (.int y1 :: .int y2 :: st) u P = (if y1 < y2 then zr 243 107 [v0, v1, v2, v3, v4, v5] st u P else zr 243 56 [v0, v1, v2, v3, v4, v5] st u P) := zr_Cmp k243_53
theorem k243_56 : xcd 243 56 = oI 0 57 := rfl
theorem r243_56 : zr 243 56 [v0, v1, v2, v3, v4, v5] st u P = zr 243 57 [v0, v1, v2, v3, v4, v5] (.int 0 :: st) u P := zr_I k243_56
theorem k243_57 : xcd 243 57 = oIs 5 59 := rfl
theorem r243_57 : zr 243 57 [v0, v1, v2, v3, .int x4, v5] (.int y1 :: st) u P = zr 243 59 [v0, v1, v2, v3, .int x4, .int y1] st u P := zr_Is k243_57 ⟨Nat.le_of_ble_eq_true rfl, rfl⟩
theorem k243_59 : xcd 243 59 = oIl 5 61 := rfl
theorem r243_59 : zr 243 59 [v0, v1, v2, v3, v4, .int x5] st u P = zr 243 61 [v0, v1, v2, v3, v4, .int x5] (.int x5 :: st) u P := zr_Il k243_59 rfl
theorem k243_61 : xcd 243 61 = oAl 0 62 := rfl
theorem r243_61 : zr 243 61 [.ref a0, v1, v2, v3, v4, v5] st u P = zr 243 62 [.ref a0, v1, v2, v3, v4, v5] (.ref a0 :: st) u P := zr_Al k243_61 rfl
theorem k243_62 : xcd 243 62 = oGR 11 3 65 := rfl
theorem r243_62 : zr 243 62 [v0, v1, v2, v3, v4, v5] (.ref b1 :: st) u P = (xIs u b1 11 ∧ ∃ b, xR u b1 3 = some b ∧ zr 243 65 [v0, v1, v2, v3, v4, v5] (.ref b :: st) u P) := zr_GR k243_62
theorem k243_65 : xcd 243 65 = oI 0 66 := rfl
theorem r243_65 : zr 243 65 [v0, v1, v2, v3, v4, v5] st u P = zr 243 66 [v0, v1, v2, v3, v4, v5] (.int 0 :: st) u P := zr_I k243_65
theorem k243_66 : xcd 243 66 = oLd 13 67 := rfl
theorem r243_66 : zr 243 66 [v0, v1, v2, v3, v4, v5] (.int y1 :: .ref b1 :: st) u P = ((xIs u b1 13 ∧ xinb y1 (xN u b1)) ∧ zr 243 67 [v0, v1, v2, v3, v4, v5] (.int (xI u b1 (xix y1)) :: st) u P) := zr_Ld k243_66
theorem k243_67 : xcd 243 67 = oCmp (fun x y => decide (y < x)) 101 70 := rfl
theorem r243_67 : zr 243 67 [v0, v1, v2, v3, v4, v5] (.int y1 :: .int y2 :: st) u P = (if y1 < y2 then zr 243 101 [v0, v1, v2, v3, v4, v5] st u P else zr 243 70 [v0, v1, v2, v3, v4, v5] st u P) := zr_Cmp k243_67
theorem k243_70 : xcd 243 70 = oIl 3 71 := rfl
theorem r243_70 : zr 243 70 [v0, v1, v2, .int x3, v4, v5] st u P = zr 243 71 [v0, v1, v2, .int x3, v4, v5] (.int x3 :: st) u P := zr_Il k243_70 rfl
theorem k243_71 : xcd 243 71 = oAl 0 72 := rfl
theorem r243_71 : zr 243 71 [.ref a0, v1, v2, v3, v4, v5] st u P = zr 243 72 [.ref a0, v1, v2, v3, v4, v5] (.ref a0 :: st) u P := zr_Al k243_71 rfl
theorem k243_72 : xcd 243 72 = oIl 2 73 := rfl
theorem r243_72 : zr 243 72 [v0, v1, .int x2, v3, v4, v5] st u P = zr 243 73 [v0, v1, .int x2, v3, v4, v5] (.int x2 :: st) u P := zr_Il k243_72 rfl
theorem k243_73 : xcd 243 73 = oIl 5 75 := rfl
theorem r243_73 : zr 243 73 [v0, v1, v2, v3, v4, .int x5] st u P = zr 243 75 [v0, v1, v2, v3, v4, .int x5] (.int x5 :: st) u P := zr_Il k243_73 rfl
theorem k243_75 : xcd 243 75 = oIl 4 77 := rfl
theorem r243_75 : zr 243 75 [v0, v1, v2, v3, .int x4, v5] st u P = zr 243 77 [v0, v1, v2, v3, .int x4, v5] (.int x4 :: st) u P := zr_Il k243_75 rfl
theorem k243_77 : xcd 243 77 = oAl 0 78 := rfl
theorem r243_77 : zr 243 77 [.ref a0, v1, v2, v3, v4, v5] st u P = zr 243 78 [.ref a0, v1, v2, v3, v4, v5] (.ref a0 :: st) u P := zr_Al k243_77 rfl
theorem k243_78 : xcd 243 78 = oGR 11 17 81 := rfl
theorem r243_78 : zr 243 78 [v0, v1, v2, v3, v4, v5] (.ref b1 :: st) u P = (xIs u b1 11 ∧ ∃ b, xR u b1 17 = some b ∧ zr 243 81 [v0, v1, v2, v3, v4, v5] (.ref b :: st) u P) := zr_GR k243_78
theorem k243_81 : xcd 243 81 = oCalV 11 236 4 84 := rfl
theorem r243_81 : zr 243 81 [v0, v1, v2, v3, v4, v5] (.ref b4 :: .int y3 :: .int y2 :: .int y1 :: .ref b8 :: st) u P = ((xIs u b8 11 ∧ xcat st ≤ 8) ∧ zr 236 0 [.ref b8, .int y1, .int y2, .int y3, .ref b4, .null, .null, .null] [] u (fun r u2 => zr 243 84 [v0, v1, v2, v3, v4, v5] (r.toList ++ st) u2 P)) := zr_CV k243_81 rfl rfl rfl ⟨Nat.le_of_ble_eq_true rfl, Nat.succ_ne_zero _, by decide⟩ rfl
theorem k243_84 : xcd 243 84 = oIl 1 85 := rfl
theorem r243_84 : zr 243 84 [v0, .int x1, v2, v3, v4, v5] st u P = zr 243 85 [v0, .int x1, v2, v3, v4, v5] (.int x1 :: st) u P := zr_Il k243_84 rfl
theorem k243_85 : xcd 243 85 = oCmp (fun x y => decide (¬ x = y)) 92 88 := rfl
theorem r243_85 : zr 243 85 [v0, v1, v2, v3, v4, v5] (.int y1 :: .int y2 :: st) u P = (if ¬ y2 = y1 then zr 243 92 [v0, v1, v2, v3, v4, v5] st u P else zr 243 88 [v0, v1, v2, v3, v4, v5] st u P) := zr_Cmp k243_85
theorem k243_88 : xcd 243 88 = oI 1 89 := rfl
theorem r243_88 : zr 243 88 [v0, v1, v2, v3, v4, v5] st u P = zr 243 89 [v0, v1, v2, v3, v4, v5] (.int 1 :: st) u P := zr_I k243_88
theorem k243_89 : xcd 243 89 = oGoto 93 := rfl
theorem r243_89 : zr 243 89 [v0, v1, v2, v3, v4, v5] st u P = zr 243 93 [v0, v1, v2, v3, v4, v5] st u P := zr_Goto k243_89
theorem k243_92 : xcd 243 92 = oI 0 93 := rfl
theorem r243_92 : zr 243 92 [v0, v1, v2, v3, v4, v5] st u P = zr 243 93 [v0, v1, v2, v3, v4, v5] (.int 0 :: st) u P := zr_I k243_92
theorem k243_93 : xcd 243 93 = oB (fun x y => x + y) 94 := rfl
theorem r243_93 : zr 243 93 [v0, v1, v2, v3, v4, v5] (.int y1 :: .int y2 :: st) u P = zr 243 94 [v0, v1, v2, v3, v4, v5] (.int (y2 + y1) :: st) u P := zr_B k243_93
theorem k243_94 : xcd 243 94 = oIs 3 95 := rfl
theorem r243_94 : zr 243 94 [v0, v1, .int x2, v3, v4, v5] (.int y1 :: st) u P = zr 243 95 [v0, v1, .int x2, .int y1, v4, v5] st u P := zr_Is k243_94 ⟨Nat.le_of_ble_eq_true rfl, rfl⟩
theorem k243_95 : xcd 243 95 = oInc 5 1 98 := rfl
theorem r243_95 : zr 243 95 [v0, v1, v2, v3, .int x4, .int x5] st u P = zr 243 98 [v0, v1, v2, v3, .int x4, .int (x5 + 1)] st u P := zr_Inc k243_95 rfl rfl
theorem k243_98 : xcd 243 98 = oGoto 59 := rfl
theorem r243_98 : zr 243 98 [v0, v1, v2, v3, v4, v5] st u P = zr 243 59 [v0, v1, v2, v3, v4, v5] st u P := zr_Goto k243_98
theorem k243_101 : xcd 243 101 = oInc 4 1 104 := rfl
theorem r243_101 : zr 243 101 [v0, v1, v2, .int x3, .int x4, v5] st u P = zr 243 104 [v0, v1, v2, .int x3, .int (x4 + 1), v5] st u P := zr_Inc k243_101 rfl rfl
theorem k243_104 : xcd 243 104 = oGoto 45 := rfl
theorem r243_104 : zr 243 104 [v0, v1, v2, v3, v4, v5] st u P = zr 243 45 [v0, v1, v2, v3, v4, v5] st u P := zr_Goto k243_104
theorem k243_107 : xcd 243 107 = oAl 0 108 := rfl
theorem r243_107 : zr 243 107 [.ref a0, v1, v2, v3, v4, v5] st u P = zr 243 108 [.ref a0, v1, v2, v3, v4, v5] (.ref a0 :: st) u P := zr_Al k243_107 rfl
theorem k243_108 : xcd 243 108 = oIl 3 109 := rfl
theorem r243_108 : zr 243 108 [v0, v1, v2, .int x3, v4, v5] st u P = zr 243 109 [v0, v1, v2, .int x3, v4, v5] (.int x3 :: st) u P := zr_Il k243_108 rfl
theorem k243_109 : xcd 243 109 = oCalV 11 174 1 112 := rfl
theorem r243_109 : zr 243 109 [v0, v1, v2, v3, v4, v5] (.int y1 :: .ref b8 :: st) u P = ((xIs u b8 11 ∧ xcat st ≤ 8) ∧ zr 174 0 [.ref b8, .int y1] [] u (fun r u2 => zr 243 112 [v0, v1, v2, v3, v4, v5] (r.toList ++ st) u2 P)) := zr_CV k243_109 rfl rfl rfl ⟨Nat.le_of_ble_eq_true rfl, Nat.succ_ne_zero _, by decide⟩ rfl
theorem k243_112 : xcd 243 112 = oRi 0 := rfl
theorem r243_112 : zr 243 112 [v0, v1, v2, v3, v4, v5] [.int y1] u P = P (some (.int y1)) u := zr_Ri k243_112
theorem k244_0 : xcd 244 0 = oI (-1) 1 := rfl
theorem r244_0 : zr 244 0 [v0, v1, v2, v3, v4, v5, v6] st u P = zr 244 1 [v0, v1, v2, v3, v4, v5, v6] (.int (-1) :: st) u P := zr_I k244_0
theorem k244_1 : xcd 244 1 = oIs 4 3 := rfl
theorem r244_1 : zr 244 1 [v0, v1, v2, .int x3, v4, v5, v6] (.int y1 :: st) u P = zr 244 3 [v0, v1, v2, .int x3, .int y1, v5, v6] st u P := zr_Is k244_1 ⟨Nat.le_of_ble_eq_true rfl, rfl⟩
theorem k244_3 : xcd 244 3 = oI 0 4 := rfl
theorem r244_3 : zr 244 3 [v0, v1, v2, v3, v4, v5, v6] st u P = zr 244 4 [v0, v1, v2, v3, v4, v5, v6] (.int 0 :: st) u P := zr_I k244_3
theorem k244_4 : xcd 244 4 = oIs 5 6 := rfl
theorem r244_4 : zr 244 4 [v0, v1, v2, v3, .int x4, v5, v6] (.int y1 :: st) u P = zr 244 6 [v0, v1, v2, v3, .int x4, .int y1, v6] st u P := zr_Is k244_4 ⟨Nat.le_of_ble_eq_true rfl, rfl⟩
theorem k244_6 : xcd 244 6 = oIl 5 8 := rfl
theorem r244_6 : zr 244 6 [v0, v1, v2, v3, v4, .int x5, v6] st u P = zr 244 8 [v0, v1, v2, v3, v4, .int x5, v6] (.int x5 :: st) u P := zr_Il k244_6 rfl
theorem k244_8 : xcd 244 8 = oAl 0 9 := rfl
theorem r244_8 : zr 244 8 [.ref a0, v1, v2, v3, v4, v5, v6] st u P = zr 244 9 [.ref a0, v1, v2, v3, v4, v5, v6] (.ref a0 :: st) u P := zr_Al k244_8 rfl
theorem k244_9 : xcd 244 9 = oGR 11 3 12 := rfl
theorem r244_9 : zr 244 9 [v0, v1, v2, v3, v4, v5, v6] (.ref b1 :: st) u P = (xIs u b1 11 ∧ ∃ b, xR u b1 3 = some b ∧ zr 244 12 [v0, v1, v2, v3, v4, v5, v6] (.ref b :: st) u P) := zr_GR k244_9
theorem k244_12 : xcd 244 12 = oI 5 13 := rfl
theorem r244_12 : zr 244 12 [v0, v1, v2, v3, v4, v5, v6] st u P = zr 244 13 [v0, v1, v2, v3, v4, v5, v6] (.int 5 :: st) u P := zr_I k244_12
theorem k244_13 : xcd 244 13 = oLd 13 14 := rfl
theorem r244_13 : zr 244 13 [v0, v1, v2, v3, v4, v5, v6] (.int y1 :: .ref b1 :: st) u P = ((xIs u b1 13 ∧ xinb y1 (xN u b1)) ∧ zr 244 14 [v0, v1, v2, v3, v4, v5, v6] (.int (xI u b1 (xix y1)) :: st) u P) := zr_Ld k244_13
theorem k244_14 : xcd 244 14 = oCmp (fun x y => decide (y ≤ x)) 81 17 := rfl
theorem r244_14 : zr 244 14 [v0, v1, v2, v3, v4, v5, v6] (.int y1 :: .int y2 :: st) u P = (if y1 ≤ y2 then zr 244 81 [v0, v1, v2, v3, v4, v5, v6] st u P else zr 244 17 [v0, v1, v2, v3, v4, v5, v6] st u P) := zr_Cmp k244_14
theorem k244_17 : xcd 244 17 = oI 274 20 := rfl
theorem r244_17 : zr 244 17 [v0, v1, v2, v3, v4, v5, v6] st u P = zr 244 20 [v0, v1, v2, v3, v4, v5, v6] (.int 274 :: st) u P := zr_I k244_17
theorem k244_20 : xcd 244 20 = oI 4 21 := rfl
theorem r244_20 : zr 244 20 [v0, v1, v2, v3, v4, v5, v6] st u P = zr 244 21 [v0, v1, v2, v3, v4, v5, v6] (.int 4 :: st) u P := zr_I k244_20
theorem k244_21 : xcd 244 21 = oIl 5 23 := rfl
theorem r244_21 : zr 244 21 [v0, v1, v2, v3, v4, .int x5, v6] st u P = zr 244 23 [v0, v1, v2, v3, v4, .int x5, v6] (.int x5 :: st) u P := zr_Il k244_21 rfl
theorem k244_23 : xcd 244 23 = oB (fun x y => x * y) 24 := rfl
theorem r244_23 : zr 244 23 [v0, v1, v2, v3, v4, v5, v6] (.int y1 :: .int y2 :: st) u P = zr 244 24 [v0, v1, v2, v3, v4, v5, v6] (.int (y2 * y1) :: st) u P := zr_B k244_23
theorem k244_24 : xcd 244 24 = oB (fun x y => x + y) 25 := rfl
theorem r244_24 : zr 244 24 [v0, v1, v2, v3, v4, v5, v6] (.int y1 :: .int y2 :: st) u P = zr 244 25 [v0, v1, v2, v3, v4, v5, v6] (.int (y2 + y1) :: st) u P := zr_B k244_24
theorem k244_25 : xcd 244 25 = oIs 6 27 := rfl
theorem r244_25 : zr 244 25 [v0, v1, v2, v3, v4, .int x5, v6] (.int y1 :: st) u P = zr 244 27 [v0, v1, v2, v3, v4, .int x5, .int y1] st u P := zr_Is k244_25 ⟨Nat.le_of_ble_eq_true rfl, rfl⟩
theorem k244_27 : xcd 244 27 = oAl 0 28 := rfl
theorem r244_27 : zr 244 27 [.ref a0, v1, v2, v3, v4, v5, v6] st u P = zr 244 28 [.ref a0, v1, v2, v3, v4, v5, v6] (.ref a0 :: st) u P := zr_Al k244_27 rfl
theorem k244_28 : xcd 244 28 = oGR 11 3 31 := rfl
theorem r244_28 : zr 244 28 [v0, v1, v2, v3, v4, v5, v6] (.ref b1 :: st) u P = (xIs u b1 11 ∧ ∃ b, xR u b1 3 = some b ∧ zr 244 31 [v0, v1, v2, v3, v4, v5, v6] (.ref b :: st) u P) := zr_GR k244_28
theorem k244_31 : xcd 244 31 = oIl 6 33 := rfl
theorem r244_31 : zr 244 31 [v0, v1, v2, v3, v4, v5, .int x6] st u P = zr 244 33 [v0, v1, v2, v3, v4, v5, .int x6] (.int x6 :: st) u P := zr_Il k244_31 rfl
theorem k244_33 : xcd 244 33 = oLd 13 34 := rfl
theorem r244_33 : zr 244 33 [v0, v1, v2, v3, v4, v5, v6] (.int y1 :: .ref b1 :: st) u P = ((xIs u b1 13 ∧ xinb y1 (xN u b1)) ∧ zr 244 34 [v0, v1, v2, v3, v4, v5, v6] (.int (xI u b1 (xix y1)) :: st) u P) := zr_Ld k244_33
theorem k244_34 : xcd 244 34 = oIl 1 35 := rfl
theorem r244_34 : zr 244 34 [v0, .int x1, v2, v3, v4, v5, v6] st u P = zr 244 35 [v0, .int x1, v2, v3, v4, v5, v6] (.int x1 :: st) u P := zr_Il k244_34 rfl
theorem k244_35 : xcd 244 35 = oCmp (fun x y => decide (¬ x = y)) 75 38 := rfl
theorem r244_35 : zr 244 35 [v0, v1, v2, v3, v4, v5, v6] (.int y1 :: .int y2 :: st) u P = (if ¬ y2 = y1 then zr 244 75 [v0, v1, v2, v3, v4, v5, v6] st u P else zr 244 38 [v0, v1, v2, v3, v4, v5, v6] st u P) := zr_Cmp k244_35
theorem k244_38 : xcd 244 38 = oAl 0 39 := rfl
theorem r244_38 : zr 244 38 [.ref a0, v1, v2, v3, v4, v5, v6] st u P = zr 244 39 [.ref a0, v1, v2, v3, v4, v5, v6] (.ref a0 :: st) u P := zr_Al k244_38 rfl
theorem k244_39 : xcd 244 39 = oGR 11 3 42 := rfl
theorem r244_39 : zr 244 39 [v0, v1, v2, v3, v4, v5, v6] (.ref b1 :: st) u P = (xIs u b1 11 ∧ ∃ b, xR u b1 3 = some b ∧ zr 244 42 [v0, v1, v2, v3, v4, v5, v6] (.ref b :: st) u P) := zr_GR k244_39
theorem k244_42 : xcd 244 42 = oIl 6 44 := rfl
theorem r244_42 : zr 244 42 [v0, v1, v2, v3, v4, v5, .int x6] st u P = zr 244 44 [v0, v1, v2, v3, v4, v5, .int x6] (.int x6 :: st) u P := zr_Il k244_42 rfl
theorem k244_44 : xcd 244 44 = oI 1 45 := rfl
theorem r244_44 : zr 244 44 [v0, v1, v2, v3, v4, v5, v6] st u P = zr 244 45 [v0, v1, v2, v3, v4, v5, v6] (.int 1 :: st) u P := zr_I k244_44
theorem k244_45 : xcd 244 45 = oB (fun x y => x + y) 46 := rfl
theorem r244_45 : zr 244 45 [v0, v1, v2, v3, v4, v5, v6] (.int y1 :: .int y2 :: st) u P = zr 244 46 [v0, v1, v2, v3, v4, v5, v6] (.int (y2 + y1) :: st) u P := zr_B k244_45
theorem k244_46 : xcd 244 46 = oLd 13 47 := rfl
theorem r244_46 : zr 244 46 [v0, v1, v2, v3, v4, v5, v6] (.int y1 :: .ref b1 :: st) u P = ((xIs u b1 13 ∧ xinb y1 (xN u b1)) ∧ zr 244 47 [v0, v1, v2, v3, v4, v5, v6] (.int (xI u b1 (xix y1)) :: st) u P) := zr_Ld k244_46
theorem k244_47 : xcd 244 47 = oIl 2 48 := rfl
theorem r244_47 : zr 244 47 [v0, v1, .int x2, v3, v4, v5, v6] st u P = zr 244 48 [v0, v1, .int x2, v3, v4, v5, v6] (.int x2 :: st) u P := zr_Il k244_47 rfl
theorem k244_48 : xcd 244 48 = oCmp (fun x y => decide (¬ x = y)) 75 51 := rfl
theorem r244_48 : zr 244 48 [v0, v1, v2, v3, v4, v5, v6] (.int y1 :: .int y2 :: st) u P = (if ¬ y2 = y1 then zr 244 75 [v0, v1, v2, v3, v4, v5, v6] st u P else zr 244 51 [v0, v1, v2, v3, v4, v5, v6] st u P) := zr_Cmp k244_48
theorem k244_51 : xcd 244 51 = oAl 0 52 := rfl
theorem r244_51 : zr 244 51 [.ref a0, v1, v2, v3, v4, v5, v6] st u P = zr 244 52 [.ref a0, v1, v2, v3, v4, v5, v6] (.ref a0 :: st) u P := zr_Al k244_51 rfl
theorem k244_52 : xcd 244 52 = oGR 11 3 55 := rfl
theorem r244_52 : zr 244 52 [v0, v1, v2, v3, v4, v5, v6] (.ref b1 :: st) u P = (xIs u b1 11 ∧ ∃ b, xR u b1 3 = some b ∧ zr 244 55 [v0, v1, v2, v3, v4, v5, v6] (.ref b :: st) u P) := zr_GR k244_52
theorem k244_55 : xcd 244 55 = oIl 6 57 := rfl
theorem r244_55 : zr 244 55 [v0, v1, v2, v3, v4, v5, .int x6] st u P = zr 244 57 [v0, v1, v2, v3, v4, v5, .int x6] (.int x6 :: st) u P := zr_Il k244_55 rfl
theorem k244_57 : xcd 244 57 = oI 2 58 := rfl
theorem r244_57 : zr 244 57 [v0, v1, v2, v3, v4, v5, v6] st u P = zr 244 58 [v0, v1, v2, v3, v4, v5, v6] (.int 2 :: st) u P := zr_I k244_57
theorem k244_58 : xcd 244 58 = oB (fun x y => x + y) 59 := rfl
theorem r244_58 : zr 244 58 [v0, v1, v2, v3, v4, v5, v6] (.int y1 :: .int y2 :: st) u P = zr 244 59 [v0, v1, v2, v3, v4, v5, v6] (.int (y2 + y1) :: st) u P := zr_B k244_58
theorem k244_59 : xcd 244 59 = oLd 13 60 := rfl
theorem r244_59 : zr 244 59 [v0, v1, v2, v3, v4, v5, v6] (.int y1 :: .ref b1 :: st) u P = ((xIs u b1 13 ∧ xinb y1 (xN u b1)) ∧ zr 244 60 [v0, v1, v2, v3, v4, v5, v6] (.int (xI u b1 (xix y1)) :: st) u P) := zr_Ld k244_59
theorem k244_60 : xcd 244 60 = oIl 3 61 := rfl
theorem r244_60 : zr 244 60 [v0, v1, v2, .int x3, v4, v5, v6] st u P = zr 244 61 [v0, v1, v2, .int x3, v4, v5, v6] (.int x3 :: st) u P := zr_Il k244_60 rfl
theorem k244_61 : xcd 244 61 = oCmp (fun x y => decide (y < x)) 75 64 := rfl
theorem r244_61 : zr 244 61 [v0, v1, v2, v3, v4, v5, v6] (.int y1 :: .int y2 :: st) u P = (if y1 < y2 then zr 244 75 [v0, v1, v2, v3, v4, v5, v6] st u P else zr 244 64 [v0, v1, v2, v3, v4, v5, v6] st u P) := zr_Cmp k244_61
theorem k244_64 : xcd 244 64 = oAl 0 65 := rfl
theorem r244_64 : zr 244 64 [.ref a0, v1, v2, v3, v4, v5, v6] st u P = zr 244 65 [.ref a0, v1, v2, v3, v4, v5, v6] (.ref a0 :: st) u P := zr_Al k244_64 rfl
theorem k244_65 : xcd 244 65 = oGR 11 3 68 := rfl
theorem r244_65 : zr 244 65 [v0, v1, v2, v3, v4, v5, v6] (.ref b1 :: st) u P = (xIs u b1 11 ∧ ∃ b, xR u b1 3 = some b ∧ zr 244 68 [v0, v1, v2, v3, v4, v5, v6] (.ref b :: st) u P) := zr_GR k244_65
theorem k244_68 : xcd 244 68 = oIl 6 70 := rfl
theorem r244_68 : zr 244 68 [v0, v1, v2, v3, v4, v5, .int x6] st u P = zr 244 70 [v0, v1, v2, v3, v4, v5, .int x6] (.int x6 :: st) u P := zr_Il k244_68 rfl
theorem k244_70 : xcd 244 70 = oI 3 71 := rfl
theorem r244_70 : zr 244 70 [v0, v1, v2, v3, v4, v5, v6] st u P = zr 244 71 [v0, v1, v2, v3, v4, v5, v6] (.int 3 :: st) u P := zr_I k244_70
theorem k244_71 : xcd 244 71 = oB (fun x y => x + y) 72 := rfl
theorem r244_71 : zr 244 71 [v0, v1, v2, v3, v4, v5, v6] (.int y1 :: .int y2 :: st) u P = zr 244 72 [v0, v1, v2, v3, v4, v5, v6] (.int (y2 + y1) :: st) u P := zr_B k244_71
theorem k244_72 : xcd 244 72 = oLd 13 73 := rfl
theorem r244_72 : zr 244 72 [v0, v1, v2, v3, v4, v5, v6] (.int y1 :: .ref b1 :: st) u P = ((xIs u b1 13 ∧ xinb y1 (xN u b1)) ∧ zr 244 73 [v0, v1, v2, v3, v4, v5, v6] (.int (xI u b1 (xix y1)) :: st) u P) := zr_Ld k244_72
theorem k244_73 : xcd 244 73 = oIs 4 75 := rfl
theorem r244_73 : zr 244 73 [v0, v1, v2, .int x3, v4, v5, v6] (.int y1 :: st) u P = zr 244 75 [v0, v1, v2, .int x3, .int y1, v5, v6] st u P := zr_Is k244_73 ⟨Nat.le_of_ble_eq_true rfl, rfl⟩
theorem k244_75 : xcd 244 75 = oInc 5 1 78 := rfl
theorem r244_75 : zr 244 75 [v0, v1, v2, v3, .int x4, .int x5, v6] st u P = zr 244 78 [v0, v1, v2, v3, .int x4, .int (x5 + 1), v6] st u P := zr_Inc k244_75 rfl rfl
theorem k244_78 : xcd 244 78 = oGoto 6 := rfl
theorem r244_78 : zr 244 78 [v0, v1, v2, v3, v4, v5, v6] st u P = zr 244 6 [v0, v1, v2, v3, v4, v5, v6] st u P := zr_Goto k244_78
theorem k244_81 : xcd 244 81 = oIl 4 83 := rfl
theorem r244_81 : zr 244 81 [v0, v1, v2, v3, .int x4, v5, v6] st u P = zr 244 83 [v0, v1, v2, v3, .int x4, v5, v6] (.int x4 :: st) u P := zr_Il k244_81 rfl
theorem k244_83 : xcd 244 83 = oRi 0 := rfl
theorem r244_83 : zr 244 83 [v0, v1, v2, v3, v4, v5, v6] [.int y1] u P = P (some (.int y1)) u := zr_Ri k244_83
theorem k245_0 : xcd 245 0 = oIl 2 1 := rfl
theorem r245_0 : zr 245 0 [v0, v1, .int x2, v3, v4] st u P = zr 245 1 [v0, v1, .int x2, v3, v4] (.int x2 :: st) u P := zr_Il k245_0 rfl
theorem k245_1 : xcd 245 1 = oIs 4 3 := rfl
theorem r245_1 : zr 245 1 [v0, v1, v2, .int x3, v4] (.int y1 :: st) u P = zr 245 3 [v0, v1, v2, .int x3, .int y1] st u P := zr_Is k245_1 ⟨Nat.le_of_ble_eq_true rfl, rfl⟩
theorem k245_3 : xcd 245 3 = oIl 4 5 := rfl
theorem r245_3 : zr 245 3 [v0, v1, v2, v3, .int x4] st u P = zr 245 5 [v0, v1, v2, v3, .int x4] (.int x4 :: st) u P := zr_Il k245_3 rfl
theorem k245_5 : xcd 245 5 = oI (-2) 7 := rfl
theorem r245_5 : zr 245 5 [v0, v1, v2, v3, v4] st u P = zr 245 7 [v0, v1, v2, v3, v4] (.int (-2) :: st) u P := zr_I k245_5
theorem k245_7 : xcd 245 7 = oCmp (fun x y => decide (x = y)) 46 10 := rfl
theorem r245_7 : zr 245 7 [v0, v1, v2, v3, v4] (.int y1 :: .int y2 :: st) u P = (if y2 = y1 then zr 245 46 [v0, v1, v2, v3, v4] st u P else zr 245 10 [v0, v1, v2, v3, v4] st u P) := zr_Cmp k245_7
theorem k245_10 : xcd 245 10 = oAl 0 11 := rfl
theorem r245_10 : zr 245 10 [.ref a0, v1, v2, v3, v4] st u P = zr 245 11 [.ref a0, v1, v2, v3, v4] (.ref a0 :: st) u P := zr_Al k245_10 rfl
theorem k245_11 : xcd 245 11 = oIl 1 12 := rfl
theorem r245_11 : zr 245 11 [v0, .int x1, v2, v3, v4] st u P = zr 245 12 [v0, .int x1, v2, v3, v4] (.int x1 :: st) u P := zr_Il k245_11 rfl
theorem k245_12 : xcd 245 12 = oIl 4 14 := rfl
theorem r245_12 : zr 245 12 [v0, v1, v2, v3, .int x4] st u P = zr 245 14 [v0, v1, v2, v3, .int x4] (.int x4 :: st) u P := zr_Il k245_12 rfl
theorem k245_14 : xcd 245 14 = oIl 3 15 := rfl
theorem r245_14 : zr 245 14 [v0, v1, v2, .int x3, v4] st u P = zr 245 15 [v0, v1, v2, .int x3, v4] (.int x3 :: st) u P := zr_Il k245_14 rfl
theorem k245_15 : xcd 245 15 = oCalV 11 244 3 18 := rfl
theorem r245_15 : zr 245 15 [v0, v1, v2, v3, v4] (.int y3 :: .int y2 :: .int y1 :: .ref b8 :: st) u P = ((xIs u b8 11 ∧ xcat st ≤ 8) ∧ zr 244 0 [.ref b8, .int y1, .int y2, .int y3, .null, .null, .null] [] u (fun r u2 => zr 245 18 [v0, v1, v2, v3, v4] (r.toList ++ st) u2 P)) := zr_CV k245_15 rfl rfl rfl ⟨Nat.le_of_ble_eq_true rfl, Nat.succ_ne_zero _, by decide⟩ rfl
theorem k245_18 : xcd 245 18 = oI (-1) 19 := rfl
theorem r245_18 : zr 245 18 [v0, v1, v2, v3, v4] st u P = zr 245 19 [v0, v1, v2, v3, v4] (.int (-1) :: st) u P := zr_I k245_18
theorem k245_19 : xcd 245 19 = oCmp (fun x y => decide (x = y)) 31 22 := rfl
theorem r245_19 : zr 245 19 [v0, v1, v2, v3, v4] (.int y1 :: .int y2 :: st) u P = (if y2 = y1 then zr 245 31 [v0, v1, v2, v3, v4] st u P else zr 245 22 [v0, v1, v2, v3, v4] st u P) := zr_Cmp k245_19
theorem k245_22 : xcd 245 22 = oAl 0 23 := rfl
theorem r245_22 : zr 245 22 [.ref a0, v1, v2, v3, v4] st u P = zr 245 23 [.ref a0, v1, v2, v3, v4] (.ref a0 :: st) u P := zr_Al k245_22 rfl
theorem k245_23 : xcd 245 23 = oIl 1 24 := rfl
theorem r245_23 : zr 245 23 [v0, .int x1, v2, v3, v4] st u P = zr 245 24 [v0, .int x1, v2, v3, v4] (.int x1 :: st) u P := zr_Il k245_23 rfl
theorem k245_24 : xcd 245 24 = oIl 4 26 := rfl
theorem r245_24 : zr 245 24 [v0, v1, v2, v3, .int x4] st u P = zr 245 26 [v0, v1, v2, v3, .int x4] (.int x4 :: st) u P := zr_Il k245_24 rfl
theorem k245_26 : xcd 245 26 = oIl 3 27 := rfl
theorem r245_26 : zr 245 26 [v0, v1, v2, .int x3, v4] st u P = zr 245 27 [v0, v1, v2, .int x3, v4] (.int x3 :: st) u P := zr_Il k245_26 rfl
theorem k245_27 : xcd 245 27 = oCalV 11 244 3 30 := rfl
theorem r245_27 : zr 245 27 [v0, v1, v2, v3, v4] (.int y3 :: .int y2 :: .int y1 :: .ref b8 :: st) u P = ((xIs u b8 11 ∧ xcat st ≤ 8) ∧ zr 244 0 [.ref b8, .int y1, .int y2, .int y3, .null, .null, .null] [] u (fun r u2 => zr 245 30 [v0, v1, v2, v3, v4] (r.toList ++ st) u2 P)) := zr_CV k245_27 rfl rfl rfl ⟨Nat.le_of_ble_eq_true rfl, Nat.succ_ne_zero _, by decide⟩ rfl
theorem k245_30 : xcd 245 30 = oRi 0 := rfl
theorem r245_30 : zr 245 30 [v0, v1, v2, v3, v4] [.int y1] u P = P (some (.int y1)) u := zr_Ri k245_30
theorem k245_31 : xcd 245 31 = oAl 0 32 := rfl
theorem r245_31 : zr 245 31 [.ref a0, v1, v2, v3, v4] st u P = zr 245 32 [.ref a0, v1, v2, v3, v4] (.ref a0 :: st) u P := zr_Al k245_31 rfl
theorem k245_32 : xcd 245 32 = oGR 11 3 35 := rfl
theorem r245_32 : zr 245 32 [v0, v1, v2, v3, v4] (.ref b1 :: st) u P = (xIs u b1 11 ∧ ∃ b, xR u b1 3 = some b ∧ zr 245 35 [v0, v1, v2, v3, v4] (.ref b :: st) u P) := zr_GR k245_32
theorem k245_35 : xcd 245 35 = oI 8 37 := rfl
theorem r245_35 : zr 245 35 [v0, v1, v2, v3, v4] st u P = zr 245 37 [v0, v1, v2, v3, v4] (.int 8 :: st) u P := zr_I k245_35
theorem k245_37 : xcd 245 37 = oIl 4 39 := rfl
theorem r245_37 : zr 245 37 [v0, v1, v2, v3, .int x4] st u P = zr 245 39 [v0, v1, v2, v3, .int x4] (.int x4 :: st) u P := zr_Il k245_37 rfl
theorem k245_39 : xcd 245 39 = oB (fun x y => x + y) 40 := rfl
theorem r245_39 : zr 245 39 [v0, v1, v2, v3, v4] (.int y1 :: .int y2 :: st) u P = zr 245 40 [v0, v1, v2, v3, v4] (.int (y2 + y1) :: st) u P := zr_B k245_39
theorem k245_40 : xcd 245 40 = oLd 13 41 := rfl
theorem r245_40 : zr 245 40 [v0, v1, v2, v3, v4] (.int y1 :: .ref b1 :: st) u P = ((xIs u b1 13 ∧ xinb y1 (xN u b1)) ∧ zr 245 41 [v0, v1, v2, v3, v4] (.int (xI u b1 (xix y1)) :: st) u P) := zr_Ld k245_40
theorem k245_41 : xcd 245 41 = oIs 4 43 := rfl
theorem r245_41 : zr 245 41 [v0, v1, v2, .int x3, v4] (.int y1 :: st) u P = zr 245 43 [v0, v1, v2, .int x3, .int y1] st u P := zr_Is k245_41 ⟨Nat.le_of_ble_eq_true rfl, rfl⟩
theorem k245_43 : xcd 245 43 = oGoto 3 := rfl
theorem r245_43 : zr 245 43 [v0, v1, v2, v3, v4] st u P = zr 245 3 [v0, v1, v2, v3, v4] st u P := zr_Goto k245_43
theorem k245_46 : xcd 245 46 = oI 0 47 := rfl
theorem r245_46 : zr 245 46 [v0, v1, v2, v3, v4] st u P = zr 245 47 [v0, v1, v2, v3, v4] (.int 0 :: st) u P := zr_I k245_46
theorem k245_47 : xcd 245 47 = oRi 0 := rfl
theorem r245_47 : zr 245 47 [v0, v1, v2, v3, v4] [.int y1] u P = P (some (.int y1)) u := zr_Ri k245_47
theorem k246_0 : xcd 246 0 = oIl 1 1 := rfl
theorem r246_0 : zr 246 0 [v0, .int x1, v2, v3] st u P = zr 246 1 [v0, .int x1, v2, v3] (.int x1 :: st) u P := zr_Il k246_0 rfl
theorem k246_1 : xcd 246 1 = oIs 3 2 := rfl
theorem r246_1 : zr 246 1 [v0, v1, .int x2, v3] (.int y1 :: st) u P = zr 246 2 [v0, v1, .int x2, .int y1] st u P := zr_Is k246_1 ⟨Nat.le_of_ble_eq_true rfl, rfl⟩
theorem k246_2 : xcd 246 2 = oIl 3 3 := rfl
theorem r246_2 : zr 246 2 [v0, v1, v2, .int x3] st u P = zr 246 3 [v0, v1, v2, .int x3] (.int x3 :: st) u P := zr_Il k246_2 rfl
theorem k246_3 : xcd 246 3 = oI (-2) 5 := rfl
theorem r246_3 : zr 246 3 [v0, v1, v2, v3] st u P = zr 246 5 [v0, v1, v2, v3] (.int (-2) :: st) u P := zr_I k246_3
theorem k246_5 : xcd 246 5 = oCmp (fun x y => decide (x = y)) 28 8 := rfl
theorem r246_5 : zr 246 5 [v0, v1, v2, v3] (.int y1 :: .int y2 :: st) u P = (if y2 = y1 then zr 246 28 [v0, v1, v2, v3] st u P else zr 246 8 [v0, v1, v2, v3] st u P) := zr_Cmp k246_5
theorem k246_8 : xcd 246 8 = oIl 3 9 := rfl
theorem r246_8 : zr 246 8 [v0, v1, v2, .int x3] st u P = zr 246 9 [v0, v1, v2, .int x3] (.int x3 :: st) u P := zr_Il k246_8 rfl
theorem k246_9 : xcd 246 9 = oIl 2 10 := rfl
theorem r246_9 : zr 246 9 [v0, v1, .int x2, v3] st u P = zr 246 10 [v0, v1, .int x2, v3] (.int x2 :: st) u P := zr_Il k246_9 rfl
theorem k246_10 : xcd 246 10 = oCmp (fun x y => decide (¬ x = y)) 15 13 := rfl
theorem r246_10 : zr 246 10 [v0, v1, v2, v3] (.int y1 :: .int y2 :: st) u P = (if ¬ y2 = y1 then zr 246 15 [v0, v1, v2, v3] st u P else zr 246 13 [v0, v1, v2, v3] st u P) := zr_Cmp k246_10
theorem k246_13 : xcd 246 13 = oI 1 14 := rfl
theorem r246_13 : zr 246 13 [v0, v1, v2, v3] st u P = zr 246 14 [v0, v1, v2, v3] (.int 1 :: st) u P := zr_I k246_13
theorem k246_14 : xcd 246 14 = oRz 0 := rfl
theorem r246_14 : zr 246 14 [v0, v1, v2, v3] [.int y1] u P = ((y1 = 0 ∨ y1 = 1) ∧ P (some (.int y1)) u) := zr_Rz k246_14
theorem k246_15 : xcd 246 15 = oAl 0 16 := rfl
theorem r246_15 : zr 246 15 [.ref a0, v1, v2, v3] st u P = zr 246 16 [.ref a0, v1, v2, v3] (.ref a0 :: st) u P := zr_Al k246_15 rfl
theorem k246_16 : xcd 246 16 = oGR 11 3 19 := rfl
theorem r246_16 : zr 246 16 [v0, v1, v2, v3] (.ref b1 :: st) u P = (xIs u b1 11 ∧ ∃ b, xR u b1 3 = some b ∧ zr 246 19 [v0, v1, v2, v3] (.ref b :: st) u P) := zr_GR k246_16
theorem k246_19 : xcd 246 19 = oI 8 21 := rfl
theorem r246_19 : zr 246 19 [v0, v1, v2, v3] st u P = zr 246 21 [v0, v1, v2, v3] (.int 8 :: st) u P := zr_I k246_19
theorem k246_21 : xcd 246 21 = oIl 3 22 := rfl
theorem r246_21 : zr 246 21 [v0, v1, v2, .int x3] st u P = zr 246 22 [v0, v1, v2, .int x3] (.int x3 :: st) u P := zr_Il k246_21 rfl
theorem k246_22 : xcd 246 22 = oB (fun x y => x + y) 23 := rfl
theorem r246_22 : zr 246 22 [v0, v1, v2, v3] (.int y1 :: .int y2 :: st) u P = zr 246 23 [v0, v1, v2, v3] (.int (y2 + y1) :: st) u P := zr_B k246_22
theorem k246_23 : xcd 246 23 = oLd 13 24 := rfl
theorem r246_23 : zr 246 23 [v0, v1, v2, v3] (.int y1 :: .ref b1 :: st) u P = ((xIs u b1 13 ∧ xinb y1 (xN u b1)) ∧ zr 246 24 [v0, v1, v2, v3] (.int (xI u b1 (xix y1)) :: st) u P) := zr_Ld k246_23
theorem k246_24 : xcd 246 24 = oIs 3 25 := rfl
theorem r246_24 : zr 246 24 [v0, v1, .int x2, v3] (.int y1 :: st) u P = zr 246 25 [v0, v1, .int x2, .int y1] st u P := zr_Is k246_24 ⟨Nat.le_of_ble_eq_true rfl, rfl⟩
theorem k246_25 : xcd 246 25 = oGoto 2 := rfl
theorem r246_25 : zr 246 25 [v0, v1, v2, v3] st u P = zr 246 2 [v0, v1, v2, v3] st u P := zr_Goto k246_25
theorem k246_28 : xcd 246 28 = oI 0 29 := rfl
theorem r246_28 : zr 246 28 [v0, v1, v2, v3] st u P = zr 246 29 [v0, v1, v2, v3] (.int 0 :: st) u P := zr_I k246_28
theorem k246_29 : xcd 246 29 = oRz 0 := rfl
theorem r246_29 : zr 246 29 [v0, v1, v2, v3] [.int y1] u P = ((y1 = 0 ∨ y1 = 1) ∧ P (some (.int y1)) u) := zr_Rz k246_29
theorem k247_0 : xcd 247 0 = oI 0 1 := rfl
theorem r247_0 : zr 247 0 [v0, v1, v2, v3, v4, v5, v6] st u P = zr 247 1 [v0, v1, v2, v3, v4, v5, v6] (.int 0 :: st) u P := zr_I k247_0
theorem k247_1 : xcd 247 1 = oIs 5 3 := rfl
theorem r247_1 : zr 247 1 [v0, v1, v2, v3, .int x4, v5, v6] (.int y1 :: st) u P = zr 247 3 [v0, v1, v2, v3, .int x4, .int y1, v6] st u P := zr_Is k247_1 ⟨Nat.le_of_ble_eq_true rfl, rfl⟩
theorem k247_3 : xcd 247 3 = oIl 5 5 := rfl
theorem r247_3 : zr 247 3 [v0, v1, v2, v3, v4, .int x5, v6] st u P = zr 247 5 [v0, v1, v2, v3, v4, .int x5, v6] (.int x5 :: st) u P := zr_Il k247_3 rfl
theorem k247_5 : xcd 247 5 = oAl 0 6 := rfl
theorem r247_5 : zr 247 5 [.ref a0, v1, v2, v3, v4, v5, v6] st u P = zr 247 6 [.ref a0, v1, v2, v3, v4, v5, v6] (.ref a0 :: st) u P := zr_Al k247_5 rfl
theorem k247_6 : xcd 247 6 = oGR 11 3 9 := rfl
theorem r247_6 : zr 247 6 [v0, v1, v2, v3, v4, v5, v6] (.ref b1 :: st) u P = (xIs u b1 11 ∧ ∃ b, xR u b1 3 = some b ∧ zr 247 9 [v0, v1, v2, v3, v4, v5, v6] (.ref b :: st) u P) := zr_GR k247_6
theorem k247_9 : xcd 247 9 = oI 6 11 := rfl
theorem r247_9 : zr 247 9 [v0, v1, v2, v3, v4, v5, v6] st u P = zr 247 11 [v0, v1, v2, v3, v4, v5, v6] (.int 6 :: st) u P := zr_I k247_9
theorem k247_11 : xcd 247 11 = oLd 13 12 := rfl
theorem r247_11 : zr 247 11 [v0, v1, v2, v3, v4, v5, v6] (.int y1 :: .ref b1 :: st) u P = ((xIs u b1 13 ∧ xinb y1 (xN u b1)) ∧ zr 247 12 [v0, v1, v2, v3, v4, v5, v6] (.int (xI u b1 (xix y1)) :: st) u P) := zr_Ld k247_11
theorem k247_12 : xcd 247 12 = oCmp (fun x y => decide (y ≤ x)) 100 15 := rfl
theorem r247_12 : zr 247 12 [v0, v1, v2, v3, v4, v5, v6] (.int y1 :: .int y2 :: st) u P = (if y1 ≤ y2 then zr 247 100 [v0, v1, v2, v3, v4, v5, v6] st u P else zr 247 15 [v0, v1, v2, v3, v4, v5, v6] st u P) := zr_Cmp k247_12
theorem k247_15 : xcd 247 15 = oI 354 18 := rfl
theorem r247_15 : zr 247 15 [v0, v1, v2, v3, v4, v5, v6] st u P = zr 247 18 [v0, v1, v2, v3, v4, v5, v6] (.int 354 :: st) u P := zr_I k247_15
theorem k247_18 : xcd 247 18 = oI 5 19 := rfl
theorem r247_18 : zr 247 18 [v0, v1, v2, v3, v4, v5, v6] st u P = zr 247 19 [v0, v1, v2, v3, v4, v5, v6] (.int 5 :: st) u P := zr_I k247_18
theorem k247_19 : xcd 247 19 = oIl 5 21 := rfl
theorem r247_19 : zr 247 19 [v0, v1, v2, v3, v4, .int x5, v6] st u P = zr 247 21 [v0, v1, v2, v3, v4, .int x5, v6] (.int x5 :: st) u P := zr_Il k247_19 rfl
theorem k247_21 : xcd 247 21 = oB (fun x y => x * y) 22 := rfl
theorem r247_21 : zr 247 21 [v0, v1, v2, v3, v4, v5, v6] (.int y1 :: .int y2 :: st) u P = zr 247 22 [v0, v1, v2, v3, v4, v5, v6] (.int (y2 * y1) :: st) u P := zr_B k247_21
theorem k247_22 : xcd 247 22 = oB (fun x y => x + y) 23 := rfl
theorem r247_22 : zr 247 22 [v0, v1, v2, v3, v4, v5, v6] (.int y1 :: .int y2 :: st) u P = zr 247 23 [v0, v1, v2, v3, v4, v5, v6] (.int (y2 + y1) :: st) u P := zr_B k247_22
theorem k247_23 : xcd 247 23 = oIs 6 25 := rfl
theorem r247_23 : zr 247 23 [v0, v1, v2, v3, v4, .int x5, v6] (.int y1 :: st) u P = zr 247 25 [v0, v1, v2, v3, v4, .int x5, .int y1] st u P := zr_Is k247_23 ⟨Nat.le_of_ble_eq_true rfl, rfl⟩
theorem k247_25 : xcd 247 25 = oAl 0 26 := rfl
theorem r247_25 : zr 247 25 [.ref a0, v1, v2, v3, v4, v5, v6] st u P = zr 247 26 [.ref a0, v1, v2, v3, v4, v5, v6] (.ref a0 :: st) u P := zr_Al k247_25 rfl
theorem k247_26 : xcd 247 26 = oGR 11 3 29 := rfl
theorem r247_26 : zr 247 26 [v0, v1, v2, v3, v4, v5, v6] (.ref b1 :: st) u P = (xIs u b1 11 ∧ ∃ b, xR u b1 3 = some b ∧ zr 247 29 [v0, v1, v2, v3, v4, v5, v6] (.ref b :: st) u P) := zr_GR k247_26
theorem k247_29 : xcd 247 29 = oIl 6 31 := rfl
theorem r247_29 : zr 247 29 [v0, v1, v2, v3, v4, v5, .int x6] st u P = zr 247 31 [v0, v1, v2, v3, v4, v5, .int x6] (.int x6 :: st) u P := zr_Il k247_29 rfl
theorem k247_31 : xcd 247 31 = oLd 13 32 := rfl
theorem r247_31 : zr 247 31 [v0, v1, v2, v3, v4, v5, v6] (.int y1 :: .ref b1 :: st) u P = ((xIs u b1 13 ∧ xinb y1 (xN u b1)) ∧ zr 247 32 [v0, v1, v2, v3, v4, v5, v6] (.int (xI u b1 (xix y1)) :: st) u P) := zr_Ld k247_31
theorem k247_32 : xcd 247 32 = oIl 1 33 := rfl
theorem r247_32 : zr 247 32 [v0, .int x1, v2, v3, v4, v5, v6] st u P = zr 247 33 [v0, .int x1, v2, v3, v4, v5, v6] (.int x1 :: st) u P := zr_Il k247_32 rfl
theorem k247_33 : xcd 247 33 = oCmp (fun x y => decide (¬ x = y)) 94 36 := rfl
theorem r247_33 : zr 247 33 [v0, v1, v2, v3, v4, v5, v6] (.int y1 :: .int y2 :: st) u P = (if ¬ y2 = y1 then zr 247 94 [v0, v1, v2, v3, v4, v5, v6] st u P else zr 247 36 [v0, v1, v2, v3, v4, v5, v6] st u P) := zr_Cmp k247_33
theorem k247_36 : xcd 247 36 = oAl 0 37 := rfl
theorem r247_36 : zr 247 36 [.ref a0, v1, v2, v3, v4, v5, v6] st u P = zr 247 37 [.ref a0, v1, v2, v3, v4, v5, v6] (.ref a0 :: st) u P := zr_Al k247_36 rfl
theorem k247_37 : xcd 247 37 = oIl 2 38 := rfl
theorem r247_37 : zr 247 37 [v0, v1, .int x2, v3, v4, v5, v6] st u P = zr 247 38 [v0, v1, .int x2, v3, v4, v5, v6] (.int x2 :: st) u P := zr_Il k247_37 rfl
theorem k247_38 : xcd 247 38 = oAl 0 39 := rfl
theorem r247_38 : zr 247 38 [.ref a0, v1, v2, v3, v4, v5, v6] st u P = zr 247 39 [.ref a0, v1, v2, v3, v4, v5, v6] (.ref a0 :: st) u P := zr_Al k247_38 rfl
theorem k247_39 : xcd 247 39 = oGR 11 3 42 := rfl
theorem r247_39 : zr 247 39 [v0, v1, v2, v3, v4, v5, v6] (.ref b1 :: st) u P = (xIs u b1 11 ∧ ∃ b, xR u b1 3 = some b ∧ zr 247 42 [v0, v1, v2, v3, v4, v5, v6] (.ref b :: st) u P) := zr_GR k247_39
theorem k247_42 : xcd 247 42 = oIl 6 44 := rfl
theorem r247_42 : zr 247 42 [v0, v1, v2, v3, v4, v5, .int x6] st u P = zr 247 44 [v0, v1, v2, v3, v4, v5, .int x6] (.int x6 :: st) u P := zr_Il k247_42 rfl
theorem k247_44 : xcd 247 44 = oI 1 45 := rfl
theorem r247_44 : zr 247 44 [v0, v1, v2, v3, v4, v5, v6] st u P = zr 247 45 [v0, v1, v2, v3, v4, v5, v6] (.int 1 :: st) u P := zr_I k247_44
theorem k247_45 : xcd 247 45 = oB (fun x y => x + y) 46 := rfl
theorem r247_45 : zr 247 45 [v0, v1, v2, v3, v4, v5, v6] (.int y1 :: .int y2 :: st) u P = zr 247 46 [v0, v1, v2, v3, v4, v5, v6] (.int (y2 + y1) :: st) u P := zr_B k247_45
theorem k247_46 : xcd 247 46 = oLd 13 47 := rfl
theorem r247_46 : zr 247 46 [v0, v1, v2, v3, v4, v5, v6] (.int y1 :: .ref b1 :: st) u P = ((xIs u b1 13 ∧ xinb y1 (xN u b1)) ∧ zr 247 47 [v0, v1, v2, v3, v4, v5, v6] (.int (xI u b1 (xix y1)) :: st) u P) := zr_Ld k247_46
theorem k247_47 : xcd 247 47 = oCalV 11 246 2 50 := rfl
theorem r247_47 : zr 247 47 [v0, v1, v2, v3, v4, v5, v6] (.int y2 :: .int y1 :: .ref b8 :: st) u P = ((xIs u b8 11 ∧ xcat st ≤ 8) ∧ zr 246 0 [.ref b8, .int y1, .int y2, .null] [] u (fun r u2 => zr 247 50 [v0, v1, v2, v3, v4, v5, v6] (r.toList ++ st) u2 P)) := zr_CV k247_47 rfl rfl rfl ⟨Nat.le_of_ble_eq_true rfl, Nat.succ_ne_zero _, by decide⟩ rfl
theorem k247_50 : xcd 247 50 = oIf (fun x => decide (x = 0)) 94 53 := rfl
theorem r247_50 : zr 247 50 [v0, v1, v2, v3, v4, v5, v6] (.int y1 :: st) u P = (if y1 = 0 then zr 247 94 [v0, v1, v2, v3, v4, v5, v6] st u P else zr 247 53 [v0, v1, v2, v3, v4, v5, v6] st u P) := zr_If k247_50
theorem k247_53 : xcd 247 53 = oIl 3 54 := rfl
theorem r247_53 : zr 247 53 [v0, v1, v2, .int x3, v4, v5, v6] st u P = zr 247 54 [v0, v1, v2, .int x3, v4, v5, v6] (.int x3 :: st) u P := zr_Il k247_53 rfl
theorem k247_54 : xcd 247 54 = oAl 0 55 := rfl
theorem r247_54 : zr 247 54 [.ref a0, v1, v2, v3, v4, v5, v6] st u P = zr 247 55 [.ref a0, v1, v2, v3, v4, v5, v6] (.ref a0 :: st) u P := zr_Al k247_54 rfl
theorem k247_55 : xcd 247 55 = oGR 11 3 58 := rfl
theorem r247_55 : zr 247 55 [v0, v1, v2, v3, v4, v5, v6] (.ref b1 :: st) u P = (xIs u b1 11 ∧ ∃ b, xR u b1 3 = some b ∧ zr 247 58 [v0, v1, v2, v3, v4, v5, v6] (.ref b :: st) u P) := zr_GR k247_55
theorem k247_58 : xcd 247 58 = oIl 6 60 := rfl
theorem r247_58 : zr 247 58 [v0, v1, v2, v3, v4, v5, .int x6] st u P = zr 247 60 [v0, v1, v2, v3, v4, v5, .int x6] (.int x6 :: st) u P := zr_Il k247_58 rfl
theorem k247_60 : xcd 247 60 = oI 2 61 := rfl
theorem r247_60 : zr 247 60 [v0, v1, v2, v3, v4, v5, v6] st u P = zr 247 61 [v0, v1, v2, v3, v4, v5, v6] (.int 2 :: st) u P := zr_I k247_60
theorem k247_61 : xcd 247 61 = oB (fun x y => x + y) 62 := rfl
theorem r247_61 : zr 247 61 [v0, v1, v2, v3, v4, v5, v6] (.int y1 :: .int y2 :: st) u P = zr 247 62 [v0, v1, v2, v3, v4, v5, v6] (.int (y2 + y1) :: st) u P := zr_B k247_61
theorem k247_62 : xcd 247 62 = oLd 13 63 := rfl
theorem r247_62 : zr 247 62 [v0, v1, v2, v3, v4, v5, v6] (.int y1 :: .ref b1 :: st) u P = ((xIs u b1 13 ∧ xinb y1 (xN u b1)) ∧ zr 247 63 [v0, v1, v2, v3, v4, v5, v6] (.int (xI u b1 (xix y1)) :: st) u P) := zr_Ld k247_62
theorem k247_63 : xcd 247 63 = oAl 0 64 := rfl
theorem r247_63 : zr 247 63 [.ref a0, v1, v2, v3, v4, v5, v6] st u P = zr 247 64 [.ref a0, v1, v2, v3, v4, v5, v6] (.ref a0 :: st) u P := zr_Al k247_63 rfl
theorem k247_64 : xcd 247 64 = oGR 11 3 67 := rfl
theorem r247_64 : zr 247 64 [v0, v1, v2, v3, v4, v5, v6] (.ref b1 :: st) u P = (xIs u b1 11 ∧ ∃ b, xR u b1 3 = some b ∧ zr 247 67 [v0, v1, v2, v3, v4, v5, v6] (.ref b :: st) u P) := zr_GR k247_64
theorem k247_67 : xcd 247 67 = oIl 6 69 := rfl
theorem r247_67 : zr 247 67 [v0, v1, v2, v3, v4, v5, .int x6] st u P = zr 247 69 [v0, v1, v2, v3, v4, v5, .int x6] (.int x6 :: st) u P := zr_Il k247_67 rfl
theorem k247_69 : xcd 247 69 = oI 3 70 := rfl
theorem r247_69 : zr 247 69 [v0, v1, v2, v3, v4, v5, v6] st u P = zr 247 70 [v0, v1, v2, v3, v4, v5, v6] (.int 3 :: st) u P := zr_I k247_69
theorem k247_70 : xcd 247 70 = oB (fun x y => x + y) 71 := rfl
theorem r247_70 : zr 247 70 [v0, v1, v2, v3, v4, v5, v6] (.int y1 :: .int y2 :: st) u P = zr 247 71 [v0, v1, v2, v3, v4, v5, v6] (.int (y2 + y1) :: st) u P := zr_B k247_70
theorem k247_71 : xcd 247 71 = oLd 13 72 := rfl
theorem r247_71 : zr 247 71 [v0, v1, v2, v3, v4, v5, v6] (.int y1 :: .ref b1 :: st) u P = ((xIs u b1 13 ∧ xinb y1 (xN u b1)) ∧ zr 247 72 [v0, v1, v2, v3, v4, v5, v6] (.int (xI u b1 (xix y1)) :: st) u P) := zr_Ld k247_71
theorem k247_72 : xcd 247 72 = oCal 175 3 75 := rfl
theorem r247_72 : zr 247 72 [v0, v1, v2, v3, v4, v5, v6] (.int y3 :: .int y2 :: .int y1 :: st) u P = (xcat st ≤ 8 ∧ zr 175 0 [.int y1, .int y2, .int y3] [] u (fun r u2 => zr 247 75 [v0, v1, v2, v3, v4, v5, v6] (r.toList ++ st) u2 P)) := zr_CS k247_72 (Nat.le_add_left _ _) rfl rfl ⟨Nat.le_of_ble_eq_true rfl, Nat.succ_ne_zero _, by decide⟩ rfl
theorem k247_75 : xcd 247 75 = oIf (fun x => decide (x = 0)) 94 78 := rfl
theorem r247_75 : zr 247 75 [v0, v1, v2, v3, v4, v5, v6] (.int y1 :: st) u P = (if y1 = 0 then zr 247 94 [v0, v1, v2, v3, v4, v5, v6] st u P else zr 247 78 [v0, v1, v2, v3, v4, v5, v6] st u P) := zr_If k247_75
theorem k247_78 : xcd 247 78 = oIl 4 80 := rfl
theorem r247_78 : zr 247 78 [v0, v1, v2, v3, .int x4, v5, v6] st u P = zr 247 80 [v0, v1, v2, v3, .int x4, v5, v6] (.int x4 :: st) u P := zr_Il k247_78 rfl
theorem k247_80 : xcd 247 80 = oAl 0 81 := rfl
theorem r247_80 : zr 247 80 [.ref a0, v1, v2, v3, v4, v5, v6] st u P = zr 247 81 [.ref a0, v1, v2, v3, v4, v5, v6] (.ref a0 :: st) u P := zr_Al k247_80 rfl
theorem k247_81 : xcd 247 81 = oGR 11 3 84 := rfl
theorem r247_81 : zr 247 81 [v0, v1, v2, v3, v4, v5, v6] (.ref b1 :: st) u P = (xIs u b1 11 ∧ ∃ b, xR u b1 3 = some b ∧ zr 247 84 [v0, v1, v2, v3, v4, v5, v6] (.ref b :: st) u P) := zr_GR k247_81
theorem k247_84 : xcd 247 84 = oIl 6 86 := rfl
theorem r247_84 : zr 247 84 [v0, v1, v2, v3, v4, v5, .int x6] st u P = zr 247 86 [v0, v1, v2, v3, v4, v5, .int x6] (.int x6 :: st) u P := zr_Il k247_84 rfl
theorem k247_86 : xcd 247 86 = oI 4 87 := rfl
theorem r247_86 : zr 247 86 [v0, v1, v2, v3, v4, v5, v6] st u P = zr 247 87 [v0, v1, v2, v3, v4, v5, v6] (.int 4 :: st) u P := zr_I k247_86
theorem k247_87 : xcd 247 87 = oB (fun x y => x + y) 88 := rfl
theorem r247_87 : zr 247 87 [v0, v1, v2, v3, v4, v5, v6] (.int y1 :: .int y2 :: st) u P = zr 247 88 [v0, v1, v2, v3, v4, v5, v6] (.int (y2 + y1) :: st) u P := zr_B k247_87
theorem k247_88 : xcd 247 88 = oLd 13 89 := rfl
theorem r247_88 : zr 247 88 [v0, v1, v2, v3, v4, v5, v6] (.int y1 :: .ref b1 :: st) u P = ((xIs u b1 13 ∧ xinb y1 (xN u b1)) ∧ zr 247 89 [v0, v1, v2, v3, v4, v5, v6] (.int (xI u b1 (xix y1)) :: st) u P) := zr_Ld k247_88
theorem k247_89 : xcd 247 89 = oCmp (fun x y => decide (y < x)) 94 92 := rfl
theorem r247_89 : zr 247 89 [v0, v1, v2, v3, v4, v5, v6] (.int y1 :: .int y2 :: st) u P = (if y1 < y2 then zr 247 94 [v0, v1, v2, v3, v4, v5, v6] st u P else zr 247 92 [v0, v1, v2, v3, v4, v5, v6] st u P) := zr_Cmp k247_89
theorem k247_92 : xcd 247 92 = oI 1 93 := rfl
theorem r247_92 : zr 247 92 [v0, v1, v2, v3, v4, v5, v6] st u P = zr 247 93 [v0, v1, v2, v3, v4, v5, v6] (.int 1 :: st) u P := zr_I k247_92
theorem k247_93 : xcd 247 93 = oRz 0 := rfl
theorem r247_93 : zr 247 93 [v0, v1, v2, v3, v4, v5, v6] [.int y1] u P = ((y1 = 0 ∨ y1 = 1) ∧ P (some (.int y1)) u) := zr_Rz k247_93
theorem k247_94 : xcd 247 94 = oInc 5 1 97 := rfl
theorem r247_94 : zr 247 94 [v0, v1, v2, v3, .int x4, .int x5, v6] st u P = zr 247 97 [v0, v1, v2, v3, .int x4, .int (x5 + 1), v6] st u P := zr_Inc k247_94 rfl rfl
theorem k247_97 : xcd 247 97 = oGoto 3 := rfl
theorem r247_97 : zr 247 97 [v0, v1, v2, v3, v4, v5, v6] st u P = zr 247 3 [v0, v1, v2, v3, v4, v5, v6] st u P := zr_Goto k247_97
theorem k247_100 : xcd 247 100 = oI 0 101 := rfl
theorem r247_100 : zr 247 100 [v0, v1, v2, v3, v4, v5, v6] st u P = zr 247 101 [v0, v1, v2, v3, v4, v5, v6] (.int 0 :: st) u P := zr_I k247_100
theorem k247_101 : xcd 247 101 = oRz 0 := rfl
theorem r247_101 : zr 247 101 [v0, v1, v2, v3, v4, v5, v6] [.int y1] u P = ((y1 = 0 ∨ y1 = 1) ∧ P (some (.int y1)) u) := zr_Rz k247_101
theorem k248_0 : xcd 248 0 = oIl 2 1 := rfl
theorem r248_0 : zr 248 0 [v0, v1, .int x2, v3] st u P = zr 248 1 [v0, v1, .int x2, v3] (.int x2 :: st) u P := zr_Il k248_0 rfl
theorem k248_1 : xcd 248 1 = oIs 3 2 := rfl
theorem r248_1 : zr 248 1 [v0, v1, .int x2, v3] (.int y1 :: st) u P = zr 248 2 [v0, v1, .int x2, .int y1] st u P := zr_Is k248_1 ⟨Nat.le_of_ble_eq_true rfl, rfl⟩
theorem k248_2 : xcd 248 2 = oIl 3 3 := rfl
theorem r248_2 : zr 248 2 [v0, v1, v2, .int x3] st u P = zr 248 3 [v0, v1, v2, .int x3] (.int x3 :: st) u P := zr_Il k248_2 rfl
theorem k248_3 : xcd 248 3 = oI (-2) 5 := rfl
theorem r248_3 : zr 248 3 [v0, v1, v2, v3] st u P = zr 248 5 [v0, v1, v2, v3] (.int (-2) :: st) u P := zr_I k248_3
theorem k248_5 : xcd 248 5 = oCmp (fun x y => decide (x = y)) 45 8 := rfl
theorem r248_5 : zr 248 5 [v0, v1, v2, v3] (.int y1 :: .int y2 :: st) u P = (if y2 = y1 then zr 248 45 [v0, v1, v2, v3] st u P else zr 248 8 [v0, v1, v2, v3] st u P) := zr_Cmp k248_5
theorem k248_8 : xcd 248 8 = oAl 0 9 := rfl
theorem r248_8 : zr 248 8 [.ref a0, v1, v2, v3] st u P = zr 248 9 [.ref a0, v1, v2, v3] (.ref a0 :: st) u P := zr_Al k248_8 rfl
theorem k248_9 : xcd 248 9 = oGR 11 3 12 := rfl
theorem r248_9 : zr 248 9 [v0, v1, v2, v3] (.ref b1 :: st) u P = (xIs u b1 11 ∧ ∃ b, xR u b1 3 = some b ∧ zr 248 12 [v0, v1, v2, v3] (.ref b :: st) u P) := zr_GR k248_9
theorem k248_12 : xcd 248 12 = oIl 1 13 := rfl
theorem r248_12 : zr 248 12 [v0, .int x1, v2, v3] st u P = zr 248 13 [v0, .int x1, v2, v3] (.int x1 :: st) u P := zr_Il k248_12 rfl
theorem k248_13 : xcd 248 13 = oIl 3 14 := rfl
theorem r248_13 : zr 248 13 [v0, v1, v2, .int x3] st u P = zr 248 14 [v0, v1, v2, .int x3] (.int x3 :: st) u P := zr_Il k248_13 rfl
theorem k248_14 : xcd 248 14 = oCal 206 3 17 := rfl
theorem r248_14 : zr 248 14 [v0, v1, v2, v3] (.int y3 :: .int y2 :: .ref b1 :: st) u P = (xcat st ≤ 8 ∧ zr 206 0 [.ref b1, .int y2, .int y3, .null] [] u (fun r u2 => zr 248 17 [v0, v1, v2, v3] (r.toList ++ st) u2 P)) := zr_CS k248_14 (Nat.le_add_left _ _) rfl rfl ⟨Nat.le_of_ble_eq_true rfl, Nat.succ_ne_zero _, by decide⟩ rfl
theorem k248_17 : xcd 248 17 = oI (-2) 19 := rfl
theorem r248_17 : zr 248 17 [v0, v1, v2, v3] st u P = zr 248 19 [v0, v1, v2, v3] (.int (-2) :: st) u P := zr_I k248_17
theorem k248_19 : xcd 248 19 = oCmp (fun x y => decide (x = y)) 32 22 := rfl
theorem r248_19 : zr 248 19 [v0, v1, v2, v3] (.int y1 :: .int y2 :: st) u P = (if y2 = y1 then zr 248 32 [v0, v1, v2, v3] st u P else zr 248 22 [v0, v1, v2, v3] st u P) := zr_Cmp k248_19
theorem k248_22 : xcd 248 22 = oAl 0 23 := rfl
theorem r248_22 : zr 248 22 [.ref a0, v1, v2, v3] st u P = zr 248 23 [.ref a0, v1, v2, v3] (.ref a0 :: st) u P := zr_Al k248_22 rfl
theorem k248_23 : xcd 248 23 = oGR 11 3 26 := rfl
theorem r248_23 : zr 248 23 [v0, v1, v2, v3] (.ref b1 :: st) u P = (xIs u b1 11 ∧ ∃ b, xR u b1 3 = some b ∧ zr 248 26 [v0, v1, v2, v3] (.ref b :: st) u P) := zr_GR k248_23
theorem k248_26 : xcd 248 26 = oIl 1 27 := rfl
theorem r248_26 : zr 248 26 [v0, .int x1, v2, v3] st u P = zr 248 27 [v0, .int x1, v2, v3] (.int x1 :: st) u P := zr_Il k248_26 rfl
theorem k248_27 : xcd 248 27 = oIl 3 28 := rfl
theorem r248_27 : zr 248 27 [v0, v1, v2, .int x3] st u P = zr 248 28 [v0, v1, v2, .int x3] (.int x3 :: st) u P := zr_Il k248_27 rfl
theorem k248_28 : xcd 248 28 = oCal 206 3 31 := rfl
theorem r248_28 : zr 248 28 [v0, v1, v2, v3] (.int y3 :: .int y2 :: .ref b1 :: st) u P = (xcat st ≤ 8 ∧ zr 206 0 [.ref b1, .int y2, .int y3, .null] [] u (fun r u2 => zr 248 31 [v0, v1, v2, v3] (r.toList ++ st) u2 P)) := zr_CS k248_28 (Nat.le_add_left _ _) rfl rfl ⟨Nat.le_of_ble_eq_true rfl, Nat.succ_ne_zero _, by decide⟩ rfl
theorem k248_31 : xcd 248 31 = oRi 0 := rfl
theorem r248_31 : zr 248 31 [v0, v1, v2, v3] [.int y1] u P = P (some (.int y1)) u := zr_Ri k248_31
theorem k248_32 : xcd 248 32 = oAl 0 33 := rfl
theorem r248_32 : zr 248 32 [.ref a0, v1, v2, v3] st u P = zr 248 33 [.ref a0, v1, v2, v3] (.ref a0 :: st) u P := zr_Al k248_32 rfl
theorem k248_33 : xcd 248 33 = oGR 11 3 36 := rfl
theorem r248_33 : zr 248 33 [v0, v1, v2, v3] (.ref b1 :: st) u P = (xIs u b1 11 ∧ ∃ b, xR u b1 3 = some b ∧ zr 248 36 [v0, v1, v2, v3] (.ref b :: st) u P) := zr_GR k248_33
theorem k248_36 : xcd 248 36 = oI 8 38 := rfl
theorem r248_36 : zr 248 36 [v0, v1, v2, v3] st u P = zr 248 38 [v0, v1, v2, v3] (.int 8 :: st) u P := zr_I k248_36
theorem k248_38 : xcd 248 38 = oIl 3 39 := rfl
theorem r248_38 : zr 248 38 [v0, v1, v2, .int x3] st u P = zr 248 39 [v0, v1, v2, .int x3] (.int x3 :: st) u P := zr_Il k248_38 rfl
theorem k248_39 : xcd 248 39 = oB (fun x y => x + y) 40 := rfl
theorem r248_39 : zr 248 39 [v0, v1, v2, v3] (.int y1 :: .int y2 :: st) u P = zr 248 40 [v0, v1, v2, v3] (.int (y2 + y1) :: st) u P := zr_B k248_39
theorem k248_40 : xcd 248 40 = oLd 13 41 := rfl
theorem r248_40 : zr 248 40 [v0, v1, v2, v3] (.int y1 :: .ref b1 :: st) u P = ((xIs u b1 13 ∧ xinb y1 (xN u b1)) ∧ zr 248 41 [v0, v1, v2, v3] (.int (xI u b1 (xix y1)) :: st) u P) := zr_Ld k248_40
theorem k248_41 : xcd 248 41 = oIs 3 42 := rfl
theorem r248_41 : zr 248 41 [v0, v1, .int x2, v3] (.int y1 :: st) u P = zr 248 42 [v0, v1, .int x2, .int y1] st u P := zr_Is k248_41 ⟨Nat.le_of_ble_eq_true rfl, rfl⟩
theorem k248_42 : xcd 248 42 = oGoto 2 := rfl
theorem r248_42 : zr 248 42 [v0, v1, v2, v3] st u P = zr 248 2 [v0, v1, v2, v3] st u P := zr_Goto k248_42
theorem k248_45 : xcd 248 45 = oI (-2) 47 := rfl
theorem r248_45 : zr 248 45 [v0, v1, v2, v3] st u P = zr 248 47 [v0, v1, v2, v3] (.int (-2) :: st) u P := zr_I k248_45
theorem k248_47 : xcd 248 47 = oRi 0 := rfl
theorem r248_47 : zr 248 47 [v0, v1, v2, v3] [.int y1] u P = P (some (.int y1)) u := zr_Ri k248_47
theorem k249_0 : xcd 249 0 = oAl 0 1 := rfl
theorem r249_0 : zr 249 0 [.ref a0, v1, v2, v3, v4] st u P = zr 249 1 [.ref a0, v1, v2, v3, v4] (.ref a0 :: st) u P := zr_Al k249_0 rfl
theorem k249_1 : xcd 249 1 = oI 0 2 := rfl
theorem r249_1 : zr 249 1 [v0, v1, v2, v3, v4] st u P = zr 249 2 [v0, v1, v2, v3, v4] (.int 0 :: st) u P := zr_I k249_1
theorem k249_2 : xcd 249 2 = oPI 11 0 5 := rfl
theorem r249_2 : zr 249 2 [v0, v1, v2, v3, v4] (.int y1 :: .ref b1 :: st) u P = (xIs u b1 11 ∧ zr 249 5 [v0, v1, v2, v3, v4] st (xsI u b1 0 y1) P) := zr_PI k249_2
theorem k249_5 : xcd 249 5 = oAl 0 6 := rfl
theorem r249_5 : zr 249 5 [.ref a0, v1, v2, v3, v4] st u P = zr 249 6 [.ref a0, v1, v2, v3, v4] (.ref a0 :: st) u P := zr_Al k249_5 rfl
theorem k249_6 : xcd 249 6 = oAl 0 7 := rfl
theorem r249_6 : zr 249 6 [.ref a0, v1, v2, v3, v4] st u P = zr 249 7 [.ref a0, v1, v2, v3, v4] (.ref a0 :: st) u P := zr_Al k249_6 rfl
theorem k249_7 : xcd 249 7 = oIl 1 8 := rfl
theorem r249_7 : zr 249 7 [v0, .int x1, v2, v3, v4] st u P = zr 249 8 [v0, .int x1, v2, v3, v4] (.int x1 :: st) u P := zr_Il k249_7 rfl
theorem k249_8 : xcd 249 8 = oCalV 11 214 1 11 := rfl
theorem r249_8 : zr 249 8 [v0, v1, v2, v3, v4] (.int y1 :: .ref b8 :: st) u P = ((xIs u b8 11 ∧ xcat st ≤ 8) ∧ zr 214 0 [.ref b8, .int y1] [] u (fun r u2 => zr 249 11 [v0, v1, v2, v3, v4] (r.toList ++ st) u2 P)) := zr_CV k249_8 rfl rfl rfl ⟨Nat.le_of_ble_eq_true rfl, Nat.succ_ne_zero _, by decide⟩ rfl
theorem k249_11 : xcd 249 11 = oIf (fun x => decide (x = 0)) 26 14 := rfl
theorem r249_11 : zr 249 11 [v0, v1, v2, v3, v4] (.int y1 :: st) u P = (if y1 = 0 then zr 249 26 [v0, v1, v2, v3, v4] st u P else zr 249 14 [v0, v1, v2, v3, v4] st u P) := zr_If k249_11
theorem k249_14 : xcd 249 14 = oAl 0 15 := rfl
theorem r249_14 : zr 249 14 [.ref a0, v1, v2, v3, v4] st u P = zr 249 15 [.ref a0, v1, v2, v3, v4] (.ref a0 :: st) u P := zr_Al k249_14 rfl
theorem k249_15 : xcd 249 15 = oIl 2 16 := rfl
theorem r249_15 : zr 249 15 [v0, v1, .int x2, v3, v4] st u P = zr 249 16 [v0, v1, .int x2, v3, v4] (.int x2 :: st) u P := zr_Il k249_15 rfl
theorem k249_16 : xcd 249 16 = oCalV 11 213 1 19 := rfl
theorem r249_16 : zr 249 16 [v0, v1, v2, v3, v4] (.int y1 :: .ref b8 :: st) u P = ((xIs u b8 11 ∧ xcat st ≤ 8) ∧ zr 213 0 [.ref b8, .int y1] [] u (fun r u2 => zr 249 19 [v0, v1, v2, v3, v4] (r.toList ++ st) u2 P)) := zr_CV k249_16 rfl rfl rfl ⟨Nat.le_of_ble_eq_true rfl, Nat.succ_ne_zero _, by decide⟩ rfl
theorem k249_19 : xcd 249 19 = oIf (fun x => decide (x = 0)) 26 22 := rfl
theorem r249_19 : zr 249 19 [v0, v1, v2, v3, v4] (.int y1 :: st) u P = (if y1 = 0 then zr 249 26 [v0, v1, v2, v3, v4] st u P else zr 249 22 [v0, v1, v2, v3, v4] st u P) := zr_If k249_19
theorem k249_22 : xcd 249 22 = oI 1 23 := rfl
theorem r249_22 : zr 249 22 [v0, v1, v2, v3, v4] st u P = zr 249 23 [v0, v1, v2, v3, v4] (.int 1 :: st) u P := zr_I k249_22
theorem k249_23 : xcd 249 23 = oGoto 27 := rfl
theorem r249_23 : zr 249 23 [v0, v1, v2, v3, v4] st u P = zr 249 27 [v0, v1, v2, v3, v4] st u P := zr_Goto k249_23
theorem k249_26 : xcd 249 26 = oI 0 27 := rfl
theorem r249_26 : zr 249 26 [v0, v1, v2, v3, v4] st u P = zr 249 27 [v0, v1, v2, v3, v4] (.int 0 :: st) u P := zr_I k249_26
theorem k249_27 : xcd 249 27 = oIl 3 28 := rfl
theorem r249_27 : zr 249 27 [v0, v1, v2, .int x3, v4] st u P = zr 249 28 [v0, v1, v2, .int x3, v4] (.int x3 :: st) u P := zr_Il k249_27 rfl
theorem k249_28 : xcd 249 28 = oCalV 11 224 2 31 := rfl
theorem r249_28 : zr 249 28 [v0, v1, v2, v3, v4] (.int y2 :: .int y1 :: .ref b8 :: st) u P = ((xIs u b8 11 ∧ xcat st ≤ 8) ∧ zr 224 0 [.ref b8, .int y1, .int y2] [] u (fun r u2 => zr 249 31 [v0, v1, v2, v3, v4] (r.toList ++ st) u2 P)) := zr_CV k249_28 rfl rfl rfl ⟨Nat.le_of_ble_eq_true rfl, Nat.succ_ne_zero _, by decide⟩ rfl
theorem k249_31 : xcd 249 31 = oIs 4 33 := rfl
theorem r249_31 : zr 249 31 [v0, v1, v2, .int x3, v4] (.int y1 :: st) u P = zr 249 33 [v0, v1, v2, .int x3, .int y1] st u P := zr_Is k249_31 ⟨Nat.le_of_ble_eq_true rfl, rfl⟩
theorem k249_33 : xcd 249 33 = oIl 4 35 := rfl
theorem r249_33 : zr 249 33 [v0, v1, v2, v3, .int x4] st u P = zr 249 35 [v0, v1, v2, v3, .int x4] (.int x4 :: st) u P := zr_Il k249_33 rfl
theorem k249_35 : xcd 249 35 = oIf (fun x => decide (x ≤ 0)) 47 38 := rfl
theorem r249_35 : zr 249 35 [v0, v1, v2, v3, v4] (.int y1 :: st) u P = (if y1 ≤ 0 then zr 249 47 [v0, v1, v2, v3, v4] st u P else zr 249 38 [v0, v1, v2, v3, v4] st u P) := zr_If k249_35
theorem k249_38 : xcd 249 38 = oAl 0 39 := rfl
theorem r249_38 : zr 249 38 [.ref a0, v1, v2, v3, v4] st u P = zr 249 39 [.ref a0, v1, v2, v3, v4] (.ref a0 :: st) u P := zr_Al k249_38 rfl
theorem k249_39 : xcd 249 39 = oIl 4 41 := rfl
theorem r249_39 : zr 249 39 [v0, v1, v2, v3, .int x4] st u P = zr 249 41 [v0, v1, v2, v3, .int x4] (.int x4 :: st) u P := zr_Il k249_39 rfl
theorem k249_41 : xcd 249 41 = oCalV 11 172 1 44 := rfl
theorem r249_41 : zr 249 41 [v0, v1, v2, v3, v4] (.int y1 :: .ref b8 :: st) u P = ((xIs u b8 11 ∧ xcat st ≤ 8) ∧ zr 172 0 [.ref b8, .int y1] [] u (fun r u2 => zr 249 44 [v0, v1, v2, v3, v4] (r.toList ++ st) u2 P)) := zr_CV k249_41 rfl rfl rfl ⟨Nat.le_of_ble_eq_true rfl, Nat.succ_ne_zero _, by decide⟩ rfl
theorem k249_44 : xcd 249 44 = oGoto 58 := rfl
theorem r249_44 : zr 249 44 [v0, v1, v2, v3, v4] st u P = zr 249 58 [v0, v1, v2, v3, v4] st u P := zr_Goto k249_44
theorem k249_47 : xcd 249 47 = oAl 0 48 := rfl
theorem r249_47 : zr 249 47 [.ref a0, v1, v2, v3, v4] st u P = zr 249 48 [.ref a0, v1, v2, v3, v4] (.ref a0 :: st) u P := zr_Al k249_47 rfl
theorem k249_48 : xcd 249 48 = oAl 0 49 := rfl
theorem r249_48 : zr 249 48 [.ref a0, v1, v2, v3, v4] st u P = zr 249 49 [.ref a0, v1, v2, v3, v4] (.ref a0 :: st) u P := zr_Al k249_48 rfl
theorem k249_49 : xcd 249 49 = oIl 1 50 := rfl
theorem r249_49 : zr 249 49 [v0, .int x1, v2, v3, v4] st u P = zr 249 50 [v0, .int x1, v2, v3, v4] (.int x1 :: st) u P := zr_Il k249_49 rfl
theorem k249_50 : xcd 249 50 = oIl 2 51 := rfl
theorem r249_50 : zr 249 50 [v0, v1, .int x2, v3, v4] st u P = zr 249 51 [v0, v1, .int x2, v3, v4] (.int x2 :: st) u P := zr_Il k249_50 rfl
theorem k249_51 : xcd 249 51 = oIl 3 52 := rfl
theorem r249_51 : zr 249 51 [v0, v1, v2, .int x3, v4] st u P = zr 249 52 [v0, v1, v2, .int x3, v4] (.int x3 :: st) u P := zr_Il k249_51 rfl
theorem k249_52 : xcd 249 52 = oCalV 11 245 3 55 := rfl
theorem r249_52 : zr 249 52 [v0, v1, v2, v3, v4] (.int y3 :: .int y2 :: .int y1 :: .ref b8 :: st) u P = ((xIs u b8 11 ∧ xcat st ≤ 8) ∧ zr 245 0 [.ref b8, .int y1, .int y2, .int y3, .null] [] u (fun r u2 => zr 249 55 [v0, v1, v2, v3, v4] (r.toList ++ st) u2 P)) := zr_CV k249_52 rfl rfl rfl ⟨Nat.le_of_ble_eq_true rfl, Nat.succ_ne_zero _, by decide⟩ rfl
theorem k249_55 : xcd 249 55 = oCalV 11 174 1 58 := rfl
theorem r249_55 : zr 249 55 [v0, v1, v2, v3, v4] (.int y1 :: .ref b8 :: st) u P = ((xIs u b8 11 ∧ xcat st ≤ 8) ∧ zr 174 0 [.ref b8, .int y1] [] u (fun r u2 => zr 249 58 [v0, v1, v2, v3, v4] (r.toList ++ st) u2 P)) := zr_CV k249_55 rfl rfl rfl ⟨Nat.le_of_ble_eq_true rfl, Nat.succ_ne_zero _, by decide⟩ rfl
theorem k249_58 : xcd 249 58 = oRi 0 := rfl
theorem r249_58 : zr 249 58 [v0, v1, v2, v3, v4] [.int y1] u P = P (some (.int y1)) u := zr_Ri k249_58
end
