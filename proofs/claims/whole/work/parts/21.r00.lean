/-! rows of X10_idle, X0_keep, X0_forgetFirst, X1_empty, X1_unitsLeft, X1_mentions, X1_taxesOf, X1_gatherEntries, X1_latestFiling, X1_countFiled, X1_paidBy, X1_unpaid, X1_addFiling, X1_dropFiling, X2_latest, X2_nextFree, X2_countOf, X2_cornersOn, X2_nextOf, X2_nextOfAll, X2_twiceArea, X2_holds, X2_isEast, X2_touches, X2_isOn, X2_staysWithin, X2_putCorner, X2_add, X2_addMoved, X3_begin, X3_tells, X3_nextChange, X3_lookAt, X3_ratesOver, X3_cheapestPoint, X3_assess, X4_begin, X4_add, X4_look, X4_firstWith, X4_pile -/
section
variable {u : xMem} {P : Option Value → xMem → Prop} {st : List Value} {v0 v1 v2 v3 v4 v5 v6 v7 v8 v9 v10 v11 v12 v13 v14 v15 : Value} {x0 x1 x2 x3 x4 x5 x6 x7 x8 x9 x10 x11 x12 x13 x14 x15 : Int32} {a0 a1 a2 a3 a4 a5 a6 a7 a8 a9 a10 a11 a12 a13 a14 a15 : Nat} {j0 j1 j2 j3 j4 j5 j6 j7 j8 j9 j10 j11 j12 j13 j14 j15 : Int64} {y1 y2 y3 y4 y5 y6 y7 y8 : Int32} {b1 b2 b3 b4 b5 b6 b7 b8 : Nat} {w1 w2 w3 w4 : Int64}
theorem k2_0 : xcd 2 0 = oIl 1 1 := rfl
theorem r2_0 : zr 2 0 [v0, .int x1, v2, v3] st u P = zr 2 1 [v0, .int x1, v2, v3] (.int x1 :: st) u P := zr_Il k2_0 rfl
theorem k2_1 : xcd 2 1 = oIs 2 2 := rfl
theorem r2_1 : zr 2 1 [v0, .int x1, v2, v3] (.int y1 :: st) u P = zr 2 2 [v0, .int x1, .int y1, v3] st u P := zr_Is k2_1 ⟨Nat.le_of_ble_eq_true rfl, rfl⟩
theorem k2_2 : xcd 2 2 = oI 0 3 := rfl
theorem r2_2 : zr 2 2 [v0, v1, v2, v3] st u P = zr 2 3 [v0, v1, v2, v3] (.int 0 :: st) u P := zr_I k2_2
theorem k2_3 : xcd 2 3 = oIs 3 4 := rfl
theorem r2_3 : zr 2 3 [v0, v1, .int x2, v3] (.int y1 :: st) u P = zr 2 4 [v0, v1, .int x2, .int y1] st u P := zr_Is k2_3 ⟨Nat.le_of_ble_eq_true rfl, rfl⟩
theorem k2_4 : xcd 2 4 = oAl 0 5 := rfl
theorem r2_4 : zr 2 4 [.ref a0, v1, v2, v3] st u P = zr 2 5 [.ref a0, v1, v2, v3] (.ref a0 :: st) u P := zr_Al k2_4 rfl
theorem k2_5 : xcd 2 5 = oGI 10 2 8 := rfl
theorem r2_5 : zr 2 5 [v0, v1, v2, v3] (.ref b1 :: st) u P = (xIs u b1 10 ∧ zr 2 8 [v0, v1, v2, v3] (.int (xI u b1 2) :: st) u P) := zr_GI k2_5
theorem k2_8 : xcd 2 8 = oIf (fun x => decide (x = 0)) 51 11 := rfl
theorem r2_8 : zr 2 8 [v0, v1, v2, v3] (.int y1 :: st) u P = (if y1 = 0 then zr 2 51 [v0, v1, v2, v3] st u P else zr 2 11 [v0, v1, v2, v3] st u P) := zr_If k2_8
theorem k2_11 : xcd 2 11 = oIl 3 12 := rfl
theorem r2_11 : zr 2 11 [v0, v1, v2, .int x3] st u P = zr 2 12 [v0, v1, v2, .int x3] (.int x3 :: st) u P := zr_Il k2_11 rfl
theorem k2_12 : xcd 2 12 = oAl 0 13 := rfl
theorem r2_12 : zr 2 12 [.ref a0, v1, v2, v3] st u P = zr 2 13 [.ref a0, v1, v2, v3] (.ref a0 :: st) u P := zr_Al k2_12 rfl
theorem k2_13 : xcd 2 13 = oGR 10 1 16 := rfl
theorem r2_13 : zr 2 13 [v0, v1, v2, v3] (.ref b1 :: st) u P = (xIs u b1 10 ∧ ∃ b, xR u b1 1 = some b ∧ zr 2 16 [v0, v1, v2, v3] (.ref b :: st) u P) := zr_GR k2_13
theorem k2_16 : xcd 2 16 = oGR 3 0 19 := rfl
theorem r2_16 : zr 2 16 [v0, v1, v2, v3] (.ref b1 :: st) u P = (xIs u b1 3 ∧ ∃ b, xR u b1 0 = some b ∧ zr 2 19 [v0, v1, v2, v3] (.ref b :: st) u P) := zr_GR k2_16
theorem k2_19 : xcd 2 19 = oGI 4 2 22 := rfl
theorem r2_19 : zr 2 19 [v0, v1, v2, v3] (.ref b1 :: st) u P = (xIs u b1 4 ∧ zr 2 22 [v0, v1, v2, v3] (.int (xI u b1 2) :: st) u P) := zr_GI k2_19
theorem k2_22 : xcd 2 22 = oCmp (fun x y => decide (y ≤ x)) 51 25 := rfl
theorem r2_22 : zr 2 22 [v0, v1, v2, v3] (.int y1 :: .int y2 :: st) u P = (if y1 ≤ y2 then zr 2 51 [v0, v1, v2, v3] st u P else zr 2 25 [v0, v1, v2, v3] st u P) := zr_Cmp k2_22
theorem k2_25 : xcd 2 25 = oAl 0 26 := rfl
theorem r2_25 : zr 2 25 [.ref a0, v1, v2, v3] st u P = zr 2 26 [.ref a0, v1, v2, v3] (.ref a0 :: st) u P := zr_Al k2_25 rfl
theorem k2_26 : xcd 2 26 = oGR 10 3 29 := rfl
theorem r2_26 : zr 2 26 [v0, v1, v2, v3] (.ref b1 :: st) u P = (xIs u b1 10 ∧ ∃ b, xR u b1 3 = some b ∧ zr 2 29 [v0, v1, v2, v3] (.ref b :: st) u P) := zr_GR k2_26
theorem k2_29 : xcd 2 29 = oIl 3 30 := rfl
theorem r2_29 : zr 2 29 [v0, v1, v2, .int x3] st u P = zr 2 30 [v0, v1, v2, .int x3] (.int x3 :: st) u P := zr_Il k2_29 rfl
theorem k2_30 : xcd 2 30 = oCalV 1 9 1 33 := rfl
theorem r2_30 : zr 2 30 [v0, v1, v2, v3] (.int y1 :: .ref b8 :: st) u P = ((xIs u b8 1 ∧ xcat st ≤ 8) ∧ zr 9 0 [.ref b8, .int y1, .null] [] u (fun r u2 => zr 2 33 [v0, v1, v2, v3] (r.toList ++ st) u2 P)) := zr_CV k2_30 rfl rfl rfl ⟨Nat.le_of_ble_eq_true rfl, Nat.succ_ne_zero _, by decide⟩ rfl
theorem k2_33 : xcd 2 33 = oIf (fun x => decide (¬ x = 0)) 45 36 := rfl
theorem r2_33 : zr 2 33 [v0, v1, v2, v3] (.int y1 :: st) u P = (if ¬ y1 = 0 then zr 2 45 [v0, v1, v2, v3] st u P else zr 2 36 [v0, v1, v2, v3] st u P) := zr_If k2_33
theorem k2_36 : xcd 2 36 = oIl 2 37 := rfl
theorem r2_36 : zr 2 36 [v0, v1, .int x2, v3] st u P = zr 2 37 [v0, v1, .int x2, v3] (.int x2 :: st) u P := zr_Il k2_36 rfl
theorem k2_37 : xcd 2 37 = oIf (fun x => decide (¬ x = 0)) 42 40 := rfl
theorem r2_37 : zr 2 37 [v0, v1, v2, v3] (.int y1 :: st) u P = (if ¬ y1 = 0 then zr 2 42 [v0, v1, v2, v3] st u P else zr 2 40 [v0, v1, v2, v3] st u P) := zr_If k2_37
theorem k2_40 : xcd 2 40 = oIl 3 41 := rfl
theorem r2_40 : zr 2 40 [v0, v1, v2, .int x3] st u P = zr 2 41 [v0, v1, v2, .int x3] (.int x3 :: st) u P := zr_Il k2_40 rfl
theorem k2_41 : xcd 2 41 = oRi 0 := rfl
theorem r2_41 : zr 2 41 [v0, v1, v2, v3] [.int y1] u P = P (some (.int y1)) u := zr_Ri k2_41
theorem k2_42 : xcd 2 42 = oInc 2 (-1) 45 := rfl
theorem r2_42 : zr 2 42 [v0, .int x1, .int x2, v3] st u P = zr 2 45 [v0, .int x1, .int (x2 + (-1)), v3] st u P := zr_Inc k2_42 rfl rfl
theorem k2_45 : xcd 2 45 = oInc 3 1 48 := rfl
theorem r2_45 : zr 2 45 [v0, v1, .int x2, .int x3] st u P = zr 2 48 [v0, v1, .int x2, .int (x3 + 1)] st u P := zr_Inc k2_45 rfl rfl
theorem k2_48 : xcd 2 48 = oGoto 4 := rfl
theorem r2_48 : zr 2 48 [v0, v1, v2, v3] st u P = zr 2 4 [v0, v1, v2, v3] st u P := zr_Goto k2_48
theorem k2_51 : xcd 2 51 = oThr := rfl
theorem r2_51 : zr 2 51 [v0, v1, v2, v3] [] u P = P (some (.retAddr 0)) u := zr_Thr k2_51
theorem k4_0 : xcd 4 0 = oAl 0 1 := rfl
theorem r4_0 : zr 4 0 [.ref a0, v1, v2, v3] st u P = zr 4 1 [.ref a0, v1, v2, v3] (.ref a0 :: st) u P := zr_Al k4_0 rfl
theorem k4_1 : xcd 4 1 = oGI 0 0 4 := rfl
theorem r4_1 : zr 4 1 [v0, v1, v2, v3] (.ref b1 :: st) u P = (xIs u b1 0 ∧ zr 4 4 [v0, v1, v2, v3] (.int (xI u b1 0) :: st) u P) := zr_GI k4_1
theorem k4_4 : xcd 4 4 = oI 8 6 := rfl
theorem r4_4 : zr 4 4 [v0, v1, v2, v3] st u P = zr 4 6 [v0, v1, v2, v3] (.int 8 :: st) u P := zr_I k4_4
theorem k4_6 : xcd 4 6 = oCmp (fun x y => decide (¬ x = y)) 13 9 := rfl
theorem r4_6 : zr 4 6 [v0, v1, v2, v3] (.int y1 :: .int y2 :: st) u P = (if ¬ y2 = y1 then zr 4 13 [v0, v1, v2, v3] st u P else zr 4 9 [v0, v1, v2, v3] st u P) := zr_Cmp k4_6
theorem k4_9 : xcd 4 9 = oAl 0 10 := rfl
theorem r4_9 : zr 4 9 [.ref a0, v1, v2, v3] st u P = zr 4 10 [.ref a0, v1, v2, v3] (.ref a0 :: st) u P := zr_Al k4_9 rfl
theorem k4_10 : xcd 4 10 = oCalV 0 5 0 13 := rfl
theorem r4_10 : zr 4 10 [v0, v1, v2, v3] (.ref b8 :: st) u P = ((xIs u b8 0 ∧ xcat st ≤ 8) ∧ zr 5 0 [.ref b8, .null] [] u (fun r u2 => zr 4 13 [v0, v1, v2, v3] (r.toList ++ st) u2 P)) := zr_CV k4_10 rfl rfl rfl ⟨Nat.le_of_ble_eq_true rfl, Nat.succ_ne_zero _, by decide⟩ rfl
theorem k4_13 : xcd 4 13 = oAl 0 14 := rfl
theorem r4_13 : zr 4 13 [.ref a0, v1, v2, v3] st u P = zr 4 14 [.ref a0, v1, v2, v3] (.ref a0 :: st) u P := zr_Al k4_13 rfl
theorem k4_14 : xcd 4 14 = oGR 0 1 17 := rfl
theorem r4_14 : zr 4 14 [v0, v1, v2, v3] (.ref b1 :: st) u P = (xIs u b1 0 ∧ ∃ b, xR u b1 1 = some b ∧ zr 4 17 [v0, v1, v2, v3] (.ref b :: st) u P) := zr_GR k4_14
theorem k4_17 : xcd 4 17 = oAl 0 18 := rfl
theorem r4_17 : zr 4 17 [.ref a0, v1, v2, v3] st u P = zr 4 18 [.ref a0, v1, v2, v3] (.ref a0 :: st) u P := zr_Al k4_17 rfl
theorem k4_18 : xcd 4 18 = oGI 0 0 21 := rfl
theorem r4_18 : zr 4 18 [v0, v1, v2, v3] (.ref b1 :: st) u P = (xIs u b1 0 ∧ zr 4 21 [v0, v1, v2, v3] (.int (xI u b1 0) :: st) u P) := zr_GI k4_18
theorem k4_21 : xcd 4 21 = oIl 1 22 := rfl
theorem r4_21 : zr 4 21 [v0, .int x1, v2, v3] st u P = zr 4 22 [v0, .int x1, v2, v3] (.int x1 :: st) u P := zr_Il k4_21 rfl
theorem k4_22 : xcd 4 22 = oSt 13 (fun x => x) 23 := rfl
theorem r4_22 : zr 4 22 [v0, v1, v2, v3] (.int y2 :: .int y1 :: .ref b1 :: st) u P = ((xIs u b1 13 ∧ xinb y1 (xN u b1)) ∧ zr 4 23 [v0, v1, v2, v3] st (xsI u b1 (xix y1) y2) P) := zr_St k4_22
theorem k4_23 : xcd 4 23 = oAl 0 24 := rfl
theorem r4_23 : zr 4 23 [.ref a0, v1, v2, v3] st u P = zr 4 24 [.ref a0, v1, v2, v3] (.ref a0 :: st) u P := zr_Al k4_23 rfl
theorem k4_24 : xcd 4 24 = oGR 0 2 27 := rfl
theorem r4_24 : zr 4 24 [v0, v1, v2, v3] (.ref b1 :: st) u P = (xIs u b1 0 ∧ ∃ b, xR u b1 2 = some b ∧ zr 4 27 [v0, v1, v2, v3] (.ref b :: st) u P) := zr_GR k4_24
theorem k4_27 : xcd 4 27 = oAl 0 28 := rfl
theorem r4_27 : zr 4 27 [.ref a0, v1, v2, v3] st u P = zr 4 28 [.ref a0, v1, v2, v3] (.ref a0 :: st) u P := zr_Al k4_27 rfl
theorem k4_28 : xcd 4 28 = oGI 0 0 31 := rfl
theorem r4_28 : zr 4 28 [v0, v1, v2, v3] (.ref b1 :: st) u P = (xIs u b1 0 ∧ zr 4 31 [v0, v1, v2, v3] (.int (xI u b1 0) :: st) u P) := zr_GI k4_28
theorem k4_31 : xcd 4 31 = oIl 2 32 := rfl
theorem r4_31 : zr 4 31 [v0, v1, .int x2, v3] st u P = zr 4 32 [v0, v1, .int x2, v3] (.int x2 :: st) u P := zr_Il k4_31 rfl
theorem k4_32 : xcd 4 32 = oSt 13 (fun x => x) 33 := rfl
theorem r4_32 : zr 4 32 [v0, v1, v2, v3] (.int y2 :: .int y1 :: .ref b1 :: st) u P = ((xIs u b1 13 ∧ xinb y1 (xN u b1)) ∧ zr 4 33 [v0, v1, v2, v3] st (xsI u b1 (xix y1) y2) P) := zr_St k4_32
theorem k4_33 : xcd 4 33 = oAl 0 34 := rfl
theorem r4_33 : zr 4 33 [.ref a0, v1, v2, v3] st u P = zr 4 34 [.ref a0, v1, v2, v3] (.ref a0 :: st) u P := zr_Al k4_33 rfl
theorem k4_34 : xcd 4 34 = oGR 0 3 37 := rfl
theorem r4_34 : zr 4 34 [v0, v1, v2, v3] (.ref b1 :: st) u P = (xIs u b1 0 ∧ ∃ b, xR u b1 3 = some b ∧ zr 4 37 [v0, v1, v2, v3] (.ref b :: st) u P) := zr_GR k4_34
theorem k4_37 : xcd 4 37 = oAl 0 38 := rfl
theorem r4_37 : zr 4 37 [.ref a0, v1, v2, v3] st u P = zr 4 38 [.ref a0, v1, v2, v3] (.ref a0 :: st) u P := zr_Al k4_37 rfl
theorem k4_38 : xcd 4 38 = oGI 0 0 41 := rfl
theorem r4_38 : zr 4 38 [v0, v1, v2, v3] (.ref b1 :: st) u P = (xIs u b1 0 ∧ zr 4 41 [v0, v1, v2, v3] (.int (xI u b1 0) :: st) u P) := zr_GI k4_38
theorem k4_41 : xcd 4 41 = oIl 3 42 := rfl
theorem r4_41 : zr 4 41 [v0, v1, v2, .int x3] st u P = zr 4 42 [v0, v1, v2, .int x3] (.int x3 :: st) u P := zr_Il k4_41 rfl
theorem k4_42 : xcd 4 42 = oSt 13 (fun x => x) 43 := rfl
theorem r4_42 : zr 4 42 [v0, v1, v2, v3] (.int y2 :: .int y1 :: .ref b1 :: st) u P = ((xIs u b1 13 ∧ xinb y1 (xN u b1)) ∧ zr 4 43 [v0, v1, v2, v3] st (xsI u b1 (xix y1) y2) P) := zr_St k4_42
theorem k4_43 : xcd 4 43 = oAl 0 44 := rfl
theorem r4_43 : zr 4 43 [.ref a0, v1, v2, v3] st u P = zr 4 44 [.ref a0, v1, v2, v3] (.ref a0 :: st) u P := zr_Al k4_43 rfl
theorem k4_44 : xcd 4 44 = oDup 45 := rfl
theorem r4_44 : zr 4 44 [v0, v1, v2, v3] (.ref b1 :: st) u P = zr 4 45 [v0, v1, v2, v3] (.ref b1 :: .ref b1 :: st) u P := zr_DupA k4_44
theorem k4_45 : xcd 4 45 = oGI 0 0 48 := rfl
theorem r4_45 : zr 4 45 [v0, v1, v2, v3] (.ref b1 :: st) u P = (xIs u b1 0 ∧ zr 4 48 [v0, v1, v2, v3] (.int (xI u b1 0) :: st) u P) := zr_GI k4_45
theorem k4_48 : xcd 4 48 = oI 1 49 := rfl
theorem r4_48 : zr 4 48 [v0, v1, v2, v3] st u P = zr 4 49 [v0, v1, v2, v3] (.int 1 :: st) u P := zr_I k4_48
theorem k4_49 : xcd 4 49 = oB (fun x y => x + y) 50 := rfl
theorem r4_49 : zr 4 49 [v0, v1, v2, v3] (.int y1 :: .int y2 :: st) u P = zr 4 50 [v0, v1, v2, v3] (.int (y2 + y1) :: st) u P := zr_B k4_49
theorem k4_50 : xcd 4 50 = oPI 0 0 53 := rfl
theorem r4_50 : zr 4 50 [v0, v1, v2, v3] (.int y1 :: .ref b1 :: st) u P = (xIs u b1 0 ∧ zr 4 53 [v0, v1, v2, v3] st (xsI u b1 0 y1) P) := zr_PI k4_50
theorem k4_53 : xcd 4 53 = oRv 0 := rfl
theorem r4_53 : zr 4 53 [v0, v1, v2, v3] [] u P = P none u := zr_Rv k4_53
theorem k5_0 : xcd 5 0 = oAl 0 1 := rfl
theorem r5_0 : zr 5 0 [.ref a0, v1] st u P = zr 5 1 [.ref a0, v1] (.ref a0 :: st) u P := zr_Al k5_0 rfl
theorem k5_1 : xcd 5 1 = oDup 2 := rfl
theorem r5_1 : zr 5 1 [v0, v1] (.ref b1 :: st) u P = zr 5 2 [v0, v1] (.ref b1 :: .ref b1 :: st) u P := zr_DupA k5_1
theorem k5_2 : xcd 5 2 = oGI 0 0 5 := rfl
theorem r5_2 : zr 5 2 [v0, v1] (.ref b1 :: st) u P = (xIs u b1 0 ∧ zr 5 5 [v0, v1] (.int (xI u b1 0) :: st) u P) := zr_GI k5_2
theorem k5_5 : xcd 5 5 = oI 1 6 := rfl
theorem r5_5 : zr 5 5 [v0, v1] st u P = zr 5 6 [v0, v1] (.int 1 :: st) u P := zr_I k5_5
theorem k5_6 : xcd 5 6 = oB (fun x y => x - y) 7 := rfl
theorem r5_6 : zr 5 6 [v0, v1] (.int y1 :: .int y2 :: st) u P = zr 5 7 [v0, v1] (.int (y2 - y1) :: st) u P := zr_B k5_6
theorem k5_7 : xcd 5 7 = oPI 0 0 10 := rfl
theorem r5_7 : zr 5 7 [v0, v1] (.int y1 :: .ref b1 :: st) u P = (xIs u b1 0 ∧ zr 5 10 [v0, v1] st (xsI u b1 0 y1) P) := zr_PI k5_7
theorem k5_10 : xcd 5 10 = oI 0 11 := rfl
theorem r5_10 : zr 5 10 [v0, v1] st u P = zr 5 11 [v0, v1] (.int 0 :: st) u P := zr_I k5_10
theorem k5_11 : xcd 5 11 = oIs 1 12 := rfl
theorem r5_11 : zr 5 11 [.ref a0, v1] (.int y1 :: st) u P = zr 5 12 [.ref a0, .int y1] st u P := zr_Is k5_11 ⟨Nat.le_of_ble_eq_true rfl, rfl⟩
theorem k5_12 : xcd 5 12 = oIl 1 13 := rfl
theorem r5_12 : zr 5 12 [v0, .int x1] st u P = zr 5 13 [v0, .int x1] (.int x1 :: st) u P := zr_Il k5_12 rfl
theorem k5_13 : xcd 5 13 = oAl 0 14 := rfl
theorem r5_13 : zr 5 13 [.ref a0, v1] st u P = zr 5 14 [.ref a0, v1] (.ref a0 :: st) u P := zr_Al k5_13 rfl
theorem k5_14 : xcd 5 14 = oGI 0 0 17 := rfl
theorem r5_14 : zr 5 14 [v0, v1] (.ref b1 :: st) u P = (xIs u b1 0 ∧ zr 5 17 [v0, v1] (.int (xI u b1 0) :: st) u P) := zr_GI k5_14
theorem k5_17 : xcd 5 17 = oCmp (fun x y => decide (y ≤ x)) 68 20 := rfl
theorem r5_17 : zr 5 17 [v0, v1] (.int y1 :: .int y2 :: st) u P = (if y1 ≤ y2 then zr 5 68 [v0, v1] st u P else zr 5 20 [v0, v1] st u P) := zr_Cmp k5_17
theorem k5_20 : xcd 5 20 = oAl 0 21 := rfl
theorem r5_20 : zr 5 20 [.ref a0, v1] st u P = zr 5 21 [.ref a0, v1] (.ref a0 :: st) u P := zr_Al k5_20 rfl
theorem k5_21 : xcd 5 21 = oGR 0 1 24 := rfl
theorem r5_21 : zr 5 21 [v0, v1] (.ref b1 :: st) u P = (xIs u b1 0 ∧ ∃ b, xR u b1 1 = some b ∧ zr 5 24 [v0, v1] (.ref b :: st) u P) := zr_GR k5_21
theorem k5_24 : xcd 5 24 = oIl 1 25 := rfl
theorem r5_24 : zr 5 24 [v0, .int x1] st u P = zr 5 25 [v0, .int x1] (.int x1 :: st) u P := zr_Il k5_24 rfl
theorem k5_25 : xcd 5 25 = oAl 0 26 := rfl
theorem r5_25 : zr 5 25 [.ref a0, v1] st u P = zr 5 26 [.ref a0, v1] (.ref a0 :: st) u P := zr_Al k5_25 rfl
theorem k5_26 : xcd 5 26 = oGR 0 1 29 := rfl
theorem r5_26 : zr 5 26 [v0, v1] (.ref b1 :: st) u P = (xIs u b1 0 ∧ ∃ b, xR u b1 1 = some b ∧ zr 5 29 [v0, v1] (.ref b :: st) u P) := zr_GR k5_26
theorem k5_29 : xcd 5 29 = oIl 1 30 := rfl
theorem r5_29 : zr 5 29 [v0, .int x1] st u P = zr 5 30 [v0, .int x1] (.int x1 :: st) u P := zr_Il k5_29 rfl
theorem k5_30 : xcd 5 30 = oI 1 31 := rfl
theorem r5_30 : zr 5 30 [v0, v1] st u P = zr 5 31 [v0, v1] (.int 1 :: st) u P := zr_I k5_30
theorem k5_31 : xcd 5 31 = oB (fun x y => x + y) 32 := rfl
theorem r5_31 : zr 5 31 [v0, v1] (.int y1 :: .int y2 :: st) u P = zr 5 32 [v0, v1] (.int (y2 + y1) :: st) u P := zr_B k5_31
theorem k5_32 : xcd 5 32 = oLd 13 33 := rfl
theorem r5_32 : zr 5 32 [v0, v1] (.int y1 :: .ref b1 :: st) u P = ((xIs u b1 13 ∧ xinb y1 (xN u b1)) ∧ zr 5 33 [v0, v1] (.int (xI u b1 (xix y1)) :: st) u P) := zr_Ld k5_32
theorem k5_33 : xcd 5 33 = oSt 13 (fun x => x) 34 := rfl
theorem r5_33 : zr 5 33 [v0, v1] (.int y2 :: .int y1 :: .ref b1 :: st) u P = ((xIs u b1 13 ∧ xinb y1 (xN u b1)) ∧ zr 5 34 [v0, v1] st (xsI u b1 (xix y1) y2) P) := zr_St k5_33
theorem k5_34 : xcd 5 34 = oAl 0 35 := rfl
theorem r5_34 : zr 5 34 [.ref a0, v1] st u P = zr 5 35 [.ref a0, v1] (.ref a0 :: st) u P := zr_Al k5_34 rfl
theorem k5_35 : xcd 5 35 = oGR 0 2 38 := rfl
theorem r5_35 : zr 5 35 [v0, v1] (.ref b1 :: st) u P = (xIs u b1 0 ∧ ∃ b, xR u b1 2 = some b ∧ zr 5 38 [v0, v1] (.ref b :: st) u P) := zr_GR k5_35
theorem k5_38 : xcd 5 38 = oIl 1 39 := rfl
theorem r5_38 : zr 5 38 [v0, .int x1] st u P = zr 5 39 [v0, .int x1] (.int x1 :: st) u P := zr_Il k5_38 rfl
theorem k5_39 : xcd 5 39 = oAl 0 40 := rfl
theorem r5_39 : zr 5 39 [.ref a0, v1] st u P = zr 5 40 [.ref a0, v1] (.ref a0 :: st) u P := zr_Al k5_39 rfl
theorem k5_40 : xcd 5 40 = oGR 0 2 43 := rfl
theorem r5_40 : zr 5 40 [v0, v1] (.ref b1 :: st) u P = (xIs u b1 0 ∧ ∃ b, xR u b1 2 = some b ∧ zr 5 43 [v0, v1] (.ref b :: st) u P) := zr_GR k5_40
theorem k5_43 : xcd 5 43 = oIl 1 44 := rfl
theorem r5_43 : zr 5 43 [v0, .int x1] st u P = zr 5 44 [v0, .int x1] (.int x1 :: st) u P := zr_Il k5_43 rfl
theorem k5_44 : xcd 5 44 = oI 1 45 := rfl
theorem r5_44 : zr 5 44 [v0, v1] st u P = zr 5 45 [v0, v1] (.int 1 :: st) u P := zr_I k5_44
theorem k5_45 : xcd 5 45 = oB (fun x y => x + y) 46 := rfl
theorem r5_45 : zr 5 45 [v0, v1] (.int y1 :: .int y2 :: st) u P = zr 5 46 [v0, v1] (.int (y2 + y1) :: st) u P := zr_B k5_45
theorem k5_46 : xcd 5 46 = oLd 13 47 := rfl
theorem r5_46 : zr 5 46 [v0, v1] (.int y1 :: .ref b1 :: st) u P = ((xIs u b1 13 ∧ xinb y1 (xN u b1)) ∧ zr 5 47 [v0, v1] (.int (xI u b1 (xix y1)) :: st) u P) := zr_Ld k5_46
theorem k5_47 : xcd 5 47 = oSt 13 (fun x => x) 48 := rfl
theorem r5_47 : zr 5 47 [v0, v1] (.int y2 :: .int y1 :: .ref b1 :: st) u P = ((xIs u b1 13 ∧ xinb y1 (xN u b1)) ∧ zr 5 48 [v0, v1] st (xsI u b1 (xix y1) y2) P) := zr_St k5_47
theorem k5_48 : xcd 5 48 = oAl 0 49 := rfl
theorem r5_48 : zr 5 48 [.ref a0, v1] st u P = zr 5 49 [.ref a0, v1] (.ref a0 :: st) u P := zr_Al k5_48 rfl
theorem k5_49 : xcd 5 49 = oGR 0 3 52 := rfl
theorem r5_49 : zr 5 49 [v0, v1] (.ref b1 :: st) u P = (xIs u b1 0 ∧ ∃ b, xR u b1 3 = some b ∧ zr 5 52 [v0, v1] (.ref b :: st) u P) := zr_GR k5_49
theorem k5_52 : xcd 5 52 = oIl 1 53 := rfl
theorem r5_52 : zr 5 52 [v0, .int x1] st u P = zr 5 53 [v0, .int x1] (.int x1 :: st) u P := zr_Il k5_52 rfl
theorem k5_53 : xcd 5 53 = oAl 0 54 := rfl
theorem r5_53 : zr 5 53 [.ref a0, v1] st u P = zr 5 54 [.ref a0, v1] (.ref a0 :: st) u P := zr_Al k5_53 rfl
theorem k5_54 : xcd 5 54 = oGR 0 3 57 := rfl
theorem r5_54 : zr 5 54 [v0, v1] (.ref b1 :: st) u P = (xIs u b1 0 ∧ ∃ b, xR u b1 3 = some b ∧ zr 5 57 [v0, v1] (.ref b :: st) u P) := zr_GR k5_54
theorem k5_57 : xcd 5 57 = oIl 1 58 := rfl
theorem r5_57 : zr 5 57 [v0, .int x1] st u P = zr 5 58 [v0, .int x1] (.int x1 :: st) u P := zr_Il k5_57 rfl
theorem k5_58 : xcd 5 58 = oI 1 59 := rfl
theorem r5_58 : zr 5 58 [v0, v1] st u P = zr 5 59 [v0, v1] (.int 1 :: st) u P := zr_I k5_58
theorem k5_59 : xcd 5 59 = oB (fun x y => x + y) 60 := rfl
theorem r5_59 : zr 5 59 [v0, v1] (.int y1 :: .int y2 :: st) u P = zr 5 60 [v0, v1] (.int (y2 + y1) :: st) u P := zr_B k5_59
theorem k5_60 : xcd 5 60 = oLd 13 61 := rfl
theorem r5_60 : zr 5 60 [v0, v1] (.int y1 :: .ref b1 :: st) u P = ((xIs u b1 13 ∧ xinb y1 (xN u b1)) ∧ zr 5 61 [v0, v1] (.int (xI u b1 (xix y1)) :: st) u P) := zr_Ld k5_60
theorem k5_61 : xcd 5 61 = oSt 13 (fun x => x) 62 := rfl
theorem r5_61 : zr 5 61 [v0, v1] (.int y2 :: .int y1 :: .ref b1 :: st) u P = ((xIs u b1 13 ∧ xinb y1 (xN u b1)) ∧ zr 5 62 [v0, v1] st (xsI u b1 (xix y1) y2) P) := zr_St k5_61
theorem k5_62 : xcd 5 62 = oInc 1 1 65 := rfl
theorem r5_62 : zr 5 62 [.ref a0, .int x1] st u P = zr 5 65 [.ref a0, .int (x1 + 1)] st u P := zr_Inc k5_62 rfl rfl
theorem k5_65 : xcd 5 65 = oGoto 12 := rfl
theorem r5_65 : zr 5 65 [v0, v1] st u P = zr 5 12 [v0, v1] st u P := zr_Goto k5_65
theorem k5_68 : xcd 5 68 = oRv 0 := rfl
theorem r5_68 : zr 5 68 [v0, v1] [] u P = P none u := zr_Rv k5_68
theorem k7_0 : xcd 7 0 = oAl 0 1 := rfl
theorem r7_0 : zr 7 0 [.ref a0] st u P = zr 7 1 [.ref a0] (.ref a0 :: st) u P := zr_Al k7_0 rfl
theorem k7_1 : xcd 7 1 = oI 0 2 := rfl
theorem r7_1 : zr 7 1 [v0] st u P = zr 7 2 [v0] (.int 0 :: st) u P := zr_I k7_1
theorem k7_2 : xcd 7 2 = oPI 1 0 5 := rfl
theorem r7_2 : zr 7 2 [v0] (.int y1 :: .ref b1 :: st) u P = (xIs u b1 1 ∧ zr 7 5 [v0] st (xsI u b1 0 y1) P) := zr_PI k7_2
theorem k7_5 : xcd 7 5 = oAl 0 6 := rfl
theorem r7_5 : zr 7 5 [.ref a0] st u P = zr 7 6 [.ref a0] (.ref a0 :: st) u P := zr_Al k7_5 rfl
theorem k7_6 : xcd 7 6 = oI 0 7 := rfl
theorem r7_6 : zr 7 6 [v0] st u P = zr 7 7 [v0] (.int 0 :: st) u P := zr_I k7_6
theorem k7_7 : xcd 7 7 = oPI 1 2 10 := rfl
theorem r7_7 : zr 7 7 [v0] (.int y1 :: .ref b1 :: st) u P = (xIs u b1 1 ∧ zr 7 10 [v0] st (xsI u b1 2 y1) P) := zr_PI k7_7
theorem k7_10 : xcd 7 10 = oRv 0 := rfl
theorem r7_10 : zr 7 10 [v0] [] u P = P none u := zr_Rv k7_10
theorem k8_0 : xcd 8 0 = oI 0 1 := rfl
theorem r8_0 : zr 8 0 [v0, v1, v2] st u P = zr 8 1 [v0, v1, v2] (.int 0 :: st) u P := zr_I k8_0
theorem k8_1 : xcd 8 1 = oIs 1 2 := rfl
theorem r8_1 : zr 8 1 [.ref a0, v1, v2] (.int y1 :: st) u P = zr 8 2 [.ref a0, .int y1, v2] st u P := zr_Is k8_1 ⟨Nat.le_of_ble_eq_true rfl, rfl⟩
theorem k8_2 : xcd 8 2 = oI 0 3 := rfl
theorem r8_2 : zr 8 2 [v0, v1, v2] st u P = zr 8 3 [v0, v1, v2] (.int 0 :: st) u P := zr_I k8_2
theorem k8_3 : xcd 8 3 = oIs 2 4 := rfl
theorem r8_3 : zr 8 3 [v0, .int x1, v2] (.int y1 :: st) u P = zr 8 4 [v0, .int x1, .int y1] st u P := zr_Is k8_3 ⟨Nat.le_of_ble_eq_true rfl, rfl⟩
theorem k8_4 : xcd 8 4 = oIl 2 5 := rfl
theorem r8_4 : zr 8 4 [v0, v1, .int x2] st u P = zr 8 5 [v0, v1, .int x2] (.int x2 :: st) u P := zr_Il k8_4 rfl
theorem k8_5 : xcd 8 5 = oAl 0 6 := rfl
theorem r8_5 : zr 8 5 [.ref a0, v1, v2] st u P = zr 8 6 [.ref a0, v1, v2] (.ref a0 :: st) u P := zr_Al k8_5 rfl
theorem k8_6 : xcd 8 6 = oGI 1 0 9 := rfl
theorem r8_6 : zr 8 6 [v0, v1, v2] (.ref b1 :: st) u P = (xIs u b1 1 ∧ zr 8 9 [v0, v1, v2] (.int (xI u b1 0) :: st) u P) := zr_GI k8_6
theorem k8_9 : xcd 8 9 = oCmp (fun x y => decide (y ≤ x)) 30 12 := rfl
theorem r8_9 : zr 8 9 [v0, v1, v2] (.int y1 :: .int y2 :: st) u P = (if y1 ≤ y2 then zr 8 30 [v0, v1, v2] st u P else zr 8 12 [v0, v1, v2] st u P) := zr_Cmp k8_9
theorem k8_12 : xcd 8 12 = oIl 1 13 := rfl
theorem r8_12 : zr 8 12 [v0, .int x1, v2] st u P = zr 8 13 [v0, .int x1, v2] (.int x1 :: st) u P := zr_Il k8_12 rfl
theorem k8_13 : xcd 8 13 = oAl 0 14 := rfl
theorem r8_13 : zr 8 13 [.ref a0, v1, v2] st u P = zr 8 14 [.ref a0, v1, v2] (.ref a0 :: st) u P := zr_Al k8_13 rfl
theorem k8_14 : xcd 8 14 = oGR 1 1 17 := rfl
theorem r8_14 : zr 8 14 [v0, v1, v2] (.ref b1 :: st) u P = (xIs u b1 1 ∧ ∃ b, xR u b1 1 = some b ∧ zr 8 17 [v0, v1, v2] (.ref b :: st) u P) := zr_GR k8_14
theorem k8_17 : xcd 8 17 = oIl 2 18 := rfl
theorem r8_17 : zr 8 17 [v0, v1, .int x2] st u P = zr 8 18 [v0, v1, .int x2] (.int x2 :: st) u P := zr_Il k8_17 rfl
theorem k8_18 : xcd 8 18 = oLdR 19 := rfl
theorem r8_18 : zr 8 18 [v0, v1, v2] (.int y1 :: .ref b1 :: st) u P = ((xIs u b1 16 ∧ xinb y1 (xN u b1)) ∧ ∃ b, xR u b1 (xix y1) = some b ∧ zr 8 19 [v0, v1, v2] (.ref b :: st) u P) := zr_LdR k8_18
theorem k8_19 : xcd 8 19 = oGI 5 6 22 := rfl
theorem r8_19 : zr 8 19 [v0, v1, v2] (.ref b1 :: st) u P = (xIs u b1 5 ∧ zr 8 22 [v0, v1, v2] (.int (xI u b1 6) :: st) u P) := zr_GI k8_19
theorem k8_22 : xcd 8 22 = oB (fun x y => x + y) 23 := rfl
theorem r8_22 : zr 8 22 [v0, v1, v2] (.int y1 :: .int y2 :: st) u P = zr 8 23 [v0, v1, v2] (.int (y2 + y1) :: st) u P := zr_B k8_22
theorem k8_23 : xcd 8 23 = oIs 1 24 := rfl
theorem r8_23 : zr 8 23 [.ref a0, v1, v2] (.int y1 :: st) u P = zr 8 24 [.ref a0, .int y1, v2] st u P := zr_Is k8_23 ⟨Nat.le_of_ble_eq_true rfl, rfl⟩
theorem k8_24 : xcd 8 24 = oInc 2 1 27 := rfl
theorem r8_24 : zr 8 24 [v0, .int x1, .int x2] st u P = zr 8 27 [v0, .int x1, .int (x2 + 1)] st u P := zr_Inc k8_24 rfl rfl
theorem k8_27 : xcd 8 27 = oGoto 4 := rfl
theorem r8_27 : zr 8 27 [v0, v1, v2] st u P = zr 8 4 [v0, v1, v2] st u P := zr_Goto k8_27
theorem k8_30 : xcd 8 30 = oIl 1 31 := rfl
theorem r8_30 : zr 8 30 [v0, .int x1, v2] st u P = zr 8 31 [v0, .int x1, v2] (.int x1 :: st) u P := zr_Il k8_30 rfl
theorem k8_31 : xcd 8 31 = oRi 0 := rfl
theorem r8_31 : zr 8 31 [v0, v1, v2] [.int y1] u P = P (some (.int y1)) u := zr_Ri k8_31
theorem k9_0 : xcd 9 0 = oI 0 1 := rfl
theorem r9_0 : zr 9 0 [v0, v1, v2] st u P = zr 9 1 [v0, v1, v2] (.int 0 :: st) u P := zr_I k9_0
theorem k9_1 : xcd 9 1 = oIs 2 2 := rfl
theorem r9_1 : zr 9 1 [v0, .int x1, v2] (.int y1 :: st) u P = zr 9 2 [v0, .int x1, .int y1] st u P := zr_Is k9_1 ⟨Nat.le_of_ble_eq_true rfl, rfl⟩
theorem k9_2 : xcd 9 2 = oIl 2 3 := rfl
theorem r9_2 : zr 9 2 [v0, v1, .int x2] st u P = zr 9 3 [v0, v1, .int x2] (.int x2 :: st) u P := zr_Il k9_2 rfl
theorem k9_3 : xcd 9 3 = oAl 0 4 := rfl
theorem r9_3 : zr 9 3 [.ref a0, v1, v2] st u P = zr 9 4 [.ref a0, v1, v2] (.ref a0 :: st) u P := zr_Al k9_3 rfl
theorem k9_4 : xcd 9 4 = oGI 1 0 7 := rfl
theorem r9_4 : zr 9 4 [v0, v1, v2] (.ref b1 :: st) u P = (xIs u b1 1 ∧ zr 9 7 [v0, v1, v2] (.int (xI u b1 0) :: st) u P) := zr_GI k9_4
theorem k9_7 : xcd 9 7 = oCmp (fun x y => decide (y ≤ x)) 31 10 := rfl
theorem r9_7 : zr 9 7 [v0, v1, v2] (.int y1 :: .int y2 :: st) u P = (if y1 ≤ y2 then zr 9 31 [v0, v1, v2] st u P else zr 9 10 [v0, v1, v2] st u P) := zr_Cmp k9_7
theorem k9_10 : xcd 9 10 = oAl 0 11 := rfl
theorem r9_10 : zr 9 10 [.ref a0, v1, v2] st u P = zr 9 11 [.ref a0, v1, v2] (.ref a0 :: st) u P := zr_Al k9_10 rfl
theorem k9_11 : xcd 9 11 = oGR 1 1 14 := rfl
theorem r9_11 : zr 9 11 [v0, v1, v2] (.ref b1 :: st) u P = (xIs u b1 1 ∧ ∃ b, xR u b1 1 = some b ∧ zr 9 14 [v0, v1, v2] (.ref b :: st) u P) := zr_GR k9_11
theorem k9_14 : xcd 9 14 = oIl 2 15 := rfl
theorem r9_14 : zr 9 14 [v0, v1, .int x2] st u P = zr 9 15 [v0, v1, .int x2] (.int x2 :: st) u P := zr_Il k9_14 rfl
theorem k9_15 : xcd 9 15 = oLdR 16 := rfl
theorem r9_15 : zr 9 15 [v0, v1, v2] (.int y1 :: .ref b1 :: st) u P = ((xIs u b1 16 ∧ xinb y1 (xN u b1)) ∧ ∃ b, xR u b1 (xix y1) = some b ∧ zr 9 16 [v0, v1, v2] (.ref b :: st) u P) := zr_LdR k9_15
theorem k9_16 : xcd 9 16 = oIl 1 17 := rfl
theorem r9_16 : zr 9 16 [v0, .int x1, v2] st u P = zr 9 17 [v0, .int x1, v2] (.int x1 :: st) u P := zr_Il k9_16 rfl
theorem k9_17 : xcd 9 17 = oCalV 5 59 1 20 := rfl
theorem r9_17 : zr 9 17 [v0, v1, v2] (.int y1 :: .ref b8 :: st) u P = ((xIs u b8 5 ∧ xcat st ≤ 8) ∧ zr 59 0 [.ref b8, .int y1, .null] [] u (fun r u2 => zr 9 20 [v0, v1, v2] (r.toList ++ st) u2 P)) := zr_CV k9_17 rfl rfl rfl ⟨Nat.le_of_ble_eq_true rfl, Nat.succ_ne_zero _, by decide⟩ rfl
theorem k9_20 : xcd 9 20 = oIf (fun x => decide (x = 0)) 25 23 := rfl
theorem r9_20 : zr 9 20 [v0, v1, v2] (.int y1 :: st) u P = (if y1 = 0 then zr 9 25 [v0, v1, v2] st u P else zr 9 23 [v0, v1, v2] st u P) := zr_If k9_20
theorem k9_23 : xcd 9 23 = oI 1 24 := rfl
theorem r9_23 : zr 9 23 [v0, v1, v2] st u P = zr 9 24 [v0, v1, v2] (.int 1 :: st) u P := zr_I k9_23
theorem k9_24 : xcd 9 24 = oRz 0 := rfl
theorem r9_24 : zr 9 24 [v0, v1, v2] [.int y1] u P = ((y1 = 0 ∨ y1 = 1) ∧ P (some (.int y1)) u) := zr_Rz k9_24
theorem k9_25 : xcd 9 25 = oInc 2 1 28 := rfl
theorem r9_25 : zr 9 25 [v0, .int x1, .int x2] st u P = zr 9 28 [v0, .int x1, .int (x2 + 1)] st u P := zr_Inc k9_25 rfl rfl
theorem k9_28 : xcd 9 28 = oGoto 2 := rfl
theorem r9_28 : zr 9 28 [v0, v1, v2] st u P = zr 9 2 [v0, v1, v2] st u P := zr_Goto k9_28
theorem k9_31 : xcd 9 31 = oI 0 32 := rfl
theorem r9_31 : zr 9 31 [v0, v1, v2] st u P = zr 9 32 [v0, v1, v2] (.int 0 :: st) u P := zr_I k9_31
theorem k9_32 : xcd 9 32 = oRz 0 := rfl
theorem r9_32 : zr 9 32 [v0, v1, v2] [.int y1] u P = ((y1 = 0 ∨ y1 = 1) ∧ P (some (.int y1)) u) := zr_Rz k9_32
theorem k10_0 : xcd 10 0 = oI 0 1 := rfl
theorem r10_0 : zr 10 0 [v0, v1, v2, v3, v4] st u P = zr 10 1 [v0, v1, v2, v3, v4] (.int 0 :: st) u P := zr_I k10_0
theorem k10_1 : xcd 10 1 = oIs 3 2 := rfl
theorem r10_1 : zr 10 1 [v0, v1, .int x2, v3, v4] (.int y1 :: st) u P = zr 10 2 [v0, v1, .int x2, .int y1, v4] st u P := zr_Is k10_1 ⟨Nat.le_of_ble_eq_true rfl, rfl⟩
theorem k10_2 : xcd 10 2 = oI 0 3 := rfl
theorem r10_2 : zr 10 2 [v0, v1, v2, v3, v4] st u P = zr 10 3 [v0, v1, v2, v3, v4] (.int 0 :: st) u P := zr_I k10_2
theorem k10_3 : xcd 10 3 = oIs 4 5 := rfl
theorem r10_3 : zr 10 3 [v0, v1, v2, .int x3, v4] (.int y1 :: st) u P = zr 10 5 [v0, v1, v2, .int x3, .int y1] st u P := zr_Is k10_3 ⟨Nat.le_of_ble_eq_true rfl, rfl⟩
theorem k10_5 : xcd 10 5 = oIl 4 7 := rfl
theorem r10_5 : zr 10 5 [v0, v1, v2, v3, .int x4] st u P = zr 10 7 [v0, v1, v2, v3, .int x4] (.int x4 :: st) u P := zr_Il k10_5 rfl
theorem k10_7 : xcd 10 7 = oAl 0 8 := rfl
theorem r10_7 : zr 10 7 [.ref a0, v1, v2, v3, v4] st u P = zr 10 8 [.ref a0, v1, v2, v3, v4] (.ref a0 :: st) u P := zr_Al k10_7 rfl
theorem k10_8 : xcd 10 8 = oGI 1 0 11 := rfl
theorem r10_8 : zr 10 8 [v0, v1, v2, v3, v4] (.ref b1 :: st) u P = (xIs u b1 1 ∧ zr 10 11 [v0, v1, v2, v3, v4] (.int (xI u b1 0) :: st) u P) := zr_GI k10_8
theorem k10_11 : xcd 10 11 = oCmp (fun x y => decide (y ≤ x)) 53 14 := rfl
theorem r10_11 : zr 10 11 [v0, v1, v2, v3, v4] (.int y1 :: .int y2 :: st) u P = (if y1 ≤ y2 then zr 10 53 [v0, v1, v2, v3, v4] st u P else zr 10 14 [v0, v1, v2, v3, v4] st u P) := zr_Cmp k10_11
theorem k10_14 : xcd 10 14 = oIl 2 15 := rfl
theorem r10_14 : zr 10 14 [v0, v1, .int x2, v3, v4] st u P = zr 10 15 [v0, v1, .int x2, v3, v4] (.int x2 :: st) u P := zr_Il k10_14 rfl
theorem k10_15 : xcd 10 15 = oI (-1) 16 := rfl
theorem r10_15 : zr 10 15 [v0, v1, v2, v3, v4] st u P = zr 10 16 [v0, v1, v2, v3, v4] (.int (-1) :: st) u P := zr_I k10_15
theorem k10_16 : xcd 10 16 = oCmp (fun x y => decide (x = y)) 33 19 := rfl
theorem r10_16 : zr 10 16 [v0, v1, v2, v3, v4] (.int y1 :: .int y2 :: st) u P = (if y2 = y1 then zr 10 33 [v0, v1, v2, v3, v4] st u P else zr 10 19 [v0, v1, v2, v3, v4] st u P) := zr_Cmp k10_16
theorem k10_19 : xcd 10 19 = oAl 0 20 := rfl
theorem r10_19 : zr 10 19 [.ref a0, v1, v2, v3, v4] st u P = zr 10 20 [.ref a0, v1, v2, v3, v4] (.ref a0 :: st) u P := zr_Al k10_19 rfl
theorem k10_20 : xcd 10 20 = oGR 1 1 23 := rfl
theorem r10_20 : zr 10 20 [v0, v1, v2, v3, v4] (.ref b1 :: st) u P = (xIs u b1 1 ∧ ∃ b, xR u b1 1 = some b ∧ zr 10 23 [v0, v1, v2, v3, v4] (.ref b :: st) u P) := zr_GR k10_20
theorem k10_23 : xcd 10 23 = oIl 4 25 := rfl
theorem r10_23 : zr 10 23 [v0, v1, v2, v3, .int x4] st u P = zr 10 25 [v0, v1, v2, v3, .int x4] (.int x4 :: st) u P := zr_Il k10_23 rfl
theorem k10_25 : xcd 10 25 = oLdR 26 := rfl
theorem r10_25 : zr 10 25 [v0, v1, v2, v3, v4] (.int y1 :: .ref b1 :: st) u P = ((xIs u b1 16 ∧ xinb y1 (xN u b1)) ∧ ∃ b, xR u b1 (xix y1) = some b ∧ zr 10 26 [v0, v1, v2, v3, v4] (.ref b :: st) u P) := zr_LdR k10_25
theorem k10_26 : xcd 10 26 = oGI 5 3 29 := rfl
theorem r10_26 : zr 10 26 [v0, v1, v2, v3, v4] (.ref b1 :: st) u P = (xIs u b1 5 ∧ zr 10 29 [v0, v1, v2, v3, v4] (.int (xI u b1 3) :: st) u P) := zr_GI k10_26
theorem k10_29 : xcd 10 29 = oIl 2 30 := rfl
theorem r10_29 : zr 10 29 [v0, v1, .int x2, v3, v4] st u P = zr 10 30 [v0, v1, .int x2, v3, v4] (.int x2 :: st) u P := zr_Il k10_29 rfl
theorem k10_30 : xcd 10 30 = oCmp (fun x y => decide (¬ x = y)) 47 33 := rfl
theorem r10_30 : zr 10 30 [v0, v1, v2, v3, v4] (.int y1 :: .int y2 :: st) u P = (if ¬ y2 = y1 then zr 10 47 [v0, v1, v2, v3, v4] st u P else zr 10 33 [v0, v1, v2, v3, v4] st u P) := zr_Cmp k10_30
theorem k10_33 : xcd 10 33 = oIl 3 34 := rfl
theorem r10_33 : zr 10 33 [v0, v1, v2, .int x3, v4] st u P = zr 10 34 [v0, v1, v2, .int x3, v4] (.int x3 :: st) u P := zr_Il k10_33 rfl
theorem k10_34 : xcd 10 34 = oAl 0 35 := rfl
theorem r10_34 : zr 10 34 [.ref a0, v1, v2, v3, v4] st u P = zr 10 35 [.ref a0, v1, v2, v3, v4] (.ref a0 :: st) u P := zr_Al k10_34 rfl
theorem k10_35 : xcd 10 35 = oGR 1 1 38 := rfl
theorem r10_35 : zr 10 35 [v0, v1, v2, v3, v4] (.ref b1 :: st) u P = (xIs u b1 1 ∧ ∃ b, xR u b1 1 = some b ∧ zr 10 38 [v0, v1, v2, v3, v4] (.ref b :: st) u P) := zr_GR k10_35
theorem k10_38 : xcd 10 38 = oIl 4 40 := rfl
theorem r10_38 : zr 10 38 [v0, v1, v2, v3, .int x4] st u P = zr 10 40 [v0, v1, v2, v3, .int x4] (.int x4 :: st) u P := zr_Il k10_38 rfl
theorem k10_40 : xcd 10 40 = oLdR 41 := rfl
theorem r10_40 : zr 10 40 [v0, v1, v2, v3, v4] (.int y1 :: .ref b1 :: st) u P = ((xIs u b1 16 ∧ xinb y1 (xN u b1)) ∧ ∃ b, xR u b1 (xix y1) = some b ∧ zr 10 41 [v0, v1, v2, v3, v4] (.ref b :: st) u P) := zr_LdR k10_40
theorem k10_41 : xcd 10 41 = oIl 1 42 := rfl
theorem r10_41 : zr 10 41 [v0, .int x1, v2, v3, v4] st u P = zr 10 42 [v0, .int x1, v2, v3, v4] (.int x1 :: st) u P := zr_Il k10_41 rfl
theorem k10_42 : xcd 10 42 = oCalV 5 58 1 45 := rfl
theorem r10_42 : zr 10 42 [v0, v1, v2, v3, v4] (.int y1 :: .ref b8 :: st) u P = ((xIs u b8 5 ∧ xcat st ≤ 8) ∧ zr 58 0 [.ref b8, .int y1, .null, .null] [] u (fun r u2 => zr 10 45 [v0, v1, v2, v3, v4] (r.toList ++ st) u2 P)) := zr_CV k10_42 rfl rfl rfl ⟨Nat.le_of_ble_eq_true rfl, Nat.succ_ne_zero _, by decide⟩ rfl
theorem k10_45 : xcd 10 45 = oB (fun x y => x + y) 46 := rfl
theorem r10_45 : zr 10 45 [v0, v1, v2, v3, v4] (.int y1 :: .int y2 :: st) u P = zr 10 46 [v0, v1, v2, v3, v4] (.int (y2 + y1) :: st) u P := zr_B k10_45
theorem k10_46 : xcd 10 46 = oIs 3 47 := rfl
theorem r10_46 : zr 10 46 [v0, v1, .int x2, v3, v4] (.int y1 :: st) u P = zr 10 47 [v0, v1, .int x2, .int y1, v4] st u P := zr_Is k10_46 ⟨Nat.le_of_ble_eq_true rfl, rfl⟩
theorem k10_47 : xcd 10 47 = oInc 4 1 50 := rfl
theorem r10_47 : zr 10 47 [v0, v1, v2, .int x3, .int x4] st u P = zr 10 50 [v0, v1, v2, .int x3, .int (x4 + 1)] st u P := zr_Inc k10_47 rfl rfl
theorem k10_50 : xcd 10 50 = oGoto 5 := rfl
theorem r10_50 : zr 10 50 [v0, v1, v2, v3, v4] st u P = zr 10 5 [v0, v1, v2, v3, v4] st u P := zr_Goto k10_50
theorem k10_53 : xcd 10 53 = oIl 3 54 := rfl
theorem r10_53 : zr 10 53 [v0, v1, v2, .int x3, v4] st u P = zr 10 54 [v0, v1, v2, .int x3, v4] (.int x3 :: st) u P := zr_Il k10_53 rfl
theorem k10_54 : xcd 10 54 = oRi 0 := rfl
theorem r10_54 : zr 10 54 [v0, v1, v2, v3, v4] [.int y1] u P = P (some (.int y1)) u := zr_Ri k10_54
theorem k11_0 : xcd 11 0 = oI 0 1 := rfl
theorem r11_0 : zr 11 0 [v0, v1, v2, v3, v4, v5] st u P = zr 11 1 [v0, v1, v2, v3, v4, v5] (.int 0 :: st) u P := zr_I k11_0
theorem k11_1 : xcd 11 1 = oIs 1 2 := rfl
theorem r11_1 : zr 11 1 [.ref a0, v1, v2, v3, v4, v5] (.int y1 :: st) u P = zr 11 2 [.ref a0, .int y1, v2, v3, v4, v5] st u P := zr_Is k11_1 ⟨Nat.le_of_ble_eq_true rfl, rfl⟩
theorem k11_2 : xcd 11 2 = oIl 1 3 := rfl
theorem r11_2 : zr 11 2 [v0, .int x1, v2, v3, v4, v5] st u P = zr 11 3 [v0, .int x1, v2, v3, v4, v5] (.int x1 :: st) u P := zr_Il k11_2 rfl
theorem k11_3 : xcd 11 3 = oAl 0 4 := rfl
theorem r11_3 : zr 11 3 [.ref a0, v1, v2, v3, v4, v5] st u P = zr 11 4 [.ref a0, v1, v2, v3, v4, v5] (.ref a0 :: st) u P := zr_Al k11_3 rfl
theorem k11_4 : xcd 11 4 = oGR 1 7 7 := rfl
theorem r11_4 : zr 11 4 [v0, v1, v2, v3, v4, v5] (.ref b1 :: st) u P = (xIs u b1 1 ∧ ∃ b, xR u b1 7 = some b ∧ zr 11 7 [v0, v1, v2, v3, v4, v5] (.ref b :: st) u P) := zr_GR k11_4
theorem k11_7 : xcd 11 7 = oLen 15 8 := rfl
theorem r11_7 : zr 11 7 [v0, v1, v2, v3, v4, v5] (.ref b1 :: st) u P = (xIs u b1 15 ∧ zr 11 8 [v0, v1, v2, v3, v4, v5] (.int (Int32.ofNat (xN u b1)) :: st) u P) := zr_Len k11_7
theorem k11_8 : xcd 11 8 = oCmp (fun x y => decide (y ≤ x)) 24 11 := rfl
theorem r11_8 : zr 11 8 [v0, v1, v2, v3, v4, v5] (.int y1 :: .int y2 :: st) u P = (if y1 ≤ y2 then zr 11 24 [v0, v1, v2, v3, v4, v5] st u P else zr 11 11 [v0, v1, v2, v3, v4, v5] st u P) := zr_Cmp k11_8
theorem k11_11 : xcd 11 11 = oAl 0 12 := rfl
theorem r11_11 : zr 11 11 [.ref a0, v1, v2, v3, v4, v5] st u P = zr 11 12 [.ref a0, v1, v2, v3, v4, v5] (.ref a0 :: st) u P := zr_Al k11_11 rfl
theorem k11_12 : xcd 11 12 = oGR 1 7 15 := rfl
theorem r11_12 : zr 11 12 [v0, v1, v2, v3, v4, v5] (.ref b1 :: st) u P = (xIs u b1 1 ∧ ∃ b, xR u b1 7 = some b ∧ zr 11 15 [v0, v1, v2, v3, v4, v5] (.ref b :: st) u P) := zr_GR k11_12
theorem k11_15 : xcd 11 15 = oIl 1 16 := rfl
theorem r11_15 : zr 11 15 [v0, .int x1, v2, v3, v4, v5] st u P = zr 11 16 [v0, .int x1, v2, v3, v4, v5] (.int x1 :: st) u P := zr_Il k11_15 rfl
theorem k11_16 : xcd 11 16 = oI 0 17 := rfl
theorem r11_16 : zr 11 16 [v0, v1, v2, v3, v4, v5] st u P = zr 11 17 [v0, v1, v2, v3, v4, v5] (.int 0 :: st) u P := zr_I k11_16
theorem k11_17 : xcd 11 17 = oSt 15 (fun x => vp_nar .boolean x) 18 := rfl
theorem r11_17 : zr 11 17 [v0, v1, v2, v3, v4, v5] (.int y2 :: .int y1 :: .ref b1 :: st) u P = ((xIs u b1 15 ∧ xinb y1 (xN u b1)) ∧ zr 11 18 [v0, v1, v2, v3, v4, v5] st (xsI u b1 (xix y1) (vp_nar .boolean y2)) P) := zr_St k11_17
theorem k11_18 : xcd 11 18 = oInc 1 1 21 := rfl
theorem r11_18 : zr 11 18 [.ref a0, .int x1, v2, v3, v4, v5] st u P = zr 11 21 [.ref a0, .int (x1 + 1), v2, v3, v4, v5] st u P := zr_Inc k11_18 rfl rfl
theorem k11_21 : xcd 11 21 = oGoto 2 := rfl
theorem r11_21 : zr 11 21 [v0, v1, v2, v3, v4, v5] st u P = zr 11 2 [v0, v1, v2, v3, v4, v5] st u P := zr_Goto k11_21
theorem k11_24 : xcd 11 24 = oI 0 25 := rfl
theorem r11_24 : zr 11 24 [v0, v1, v2, v3, v4, v5] st u P = zr 11 25 [v0, v1, v2, v3, v4, v5] (.int 0 :: st) u P := zr_I k11_24
theorem k11_25 : xcd 11 25 = oIs 1 26 := rfl
theorem r11_25 : zr 11 25 [.ref a0, v1, v2, v3, v4, v5] (.int y1 :: st) u P = zr 11 26 [.ref a0, .int y1, v2, v3, v4, v5] st u P := zr_Is k11_25 ⟨Nat.le_of_ble_eq_true rfl, rfl⟩
theorem k11_26 : xcd 11 26 = oI 0 27 := rfl
theorem r11_26 : zr 11 26 [v0, v1, v2, v3, v4, v5] st u P = zr 11 27 [v0, v1, v2, v3, v4, v5] (.int 0 :: st) u P := zr_I k11_26
theorem k11_27 : xcd 11 27 = oIs 2 28 := rfl
theorem r11_27 : zr 11 27 [v0, .int x1, v2, v3, v4, v5] (.int y1 :: st) u P = zr 11 28 [v0, .int x1, .int y1, v3, v4, v5] st u P := zr_Is k11_27 ⟨Nat.le_of_ble_eq_true rfl, rfl⟩
theorem k11_28 : xcd 11 28 = oIl 2 29 := rfl
theorem r11_28 : zr 11 28 [v0, v1, .int x2, v3, v4, v5] st u P = zr 11 29 [v0, v1, .int x2, v3, v4, v5] (.int x2 :: st) u P := zr_Il k11_28 rfl
theorem k11_29 : xcd 11 29 = oAl 0 30 := rfl
theorem r11_29 : zr 11 29 [.ref a0, v1, v2, v3, v4, v5] st u P = zr 11 30 [.ref a0, v1, v2, v3, v4, v5] (.ref a0 :: st) u P := zr_Al k11_29 rfl
theorem k11_30 : xcd 11 30 = oGI 1 0 33 := rfl
theorem r11_30 : zr 11 30 [v0, v1, v2, v3, v4, v5] (.ref b1 :: st) u P = (xIs u b1 1 ∧ zr 11 33 [v0, v1, v2, v3, v4, v5] (.int (xI u b1 0) :: st) u P) := zr_GI k11_30
theorem k11_33 : xcd 11 33 = oCmp (fun x y => decide (y ≤ x)) 128 36 := rfl
theorem r11_33 : zr 11 33 [v0, v1, v2, v3, v4, v5] (.int y1 :: .int y2 :: st) u P = (if y1 ≤ y2 then zr 11 128 [v0, v1, v2, v3, v4, v5] st u P else zr 11 36 [v0, v1, v2, v3, v4, v5] st u P) := zr_Cmp k11_33
theorem k11_36 : xcd 11 36 = oAl 0 37 := rfl
theorem r11_36 : zr 11 36 [.ref a0, v1, v2, v3, v4, v5] st u P = zr 11 37 [.ref a0, v1, v2, v3, v4, v5] (.ref a0 :: st) u P := zr_Al k11_36 rfl
theorem k11_37 : xcd 11 37 = oGR 1 1 40 := rfl
theorem r11_37 : zr 11 37 [v0, v1, v2, v3, v4, v5] (.ref b1 :: st) u P = (xIs u b1 1 ∧ ∃ b, xR u b1 1 = some b ∧ zr 11 40 [v0, v1, v2, v3, v4, v5] (.ref b :: st) u P) := zr_GR k11_37
theorem k11_40 : xcd 11 40 = oIl 2 41 := rfl
theorem r11_40 : zr 11 40 [v0, v1, .int x2, v3, v4, v5] st u P = zr 11 41 [v0, v1, .int x2, v3, v4, v5] (.int x2 :: st) u P := zr_Il k11_40 rfl
theorem k11_41 : xcd 11 41 = oLdR 42 := rfl
theorem r11_41 : zr 11 41 [v0, v1, v2, v3, v4, v5] (.int y1 :: .ref b1 :: st) u P = ((xIs u b1 16 ∧ xinb y1 (xN u b1)) ∧ ∃ b, xR u b1 (xix y1) = some b ∧ zr 11 42 [v0, v1, v2, v3, v4, v5] (.ref b :: st) u P) := zr_LdR k11_41
theorem k11_42 : xcd 11 42 = oAs 3 43 := rfl
theorem r11_42 : zr 11 42 [v0, v1, .int x2, v3, v4, v5] (.ref b1 :: st) u P = zr 11 43 [v0, v1, .int x2, .ref b1, v4, v5] st u P := zr_As k11_42 ⟨Nat.le_of_ble_eq_true rfl, rfl⟩
theorem k11_43 : xcd 11 43 = oI 0 44 := rfl
theorem r11_43 : zr 11 43 [v0, v1, v2, v3, v4, v5] st u P = zr 11 44 [v0, v1, v2, v3, v4, v5] (.int 0 :: st) u P := zr_I k11_43
theorem k11_44 : xcd 11 44 = oIs 4 46 := rfl
theorem r11_44 : zr 11 44 [v0, v1, v2, .ref a3, v4, v5] (.int y1 :: st) u P = zr 11 46 [v0, v1, v2, .ref a3, .int y1, v5] st u P := zr_Is k11_44 ⟨Nat.le_of_ble_eq_true rfl, rfl⟩
theorem k11_46 : xcd 11 46 = oIl 4 48 := rfl
theorem r11_46 : zr 11 46 [v0, v1, v2, v3, .int x4, v5] st u P = zr 11 48 [v0, v1, v2, v3, .int x4, v5] (.int x4 :: st) u P := zr_Il k11_46 rfl
theorem k11_48 : xcd 11 48 = oAl 3 49 := rfl
theorem r11_48 : zr 11 48 [v0, v1, v2, .ref a3, v4, v5] st u P = zr 11 49 [v0, v1, v2, .ref a3, v4, v5] (.ref a3 :: st) u P := zr_Al k11_48 rfl
theorem k11_49 : xcd 11 49 = oGI 5 8 52 := rfl
theorem r11_49 : zr 11 49 [v0, v1, v2, v3, v4, v5] (.ref b1 :: st) u P = (xIs u b1 5 ∧ zr 11 52 [v0, v1, v2, v3, v4, v5] (.int (xI u b1 8) :: st) u P) := zr_GI k11_49
theorem k11_52 : xcd 11 52 = oCmp (fun x y => decide (y ≤ x)) 122 55 := rfl
theorem r11_52 : zr 11 52 [v0, v1, v2, v3, v4, v5] (.int y1 :: .int y2 :: st) u P = (if y1 ≤ y2 then zr 11 122 [v0, v1, v2, v3, v4, v5] st u P else zr 11 55 [v0, v1, v2, v3, v4, v5] st u P) := zr_Cmp k11_52
theorem k11_55 : xcd 11 55 = oAl 3 56 := rfl
theorem r11_55 : zr 11 55 [v0, v1, v2, .ref a3, v4, v5] st u P = zr 11 56 [v0, v1, v2, .ref a3, v4, v5] (.ref a3 :: st) u P := zr_Al k11_55 rfl
theorem k11_56 : xcd 11 56 = oGR 5 9 59 := rfl
theorem r11_56 : zr 11 56 [v0, v1, v2, v3, v4, v5] (.ref b1 :: st) u P = (xIs u b1 5 ∧ ∃ b, xR u b1 9 = some b ∧ zr 11 59 [v0, v1, v2, v3, v4, v5] (.ref b :: st) u P) := zr_GR k11_56
theorem k11_59 : xcd 11 59 = oIl 4 61 := rfl
theorem r11_59 : zr 11 59 [v0, v1, v2, v3, .int x4, v5] st u P = zr 11 61 [v0, v1, v2, v3, .int x4, v5] (.int x4 :: st) u P := zr_Il k11_59 rfl
theorem k11_61 : xcd 11 61 = oLd 13 62 := rfl
theorem r11_61 : zr 11 61 [v0, v1, v2, v3, v4, v5] (.int y1 :: .ref b1 :: st) u P = ((xIs u b1 13 ∧ xinb y1 (xN u b1)) ∧ zr 11 62 [v0, v1, v2, v3, v4, v5] (.int (xI u b1 (xix y1)) :: st) u P) := zr_Ld k11_61
theorem k11_62 : xcd 11 62 = oI 6 64 := rfl
theorem r11_62 : zr 11 62 [v0, v1, v2, v3, v4, v5] st u P = zr 11 64 [v0, v1, v2, v3, v4, v5] (.int 6 :: st) u P := zr_I k11_62
theorem k11_64 : xcd 11 64 = oB (fun x y => x * y) 65 := rfl
theorem r11_64 : zr 11 64 [v0, v1, v2, v3, v4, v5] (.int y1 :: .int y2 :: st) u P = zr 11 65 [v0, v1, v2, v3, v4, v5] (.int (y2 * y1) :: st) u P := zr_B k11_64
theorem k11_65 : xcd 11 65 = oAl 3 66 := rfl
theorem r11_65 : zr 11 65 [v0, v1, v2, .ref a3, v4, v5] st u P = zr 11 66 [v0, v1, v2, .ref a3, v4, v5] (.ref a3 :: st) u P := zr_Al k11_65 rfl
theorem k11_66 : xcd 11 66 = oGI 5 3 69 := rfl
theorem r11_66 : zr 11 66 [v0, v1, v2, v3, v4, v5] (.ref b1 :: st) u P = (xIs u b1 5 ∧ zr 11 69 [v0, v1, v2, v3, v4, v5] (.int (xI u b1 3) :: st) u P) := zr_GI k11_66
theorem k11_69 : xcd 11 69 = oB (fun x y => x + y) 70 := rfl
theorem r11_69 : zr 11 69 [v0, v1, v2, v3, v4, v5] (.int y1 :: .int y2 :: st) u P = zr 11 70 [v0, v1, v2, v3, v4, v5] (.int (y2 + y1) :: st) u P := zr_B k11_69
theorem k11_70 : xcd 11 70 = oIs 5 72 := rfl
theorem r11_70 : zr 11 70 [v0, v1, v2, v3, .int x4, v5] (.int y1 :: st) u P = zr 11 72 [v0, v1, v2, v3, .int x4, .int y1] st u P := zr_Is k11_70 ⟨Nat.le_of_ble_eq_true rfl, rfl⟩
theorem k11_72 : xcd 11 72 = oAl 0 73 := rfl
theorem r11_72 : zr 11 72 [.ref a0, v1, v2, v3, v4, v5] st u P = zr 11 73 [.ref a0, v1, v2, v3, v4, v5] (.ref a0 :: st) u P := zr_Al k11_72 rfl
theorem k11_73 : xcd 11 73 = oGR 1 7 76 := rfl
theorem r11_73 : zr 11 73 [v0, v1, v2, v3, v4, v5] (.ref b1 :: st) u P = (xIs u b1 1 ∧ ∃ b, xR u b1 7 = some b ∧ zr 11 76 [v0, v1, v2, v3, v4, v5] (.ref b :: st) u P) := zr_GR k11_73
theorem k11_76 : xcd 11 76 = oIl 5 78 := rfl
theorem r11_76 : zr 11 76 [v0, v1, v2, v3, v4, .int x5] st u P = zr 11 78 [v0, v1, v2, v3, v4, .int x5] (.int x5 :: st) u P := zr_Il k11_76 rfl
theorem k11_78 : xcd 11 78 = oLd 15 79 := rfl
theorem r11_78 : zr 11 78 [v0, v1, v2, v3, v4, v5] (.int y1 :: .ref b1 :: st) u P = ((xIs u b1 15 ∧ xinb y1 (xN u b1)) ∧ zr 11 79 [v0, v1, v2, v3, v4, v5] (.int (xI u b1 (xix y1)) :: st) u P) := zr_Ld k11_78
theorem k11_79 : xcd 11 79 = oIf (fun x => decide (¬ x = 0)) 116 82 := rfl
theorem r11_79 : zr 11 79 [v0, v1, v2, v3, v4, v5] (.int y1 :: st) u P = (if ¬ y1 = 0 then zr 11 116 [v0, v1, v2, v3, v4, v5] st u P else zr 11 82 [v0, v1, v2, v3, v4, v5] st u P) := zr_If k11_79
theorem k11_82 : xcd 11 82 = oAl 0 83 := rfl
theorem r11_82 : zr 11 82 [.ref a0, v1, v2, v3, v4, v5] st u P = zr 11 83 [.ref a0, v1, v2, v3, v4, v5] (.ref a0 :: st) u P := zr_Al k11_82 rfl
theorem k11_83 : xcd 11 83 = oGR 1 7 86 := rfl
theorem r11_83 : zr 11 83 [v0, v1, v2, v3, v4, v5] (.ref b1 :: st) u P = (xIs u b1 1 ∧ ∃ b, xR u b1 7 = some b ∧ zr 11 86 [v0, v1, v2, v3, v4, v5] (.ref b :: st) u P) := zr_GR k11_83
theorem k11_86 : xcd 11 86 = oIl 5 88 := rfl
theorem r11_86 : zr 11 86 [v0, v1, v2, v3, v4, .int x5] st u P = zr 11 88 [v0, v1, v2, v3, v4, .int x5] (.int x5 :: st) u P := zr_Il k11_86 rfl
theorem k11_88 : xcd 11 88 = oI 1 89 := rfl
theorem r11_88 : zr 11 88 [v0, v1, v2, v3, v4, v5] st u P = zr 11 89 [v0, v1, v2, v3, v4, v5] (.int 1 :: st) u P := zr_I k11_88
theorem k11_89 : xcd 11 89 = oSt 15 (fun x => vp_nar .boolean x) 90 := rfl
theorem r11_89 : zr 11 89 [v0, v1, v2, v3, v4, v5] (.int y2 :: .int y1 :: .ref b1 :: st) u P = ((xIs u b1 15 ∧ xinb y1 (xN u b1)) ∧ zr 11 90 [v0, v1, v2, v3, v4, v5] st (xsI u b1 (xix y1) (vp_nar .boolean y2)) P) := zr_St k11_89
theorem k11_90 : xcd 11 90 = oAl 0 91 := rfl
theorem r11_90 : zr 11 90 [.ref a0, v1, v2, v3, v4, v5] st u P = zr 11 91 [.ref a0, v1, v2, v3, v4, v5] (.ref a0 :: st) u P := zr_Al k11_90 rfl
theorem k11_91 : xcd 11 91 = oGR 1 5 94 := rfl
theorem r11_91 : zr 11 91 [v0, v1, v2, v3, v4, v5] (.ref b1 :: st) u P = (xIs u b1 1 ∧ ∃ b, xR u b1 5 = some b ∧ zr 11 94 [v0, v1, v2, v3, v4, v5] (.ref b :: st) u P) := zr_GR k11_91
theorem k11_94 : xcd 11 94 = oIl 1 95 := rfl
theorem r11_94 : zr 11 94 [v0, .int x1, v2, v3, v4, v5] st u P = zr 11 95 [v0, .int x1, v2, v3, v4, v5] (.int x1 :: st) u P := zr_Il k11_94 rfl
theorem k11_95 : xcd 11 95 = oAl 3 96 := rfl
theorem r11_95 : zr 11 95 [v0, v1, v2, .ref a3, v4, v5] st u P = zr 11 96 [v0, v1, v2, .ref a3, v4, v5] (.ref a3 :: st) u P := zr_Al k11_95 rfl
theorem k11_96 : xcd 11 96 = oGR 5 9 99 := rfl
theorem r11_96 : zr 11 96 [v0, v1, v2, v3, v4, v5] (.ref b1 :: st) u P = (xIs u b1 5 ∧ ∃ b, xR u b1 9 = some b ∧ zr 11 99 [v0, v1, v2, v3, v4, v5] (.ref b :: st) u P) := zr_GR k11_96
theorem k11_99 : xcd 11 99 = oIl 4 101 := rfl
theorem r11_99 : zr 11 99 [v0, v1, v2, v3, .int x4, v5] st u P = zr 11 101 [v0, v1, v2, v3, .int x4, v5] (.int x4 :: st) u P := zr_Il k11_99 rfl
theorem k11_101 : xcd 11 101 = oLd 13 102 := rfl
theorem r11_101 : zr 11 101 [v0, v1, v2, v3, v4, v5] (.int y1 :: .ref b1 :: st) u P = ((xIs u b1 13 ∧ xinb y1 (xN u b1)) ∧ zr 11 102 [v0, v1, v2, v3, v4, v5] (.int (xI u b1 (xix y1)) :: st) u P) := zr_Ld k11_101
theorem k11_102 : xcd 11 102 = oSt 13 (fun x => x) 103 := rfl
theorem r11_102 : zr 11 102 [v0, v1, v2, v3, v4, v5] (.int y2 :: .int y1 :: .ref b1 :: st) u P = ((xIs u b1 13 ∧ xinb y1 (xN u b1)) ∧ zr 11 103 [v0, v1, v2, v3, v4, v5] st (xsI u b1 (xix y1) y2) P) := zr_St k11_102
theorem k11_103 : xcd 11 103 = oAl 0 104 := rfl
theorem r11_103 : zr 11 103 [.ref a0, v1, v2, v3, v4, v5] st u P = zr 11 104 [.ref a0, v1, v2, v3, v4, v5] (.ref a0 :: st) u P := zr_Al k11_103 rfl
theorem k11_104 : xcd 11 104 = oGR 1 6 107 := rfl
theorem r11_104 : zr 11 104 [v0, v1, v2, v3, v4, v5] (.ref b1 :: st) u P = (xIs u b1 1 ∧ ∃ b, xR u b1 6 = some b ∧ zr 11 107 [v0, v1, v2, v3, v4, v5] (.ref b :: st) u P) := zr_GR k11_104
theorem k11_107 : xcd 11 107 = oIl 1 108 := rfl
theorem r11_107 : zr 11 107 [v0, .int x1, v2, v3, v4, v5] st u P = zr 11 108 [v0, .int x1, v2, v3, v4, v5] (.int x1 :: st) u P := zr_Il k11_107 rfl
theorem k11_108 : xcd 11 108 = oAl 3 109 := rfl
theorem r11_108 : zr 11 108 [v0, v1, v2, .ref a3, v4, v5] st u P = zr 11 109 [v0, v1, v2, .ref a3, v4, v5] (.ref a3 :: st) u P := zr_Al k11_108 rfl
theorem k11_109 : xcd 11 109 = oGI 5 3 112 := rfl
theorem r11_109 : zr 11 109 [v0, v1, v2, v3, v4, v5] (.ref b1 :: st) u P = (xIs u b1 5 ∧ zr 11 112 [v0, v1, v2, v3, v4, v5] (.int (xI u b1 3) :: st) u P) := zr_GI k11_109
theorem k11_112 : xcd 11 112 = oSt 13 (fun x => x) 113 := rfl
theorem r11_112 : zr 11 112 [v0, v1, v2, v3, v4, v5] (.int y2 :: .int y1 :: .ref b1 :: st) u P = ((xIs u b1 13 ∧ xinb y1 (xN u b1)) ∧ zr 11 113 [v0, v1, v2, v3, v4, v5] st (xsI u b1 (xix y1) y2) P) := zr_St k11_112
theorem k11_113 : xcd 11 113 = oInc 1 1 116 := rfl
theorem r11_113 : zr 11 113 [.ref a0, .int x1, v2, v3, v4, v5] st u P = zr 11 116 [.ref a0, .int (x1 + 1), v2, v3, v4, v5] st u P := zr_Inc k11_113 rfl rfl
theorem k11_116 : xcd 11 116 = oInc 4 1 119 := rfl
theorem r11_116 : zr 11 116 [v0, v1, v2, .ref a3, .int x4, v5] st u P = zr 11 119 [v0, v1, v2, .ref a3, .int (x4 + 1), v5] st u P := zr_Inc k11_116 rfl rfl
theorem k11_119 : xcd 11 119 = oGoto 46 := rfl
theorem r11_119 : zr 11 119 [v0, v1, v2, v3, v4, v5] st u P = zr 11 46 [v0, v1, v2, v3, v4, v5] st u P := zr_Goto k11_119
theorem k11_122 : xcd 11 122 = oInc 2 1 125 := rfl
theorem r11_122 : zr 11 122 [v0, .int x1, .int x2, v3, v4, v5] st u P = zr 11 125 [v0, .int x1, .int (x2 + 1), v3, v4, v5] st u P := zr_Inc k11_122 rfl rfl
theorem k11_125 : xcd 11 125 = oGoto 28 := rfl
theorem r11_125 : zr 11 125 [v0, v1, v2, v3, v4, v5] st u P = zr 11 28 [v0, v1, v2, v3, v4, v5] st u P := zr_Goto k11_125
theorem k11_128 : xcd 11 128 = oIl 1 129 := rfl
theorem r11_128 : zr 11 128 [v0, .int x1, v2, v3, v4, v5] st u P = zr 11 129 [v0, .int x1, v2, v3, v4, v5] (.int x1 :: st) u P := zr_Il k11_128 rfl
theorem k11_129 : xcd 11 129 = oRi 0 := rfl
theorem r11_129 : zr 11 129 [v0, v1, v2, v3, v4, v5] [.int y1] u P = P (some (.int y1)) u := zr_Ri k11_129
theorem k12_0 : xcd 12 0 = oAl 0 1 := rfl
theorem r12_0 : zr 12 0 [.ref a0] st u P = zr 12 1 [.ref a0] (.ref a0 :: st) u P := zr_Al k12_0 rfl
theorem k12_1 : xcd 12 1 = oGI 1 2 4 := rfl
theorem r12_1 : zr 12 1 [v0] (.ref b1 :: st) u P = (xIs u b1 1 ∧ zr 12 4 [v0] (.int (xI u b1 2) :: st) u P) := zr_GI k12_1
theorem k12_4 : xcd 12 4 = oIf (fun x => decide (¬ x = 0)) 11 7 := rfl
theorem r12_4 : zr 12 4 [v0] (.int y1 :: st) u P = (if ¬ y1 = 0 then zr 12 11 [v0] st u P else zr 12 7 [v0] st u P) := zr_If k12_4
theorem k12_7 : xcd 12 7 = oI (-1) 8 := rfl
theorem r12_7 : zr 12 7 [v0] st u P = zr 12 8 [v0] (.int (-1) :: st) u P := zr_I k12_7
theorem k12_8 : xcd 12 8 = oGoto 22 := rfl
theorem r12_8 : zr 12 8 [v0] st u P = zr 12 22 [v0] st u P := zr_Goto k12_8
theorem k12_11 : xcd 12 11 = oAl 0 12 := rfl
theorem r12_11 : zr 12 11 [.ref a0] st u P = zr 12 12 [.ref a0] (.ref a0 :: st) u P := zr_Al k12_11 rfl
theorem k12_12 : xcd 12 12 = oGR 1 3 15 := rfl
theorem r12_12 : zr 12 12 [v0] (.ref b1 :: st) u P = (xIs u b1 1 ∧ ∃ b, xR u b1 3 = some b ∧ zr 12 15 [v0] (.ref b :: st) u P) := zr_GR k12_12
theorem k12_15 : xcd 12 15 = oAl 0 16 := rfl
theorem r12_15 : zr 12 15 [.ref a0] st u P = zr 12 16 [.ref a0] (.ref a0 :: st) u P := zr_Al k12_15 rfl
theorem k12_16 : xcd 12 16 = oGI 1 2 19 := rfl
theorem r12_16 : zr 12 16 [v0] (.ref b1 :: st) u P = (xIs u b1 1 ∧ zr 12 19 [v0] (.int (xI u b1 2) :: st) u P) := zr_GI k12_16
theorem k12_19 : xcd 12 19 = oI 1 20 := rfl
theorem r12_19 : zr 12 19 [v0] st u P = zr 12 20 [v0] (.int 1 :: st) u P := zr_I k12_19
theorem k12_20 : xcd 12 20 = oB (fun x y => x - y) 21 := rfl
theorem r12_20 : zr 12 20 [v0] (.int y1 :: .int y2 :: st) u P = zr 12 21 [v0] (.int (y2 - y1) :: st) u P := zr_B k12_20
theorem k12_21 : xcd 12 21 = oLd 13 22 := rfl
theorem r12_21 : zr 12 21 [v0] (.int y1 :: .ref b1 :: st) u P = ((xIs u b1 13 ∧ xinb y1 (xN u b1)) ∧ zr 12 22 [v0] (.int (xI u b1 (xix y1)) :: st) u P) := zr_Ld k12_21
theorem k12_22 : xcd 12 22 = oRi 0 := rfl
theorem r12_22 : zr 12 22 [v0] [.int y1] u P = P (some (.int y1)) u := zr_Ri k12_22
theorem k13_0 : xcd 13 0 = oI 0 1 := rfl
theorem r13_0 : zr 13 0 [v0, v1, v2, v3] st u P = zr 13 1 [v0, v1, v2, v3] (.int 0 :: st) u P := zr_I k13_0
theorem k13_1 : xcd 13 1 = oIs 2 2 := rfl
theorem r13_1 : zr 13 1 [v0, .int x1, v2, v3] (.int y1 :: st) u P = zr 13 2 [v0, .int x1, .int y1, v3] st u P := zr_Is k13_1 ⟨Nat.le_of_ble_eq_true rfl, rfl⟩
theorem k13_2 : xcd 13 2 = oI 0 3 := rfl
theorem r13_2 : zr 13 2 [v0, v1, v2, v3] st u P = zr 13 3 [v0, v1, v2, v3] (.int 0 :: st) u P := zr_I k13_2
theorem k13_3 : xcd 13 3 = oIs 3 4 := rfl
theorem r13_3 : zr 13 3 [v0, v1, .int x2, v3] (.int y1 :: st) u P = zr 13 4 [v0, v1, .int x2, .int y1] st u P := zr_Is k13_3 ⟨Nat.le_of_ble_eq_true rfl, rfl⟩
theorem k13_4 : xcd 13 4 = oIl 3 5 := rfl
theorem r13_4 : zr 13 4 [v0, v1, v2, .int x3] st u P = zr 13 5 [v0, v1, v2, .int x3] (.int x3 :: st) u P := zr_Il k13_4 rfl
theorem k13_5 : xcd 13 5 = oAl 0 6 := rfl
theorem r13_5 : zr 13 5 [.ref a0, v1, v2, v3] st u P = zr 13 6 [.ref a0, v1, v2, v3] (.ref a0 :: st) u P := zr_Al k13_5 rfl
theorem k13_6 : xcd 13 6 = oGI 1 0 9 := rfl
theorem r13_6 : zr 13 6 [v0, v1, v2, v3] (.ref b1 :: st) u P = (xIs u b1 1 ∧ zr 13 9 [v0, v1, v2, v3] (.int (xI u b1 0) :: st) u P) := zr_GI k13_6
theorem k13_9 : xcd 13 9 = oCmp (fun x y => decide (y ≤ x)) 42 12 := rfl
theorem r13_9 : zr 13 9 [v0, v1, v2, v3] (.int y1 :: .int y2 :: st) u P = (if y1 ≤ y2 then zr 13 42 [v0, v1, v2, v3] st u P else zr 13 12 [v0, v1, v2, v3] st u P) := zr_Cmp k13_9
theorem k13_12 : xcd 13 12 = oIl 2 13 := rfl
theorem r13_12 : zr 13 12 [v0, v1, .int x2, v3] st u P = zr 13 13 [v0, v1, .int x2, v3] (.int x2 :: st) u P := zr_Il k13_12 rfl
theorem k13_13 : xcd 13 13 = oAl 0 14 := rfl
theorem r13_13 : zr 13 13 [.ref a0, v1, v2, v3] st u P = zr 13 14 [.ref a0, v1, v2, v3] (.ref a0 :: st) u P := zr_Al k13_13 rfl
theorem k13_14 : xcd 13 14 = oGR 1 1 17 := rfl
theorem r13_14 : zr 13 14 [v0, v1, v2, v3] (.ref b1 :: st) u P = (xIs u b1 1 ∧ ∃ b, xR u b1 1 = some b ∧ zr 13 17 [v0, v1, v2, v3] (.ref b :: st) u P) := zr_GR k13_14
theorem k13_17 : xcd 13 17 = oIl 3 18 := rfl
theorem r13_17 : zr 13 17 [v0, v1, v2, .int x3] st u P = zr 13 18 [v0, v1, v2, .int x3] (.int x3 :: st) u P := zr_Il k13_17 rfl
theorem k13_18 : xcd 13 18 = oLdR 19 := rfl
theorem r13_18 : zr 13 18 [v0, v1, v2, v3] (.int y1 :: .ref b1 :: st) u P = ((xIs u b1 16 ∧ xinb y1 (xN u b1)) ∧ ∃ b, xR u b1 (xix y1) = some b ∧ zr 13 19 [v0, v1, v2, v3] (.ref b :: st) u P) := zr_LdR k13_18
theorem k13_19 : xcd 13 19 = oGI 5 7 22 := rfl
theorem r13_19 : zr 13 19 [v0, v1, v2, v3] (.ref b1 :: st) u P = (xIs u b1 5 ∧ zr 13 22 [v0, v1, v2, v3] (.int (xI u b1 7) :: st) u P) := zr_GI k13_19
theorem k13_22 : xcd 13 22 = oIl 1 23 := rfl
theorem r13_22 : zr 13 22 [v0, .int x1, v2, v3] st u P = zr 13 23 [v0, .int x1, v2, v3] (.int x1 :: st) u P := zr_Il k13_22 rfl
theorem k13_23 : xcd 13 23 = oCmp (fun x y => decide (¬ x = y)) 30 26 := rfl
theorem r13_23 : zr 13 23 [v0, v1, v2, v3] (.int y1 :: .int y2 :: st) u P = (if ¬ y2 = y1 then zr 13 30 [v0, v1, v2, v3] st u P else zr 13 26 [v0, v1, v2, v3] st u P) := zr_Cmp k13_23
theorem k13_26 : xcd 13 26 = oI 1 27 := rfl
theorem r13_26 : zr 13 26 [v0, v1, v2, v3] st u P = zr 13 27 [v0, v1, v2, v3] (.int 1 :: st) u P := zr_I k13_26
theorem k13_27 : xcd 13 27 = oGoto 31 := rfl
theorem r13_27 : zr 13 27 [v0, v1, v2, v3] st u P = zr 13 31 [v0, v1, v2, v3] st u P := zr_Goto k13_27
theorem k13_30 : xcd 13 30 = oI 0 31 := rfl
theorem r13_30 : zr 13 30 [v0, v1, v2, v3] st u P = zr 13 31 [v0, v1, v2, v3] (.int 0 :: st) u P := zr_I k13_30
theorem k13_31 : xcd 13 31 = oCal 165 1 34 := rfl
theorem r13_31 : zr 13 31 [v0, v1, v2, v3] (.int y1 :: st) u P = (xcat st ≤ 8 ∧ zr 165 0 [.int y1] [] u (fun r u2 => zr 13 34 [v0, v1, v2, v3] (r.toList ++ st) u2 P)) := zr_CS k13_31 (Nat.le_add_left _ _) rfl rfl ⟨Nat.le_of_ble_eq_true rfl, Nat.succ_ne_zero _, by decide⟩ rfl
theorem k13_34 : xcd 13 34 = oB (fun x y => x + y) 35 := rfl
theorem r13_34 : zr 13 34 [v0, v1, v2, v3] (.int y1 :: .int y2 :: st) u P = zr 13 35 [v0, v1, v2, v3] (.int (y2 + y1) :: st) u P := zr_B k13_34
theorem k13_35 : xcd 13 35 = oIs 2 36 := rfl
theorem r13_35 : zr 13 35 [v0, .int x1, v2, v3] (.int y1 :: st) u P = zr 13 36 [v0, .int x1, .int y1, v3] st u P := zr_Is k13_35 ⟨Nat.le_of_ble_eq_true rfl, rfl⟩
theorem k13_36 : xcd 13 36 = oInc 3 1 39 := rfl
theorem r13_36 : zr 13 36 [v0, v1, .int x2, .int x3] st u P = zr 13 39 [v0, v1, .int x2, .int (x3 + 1)] st u P := zr_Inc k13_36 rfl rfl
theorem k13_39 : xcd 13 39 = oGoto 4 := rfl
theorem r13_39 : zr 13 39 [v0, v1, v2, v3] st u P = zr 13 4 [v0, v1, v2, v3] st u P := zr_Goto k13_39
theorem k13_42 : xcd 13 42 = oIl 2 43 := rfl
theorem r13_42 : zr 13 42 [v0, v1, .int x2, v3] st u P = zr 13 43 [v0, v1, .int x2, v3] (.int x2 :: st) u P := zr_Il k13_42 rfl
theorem k13_43 : xcd 13 43 = oRi 0 := rfl
theorem r13_43 : zr 13 43 [v0, v1, v2, v3] [.int y1] u P = P (some (.int y1)) u := zr_Ri k13_43
theorem k14_0 : xcd 14 0 = oI 0 1 := rfl
theorem r14_0 : zr 14 0 [v0, v1, v2, v3, v4] st u P = zr 14 1 [v0, v1, v2, v3, v4] (.int 0 :: st) u P := zr_I k14_0
theorem k14_1 : xcd 14 1 = oIs 3 2 := rfl
theorem r14_1 : zr 14 1 [v0, v1, .int x2, v3, v4] (.int y1 :: st) u P = zr 14 2 [v0, v1, .int x2, .int y1, v4] st u P := zr_Is k14_1 ⟨Nat.le_of_ble_eq_true rfl, rfl⟩
theorem k14_2 : xcd 14 2 = oI 0 3 := rfl
theorem r14_2 : zr 14 2 [v0, v1, v2, v3, v4] st u P = zr 14 3 [v0, v1, v2, v3, v4] (.int 0 :: st) u P := zr_I k14_2
theorem k14_3 : xcd 14 3 = oIs 4 5 := rfl
theorem r14_3 : zr 14 3 [v0, v1, v2, .int x3, v4] (.int y1 :: st) u P = zr 14 5 [v0, v1, v2, .int x3, .int y1] st u P := zr_Is k14_3 ⟨Nat.le_of_ble_eq_true rfl, rfl⟩
theorem k14_5 : xcd 14 5 = oIl 4 7 := rfl
theorem r14_5 : zr 14 5 [v0, v1, v2, v3, .int x4] st u P = zr 14 7 [v0, v1, v2, v3, .int x4] (.int x4 :: st) u P := zr_Il k14_5 rfl
theorem k14_7 : xcd 14 7 = oI 10 9 := rfl
theorem r14_7 : zr 14 7 [v0, v1, v2, v3, v4] st u P = zr 14 9 [v0, v1, v2, v3, v4] (.int 10 :: st) u P := zr_I k14_7
theorem k14_9 : xcd 14 9 = oCmp (fun x y => decide (y ≤ x)) 44 12 := rfl
theorem r14_9 : zr 14 9 [v0, v1, v2, v3, v4] (.int y1 :: .int y2 :: st) u P = (if y1 ≤ y2 then zr 14 44 [v0, v1, v2, v3, v4] st u P else zr 14 12 [v0, v1, v2, v3, v4] st u P) := zr_Cmp k14_9
theorem k14_12 : xcd 14 12 = oIl 2 13 := rfl
theorem r14_12 : zr 14 12 [v0, v1, .int x2, v3, v4] st u P = zr 14 13 [v0, v1, .int x2, v3, v4] (.int x2 :: st) u P := zr_Il k14_12 rfl
theorem k14_13 : xcd 14 13 = oI (-1) 14 := rfl
theorem r14_13 : zr 14 13 [v0, v1, v2, v3, v4] st u P = zr 14 14 [v0, v1, v2, v3, v4] (.int (-1) :: st) u P := zr_I k14_13
theorem k14_14 : xcd 14 14 = oCmp (fun x y => decide (x = y)) 23 17 := rfl
theorem r14_14 : zr 14 14 [v0, v1, v2, v3, v4] (.int y1 :: .int y2 :: st) u P = (if y2 = y1 then zr 14 23 [v0, v1, v2, v3, v4] st u P else zr 14 17 [v0, v1, v2, v3, v4] st u P) := zr_Cmp k14_14
theorem k14_17 : xcd 14 17 = oIl 2 18 := rfl
theorem r14_17 : zr 14 17 [v0, v1, .int x2, v3, v4] st u P = zr 14 18 [v0, v1, .int x2, v3, v4] (.int x2 :: st) u P := zr_Il k14_17 rfl
theorem k14_18 : xcd 14 18 = oIl 4 20 := rfl
theorem r14_18 : zr 14 18 [v0, v1, v2, v3, .int x4] st u P = zr 14 20 [v0, v1, v2, v3, .int x4] (.int x4 :: st) u P := zr_Il k14_18 rfl
theorem k14_20 : xcd 14 20 = oCmp (fun x y => decide (¬ x = y)) 38 23 := rfl
theorem r14_20 : zr 14 20 [v0, v1, v2, v3, v4] (.int y1 :: .int y2 :: st) u P = (if ¬ y2 = y1 then zr 14 38 [v0, v1, v2, v3, v4] st u P else zr 14 23 [v0, v1, v2, v3, v4] st u P) := zr_Cmp k14_20
theorem k14_23 : xcd 14 23 = oIl 3 24 := rfl
theorem r14_23 : zr 14 23 [v0, v1, v2, .int x3, v4] st u P = zr 14 24 [v0, v1, v2, .int x3, v4] (.int x3 :: st) u P := zr_Il k14_23 rfl
theorem k14_24 : xcd 14 24 = oAl 0 25 := rfl
theorem r14_24 : zr 14 24 [.ref a0, v1, v2, v3, v4] st u P = zr 14 25 [.ref a0, v1, v2, v3, v4] (.ref a0 :: st) u P := zr_Al k14_24 rfl
theorem k14_25 : xcd 14 25 = oGR 1 4 28 := rfl
theorem r14_25 : zr 14 25 [v0, v1, v2, v3, v4] (.ref b1 :: st) u P = (xIs u b1 1 ∧ ∃ b, xR u b1 4 = some b ∧ zr 14 28 [v0, v1, v2, v3, v4] (.ref b :: st) u P) := zr_GR k14_25
theorem k14_28 : xcd 14 28 = oIl 1 29 := rfl
theorem r14_28 : zr 14 28 [v0, .int x1, v2, v3, v4] st u P = zr 14 29 [v0, .int x1, v2, v3, v4] (.int x1 :: st) u P := zr_Il k14_28 rfl
theorem k14_29 : xcd 14 29 = oI 10 31 := rfl
theorem r14_29 : zr 14 29 [v0, v1, v2, v3, v4] st u P = zr 14 31 [v0, v1, v2, v3, v4] (.int 10 :: st) u P := zr_I k14_29
theorem k14_31 : xcd 14 31 = oB (fun x y => x * y) 32 := rfl
theorem r14_31 : zr 14 31 [v0, v1, v2, v3, v4] (.int y1 :: .int y2 :: st) u P = zr 14 32 [v0, v1, v2, v3, v4] (.int (y2 * y1) :: st) u P := zr_B k14_31
theorem k14_32 : xcd 14 32 = oIl 4 34 := rfl
theorem r14_32 : zr 14 32 [v0, v1, v2, v3, .int x4] st u P = zr 14 34 [v0, v1, v2, v3, .int x4] (.int x4 :: st) u P := zr_Il k14_32 rfl
theorem k14_34 : xcd 14 34 = oB (fun x y => x + y) 35 := rfl
theorem r14_34 : zr 14 34 [v0, v1, v2, v3, v4] (.int y1 :: .int y2 :: st) u P = zr 14 35 [v0, v1, v2, v3, v4] (.int (y2 + y1) :: st) u P := zr_B k14_34
theorem k14_35 : xcd 14 35 = oLd 13 36 := rfl
theorem r14_35 : zr 14 35 [v0, v1, v2, v3, v4] (.int y1 :: .ref b1 :: st) u P = ((xIs u b1 13 ∧ xinb y1 (xN u b1)) ∧ zr 14 36 [v0, v1, v2, v3, v4] (.int (xI u b1 (xix y1)) :: st) u P) := zr_Ld k14_35
theorem k14_36 : xcd 14 36 = oB (fun x y => x + y) 37 := rfl
theorem r14_36 : zr 14 36 [v0, v1, v2, v3, v4] (.int y1 :: .int y2 :: st) u P = zr 14 37 [v0, v1, v2, v3, v4] (.int (y2 + y1) :: st) u P := zr_B k14_36
theorem k14_37 : xcd 14 37 = oIs 3 38 := rfl
theorem r14_37 : zr 14 37 [v0, v1, .int x2, v3, v4] (.int y1 :: st) u P = zr 14 38 [v0, v1, .int x2, .int y1, v4] st u P := zr_Is k14_37 ⟨Nat.le_of_ble_eq_true rfl, rfl⟩
theorem k14_38 : xcd 14 38 = oInc 4 1 41 := rfl
theorem r14_38 : zr 14 38 [v0, v1, v2, .int x3, .int x4] st u P = zr 14 41 [v0, v1, v2, .int x3, .int (x4 + 1)] st u P := zr_Inc k14_38 rfl rfl
theorem k14_41 : xcd 14 41 = oGoto 5 := rfl
theorem r14_41 : zr 14 41 [v0, v1, v2, v3, v4] st u P = zr 14 5 [v0, v1, v2, v3, v4] st u P := zr_Goto k14_41
theorem k14_44 : xcd 14 44 = oIl 3 45 := rfl
theorem r14_44 : zr 14 44 [v0, v1, v2, .int x3, v4] st u P = zr 14 45 [v0, v1, v2, .int x3, v4] (.int x3 :: st) u P := zr_Il k14_44 rfl
theorem k14_45 : xcd 14 45 = oRi 0 := rfl
theorem r14_45 : zr 14 45 [v0, v1, v2, v3, v4] [.int y1] u P = P (some (.int y1)) u := zr_Ri k14_45
theorem k15_0 : xcd 15 0 = oI 0 1 := rfl
theorem r15_0 : zr 15 0 [v0, v1, v2, v3, v4] st u P = zr 15 1 [v0, v1, v2, v3, v4] (.int 0 :: st) u P := zr_I k15_0
theorem k15_1 : xcd 15 1 = oIs 3 2 := rfl
theorem r15_1 : zr 15 1 [v0, v1, .int x2, v3, v4] (.int y1 :: st) u P = zr 15 2 [v0, v1, .int x2, .int y1, v4] st u P := zr_Is k15_1 ⟨Nat.le_of_ble_eq_true rfl, rfl⟩
theorem k15_2 : xcd 15 2 = oI 0 3 := rfl
theorem r15_2 : zr 15 2 [v0, v1, v2, v3, v4] st u P = zr 15 3 [v0, v1, v2, v3, v4] (.int 0 :: st) u P := zr_I k15_2
theorem k15_3 : xcd 15 3 = oIs 4 5 := rfl
theorem r15_3 : zr 15 3 [v0, v1, v2, .int x3, v4] (.int y1 :: st) u P = zr 15 5 [v0, v1, v2, .int x3, .int y1] st u P := zr_Is k15_3 ⟨Nat.le_of_ble_eq_true rfl, rfl⟩
theorem k15_5 : xcd 15 5 = oIl 4 7 := rfl
theorem r15_5 : zr 15 5 [v0, v1, v2, v3, .int x4] st u P = zr 15 7 [v0, v1, v2, v3, .int x4] (.int x4 :: st) u P := zr_Il k15_5 rfl
theorem k15_7 : xcd 15 7 = oAl 0 8 := rfl
theorem r15_7 : zr 15 7 [.ref a0, v1, v2, v3, v4] st u P = zr 15 8 [.ref a0, v1, v2, v3, v4] (.ref a0 :: st) u P := zr_Al k15_7 rfl
theorem k15_8 : xcd 15 8 = oGI 1 0 11 := rfl
theorem r15_8 : zr 15 8 [v0, v1, v2, v3, v4] (.ref b1 :: st) u P = (xIs u b1 1 ∧ zr 15 11 [v0, v1, v2, v3, v4] (.int (xI u b1 0) :: st) u P) := zr_GI k15_8
theorem k15_11 : xcd 15 11 = oCmp (fun x y => decide (y ≤ x)) 48 14 := rfl
theorem r15_11 : zr 15 11 [v0, v1, v2, v3, v4] (.int y1 :: .int y2 :: st) u P = (if y1 ≤ y2 then zr 15 48 [v0, v1, v2, v3, v4] st u P else zr 15 14 [v0, v1, v2, v3, v4] st u P) := zr_Cmp k15_11
theorem k15_14 : xcd 15 14 = oAl 0 15 := rfl
theorem r15_14 : zr 15 14 [.ref a0, v1, v2, v3, v4] st u P = zr 15 15 [.ref a0, v1, v2, v3, v4] (.ref a0 :: st) u P := zr_Al k15_14 rfl
theorem k15_15 : xcd 15 15 = oGR 1 1 18 := rfl
theorem r15_15 : zr 15 15 [v0, v1, v2, v3, v4] (.ref b1 :: st) u P = (xIs u b1 1 ∧ ∃ b, xR u b1 1 = some b ∧ zr 15 18 [v0, v1, v2, v3, v4] (.ref b :: st) u P) := zr_GR k15_15
theorem k15_18 : xcd 15 18 = oIl 4 20 := rfl
theorem r15_18 : zr 15 18 [v0, v1, v2, v3, .int x4] st u P = zr 15 20 [v0, v1, v2, v3, .int x4] (.int x4 :: st) u P := zr_Il k15_18 rfl
theorem k15_20 : xcd 15 20 = oLdR 21 := rfl
theorem r15_20 : zr 15 20 [v0, v1, v2, v3, v4] (.int y1 :: .ref b1 :: st) u P = ((xIs u b1 16 ∧ xinb y1 (xN u b1)) ∧ ∃ b, xR u b1 (xix y1) = some b ∧ zr 15 21 [v0, v1, v2, v3, v4] (.ref b :: st) u P) := zr_LdR k15_20
theorem k15_21 : xcd 15 21 = oGI 5 0 24 := rfl
theorem r15_21 : zr 15 21 [v0, v1, v2, v3, v4] (.ref b1 :: st) u P = (xIs u b1 5 ∧ zr 15 24 [v0, v1, v2, v3, v4] (.int (xI u b1 0) :: st) u P) := zr_GI k15_21
theorem k15_24 : xcd 15 24 = oIl 1 25 := rfl
theorem r15_24 : zr 15 24 [v0, .int x1, v2, v3, v4] st u P = zr 15 25 [v0, .int x1, v2, v3, v4] (.int x1 :: st) u P := zr_Il k15_24 rfl
theorem k15_25 : xcd 15 25 = oCmp (fun x y => decide (y < x)) 42 28 := rfl
theorem r15_25 : zr 15 25 [v0, v1, v2, v3, v4] (.int y1 :: .int y2 :: st) u P = (if y1 < y2 then zr 15 42 [v0, v1, v2, v3, v4] st u P else zr 15 28 [v0, v1, v2, v3, v4] st u P) := zr_Cmp k15_25
theorem k15_28 : xcd 15 28 = oIl 3 29 := rfl
theorem r15_28 : zr 15 28 [v0, v1, v2, .int x3, v4] st u P = zr 15 29 [v0, v1, v2, .int x3, v4] (.int x3 :: st) u P := zr_Il k15_28 rfl
theorem k15_29 : xcd 15 29 = oAl 0 30 := rfl
theorem r15_29 : zr 15 29 [.ref a0, v1, v2, v3, v4] st u P = zr 15 30 [.ref a0, v1, v2, v3, v4] (.ref a0 :: st) u P := zr_Al k15_29 rfl
theorem k15_30 : xcd 15 30 = oGR 1 1 33 := rfl
theorem r15_30 : zr 15 30 [v0, v1, v2, v3, v4] (.ref b1 :: st) u P = (xIs u b1 1 ∧ ∃ b, xR u b1 1 = some b ∧ zr 15 33 [v0, v1, v2, v3, v4] (.ref b :: st) u P) := zr_GR k15_30
theorem k15_33 : xcd 15 33 = oIl 4 35 := rfl
theorem r15_33 : zr 15 33 [v0, v1, v2, v3, .int x4] st u P = zr 15 35 [v0, v1, v2, v3, .int x4] (.int x4 :: st) u P := zr_Il k15_33 rfl
theorem k15_35 : xcd 15 35 = oLdR 36 := rfl
theorem r15_35 : zr 15 35 [v0, v1, v2, v3, v4] (.int y1 :: .ref b1 :: st) u P = ((xIs u b1 16 ∧ xinb y1 (xN u b1)) ∧ ∃ b, xR u b1 (xix y1) = some b ∧ zr 15 36 [v0, v1, v2, v3, v4] (.ref b :: st) u P) := zr_LdR k15_35
theorem k15_36 : xcd 15 36 = oIl 2 37 := rfl
theorem r15_36 : zr 15 36 [v0, v1, .int x2, v3, v4] st u P = zr 15 37 [v0, v1, .int x2, v3, v4] (.int x2 :: st) u P := zr_Il k15_36 rfl
theorem k15_37 : xcd 15 37 = oCalV 5 58 1 40 := rfl
theorem r15_37 : zr 15 37 [v0, v1, v2, v3, v4] (.int y1 :: .ref b8 :: st) u P = ((xIs u b8 5 ∧ xcat st ≤ 8) ∧ zr 58 0 [.ref b8, .int y1, .null, .null] [] u (fun r u2 => zr 15 40 [v0, v1, v2, v3, v4] (r.toList ++ st) u2 P)) := zr_CV k15_37 rfl rfl rfl ⟨Nat.le_of_ble_eq_true rfl, Nat.succ_ne_zero _, by decide⟩ rfl
theorem k15_40 : xcd 15 40 = oB (fun x y => x + y) 41 := rfl
theorem r15_40 : zr 15 40 [v0, v1, v2, v3, v4] (.int y1 :: .int y2 :: st) u P = zr 15 41 [v0, v1, v2, v3, v4] (.int (y2 + y1) :: st) u P := zr_B k15_40
theorem k15_41 : xcd 15 41 = oIs 3 42 := rfl
theorem r15_41 : zr 15 41 [v0, v1, .int x2, v3, v4] (.int y1 :: st) u P = zr 15 42 [v0, v1, .int x2, .int y1, v4] st u P := zr_Is k15_41 ⟨Nat.le_of_ble_eq_true rfl, rfl⟩
theorem k15_42 : xcd 15 42 = oInc 4 1 45 := rfl
theorem r15_42 : zr 15 42 [v0, v1, v2, .int x3, .int x4] st u P = zr 15 45 [v0, v1, v2, .int x3, .int (x4 + 1)] st u P := zr_Inc k15_42 rfl rfl
theorem k15_45 : xcd 15 45 = oGoto 5 := rfl
theorem r15_45 : zr 15 45 [v0, v1, v2, v3, v4] st u P = zr 15 5 [v0, v1, v2, v3, v4] st u P := zr_Goto k15_45
theorem k15_48 : xcd 15 48 = oI 0 49 := rfl
theorem r15_48 : zr 15 48 [v0, v1, v2, v3, v4] st u P = zr 15 49 [v0, v1, v2, v3, v4] (.int 0 :: st) u P := zr_I k15_48
theorem k15_49 : xcd 15 49 = oIs 4 51 := rfl
theorem r15_49 : zr 15 49 [v0, v1, v2, .int x3, v4] (.int y1 :: st) u P = zr 15 51 [v0, v1, v2, .int x3, .int y1] st u P := zr_Is k15_49 ⟨Nat.le_of_ble_eq_true rfl, rfl⟩
theorem k15_51 : xcd 15 51 = oIl 4 53 := rfl
theorem r15_51 : zr 15 51 [v0, v1, v2, v3, .int x4] st u P = zr 15 53 [v0, v1, v2, v3, .int x4] (.int x4 :: st) u P := zr_Il k15_51 rfl
theorem k15_53 : xcd 15 53 = oAl 0 54 := rfl
theorem r15_53 : zr 15 53 [.ref a0, v1, v2, v3, v4] st u P = zr 15 54 [.ref a0, v1, v2, v3, v4] (.ref a0 :: st) u P := zr_Al k15_53 rfl
theorem k15_54 : xcd 15 54 = oGI 1 2 57 := rfl
theorem r15_54 : zr 15 54 [v0, v1, v2, v3, v4] (.ref b1 :: st) u P = (xIs u b1 1 ∧ zr 15 57 [v0, v1, v2, v3, v4] (.int (xI u b1 2) :: st) u P) := zr_GI k15_54
theorem k15_57 : xcd 15 57 = oCmp (fun x y => decide (y ≤ x)) 76 60 := rfl
theorem r15_57 : zr 15 57 [v0, v1, v2, v3, v4] (.int y1 :: .int y2 :: st) u P = (if y1 ≤ y2 then zr 15 76 [v0, v1, v2, v3, v4] st u P else zr 15 60 [v0, v1, v2, v3, v4] st u P) := zr_Cmp k15_57
theorem k15_60 : xcd 15 60 = oIl 3 61 := rfl
theorem r15_60 : zr 15 60 [v0, v1, v2, .int x3, v4] st u P = zr 15 61 [v0, v1, v2, .int x3, v4] (.int x3 :: st) u P := zr_Il k15_60 rfl
theorem k15_61 : xcd 15 61 = oAl 0 62 := rfl
theorem r15_61 : zr 15 61 [.ref a0, v1, v2, v3, v4] st u P = zr 15 62 [.ref a0, v1, v2, v3, v4] (.ref a0 :: st) u P := zr_Al k15_61 rfl
theorem k15_62 : xcd 15 62 = oIl 4 64 := rfl
theorem r15_62 : zr 15 62 [v0, v1, v2, v3, .int x4] st u P = zr 15 64 [v0, v1, v2, v3, .int x4] (.int x4 :: st) u P := zr_Il k15_62 rfl
theorem k15_64 : xcd 15 64 = oIl 2 65 := rfl
theorem r15_64 : zr 15 64 [v0, v1, .int x2, v3, v4] st u P = zr 15 65 [v0, v1, .int x2, v3, v4] (.int x2 :: st) u P := zr_Il k15_64 rfl
theorem k15_65 : xcd 15 65 = oCalV 1 14 2 68 := rfl
theorem r15_65 : zr 15 65 [v0, v1, v2, v3, v4] (.int y2 :: .int y1 :: .ref b8 :: st) u P = ((xIs u b8 1 ∧ xcat st ≤ 8) ∧ zr 14 0 [.ref b8, .int y1, .int y2, .null, .null] [] u (fun r u2 => zr 15 68 [v0, v1, v2, v3, v4] (r.toList ++ st) u2 P)) := zr_CV k15_65 rfl rfl rfl ⟨Nat.le_of_ble_eq_true rfl, Nat.succ_ne_zero _, by decide⟩ rfl
theorem k15_68 : xcd 15 68 = oB (fun x y => x - y) 69 := rfl
theorem r15_68 : zr 15 68 [v0, v1, v2, v3, v4] (.int y1 :: .int y2 :: st) u P = zr 15 69 [v0, v1, v2, v3, v4] (.int (y2 - y1) :: st) u P := zr_B k15_68
theorem k15_69 : xcd 15 69 = oIs 3 70 := rfl
theorem r15_69 : zr 15 69 [v0, v1, .int x2, v3, v4] (.int y1 :: st) u P = zr 15 70 [v0, v1, .int x2, .int y1, v4] st u P := zr_Is k15_69 ⟨Nat.le_of_ble_eq_true rfl, rfl⟩
theorem k15_70 : xcd 15 70 = oInc 4 1 73 := rfl
theorem r15_70 : zr 15 70 [v0, v1, v2, .int x3, .int x4] st u P = zr 15 73 [v0, v1, v2, .int x3, .int (x4 + 1)] st u P := zr_Inc k15_70 rfl rfl
theorem k15_73 : xcd 15 73 = oGoto 51 := rfl
theorem r15_73 : zr 15 73 [v0, v1, v2, v3, v4] st u P = zr 15 51 [v0, v1, v2, v3, v4] st u P := zr_Goto k15_73
theorem k15_76 : xcd 15 76 = oIl 3 77 := rfl
theorem r15_76 : zr 15 76 [v0, v1, v2, .int x3, v4] st u P = zr 15 77 [v0, v1, v2, .int x3, v4] (.int x3 :: st) u P := zr_Il k15_76 rfl
theorem k15_77 : xcd 15 77 = oRi 0 := rfl
theorem r15_77 : zr 15 77 [v0, v1, v2, v3, v4] [.int y1] u P = P (some (.int y1)) u := zr_Ri k15_77
theorem k16_0 : xcd 16 0 = oI 0 1 := rfl
theorem r16_0 : zr 16 0 [v0, v1, v2] st u P = zr 16 1 [v0, v1, v2] (.int 0 :: st) u P := zr_I k16_0
theorem k16_1 : xcd 16 1 = oIs 2 2 := rfl
theorem r16_1 : zr 16 1 [v0, .int x1, v2] (.int y1 :: st) u P = zr 16 2 [v0, .int x1, .int y1] st u P := zr_Is k16_1 ⟨Nat.le_of_ble_eq_true rfl, rfl⟩
theorem k16_2 : xcd 16 2 = oIl 2 3 := rfl
theorem r16_2 : zr 16 2 [v0, v1, .int x2] st u P = zr 16 3 [v0, v1, .int x2] (.int x2 :: st) u P := zr_Il k16_2 rfl
theorem k16_3 : xcd 16 3 = oI 10 5 := rfl
theorem r16_3 : zr 16 3 [v0, v1, v2] st u P = zr 16 5 [v0, v1, v2] (.int 10 :: st) u P := zr_I k16_3
theorem k16_5 : xcd 16 5 = oCmp (fun x y => decide (y ≤ x)) 34 8 := rfl
theorem r16_5 : zr 16 5 [v0, v1, v2] (.int y1 :: .int y2 :: st) u P = (if y1 ≤ y2 then zr 16 34 [v0, v1, v2] st u P else zr 16 8 [v0, v1, v2] st u P) := zr_Cmp k16_5
theorem k16_8 : xcd 16 8 = oAl 0 9 := rfl
theorem r16_8 : zr 16 8 [.ref a0, v1, v2] st u P = zr 16 9 [.ref a0, v1, v2] (.ref a0 :: st) u P := zr_Al k16_8 rfl
theorem k16_9 : xcd 16 9 = oGR 1 4 12 := rfl
theorem r16_9 : zr 16 9 [v0, v1, v2] (.ref b1 :: st) u P = (xIs u b1 1 ∧ ∃ b, xR u b1 4 = some b ∧ zr 16 12 [v0, v1, v2] (.ref b :: st) u P) := zr_GR k16_9
theorem k16_12 : xcd 16 12 = oAl 0 13 := rfl
theorem r16_12 : zr 16 12 [.ref a0, v1, v2] st u P = zr 16 13 [.ref a0, v1, v2] (.ref a0 :: st) u P := zr_Al k16_12 rfl
theorem k16_13 : xcd 16 13 = oGI 1 2 16 := rfl
theorem r16_13 : zr 16 13 [v0, v1, v2] (.ref b1 :: st) u P = (xIs u b1 1 ∧ zr 16 16 [v0, v1, v2] (.int (xI u b1 2) :: st) u P) := zr_GI k16_13
theorem k16_16 : xcd 16 16 = oI 10 18 := rfl
theorem r16_16 : zr 16 16 [v0, v1, v2] st u P = zr 16 18 [v0, v1, v2] (.int 10 :: st) u P := zr_I k16_16
theorem k16_18 : xcd 16 18 = oB (fun x y => x * y) 19 := rfl
theorem r16_18 : zr 16 18 [v0, v1, v2] (.int y1 :: .int y2 :: st) u P = zr 16 19 [v0, v1, v2] (.int (y2 * y1) :: st) u P := zr_B k16_18
theorem k16_19 : xcd 16 19 = oIl 2 20 := rfl
theorem r16_19 : zr 16 19 [v0, v1, .int x2] st u P = zr 16 20 [v0, v1, .int x2] (.int x2 :: st) u P := zr_Il k16_19 rfl
theorem k16_20 : xcd 16 20 = oB (fun x y => x + y) 21 := rfl
theorem r16_20 : zr 16 20 [v0, v1, v2] (.int y1 :: .int y2 :: st) u P = zr 16 21 [v0, v1, v2] (.int (y2 + y1) :: st) u P := zr_B k16_20
theorem k16_21 : xcd 16 21 = oAl 0 22 := rfl
theorem r16_21 : zr 16 21 [.ref a0, v1, v2] st u P = zr 16 22 [.ref a0, v1, v2] (.ref a0 :: st) u P := zr_Al k16_21 rfl
theorem k16_22 : xcd 16 22 = oIl 1 23 := rfl
theorem r16_22 : zr 16 22 [v0, .int x1, v2] st u P = zr 16 23 [v0, .int x1, v2] (.int x1 :: st) u P := zr_Il k16_22 rfl
theorem k16_23 : xcd 16 23 = oIl 2 24 := rfl
theorem r16_23 : zr 16 23 [v0, v1, .int x2] st u P = zr 16 24 [v0, v1, .int x2] (.int x2 :: st) u P := zr_Il k16_23 rfl
theorem k16_24 : xcd 16 24 = oCalV 1 15 2 27 := rfl
theorem r16_24 : zr 16 24 [v0, v1, v2] (.int y2 :: .int y1 :: .ref b8 :: st) u P = ((xIs u b8 1 ∧ xcat st ≤ 8) ∧ zr 15 0 [.ref b8, .int y1, .int y2, .null, .null] [] u (fun r u2 => zr 16 27 [v0, v1, v2] (r.toList ++ st) u2 P)) := zr_CV k16_24 rfl rfl rfl ⟨Nat.le_of_ble_eq_true rfl, Nat.succ_ne_zero _, by decide⟩ rfl
theorem k16_27 : xcd 16 27 = oSt 13 (fun x => x) 28 := rfl
theorem r16_27 : zr 16 27 [v0, v1, v2] (.int y2 :: .int y1 :: .ref b1 :: st) u P = ((xIs u b1 13 ∧ xinb y1 (xN u b1)) ∧ zr 16 28 [v0, v1, v2] st (xsI u b1 (xix y1) y2) P) := zr_St k16_27
theorem k16_28 : xcd 16 28 = oInc 2 1 31 := rfl
theorem r16_28 : zr 16 28 [v0, .int x1, .int x2] st u P = zr 16 31 [v0, .int x1, .int (x2 + 1)] st u P := zr_Inc k16_28 rfl rfl
theorem k16_31 : xcd 16 31 = oGoto 2 := rfl
theorem r16_31 : zr 16 31 [v0, v1, v2] st u P = zr 16 2 [v0, v1, v2] st u P := zr_Goto k16_31
theorem k16_34 : xcd 16 34 = oI 0 35 := rfl
theorem r16_34 : zr 16 34 [v0, v1, v2] st u P = zr 16 35 [v0, v1, v2] (.int 0 :: st) u P := zr_I k16_34
theorem k16_35 : xcd 16 35 = oIs 2 36 := rfl
theorem r16_35 : zr 16 35 [v0, .int x1, v2] (.int y1 :: st) u P = zr 16 36 [v0, .int x1, .int y1] st u P := zr_Is k16_35 ⟨Nat.le_of_ble_eq_true rfl, rfl⟩
theorem k16_36 : xcd 16 36 = oIl 2 37 := rfl
theorem r16_36 : zr 16 36 [v0, v1, .int x2] st u P = zr 16 37 [v0, v1, .int x2] (.int x2 :: st) u P := zr_Il k16_36 rfl
theorem k16_37 : xcd 16 37 = oAl 0 38 := rfl
theorem r16_37 : zr 16 37 [.ref a0, v1, v2] st u P = zr 16 38 [.ref a0, v1, v2] (.ref a0 :: st) u P := zr_Al k16_37 rfl
theorem k16_38 : xcd 16 38 = oGI 1 0 41 := rfl
theorem r16_38 : zr 16 38 [v0, v1, v2] (.ref b1 :: st) u P = (xIs u b1 1 ∧ zr 16 41 [v0, v1, v2] (.int (xI u b1 0) :: st) u P) := zr_GI k16_38
theorem k16_41 : xcd 16 41 = oCmp (fun x y => decide (y ≤ x)) 88 44 := rfl
theorem r16_41 : zr 16 41 [v0, v1, v2] (.int y1 :: .int y2 :: st) u P = (if y1 ≤ y2 then zr 16 88 [v0, v1, v2] st u P else zr 16 44 [v0, v1, v2] st u P) := zr_Cmp k16_41
theorem k16_44 : xcd 16 44 = oAl 0 45 := rfl
theorem r16_44 : zr 16 44 [.ref a0, v1, v2] st u P = zr 16 45 [.ref a0, v1, v2] (.ref a0 :: st) u P := zr_Al k16_44 rfl
theorem k16_45 : xcd 16 45 = oGR 1 1 48 := rfl
theorem r16_45 : zr 16 45 [v0, v1, v2] (.ref b1 :: st) u P = (xIs u b1 1 ∧ ∃ b, xR u b1 1 = some b ∧ zr 16 48 [v0, v1, v2] (.ref b :: st) u P) := zr_GR k16_45
theorem k16_48 : xcd 16 48 = oIl 2 49 := rfl
theorem r16_48 : zr 16 48 [v0, v1, .int x2] st u P = zr 16 49 [v0, v1, .int x2] (.int x2 :: st) u P := zr_Il k16_48 rfl
theorem k16_49 : xcd 16 49 = oLdR 50 := rfl
theorem r16_49 : zr 16 49 [v0, v1, v2] (.int y1 :: .ref b1 :: st) u P = ((xIs u b1 16 ∧ xinb y1 (xN u b1)) ∧ ∃ b, xR u b1 (xix y1) = some b ∧ zr 16 50 [v0, v1, v2] (.ref b :: st) u P) := zr_LdR k16_49
theorem k16_50 : xcd 16 50 = oGI 5 7 53 := rfl
theorem r16_50 : zr 16 50 [v0, v1, v2] (.ref b1 :: st) u P = (xIs u b1 5 ∧ zr 16 53 [v0, v1, v2] (.int (xI u b1 7) :: st) u P) := zr_GI k16_50
theorem k16_53 : xcd 16 53 = oIf (fun x => decide (0 ≤ x)) 82 56 := rfl
theorem r16_53 : zr 16 53 [v0, v1, v2] (.int y1 :: st) u P = (if 0 ≤ y1 then zr 16 82 [v0, v1, v2] st u P else zr 16 56 [v0, v1, v2] st u P) := zr_If k16_53
theorem k16_56 : xcd 16 56 = oAl 0 57 := rfl
theorem r16_56 : zr 16 56 [.ref a0, v1, v2] st u P = zr 16 57 [.ref a0, v1, v2] (.ref a0 :: st) u P := zr_Al k16_56 rfl
theorem k16_57 : xcd 16 57 = oGR 1 1 60 := rfl
theorem r16_57 : zr 16 57 [v0, v1, v2] (.ref b1 :: st) u P = (xIs u b1 1 ∧ ∃ b, xR u b1 1 = some b ∧ zr 16 60 [v0, v1, v2] (.ref b :: st) u P) := zr_GR k16_57
theorem k16_60 : xcd 16 60 = oIl 2 61 := rfl
theorem r16_60 : zr 16 60 [v0, v1, .int x2] st u P = zr 16 61 [v0, v1, .int x2] (.int x2 :: st) u P := zr_Il k16_60 rfl
theorem k16_61 : xcd 16 61 = oLdR 62 := rfl
theorem r16_61 : zr 16 61 [v0, v1, v2] (.int y1 :: .ref b1 :: st) u P = ((xIs u b1 16 ∧ xinb y1 (xN u b1)) ∧ ∃ b, xR u b1 (xix y1) = some b ∧ zr 16 62 [v0, v1, v2] (.ref b :: st) u P) := zr_LdR k16_61
theorem k16_62 : xcd 16 62 = oGI 5 0 65 := rfl
theorem r16_62 : zr 16 62 [v0, v1, v2] (.ref b1 :: st) u P = (xIs u b1 5 ∧ zr 16 65 [v0, v1, v2] (.int (xI u b1 0) :: st) u P) := zr_GI k16_62
theorem k16_65 : xcd 16 65 = oIl 1 66 := rfl
theorem r16_65 : zr 16 65 [v0, .int x1, v2] st u P = zr 16 66 [v0, .int x1, v2] (.int x1 :: st) u P := zr_Il k16_65 rfl
theorem k16_66 : xcd 16 66 = oCmp (fun x y => decide (y < x)) 82 69 := rfl
theorem r16_66 : zr 16 66 [v0, v1, v2] (.int y1 :: .int y2 :: st) u P = (if y1 < y2 then zr 16 82 [v0, v1, v2] st u P else zr 16 69 [v0, v1, v2] st u P) := zr_Cmp k16_66
theorem k16_69 : xcd 16 69 = oAl 0 70 := rfl
theorem r16_69 : zr 16 69 [.ref a0, v1, v2] st u P = zr 16 70 [.ref a0, v1, v2] (.ref a0 :: st) u P := zr_Al k16_69 rfl
theorem k16_70 : xcd 16 70 = oGR 1 1 73 := rfl
theorem r16_70 : zr 16 70 [v0, v1, v2] (.ref b1 :: st) u P = (xIs u b1 1 ∧ ∃ b, xR u b1 1 = some b ∧ zr 16 73 [v0, v1, v2] (.ref b :: st) u P) := zr_GR k16_70
theorem k16_73 : xcd 16 73 = oIl 2 74 := rfl
theorem r16_73 : zr 16 73 [v0, v1, .int x2] st u P = zr 16 74 [v0, v1, .int x2] (.int x2 :: st) u P := zr_Il k16_73 rfl
theorem k16_74 : xcd 16 74 = oLdR 75 := rfl
theorem r16_74 : zr 16 74 [v0, v1, v2] (.int y1 :: .ref b1 :: st) u P = ((xIs u b1 16 ∧ xinb y1 (xN u b1)) ∧ ∃ b, xR u b1 (xix y1) = some b ∧ zr 16 75 [v0, v1, v2] (.ref b :: st) u P) := zr_LdR k16_74
theorem k16_75 : xcd 16 75 = oAl 0 76 := rfl
theorem r16_75 : zr 16 75 [.ref a0, v1, v2] st u P = zr 16 76 [.ref a0, v1, v2] (.ref a0 :: st) u P := zr_Al k16_75 rfl
theorem k16_76 : xcd 16 76 = oGI 1 2 79 := rfl
theorem r16_76 : zr 16 76 [v0, v1, v2] (.ref b1 :: st) u P = (xIs u b1 1 ∧ zr 16 79 [v0, v1, v2] (.int (xI u b1 2) :: st) u P) := zr_GI k16_76
theorem k16_79 : xcd 16 79 = oPI 5 7 82 := rfl
theorem r16_79 : zr 16 79 [v0, v1, v2] (.int y1 :: .ref b1 :: st) u P = (xIs u b1 5 ∧ zr 16 82 [v0, v1, v2] st (xsI u b1 7 y1) P) := zr_PI k16_79
theorem k16_82 : xcd 16 82 = oInc 2 1 85 := rfl
theorem r16_82 : zr 16 82 [v0, .int x1, .int x2] st u P = zr 16 85 [v0, .int x1, .int (x2 + 1)] st u P := zr_Inc k16_82 rfl rfl
theorem k16_85 : xcd 16 85 = oGoto 36 := rfl
theorem r16_85 : zr 16 85 [v0, v1, v2] st u P = zr 16 36 [v0, v1, v2] st u P := zr_Goto k16_85
theorem k16_88 : xcd 16 88 = oAl 0 89 := rfl
theorem r16_88 : zr 16 88 [.ref a0, v1, v2] st u P = zr 16 89 [.ref a0, v1, v2] (.ref a0 :: st) u P := zr_Al k16_88 rfl
theorem k16_89 : xcd 16 89 = oGR 1 3 92 := rfl
theorem r16_89 : zr 16 89 [v0, v1, v2] (.ref b1 :: st) u P = (xIs u b1 1 ∧ ∃ b, xR u b1 3 = some b ∧ zr 16 92 [v0, v1, v2] (.ref b :: st) u P) := zr_GR k16_89
theorem k16_92 : xcd 16 92 = oAl 0 93 := rfl
theorem r16_92 : zr 16 92 [.ref a0, v1, v2] st u P = zr 16 93 [.ref a0, v1, v2] (.ref a0 :: st) u P := zr_Al k16_92 rfl
theorem k16_93 : xcd 16 93 = oGI 1 2 96 := rfl
theorem r16_93 : zr 16 93 [v0, v1, v2] (.ref b1 :: st) u P = (xIs u b1 1 ∧ zr 16 96 [v0, v1, v2] (.int (xI u b1 2) :: st) u P) := zr_GI k16_93
theorem k16_96 : xcd 16 96 = oIl 1 97 := rfl
theorem r16_96 : zr 16 96 [v0, .int x1, v2] st u P = zr 16 97 [v0, .int x1, v2] (.int x1 :: st) u P := zr_Il k16_96 rfl
theorem k16_97 : xcd 16 97 = oSt 13 (fun x => x) 98 := rfl
theorem r16_97 : zr 16 97 [v0, v1, v2] (.int y2 :: .int y1 :: .ref b1 :: st) u P = ((xIs u b1 13 ∧ xinb y1 (xN u b1)) ∧ zr 16 98 [v0, v1, v2] st (xsI u b1 (xix y1) y2) P) := zr_St k16_97
theorem k16_98 : xcd 16 98 = oAl 0 99 := rfl
theorem r16_98 : zr 16 98 [.ref a0, v1, v2] st u P = zr 16 99 [.ref a0, v1, v2] (.ref a0 :: st) u P := zr_Al k16_98 rfl
theorem k16_99 : xcd 16 99 = oDup 100 := rfl
theorem r16_99 : zr 16 99 [v0, v1, v2] (.ref b1 :: st) u P = zr 16 100 [v0, v1, v2] (.ref b1 :: .ref b1 :: st) u P := zr_DupA k16_99
theorem k16_100 : xcd 16 100 = oGI 1 2 103 := rfl
theorem r16_100 : zr 16 100 [v0, v1, v2] (.ref b1 :: st) u P = (xIs u b1 1 ∧ zr 16 103 [v0, v1, v2] (.int (xI u b1 2) :: st) u P) := zr_GI k16_100
theorem k16_103 : xcd 16 103 = oI 1 104 := rfl
theorem r16_103 : zr 16 103 [v0, v1, v2] st u P = zr 16 104 [v0, v1, v2] (.int 1 :: st) u P := zr_I k16_103
theorem k16_104 : xcd 16 104 = oB (fun x y => x + y) 105 := rfl
theorem r16_104 : zr 16 104 [v0, v1, v2] (.int y1 :: .int y2 :: st) u P = zr 16 105 [v0, v1, v2] (.int (y2 + y1) :: st) u P := zr_B k16_104
theorem k16_105 : xcd 16 105 = oPI 1 2 108 := rfl
theorem r16_105 : zr 16 105 [v0, v1, v2] (.int y1 :: .ref b1 :: st) u P = (xIs u b1 1 ∧ zr 16 108 [v0, v1, v2] st (xsI u b1 2 y1) P) := zr_PI k16_105
theorem k16_108 : xcd 16 108 = oRv 0 := rfl
theorem r16_108 : zr 16 108 [v0, v1, v2] [] u P = P none u := zr_Rv k16_108
theorem k17_0 : xcd 17 0 = oAl 0 1 := rfl
theorem r17_0 : zr 17 0 [.ref a0, v1] st u P = zr 17 1 [.ref a0, v1] (.ref a0 :: st) u P := zr_Al k17_0 rfl
theorem k17_1 : xcd 17 1 = oDup 2 := rfl
theorem r17_1 : zr 17 1 [v0, v1] (.ref b1 :: st) u P = zr 17 2 [v0, v1] (.ref b1 :: .ref b1 :: st) u P := zr_DupA k17_1
theorem k17_2 : xcd 17 2 = oGI 1 2 5 := rfl
theorem r17_2 : zr 17 2 [v0, v1] (.ref b1 :: st) u P = (xIs u b1 1 ∧ zr 17 5 [v0, v1] (.int (xI u b1 2) :: st) u P) := zr_GI k17_2
theorem k17_5 : xcd 17 5 = oI 1 6 := rfl
theorem r17_5 : zr 17 5 [v0, v1] st u P = zr 17 6 [v0, v1] (.int 1 :: st) u P := zr_I k17_5
theorem k17_6 : xcd 17 6 = oB (fun x y => x - y) 7 := rfl
theorem r17_6 : zr 17 6 [v0, v1] (.int y1 :: .int y2 :: st) u P = zr 17 7 [v0, v1] (.int (y2 - y1) :: st) u P := zr_B k17_6
theorem k17_7 : xcd 17 7 = oPI 1 2 10 := rfl
theorem r17_7 : zr 17 7 [v0, v1] (.int y1 :: .ref b1 :: st) u P = (xIs u b1 1 ∧ zr 17 10 [v0, v1] st (xsI u b1 2 y1) P) := zr_PI k17_7
theorem k17_10 : xcd 17 10 = oI 0 11 := rfl
theorem r17_10 : zr 17 10 [v0, v1] st u P = zr 17 11 [v0, v1] (.int 0 :: st) u P := zr_I k17_10
theorem k17_11 : xcd 17 11 = oIs 1 12 := rfl
theorem r17_11 : zr 17 11 [.ref a0, v1] (.int y1 :: st) u P = zr 17 12 [.ref a0, .int y1] st u P := zr_Is k17_11 ⟨Nat.le_of_ble_eq_true rfl, rfl⟩
theorem k17_12 : xcd 17 12 = oIl 1 13 := rfl
theorem r17_12 : zr 17 12 [v0, .int x1] st u P = zr 17 13 [v0, .int x1] (.int x1 :: st) u P := zr_Il k17_12 rfl
theorem k17_13 : xcd 17 13 = oAl 0 14 := rfl
theorem r17_13 : zr 17 13 [.ref a0, v1] st u P = zr 17 14 [.ref a0, v1] (.ref a0 :: st) u P := zr_Al k17_13 rfl
theorem k17_14 : xcd 17 14 = oGI 1 0 17 := rfl
theorem r17_14 : zr 17 14 [v0, v1] (.ref b1 :: st) u P = (xIs u b1 1 ∧ zr 17 17 [v0, v1] (.int (xI u b1 0) :: st) u P) := zr_GI k17_14
theorem k17_17 : xcd 17 17 = oCmp (fun x y => decide (y ≤ x)) 52 20 := rfl
theorem r17_17 : zr 17 17 [v0, v1] (.int y1 :: .int y2 :: st) u P = (if y1 ≤ y2 then zr 17 52 [v0, v1] st u P else zr 17 20 [v0, v1] st u P) := zr_Cmp k17_17
theorem k17_20 : xcd 17 20 = oAl 0 21 := rfl
theorem r17_20 : zr 17 20 [.ref a0, v1] st u P = zr 17 21 [.ref a0, v1] (.ref a0 :: st) u P := zr_Al k17_20 rfl
theorem k17_21 : xcd 17 21 = oGR 1 1 24 := rfl
theorem r17_21 : zr 17 21 [v0, v1] (.ref b1 :: st) u P = (xIs u b1 1 ∧ ∃ b, xR u b1 1 = some b ∧ zr 17 24 [v0, v1] (.ref b :: st) u P) := zr_GR k17_21
theorem k17_24 : xcd 17 24 = oIl 1 25 := rfl
theorem r17_24 : zr 17 24 [v0, .int x1] st u P = zr 17 25 [v0, .int x1] (.int x1 :: st) u P := zr_Il k17_24 rfl
theorem k17_25 : xcd 17 25 = oLdR 26 := rfl
theorem r17_25 : zr 17 25 [v0, v1] (.int y1 :: .ref b1 :: st) u P = ((xIs u b1 16 ∧ xinb y1 (xN u b1)) ∧ ∃ b, xR u b1 (xix y1) = some b ∧ zr 17 26 [v0, v1] (.ref b :: st) u P) := zr_LdR k17_25
theorem k17_26 : xcd 17 26 = oGI 5 7 29 := rfl
theorem r17_26 : zr 17 26 [v0, v1] (.ref b1 :: st) u P = (xIs u b1 5 ∧ zr 17 29 [v0, v1] (.int (xI u b1 7) :: st) u P) := zr_GI k17_26
theorem k17_29 : xcd 17 29 = oAl 0 30 := rfl
theorem r17_29 : zr 17 29 [.ref a0, v1] st u P = zr 17 30 [.ref a0, v1] (.ref a0 :: st) u P := zr_Al k17_29 rfl
theorem k17_30 : xcd 17 30 = oGI 1 2 33 := rfl
theorem r17_30 : zr 17 30 [v0, v1] (.ref b1 :: st) u P = (xIs u b1 1 ∧ zr 17 33 [v0, v1] (.int (xI u b1 2) :: st) u P) := zr_GI k17_30
theorem k17_33 : xcd 17 33 = oCmp (fun x y => decide (¬ x = y)) 46 36 := rfl
theorem r17_33 : zr 17 33 [v0, v1] (.int y1 :: .int y2 :: st) u P = (if ¬ y2 = y1 then zr 17 46 [v0, v1] st u P else zr 17 36 [v0, v1] st u P) := zr_Cmp k17_33
theorem k17_36 : xcd 17 36 = oAl 0 37 := rfl
theorem r17_36 : zr 17 36 [.ref a0, v1] st u P = zr 17 37 [.ref a0, v1] (.ref a0 :: st) u P := zr_Al k17_36 rfl
theorem k17_37 : xcd 17 37 = oGR 1 1 40 := rfl
theorem r17_37 : zr 17 37 [v0, v1] (.ref b1 :: st) u P = (xIs u b1 1 ∧ ∃ b, xR u b1 1 = some b ∧ zr 17 40 [v0, v1] (.ref b :: st) u P) := zr_GR k17_37
theorem k17_40 : xcd 17 40 = oIl 1 41 := rfl
theorem r17_40 : zr 17 40 [v0, .int x1] st u P = zr 17 41 [v0, .int x1] (.int x1 :: st) u P := zr_Il k17_40 rfl
theorem k17_41 : xcd 17 41 = oLdR 42 := rfl
theorem r17_41 : zr 17 41 [v0, v1] (.int y1 :: .ref b1 :: st) u P = ((xIs u b1 16 ∧ xinb y1 (xN u b1)) ∧ ∃ b, xR u b1 (xix y1) = some b ∧ zr 17 42 [v0, v1] (.ref b :: st) u P) := zr_LdR k17_41
theorem k17_42 : xcd 17 42 = oI (-1) 43 := rfl
theorem r17_42 : zr 17 42 [v0, v1] st u P = zr 17 43 [v0, v1] (.int (-1) :: st) u P := zr_I k17_42
theorem k17_43 : xcd 17 43 = oPI 5 7 46 := rfl
theorem r17_43 : zr 17 43 [v0, v1] (.int y1 :: .ref b1 :: st) u P = (xIs u b1 5 ∧ zr 17 46 [v0, v1] st (xsI u b1 7 y1) P) := zr_PI k17_43
theorem k17_46 : xcd 17 46 = oInc 1 1 49 := rfl
theorem r17_46 : zr 17 46 [.ref a0, .int x1] st u P = zr 17 49 [.ref a0, .int (x1 + 1)] st u P := zr_Inc k17_46 rfl rfl
theorem k17_49 : xcd 17 49 = oGoto 12 := rfl
theorem r17_49 : zr 17 49 [v0, v1] st u P = zr 17 12 [v0, v1] st u P := zr_Goto k17_49
theorem k17_52 : xcd 17 52 = oRv 0 := rfl
theorem r17_52 : zr 17 52 [v0, v1] [] u P = P none u := zr_Rv k17_52
theorem k19_0 : xcd 19 0 = oAl 0 1 := rfl
theorem r19_0 : zr 19 0 [.ref a0, v1, v2, v3] st u P = zr 19 1 [.ref a0, v1, v2, v3] (.ref a0 :: st) u P := zr_Al k19_0 rfl
theorem k19_1 : xcd 19 1 = oGI 2 0 4 := rfl
theorem r19_1 : zr 19 1 [v0, v1, v2, v3] (.ref b1 :: st) u P = (xIs u b1 2 ∧ zr 19 4 [v0, v1, v2, v3] (.int (xI u b1 0) :: st) u P) := zr_GI k19_1
theorem k19_4 : xcd 19 4 = oI 1 5 := rfl
theorem r19_4 : zr 19 4 [v0, v1, v2, v3] st u P = zr 19 5 [v0, v1, v2, v3] (.int 1 :: st) u P := zr_I k19_4
theorem k19_5 : xcd 19 5 = oB (fun x y => x - y) 6 := rfl
theorem r19_5 : zr 19 5 [v0, v1, v2, v3] (.int y1 :: .int y2 :: st) u P = zr 19 6 [v0, v1, v2, v3] (.int (y2 - y1) :: st) u P := zr_B k19_5
theorem k19_6 : xcd 19 6 = oIs 3 7 := rfl
theorem r19_6 : zr 19 6 [v0, v1, .int x2, v3] (.int y1 :: st) u P = zr 19 7 [v0, v1, .int x2, .int y1] st u P := zr_Is k19_6 ⟨Nat.le_of_ble_eq_true rfl, rfl⟩
theorem k19_7 : xcd 19 7 = oIl 3 8 := rfl
theorem r19_7 : zr 19 7 [v0, v1, v2, .int x3] st u P = zr 19 8 [v0, v1, v2, .int x3] (.int x3 :: st) u P := zr_Il k19_7 rfl
theorem k19_8 : xcd 19 8 = oIf (fun x => decide (x < 0)) 39 11 := rfl
theorem r19_8 : zr 19 8 [v0, v1, v2, v3] (.int y1 :: st) u P = (if y1 < 0 then zr 19 39 [v0, v1, v2, v3] st u P else zr 19 11 [v0, v1, v2, v3] st u P) := zr_If k19_8
theorem k19_11 : xcd 19 11 = oAl 0 12 := rfl
theorem r19_11 : zr 19 11 [.ref a0, v1, v2, v3] st u P = zr 19 12 [.ref a0, v1, v2, v3] (.ref a0 :: st) u P := zr_Al k19_11 rfl
theorem k19_12 : xcd 19 12 = oGR 2 1 15 := rfl
theorem r19_12 : zr 19 12 [v0, v1, v2, v3] (.ref b1 :: st) u P = (xIs u b1 2 ∧ ∃ b, xR u b1 1 = some b ∧ zr 19 15 [v0, v1, v2, v3] (.ref b :: st) u P) := zr_GR k19_12
theorem k19_15 : xcd 19 15 = oIl 3 16 := rfl
theorem r19_15 : zr 19 15 [v0, v1, v2, .int x3] st u P = zr 19 16 [v0, v1, v2, .int x3] (.int x3 :: st) u P := zr_Il k19_15 rfl
theorem k19_16 : xcd 19 16 = oLd 13 17 := rfl
theorem r19_16 : zr 19 16 [v0, v1, v2, v3] (.int y1 :: .ref b1 :: st) u P = ((xIs u b1 13 ∧ xinb y1 (xN u b1)) ∧ zr 19 17 [v0, v1, v2, v3] (.int (xI u b1 (xix y1)) :: st) u P) := zr_Ld k19_16
theorem k19_17 : xcd 19 17 = oIl 1 18 := rfl
theorem r19_17 : zr 19 17 [v0, .int x1, v2, v3] st u P = zr 19 18 [v0, .int x1, v2, v3] (.int x1 :: st) u P := zr_Il k19_17 rfl
theorem k19_18 : xcd 19 18 = oCmp (fun x y => decide (¬ x = y)) 33 21 := rfl
theorem r19_18 : zr 19 18 [v0, v1, v2, v3] (.int y1 :: .int y2 :: st) u P = (if ¬ y2 = y1 then zr 19 33 [v0, v1, v2, v3] st u P else zr 19 21 [v0, v1, v2, v3] st u P) := zr_Cmp k19_18
theorem k19_21 : xcd 19 21 = oAl 0 22 := rfl
theorem r19_21 : zr 19 21 [.ref a0, v1, v2, v3] st u P = zr 19 22 [.ref a0, v1, v2, v3] (.ref a0 :: st) u P := zr_Al k19_21 rfl
theorem k19_22 : xcd 19 22 = oGR 2 2 25 := rfl
theorem r19_22 : zr 19 22 [v0, v1, v2, v3] (.ref b1 :: st) u P = (xIs u b1 2 ∧ ∃ b, xR u b1 2 = some b ∧ zr 19 25 [v0, v1, v2, v3] (.ref b :: st) u P) := zr_GR k19_22
theorem k19_25 : xcd 19 25 = oIl 3 26 := rfl
theorem r19_25 : zr 19 25 [v0, v1, v2, .int x3] st u P = zr 19 26 [v0, v1, v2, .int x3] (.int x3 :: st) u P := zr_Il k19_25 rfl
theorem k19_26 : xcd 19 26 = oLd 13 27 := rfl
theorem r19_26 : zr 19 26 [v0, v1, v2, v3] (.int y1 :: .ref b1 :: st) u P = ((xIs u b1 13 ∧ xinb y1 (xN u b1)) ∧ zr 19 27 [v0, v1, v2, v3] (.int (xI u b1 (xix y1)) :: st) u P) := zr_Ld k19_26
theorem k19_27 : xcd 19 27 = oIl 2 28 := rfl
theorem r19_27 : zr 19 27 [v0, v1, .int x2, v3] st u P = zr 19 28 [v0, v1, .int x2, v3] (.int x2 :: st) u P := zr_Il k19_27 rfl
theorem k19_28 : xcd 19 28 = oCmp (fun x y => decide (y < x)) 33 31 := rfl
theorem r19_28 : zr 19 28 [v0, v1, v2, v3] (.int y1 :: .int y2 :: st) u P = (if y1 < y2 then zr 19 33 [v0, v1, v2, v3] st u P else zr 19 31 [v0, v1, v2, v3] st u P) := zr_Cmp k19_28
theorem k19_31 : xcd 19 31 = oIl 3 32 := rfl
theorem r19_31 : zr 19 31 [v0, v1, v2, .int x3] st u P = zr 19 32 [v0, v1, v2, .int x3] (.int x3 :: st) u P := zr_Il k19_31 rfl
theorem k19_32 : xcd 19 32 = oRi 0 := rfl
theorem r19_32 : zr 19 32 [v0, v1, v2, v3] [.int y1] u P = P (some (.int y1)) u := zr_Ri k19_32
theorem k19_33 : xcd 19 33 = oInc 3 (-1) 36 := rfl
theorem r19_33 : zr 19 33 [v0, v1, .int x2, .int x3] st u P = zr 19 36 [v0, v1, .int x2, .int (x3 + (-1))] st u P := zr_Inc k19_33 rfl rfl
theorem k19_36 : xcd 19 36 = oGoto 7 := rfl
theorem r19_36 : zr 19 36 [v0, v1, v2, v3] st u P = zr 19 7 [v0, v1, v2, v3] st u P := zr_Goto k19_36
theorem k19_39 : xcd 19 39 = oI (-1) 40 := rfl
theorem r19_39 : zr 19 39 [v0, v1, v2, v3] st u P = zr 19 40 [v0, v1, v2, v3] (.int (-1) :: st) u P := zr_I k19_39
theorem k19_40 : xcd 19 40 = oRi 0 := rfl
theorem r19_40 : zr 19 40 [v0, v1, v2, v3] [.int y1] u P = P (some (.int y1)) u := zr_Ri k19_40
theorem k20_0 : xcd 20 0 = oAl 0 1 := rfl
theorem r20_0 : zr 20 0 [.ref a0, v1, v2] st u P = zr 20 1 [.ref a0, v1, v2] (.ref a0 :: st) u P := zr_Al k20_0 rfl
theorem k20_1 : xcd 20 1 = oIl 1 2 := rfl
theorem r20_1 : zr 20 1 [v0, .int x1, v2] st u P = zr 20 2 [v0, .int x1, v2] (.int x1 :: st) u P := zr_Il k20_1 rfl
theorem k20_2 : xcd 20 2 = oI 999 5 := rfl
theorem r20_2 : zr 20 2 [v0, v1, v2] st u P = zr 20 5 [v0, v1, v2] (.int 999 :: st) u P := zr_I k20_2
theorem k20_5 : xcd 20 5 = oCalV 2 19 2 8 := rfl
theorem r20_5 : zr 20 5 [v0, v1, v2] (.int y2 :: .int y1 :: .ref b8 :: st) u P = ((xIs u b8 2 ∧ xcat st ≤ 8) ∧ zr 19 0 [.ref b8, .int y1, .int y2, .null] [] u (fun r u2 => zr 20 8 [v0, v1, v2] (r.toList ++ st) u2 P)) := zr_CV k20_5 rfl rfl rfl ⟨Nat.le_of_ble_eq_true rfl, Nat.succ_ne_zero _, by decide⟩ rfl
theorem k20_8 : xcd 20 8 = oIs 2 9 := rfl
theorem r20_8 : zr 20 8 [v0, .int x1, v2] (.int y1 :: st) u P = zr 20 9 [v0, .int x1, .int y1] st u P := zr_Is k20_8 ⟨Nat.le_of_ble_eq_true rfl, rfl⟩
theorem k20_9 : xcd 20 9 = oIl 2 10 := rfl
theorem r20_9 : zr 20 9 [v0, v1, .int x2] st u P = zr 20 10 [v0, v1, .int x2] (.int x2 :: st) u P := zr_Il k20_9 rfl
theorem k20_10 : xcd 20 10 = oIf (fun x => decide (0 ≤ x)) 17 13 := rfl
theorem r20_10 : zr 20 10 [v0, v1, v2] (.int y1 :: st) u P = (if 0 ≤ y1 then zr 20 17 [v0, v1, v2] st u P else zr 20 13 [v0, v1, v2] st u P) := zr_If k20_10
theorem k20_13 : xcd 20 13 = oI 0 14 := rfl
theorem r20_13 : zr 20 13 [v0, v1, v2] st u P = zr 20 14 [v0, v1, v2] (.int 0 :: st) u P := zr_I k20_13
theorem k20_14 : xcd 20 14 = oGoto 25 := rfl
theorem r20_14 : zr 20 14 [v0, v1, v2] st u P = zr 20 25 [v0, v1, v2] st u P := zr_Goto k20_14
theorem k20_17 : xcd 20 17 = oAl 0 18 := rfl
theorem r20_17 : zr 20 17 [.ref a0, v1, v2] st u P = zr 20 18 [.ref a0, v1, v2] (.ref a0 :: st) u P := zr_Al k20_17 rfl
theorem k20_18 : xcd 20 18 = oGR 2 2 21 := rfl
theorem r20_18 : zr 20 18 [v0, v1, v2] (.ref b1 :: st) u P = (xIs u b1 2 ∧ ∃ b, xR u b1 2 = some b ∧ zr 20 21 [v0, v1, v2] (.ref b :: st) u P) := zr_GR k20_18
theorem k20_21 : xcd 20 21 = oIl 2 22 := rfl
theorem r20_21 : zr 20 21 [v0, v1, .int x2] st u P = zr 20 22 [v0, v1, .int x2] (.int x2 :: st) u P := zr_Il k20_21 rfl
theorem k20_22 : xcd 20 22 = oLd 13 23 := rfl
theorem r20_22 : zr 20 22 [v0, v1, v2] (.int y1 :: .ref b1 :: st) u P = ((xIs u b1 13 ∧ xinb y1 (xN u b1)) ∧ zr 20 23 [v0, v1, v2] (.int (xI u b1 (xix y1)) :: st) u P) := zr_Ld k20_22
theorem k20_23 : xcd 20 23 = oI 1 24 := rfl
theorem r20_23 : zr 20 23 [v0, v1, v2] st u P = zr 20 24 [v0, v1, v2] (.int 1 :: st) u P := zr_I k20_23
theorem k20_24 : xcd 20 24 = oB (fun x y => x + y) 25 := rfl
theorem r20_24 : zr 20 24 [v0, v1, v2] (.int y1 :: .int y2 :: st) u P = zr 20 25 [v0, v1, v2] (.int (y2 + y1) :: st) u P := zr_B k20_24
theorem k20_25 : xcd 20 25 = oRi 0 := rfl
theorem r20_25 : zr 20 25 [v0, v1, v2] [.int y1] u P = P (some (.int y1)) u := zr_Ri k20_25
theorem k21_0 : xcd 21 0 = oI 0 1 := rfl
theorem r21_0 : zr 21 0 [v0, v1, v2, v3] st u P = zr 21 1 [v0, v1, v2, v3] (.int 0 :: st) u P := zr_I k21_0
theorem k21_1 : xcd 21 1 = oIs 2 2 := rfl
theorem r21_1 : zr 21 1 [v0, .int x1, v2, v3] (.int y1 :: st) u P = zr 21 2 [v0, .int x1, .int y1, v3] st u P := zr_Is k21_1 ⟨Nat.le_of_ble_eq_true rfl, rfl⟩
theorem k21_2 : xcd 21 2 = oI 0 3 := rfl
theorem r21_2 : zr 21 2 [v0, v1, v2, v3] st u P = zr 21 3 [v0, v1, v2, v3] (.int 0 :: st) u P := zr_I k21_2
theorem k21_3 : xcd 21 3 = oIs 3 4 := rfl
theorem r21_3 : zr 21 3 [v0, v1, .int x2, v3] (.int y1 :: st) u P = zr 21 4 [v0, v1, .int x2, .int y1] st u P := zr_Is k21_3 ⟨Nat.le_of_ble_eq_true rfl, rfl⟩
theorem k21_4 : xcd 21 4 = oIl 3 5 := rfl
theorem r21_4 : zr 21 4 [v0, v1, v2, .int x3] st u P = zr 21 5 [v0, v1, v2, .int x3] (.int x3 :: st) u P := zr_Il k21_4 rfl
theorem k21_5 : xcd 21 5 = oAl 0 6 := rfl
theorem r21_5 : zr 21 5 [.ref a0, v1, v2, v3] st u P = zr 21 6 [.ref a0, v1, v2, v3] (.ref a0 :: st) u P := zr_Al k21_5 rfl
theorem k21_6 : xcd 21 6 = oGI 2 0 9 := rfl
theorem r21_6 : zr 21 6 [v0, v1, v2, v3] (.ref b1 :: st) u P = (xIs u b1 2 ∧ zr 21 9 [v0, v1, v2, v3] (.int (xI u b1 0) :: st) u P) := zr_GI k21_6
theorem k21_9 : xcd 21 9 = oCmp (fun x y => decide (y ≤ x)) 39 12 := rfl
theorem r21_9 : zr 21 9 [v0, v1, v2, v3] (.int y1 :: .int y2 :: st) u P = (if y1 ≤ y2 then zr 21 39 [v0, v1, v2, v3] st u P else zr 21 12 [v0, v1, v2, v3] st u P) := zr_Cmp k21_9
theorem k21_12 : xcd 21 12 = oIl 2 13 := rfl
theorem r21_12 : zr 21 12 [v0, v1, .int x2, v3] st u P = zr 21 13 [v0, v1, .int x2, v3] (.int x2 :: st) u P := zr_Il k21_12 rfl
theorem k21_13 : xcd 21 13 = oAl 0 14 := rfl
theorem r21_13 : zr 21 13 [.ref a0, v1, v2, v3] st u P = zr 21 14 [.ref a0, v1, v2, v3] (.ref a0 :: st) u P := zr_Al k21_13 rfl
theorem k21_14 : xcd 21 14 = oGR 2 1 17 := rfl
theorem r21_14 : zr 21 14 [v0, v1, v2, v3] (.ref b1 :: st) u P = (xIs u b1 2 ∧ ∃ b, xR u b1 1 = some b ∧ zr 21 17 [v0, v1, v2, v3] (.ref b :: st) u P) := zr_GR k21_14
theorem k21_17 : xcd 21 17 = oIl 3 18 := rfl
theorem r21_17 : zr 21 17 [v0, v1, v2, .int x3] st u P = zr 21 18 [v0, v1, v2, .int x3] (.int x3 :: st) u P := zr_Il k21_17 rfl
theorem k21_18 : xcd 21 18 = oLd 13 19 := rfl
theorem r21_18 : zr 21 18 [v0, v1, v2, v3] (.int y1 :: .ref b1 :: st) u P = ((xIs u b1 13 ∧ xinb y1 (xN u b1)) ∧ zr 21 19 [v0, v1, v2, v3] (.int (xI u b1 (xix y1)) :: st) u P) := zr_Ld k21_18
theorem k21_19 : xcd 21 19 = oIl 1 20 := rfl
theorem r21_19 : zr 21 19 [v0, .int x1, v2, v3] st u P = zr 21 20 [v0, .int x1, v2, v3] (.int x1 :: st) u P := zr_Il k21_19 rfl
theorem k21_20 : xcd 21 20 = oCmp (fun x y => decide (¬ x = y)) 27 23 := rfl
theorem r21_20 : zr 21 20 [v0, v1, v2, v3] (.int y1 :: .int y2 :: st) u P = (if ¬ y2 = y1 then zr 21 27 [v0, v1, v2, v3] st u P else zr 21 23 [v0, v1, v2, v3] st u P) := zr_Cmp k21_20
theorem k21_23 : xcd 21 23 = oI 1 24 := rfl
theorem r21_23 : zr 21 23 [v0, v1, v2, v3] st u P = zr 21 24 [v0, v1, v2, v3] (.int 1 :: st) u P := zr_I k21_23
theorem k21_24 : xcd 21 24 = oGoto 28 := rfl
theorem r21_24 : zr 21 24 [v0, v1, v2, v3] st u P = zr 21 28 [v0, v1, v2, v3] st u P := zr_Goto k21_24
theorem k21_27 : xcd 21 27 = oI 0 28 := rfl
theorem r21_27 : zr 21 27 [v0, v1, v2, v3] st u P = zr 21 28 [v0, v1, v2, v3] (.int 0 :: st) u P := zr_I k21_27
theorem k21_28 : xcd 21 28 = oCal 165 1 31 := rfl
theorem r21_28 : zr 21 28 [v0, v1, v2, v3] (.int y1 :: st) u P = (xcat st ≤ 8 ∧ zr 165 0 [.int y1] [] u (fun r u2 => zr 21 31 [v0, v1, v2, v3] (r.toList ++ st) u2 P)) := zr_CS k21_28 (Nat.le_add_left _ _) rfl rfl ⟨Nat.le_of_ble_eq_true rfl, Nat.succ_ne_zero _, by decide⟩ rfl
theorem k21_31 : xcd 21 31 = oB (fun x y => x + y) 32 := rfl
theorem r21_31 : zr 21 31 [v0, v1, v2, v3] (.int y1 :: .int y2 :: st) u P = zr 21 32 [v0, v1, v2, v3] (.int (y2 + y1) :: st) u P := zr_B k21_31
theorem k21_32 : xcd 21 32 = oIs 2 33 := rfl
theorem r21_32 : zr 21 32 [v0, .int x1, v2, v3] (.int y1 :: st) u P = zr 21 33 [v0, .int x1, .int y1, v3] st u P := zr_Is k21_32 ⟨Nat.le_of_ble_eq_true rfl, rfl⟩
theorem k21_33 : xcd 21 33 = oInc 3 1 36 := rfl
theorem r21_33 : zr 21 33 [v0, v1, .int x2, .int x3] st u P = zr 21 36 [v0, v1, .int x2, .int (x3 + 1)] st u P := zr_Inc k21_33 rfl rfl
theorem k21_36 : xcd 21 36 = oGoto 4 := rfl
theorem r21_36 : zr 21 36 [v0, v1, v2, v3] st u P = zr 21 4 [v0, v1, v2, v3] st u P := zr_Goto k21_36
theorem k21_39 : xcd 21 39 = oIl 2 40 := rfl
theorem r21_39 : zr 21 39 [v0, v1, .int x2, v3] st u P = zr 21 40 [v0, v1, .int x2, v3] (.int x2 :: st) u P := zr_Il k21_39 rfl
theorem k21_40 : xcd 21 40 = oRi 0 := rfl
theorem r21_40 : zr 21 40 [v0, v1, v2, v3] [.int y1] u P = P (some (.int y1)) u := zr_Ri k21_40
theorem k22_0 : xcd 22 0 = oAl 0 1 := rfl
theorem r22_0 : zr 22 0 [.ref a0, v1, v2, v3] st u P = zr 22 1 [.ref a0, v1, v2, v3] (.ref a0 :: st) u P := zr_Al k22_0 rfl
theorem k22_1 : xcd 22 1 = oIl 1 2 := rfl
theorem r22_1 : zr 22 1 [v0, .int x1, v2, v3] st u P = zr 22 2 [v0, .int x1, v2, v3] (.int x1 :: st) u P := zr_Il k22_1 rfl
theorem k22_2 : xcd 22 2 = oIl 2 3 := rfl
theorem r22_2 : zr 22 2 [v0, v1, .int x2, v3] st u P = zr 22 3 [v0, v1, .int x2, v3] (.int x2 :: st) u P := zr_Il k22_2 rfl
theorem k22_3 : xcd 22 3 = oCalV 2 19 2 6 := rfl
theorem r22_3 : zr 22 3 [v0, v1, v2, v3] (.int y2 :: .int y1 :: .ref b8 :: st) u P = ((xIs u b8 2 ∧ xcat st ≤ 8) ∧ zr 19 0 [.ref b8, .int y1, .int y2, .null] [] u (fun r u2 => zr 22 6 [v0, v1, v2, v3] (r.toList ++ st) u2 P)) := zr_CV k22_3 rfl rfl rfl ⟨Nat.le_of_ble_eq_true rfl, Nat.succ_ne_zero _, by decide⟩ rfl
theorem k22_6 : xcd 22 6 = oIs 3 7 := rfl
theorem r22_6 : zr 22 6 [v0, v1, .int x2, v3] (.int y1 :: st) u P = zr 22 7 [v0, v1, .int x2, .int y1] st u P := zr_Is k22_6 ⟨Nat.le_of_ble_eq_true rfl, rfl⟩
theorem k22_7 : xcd 22 7 = oIl 3 8 := rfl
theorem r22_7 : zr 22 7 [v0, v1, v2, .int x3] st u P = zr 22 8 [v0, v1, v2, .int x3] (.int x3 :: st) u P := zr_Il k22_7 rfl
theorem k22_8 : xcd 22 8 = oIf (fun x => decide (0 ≤ x)) 15 11 := rfl
theorem r22_8 : zr 22 8 [v0, v1, v2, v3] (.int y1 :: st) u P = (if 0 ≤ y1 then zr 22 15 [v0, v1, v2, v3] st u P else zr 22 11 [v0, v1, v2, v3] st u P) := zr_If k22_8
theorem k22_11 : xcd 22 11 = oI 0 12 := rfl
theorem r22_11 : zr 22 11 [v0, v1, v2, v3] st u P = zr 22 12 [v0, v1, v2, v3] (.int 0 :: st) u P := zr_I k22_11
theorem k22_12 : xcd 22 12 = oGoto 21 := rfl
theorem r22_12 : zr 22 12 [v0, v1, v2, v3] st u P = zr 22 21 [v0, v1, v2, v3] st u P := zr_Goto k22_12
theorem k22_15 : xcd 22 15 = oAl 0 16 := rfl
theorem r22_15 : zr 22 15 [.ref a0, v1, v2, v3] st u P = zr 22 16 [.ref a0, v1, v2, v3] (.ref a0 :: st) u P := zr_Al k22_15 rfl
theorem k22_16 : xcd 22 16 = oGR 2 3 19 := rfl
theorem r22_16 : zr 22 16 [v0, v1, v2, v3] (.ref b1 :: st) u P = (xIs u b1 2 ∧ ∃ b, xR u b1 3 = some b ∧ zr 22 19 [v0, v1, v2, v3] (.ref b :: st) u P) := zr_GR k22_16
theorem k22_19 : xcd 22 19 = oIl 3 20 := rfl
theorem r22_19 : zr 22 19 [v0, v1, v2, .int x3] st u P = zr 22 20 [v0, v1, v2, .int x3] (.int x3 :: st) u P := zr_Il k22_19 rfl
theorem k22_20 : xcd 22 20 = oLd 13 21 := rfl
theorem r22_20 : zr 22 20 [v0, v1, v2, v3] (.int y1 :: .ref b1 :: st) u P = ((xIs u b1 13 ∧ xinb y1 (xN u b1)) ∧ zr 22 21 [v0, v1, v2, v3] (.int (xI u b1 (xix y1)) :: st) u P) := zr_Ld k22_20
theorem k22_21 : xcd 22 21 = oRi 0 := rfl
theorem r22_21 : zr 22 21 [v0, v1, v2, v3] [.int y1] u P = P (some (.int y1)) u := zr_Ri k22_21
theorem k23_0 : xcd 23 0 = oI 0 1 := rfl
theorem r23_0 : zr 23 0 [v0, v1, v2, v3] st u P = zr 23 1 [v0, v1, v2, v3] (.int 0 :: st) u P := zr_I k23_0
theorem k23_1 : xcd 23 1 = oIs 3 2 := rfl
theorem r23_1 : zr 23 1 [v0, v1, .int x2, v3] (.int y1 :: st) u P = zr 23 2 [v0, v1, .int x2, .int y1] st u P := zr_Is k23_1 ⟨Nat.le_of_ble_eq_true rfl, rfl⟩
theorem k23_2 : xcd 23 2 = oIl 3 3 := rfl
theorem r23_2 : zr 23 2 [v0, v1, v2, .int x3] st u P = zr 23 3 [v0, v1, v2, .int x3] (.int x3 :: st) u P := zr_Il k23_2 rfl
theorem k23_3 : xcd 23 3 = oAl 0 4 := rfl
theorem r23_3 : zr 23 3 [.ref a0, v1, v2, v3] st u P = zr 23 4 [.ref a0, v1, v2, v3] (.ref a0 :: st) u P := zr_Al k23_3 rfl
theorem k23_4 : xcd 23 4 = oGI 2 0 7 := rfl
theorem r23_4 : zr 23 4 [v0, v1, v2, v3] (.ref b1 :: st) u P = (xIs u b1 2 ∧ zr 23 7 [v0, v1, v2, v3] (.int (xI u b1 0) :: st) u P) := zr_GI k23_4
theorem k23_7 : xcd 23 7 = oCmp (fun x y => decide (y ≤ x)) 43 10 := rfl
theorem r23_7 : zr 23 7 [v0, v1, v2, v3] (.int y1 :: .int y2 :: st) u P = (if y1 ≤ y2 then zr 23 43 [v0, v1, v2, v3] st u P else zr 23 10 [v0, v1, v2, v3] st u P) := zr_Cmp k23_7
theorem k23_10 : xcd 23 10 = oAl 0 11 := rfl
theorem r23_10 : zr 23 10 [.ref a0, v1, v2, v3] st u P = zr 23 11 [.ref a0, v1, v2, v3] (.ref a0 :: st) u P := zr_Al k23_10 rfl
theorem k23_11 : xcd 23 11 = oGR 2 1 14 := rfl
theorem r23_11 : zr 23 11 [v0, v1, v2, v3] (.ref b1 :: st) u P = (xIs u b1 2 ∧ ∃ b, xR u b1 1 = some b ∧ zr 23 14 [v0, v1, v2, v3] (.ref b :: st) u P) := zr_GR k23_11
theorem k23_14 : xcd 23 14 = oIl 3 15 := rfl
theorem r23_14 : zr 23 14 [v0, v1, v2, .int x3] st u P = zr 23 15 [v0, v1, v2, .int x3] (.int x3 :: st) u P := zr_Il k23_14 rfl
theorem k23_15 : xcd 23 15 = oLd 13 16 := rfl
theorem r23_15 : zr 23 15 [v0, v1, v2, v3] (.int y1 :: .ref b1 :: st) u P = ((xIs u b1 13 ∧ xinb y1 (xN u b1)) ∧ zr 23 16 [v0, v1, v2, v3] (.int (xI u b1 (xix y1)) :: st) u P) := zr_Ld k23_15
theorem k23_16 : xcd 23 16 = oIl 1 17 := rfl
theorem r23_16 : zr 23 16 [v0, .int x1, v2, v3] st u P = zr 23 17 [v0, .int x1, v2, v3] (.int x1 :: st) u P := zr_Il k23_16 rfl
theorem k23_17 : xcd 23 17 = oCmp (fun x y => decide (¬ x = y)) 37 20 := rfl
theorem r23_17 : zr 23 17 [v0, v1, v2, v3] (.int y1 :: .int y2 :: st) u P = (if ¬ y2 = y1 then zr 23 37 [v0, v1, v2, v3] st u P else zr 23 20 [v0, v1, v2, v3] st u P) := zr_Cmp k23_17
theorem k23_20 : xcd 23 20 = oAl 0 21 := rfl
theorem r23_20 : zr 23 20 [.ref a0, v1, v2, v3] st u P = zr 23 21 [.ref a0, v1, v2, v3] (.ref a0 :: st) u P := zr_Al k23_20 rfl
theorem k23_21 : xcd 23 21 = oGR 2 2 24 := rfl
theorem r23_21 : zr 23 21 [v0, v1, v2, v3] (.ref b1 :: st) u P = (xIs u b1 2 ∧ ∃ b, xR u b1 2 = some b ∧ zr 23 24 [v0, v1, v2, v3] (.ref b :: st) u P) := zr_GR k23_21
theorem k23_24 : xcd 23 24 = oIl 3 25 := rfl
theorem r23_24 : zr 23 24 [v0, v1, v2, .int x3] st u P = zr 23 25 [v0, v1, v2, .int x3] (.int x3 :: st) u P := zr_Il k23_24 rfl
theorem k23_25 : xcd 23 25 = oLd 13 26 := rfl
theorem r23_25 : zr 23 25 [v0, v1, v2, v3] (.int y1 :: .ref b1 :: st) u P = ((xIs u b1 13 ∧ xinb y1 (xN u b1)) ∧ zr 23 26 [v0, v1, v2, v3] (.int (xI u b1 (xix y1)) :: st) u P) := zr_Ld k23_25
theorem k23_26 : xcd 23 26 = oIl 2 27 := rfl
theorem r23_26 : zr 23 26 [v0, v1, .int x2, v3] st u P = zr 23 27 [v0, v1, .int x2, v3] (.int x2 :: st) u P := zr_Il k23_26 rfl
theorem k23_27 : xcd 23 27 = oCmp (fun x y => decide (x ≤ y)) 37 30 := rfl
theorem r23_27 : zr 23 27 [v0, v1, v2, v3] (.int y1 :: .int y2 :: st) u P = (if y2 ≤ y1 then zr 23 37 [v0, v1, v2, v3] st u P else zr 23 30 [v0, v1, v2, v3] st u P) := zr_Cmp k23_27
theorem k23_30 : xcd 23 30 = oAl 0 31 := rfl
theorem r23_30 : zr 23 30 [.ref a0, v1, v2, v3] st u P = zr 23 31 [.ref a0, v1, v2, v3] (.ref a0 :: st) u P := zr_Al k23_30 rfl
theorem k23_31 : xcd 23 31 = oGR 2 2 34 := rfl
theorem r23_31 : zr 23 31 [v0, v1, v2, v3] (.ref b1 :: st) u P = (xIs u b1 2 ∧ ∃ b, xR u b1 2 = some b ∧ zr 23 34 [v0, v1, v2, v3] (.ref b :: st) u P) := zr_GR k23_31
theorem k23_34 : xcd 23 34 = oIl 3 35 := rfl
theorem r23_34 : zr 23 34 [v0, v1, v2, .int x3] st u P = zr 23 35 [v0, v1, v2, .int x3] (.int x3 :: st) u P := zr_Il k23_34 rfl
theorem k23_35 : xcd 23 35 = oLd 13 36 := rfl
theorem r23_35 : zr 23 35 [v0, v1, v2, v3] (.int y1 :: .ref b1 :: st) u P = ((xIs u b1 13 ∧ xinb y1 (xN u b1)) ∧ zr 23 36 [v0, v1, v2, v3] (.int (xI u b1 (xix y1)) :: st) u P) := zr_Ld k23_35
theorem k23_36 : xcd 23 36 = oRi 0 := rfl
theorem r23_36 : zr 23 36 [v0, v1, v2, v3] [.int y1] u P = P (some (.int y1)) u := zr_Ri k23_36
theorem k23_37 : xcd 23 37 = oInc 3 1 40 := rfl
theorem r23_37 : zr 23 37 [v0, v1, .int x2, .int x3] st u P = zr 23 40 [v0, v1, .int x2, .int (x3 + 1)] st u P := zr_Inc k23_37 rfl rfl
theorem k23_40 : xcd 23 40 = oGoto 2 := rfl
theorem r23_40 : zr 23 40 [v0, v1, v2, v3] st u P = zr 23 2 [v0, v1, v2, v3] st u P := zr_Goto k23_40
theorem k23_43 : xcd 23 43 = oI (-2) 45 := rfl
theorem r23_43 : zr 23 43 [v0, v1, v2, v3] st u P = zr 23 45 [v0, v1, v2, v3] (.int (-2) :: st) u P := zr_I k23_43
theorem k23_45 : xcd 23 45 = oRi 0 := rfl
theorem r23_45 : zr 23 45 [v0, v1, v2, v3] [.int y1] u P = P (some (.int y1)) u := zr_Ri k23_45
theorem k24_0 : xcd 24 0 = oI 1000 3 := rfl
theorem r24_0 : zr 24 0 [v0, v1, v2, v3] st u P = zr 24 3 [v0, v1, v2, v3] (.int 1000 :: st) u P := zr_I k24_0
theorem k24_3 : xcd 24 3 = oIs 2 4 := rfl
theorem r24_3 : zr 24 3 [v0, .int x1, v2, v3] (.int y1 :: st) u P = zr 24 4 [v0, .int x1, .int y1, v3] st u P := zr_Is k24_3 ⟨Nat.le_of_ble_eq_true rfl, rfl⟩
theorem k24_4 : xcd 24 4 = oI 0 5 := rfl
theorem r24_4 : zr 24 4 [v0, v1, v2, v3] st u P = zr 24 5 [v0, v1, v2, v3] (.int 0 :: st) u P := zr_I k24_4
theorem k24_5 : xcd 24 5 = oIs 3 6 := rfl
theorem r24_5 : zr 24 5 [v0, v1, .int x2, v3] (.int y1 :: st) u P = zr 24 6 [v0, v1, .int x2, .int y1] st u P := zr_Is k24_5 ⟨Nat.le_of_ble_eq_true rfl, rfl⟩
theorem k24_6 : xcd 24 6 = oIl 3 7 := rfl
theorem r24_6 : zr 24 6 [v0, v1, v2, .int x3] st u P = zr 24 7 [v0, v1, v2, .int x3] (.int x3 :: st) u P := zr_Il k24_6 rfl
theorem k24_7 : xcd 24 7 = oAl 0 8 := rfl
theorem r24_7 : zr 24 7 [.ref a0, v1, v2, v3] st u P = zr 24 8 [.ref a0, v1, v2, v3] (.ref a0 :: st) u P := zr_Al k24_7 rfl
theorem k24_8 : xcd 24 8 = oGI 2 0 11 := rfl
theorem r24_8 : zr 24 8 [v0, v1, v2, v3] (.ref b1 :: st) u P = (xIs u b1 2 ∧ zr 24 11 [v0, v1, v2, v3] (.int (xI u b1 0) :: st) u P) := zr_GI k24_8
theorem k24_11 : xcd 24 11 = oCmp (fun x y => decide (y ≤ x)) 47 14 := rfl
theorem r24_11 : zr 24 11 [v0, v1, v2, v3] (.int y1 :: .int y2 :: st) u P = (if y1 ≤ y2 then zr 24 47 [v0, v1, v2, v3] st u P else zr 24 14 [v0, v1, v2, v3] st u P) := zr_Cmp k24_11
theorem k24_14 : xcd 24 14 = oAl 0 15 := rfl
theorem r24_14 : zr 24 14 [.ref a0, v1, v2, v3] st u P = zr 24 15 [.ref a0, v1, v2, v3] (.ref a0 :: st) u P := zr_Al k24_14 rfl
theorem k24_15 : xcd 24 15 = oGR 2 2 18 := rfl
theorem r24_15 : zr 24 15 [v0, v1, v2, v3] (.ref b1 :: st) u P = (xIs u b1 2 ∧ ∃ b, xR u b1 2 = some b ∧ zr 24 18 [v0, v1, v2, v3] (.ref b :: st) u P) := zr_GR k24_15
theorem k24_18 : xcd 24 18 = oIl 3 19 := rfl
theorem r24_18 : zr 24 18 [v0, v1, v2, .int x3] st u P = zr 24 19 [v0, v1, v2, .int x3] (.int x3 :: st) u P := zr_Il k24_18 rfl
theorem k24_19 : xcd 24 19 = oLd 13 20 := rfl
theorem r24_19 : zr 24 19 [v0, v1, v2, v3] (.int y1 :: .ref b1 :: st) u P = ((xIs u b1 13 ∧ xinb y1 (xN u b1)) ∧ zr 24 20 [v0, v1, v2, v3] (.int (xI u b1 (xix y1)) :: st) u P) := zr_Ld k24_19
theorem k24_20 : xcd 24 20 = oIl 1 21 := rfl
theorem r24_20 : zr 24 20 [v0, .int x1, v2, v3] st u P = zr 24 21 [v0, .int x1, v2, v3] (.int x1 :: st) u P := zr_Il k24_20 rfl
theorem k24_21 : xcd 24 21 = oCmp (fun x y => decide (x ≤ y)) 41 24 := rfl
theorem r24_21 : zr 24 21 [v0, v1, v2, v3] (.int y1 :: .int y2 :: st) u P = (if y2 ≤ y1 then zr 24 41 [v0, v1, v2, v3] st u P else zr 24 24 [v0, v1, v2, v3] st u P) := zr_Cmp k24_21
theorem k24_24 : xcd 24 24 = oAl 0 25 := rfl
theorem r24_24 : zr 24 24 [.ref a0, v1, v2, v3] st u P = zr 24 25 [.ref a0, v1, v2, v3] (.ref a0 :: st) u P := zr_Al k24_24 rfl
theorem k24_25 : xcd 24 25 = oGR 2 2 28 := rfl
theorem r24_25 : zr 24 25 [v0, v1, v2, v3] (.ref b1 :: st) u P = (xIs u b1 2 ∧ ∃ b, xR u b1 2 = some b ∧ zr 24 28 [v0, v1, v2, v3] (.ref b :: st) u P) := zr_GR k24_25
theorem k24_28 : xcd 24 28 = oIl 3 29 := rfl
theorem r24_28 : zr 24 28 [v0, v1, v2, .int x3] st u P = zr 24 29 [v0, v1, v2, .int x3] (.int x3 :: st) u P := zr_Il k24_28 rfl
theorem k24_29 : xcd 24 29 = oLd 13 30 := rfl
theorem r24_29 : zr 24 29 [v0, v1, v2, v3] (.int y1 :: .ref b1 :: st) u P = ((xIs u b1 13 ∧ xinb y1 (xN u b1)) ∧ zr 24 30 [v0, v1, v2, v3] (.int (xI u b1 (xix y1)) :: st) u P) := zr_Ld k24_29
theorem k24_30 : xcd 24 30 = oIl 2 31 := rfl
theorem r24_30 : zr 24 30 [v0, v1, .int x2, v3] st u P = zr 24 31 [v0, v1, .int x2, v3] (.int x2 :: st) u P := zr_Il k24_30 rfl
theorem k24_31 : xcd 24 31 = oCmp (fun x y => decide (y ≤ x)) 41 34 := rfl
theorem r24_31 : zr 24 31 [v0, v1, v2, v3] (.int y1 :: .int y2 :: st) u P = (if y1 ≤ y2 then zr 24 41 [v0, v1, v2, v3] st u P else zr 24 34 [v0, v1, v2, v3] st u P) := zr_Cmp k24_31
theorem k24_34 : xcd 24 34 = oAl 0 35 := rfl
theorem r24_34 : zr 24 34 [.ref a0, v1, v2, v3] st u P = zr 24 35 [.ref a0, v1, v2, v3] (.ref a0 :: st) u P := zr_Al k24_34 rfl
theorem k24_35 : xcd 24 35 = oGR 2 2 38 := rfl
theorem r24_35 : zr 24 35 [v0, v1, v2, v3] (.ref b1 :: st) u P = (xIs u b1 2 ∧ ∃ b, xR u b1 2 = some b ∧ zr 24 38 [v0, v1, v2, v3] (.ref b :: st) u P) := zr_GR k24_35
theorem k24_38 : xcd 24 38 = oIl 3 39 := rfl
theorem r24_38 : zr 24 38 [v0, v1, v2, .int x3] st u P = zr 24 39 [v0, v1, v2, .int x3] (.int x3 :: st) u P := zr_Il k24_38 rfl
theorem k24_39 : xcd 24 39 = oLd 13 40 := rfl
theorem r24_39 : zr 24 39 [v0, v1, v2, v3] (.int y1 :: .ref b1 :: st) u P = ((xIs u b1 13 ∧ xinb y1 (xN u b1)) ∧ zr 24 40 [v0, v1, v2, v3] (.int (xI u b1 (xix y1)) :: st) u P) := zr_Ld k24_39
theorem k24_40 : xcd 24 40 = oIs 2 41 := rfl
theorem r24_40 : zr 24 40 [v0, .int x1, v2, v3] (.int y1 :: st) u P = zr 24 41 [v0, .int x1, .int y1, v3] st u P := zr_Is k24_40 ⟨Nat.le_of_ble_eq_true rfl, rfl⟩
theorem k24_41 : xcd 24 41 = oInc 3 1 44 := rfl
theorem r24_41 : zr 24 41 [v0, v1, .int x2, .int x3] st u P = zr 24 44 [v0, v1, .int x2, .int (x3 + 1)] st u P := zr_Inc k24_41 rfl rfl
theorem k24_44 : xcd 24 44 = oGoto 6 := rfl
theorem r24_44 : zr 24 44 [v0, v1, v2, v3] st u P = zr 24 6 [v0, v1, v2, v3] st u P := zr_Goto k24_44
theorem k24_47 : xcd 24 47 = oIl 2 48 := rfl
theorem r24_47 : zr 24 47 [v0, v1, .int x2, v3] st u P = zr 24 48 [v0, v1, .int x2, v3] (.int x2 :: st) u P := zr_Il k24_47 rfl
theorem k24_48 : xcd 24 48 = oRi 0 := rfl
theorem r24_48 : zr 24 48 [v0, v1, v2, v3] [.int y1] u P = P (some (.int y1)) u := zr_Ri k24_48
theorem k25_0 : xcd 25 0 = oIl 1 1 := rfl
theorem r25_0 : zr 25 0 [v0, .int x1, v2, v3, v4, v5] st u P = zr 25 1 [v0, .int x1, v2, v3, v4, v5] (.int x1 :: st) u P := zr_Il k25_0 rfl
theorem k25_1 : xcd 25 1 = oI 6 3 := rfl
theorem r25_1 : zr 25 1 [v0, v1, v2, v3, v4, v5] st u P = zr 25 3 [v0, v1, v2, v3, v4, v5] (.int 6 :: st) u P := zr_I k25_1
theorem k25_3 : xcd 25 3 = oB (fun x y => x * y) 4 := rfl
theorem r25_3 : zr 25 3 [v0, v1, v2, v3, v4, v5] (.int y1 :: .int y2 :: st) u P = zr 25 4 [v0, v1, v2, v3, v4, v5] (.int (y2 * y1) :: st) u P := zr_B k25_3
theorem k25_4 : xcd 25 4 = oIs 2 5 := rfl
theorem r25_4 : zr 25 4 [v0, .int x1, v2, v3, v4, v5] (.int y1 :: st) u P = zr 25 5 [v0, .int x1, .int y1, v3, v4, v5] st u P := zr_Is k25_4 ⟨Nat.le_of_ble_eq_true rfl, rfl⟩
theorem k25_5 : xcd 25 5 = oIl 2 6 := rfl
theorem r25_5 : zr 25 5 [v0, v1, .int x2, v3, v4, v5] st u P = zr 25 6 [v0, v1, .int x2, v3, v4, v5] (.int x2 :: st) u P := zr_Il k25_5 rfl
theorem k25_6 : xcd 25 6 = oAl 0 7 := rfl
theorem r25_6 : zr 25 6 [.ref a0, v1, v2, v3, v4, v5] st u P = zr 25 7 [.ref a0, v1, v2, v3, v4, v5] (.ref a0 :: st) u P := zr_Al k25_6 rfl
theorem k25_7 : xcd 25 7 = oGR 2 3 10 := rfl
theorem r25_7 : zr 25 7 [v0, v1, v2, v3, v4, v5] (.ref b1 :: st) u P = (xIs u b1 2 ∧ ∃ b, xR u b1 3 = some b ∧ zr 25 10 [v0, v1, v2, v3, v4, v5] (.ref b :: st) u P) := zr_GR k25_7
theorem k25_10 : xcd 25 10 = oIl 1 11 := rfl
theorem r25_10 : zr 25 10 [v0, .int x1, v2, v3, v4, v5] st u P = zr 25 11 [v0, .int x1, v2, v3, v4, v5] (.int x1 :: st) u P := zr_Il k25_10 rfl
theorem k25_11 : xcd 25 11 = oLd 13 12 := rfl
theorem r25_11 : zr 25 11 [v0, v1, v2, v3, v4, v5] (.int y1 :: .ref b1 :: st) u P = ((xIs u b1 13 ∧ xinb y1 (xN u b1)) ∧ zr 25 12 [v0, v1, v2, v3, v4, v5] (.int (xI u b1 (xix y1)) :: st) u P) := zr_Ld k25_11
theorem k25_12 : xcd 25 12 = oB (fun x y => x + y) 13 := rfl
theorem r25_12 : zr 25 12 [v0, v1, v2, v3, v4, v5] (.int y1 :: .int y2 :: st) u P = zr 25 13 [v0, v1, v2, v3, v4, v5] (.int (y2 + y1) :: st) u P := zr_B k25_12
theorem k25_13 : xcd 25 13 = oI 1 14 := rfl
theorem r25_13 : zr 25 13 [v0, v1, v2, v3, v4, v5] st u P = zr 25 14 [v0, v1, v2, v3, v4, v5] (.int 1 :: st) u P := zr_I k25_13
theorem k25_14 : xcd 25 14 = oB (fun x y => x - y) 15 := rfl
theorem r25_14 : zr 25 14 [v0, v1, v2, v3, v4, v5] (.int y1 :: .int y2 :: st) u P = zr 25 15 [v0, v1, v2, v3, v4, v5] (.int (y2 - y1) :: st) u P := zr_B k25_14
theorem k25_15 : xcd 25 15 = oIs 3 16 := rfl
theorem r25_15 : zr 25 15 [v0, v1, .int x2, v3, v4, v5] (.int y1 :: st) u P = zr 25 16 [v0, v1, .int x2, .int y1, v4, v5] st u P := zr_Is k25_15 ⟨Nat.le_of_ble_eq_true rfl, rfl⟩
theorem k25_16 : xcd 25 16 = oI 0 17 := rfl
theorem r25_16 : zr 25 16 [v0, v1, v2, v3, v4, v5] st u P = zr 25 17 [v0, v1, v2, v3, v4, v5] (.int 0 :: st) u P := zr_I k25_16
theorem k25_17 : xcd 25 17 = oIs 4 19 := rfl
theorem r25_17 : zr 25 17 [v0, v1, v2, .int x3, v4, v5] (.int y1 :: st) u P = zr 25 19 [v0, v1, v2, .int x3, .int y1, v5] st u P := zr_Is k25_17 ⟨Nat.le_of_ble_eq_true rfl, rfl⟩
theorem k25_19 : xcd 25 19 = oIl 2 20 := rfl
theorem r25_19 : zr 25 19 [v0, v1, .int x2, v3, v4, v5] st u P = zr 25 20 [v0, v1, .int x2, v3, v4, v5] (.int x2 :: st) u P := zr_Il k25_19 rfl
theorem k25_20 : xcd 25 20 = oIs 5 22 := rfl
theorem r25_20 : zr 25 20 [v0, v1, v2, v3, .int x4, v5] (.int y1 :: st) u P = zr 25 22 [v0, v1, v2, v3, .int x4, .int y1] st u P := zr_Is k25_20 ⟨Nat.le_of_ble_eq_true rfl, rfl⟩
theorem k25_22 : xcd 25 22 = oIl 5 24 := rfl
theorem r25_22 : zr 25 22 [v0, v1, v2, v3, v4, .int x5] st u P = zr 25 24 [v0, v1, v2, v3, v4, .int x5] (.int x5 :: st) u P := zr_Il k25_22 rfl
theorem k25_24 : xcd 25 24 = oIl 2 25 := rfl
theorem r25_24 : zr 25 24 [v0, v1, .int x2, v3, v4, v5] st u P = zr 25 25 [v0, v1, .int x2, v3, v4, v5] (.int x2 :: st) u P := zr_Il k25_24 rfl
theorem k25_25 : xcd 25 25 = oAl 0 26 := rfl
theorem r25_25 : zr 25 25 [.ref a0, v1, v2, v3, v4, v5] st u P = zr 25 26 [.ref a0, v1, v2, v3, v4, v5] (.ref a0 :: st) u P := zr_Al k25_25 rfl
theorem k25_26 : xcd 25 26 = oGR 2 3 29 := rfl
theorem r25_26 : zr 25 26 [v0, v1, v2, v3, v4, v5] (.ref b1 :: st) u P = (xIs u b1 2 ∧ ∃ b, xR u b1 3 = some b ∧ zr 25 29 [v0, v1, v2, v3, v4, v5] (.ref b :: st) u P) := zr_GR k25_26
theorem k25_29 : xcd 25 29 = oIl 1 30 := rfl
theorem r25_29 : zr 25 29 [v0, .int x1, v2, v3, v4, v5] st u P = zr 25 30 [v0, .int x1, v2, v3, v4, v5] (.int x1 :: st) u P := zr_Il k25_29 rfl
theorem k25_30 : xcd 25 30 = oLd 13 31 := rfl
theorem r25_30 : zr 25 30 [v0, v1, v2, v3, v4, v5] (.int y1 :: .ref b1 :: st) u P = ((xIs u b1 13 ∧ xinb y1 (xN u b1)) ∧ zr 25 31 [v0, v1, v2, v3, v4, v5] (.int (xI u b1 (xix y1)) :: st) u P) := zr_Ld k25_30
theorem k25_31 : xcd 25 31 = oB (fun x y => x + y) 32 := rfl
theorem r25_31 : zr 25 31 [v0, v1, v2, v3, v4, v5] (.int y1 :: .int y2 :: st) u P = zr 25 32 [v0, v1, v2, v3, v4, v5] (.int (y2 + y1) :: st) u P := zr_B k25_31
theorem k25_32 : xcd 25 32 = oCmp (fun x y => decide (y ≤ x)) 78 35 := rfl
theorem r25_32 : zr 25 32 [v0, v1, v2, v3, v4, v5] (.int y1 :: .int y2 :: st) u P = (if y1 ≤ y2 then zr 25 78 [v0, v1, v2, v3, v4, v5] st u P else zr 25 35 [v0, v1, v2, v3, v4, v5] st u P) := zr_Cmp k25_32
theorem k25_35 : xcd 25 35 = oIl 4 37 := rfl
theorem r25_35 : zr 25 35 [v0, v1, v2, v3, .int x4, v5] st u P = zr 25 37 [v0, v1, v2, v3, .int x4, v5] (.int x4 :: st) u P := zr_Il k25_35 rfl
theorem k25_37 : xcd 25 37 = oAl 0 38 := rfl
theorem r25_37 : zr 25 37 [.ref a0, v1, v2, v3, v4, v5] st u P = zr 25 38 [.ref a0, v1, v2, v3, v4, v5] (.ref a0 :: st) u P := zr_Al k25_37 rfl
theorem k25_38 : xcd 25 38 = oGR 2 4 41 := rfl
theorem r25_38 : zr 25 38 [v0, v1, v2, v3, v4, v5] (.ref b1 :: st) u P = (xIs u b1 2 ∧ ∃ b, xR u b1 4 = some b ∧ zr 25 41 [v0, v1, v2, v3, v4, v5] (.ref b :: st) u P) := zr_GR k25_38
theorem k25_41 : xcd 25 41 = oIl 3 42 := rfl
theorem r25_41 : zr 25 41 [v0, v1, v2, .int x3, v4, v5] st u P = zr 25 42 [v0, v1, v2, .int x3, v4, v5] (.int x3 :: st) u P := zr_Il k25_41 rfl
theorem k25_42 : xcd 25 42 = oLd 13 43 := rfl
theorem r25_42 : zr 25 42 [v0, v1, v2, v3, v4, v5] (.int y1 :: .ref b1 :: st) u P = ((xIs u b1 13 ∧ xinb y1 (xN u b1)) ∧ zr 25 43 [v0, v1, v2, v3, v4, v5] (.int (xI u b1 (xix y1)) :: st) u P) := zr_Ld k25_42
theorem k25_43 : xcd 25 43 = oAl 0 44 := rfl
theorem r25_43 : zr 25 43 [.ref a0, v1, v2, v3, v4, v5] st u P = zr 25 44 [.ref a0, v1, v2, v3, v4, v5] (.ref a0 :: st) u P := zr_Al k25_43 rfl
theorem k25_44 : xcd 25 44 = oGR 2 5 47 := rfl
theorem r25_44 : zr 25 44 [v0, v1, v2, v3, v4, v5] (.ref b1 :: st) u P = (xIs u b1 2 ∧ ∃ b, xR u b1 5 = some b ∧ zr 25 47 [v0, v1, v2, v3, v4, v5] (.ref b :: st) u P) := zr_GR k25_44
theorem k25_47 : xcd 25 47 = oIl 5 49 := rfl
theorem r25_47 : zr 25 47 [v0, v1, v2, v3, v4, .int x5] st u P = zr 25 49 [v0, v1, v2, v3, v4, .int x5] (.int x5 :: st) u P := zr_Il k25_47 rfl
theorem k25_49 : xcd 25 49 = oLd 13 50 := rfl
theorem r25_49 : zr 25 49 [v0, v1, v2, v3, v4, v5] (.int y1 :: .ref b1 :: st) u P = ((xIs u b1 13 ∧ xinb y1 (xN u b1)) ∧ zr 25 50 [v0, v1, v2, v3, v4, v5] (.int (xI u b1 (xix y1)) :: st) u P) := zr_Ld k25_49
theorem k25_50 : xcd 25 50 = oB (fun x y => x * y) 51 := rfl
theorem r25_50 : zr 25 50 [v0, v1, v2, v3, v4, v5] (.int y1 :: .int y2 :: st) u P = zr 25 51 [v0, v1, v2, v3, v4, v5] (.int (y2 * y1) :: st) u P := zr_B k25_50
theorem k25_51 : xcd 25 51 = oAl 0 52 := rfl
theorem r25_51 : zr 25 51 [.ref a0, v1, v2, v3, v4, v5] st u P = zr 25 52 [.ref a0, v1, v2, v3, v4, v5] (.ref a0 :: st) u P := zr_Al k25_51 rfl
theorem k25_52 : xcd 25 52 = oGR 2 4 55 := rfl
theorem r25_52 : zr 25 52 [v0, v1, v2, v3, v4, v5] (.ref b1 :: st) u P = (xIs u b1 2 ∧ ∃ b, xR u b1 4 = some b ∧ zr 25 55 [v0, v1, v2, v3, v4, v5] (.ref b :: st) u P) := zr_GR k25_52
theorem k25_55 : xcd 25 55 = oIl 5 57 := rfl
theorem r25_55 : zr 25 55 [v0, v1, v2, v3, v4, .int x5] st u P = zr 25 57 [v0, v1, v2, v3, v4, .int x5] (.int x5 :: st) u P := zr_Il k25_55 rfl
theorem k25_57 : xcd 25 57 = oLd 13 58 := rfl
theorem r25_57 : zr 25 57 [v0, v1, v2, v3, v4, v5] (.int y1 :: .ref b1 :: st) u P = ((xIs u b1 13 ∧ xinb y1 (xN u b1)) ∧ zr 25 58 [v0, v1, v2, v3, v4, v5] (.int (xI u b1 (xix y1)) :: st) u P) := zr_Ld k25_57
theorem k25_58 : xcd 25 58 = oAl 0 59 := rfl
theorem r25_58 : zr 25 58 [.ref a0, v1, v2, v3, v4, v5] st u P = zr 25 59 [.ref a0, v1, v2, v3, v4, v5] (.ref a0 :: st) u P := zr_Al k25_58 rfl
theorem k25_59 : xcd 25 59 = oGR 2 5 62 := rfl
theorem r25_59 : zr 25 59 [v0, v1, v2, v3, v4, v5] (.ref b1 :: st) u P = (xIs u b1 2 ∧ ∃ b, xR u b1 5 = some b ∧ zr 25 62 [v0, v1, v2, v3, v4, v5] (.ref b :: st) u P) := zr_GR k25_59
theorem k25_62 : xcd 25 62 = oIl 3 63 := rfl
theorem r25_62 : zr 25 62 [v0, v1, v2, .int x3, v4, v5] st u P = zr 25 63 [v0, v1, v2, .int x3, v4, v5] (.int x3 :: st) u P := zr_Il k25_62 rfl
theorem k25_63 : xcd 25 63 = oLd 13 64 := rfl
theorem r25_63 : zr 25 63 [v0, v1, v2, v3, v4, v5] (.int y1 :: .ref b1 :: st) u P = ((xIs u b1 13 ∧ xinb y1 (xN u b1)) ∧ zr 25 64 [v0, v1, v2, v3, v4, v5] (.int (xI u b1 (xix y1)) :: st) u P) := zr_Ld k25_63
theorem k25_64 : xcd 25 64 = oB (fun x y => x * y) 65 := rfl
theorem r25_64 : zr 25 64 [v0, v1, v2, v3, v4, v5] (.int y1 :: .int y2 :: st) u P = zr 25 65 [v0, v1, v2, v3, v4, v5] (.int (y2 * y1) :: st) u P := zr_B k25_64
theorem k25_65 : xcd 25 65 = oB (fun x y => x - y) 66 := rfl
theorem r25_65 : zr 25 65 [v0, v1, v2, v3, v4, v5] (.int y1 :: .int y2 :: st) u P = zr 25 66 [v0, v1, v2, v3, v4, v5] (.int (y2 - y1) :: st) u P := zr_B k25_65
theorem k25_66 : xcd 25 66 = oB (fun x y => x + y) 67 := rfl
theorem r25_66 : zr 25 66 [v0, v1, v2, v3, v4, v5] (.int y1 :: .int y2 :: st) u P = zr 25 67 [v0, v1, v2, v3, v4, v5] (.int (y2 + y1) :: st) u P := zr_B k25_66
theorem k25_67 : xcd 25 67 = oIs 4 69 := rfl
theorem r25_67 : zr 25 67 [v0, v1, v2, .int x3, v4, v5] (.int y1 :: st) u P = zr 25 69 [v0, v1, v2, .int x3, .int y1, v5] st u P := zr_Is k25_67 ⟨Nat.le_of_ble_eq_true rfl, rfl⟩
theorem k25_69 : xcd 25 69 = oIl 5 71 := rfl
theorem r25_69 : zr 25 69 [v0, v1, v2, v3, v4, .int x5] st u P = zr 25 71 [v0, v1, v2, v3, v4, .int x5] (.int x5 :: st) u P := zr_Il k25_69 rfl
theorem k25_71 : xcd 25 71 = oIs 3 72 := rfl
theorem r25_71 : zr 25 71 [v0, v1, .int x2, v3, v4, v5] (.int y1 :: st) u P = zr 25 72 [v0, v1, .int x2, .int y1, v4, v5] st u P := zr_Is k25_71 ⟨Nat.le_of_ble_eq_true rfl, rfl⟩
theorem k25_72 : xcd 25 72 = oInc 5 1 75 := rfl
theorem r25_72 : zr 25 72 [v0, v1, v2, v3, .int x4, .int x5] st u P = zr 25 75 [v0, v1, v2, v3, .int x4, .int (x5 + 1)] st u P := zr_Inc k25_72 rfl rfl
theorem k25_75 : xcd 25 75 = oGoto 22 := rfl
theorem r25_75 : zr 25 75 [v0, v1, v2, v3, v4, v5] st u P = zr 25 22 [v0, v1, v2, v3, v4, v5] st u P := zr_Goto k25_75
theorem k25_78 : xcd 25 78 = oIl 4 80 := rfl
theorem r25_78 : zr 25 78 [v0, v1, v2, v3, .int x4, v5] st u P = zr 25 80 [v0, v1, v2, v3, .int x4, v5] (.int x4 :: st) u P := zr_Il k25_78 rfl
theorem k25_80 : xcd 25 80 = oRi 0 := rfl
theorem r25_80 : zr 25 80 [v0, v1, v2, v3, v4, v5] [.int y1] u P = P (some (.int y1)) u := zr_Ri k25_80
theorem k26_0 : xcd 26 0 = oIl 1 1 := rfl
theorem r26_0 : zr 26 0 [v0, .int x1, v2, v3, v4, v5, v6, v7] st u P = zr 26 1 [v0, .int x1, v2, v3, v4, v5, v6, v7] (.int x1 :: st) u P := zr_Il k26_0 rfl
theorem k26_1 : xcd 26 1 = oIf (fun x => decide (0 ≤ x)) 6 4 := rfl
theorem r26_1 : zr 26 1 [v0, v1, v2, v3, v4, v5, v6, v7] (.int y1 :: st) u P = (if 0 ≤ y1 then zr 26 6 [v0, v1, v2, v3, v4, v5, v6, v7] st u P else zr 26 4 [v0, v1, v2, v3, v4, v5, v6, v7] st u P) := zr_If k26_1
theorem k26_4 : xcd 26 4 = oI 0 5 := rfl
theorem r26_4 : zr 26 4 [v0, v1, v2, v3, v4, v5, v6, v7] st u P = zr 26 5 [v0, v1, v2, v3, v4, v5, v6, v7] (.int 0 :: st) u P := zr_I k26_4
theorem k26_5 : xcd 26 5 = oRz 0 := rfl
theorem r26_5 : zr 26 5 [v0, v1, v2, v3, v4, v5, v6, v7] [.int y1] u P = ((y1 = 0 ∨ y1 = 1) ∧ P (some (.int y1)) u) := zr_Rz k26_5
theorem k26_6 : xcd 26 6 = oIl 1 7 := rfl
theorem r26_6 : zr 26 6 [v0, .int x1, v2, v3, v4, v5, v6, v7] st u P = zr 26 7 [v0, .int x1, v2, v3, v4, v5, v6, v7] (.int x1 :: st) u P := zr_Il k26_6 rfl
theorem k26_7 : xcd 26 7 = oI 6 9 := rfl
theorem r26_7 : zr 26 7 [v0, v1, v2, v3, v4, v5, v6, v7] st u P = zr 26 9 [v0, v1, v2, v3, v4, v5, v6, v7] (.int 6 :: st) u P := zr_I k26_7
theorem k26_9 : xcd 26 9 = oB (fun x y => x * y) 10 := rfl
theorem r26_9 : zr 26 9 [v0, v1, v2, v3, v4, v5, v6, v7] (.int y1 :: .int y2 :: st) u P = zr 26 10 [v0, v1, v2, v3, v4, v5, v6, v7] (.int (y2 * y1) :: st) u P := zr_B k26_9
theorem k26_10 : xcd 26 10 = oIs 4 12 := rfl
theorem r26_10 : zr 26 10 [v0, v1, v2, .int x3, v4, v5, v6, v7] (.int y1 :: st) u P = zr 26 12 [v0, v1, v2, .int x3, .int y1, v5, v6, v7] st u P := zr_Is k26_10 ⟨Nat.le_of_ble_eq_true rfl, rfl⟩
theorem k26_12 : xcd 26 12 = oIl 4 14 := rfl
theorem r26_12 : zr 26 12 [v0, v1, v2, v3, .int x4, v5, v6, v7] st u P = zr 26 14 [v0, v1, v2, v3, .int x4, v5, v6, v7] (.int x4 :: st) u P := zr_Il k26_12 rfl
theorem k26_14 : xcd 26 14 = oAl 0 15 := rfl
theorem r26_14 : zr 26 14 [.ref a0, v1, v2, v3, v4, v5, v6, v7] st u P = zr 26 15 [.ref a0, v1, v2, v3, v4, v5, v6, v7] (.ref a0 :: st) u P := zr_Al k26_14 rfl
theorem k26_15 : xcd 26 15 = oGR 2 3 18 := rfl
theorem r26_15 : zr 26 15 [v0, v1, v2, v3, v4, v5, v6, v7] (.ref b1 :: st) u P = (xIs u b1 2 ∧ ∃ b, xR u b1 3 = some b ∧ zr 26 18 [v0, v1, v2, v3, v4, v5, v6, v7] (.ref b :: st) u P) := zr_GR k26_15
theorem k26_18 : xcd 26 18 = oIl 1 19 := rfl
theorem r26_18 : zr 26 18 [v0, .int x1, v2, v3, v4, v5, v6, v7] st u P = zr 26 19 [v0, .int x1, v2, v3, v4, v5, v6, v7] (.int x1 :: st) u P := zr_Il k26_18 rfl
theorem k26_19 : xcd 26 19 = oLd 13 20 := rfl
theorem r26_19 : zr 26 19 [v0, v1, v2, v3, v4, v5, v6, v7] (.int y1 :: .ref b1 :: st) u P = ((xIs u b1 13 ∧ xinb y1 (xN u b1)) ∧ zr 26 20 [v0, v1, v2, v3, v4, v5, v6, v7] (.int (xI u b1 (xix y1)) :: st) u P) := zr_Ld k26_19
theorem k26_20 : xcd 26 20 = oB (fun x y => x + y) 21 := rfl
theorem r26_20 : zr 26 20 [v0, v1, v2, v3, v4, v5, v6, v7] (.int y1 :: .int y2 :: st) u P = zr 26 21 [v0, v1, v2, v3, v4, v5, v6, v7] (.int (y2 + y1) :: st) u P := zr_B k26_20
theorem k26_21 : xcd 26 21 = oI 1 22 := rfl
theorem r26_21 : zr 26 21 [v0, v1, v2, v3, v4, v5, v6, v7] st u P = zr 26 22 [v0, v1, v2, v3, v4, v5, v6, v7] (.int 1 :: st) u P := zr_I k26_21
theorem k26_22 : xcd 26 22 = oB (fun x y => x - y) 23 := rfl
theorem r26_22 : zr 26 22 [v0, v1, v2, v3, v4, v5, v6, v7] (.int y1 :: .int y2 :: st) u P = zr 26 23 [v0, v1, v2, v3, v4, v5, v6, v7] (.int (y2 - y1) :: st) u P := zr_B k26_22
theorem k26_23 : xcd 26 23 = oIs 5 25 := rfl
theorem r26_23 : zr 26 23 [v0, v1, v2, v3, .int x4, v5, v6, v7] (.int y1 :: st) u P = zr 26 25 [v0, v1, v2, v3, .int x4, .int y1, v6, v7] st u P := zr_Is k26_23 ⟨Nat.le_of_ble_eq_true rfl, rfl⟩
theorem k26_25 : xcd 26 25 = oI 0 26 := rfl
theorem r26_25 : zr 26 25 [v0, v1, v2, v3, v4, v5, v6, v7] st u P = zr 26 26 [v0, v1, v2, v3, v4, v5, v6, v7] (.int 0 :: st) u P := zr_I k26_25
theorem k26_26 : xcd 26 26 = oIs 6 28 := rfl
theorem r26_26 : zr 26 26 [v0, v1, v2, v3, v4, .int x5, v6, v7] (.int y1 :: st) u P = zr 26 28 [v0, v1, v2, v3, v4, .int x5, .int y1, v7] st u P := zr_Is k26_26 ⟨Nat.le_of_ble_eq_true rfl, rfl⟩
theorem k26_28 : xcd 26 28 = oIl 4 30 := rfl
theorem r26_28 : zr 26 28 [v0, v1, v2, v3, .int x4, v5, v6, v7] st u P = zr 26 30 [v0, v1, v2, v3, .int x4, v5, v6, v7] (.int x4 :: st) u P := zr_Il k26_28 rfl
theorem k26_30 : xcd 26 30 = oIs 7 32 := rfl
theorem r26_30 : zr 26 30 [v0, v1, v2, v3, v4, v5, .int x6, v7] (.int y1 :: st) u P = zr 26 32 [v0, v1, v2, v3, v4, v5, .int x6, .int y1] st u P := zr_Is k26_30 ⟨Nat.le_of_ble_eq_true rfl, rfl⟩
theorem k26_32 : xcd 26 32 = oIl 7 34 := rfl
theorem r26_32 : zr 26 32 [v0, v1, v2, v3, v4, v5, v6, .int x7] st u P = zr 26 34 [v0, v1, v2, v3, v4, v5, v6, .int x7] (.int x7 :: st) u P := zr_Il k26_32 rfl
theorem k26_34 : xcd 26 34 = oIl 4 36 := rfl
theorem r26_34 : zr 26 34 [v0, v1, v2, v3, .int x4, v5, v6, v7] st u P = zr 26 36 [v0, v1, v2, v3, .int x4, v5, v6, v7] (.int x4 :: st) u P := zr_Il k26_34 rfl
theorem k26_36 : xcd 26 36 = oAl 0 37 := rfl
theorem r26_36 : zr 26 36 [.ref a0, v1, v2, v3, v4, v5, v6, v7] st u P = zr 26 37 [.ref a0, v1, v2, v3, v4, v5, v6, v7] (.ref a0 :: st) u P := zr_Al k26_36 rfl
theorem k26_37 : xcd 26 37 = oGR 2 3 40 := rfl
theorem r26_37 : zr 26 37 [v0, v1, v2, v3, v4, v5, v6, v7] (.ref b1 :: st) u P = (xIs u b1 2 ∧ ∃ b, xR u b1 3 = some b ∧ zr 26 40 [v0, v1, v2, v3, v4, v5, v6, v7] (.ref b :: st) u P) := zr_GR k26_37
theorem k26_40 : xcd 26 40 = oIl 1 41 := rfl
theorem r26_40 : zr 26 40 [v0, .int x1, v2, v3, v4, v5, v6, v7] st u P = zr 26 41 [v0, .int x1, v2, v3, v4, v5, v6, v7] (.int x1 :: st) u P := zr_Il k26_40 rfl
theorem k26_41 : xcd 26 41 = oLd 13 42 := rfl
theorem r26_41 : zr 26 41 [v0, v1, v2, v3, v4, v5, v6, v7] (.int y1 :: .ref b1 :: st) u P = ((xIs u b1 13 ∧ xinb y1 (xN u b1)) ∧ zr 26 42 [v0, v1, v2, v3, v4, v5, v6, v7] (.int (xI u b1 (xix y1)) :: st) u P) := zr_Ld k26_41
theorem k26_42 : xcd 26 42 = oB (fun x y => x + y) 43 := rfl
theorem r26_42 : zr 26 42 [v0, v1, v2, v3, v4, v5, v6, v7] (.int y1 :: .int y2 :: st) u P = zr 26 43 [v0, v1, v2, v3, v4, v5, v6, v7] (.int (y2 + y1) :: st) u P := zr_B k26_42
theorem k26_43 : xcd 26 43 = oCmp (fun x y => decide (y ≤ x)) 116 46 := rfl
theorem r26_43 : zr 26 43 [v0, v1, v2, v3, v4, v5, v6, v7] (.int y1 :: .int y2 :: st) u P = (if y1 ≤ y2 then zr 26 116 [v0, v1, v2, v3, v4, v5, v6, v7] st u P else zr 26 46 [v0, v1, v2, v3, v4, v5, v6, v7] st u P) := zr_Cmp k26_43
theorem k26_46 : xcd 26 46 = oAl 0 47 := rfl
theorem r26_46 : zr 26 46 [.ref a0, v1, v2, v3, v4, v5, v6, v7] st u P = zr 26 47 [.ref a0, v1, v2, v3, v4, v5, v6, v7] (.ref a0 :: st) u P := zr_Al k26_46 rfl
theorem k26_47 : xcd 26 47 = oGR 2 5 50 := rfl
theorem r26_47 : zr 26 47 [v0, v1, v2, v3, v4, v5, v6, v7] (.ref b1 :: st) u P = (xIs u b1 2 ∧ ∃ b, xR u b1 5 = some b ∧ zr 26 50 [v0, v1, v2, v3, v4, v5, v6, v7] (.ref b :: st) u P) := zr_GR k26_47
theorem k26_50 : xcd 26 50 = oIl 5 52 := rfl
theorem r26_50 : zr 26 50 [v0, v1, v2, v3, v4, .int x5, v6, v7] st u P = zr 26 52 [v0, v1, v2, v3, v4, .int x5, v6, v7] (.int x5 :: st) u P := zr_Il k26_50 rfl
theorem k26_52 : xcd 26 52 = oLd 13 53 := rfl
theorem r26_52 : zr 26 52 [v0, v1, v2, v3, v4, v5, v6, v7] (.int y1 :: .ref b1 :: st) u P = ((xIs u b1 13 ∧ xinb y1 (xN u b1)) ∧ zr 26 53 [v0, v1, v2, v3, v4, v5, v6, v7] (.int (xI u b1 (xix y1)) :: st) u P) := zr_Ld k26_52
theorem k26_53 : xcd 26 53 = oIl 3 54 := rfl
theorem r26_53 : zr 26 53 [v0, v1, v2, .int x3, v4, v5, v6, v7] st u P = zr 26 54 [v0, v1, v2, .int x3, v4, v5, v6, v7] (.int x3 :: st) u P := zr_Il k26_53 rfl
theorem k26_54 : xcd 26 54 = oCmp (fun x y => decide (x ≤ y)) 61 57 := rfl
theorem r26_54 : zr 26 54 [v0, v1, v2, v3, v4, v5, v6, v7] (.int y1 :: .int y2 :: st) u P = (if y2 ≤ y1 then zr 26 61 [v0, v1, v2, v3, v4, v5, v6, v7] st u P else zr 26 57 [v0, v1, v2, v3, v4, v5, v6, v7] st u P) := zr_Cmp k26_54
theorem k26_57 : xcd 26 57 = oI 1 58 := rfl
theorem r26_57 : zr 26 57 [v0, v1, v2, v3, v4, v5, v6, v7] st u P = zr 26 58 [v0, v1, v2, v3, v4, v5, v6, v7] (.int 1 :: st) u P := zr_I k26_57
theorem k26_58 : xcd 26 58 = oGoto 62 := rfl
theorem r26_58 : zr 26 58 [v0, v1, v2, v3, v4, v5, v6, v7] st u P = zr 26 62 [v0, v1, v2, v3, v4, v5, v6, v7] st u P := zr_Goto k26_58
theorem k26_61 : xcd 26 61 = oI 0 62 := rfl
theorem r26_61 : zr 26 61 [v0, v1, v2, v3, v4, v5, v6, v7] st u P = zr 26 62 [v0, v1, v2, v3, v4, v5, v6, v7] (.int 0 :: st) u P := zr_I k26_61
theorem k26_62 : xcd 26 62 = oAl 0 63 := rfl
theorem r26_62 : zr 26 62 [.ref a0, v1, v2, v3, v4, v5, v6, v7] st u P = zr 26 63 [.ref a0, v1, v2, v3, v4, v5, v6, v7] (.ref a0 :: st) u P := zr_Al k26_62 rfl
theorem k26_63 : xcd 26 63 = oGR 2 5 66 := rfl
theorem r26_63 : zr 26 63 [v0, v1, v2, v3, v4, v5, v6, v7] (.ref b1 :: st) u P = (xIs u b1 2 ∧ ∃ b, xR u b1 5 = some b ∧ zr 26 66 [v0, v1, v2, v3, v4, v5, v6, v7] (.ref b :: st) u P) := zr_GR k26_63
theorem k26_66 : xcd 26 66 = oIl 7 68 := rfl
theorem r26_66 : zr 26 66 [v0, v1, v2, v3, v4, v5, v6, .int x7] st u P = zr 26 68 [v0, v1, v2, v3, v4, v5, v6, .int x7] (.int x7 :: st) u P := zr_Il k26_66 rfl
theorem k26_68 : xcd 26 68 = oLd 13 69 := rfl
theorem r26_68 : zr 26 68 [v0, v1, v2, v3, v4, v5, v6, v7] (.int y1 :: .ref b1 :: st) u P = ((xIs u b1 13 ∧ xinb y1 (xN u b1)) ∧ zr 26 69 [v0, v1, v2, v3, v4, v5, v6, v7] (.int (xI u b1 (xix y1)) :: st) u P) := zr_Ld k26_68
theorem k26_69 : xcd 26 69 = oIl 3 70 := rfl
theorem r26_69 : zr 26 69 [v0, v1, v2, .int x3, v4, v5, v6, v7] st u P = zr 26 70 [v0, v1, v2, .int x3, v4, v5, v6, v7] (.int x3 :: st) u P := zr_Il k26_69 rfl
theorem k26_70 : xcd 26 70 = oCmp (fun x y => decide (x ≤ y)) 77 73 := rfl
theorem r26_70 : zr 26 70 [v0, v1, v2, v3, v4, v5, v6, v7] (.int y1 :: .int y2 :: st) u P = (if y2 ≤ y1 then zr 26 77 [v0, v1, v2, v3, v4, v5, v6, v7] st u P else zr 26 73 [v0, v1, v2, v3, v4, v5, v6, v7] st u P) := zr_Cmp k26_70
theorem k26_73 : xcd 26 73 = oI 1 74 := rfl
theorem r26_73 : zr 26 73 [v0, v1, v2, v3, v4, v5, v6, v7] st u P = zr 26 74 [v0, v1, v2, v3, v4, v5, v6, v7] (.int 1 :: st) u P := zr_I k26_73
theorem k26_74 : xcd 26 74 = oGoto 78 := rfl
theorem r26_74 : zr 26 74 [v0, v1, v2, v3, v4, v5, v6, v7] st u P = zr 26 78 [v0, v1, v2, v3, v4, v5, v6, v7] st u P := zr_Goto k26_74
theorem k26_77 : xcd 26 77 = oI 0 78 := rfl
theorem r26_77 : zr 26 77 [v0, v1, v2, v3, v4, v5, v6, v7] st u P = zr 26 78 [v0, v1, v2, v3, v4, v5, v6, v7] (.int 0 :: st) u P := zr_I k26_77
theorem k26_78 : xcd 26 78 = oCmp (fun x y => decide (x = y)) 106 81 := rfl
theorem r26_78 : zr 26 78 [v0, v1, v2, v3, v4, v5, v6, v7] (.int y1 :: .int y2 :: st) u P = (if y2 = y1 then zr 26 106 [v0, v1, v2, v3, v4, v5, v6, v7] st u P else zr 26 81 [v0, v1, v2, v3, v4, v5, v6, v7] st u P) := zr_Cmp k26_78
theorem k26_81 : xcd 26 81 = oAl 0 82 := rfl
theorem r26_81 : zr 26 81 [.ref a0, v1, v2, v3, v4, v5, v6, v7] st u P = zr 26 82 [.ref a0, v1, v2, v3, v4, v5, v6, v7] (.ref a0 :: st) u P := zr_Al k26_81 rfl
theorem k26_82 : xcd 26 82 = oIl 5 84 := rfl
theorem r26_82 : zr 26 82 [v0, v1, v2, v3, v4, .int x5, v6, v7] st u P = zr 26 84 [v0, v1, v2, v3, v4, .int x5, v6, v7] (.int x5 :: st) u P := zr_Il k26_82 rfl
theorem k26_84 : xcd 26 84 = oIl 7 86 := rfl
theorem r26_84 : zr 26 84 [v0, v1, v2, v3, v4, v5, v6, .int x7] st u P = zr 26 86 [v0, v1, v2, v3, v4, v5, v6, .int x7] (.int x7 :: st) u P := zr_Il k26_84 rfl
theorem k26_86 : xcd 26 86 = oIl 2 87 := rfl
theorem r26_86 : zr 26 86 [v0, v1, .int x2, v3, v4, v5, v6, v7] st u P = zr 26 87 [v0, v1, .int x2, v3, v4, v5, v6, v7] (.int x2 :: st) u P := zr_Il k26_86 rfl
theorem k26_87 : xcd 26 87 = oIl 3 88 := rfl
theorem r26_87 : zr 26 87 [v0, v1, v2, .int x3, v4, v5, v6, v7] st u P = zr 26 88 [v0, v1, v2, .int x3, v4, v5, v6, v7] (.int x3 :: st) u P := zr_Il k26_87 rfl
theorem k26_88 : xcd 26 88 = oCalV 2 27 4 91 := rfl
theorem r26_88 : zr 26 88 [v0, v1, v2, v3, v4, v5, v6, v7] (.int y4 :: .int y3 :: .int y2 :: .int y1 :: .ref b8 :: st) u P = ((xIs u b8 2 ∧ xcat st ≤ 8) ∧ zr 27 0 [.ref b8, .int y1, .int y2, .int y3, .int y4, .null, .null] [] u (fun r u2 => zr 26 91 [v0, v1, v2, v3, v4, v5, v6, v7] (r.toList ++ st) u2 P)) := zr_CV k26_88 rfl rfl rfl ⟨Nat.le_of_ble_eq_true rfl, Nat.succ_ne_zero _, by decide⟩ rfl
theorem k26_91 : xcd 26 91 = oIf (fun x => decide (x = 0)) 106 94 := rfl
theorem r26_91 : zr 26 91 [v0, v1, v2, v3, v4, v5, v6, v7] (.int y1 :: st) u P = (if y1 = 0 then zr 26 106 [v0, v1, v2, v3, v4, v5, v6, v7] st u P else zr 26 94 [v0, v1, v2, v3, v4, v5, v6, v7] st u P) := zr_If k26_91
theorem k26_94 : xcd 26 94 = oIl 6 96 := rfl
theorem r26_94 : zr 26 94 [v0, v1, v2, v3, v4, v5, .int x6, v7] st u P = zr 26 96 [v0, v1, v2, v3, v4, v5, .int x6, v7] (.int x6 :: st) u P := zr_Il k26_94 rfl
theorem k26_96 : xcd 26 96 = oIf (fun x => decide (¬ x = 0)) 103 99 := rfl
theorem r26_96 : zr 26 96 [v0, v1, v2, v3, v4, v5, v6, v7] (.int y1 :: st) u P = (if ¬ y1 = 0 then zr 26 103 [v0, v1, v2, v3, v4, v5, v6, v7] st u P else zr 26 99 [v0, v1, v2, v3, v4, v5, v6, v7] st u P) := zr_If k26_96
theorem k26_99 : xcd 26 99 = oI 1 100 := rfl
theorem r26_99 : zr 26 99 [v0, v1, v2, v3, v4, v5, v6, v7] st u P = zr 26 100 [v0, v1, v2, v3, v4, v5, v6, v7] (.int 1 :: st) u P := zr_I k26_99
theorem k26_100 : xcd 26 100 = oGoto 104 := rfl
theorem r26_100 : zr 26 100 [v0, v1, v2, v3, v4, v5, v6, v7] st u P = zr 26 104 [v0, v1, v2, v3, v4, v5, v6, v7] st u P := zr_Goto k26_100
theorem k26_103 : xcd 26 103 = oI 0 104 := rfl
theorem r26_103 : zr 26 103 [v0, v1, v2, v3, v4, v5, v6, v7] st u P = zr 26 104 [v0, v1, v2, v3, v4, v5, v6, v7] (.int 0 :: st) u P := zr_I k26_103
theorem k26_104 : xcd 26 104 = oIs 6 106 := rfl
theorem r26_104 : zr 26 104 [v0, v1, v2, v3, v4, .int x5, v6, v7] (.int y1 :: st) u P = zr 26 106 [v0, v1, v2, v3, v4, .int x5, .int y1, v7] st u P := zr_Is k26_104 ⟨Nat.le_of_ble_eq_true rfl, rfl⟩
theorem k26_106 : xcd 26 106 = oIl 7 108 := rfl
theorem r26_106 : zr 26 106 [v0, v1, v2, v3, v4, v5, v6, .int x7] st u P = zr 26 108 [v0, v1, v2, v3, v4, v5, v6, .int x7] (.int x7 :: st) u P := zr_Il k26_106 rfl
theorem k26_108 : xcd 26 108 = oIs 5 110 := rfl
theorem r26_108 : zr 26 108 [v0, v1, v2, v3, .int x4, v5, v6, v7] (.int y1 :: st) u P = zr 26 110 [v0, v1, v2, v3, .int x4, .int y1, v6, v7] st u P := zr_Is k26_108 ⟨Nat.le_of_ble_eq_true rfl, rfl⟩
theorem k26_110 : xcd 26 110 = oInc 7 1 113 := rfl
theorem r26_110 : zr 26 110 [v0, v1, v2, v3, v4, v5, .int x6, .int x7] st u P = zr 26 113 [v0, v1, v2, v3, v4, v5, .int x6, .int (x7 + 1)] st u P := zr_Inc k26_110 rfl rfl
theorem k26_113 : xcd 26 113 = oGoto 32 := rfl
theorem r26_113 : zr 26 113 [v0, v1, v2, v3, v4, v5, v6, v7] st u P = zr 26 32 [v0, v1, v2, v3, v4, v5, v6, v7] st u P := zr_Goto k26_113
theorem k26_116 : xcd 26 116 = oIl 6 118 := rfl
theorem r26_116 : zr 26 116 [v0, v1, v2, v3, v4, v5, .int x6, v7] st u P = zr 26 118 [v0, v1, v2, v3, v4, v5, .int x6, v7] (.int x6 :: st) u P := zr_Il k26_116 rfl
theorem k26_118 : xcd 26 118 = oRz 0 := rfl
theorem r26_118 : zr 26 118 [v0, v1, v2, v3, v4, v5, v6, v7] [.int y1] u P = ((y1 = 0 ∨ y1 = 1) ∧ P (some (.int y1)) u) := zr_Rz k26_118
theorem k27_0 : xcd 27 0 = oAl 0 1 := rfl
theorem r27_0 : zr 27 0 [.ref a0, v1, v2, v3, v4, v5, v6] st u P = zr 27 1 [.ref a0, v1, v2, v3, v4, v5, v6] (.ref a0 :: st) u P := zr_Al k27_0 rfl
theorem k27_1 : xcd 27 1 = oGR 2 5 4 := rfl
theorem r27_1 : zr 27 1 [v0, v1, v2, v3, v4, v5, v6] (.ref b1 :: st) u P = (xIs u b1 2 ∧ ∃ b, xR u b1 5 = some b ∧ zr 27 4 [v0, v1, v2, v3, v4, v5, v6] (.ref b :: st) u P) := zr_GR k27_1
theorem k27_4 : xcd 27 4 = oIl 2 5 := rfl
theorem r27_4 : zr 27 4 [v0, v1, .int x2, v3, v4, v5, v6] st u P = zr 27 5 [v0, v1, .int x2, v3, v4, v5, v6] (.int x2 :: st) u P := zr_Il k27_4 rfl
theorem k27_5 : xcd 27 5 = oLd 13 6 := rfl
theorem r27_5 : zr 27 5 [v0, v1, v2, v3, v4, v5, v6] (.int y1 :: .ref b1 :: st) u P = ((xIs u b1 13 ∧ xinb y1 (xN u b1)) ∧ zr 27 6 [v0, v1, v2, v3, v4, v5, v6] (.int (xI u b1 (xix y1)) :: st) u P) := zr_Ld k27_5
theorem k27_6 : xcd 27 6 = oAl 0 7 := rfl
theorem r27_6 : zr 27 6 [.ref a0, v1, v2, v3, v4, v5, v6] st u P = zr 27 7 [.ref a0, v1, v2, v3, v4, v5, v6] (.ref a0 :: st) u P := zr_Al k27_6 rfl
theorem k27_7 : xcd 27 7 = oGR 2 5 10 := rfl
theorem r27_7 : zr 27 7 [v0, v1, v2, v3, v4, v5, v6] (.ref b1 :: st) u P = (xIs u b1 2 ∧ ∃ b, xR u b1 5 = some b ∧ zr 27 10 [v0, v1, v2, v3, v4, v5, v6] (.ref b :: st) u P) := zr_GR k27_7
theorem k27_10 : xcd 27 10 = oIl 1 11 := rfl
theorem r27_10 : zr 27 10 [v0, .int x1, v2, v3, v4, v5, v6] st u P = zr 27 11 [v0, .int x1, v2, v3, v4, v5, v6] (.int x1 :: st) u P := zr_Il k27_10 rfl
theorem k27_11 : xcd 27 11 = oLd 13 12 := rfl
theorem r27_11 : zr 27 11 [v0, v1, v2, v3, v4, v5, v6] (.int y1 :: .ref b1 :: st) u P = ((xIs u b1 13 ∧ xinb y1 (xN u b1)) ∧ zr 27 12 [v0, v1, v2, v3, v4, v5, v6] (.int (xI u b1 (xix y1)) :: st) u P) := zr_Ld k27_11
theorem k27_12 : xcd 27 12 = oB (fun x y => x - y) 13 := rfl
theorem r27_12 : zr 27 12 [v0, v1, v2, v3, v4, v5, v6] (.int y1 :: .int y2 :: st) u P = zr 27 13 [v0, v1, v2, v3, v4, v5, v6] (.int (y2 - y1) :: st) u P := zr_B k27_12
theorem k27_13 : xcd 27 13 = oIs 5 15 := rfl
theorem r27_13 : zr 27 13 [v0, v1, v2, v3, .int x4, v5, v6] (.int y1 :: st) u P = zr 27 15 [v0, v1, v2, v3, .int x4, .int y1, v6] st u P := zr_Is k27_13 ⟨Nat.le_of_ble_eq_true rfl, rfl⟩
theorem k27_15 : xcd 27 15 = oAl 0 16 := rfl
theorem r27_15 : zr 27 15 [.ref a0, v1, v2, v3, v4, v5, v6] st u P = zr 27 16 [.ref a0, v1, v2, v3, v4, v5, v6] (.ref a0 :: st) u P := zr_Al k27_15 rfl
theorem k27_16 : xcd 27 16 = oGR 2 4 19 := rfl
theorem r27_16 : zr 27 16 [v0, v1, v2, v3, v4, v5, v6] (.ref b1 :: st) u P = (xIs u b1 2 ∧ ∃ b, xR u b1 4 = some b ∧ zr 27 19 [v0, v1, v2, v3, v4, v5, v6] (.ref b :: st) u P) := zr_GR k27_16
theorem k27_19 : xcd 27 19 = oIl 1 20 := rfl
theorem r27_19 : zr 27 19 [v0, .int x1, v2, v3, v4, v5, v6] st u P = zr 27 20 [v0, .int x1, v2, v3, v4, v5, v6] (.int x1 :: st) u P := zr_Il k27_19 rfl
theorem k27_20 : xcd 27 20 = oLd 13 21 := rfl
theorem r27_20 : zr 27 20 [v0, v1, v2, v3, v4, v5, v6] (.int y1 :: .ref b1 :: st) u P = ((xIs u b1 13 ∧ xinb y1 (xN u b1)) ∧ zr 27 21 [v0, v1, v2, v3, v4, v5, v6] (.int (xI u b1 (xix y1)) :: st) u P) := zr_Ld k27_20
theorem k27_21 : xcd 27 21 = oIl 3 22 := rfl
theorem r27_21 : zr 27 21 [v0, v1, v2, .int x3, v4, v5, v6] st u P = zr 27 22 [v0, v1, v2, .int x3, v4, v5, v6] (.int x3 :: st) u P := zr_Il k27_21 rfl
theorem k27_22 : xcd 27 22 = oB (fun x y => x - y) 23 := rfl
theorem r27_22 : zr 27 22 [v0, v1, v2, v3, v4, v5, v6] (.int y1 :: .int y2 :: st) u P = zr 27 23 [v0, v1, v2, v3, v4, v5, v6] (.int (y2 - y1) :: st) u P := zr_B k27_22
theorem k27_23 : xcd 27 23 = oIl 5 25 := rfl
theorem r27_23 : zr 27 23 [v0, v1, v2, v3, v4, .int x5, v6] st u P = zr 27 25 [v0, v1, v2, v3, v4, .int x5, v6] (.int x5 :: st) u P := zr_Il k27_23 rfl
theorem k27_25 : xcd 27 25 = oB (fun x y => x * y) 26 := rfl
theorem r27_25 : zr 27 25 [v0, v1, v2, v3, v4, v5, v6] (.int y1 :: .int y2 :: st) u P = zr 27 26 [v0, v1, v2, v3, v4, v5, v6] (.int (y2 * y1) :: st) u P := zr_B k27_25
theorem k27_26 : xcd 27 26 = oIl 4 28 := rfl
theorem r27_26 : zr 27 26 [v0, v1, v2, v3, .int x4, v5, v6] st u P = zr 27 28 [v0, v1, v2, v3, .int x4, v5, v6] (.int x4 :: st) u P := zr_Il k27_26 rfl
theorem k27_28 : xcd 27 28 = oAl 0 29 := rfl
theorem r27_28 : zr 27 28 [.ref a0, v1, v2, v3, v4, v5, v6] st u P = zr 27 29 [.ref a0, v1, v2, v3, v4, v5, v6] (.ref a0 :: st) u P := zr_Al k27_28 rfl
theorem k27_29 : xcd 27 29 = oGR 2 5 32 := rfl
theorem r27_29 : zr 27 29 [v0, v1, v2, v3, v4, v5, v6] (.ref b1 :: st) u P = (xIs u b1 2 ∧ ∃ b, xR u b1 5 = some b ∧ zr 27 32 [v0, v1, v2, v3, v4, v5, v6] (.ref b :: st) u P) := zr_GR k27_29
theorem k27_32 : xcd 27 32 = oIl 1 33 := rfl
theorem r27_32 : zr 27 32 [v0, .int x1, v2, v3, v4, v5, v6] st u P = zr 27 33 [v0, .int x1, v2, v3, v4, v5, v6] (.int x1 :: st) u P := zr_Il k27_32 rfl
theorem k27_33 : xcd 27 33 = oLd 13 34 := rfl
theorem r27_33 : zr 27 33 [v0, v1, v2, v3, v4, v5, v6] (.int y1 :: .ref b1 :: st) u P = ((xIs u b1 13 ∧ xinb y1 (xN u b1)) ∧ zr 27 34 [v0, v1, v2, v3, v4, v5, v6] (.int (xI u b1 (xix y1)) :: st) u P) := zr_Ld k27_33
theorem k27_34 : xcd 27 34 = oB (fun x y => x - y) 35 := rfl
theorem r27_34 : zr 27 34 [v0, v1, v2, v3, v4, v5, v6] (.int y1 :: .int y2 :: st) u P = zr 27 35 [v0, v1, v2, v3, v4, v5, v6] (.int (y2 - y1) :: st) u P := zr_B k27_34
theorem k27_35 : xcd 27 35 = oAl 0 36 := rfl
theorem r27_35 : zr 27 35 [.ref a0, v1, v2, v3, v4, v5, v6] st u P = zr 27 36 [.ref a0, v1, v2, v3, v4, v5, v6] (.ref a0 :: st) u P := zr_Al k27_35 rfl
theorem k27_36 : xcd 27 36 = oGR 2 4 39 := rfl
theorem r27_36 : zr 27 36 [v0, v1, v2, v3, v4, v5, v6] (.ref b1 :: st) u P = (xIs u b1 2 ∧ ∃ b, xR u b1 4 = some b ∧ zr 27 39 [v0, v1, v2, v3, v4, v5, v6] (.ref b :: st) u P) := zr_GR k27_36
theorem k27_39 : xcd 27 39 = oIl 2 40 := rfl
theorem r27_39 : zr 27 39 [v0, v1, .int x2, v3, v4, v5, v6] st u P = zr 27 40 [v0, v1, .int x2, v3, v4, v5, v6] (.int x2 :: st) u P := zr_Il k27_39 rfl
theorem k27_40 : xcd 27 40 = oLd 13 41 := rfl
theorem r27_40 : zr 27 40 [v0, v1, v2, v3, v4, v5, v6] (.int y1 :: .ref b1 :: st) u P = ((xIs u b1 13 ∧ xinb y1 (xN u b1)) ∧ zr 27 41 [v0, v1, v2, v3, v4, v5, v6] (.int (xI u b1 (xix y1)) :: st) u P) := zr_Ld k27_40
theorem k27_41 : xcd 27 41 = oAl 0 42 := rfl
theorem r27_41 : zr 27 41 [.ref a0, v1, v2, v3, v4, v5, v6] st u P = zr 27 42 [.ref a0, v1, v2, v3, v4, v5, v6] (.ref a0 :: st) u P := zr_Al k27_41 rfl
theorem k27_42 : xcd 27 42 = oGR 2 4 45 := rfl
theorem r27_42 : zr 27 42 [v0, v1, v2, v3, v4, v5, v6] (.ref b1 :: st) u P = (xIs u b1 2 ∧ ∃ b, xR u b1 4 = some b ∧ zr 27 45 [v0, v1, v2, v3, v4, v5, v6] (.ref b :: st) u P) := zr_GR k27_42
theorem k27_45 : xcd 27 45 = oIl 1 46 := rfl
theorem r27_45 : zr 27 45 [v0, .int x1, v2, v3, v4, v5, v6] st u P = zr 27 46 [v0, .int x1, v2, v3, v4, v5, v6] (.int x1 :: st) u P := zr_Il k27_45 rfl
theorem k27_46 : xcd 27 46 = oLd 13 47 := rfl
theorem r27_46 : zr 27 46 [v0, v1, v2, v3, v4, v5, v6] (.int y1 :: .ref b1 :: st) u P = ((xIs u b1 13 ∧ xinb y1 (xN u b1)) ∧ zr 27 47 [v0, v1, v2, v3, v4, v5, v6] (.int (xI u b1 (xix y1)) :: st) u P) := zr_Ld k27_46
theorem k27_47 : xcd 27 47 = oB (fun x y => x - y) 48 := rfl
theorem r27_47 : zr 27 47 [v0, v1, v2, v3, v4, v5, v6] (.int y1 :: .int y2 :: st) u P = zr 27 48 [v0, v1, v2, v3, v4, v5, v6] (.int (y2 - y1) :: st) u P := zr_B k27_47
theorem k27_48 : xcd 27 48 = oB (fun x y => x * y) 49 := rfl
theorem r27_48 : zr 27 48 [v0, v1, v2, v3, v4, v5, v6] (.int y1 :: .int y2 :: st) u P = zr 27 49 [v0, v1, v2, v3, v4, v5, v6] (.int (y2 * y1) :: st) u P := zr_B k27_48
theorem k27_49 : xcd 27 49 = oB (fun x y => x + y) 50 := rfl
theorem r27_49 : zr 27 49 [v0, v1, v2, v3, v4, v5, v6] (.int y1 :: .int y2 :: st) u P = zr 27 50 [v0, v1, v2, v3, v4, v5, v6] (.int (y2 + y1) :: st) u P := zr_B k27_49
theorem k27_50 : xcd 27 50 = oIs 6 52 := rfl
theorem r27_50 : zr 27 50 [v0, v1, v2, v3, v4, .int x5, v6] (.int y1 :: st) u P = zr 27 52 [v0, v1, v2, v3, v4, .int x5, .int y1] st u P := zr_Is k27_50 ⟨Nat.le_of_ble_eq_true rfl, rfl⟩
theorem k27_52 : xcd 27 52 = oIl 5 54 := rfl
theorem r27_52 : zr 27 52 [v0, v1, v2, v3, v4, .int x5, v6] st u P = zr 27 54 [v0, v1, v2, v3, v4, .int x5, v6] (.int x5 :: st) u P := zr_Il k27_52 rfl
theorem k27_54 : xcd 27 54 = oIf (fun x => decide (x ≤ 0)) 70 57 := rfl
theorem r27_54 : zr 27 54 [v0, v1, v2, v3, v4, v5, v6] (.int y1 :: st) u P = (if y1 ≤ 0 then zr 27 70 [v0, v1, v2, v3, v4, v5, v6] st u P else zr 27 57 [v0, v1, v2, v3, v4, v5, v6] st u P) := zr_If k27_54
theorem k27_57 : xcd 27 57 = oIl 6 59 := rfl
theorem r27_57 : zr 27 57 [v0, v1, v2, v3, v4, v5, .int x6] st u P = zr 27 59 [v0, v1, v2, v3, v4, v5, .int x6] (.int x6 :: st) u P := zr_Il k27_57 rfl
theorem k27_59 : xcd 27 59 = oIf (fun x => decide (x ≤ 0)) 66 62 := rfl
theorem r27_59 : zr 27 59 [v0, v1, v2, v3, v4, v5, v6] (.int y1 :: st) u P = (if y1 ≤ 0 then zr 27 66 [v0, v1, v2, v3, v4, v5, v6] st u P else zr 27 62 [v0, v1, v2, v3, v4, v5, v6] st u P) := zr_If k27_59
theorem k27_62 : xcd 27 62 = oI 1 63 := rfl
theorem r27_62 : zr 27 62 [v0, v1, v2, v3, v4, v5, v6] st u P = zr 27 63 [v0, v1, v2, v3, v4, v5, v6] (.int 1 :: st) u P := zr_I k27_62
theorem k27_63 : xcd 27 63 = oGoto 80 := rfl
theorem r27_63 : zr 27 63 [v0, v1, v2, v3, v4, v5, v6] st u P = zr 27 80 [v0, v1, v2, v3, v4, v5, v6] st u P := zr_Goto k27_63
theorem k27_66 : xcd 27 66 = oI 0 67 := rfl
theorem r27_66 : zr 27 66 [v0, v1, v2, v3, v4, v5, v6] st u P = zr 27 67 [v0, v1, v2, v3, v4, v5, v6] (.int 0 :: st) u P := zr_I k27_66
theorem k27_67 : xcd 27 67 = oGoto 80 := rfl
theorem r27_67 : zr 27 67 [v0, v1, v2, v3, v4, v5, v6] st u P = zr 27 80 [v0, v1, v2, v3, v4, v5, v6] st u P := zr_Goto k27_67
theorem k27_70 : xcd 27 70 = oIl 6 72 := rfl
theorem r27_70 : zr 27 70 [v0, v1, v2, v3, v4, v5, .int x6] st u P = zr 27 72 [v0, v1, v2, v3, v4, v5, .int x6] (.int x6 :: st) u P := zr_Il k27_70 rfl
theorem k27_72 : xcd 27 72 = oIf (fun x => decide (0 ≤ x)) 79 75 := rfl
theorem r27_72 : zr 27 72 [v0, v1, v2, v3, v4, v5, v6] (.int y1 :: st) u P = (if 0 ≤ y1 then zr 27 79 [v0, v1, v2, v3, v4, v5, v6] st u P else zr 27 75 [v0, v1, v2, v3, v4, v5, v6] st u P) := zr_If k27_72
theorem k27_75 : xcd 27 75 = oI 1 76 := rfl
theorem r27_75 : zr 27 75 [v0, v1, v2, v3, v4, v5, v6] st u P = zr 27 76 [v0, v1, v2, v3, v4, v5, v6] (.int 1 :: st) u P := zr_I k27_75
theorem k27_76 : xcd 27 76 = oGoto 80 := rfl
theorem r27_76 : zr 27 76 [v0, v1, v2, v3, v4, v5, v6] st u P = zr 27 80 [v0, v1, v2, v3, v4, v5, v6] st u P := zr_Goto k27_76
theorem k27_79 : xcd 27 79 = oI 0 80 := rfl
theorem r27_79 : zr 27 79 [v0, v1, v2, v3, v4, v5, v6] st u P = zr 27 80 [v0, v1, v2, v3, v4, v5, v6] (.int 0 :: st) u P := zr_I k27_79
theorem k27_80 : xcd 27 80 = oRz 0 := rfl
theorem r27_80 : zr 27 80 [v0, v1, v2, v3, v4, v5, v6] [.int y1] u P = ((y1 = 0 ∨ y1 = 1) ∧ P (some (.int y1)) u) := zr_Rz k27_80
theorem k28_0 : xcd 28 0 = oIl 1 1 := rfl
theorem r28_0 : zr 28 0 [v0, .int x1, v2, v3, v4, v5, v6] st u P = zr 28 1 [v0, .int x1, v2, v3, v4, v5, v6] (.int x1 :: st) u P := zr_Il k28_0 rfl
theorem k28_1 : xcd 28 1 = oI 6 3 := rfl
theorem r28_1 : zr 28 1 [v0, v1, v2, v3, v4, v5, v6] st u P = zr 28 3 [v0, v1, v2, v3, v4, v5, v6] (.int 6 :: st) u P := zr_I k28_1
theorem k28_3 : xcd 28 3 = oB (fun x y => x * y) 4 := rfl
theorem r28_3 : zr 28 3 [v0, v1, v2, v3, v4, v5, v6] (.int y1 :: .int y2 :: st) u P = zr 28 4 [v0, v1, v2, v3, v4, v5, v6] (.int (y2 * y1) :: st) u P := zr_B k28_3
theorem k28_4 : xcd 28 4 = oIs 4 6 := rfl
theorem r28_4 : zr 28 4 [v0, v1, v2, .int x3, v4, v5, v6] (.int y1 :: st) u P = zr 28 6 [v0, v1, v2, .int x3, .int y1, v5, v6] st u P := zr_Is k28_4 ⟨Nat.le_of_ble_eq_true rfl, rfl⟩
theorem k28_6 : xcd 28 6 = oIl 4 8 := rfl
theorem r28_6 : zr 28 6 [v0, v1, v2, v3, .int x4, v5, v6] st u P = zr 28 8 [v0, v1, v2, v3, .int x4, v5, v6] (.int x4 :: st) u P := zr_Il k28_6 rfl
theorem k28_8 : xcd 28 8 = oAl 0 9 := rfl
theorem r28_8 : zr 28 8 [.ref a0, v1, v2, v3, v4, v5, v6] st u P = zr 28 9 [.ref a0, v1, v2, v3, v4, v5, v6] (.ref a0 :: st) u P := zr_Al k28_8 rfl
theorem k28_9 : xcd 28 9 = oGR 2 3 12 := rfl
theorem r28_9 : zr 28 9 [v0, v1, v2, v3, v4, v5, v6] (.ref b1 :: st) u P = (xIs u b1 2 ∧ ∃ b, xR u b1 3 = some b ∧ zr 28 12 [v0, v1, v2, v3, v4, v5, v6] (.ref b :: st) u P) := zr_GR k28_9
theorem k28_12 : xcd 28 12 = oIl 1 13 := rfl
theorem r28_12 : zr 28 12 [v0, .int x1, v2, v3, v4, v5, v6] st u P = zr 28 13 [v0, .int x1, v2, v3, v4, v5, v6] (.int x1 :: st) u P := zr_Il k28_12 rfl
theorem k28_13 : xcd 28 13 = oLd 13 14 := rfl
theorem r28_13 : zr 28 13 [v0, v1, v2, v3, v4, v5, v6] (.int y1 :: .ref b1 :: st) u P = ((xIs u b1 13 ∧ xinb y1 (xN u b1)) ∧ zr 28 14 [v0, v1, v2, v3, v4, v5, v6] (.int (xI u b1 (xix y1)) :: st) u P) := zr_Ld k28_13
theorem k28_14 : xcd 28 14 = oB (fun x y => x + y) 15 := rfl
theorem r28_14 : zr 28 14 [v0, v1, v2, v3, v4, v5, v6] (.int y1 :: .int y2 :: st) u P = zr 28 15 [v0, v1, v2, v3, v4, v5, v6] (.int (y2 + y1) :: st) u P := zr_B k28_14
theorem k28_15 : xcd 28 15 = oI 1 16 := rfl
theorem r28_15 : zr 28 15 [v0, v1, v2, v3, v4, v5, v6] st u P = zr 28 16 [v0, v1, v2, v3, v4, v5, v6] (.int 1 :: st) u P := zr_I k28_15
theorem k28_16 : xcd 28 16 = oB (fun x y => x - y) 17 := rfl
theorem r28_16 : zr 28 16 [v0, v1, v2, v3, v4, v5, v6] (.int y1 :: .int y2 :: st) u P = zr 28 17 [v0, v1, v2, v3, v4, v5, v6] (.int (y2 - y1) :: st) u P := zr_B k28_16
theorem k28_17 : xcd 28 17 = oIs 5 19 := rfl
theorem r28_17 : zr 28 17 [v0, v1, v2, v3, .int x4, v5, v6] (.int y1 :: st) u P = zr 28 19 [v0, v1, v2, v3, .int x4, .int y1, v6] st u P := zr_Is k28_17 ⟨Nat.le_of_ble_eq_true rfl, rfl⟩
theorem k28_19 : xcd 28 19 = oIl 4 21 := rfl
theorem r28_19 : zr 28 19 [v0, v1, v2, v3, .int x4, v5, v6] st u P = zr 28 21 [v0, v1, v2, v3, .int x4, v5, v6] (.int x4 :: st) u P := zr_Il k28_19 rfl
theorem k28_21 : xcd 28 21 = oIs 6 23 := rfl
theorem r28_21 : zr 28 21 [v0, v1, v2, v3, v4, .int x5, v6] (.int y1 :: st) u P = zr 28 23 [v0, v1, v2, v3, v4, .int x5, .int y1] st u P := zr_Is k28_21 ⟨Nat.le_of_ble_eq_true rfl, rfl⟩
theorem k28_23 : xcd 28 23 = oIl 6 25 := rfl
theorem r28_23 : zr 28 23 [v0, v1, v2, v3, v4, v5, .int x6] st u P = zr 28 25 [v0, v1, v2, v3, v4, v5, .int x6] (.int x6 :: st) u P := zr_Il k28_23 rfl
theorem k28_25 : xcd 28 25 = oIl 4 27 := rfl
theorem r28_25 : zr 28 25 [v0, v1, v2, v3, .int x4, v5, v6] st u P = zr 28 27 [v0, v1, v2, v3, .int x4, v5, v6] (.int x4 :: st) u P := zr_Il k28_25 rfl
theorem k28_27 : xcd 28 27 = oAl 0 28 := rfl
theorem r28_27 : zr 28 27 [.ref a0, v1, v2, v3, v4, v5, v6] st u P = zr 28 28 [.ref a0, v1, v2, v3, v4, v5, v6] (.ref a0 :: st) u P := zr_Al k28_27 rfl
theorem k28_28 : xcd 28 28 = oGR 2 3 31 := rfl
theorem r28_28 : zr 28 28 [v0, v1, v2, v3, v4, v5, v6] (.ref b1 :: st) u P = (xIs u b1 2 ∧ ∃ b, xR u b1 3 = some b ∧ zr 28 31 [v0, v1, v2, v3, v4, v5, v6] (.ref b :: st) u P) := zr_GR k28_28
theorem k28_31 : xcd 28 31 = oIl 1 32 := rfl
theorem r28_31 : zr 28 31 [v0, .int x1, v2, v3, v4, v5, v6] st u P = zr 28 32 [v0, .int x1, v2, v3, v4, v5, v6] (.int x1 :: st) u P := zr_Il k28_31 rfl
theorem k28_32 : xcd 28 32 = oLd 13 33 := rfl
theorem r28_32 : zr 28 32 [v0, v1, v2, v3, v4, v5, v6] (.int y1 :: .ref b1 :: st) u P = ((xIs u b1 13 ∧ xinb y1 (xN u b1)) ∧ zr 28 33 [v0, v1, v2, v3, v4, v5, v6] (.int (xI u b1 (xix y1)) :: st) u P) := zr_Ld k28_32
theorem k28_33 : xcd 28 33 = oB (fun x y => x + y) 34 := rfl
theorem r28_33 : zr 28 33 [v0, v1, v2, v3, v4, v5, v6] (.int y1 :: .int y2 :: st) u P = zr 28 34 [v0, v1, v2, v3, v4, v5, v6] (.int (y2 + y1) :: st) u P := zr_B k28_33
theorem k28_34 : xcd 28 34 = oCmp (fun x y => decide (y ≤ x)) 62 37 := rfl
theorem r28_34 : zr 28 34 [v0, v1, v2, v3, v4, v5, v6] (.int y1 :: .int y2 :: st) u P = (if y1 ≤ y2 then zr 28 62 [v0, v1, v2, v3, v4, v5, v6] st u P else zr 28 37 [v0, v1, v2, v3, v4, v5, v6] st u P) := zr_Cmp k28_34
theorem k28_37 : xcd 28 37 = oAl 0 38 := rfl
theorem r28_37 : zr 28 37 [.ref a0, v1, v2, v3, v4, v5, v6] st u P = zr 28 38 [.ref a0, v1, v2, v3, v4, v5, v6] (.ref a0 :: st) u P := zr_Al k28_37 rfl
theorem k28_38 : xcd 28 38 = oIl 5 40 := rfl
theorem r28_38 : zr 28 38 [v0, v1, v2, v3, v4, .int x5, v6] st u P = zr 28 40 [v0, v1, v2, v3, v4, .int x5, v6] (.int x5 :: st) u P := zr_Il k28_38 rfl
theorem k28_40 : xcd 28 40 = oIl 6 42 := rfl
theorem r28_40 : zr 28 40 [v0, v1, v2, v3, v4, v5, .int x6] st u P = zr 28 42 [v0, v1, v2, v3, v4, v5, .int x6] (.int x6 :: st) u P := zr_Il k28_40 rfl
theorem k28_42 : xcd 28 42 = oIl 2 43 := rfl
theorem r28_42 : zr 28 42 [v0, v1, .int x2, v3, v4, v5, v6] st u P = zr 28 43 [v0, v1, .int x2, v3, v4, v5, v6] (.int x2 :: st) u P := zr_Il k28_42 rfl
theorem k28_43 : xcd 28 43 = oIl 3 44 := rfl
theorem r28_43 : zr 28 43 [v0, v1, v2, .int x3, v4, v5, v6] st u P = zr 28 44 [v0, v1, v2, .int x3, v4, v5, v6] (.int x3 :: st) u P := zr_Il k28_43 rfl
theorem k28_44 : xcd 28 44 = oCalV 2 29 4 47 := rfl
theorem r28_44 : zr 28 44 [v0, v1, v2, v3, v4, v5, v6] (.int y4 :: .int y3 :: .int y2 :: .int y1 :: .ref b8 :: st) u P = ((xIs u b8 2 ∧ xcat st ≤ 8) ∧ zr 29 0 [.ref b8, .int y1, .int y2, .int y3, .int y4, .null] [] u (fun r u2 => zr 28 47 [v0, v1, v2, v3, v4, v5, v6] (r.toList ++ st) u2 P)) := zr_CV k28_44 rfl rfl rfl ⟨Nat.le_of_ble_eq_true rfl, Nat.succ_ne_zero _, by decide⟩ rfl
theorem k28_47 : xcd 28 47 = oIf (fun x => decide (x = 0)) 52 50 := rfl
theorem r28_47 : zr 28 47 [v0, v1, v2, v3, v4, v5, v6] (.int y1 :: st) u P = (if y1 = 0 then zr 28 52 [v0, v1, v2, v3, v4, v5, v6] st u P else zr 28 50 [v0, v1, v2, v3, v4, v5, v6] st u P) := zr_If k28_47
theorem k28_50 : xcd 28 50 = oI 1 51 := rfl
theorem r28_50 : zr 28 50 [v0, v1, v2, v3, v4, v5, v6] st u P = zr 28 51 [v0, v1, v2, v3, v4, v5, v6] (.int 1 :: st) u P := zr_I k28_50
theorem k28_51 : xcd 28 51 = oRz 0 := rfl
theorem r28_51 : zr 28 51 [v0, v1, v2, v3, v4, v5, v6] [.int y1] u P = ((y1 = 0 ∨ y1 = 1) ∧ P (some (.int y1)) u) := zr_Rz k28_51
theorem k28_52 : xcd 28 52 = oIl 6 54 := rfl
theorem r28_52 : zr 28 52 [v0, v1, v2, v3, v4, v5, .int x6] st u P = zr 28 54 [v0, v1, v2, v3, v4, v5, .int x6] (.int x6 :: st) u P := zr_Il k28_52 rfl
theorem k28_54 : xcd 28 54 = oIs 5 56 := rfl
theorem r28_54 : zr 28 54 [v0, v1, v2, v3, .int x4, v5, v6] (.int y1 :: st) u P = zr 28 56 [v0, v1, v2, v3, .int x4, .int y1, v6] st u P := zr_Is k28_54 ⟨Nat.le_of_ble_eq_true rfl, rfl⟩
theorem k28_56 : xcd 28 56 = oInc 6 1 59 := rfl
theorem r28_56 : zr 28 56 [v0, v1, v2, v3, v4, .int x5, .int x6] st u P = zr 28 59 [v0, v1, v2, v3, v4, .int x5, .int (x6 + 1)] st u P := zr_Inc k28_56 rfl rfl
theorem k28_59 : xcd 28 59 = oGoto 23 := rfl
theorem r28_59 : zr 28 59 [v0, v1, v2, v3, v4, v5, v6] st u P = zr 28 23 [v0, v1, v2, v3, v4, v5, v6] st u P := zr_Goto k28_59
theorem k28_62 : xcd 28 62 = oI 0 63 := rfl
theorem r28_62 : zr 28 62 [v0, v1, v2, v3, v4, v5, v6] st u P = zr 28 63 [v0, v1, v2, v3, v4, v5, v6] (.int 0 :: st) u P := zr_I k28_62
theorem k28_63 : xcd 28 63 = oRz 0 := rfl
theorem r28_63 : zr 28 63 [v0, v1, v2, v3, v4, v5, v6] [.int y1] u P = ((y1 = 0 ∨ y1 = 1) ∧ P (some (.int y1)) u) := zr_Rz k28_63
theorem k29_0 : xcd 29 0 = oAl 0 1 := rfl
theorem r29_0 : zr 29 0 [.ref a0, v1, v2, v3, v4, v5] st u P = zr 29 1 [.ref a0, v1, v2, v3, v4, v5] (.ref a0 :: st) u P := zr_Al k29_0 rfl
theorem k29_1 : xcd 29 1 = oGR 2 4 4 := rfl
theorem r29_1 : zr 29 1 [v0, v1, v2, v3, v4, v5] (.ref b1 :: st) u P = (xIs u b1 2 ∧ ∃ b, xR u b1 4 = some b ∧ zr 29 4 [v0, v1, v2, v3, v4, v5] (.ref b :: st) u P) := zr_GR k29_1
theorem k29_4 : xcd 29 4 = oIl 2 5 := rfl
theorem r29_4 : zr 29 4 [v0, v1, .int x2, v3, v4, v5] st u P = zr 29 5 [v0, v1, .int x2, v3, v4, v5] (.int x2 :: st) u P := zr_Il k29_4 rfl
theorem k29_5 : xcd 29 5 = oLd 13 6 := rfl
theorem r29_5 : zr 29 5 [v0, v1, v2, v3, v4, v5] (.int y1 :: .ref b1 :: st) u P = ((xIs u b1 13 ∧ xinb y1 (xN u b1)) ∧ zr 29 6 [v0, v1, v2, v3, v4, v5] (.int (xI u b1 (xix y1)) :: st) u P) := zr_Ld k29_5
theorem k29_6 : xcd 29 6 = oAl 0 7 := rfl
theorem r29_6 : zr 29 6 [.ref a0, v1, v2, v3, v4, v5] st u P = zr 29 7 [.ref a0, v1, v2, v3, v4, v5] (.ref a0 :: st) u P := zr_Al k29_6 rfl
theorem k29_7 : xcd 29 7 = oGR 2 4 10 := rfl
theorem r29_7 : zr 29 7 [v0, v1, v2, v3, v4, v5] (.ref b1 :: st) u P = (xIs u b1 2 ∧ ∃ b, xR u b1 4 = some b ∧ zr 29 10 [v0, v1, v2, v3, v4, v5] (.ref b :: st) u P) := zr_GR k29_7
theorem k29_10 : xcd 29 10 = oIl 1 11 := rfl
theorem r29_10 : zr 29 10 [v0, .int x1, v2, v3, v4, v5] st u P = zr 29 11 [v0, .int x1, v2, v3, v4, v5] (.int x1 :: st) u P := zr_Il k29_10 rfl
theorem k29_11 : xcd 29 11 = oLd 13 12 := rfl
theorem r29_11 : zr 29 11 [v0, v1, v2, v3, v4, v5] (.int y1 :: .ref b1 :: st) u P = ((xIs u b1 13 ∧ xinb y1 (xN u b1)) ∧ zr 29 12 [v0, v1, v2, v3, v4, v5] (.int (xI u b1 (xix y1)) :: st) u P) := zr_Ld k29_11
theorem k29_12 : xcd 29 12 = oB (fun x y => x - y) 13 := rfl
theorem r29_12 : zr 29 12 [v0, v1, v2, v3, v4, v5] (.int y1 :: .int y2 :: st) u P = zr 29 13 [v0, v1, v2, v3, v4, v5] (.int (y2 - y1) :: st) u P := zr_B k29_12
theorem k29_13 : xcd 29 13 = oIl 4 15 := rfl
theorem r29_13 : zr 29 13 [v0, v1, v2, v3, .int x4, v5] st u P = zr 29 15 [v0, v1, v2, v3, .int x4, v5] (.int x4 :: st) u P := zr_Il k29_13 rfl
theorem k29_15 : xcd 29 15 = oAl 0 16 := rfl
theorem r29_15 : zr 29 15 [.ref a0, v1, v2, v3, v4, v5] st u P = zr 29 16 [.ref a0, v1, v2, v3, v4, v5] (.ref a0 :: st) u P := zr_Al k29_15 rfl
theorem k29_16 : xcd 29 16 = oGR 2 5 19 := rfl
theorem r29_16 : zr 29 16 [v0, v1, v2, v3, v4, v5] (.ref b1 :: st) u P = (xIs u b1 2 ∧ ∃ b, xR u b1 5 = some b ∧ zr 29 19 [v0, v1, v2, v3, v4, v5] (.ref b :: st) u P) := zr_GR k29_16
theorem k29_19 : xcd 29 19 = oIl 1 20 := rfl
theorem r29_19 : zr 29 19 [v0, .int x1, v2, v3, v4, v5] st u P = zr 29 20 [v0, .int x1, v2, v3, v4, v5] (.int x1 :: st) u P := zr_Il k29_19 rfl
theorem k29_20 : xcd 29 20 = oLd 13 21 := rfl
theorem r29_20 : zr 29 20 [v0, v1, v2, v3, v4, v5] (.int y1 :: .ref b1 :: st) u P = ((xIs u b1 13 ∧ xinb y1 (xN u b1)) ∧ zr 29 21 [v0, v1, v2, v3, v4, v5] (.int (xI u b1 (xix y1)) :: st) u P) := zr_Ld k29_20
theorem k29_21 : xcd 29 21 = oB (fun x y => x - y) 22 := rfl
theorem r29_21 : zr 29 21 [v0, v1, v2, v3, v4, v5] (.int y1 :: .int y2 :: st) u P = zr 29 22 [v0, v1, v2, v3, v4, v5] (.int (y2 - y1) :: st) u P := zr_B k29_21
theorem k29_22 : xcd 29 22 = oB (fun x y => x * y) 23 := rfl
theorem r29_22 : zr 29 22 [v0, v1, v2, v3, v4, v5] (.int y1 :: .int y2 :: st) u P = zr 29 23 [v0, v1, v2, v3, v4, v5] (.int (y2 * y1) :: st) u P := zr_B k29_22
theorem k29_23 : xcd 29 23 = oAl 0 24 := rfl
theorem r29_23 : zr 29 23 [.ref a0, v1, v2, v3, v4, v5] st u P = zr 29 24 [.ref a0, v1, v2, v3, v4, v5] (.ref a0 :: st) u P := zr_Al k29_23 rfl
theorem k29_24 : xcd 29 24 = oGR 2 5 27 := rfl
theorem r29_24 : zr 29 24 [v0, v1, v2, v3, v4, v5] (.ref b1 :: st) u P = (xIs u b1 2 ∧ ∃ b, xR u b1 5 = some b ∧ zr 29 27 [v0, v1, v2, v3, v4, v5] (.ref b :: st) u P) := zr_GR k29_24
theorem k29_27 : xcd 29 27 = oIl 2 28 := rfl
theorem r29_27 : zr 29 27 [v0, v1, .int x2, v3, v4, v5] st u P = zr 29 28 [v0, v1, .int x2, v3, v4, v5] (.int x2 :: st) u P := zr_Il k29_27 rfl
theorem k29_28 : xcd 29 28 = oLd 13 29 := rfl
theorem r29_28 : zr 29 28 [v0, v1, v2, v3, v4, v5] (.int y1 :: .ref b1 :: st) u P = ((xIs u b1 13 ∧ xinb y1 (xN u b1)) ∧ zr 29 29 [v0, v1, v2, v3, v4, v5] (.int (xI u b1 (xix y1)) :: st) u P) := zr_Ld k29_28
theorem k29_29 : xcd 29 29 = oAl 0 30 := rfl
theorem r29_29 : zr 29 29 [.ref a0, v1, v2, v3, v4, v5] st u P = zr 29 30 [.ref a0, v1, v2, v3, v4, v5] (.ref a0 :: st) u P := zr_Al k29_29 rfl
theorem k29_30 : xcd 29 30 = oGR 2 5 33 := rfl
theorem r29_30 : zr 29 30 [v0, v1, v2, v3, v4, v5] (.ref b1 :: st) u P = (xIs u b1 2 ∧ ∃ b, xR u b1 5 = some b ∧ zr 29 33 [v0, v1, v2, v3, v4, v5] (.ref b :: st) u P) := zr_GR k29_30
theorem k29_33 : xcd 29 33 = oIl 1 34 := rfl
theorem r29_33 : zr 29 33 [v0, .int x1, v2, v3, v4, v5] st u P = zr 29 34 [v0, .int x1, v2, v3, v4, v5] (.int x1 :: st) u P := zr_Il k29_33 rfl
theorem k29_34 : xcd 29 34 = oLd 13 35 := rfl
theorem r29_34 : zr 29 34 [v0, v1, v2, v3, v4, v5] (.int y1 :: .ref b1 :: st) u P = ((xIs u b1 13 ∧ xinb y1 (xN u b1)) ∧ zr 29 35 [v0, v1, v2, v3, v4, v5] (.int (xI u b1 (xix y1)) :: st) u P) := zr_Ld k29_34
theorem k29_35 : xcd 29 35 = oB (fun x y => x - y) 36 := rfl
theorem r29_35 : zr 29 35 [v0, v1, v2, v3, v4, v5] (.int y1 :: .int y2 :: st) u P = zr 29 36 [v0, v1, v2, v3, v4, v5] (.int (y2 - y1) :: st) u P := zr_B k29_35
theorem k29_36 : xcd 29 36 = oIl 3 37 := rfl
theorem r29_36 : zr 29 36 [v0, v1, v2, .int x3, v4, v5] st u P = zr 29 37 [v0, v1, v2, .int x3, v4, v5] (.int x3 :: st) u P := zr_Il k29_36 rfl
theorem k29_37 : xcd 29 37 = oAl 0 38 := rfl
theorem r29_37 : zr 29 37 [.ref a0, v1, v2, v3, v4, v5] st u P = zr 29 38 [.ref a0, v1, v2, v3, v4, v5] (.ref a0 :: st) u P := zr_Al k29_37 rfl
theorem k29_38 : xcd 29 38 = oGR 2 4 41 := rfl
theorem r29_38 : zr 29 38 [v0, v1, v2, v3, v4, v5] (.ref b1 :: st) u P = (xIs u b1 2 ∧ ∃ b, xR u b1 4 = some b ∧ zr 29 41 [v0, v1, v2, v3, v4, v5] (.ref b :: st) u P) := zr_GR k29_38
theorem k29_41 : xcd 29 41 = oIl 1 42 := rfl
theorem r29_41 : zr 29 41 [v0, .int x1, v2, v3, v4, v5] st u P = zr 29 42 [v0, .int x1, v2, v3, v4, v5] (.int x1 :: st) u P := zr_Il k29_41 rfl
theorem k29_42 : xcd 29 42 = oLd 13 43 := rfl
theorem r29_42 : zr 29 42 [v0, v1, v2, v3, v4, v5] (.int y1 :: .ref b1 :: st) u P = ((xIs u b1 13 ∧ xinb y1 (xN u b1)) ∧ zr 29 43 [v0, v1, v2, v3, v4, v5] (.int (xI u b1 (xix y1)) :: st) u P) := zr_Ld k29_42
theorem k29_43 : xcd 29 43 = oB (fun x y => x - y) 44 := rfl
theorem r29_43 : zr 29 43 [v0, v1, v2, v3, v4, v5] (.int y1 :: .int y2 :: st) u P = zr 29 44 [v0, v1, v2, v3, v4, v5] (.int (y2 - y1) :: st) u P := zr_B k29_43
theorem k29_44 : xcd 29 44 = oB (fun x y => x * y) 45 := rfl
theorem r29_44 : zr 29 44 [v0, v1, v2, v3, v4, v5] (.int y1 :: .int y2 :: st) u P = zr 29 45 [v0, v1, v2, v3, v4, v5] (.int (y2 * y1) :: st) u P := zr_B k29_44
theorem k29_45 : xcd 29 45 = oB (fun x y => x - y) 46 := rfl
theorem r29_45 : zr 29 45 [v0, v1, v2, v3, v4, v5] (.int y1 :: .int y2 :: st) u P = zr 29 46 [v0, v1, v2, v3, v4, v5] (.int (y2 - y1) :: st) u P := zr_B k29_45
theorem k29_46 : xcd 29 46 = oIs 5 48 := rfl
theorem r29_46 : zr 29 46 [v0, v1, v2, v3, .int x4, v5] (.int y1 :: st) u P = zr 29 48 [v0, v1, v2, v3, .int x4, .int y1] st u P := zr_Is k29_46 ⟨Nat.le_of_ble_eq_true rfl, rfl⟩
theorem k29_48 : xcd 29 48 = oIl 5 50 := rfl
theorem r29_48 : zr 29 48 [v0, v1, v2, v3, v4, .int x5] st u P = zr 29 50 [v0, v1, v2, v3, v4, .int x5] (.int x5 :: st) u P := zr_Il k29_48 rfl
theorem k29_50 : xcd 29 50 = oIf (fun x => decide (¬ x = 0)) 132 53 := rfl
theorem r29_50 : zr 29 50 [v0, v1, v2, v3, v4, v5] (.int y1 :: st) u P = (if ¬ y1 = 0 then zr 29 132 [v0, v1, v2, v3, v4, v5] st u P else zr 29 53 [v0, v1, v2, v3, v4, v5] st u P) := zr_If k29_50
theorem k29_53 : xcd 29 53 = oIl 3 54 := rfl
theorem r29_53 : zr 29 53 [v0, v1, v2, .int x3, v4, v5] st u P = zr 29 54 [v0, v1, v2, .int x3, v4, v5] (.int x3 :: st) u P := zr_Il k29_53 rfl
theorem k29_54 : xcd 29 54 = oAl 0 55 := rfl
theorem r29_54 : zr 29 54 [.ref a0, v1, v2, v3, v4, v5] st u P = zr 29 55 [.ref a0, v1, v2, v3, v4, v5] (.ref a0 :: st) u P := zr_Al k29_54 rfl
theorem k29_55 : xcd 29 55 = oGR 2 4 58 := rfl
theorem r29_55 : zr 29 55 [v0, v1, v2, v3, v4, v5] (.ref b1 :: st) u P = (xIs u b1 2 ∧ ∃ b, xR u b1 4 = some b ∧ zr 29 58 [v0, v1, v2, v3, v4, v5] (.ref b :: st) u P) := zr_GR k29_55
theorem k29_58 : xcd 29 58 = oIl 1 59 := rfl
theorem r29_58 : zr 29 58 [v0, .int x1, v2, v3, v4, v5] st u P = zr 29 59 [v0, .int x1, v2, v3, v4, v5] (.int x1 :: st) u P := zr_Il k29_58 rfl
theorem k29_59 : xcd 29 59 = oLd 13 60 := rfl
theorem r29_59 : zr 29 59 [v0, v1, v2, v3, v4, v5] (.int y1 :: .ref b1 :: st) u P = ((xIs u b1 13 ∧ xinb y1 (xN u b1)) ∧ zr 29 60 [v0, v1, v2, v3, v4, v5] (.int (xI u b1 (xix y1)) :: st) u P) := zr_Ld k29_59
theorem k29_60 : xcd 29 60 = oAl 0 61 := rfl
theorem r29_60 : zr 29 60 [.ref a0, v1, v2, v3, v4, v5] st u P = zr 29 61 [.ref a0, v1, v2, v3, v4, v5] (.ref a0 :: st) u P := zr_Al k29_60 rfl
theorem k29_61 : xcd 29 61 = oGR 2 4 64 := rfl
theorem r29_61 : zr 29 61 [v0, v1, v2, v3, v4, v5] (.ref b1 :: st) u P = (xIs u b1 2 ∧ ∃ b, xR u b1 4 = some b ∧ zr 29 64 [v0, v1, v2, v3, v4, v5] (.ref b :: st) u P) := zr_GR k29_61
theorem k29_64 : xcd 29 64 = oIl 2 65 := rfl
theorem r29_64 : zr 29 64 [v0, v1, .int x2, v3, v4, v5] st u P = zr 29 65 [v0, v1, .int x2, v3, v4, v5] (.int x2 :: st) u P := zr_Il k29_64 rfl
theorem k29_65 : xcd 29 65 = oLd 13 66 := rfl
theorem r29_65 : zr 29 65 [v0, v1, v2, v3, v4, v5] (.int y1 :: .ref b1 :: st) u P = ((xIs u b1 13 ∧ xinb y1 (xN u b1)) ∧ zr 29 66 [v0, v1, v2, v3, v4, v5] (.int (xI u b1 (xix y1)) :: st) u P) := zr_Ld k29_65
theorem k29_66 : xcd 29 66 = oMin 69 := rfl
theorem r29_66 : zr 29 66 [v0, v1, v2, v3, v4, v5] (.int y1 :: .int y2 :: st) u P = (xcat st ≤ 8 ∧ zr 29 69 [v0, v1, v2, v3, v4, v5] (.int (if y1 < y2 then y1 else y2) :: st) u P) := zr_Min k29_66
theorem k29_69 : xcd 29 69 = oAl 0 70 := rfl
theorem r29_69 : zr 29 69 [.ref a0, v1, v2, v3, v4, v5] st u P = zr 29 70 [.ref a0, v1, v2, v3, v4, v5] (.ref a0 :: st) u P := zr_Al k29_69 rfl
theorem k29_70 : xcd 29 70 = oGR 2 4 73 := rfl
theorem r29_70 : zr 29 70 [v0, v1, v2, v3, v4, v5] (.ref b1 :: st) u P = (xIs u b1 2 ∧ ∃ b, xR u b1 4 = some b ∧ zr 29 73 [v0, v1, v2, v3, v4, v5] (.ref b :: st) u P) := zr_GR k29_70
theorem k29_73 : xcd 29 73 = oIl 1 74 := rfl
theorem r29_73 : zr 29 73 [v0, .int x1, v2, v3, v4, v5] st u P = zr 29 74 [v0, .int x1, v2, v3, v4, v5] (.int x1 :: st) u P := zr_Il k29_73 rfl
theorem k29_74 : xcd 29 74 = oLd 13 75 := rfl
theorem r29_74 : zr 29 74 [v0, v1, v2, v3, v4, v5] (.int y1 :: .ref b1 :: st) u P = ((xIs u b1 13 ∧ xinb y1 (xN u b1)) ∧ zr 29 75 [v0, v1, v2, v3, v4, v5] (.int (xI u b1 (xix y1)) :: st) u P) := zr_Ld k29_74
theorem k29_75 : xcd 29 75 = oAl 0 76 := rfl
theorem r29_75 : zr 29 75 [.ref a0, v1, v2, v3, v4, v5] st u P = zr 29 76 [.ref a0, v1, v2, v3, v4, v5] (.ref a0 :: st) u P := zr_Al k29_75 rfl
theorem k29_76 : xcd 29 76 = oGR 2 4 79 := rfl
theorem r29_76 : zr 29 76 [v0, v1, v2, v3, v4, v5] (.ref b1 :: st) u P = (xIs u b1 2 ∧ ∃ b, xR u b1 4 = some b ∧ zr 29 79 [v0, v1, v2, v3, v4, v5] (.ref b :: st) u P) := zr_GR k29_76
theorem k29_79 : xcd 29 79 = oIl 2 80 := rfl
theorem r29_79 : zr 29 79 [v0, v1, .int x2, v3, v4, v5] st u P = zr 29 80 [v0, v1, .int x2, v3, v4, v5] (.int x2 :: st) u P := zr_Il k29_79 rfl
theorem k29_80 : xcd 29 80 = oLd 13 81 := rfl
theorem r29_80 : zr 29 80 [v0, v1, v2, v3, v4, v5] (.int y1 :: .ref b1 :: st) u P = ((xIs u b1 13 ∧ xinb y1 (xN u b1)) ∧ zr 29 81 [v0, v1, v2, v3, v4, v5] (.int (xI u b1 (xix y1)) :: st) u P) := zr_Ld k29_80
theorem k29_81 : xcd 29 81 = oMax 84 := rfl
theorem r29_81 : zr 29 81 [v0, v1, v2, v3, v4, v5] (.int y1 :: .int y2 :: st) u P = (xcat st ≤ 8 ∧ zr 29 84 [v0, v1, v2, v3, v4, v5] (.int (if y2 < y1 then y1 else y2) :: st) u P) := zr_Max k29_81
theorem k29_84 : xcd 29 84 = oCal 164 3 87 := rfl
theorem r29_84 : zr 29 84 [v0, v1, v2, v3, v4, v5] (.int y3 :: .int y2 :: .int y1 :: st) u P = (xcat st ≤ 8 ∧ zr 164 0 [.int y1, .int y2, .int y3] [] u (fun r u2 => zr 29 87 [v0, v1, v2, v3, v4, v5] (r.toList ++ st) u2 P)) := zr_CS k29_84 (Nat.le_add_left _ _) rfl rfl ⟨Nat.le_of_ble_eq_true rfl, Nat.succ_ne_zero _, by decide⟩ rfl
theorem k29_87 : xcd 29 87 = oIf (fun x => decide (x = 0)) 132 90 := rfl
theorem r29_87 : zr 29 87 [v0, v1, v2, v3, v4, v5] (.int y1 :: st) u P = (if y1 = 0 then zr 29 132 [v0, v1, v2, v3, v4, v5] st u P else zr 29 90 [v0, v1, v2, v3, v4, v5] st u P) := zr_If k29_87
theorem k29_90 : xcd 29 90 = oIl 4 92 := rfl
theorem r29_90 : zr 29 90 [v0, v1, v2, v3, .int x4, v5] st u P = zr 29 92 [v0, v1, v2, v3, .int x4, v5] (.int x4 :: st) u P := zr_Il k29_90 rfl
theorem k29_92 : xcd 29 92 = oAl 0 93 := rfl
theorem r29_92 : zr 29 92 [.ref a0, v1, v2, v3, v4, v5] st u P = zr 29 93 [.ref a0, v1, v2, v3, v4, v5] (.ref a0 :: st) u P := zr_Al k29_92 rfl
theorem k29_93 : xcd 29 93 = oGR 2 5 96 := rfl
theorem r29_93 : zr 29 93 [v0, v1, v2, v3, v4, v5] (.ref b1 :: st) u P = (xIs u b1 2 ∧ ∃ b, xR u b1 5 = some b ∧ zr 29 96 [v0, v1, v2, v3, v4, v5] (.ref b :: st) u P) := zr_GR k29_93
theorem k29_96 : xcd 29 96 = oIl 1 97 := rfl
theorem r29_96 : zr 29 96 [v0, .int x1, v2, v3, v4, v5] st u P = zr 29 97 [v0, .int x1, v2, v3, v4, v5] (.int x1 :: st) u P := zr_Il k29_96 rfl
theorem k29_97 : xcd 29 97 = oLd 13 98 := rfl
theorem r29_97 : zr 29 97 [v0, v1, v2, v3, v4, v5] (.int y1 :: .ref b1 :: st) u P = ((xIs u b1 13 ∧ xinb y1 (xN u b1)) ∧ zr 29 98 [v0, v1, v2, v3, v4, v5] (.int (xI u b1 (xix y1)) :: st) u P) := zr_Ld k29_97
theorem k29_98 : xcd 29 98 = oAl 0 99 := rfl
theorem r29_98 : zr 29 98 [.ref a0, v1, v2, v3, v4, v5] st u P = zr 29 99 [.ref a0, v1, v2, v3, v4, v5] (.ref a0 :: st) u P := zr_Al k29_98 rfl
theorem k29_99 : xcd 29 99 = oGR 2 5 102 := rfl
theorem r29_99 : zr 29 99 [v0, v1, v2, v3, v4, v5] (.ref b1 :: st) u P = (xIs u b1 2 ∧ ∃ b, xR u b1 5 = some b ∧ zr 29 102 [v0, v1, v2, v3, v4, v5] (.ref b :: st) u P) := zr_GR k29_99
theorem k29_102 : xcd 29 102 = oIl 2 103 := rfl
theorem r29_102 : zr 29 102 [v0, v1, .int x2, v3, v4, v5] st u P = zr 29 103 [v0, v1, .int x2, v3, v4, v5] (.int x2 :: st) u P := zr_Il k29_102 rfl
theorem k29_103 : xcd 29 103 = oLd 13 104 := rfl
theorem r29_103 : zr 29 103 [v0, v1, v2, v3, v4, v5] (.int y1 :: .ref b1 :: st) u P = ((xIs u b1 13 ∧ xinb y1 (xN u b1)) ∧ zr 29 104 [v0, v1, v2, v3, v4, v5] (.int (xI u b1 (xix y1)) :: st) u P) := zr_Ld k29_103
theorem k29_104 : xcd 29 104 = oMin 107 := rfl
theorem r29_104 : zr 29 104 [v0, v1, v2, v3, v4, v5] (.int y1 :: .int y2 :: st) u P = (xcat st ≤ 8 ∧ zr 29 107 [v0, v1, v2, v3, v4, v5] (.int (if y1 < y2 then y1 else y2) :: st) u P) := zr_Min k29_104
theorem k29_107 : xcd 29 107 = oAl 0 108 := rfl
theorem r29_107 : zr 29 107 [.ref a0, v1, v2, v3, v4, v5] st u P = zr 29 108 [.ref a0, v1, v2, v3, v4, v5] (.ref a0 :: st) u P := zr_Al k29_107 rfl
theorem k29_108 : xcd 29 108 = oGR 2 5 111 := rfl
theorem r29_108 : zr 29 108 [v0, v1, v2, v3, v4, v5] (.ref b1 :: st) u P = (xIs u b1 2 ∧ ∃ b, xR u b1 5 = some b ∧ zr 29 111 [v0, v1, v2, v3, v4, v5] (.ref b :: st) u P) := zr_GR k29_108
theorem k29_111 : xcd 29 111 = oIl 1 112 := rfl
theorem r29_111 : zr 29 111 [v0, .int x1, v2, v3, v4, v5] st u P = zr 29 112 [v0, .int x1, v2, v3, v4, v5] (.int x1 :: st) u P := zr_Il k29_111 rfl
theorem k29_112 : xcd 29 112 = oLd 13 113 := rfl
theorem r29_112 : zr 29 112 [v0, v1, v2, v3, v4, v5] (.int y1 :: .ref b1 :: st) u P = ((xIs u b1 13 ∧ xinb y1 (xN u b1)) ∧ zr 29 113 [v0, v1, v2, v3, v4, v5] (.int (xI u b1 (xix y1)) :: st) u P) := zr_Ld k29_112
theorem k29_113 : xcd 29 113 = oAl 0 114 := rfl
theorem r29_113 : zr 29 113 [.ref a0, v1, v2, v3, v4, v5] st u P = zr 29 114 [.ref a0, v1, v2, v3, v4, v5] (.ref a0 :: st) u P := zr_Al k29_113 rfl
theorem k29_114 : xcd 29 114 = oGR 2 5 117 := rfl
theorem r29_114 : zr 29 114 [v0, v1, v2, v3, v4, v5] (.ref b1 :: st) u P = (xIs u b1 2 ∧ ∃ b, xR u b1 5 = some b ∧ zr 29 117 [v0, v1, v2, v3, v4, v5] (.ref b :: st) u P) := zr_GR k29_114
theorem k29_117 : xcd 29 117 = oIl 2 118 := rfl
theorem r29_117 : zr 29 117 [v0, v1, .int x2, v3, v4, v5] st u P = zr 29 118 [v0, v1, .int x2, v3, v4, v5] (.int x2 :: st) u P := zr_Il k29_117 rfl
theorem k29_118 : xcd 29 118 = oLd 13 119 := rfl
theorem r29_118 : zr 29 118 [v0, v1, v2, v3, v4, v5] (.int y1 :: .ref b1 :: st) u P = ((xIs u b1 13 ∧ xinb y1 (xN u b1)) ∧ zr 29 119 [v0, v1, v2, v3, v4, v5] (.int (xI u b1 (xix y1)) :: st) u P) := zr_Ld k29_118
theorem k29_119 : xcd 29 119 = oMax 122 := rfl
theorem r29_119 : zr 29 119 [v0, v1, v2, v3, v4, v5] (.int y1 :: .int y2 :: st) u P = (xcat st ≤ 8 ∧ zr 29 122 [v0, v1, v2, v3, v4, v5] (.int (if y2 < y1 then y1 else y2) :: st) u P) := zr_Max k29_119
theorem k29_122 : xcd 29 122 = oCal 164 3 125 := rfl
theorem r29_122 : zr 29 122 [v0, v1, v2, v3, v4, v5] (.int y3 :: .int y2 :: .int y1 :: st) u P = (xcat st ≤ 8 ∧ zr 164 0 [.int y1, .int y2, .int y3] [] u (fun r u2 => zr 29 125 [v0, v1, v2, v3, v4, v5] (r.toList ++ st) u2 P)) := zr_CS k29_122 (Nat.le_add_left _ _) rfl rfl ⟨Nat.le_of_ble_eq_true rfl, Nat.succ_ne_zero _, by decide⟩ rfl
theorem k29_125 : xcd 29 125 = oIf (fun x => decide (x = 0)) 132 128 := rfl
theorem r29_125 : zr 29 125 [v0, v1, v2, v3, v4, v5] (.int y1 :: st) u P = (if y1 = 0 then zr 29 132 [v0, v1, v2, v3, v4, v5] st u P else zr 29 128 [v0, v1, v2, v3, v4, v5] st u P) := zr_If k29_125
theorem k29_128 : xcd 29 128 = oI 1 129 := rfl
theorem r29_128 : zr 29 128 [v0, v1, v2, v3, v4, v5] st u P = zr 29 129 [v0, v1, v2, v3, v4, v5] (.int 1 :: st) u P := zr_I k29_128
theorem k29_129 : xcd 29 129 = oGoto 133 := rfl
theorem r29_129 : zr 29 129 [v0, v1, v2, v3, v4, v5] st u P = zr 29 133 [v0, v1, v2, v3, v4, v5] st u P := zr_Goto k29_129
theorem k29_132 : xcd 29 132 = oI 0 133 := rfl
theorem r29_132 : zr 29 132 [v0, v1, v2, v3, v4, v5] st u P = zr 29 133 [v0, v1, v2, v3, v4, v5] (.int 0 :: st) u P := zr_I k29_132
theorem k29_133 : xcd 29 133 = oRz 0 := rfl
theorem r29_133 : zr 29 133 [v0, v1, v2, v3, v4, v5] [.int y1] u P = ((y1 = 0 ∨ y1 = 1) ∧ P (some (.int y1)) u) := zr_Rz k29_133
theorem k30_0 : xcd 30 0 = oIl 1 1 := rfl
theorem r30_0 : zr 30 0 [v0, .int x1, v2, v3, v4, v5, v6] st u P = zr 30 1 [v0, .int x1, v2, v3, v4, v5, v6] (.int x1 :: st) u P := zr_Il k30_0 rfl
theorem k30_1 : xcd 30 1 = oI 6 3 := rfl
theorem r30_1 : zr 30 1 [v0, v1, v2, v3, v4, v5, v6] st u P = zr 30 3 [v0, v1, v2, v3, v4, v5, v6] (.int 6 :: st) u P := zr_I k30_1
theorem k30_3 : xcd 30 3 = oB (fun x y => x * y) 4 := rfl
theorem r30_3 : zr 30 3 [v0, v1, v2, v3, v4, v5, v6] (.int y1 :: .int y2 :: st) u P = zr 30 4 [v0, v1, v2, v3, v4, v5, v6] (.int (y2 * y1) :: st) u P := zr_B k30_3
theorem k30_4 : xcd 30 4 = oIs 5 6 := rfl
theorem r30_4 : zr 30 4 [v0, v1, v2, v3, .int x4, v5, v6] (.int y1 :: st) u P = zr 30 6 [v0, v1, v2, v3, .int x4, .int y1, v6] st u P := zr_Is k30_4 ⟨Nat.le_of_ble_eq_true rfl, rfl⟩
theorem k30_6 : xcd 30 6 = oIl 5 8 := rfl
theorem r30_6 : zr 30 6 [v0, v1, v2, v3, v4, .int x5, v6] st u P = zr 30 8 [v0, v1, v2, v3, v4, .int x5, v6] (.int x5 :: st) u P := zr_Il k30_6 rfl
theorem k30_8 : xcd 30 8 = oIs 6 10 := rfl
theorem r30_8 : zr 30 8 [v0, v1, v2, v3, v4, .int x5, v6] (.int y1 :: st) u P = zr 30 10 [v0, v1, v2, v3, v4, .int x5, .int y1] st u P := zr_Is k30_8 ⟨Nat.le_of_ble_eq_true rfl, rfl⟩
theorem k30_10 : xcd 30 10 = oIl 6 12 := rfl
theorem r30_10 : zr 30 10 [v0, v1, v2, v3, v4, v5, .int x6] st u P = zr 30 12 [v0, v1, v2, v3, v4, v5, .int x6] (.int x6 :: st) u P := zr_Il k30_10 rfl
theorem k30_12 : xcd 30 12 = oIl 5 14 := rfl
theorem r30_12 : zr 30 12 [v0, v1, v2, v3, v4, .int x5, v6] st u P = zr 30 14 [v0, v1, v2, v3, v4, .int x5, v6] (.int x5 :: st) u P := zr_Il k30_12 rfl
theorem k30_14 : xcd 30 14 = oAl 0 15 := rfl
theorem r30_14 : zr 30 14 [.ref a0, v1, v2, v3, v4, v5, v6] st u P = zr 30 15 [.ref a0, v1, v2, v3, v4, v5, v6] (.ref a0 :: st) u P := zr_Al k30_14 rfl
theorem k30_15 : xcd 30 15 = oGR 2 3 18 := rfl
theorem r30_15 : zr 30 15 [v0, v1, v2, v3, v4, v5, v6] (.ref b1 :: st) u P = (xIs u b1 2 ∧ ∃ b, xR u b1 3 = some b ∧ zr 30 18 [v0, v1, v2, v3, v4, v5, v6] (.ref b :: st) u P) := zr_GR k30_15
theorem k30_18 : xcd 30 18 = oIl 1 19 := rfl
theorem r30_18 : zr 30 18 [v0, .int x1, v2, v3, v4, v5, v6] st u P = zr 30 19 [v0, .int x1, v2, v3, v4, v5, v6] (.int x1 :: st) u P := zr_Il k30_18 rfl
theorem k30_19 : xcd 30 19 = oLd 13 20 := rfl
theorem r30_19 : zr 30 19 [v0, v1, v2, v3, v4, v5, v6] (.int y1 :: .ref b1 :: st) u P = ((xIs u b1 13 ∧ xinb y1 (xN u b1)) ∧ zr 30 20 [v0, v1, v2, v3, v4, v5, v6] (.int (xI u b1 (xix y1)) :: st) u P) := zr_Ld k30_19
theorem k30_20 : xcd 30 20 = oB (fun x y => x + y) 21 := rfl
theorem r30_20 : zr 30 20 [v0, v1, v2, v3, v4, v5, v6] (.int y1 :: .int y2 :: st) u P = zr 30 21 [v0, v1, v2, v3, v4, v5, v6] (.int (y2 + y1) :: st) u P := zr_B k30_20
theorem k30_21 : xcd 30 21 = oCmp (fun x y => decide (y ≤ x)) 68 24 := rfl
theorem r30_21 : zr 30 21 [v0, v1, v2, v3, v4, v5, v6] (.int y1 :: .int y2 :: st) u P = (if y1 ≤ y2 then zr 30 68 [v0, v1, v2, v3, v4, v5, v6] st u P else zr 30 24 [v0, v1, v2, v3, v4, v5, v6] st u P) := zr_Cmp k30_21
theorem k30_24 : xcd 30 24 = oAl 0 25 := rfl
theorem r30_24 : zr 30 24 [.ref a0, v1, v2, v3, v4, v5, v6] st u P = zr 30 25 [.ref a0, v1, v2, v3, v4, v5, v6] (.ref a0 :: st) u P := zr_Al k30_24 rfl
theorem k30_25 : xcd 30 25 = oGR 2 4 28 := rfl
theorem r30_25 : zr 30 25 [v0, v1, v2, v3, v4, v5, v6] (.ref b1 :: st) u P = (xIs u b1 2 ∧ ∃ b, xR u b1 4 = some b ∧ zr 30 28 [v0, v1, v2, v3, v4, v5, v6] (.ref b :: st) u P) := zr_GR k30_25
theorem k30_28 : xcd 30 28 = oIl 6 30 := rfl
theorem r30_28 : zr 30 28 [v0, v1, v2, v3, v4, v5, .int x6] st u P = zr 30 30 [v0, v1, v2, v3, v4, v5, .int x6] (.int x6 :: st) u P := zr_Il k30_28 rfl
theorem k30_30 : xcd 30 30 = oLd 13 31 := rfl
theorem r30_30 : zr 30 30 [v0, v1, v2, v3, v4, v5, v6] (.int y1 :: .ref b1 :: st) u P = ((xIs u b1 13 ∧ xinb y1 (xN u b1)) ∧ zr 30 31 [v0, v1, v2, v3, v4, v5, v6] (.int (xI u b1 (xix y1)) :: st) u P) := zr_Ld k30_30
theorem k30_31 : xcd 30 31 = oIl 2 32 := rfl
theorem r30_31 : zr 30 31 [v0, v1, .int x2, v3, v4, v5, v6] st u P = zr 30 32 [v0, v1, .int x2, v3, v4, v5, v6] (.int x2 :: st) u P := zr_Il k30_31 rfl
theorem k30_32 : xcd 30 32 = oB (fun x y => x + y) 33 := rfl
theorem r30_32 : zr 30 32 [v0, v1, v2, v3, v4, v5, v6] (.int y1 :: .int y2 :: st) u P = zr 30 33 [v0, v1, v2, v3, v4, v5, v6] (.int (y2 + y1) :: st) u P := zr_B k30_32
theorem k30_33 : xcd 30 33 = oI 0 34 := rfl
theorem r30_33 : zr 30 33 [v0, v1, v2, v3, v4, v5, v6] st u P = zr 30 34 [v0, v1, v2, v3, v4, v5, v6] (.int 0 :: st) u P := zr_I k30_33
theorem k30_34 : xcd 30 34 = oIl 4 36 := rfl
theorem r30_34 : zr 30 34 [v0, v1, v2, v3, .int x4, v5, v6] st u P = zr 30 36 [v0, v1, v2, v3, .int x4, v5, v6] (.int x4 :: st) u P := zr_Il k30_34 rfl
theorem k30_36 : xcd 30 36 = oCal 164 3 39 := rfl
theorem r30_36 : zr 30 36 [v0, v1, v2, v3, v4, v5, v6] (.int y3 :: .int y2 :: .int y1 :: st) u P = (xcat st ≤ 8 ∧ zr 164 0 [.int y1, .int y2, .int y3] [] u (fun r u2 => zr 30 39 [v0, v1, v2, v3, v4, v5, v6] (r.toList ++ st) u2 P)) := zr_CS k30_36 (Nat.le_add_left _ _) rfl rfl ⟨Nat.le_of_ble_eq_true rfl, Nat.succ_ne_zero _, by decide⟩ rfl
theorem k30_39 : xcd 30 39 = oIf (fun x => decide (x = 0)) 60 42 := rfl
theorem r30_39 : zr 30 39 [v0, v1, v2, v3, v4, v5, v6] (.int y1 :: st) u P = (if y1 = 0 then zr 30 60 [v0, v1, v2, v3, v4, v5, v6] st u P else zr 30 42 [v0, v1, v2, v3, v4, v5, v6] st u P) := zr_If k30_39
theorem k30_42 : xcd 30 42 = oAl 0 43 := rfl
theorem r30_42 : zr 30 42 [.ref a0, v1, v2, v3, v4, v5, v6] st u P = zr 30 43 [.ref a0, v1, v2, v3, v4, v5, v6] (.ref a0 :: st) u P := zr_Al k30_42 rfl
theorem k30_43 : xcd 30 43 = oGR 2 5 46 := rfl
theorem r30_43 : zr 30 43 [v0, v1, v2, v3, v4, v5, v6] (.ref b1 :: st) u P = (xIs u b1 2 ∧ ∃ b, xR u b1 5 = some b ∧ zr 30 46 [v0, v1, v2, v3, v4, v5, v6] (.ref b :: st) u P) := zr_GR k30_43
theorem k30_46 : xcd 30 46 = oIl 6 48 := rfl
theorem r30_46 : zr 30 46 [v0, v1, v2, v3, v4, v5, .int x6] st u P = zr 30 48 [v0, v1, v2, v3, v4, v5, .int x6] (.int x6 :: st) u P := zr_Il k30_46 rfl
theorem k30_48 : xcd 30 48 = oLd 13 49 := rfl
theorem r30_48 : zr 30 48 [v0, v1, v2, v3, v4, v5, v6] (.int y1 :: .ref b1 :: st) u P = ((xIs u b1 13 ∧ xinb y1 (xN u b1)) ∧ zr 30 49 [v0, v1, v2, v3, v4, v5, v6] (.int (xI u b1 (xix y1)) :: st) u P) := zr_Ld k30_48
theorem k30_49 : xcd 30 49 = oIl 3 50 := rfl
theorem r30_49 : zr 30 49 [v0, v1, v2, .int x3, v4, v5, v6] st u P = zr 30 50 [v0, v1, v2, .int x3, v4, v5, v6] (.int x3 :: st) u P := zr_Il k30_49 rfl
theorem k30_50 : xcd 30 50 = oB (fun x y => x + y) 51 := rfl
theorem r30_50 : zr 30 50 [v0, v1, v2, v3, v4, v5, v6] (.int y1 :: .int y2 :: st) u P = zr 30 51 [v0, v1, v2, v3, v4, v5, v6] (.int (y2 + y1) :: st) u P := zr_B k30_50
theorem k30_51 : xcd 30 51 = oI 0 52 := rfl
theorem r30_51 : zr 30 51 [v0, v1, v2, v3, v4, v5, v6] st u P = zr 30 52 [v0, v1, v2, v3, v4, v5, v6] (.int 0 :: st) u P := zr_I k30_51
theorem k30_52 : xcd 30 52 = oIl 4 54 := rfl
theorem r30_52 : zr 30 52 [v0, v1, v2, v3, .int x4, v5, v6] st u P = zr 30 54 [v0, v1, v2, v3, .int x4, v5, v6] (.int x4 :: st) u P := zr_Il k30_52 rfl
theorem k30_54 : xcd 30 54 = oCal 164 3 57 := rfl
theorem r30_54 : zr 30 54 [v0, v1, v2, v3, v4, v5, v6] (.int y3 :: .int y2 :: .int y1 :: st) u P = (xcat st ≤ 8 ∧ zr 164 0 [.int y1, .int y2, .int y3] [] u (fun r u2 => zr 30 57 [v0, v1, v2, v3, v4, v5, v6] (r.toList ++ st) u2 P)) := zr_CS k30_54 (Nat.le_add_left _ _) rfl rfl ⟨Nat.le_of_ble_eq_true rfl, Nat.succ_ne_zero _, by decide⟩ rfl
theorem k30_57 : xcd 30 57 = oIf (fun x => decide (¬ x = 0)) 62 60 := rfl
theorem r30_57 : zr 30 57 [v0, v1, v2, v3, v4, v5, v6] (.int y1 :: st) u P = (if ¬ y1 = 0 then zr 30 62 [v0, v1, v2, v3, v4, v5, v6] st u P else zr 30 60 [v0, v1, v2, v3, v4, v5, v6] st u P) := zr_If k30_57
theorem k30_60 : xcd 30 60 = oI 0 61 := rfl
theorem r30_60 : zr 30 60 [v0, v1, v2, v3, v4, v5, v6] st u P = zr 30 61 [v0, v1, v2, v3, v4, v5, v6] (.int 0 :: st) u P := zr_I k30_60
theorem k30_61 : xcd 30 61 = oRz 0 := rfl
theorem r30_61 : zr 30 61 [v0, v1, v2, v3, v4, v5, v6] [.int y1] u P = ((y1 = 0 ∨ y1 = 1) ∧ P (some (.int y1)) u) := zr_Rz k30_61
theorem k30_62 : xcd 30 62 = oInc 6 1 65 := rfl
theorem r30_62 : zr 30 62 [v0, v1, v2, v3, v4, .int x5, .int x6] st u P = zr 30 65 [v0, v1, v2, v3, v4, .int x5, .int (x6 + 1)] st u P := zr_Inc k30_62 rfl rfl
theorem k30_65 : xcd 30 65 = oGoto 10 := rfl
theorem r30_65 : zr 30 65 [v0, v1, v2, v3, v4, v5, v6] st u P = zr 30 10 [v0, v1, v2, v3, v4, v5, v6] st u P := zr_Goto k30_65
theorem k30_68 : xcd 30 68 = oI 1 69 := rfl
theorem r30_68 : zr 30 68 [v0, v1, v2, v3, v4, v5, v6] st u P = zr 30 69 [v0, v1, v2, v3, v4, v5, v6] (.int 1 :: st) u P := zr_I k30_68
theorem k30_69 : xcd 30 69 = oRz 0 := rfl
theorem r30_69 : zr 30 69 [v0, v1, v2, v3, v4, v5, v6] [.int y1] u P = ((y1 = 0 ∨ y1 = 1) ∧ P (some (.int y1)) u) := zr_Rz k30_69
theorem k31_0 : xcd 31 0 = oAl 0 1 := rfl
theorem r31_0 : zr 31 0 [.ref a0, v1, v2, v3] st u P = zr 31 1 [.ref a0, v1, v2, v3] (.ref a0 :: st) u P := zr_Al k31_0 rfl
theorem k31_1 : xcd 31 1 = oGR 2 4 4 := rfl
theorem r31_1 : zr 31 1 [v0, v1, v2, v3] (.ref b1 :: st) u P = (xIs u b1 2 ∧ ∃ b, xR u b1 4 = some b ∧ zr 31 4 [v0, v1, v2, v3] (.ref b :: st) u P) := zr_GR k31_1
theorem k31_4 : xcd 31 4 = oAl 0 5 := rfl
theorem r31_4 : zr 31 4 [.ref a0, v1, v2, v3] st u P = zr 31 5 [.ref a0, v1, v2, v3] (.ref a0 :: st) u P := zr_Al k31_4 rfl
theorem k31_5 : xcd 31 5 = oGI 2 0 8 := rfl
theorem r31_5 : zr 31 5 [v0, v1, v2, v3] (.ref b1 :: st) u P = (xIs u b1 2 ∧ zr 31 8 [v0, v1, v2, v3] (.int (xI u b1 0) :: st) u P) := zr_GI k31_5
theorem k31_8 : xcd 31 8 = oI 6 10 := rfl
theorem r31_8 : zr 31 8 [v0, v1, v2, v3] st u P = zr 31 10 [v0, v1, v2, v3] (.int 6 :: st) u P := zr_I k31_8
theorem k31_10 : xcd 31 10 = oB (fun x y => x * y) 11 := rfl
theorem r31_10 : zr 31 10 [v0, v1, v2, v3] (.int y1 :: .int y2 :: st) u P = zr 31 11 [v0, v1, v2, v3] (.int (y2 * y1) :: st) u P := zr_B k31_10
theorem k31_11 : xcd 31 11 = oIl 1 12 := rfl
theorem r31_11 : zr 31 11 [v0, .int x1, v2, v3] st u P = zr 31 12 [v0, .int x1, v2, v3] (.int x1 :: st) u P := zr_Il k31_11 rfl
theorem k31_12 : xcd 31 12 = oB (fun x y => x + y) 13 := rfl
theorem r31_12 : zr 31 12 [v0, v1, v2, v3] (.int y1 :: .int y2 :: st) u P = zr 31 13 [v0, v1, v2, v3] (.int (y2 + y1) :: st) u P := zr_B k31_12
theorem k31_13 : xcd 31 13 = oIl 2 14 := rfl
theorem r31_13 : zr 31 13 [v0, v1, .int x2, v3] st u P = zr 31 14 [v0, v1, .int x2, v3] (.int x2 :: st) u P := zr_Il k31_13 rfl
theorem k31_14 : xcd 31 14 = oSt 13 (fun x => x) 15 := rfl
theorem r31_14 : zr 31 14 [v0, v1, v2, v3] (.int y2 :: .int y1 :: .ref b1 :: st) u P = ((xIs u b1 13 ∧ xinb y1 (xN u b1)) ∧ zr 31 15 [v0, v1, v2, v3] st (xsI u b1 (xix y1) y2) P) := zr_St k31_14
theorem k31_15 : xcd 31 15 = oAl 0 16 := rfl
theorem r31_15 : zr 31 15 [.ref a0, v1, v2, v3] st u P = zr 31 16 [.ref a0, v1, v2, v3] (.ref a0 :: st) u P := zr_Al k31_15 rfl
theorem k31_16 : xcd 31 16 = oGR 2 5 19 := rfl
theorem r31_16 : zr 31 16 [v0, v1, v2, v3] (.ref b1 :: st) u P = (xIs u b1 2 ∧ ∃ b, xR u b1 5 = some b ∧ zr 31 19 [v0, v1, v2, v3] (.ref b :: st) u P) := zr_GR k31_16
theorem k31_19 : xcd 31 19 = oAl 0 20 := rfl
theorem r31_19 : zr 31 19 [.ref a0, v1, v2, v3] st u P = zr 31 20 [.ref a0, v1, v2, v3] (.ref a0 :: st) u P := zr_Al k31_19 rfl
theorem k31_20 : xcd 31 20 = oGI 2 0 23 := rfl
theorem r31_20 : zr 31 20 [v0, v1, v2, v3] (.ref b1 :: st) u P = (xIs u b1 2 ∧ zr 31 23 [v0, v1, v2, v3] (.int (xI u b1 0) :: st) u P) := zr_GI k31_20
theorem k31_23 : xcd 31 23 = oI 6 25 := rfl
theorem r31_23 : zr 31 23 [v0, v1, v2, v3] st u P = zr 31 25 [v0, v1, v2, v3] (.int 6 :: st) u P := zr_I k31_23
theorem k31_25 : xcd 31 25 = oB (fun x y => x * y) 26 := rfl
theorem r31_25 : zr 31 25 [v0, v1, v2, v3] (.int y1 :: .int y2 :: st) u P = zr 31 26 [v0, v1, v2, v3] (.int (y2 * y1) :: st) u P := zr_B k31_25
theorem k31_26 : xcd 31 26 = oIl 1 27 := rfl
theorem r31_26 : zr 31 26 [v0, .int x1, v2, v3] st u P = zr 31 27 [v0, .int x1, v2, v3] (.int x1 :: st) u P := zr_Il k31_26 rfl
theorem k31_27 : xcd 31 27 = oB (fun x y => x + y) 28 := rfl
theorem r31_27 : zr 31 27 [v0, v1, v2, v3] (.int y1 :: .int y2 :: st) u P = zr 31 28 [v0, v1, v2, v3] (.int (y2 + y1) :: st) u P := zr_B k31_27
theorem k31_28 : xcd 31 28 = oIl 3 29 := rfl
theorem r31_28 : zr 31 28 [v0, v1, v2, .int x3] st u P = zr 31 29 [v0, v1, v2, .int x3] (.int x3 :: st) u P := zr_Il k31_28 rfl
theorem k31_29 : xcd 31 29 = oSt 13 (fun x => x) 30 := rfl
theorem r31_29 : zr 31 29 [v0, v1, v2, v3] (.int y2 :: .int y1 :: .ref b1 :: st) u P = ((xIs u b1 13 ∧ xinb y1 (xN u b1)) ∧ zr 31 30 [v0, v1, v2, v3] st (xsI u b1 (xix y1) y2) P) := zr_St k31_29
theorem k31_30 : xcd 31 30 = oRv 0 := rfl
theorem r31_30 : zr 31 30 [v0, v1, v2, v3] [] u P = P none u := zr_Rv k31_30
theorem k32_0 : xcd 32 0 = oAl 0 1 := rfl
theorem r32_0 : zr 32 0 [.ref a0, v1, v2, v3] st u P = zr 32 1 [.ref a0, v1, v2, v3] (.ref a0 :: st) u P := zr_Al k32_0 rfl
theorem k32_1 : xcd 32 1 = oGR 2 1 4 := rfl
theorem r32_1 : zr 32 1 [v0, v1, v2, v3] (.ref b1 :: st) u P = (xIs u b1 2 ∧ ∃ b, xR u b1 1 = some b ∧ zr 32 4 [v0, v1, v2, v3] (.ref b :: st) u P) := zr_GR k32_1
theorem k32_4 : xcd 32 4 = oAl 0 5 := rfl
theorem r32_4 : zr 32 4 [.ref a0, v1, v2, v3] st u P = zr 32 5 [.ref a0, v1, v2, v3] (.ref a0 :: st) u P := zr_Al k32_4 rfl
theorem k32_5 : xcd 32 5 = oGI 2 0 8 := rfl
theorem r32_5 : zr 32 5 [v0, v1, v2, v3] (.ref b1 :: st) u P = (xIs u b1 2 ∧ zr 32 8 [v0, v1, v2, v3] (.int (xI u b1 0) :: st) u P) := zr_GI k32_5
theorem k32_8 : xcd 32 8 = oIl 1 9 := rfl
theorem r32_8 : zr 32 8 [v0, .int x1, v2, v3] st u P = zr 32 9 [v0, .int x1, v2, v3] (.int x1 :: st) u P := zr_Il k32_8 rfl
theorem k32_9 : xcd 32 9 = oSt 13 (fun x => x) 10 := rfl
theorem r32_9 : zr 32 9 [v0, v1, v2, v3] (.int y2 :: .int y1 :: .ref b1 :: st) u P = ((xIs u b1 13 ∧ xinb y1 (xN u b1)) ∧ zr 32 10 [v0, v1, v2, v3] st (xsI u b1 (xix y1) y2) P) := zr_St k32_9
theorem k32_10 : xcd 32 10 = oAl 0 11 := rfl
theorem r32_10 : zr 32 10 [.ref a0, v1, v2, v3] st u P = zr 32 11 [.ref a0, v1, v2, v3] (.ref a0 :: st) u P := zr_Al k32_10 rfl
theorem k32_11 : xcd 32 11 = oGR 2 2 14 := rfl
theorem r32_11 : zr 32 11 [v0, v1, v2, v3] (.ref b1 :: st) u P = (xIs u b1 2 ∧ ∃ b, xR u b1 2 = some b ∧ zr 32 14 [v0, v1, v2, v3] (.ref b :: st) u P) := zr_GR k32_11
theorem k32_14 : xcd 32 14 = oAl 0 15 := rfl
theorem r32_14 : zr 32 14 [.ref a0, v1, v2, v3] st u P = zr 32 15 [.ref a0, v1, v2, v3] (.ref a0 :: st) u P := zr_Al k32_14 rfl
theorem k32_15 : xcd 32 15 = oGI 2 0 18 := rfl
theorem r32_15 : zr 32 15 [v0, v1, v2, v3] (.ref b1 :: st) u P = (xIs u b1 2 ∧ zr 32 18 [v0, v1, v2, v3] (.int (xI u b1 0) :: st) u P) := zr_GI k32_15
theorem k32_18 : xcd 32 18 = oIl 2 19 := rfl
theorem r32_18 : zr 32 18 [v0, v1, .int x2, v3] st u P = zr 32 19 [v0, v1, .int x2, v3] (.int x2 :: st) u P := zr_Il k32_18 rfl
theorem k32_19 : xcd 32 19 = oSt 13 (fun x => x) 20 := rfl
theorem r32_19 : zr 32 19 [v0, v1, v2, v3] (.int y2 :: .int y1 :: .ref b1 :: st) u P = ((xIs u b1 13 ∧ xinb y1 (xN u b1)) ∧ zr 32 20 [v0, v1, v2, v3] st (xsI u b1 (xix y1) y2) P) := zr_St k32_19
theorem k32_20 : xcd 32 20 = oAl 0 21 := rfl
theorem r32_20 : zr 32 20 [.ref a0, v1, v2, v3] st u P = zr 32 21 [.ref a0, v1, v2, v3] (.ref a0 :: st) u P := zr_Al k32_20 rfl
theorem k32_21 : xcd 32 21 = oGR 2 3 24 := rfl
theorem r32_21 : zr 32 21 [v0, v1, v2, v3] (.ref b1 :: st) u P = (xIs u b1 2 ∧ ∃ b, xR u b1 3 = some b ∧ zr 32 24 [v0, v1, v2, v3] (.ref b :: st) u P) := zr_GR k32_21
theorem k32_24 : xcd 32 24 = oAl 0 25 := rfl
theorem r32_24 : zr 32 24 [.ref a0, v1, v2, v3] st u P = zr 32 25 [.ref a0, v1, v2, v3] (.ref a0 :: st) u P := zr_Al k32_24 rfl
theorem k32_25 : xcd 32 25 = oGI 2 0 28 := rfl
theorem r32_25 : zr 32 25 [v0, v1, v2, v3] (.ref b1 :: st) u P = (xIs u b1 2 ∧ zr 32 28 [v0, v1, v2, v3] (.int (xI u b1 0) :: st) u P) := zr_GI k32_25
theorem k32_28 : xcd 32 28 = oIl 3 29 := rfl
theorem r32_28 : zr 32 28 [v0, v1, v2, .int x3] st u P = zr 32 29 [v0, v1, v2, .int x3] (.int x3 :: st) u P := zr_Il k32_28 rfl
theorem k32_29 : xcd 32 29 = oSt 13 (fun x => x) 30 := rfl
theorem r32_29 : zr 32 29 [v0, v1, v2, v3] (.int y2 :: .int y1 :: .ref b1 :: st) u P = ((xIs u b1 13 ∧ xinb y1 (xN u b1)) ∧ zr 32 30 [v0, v1, v2, v3] st (xsI u b1 (xix y1) y2) P) := zr_St k32_29
theorem k32_30 : xcd 32 30 = oAl 0 31 := rfl
theorem r32_30 : zr 32 30 [.ref a0, v1, v2, v3] st u P = zr 32 31 [.ref a0, v1, v2, v3] (.ref a0 :: st) u P := zr_Al k32_30 rfl
theorem k32_31 : xcd 32 31 = oDup 32 := rfl
theorem r32_31 : zr 32 31 [v0, v1, v2, v3] (.ref b1 :: st) u P = zr 32 32 [v0, v1, v2, v3] (.ref b1 :: .ref b1 :: st) u P := zr_DupA k32_31
theorem k32_32 : xcd 32 32 = oGI 2 0 35 := rfl
theorem r32_32 : zr 32 32 [v0, v1, v2, v3] (.ref b1 :: st) u P = (xIs u b1 2 ∧ zr 32 35 [v0, v1, v2, v3] (.int (xI u b1 0) :: st) u P) := zr_GI k32_32
theorem k32_35 : xcd 32 35 = oI 1 36 := rfl
theorem r32_35 : zr 32 35 [v0, v1, v2, v3] st u P = zr 32 36 [v0, v1, v2, v3] (.int 1 :: st) u P := zr_I k32_35
theorem k32_36 : xcd 32 36 = oB (fun x y => x + y) 37 := rfl
theorem r32_36 : zr 32 36 [v0, v1, v2, v3] (.int y1 :: .int y2 :: st) u P = zr 32 37 [v0, v1, v2, v3] (.int (y2 + y1) :: st) u P := zr_B k32_36
theorem k32_37 : xcd 32 37 = oPI 2 0 40 := rfl
theorem r32_37 : zr 32 37 [v0, v1, v2, v3] (.int y1 :: .ref b1 :: st) u P = (xIs u b1 2 ∧ zr 32 40 [v0, v1, v2, v3] st (xsI u b1 0 y1) P) := zr_PI k32_37
theorem k32_40 : xcd 32 40 = oRv 0 := rfl
theorem r32_40 : zr 32 40 [v0, v1, v2, v3] [] u P = P none u := zr_Rv k32_40
theorem k33_0 : xcd 33 0 = oI 0 1 := rfl
theorem r33_0 : zr 33 0 [v0, v1, v2, v3, v4, v5] st u P = zr 33 1 [v0, v1, v2, v3, v4, v5] (.int 0 :: st) u P := zr_I k33_0
theorem k33_1 : xcd 33 1 = oIs 5 3 := rfl
theorem r33_1 : zr 33 1 [v0, v1, v2, v3, .int x4, v5] (.int y1 :: st) u P = zr 33 3 [v0, v1, v2, v3, .int x4, .int y1] st u P := zr_Is k33_1 ⟨Nat.le_of_ble_eq_true rfl, rfl⟩
theorem k33_3 : xcd 33 3 = oIl 5 5 := rfl
theorem r33_3 : zr 33 3 [v0, v1, v2, v3, v4, .int x5] st u P = zr 33 5 [v0, v1, v2, v3, v4, .int x5] (.int x5 :: st) u P := zr_Il k33_3 rfl
theorem k33_5 : xcd 33 5 = oAl 0 6 := rfl
theorem r33_5 : zr 33 5 [.ref a0, v1, v2, v3, v4, v5] st u P = zr 33 6 [.ref a0, v1, v2, v3, v4, v5] (.ref a0 :: st) u P := zr_Al k33_5 rfl
theorem k33_6 : xcd 33 6 = oGR 2 3 9 := rfl
theorem r33_6 : zr 33 6 [v0, v1, v2, v3, v4, v5] (.ref b1 :: st) u P = (xIs u b1 2 ∧ ∃ b, xR u b1 3 = some b ∧ zr 33 9 [v0, v1, v2, v3, v4, v5] (.ref b :: st) u P) := zr_GR k33_6
theorem k33_9 : xcd 33 9 = oIl 1 10 := rfl
theorem r33_9 : zr 33 9 [v0, .int x1, v2, v3, v4, v5] st u P = zr 33 10 [v0, .int x1, v2, v3, v4, v5] (.int x1 :: st) u P := zr_Il k33_9 rfl
theorem k33_10 : xcd 33 10 = oLd 13 11 := rfl
theorem r33_10 : zr 33 10 [v0, v1, v2, v3, v4, v5] (.int y1 :: .ref b1 :: st) u P = ((xIs u b1 13 ∧ xinb y1 (xN u b1)) ∧ zr 33 11 [v0, v1, v2, v3, v4, v5] (.int (xI u b1 (xix y1)) :: st) u P) := zr_Ld k33_10
theorem k33_11 : xcd 33 11 = oCmp (fun x y => decide (y ≤ x)) 55 14 := rfl
theorem r33_11 : zr 33 11 [v0, v1, v2, v3, v4, v5] (.int y1 :: .int y2 :: st) u P = (if y1 ≤ y2 then zr 33 55 [v0, v1, v2, v3, v4, v5] st u P else zr 33 14 [v0, v1, v2, v3, v4, v5] st u P) := zr_Cmp k33_11
theorem k33_14 : xcd 33 14 = oAl 0 15 := rfl
theorem r33_14 : zr 33 14 [.ref a0, v1, v2, v3, v4, v5] st u P = zr 33 15 [.ref a0, v1, v2, v3, v4, v5] (.ref a0 :: st) u P := zr_Al k33_14 rfl
theorem k33_15 : xcd 33 15 = oIl 5 17 := rfl
theorem r33_15 : zr 33 15 [v0, v1, v2, v3, v4, .int x5] st u P = zr 33 17 [v0, v1, v2, v3, v4, .int x5] (.int x5 :: st) u P := zr_Il k33_15 rfl
theorem k33_17 : xcd 33 17 = oAl 0 18 := rfl
theorem r33_17 : zr 33 17 [.ref a0, v1, v2, v3, v4, v5] st u P = zr 33 18 [.ref a0, v1, v2, v3, v4, v5] (.ref a0 :: st) u P := zr_Al k33_17 rfl
theorem k33_18 : xcd 33 18 = oGR 2 4 21 := rfl
theorem r33_18 : zr 33 18 [v0, v1, v2, v3, v4, v5] (.ref b1 :: st) u P = (xIs u b1 2 ∧ ∃ b, xR u b1 4 = some b ∧ zr 33 21 [v0, v1, v2, v3, v4, v5] (.ref b :: st) u P) := zr_GR k33_18
theorem k33_21 : xcd 33 21 = oIl 1 22 := rfl
theorem r33_21 : zr 33 21 [v0, .int x1, v2, v3, v4, v5] st u P = zr 33 22 [v0, .int x1, v2, v3, v4, v5] (.int x1 :: st) u P := zr_Il k33_21 rfl
theorem k33_22 : xcd 33 22 = oI 6 24 := rfl
theorem r33_22 : zr 33 22 [v0, v1, v2, v3, v4, v5] st u P = zr 33 24 [v0, v1, v2, v3, v4, v5] (.int 6 :: st) u P := zr_I k33_22
theorem k33_24 : xcd 33 24 = oB (fun x y => x * y) 25 := rfl
theorem r33_24 : zr 33 24 [v0, v1, v2, v3, v4, v5] (.int y1 :: .int y2 :: st) u P = zr 33 25 [v0, v1, v2, v3, v4, v5] (.int (y2 * y1) :: st) u P := zr_B k33_24
theorem k33_25 : xcd 33 25 = oIl 5 27 := rfl
theorem r33_25 : zr 33 25 [v0, v1, v2, v3, v4, .int x5] st u P = zr 33 27 [v0, v1, v2, v3, v4, .int x5] (.int x5 :: st) u P := zr_Il k33_25 rfl
theorem k33_27 : xcd 33 27 = oB (fun x y => x + y) 28 := rfl
theorem r33_27 : zr 33 27 [v0, v1, v2, v3, v4, v5] (.int y1 :: .int y2 :: st) u P = zr 33 28 [v0, v1, v2, v3, v4, v5] (.int (y2 + y1) :: st) u P := zr_B k33_27
theorem k33_28 : xcd 33 28 = oLd 13 29 := rfl
theorem r33_28 : zr 33 28 [v0, v1, v2, v3, v4, v5] (.int y1 :: .ref b1 :: st) u P = ((xIs u b1 13 ∧ xinb y1 (xN u b1)) ∧ zr 33 29 [v0, v1, v2, v3, v4, v5] (.int (xI u b1 (xix y1)) :: st) u P) := zr_Ld k33_28
theorem k33_29 : xcd 33 29 = oIl 3 30 := rfl
theorem r33_29 : zr 33 29 [v0, v1, v2, .int x3, v4, v5] st u P = zr 33 30 [v0, v1, v2, .int x3, v4, v5] (.int x3 :: st) u P := zr_Il k33_29 rfl
theorem k33_30 : xcd 33 30 = oB (fun x y => x + y) 31 := rfl
theorem r33_30 : zr 33 30 [v0, v1, v2, v3, v4, v5] (.int y1 :: .int y2 :: st) u P = zr 33 31 [v0, v1, v2, v3, v4, v5] (.int (y2 + y1) :: st) u P := zr_B k33_30
theorem k33_31 : xcd 33 31 = oAl 0 32 := rfl
theorem r33_31 : zr 33 31 [.ref a0, v1, v2, v3, v4, v5] st u P = zr 33 32 [.ref a0, v1, v2, v3, v4, v5] (.ref a0 :: st) u P := zr_Al k33_31 rfl
theorem k33_32 : xcd 33 32 = oGR 2 5 35 := rfl
theorem r33_32 : zr 33 32 [v0, v1, v2, v3, v4, v5] (.ref b1 :: st) u P = (xIs u b1 2 ∧ ∃ b, xR u b1 5 = some b ∧ zr 33 35 [v0, v1, v2, v3, v4, v5] (.ref b :: st) u P) := zr_GR k33_32
theorem k33_35 : xcd 33 35 = oIl 1 36 := rfl
theorem r33_35 : zr 33 35 [v0, .int x1, v2, v3, v4, v5] st u P = zr 33 36 [v0, .int x1, v2, v3, v4, v5] (.int x1 :: st) u P := zr_Il k33_35 rfl
theorem k33_36 : xcd 33 36 = oI 6 38 := rfl
theorem r33_36 : zr 33 36 [v0, v1, v2, v3, v4, v5] st u P = zr 33 38 [v0, v1, v2, v3, v4, v5] (.int 6 :: st) u P := zr_I k33_36
theorem k33_38 : xcd 33 38 = oB (fun x y => x * y) 39 := rfl
theorem r33_38 : zr 33 38 [v0, v1, v2, v3, v4, v5] (.int y1 :: .int y2 :: st) u P = zr 33 39 [v0, v1, v2, v3, v4, v5] (.int (y2 * y1) :: st) u P := zr_B k33_38
theorem k33_39 : xcd 33 39 = oIl 5 41 := rfl
theorem r33_39 : zr 33 39 [v0, v1, v2, v3, v4, .int x5] st u P = zr 33 41 [v0, v1, v2, v3, v4, .int x5] (.int x5 :: st) u P := zr_Il k33_39 rfl
theorem k33_41 : xcd 33 41 = oB (fun x y => x + y) 42 := rfl
theorem r33_41 : zr 33 41 [v0, v1, v2, v3, v4, v5] (.int y1 :: .int y2 :: st) u P = zr 33 42 [v0, v1, v2, v3, v4, v5] (.int (y2 + y1) :: st) u P := zr_B k33_41
theorem k33_42 : xcd 33 42 = oLd 13 43 := rfl
theorem r33_42 : zr 33 42 [v0, v1, v2, v3, v4, v5] (.int y1 :: .ref b1 :: st) u P = ((xIs u b1 13 ∧ xinb y1 (xN u b1)) ∧ zr 33 43 [v0, v1, v2, v3, v4, v5] (.int (xI u b1 (xix y1)) :: st) u P) := zr_Ld k33_42
theorem k33_43 : xcd 33 43 = oIl 4 45 := rfl
theorem r33_43 : zr 33 43 [v0, v1, v2, v3, .int x4, v5] st u P = zr 33 45 [v0, v1, v2, v3, .int x4, v5] (.int x4 :: st) u P := zr_Il k33_43 rfl
theorem k33_45 : xcd 33 45 = oB (fun x y => x + y) 46 := rfl
theorem r33_45 : zr 33 45 [v0, v1, v2, v3, v4, v5] (.int y1 :: .int y2 :: st) u P = zr 33 46 [v0, v1, v2, v3, v4, v5] (.int (y2 + y1) :: st) u P := zr_B k33_45
theorem k33_46 : xcd 33 46 = oCalV 2 31 3 49 := rfl
theorem r33_46 : zr 33 46 [v0, v1, v2, v3, v4, v5] (.int y3 :: .int y2 :: .int y1 :: .ref b8 :: st) u P = ((xIs u b8 2 ∧ xcat st ≤ 8) ∧ zr 31 0 [.ref b8, .int y1, .int y2, .int y3] [] u (fun r u2 => zr 33 49 [v0, v1, v2, v3, v4, v5] (r.toList ++ st) u2 P)) := zr_CV k33_46 rfl rfl rfl ⟨Nat.le_of_ble_eq_true rfl, Nat.succ_ne_zero _, by decide⟩ rfl
theorem k33_49 : xcd 33 49 = oInc 5 1 52 := rfl
theorem r33_49 : zr 33 49 [v0, v1, v2, v3, .int x4, .int x5] st u P = zr 33 52 [v0, v1, v2, v3, .int x4, .int (x5 + 1)] st u P := zr_Inc k33_49 rfl rfl
theorem k33_52 : xcd 33 52 = oGoto 3 := rfl
theorem r33_52 : zr 33 52 [v0, v1, v2, v3, v4, v5] st u P = zr 33 3 [v0, v1, v2, v3, v4, v5] st u P := zr_Goto k33_52
theorem k33_55 : xcd 33 55 = oAl 0 56 := rfl
theorem r33_55 : zr 33 55 [.ref a0, v1, v2, v3, v4, v5] st u P = zr 33 56 [.ref a0, v1, v2, v3, v4, v5] (.ref a0 :: st) u P := zr_Al k33_55 rfl
theorem k33_56 : xcd 33 56 = oAl 0 57 := rfl
theorem r33_56 : zr 33 56 [.ref a0, v1, v2, v3, v4, v5] st u P = zr 33 57 [.ref a0, v1, v2, v3, v4, v5] (.ref a0 :: st) u P := zr_Al k33_56 rfl
theorem k33_57 : xcd 33 57 = oGR 2 1 60 := rfl
theorem r33_57 : zr 33 57 [v0, v1, v2, v3, v4, v5] (.ref b1 :: st) u P = (xIs u b1 2 ∧ ∃ b, xR u b1 1 = some b ∧ zr 33 60 [v0, v1, v2, v3, v4, v5] (.ref b :: st) u P) := zr_GR k33_57
theorem k33_60 : xcd 33 60 = oIl 1 61 := rfl
theorem r33_60 : zr 33 60 [v0, .int x1, v2, v3, v4, v5] st u P = zr 33 61 [v0, .int x1, v2, v3, v4, v5] (.int x1 :: st) u P := zr_Il k33_60 rfl
theorem k33_61 : xcd 33 61 = oLd 13 62 := rfl
theorem r33_61 : zr 33 61 [v0, v1, v2, v3, v4, v5] (.int y1 :: .ref b1 :: st) u P = ((xIs u b1 13 ∧ xinb y1 (xN u b1)) ∧ zr 33 62 [v0, v1, v2, v3, v4, v5] (.int (xI u b1 (xix y1)) :: st) u P) := zr_Ld k33_61
theorem k33_62 : xcd 33 62 = oIl 2 63 := rfl
theorem r33_62 : zr 33 62 [v0, v1, .int x2, v3, v4, v5] st u P = zr 33 63 [v0, v1, .int x2, v3, v4, v5] (.int x2 :: st) u P := zr_Il k33_62 rfl
theorem k33_63 : xcd 33 63 = oAl 0 64 := rfl
theorem r33_63 : zr 33 63 [.ref a0, v1, v2, v3, v4, v5] st u P = zr 33 64 [.ref a0, v1, v2, v3, v4, v5] (.ref a0 :: st) u P := zr_Al k33_63 rfl
theorem k33_64 : xcd 33 64 = oGR 2 3 67 := rfl
theorem r33_64 : zr 33 64 [v0, v1, v2, v3, v4, v5] (.ref b1 :: st) u P = (xIs u b1 2 ∧ ∃ b, xR u b1 3 = some b ∧ zr 33 67 [v0, v1, v2, v3, v4, v5] (.ref b :: st) u P) := zr_GR k33_64
theorem k33_67 : xcd 33 67 = oIl 1 68 := rfl
theorem r33_67 : zr 33 67 [v0, .int x1, v2, v3, v4, v5] st u P = zr 33 68 [v0, .int x1, v2, v3, v4, v5] (.int x1 :: st) u P := zr_Il k33_67 rfl
theorem k33_68 : xcd 33 68 = oLd 13 69 := rfl
theorem r33_68 : zr 33 68 [v0, v1, v2, v3, v4, v5] (.int y1 :: .ref b1 :: st) u P = ((xIs u b1 13 ∧ xinb y1 (xN u b1)) ∧ zr 33 69 [v0, v1, v2, v3, v4, v5] (.int (xI u b1 (xix y1)) :: st) u P) := zr_Ld k33_68
theorem k33_69 : xcd 33 69 = oCalV 2 32 3 72 := rfl
theorem r33_69 : zr 33 69 [v0, v1, v2, v3, v4, v5] (.int y3 :: .int y2 :: .int y1 :: .ref b8 :: st) u P = ((xIs u b8 2 ∧ xcat st ≤ 8) ∧ zr 32 0 [.ref b8, .int y1, .int y2, .int y3] [] u (fun r u2 => zr 33 72 [v0, v1, v2, v3, v4, v5] (r.toList ++ st) u2 P)) := zr_CV k33_69 rfl rfl rfl ⟨Nat.le_of_ble_eq_true rfl, Nat.succ_ne_zero _, by decide⟩ rfl
theorem k33_72 : xcd 33 72 = oRv 0 := rfl
theorem r33_72 : zr 33 72 [v0, v1, v2, v3, v4, v5] [] u P = P none u := zr_Rv k33_72
theorem k35_0 : xcd 35 0 = oAl 0 1 := rfl
theorem r35_0 : zr 35 0 [.ref a0, v1, v2] st u P = zr 35 1 [.ref a0, v1, v2] (.ref a0 :: st) u P := zr_Al k35_0 rfl
theorem k35_1 : xcd 35 1 = oGR 3 0 4 := rfl
theorem r35_1 : zr 35 1 [v0, v1, v2] (.ref b1 :: st) u P = (xIs u b1 3 ∧ ∃ b, xR u b1 0 = some b ∧ zr 35 4 [v0, v1, v2] (.ref b :: st) u P) := zr_GR k35_1
theorem k35_4 : xcd 35 4 = oIl 1 5 := rfl
theorem r35_4 : zr 35 4 [v0, .int x1, v2] st u P = zr 35 5 [v0, .int x1, v2] (.int x1 :: st) u P := zr_Il k35_4 rfl
theorem k35_5 : xcd 35 5 = oIl 2 6 := rfl
theorem r35_5 : zr 35 5 [v0, v1, .int x2] st u P = zr 35 6 [v0, v1, .int x2] (.int x2 :: st) u P := zr_Il k35_5 rfl
theorem k35_6 : xcd 35 6 = oCalV 4 43 2 9 := rfl
theorem r35_6 : zr 35 6 [v0, v1, v2] (.int y2 :: .int y1 :: .ref b8 :: st) u P = ((xIs u b8 4 ∧ xcat st ≤ 8) ∧ zr 43 0 [.ref b8, .int y1, .int y2] [] u (fun r u2 => zr 35 9 [v0, v1, v2] (r.toList ++ st) u2 P)) := zr_CV k35_6 rfl rfl rfl ⟨Nat.le_of_ble_eq_true rfl, Nat.succ_ne_zero _, by decide⟩ rfl
theorem k35_9 : xcd 35 9 = oAl 0 10 := rfl
theorem r35_9 : zr 35 9 [.ref a0, v1, v2] st u P = zr 35 10 [.ref a0, v1, v2] (.ref a0 :: st) u P := zr_Al k35_9 rfl
theorem k35_10 : xcd 35 10 = oGR 3 1 13 := rfl
theorem r35_10 : zr 35 10 [v0, v1, v2] (.ref b1 :: st) u P = (xIs u b1 3 ∧ ∃ b, xR u b1 1 = some b ∧ zr 35 13 [v0, v1, v2] (.ref b :: st) u P) := zr_GR k35_10
theorem k35_13 : xcd 35 13 = oCalV 9 95 0 16 := rfl
theorem r35_13 : zr 35 13 [v0, v1, v2] (.ref b8 :: st) u P = ((xIs u b8 9 ∧ xcat st ≤ 8) ∧ zr 95 0 [.ref b8] [] u (fun r u2 => zr 35 16 [v0, v1, v2] (r.toList ++ st) u2 P)) := zr_CV k35_13 rfl rfl rfl ⟨Nat.le_of_ble_eq_true rfl, Nat.succ_ne_zero _, by decide⟩ rfl
theorem k35_16 : xcd 35 16 = oRv 0 := rfl
theorem r35_16 : zr 35 16 [v0, v1, v2] [] u P = P none u := zr_Rv k35_16
theorem k36_0 : xcd 36 0 = oIl 1 1 := rfl
theorem r36_0 : zr 36 0 [v0, .int x1] st u P = zr 36 1 [v0, .int x1] (.int x1 :: st) u P := zr_Il k36_0 rfl
theorem k36_1 : xcd 36 1 = oSw [44, 52, 60, 68, 76, 87, 98] 106 := rfl
theorem r36_1 : zr 36 1 [v0, v1] (.int y1 :: st) u P = zr 36 (if y1 < 0 ∨ 7 ≤ y1 then 106 else [44, 52, 60, 68, 76, 87, 98].getD y1.toNatClampNeg 106) [v0, v1] st u P := zr_Sw k36_1
theorem k36_44 : xcd 36 44 = oAl 0 45 := rfl
theorem r36_44 : zr 36 44 [.ref a0, v1] st u P = zr 36 45 [.ref a0, v1] (.ref a0 :: st) u P := zr_Al k36_44 rfl
theorem k36_45 : xcd 36 45 = oGR 3 0 48 := rfl
theorem r36_45 : zr 36 45 [v0, v1] (.ref b1 :: st) u P = (xIs u b1 3 ∧ ∃ b, xR u b1 0 = some b ∧ zr 36 48 [v0, v1] (.ref b :: st) u P) := zr_GR k36_45
theorem k36_48 : xcd 36 48 = oGI 4 0 51 := rfl
theorem r36_48 : zr 36 48 [v0, v1] (.ref b1 :: st) u P = (xIs u b1 4 ∧ zr 36 51 [v0, v1] (.int (xI u b1 0) :: st) u P) := zr_GI k36_48
theorem k36_51 : xcd 36 51 = oRi 0 := rfl
theorem r36_51 : zr 36 51 [v0, v1] [.int y1] u P = P (some (.int y1)) u := zr_Ri k36_51
theorem k36_52 : xcd 36 52 = oAl 0 53 := rfl
theorem r36_52 : zr 36 52 [.ref a0, v1] st u P = zr 36 53 [.ref a0, v1] (.ref a0 :: st) u P := zr_Al k36_52 rfl
theorem k36_53 : xcd 36 53 = oGR 3 0 56 := rfl
theorem r36_53 : zr 36 53 [v0, v1] (.ref b1 :: st) u P = (xIs u b1 3 ∧ ∃ b, xR u b1 0 = some b ∧ zr 36 56 [v0, v1] (.ref b :: st) u P) := zr_GR k36_53
theorem k36_56 : xcd 36 56 = oGI 4 1 59 := rfl
theorem r36_56 : zr 36 56 [v0, v1] (.ref b1 :: st) u P = (xIs u b1 4 ∧ zr 36 59 [v0, v1] (.int (xI u b1 1) :: st) u P) := zr_GI k36_56
theorem k36_59 : xcd 36 59 = oRi 0 := rfl
theorem r36_59 : zr 36 59 [v0, v1] [.int y1] u P = P (some (.int y1)) u := zr_Ri k36_59
theorem k36_60 : xcd 36 60 = oAl 0 61 := rfl
theorem r36_60 : zr 36 60 [.ref a0, v1] st u P = zr 36 61 [.ref a0, v1] (.ref a0 :: st) u P := zr_Al k36_60 rfl
theorem k36_61 : xcd 36 61 = oGR 3 1 64 := rfl
theorem r36_61 : zr 36 61 [v0, v1] (.ref b1 :: st) u P = (xIs u b1 3 ∧ ∃ b, xR u b1 1 = some b ∧ zr 36 64 [v0, v1] (.ref b :: st) u P) := zr_GR k36_61
theorem k36_64 : xcd 36 64 = oGI 9 0 67 := rfl
theorem r36_64 : zr 36 64 [v0, v1] (.ref b1 :: st) u P = (xIs u b1 9 ∧ zr 36 67 [v0, v1] (.int (xI u b1 0) :: st) u P) := zr_GI k36_64
theorem k36_67 : xcd 36 67 = oRi 0 := rfl
theorem r36_67 : zr 36 67 [v0, v1] [.int y1] u P = P (some (.int y1)) u := zr_Ri k36_67
theorem k36_68 : xcd 36 68 = oAl 0 69 := rfl
theorem r36_68 : zr 36 68 [.ref a0, v1] st u P = zr 36 69 [.ref a0, v1] (.ref a0 :: st) u P := zr_Al k36_68 rfl
theorem k36_69 : xcd 36 69 = oGR 3 0 72 := rfl
theorem r36_69 : zr 36 69 [v0, v1] (.ref b1 :: st) u P = (xIs u b1 3 ∧ ∃ b, xR u b1 0 = some b ∧ zr 36 72 [v0, v1] (.ref b :: st) u P) := zr_GR k36_69
theorem k36_72 : xcd 36 72 = oGI 4 2 75 := rfl
theorem r36_72 : zr 36 72 [v0, v1] (.ref b1 :: st) u P = (xIs u b1 4 ∧ zr 36 75 [v0, v1] (.int (xI u b1 2) :: st) u P) := zr_GI k36_72
theorem k36_75 : xcd 36 75 = oRi 0 := rfl
theorem r36_75 : zr 36 75 [v0, v1] [.int y1] u P = P (some (.int y1)) u := zr_Ri k36_75
theorem k36_76 : xcd 36 76 = oAl 0 77 := rfl
theorem r36_76 : zr 36 76 [.ref a0, v1] st u P = zr 36 77 [.ref a0, v1] (.ref a0 :: st) u P := zr_Al k36_76 rfl
theorem k36_77 : xcd 36 77 = oGR 3 0 80 := rfl
theorem r36_77 : zr 36 77 [v0, v1] (.ref b1 :: st) u P = (xIs u b1 3 ∧ ∃ b, xR u b1 0 = some b ∧ zr 36 80 [v0, v1] (.ref b :: st) u P) := zr_GR k36_77
theorem k36_80 : xcd 36 80 = oGR 4 5 83 := rfl
theorem r36_80 : zr 36 80 [v0, v1] (.ref b1 :: st) u P = (xIs u b1 4 ∧ ∃ b, xR u b1 5 = some b ∧ zr 36 83 [v0, v1] (.ref b :: st) u P) := zr_GR k36_80
theorem k36_83 : xcd 36 83 = oGI 2 0 86 := rfl
theorem r36_83 : zr 36 83 [v0, v1] (.ref b1 :: st) u P = (xIs u b1 2 ∧ zr 36 86 [v0, v1] (.int (xI u b1 0) :: st) u P) := zr_GI k36_83
theorem k36_86 : xcd 36 86 = oRi 0 := rfl
theorem r36_86 : zr 36 86 [v0, v1] [.int y1] u P = P (some (.int y1)) u := zr_Ri k36_86
theorem k36_87 : xcd 36 87 = oAl 0 88 := rfl
theorem r36_87 : zr 36 87 [.ref a0, v1] st u P = zr 36 88 [.ref a0, v1] (.ref a0 :: st) u P := zr_Al k36_87 rfl
theorem k36_88 : xcd 36 88 = oGR 3 1 91 := rfl
theorem r36_88 : zr 36 88 [v0, v1] (.ref b1 :: st) u P = (xIs u b1 3 ∧ ∃ b, xR u b1 1 = some b ∧ zr 36 91 [v0, v1] (.ref b :: st) u P) := zr_GR k36_88
theorem k36_91 : xcd 36 91 = oGR 9 2 94 := rfl
theorem r36_91 : zr 36 91 [v0, v1] (.ref b1 :: st) u P = (xIs u b1 9 ∧ ∃ b, xR u b1 2 = some b ∧ zr 36 94 [v0, v1] (.ref b :: st) u P) := zr_GR k36_91
theorem k36_94 : xcd 36 94 = oGI 6 0 97 := rfl
theorem r36_94 : zr 36 94 [v0, v1] (.ref b1 :: st) u P = (xIs u b1 6 ∧ zr 36 97 [v0, v1] (.int (xI u b1 0) :: st) u P) := zr_GI k36_94
theorem k36_97 : xcd 36 97 = oRi 0 := rfl
theorem r36_97 : zr 36 97 [v0, v1] [.int y1] u P = P (some (.int y1)) u := zr_Ri k36_97
theorem k36_98 : xcd 36 98 = oAl 0 99 := rfl
theorem r36_98 : zr 36 98 [.ref a0, v1] st u P = zr 36 99 [.ref a0, v1] (.ref a0 :: st) u P := zr_Al k36_98 rfl
theorem k36_99 : xcd 36 99 = oGR 3 1 102 := rfl
theorem r36_99 : zr 36 99 [v0, v1] (.ref b1 :: st) u P = (xIs u b1 3 ∧ ∃ b, xR u b1 1 = some b ∧ zr 36 102 [v0, v1] (.ref b :: st) u P) := zr_GR k36_99
theorem k36_102 : xcd 36 102 = oGI 9 3 105 := rfl
theorem r36_102 : zr 36 102 [v0, v1] (.ref b1 :: st) u P = (xIs u b1 9 ∧ zr 36 105 [v0, v1] (.int (xI u b1 3) :: st) u P) := zr_GI k36_102
theorem k36_105 : xcd 36 105 = oRi 0 := rfl
theorem r36_105 : zr 36 105 [v0, v1] [.int y1] u P = P (some (.int y1)) u := zr_Ri k36_105
theorem k36_106 : xcd 36 106 = oAl 0 107 := rfl
theorem r36_106 : zr 36 106 [.ref a0, v1] st u P = zr 36 107 [.ref a0, v1] (.ref a0 :: st) u P := zr_Al k36_106 rfl
theorem k36_107 : xcd 36 107 = oGR 3 1 110 := rfl
theorem r36_107 : zr 36 107 [v0, v1] (.ref b1 :: st) u P = (xIs u b1 3 ∧ ∃ b, xR u b1 1 = some b ∧ zr 36 110 [v0, v1] (.ref b :: st) u P) := zr_GR k36_107
theorem k36_110 : xcd 36 110 = oGI 9 9 113 := rfl
theorem r36_110 : zr 36 110 [v0, v1] (.ref b1 :: st) u P = (xIs u b1 9 ∧ zr 36 113 [v0, v1] (.int (xI u b1 9) :: st) u P) := zr_GI k36_110
theorem k36_113 : xcd 36 113 = oRi 0 := rfl
theorem r36_113 : zr 36 113 [v0, v1] [.int y1] u P = P (some (.int y1)) u := zr_Ri k36_113
theorem k37_0 : xcd 37 0 = oAl 0 1 := rfl
theorem r37_0 : zr 37 0 [.ref a0, v1] st u P = zr 37 1 [.ref a0, v1] (.ref a0 :: st) u P := zr_Al k37_0 rfl
theorem k37_1 : xcd 37 1 = oGR 3 0 4 := rfl
theorem r37_1 : zr 37 1 [v0, v1] (.ref b1 :: st) u P = (xIs u b1 3 ∧ ∃ b, xR u b1 0 = some b ∧ zr 37 4 [v0, v1] (.ref b :: st) u P) := zr_GR k37_1
theorem k37_4 : xcd 37 4 = oGR 4 5 7 := rfl
theorem r37_4 : zr 37 4 [v0, v1] (.ref b1 :: st) u P = (xIs u b1 4 ∧ ∃ b, xR u b1 5 = some b ∧ zr 37 7 [v0, v1] (.ref b :: st) u P) := zr_GR k37_4
theorem k37_7 : xcd 37 7 = oIl 1 8 := rfl
theorem r37_7 : zr 37 7 [v0, .int x1] st u P = zr 37 8 [v0, .int x1] (.int x1 :: st) u P := zr_Il k37_7 rfl
theorem k37_8 : xcd 37 8 = oCalV 2 24 1 11 := rfl
theorem r37_8 : zr 37 8 [v0, v1] (.int y1 :: .ref b8 :: st) u P = ((xIs u b8 2 ∧ xcat st ≤ 8) ∧ zr 24 0 [.ref b8, .int y1, .null, .null] [] u (fun r u2 => zr 37 11 [v0, v1] (r.toList ++ st) u2 P)) := zr_CV k37_8 rfl rfl rfl ⟨Nat.le_of_ble_eq_true rfl, Nat.succ_ne_zero _, by decide⟩ rfl
theorem k37_11 : xcd 37 11 = oAl 0 12 := rfl
theorem r37_11 : zr 37 11 [.ref a0, v1] st u P = zr 37 12 [.ref a0, v1] (.ref a0 :: st) u P := zr_Al k37_11 rfl
theorem k37_12 : xcd 37 12 = oGR 3 1 15 := rfl
theorem r37_12 : zr 37 12 [v0, v1] (.ref b1 :: st) u P = (xIs u b1 3 ∧ ∃ b, xR u b1 1 = some b ∧ zr 37 15 [v0, v1] (.ref b :: st) u P) := zr_GR k37_12
theorem k37_15 : xcd 37 15 = oIl 1 16 := rfl
theorem r37_15 : zr 37 15 [v0, .int x1] st u P = zr 37 16 [v0, .int x1] (.int x1 :: st) u P := zr_Il k37_15 rfl
theorem k37_16 : xcd 37 16 = oCalV 9 104 1 19 := rfl
theorem r37_16 : zr 37 16 [v0, v1] (.int y1 :: .ref b8 :: st) u P = ((xIs u b8 9 ∧ xcat st ≤ 8) ∧ zr 104 0 [.ref b8, .int y1, .null, .null] [] u (fun r u2 => zr 37 19 [v0, v1] (r.toList ++ st) u2 P)) := zr_CV k37_16 rfl rfl rfl ⟨Nat.le_of_ble_eq_true rfl, Nat.succ_ne_zero _, by decide⟩ rfl
theorem k37_19 : xcd 37 19 = oMin 22 := rfl
theorem r37_19 : zr 37 19 [v0, v1] (.int y1 :: .int y2 :: st) u P = (xcat st ≤ 8 ∧ zr 37 22 [v0, v1] (.int (if y1 < y2 then y1 else y2) :: st) u P) := zr_Min k37_19
theorem k37_22 : xcd 37 22 = oRi 0 := rfl
theorem r37_22 : zr 37 22 [v0, v1] [.int y1] u P = P (some (.int y1)) u := zr_Ri k37_22
theorem k38_0 : xcd 38 0 = oAl 0 1 := rfl
theorem r38_0 : zr 38 0 [.ref a0, v1, v2, v3] st u P = zr 38 1 [.ref a0, v1, v2, v3] (.ref a0 :: st) u P := zr_Al k38_0 rfl
theorem k38_1 : xcd 38 1 = oGR 3 0 4 := rfl
theorem r38_1 : zr 38 1 [v0, v1, v2, v3] (.ref b1 :: st) u P = (xIs u b1 3 ∧ ∃ b, xR u b1 0 = some b ∧ zr 38 4 [v0, v1, v2, v3] (.ref b :: st) u P) := zr_GR k38_1
theorem k38_4 : xcd 38 4 = oIl 1 5 := rfl
theorem r38_4 : zr 38 4 [v0, .int x1, v2, v3] st u P = zr 38 5 [v0, .int x1, v2, v3] (.int x1 :: st) u P := zr_Il k38_4 rfl
theorem k38_5 : xcd 38 5 = oCalV 4 45 1 8 := rfl
theorem r38_5 : zr 38 5 [v0, v1, v2, v3] (.int y1 :: .ref b8 :: st) u P = ((xIs u b8 4 ∧ xcat st ≤ 8) ∧ zr 45 0 [.ref b8, .int y1, .null] [] u (fun r u2 => zr 38 8 [v0, v1, v2, v3] (r.toList ++ st) u2 P)) := zr_CV k38_5 rfl rfl rfl ⟨Nat.le_of_ble_eq_true rfl, Nat.succ_ne_zero _, by decide⟩ rfl
theorem k38_8 : xcd 38 8 = oI 0 9 := rfl
theorem r38_8 : zr 38 8 [v0, v1, v2, v3] st u P = zr 38 9 [v0, v1, v2, v3] (.int 0 :: st) u P := zr_I k38_8
theorem k38_9 : xcd 38 9 = oIs 3 10 := rfl
theorem r38_9 : zr 38 9 [v0, v1, .int x2, v3] (.int y1 :: st) u P = zr 38 10 [v0, v1, .int x2, .int y1] st u P := zr_Is k38_9 ⟨Nat.le_of_ble_eq_true rfl, rfl⟩
theorem k38_10 : xcd 38 10 = oIl 3 11 := rfl
theorem r38_10 : zr 38 10 [v0, v1, v2, .int x3] st u P = zr 38 11 [v0, v1, v2, .int x3] (.int x3 :: st) u P := zr_Il k38_10 rfl
theorem k38_11 : xcd 38 11 = oAl 0 12 := rfl
theorem r38_11 : zr 38 11 [.ref a0, v1, v2, v3] st u P = zr 38 12 [.ref a0, v1, v2, v3] (.ref a0 :: st) u P := zr_Al k38_11 rfl
theorem k38_12 : xcd 38 12 = oGR 3 0 15 := rfl
theorem r38_12 : zr 38 12 [v0, v1, v2, v3] (.ref b1 :: st) u P = (xIs u b1 3 ∧ ∃ b, xR u b1 0 = some b ∧ zr 38 15 [v0, v1, v2, v3] (.ref b :: st) u P) := zr_GR k38_12
theorem k38_15 : xcd 38 15 = oGI 4 2 18 := rfl
theorem r38_15 : zr 38 15 [v0, v1, v2, v3] (.ref b1 :: st) u P = (xIs u b1 4 ∧ zr 38 18 [v0, v1, v2, v3] (.int (xI u b1 2) :: st) u P) := zr_GI k38_15
theorem k38_18 : xcd 38 18 = oCmp (fun x y => decide (y ≤ x)) 43 21 := rfl
theorem r38_18 : zr 38 18 [v0, v1, v2, v3] (.int y1 :: .int y2 :: st) u P = (if y1 ≤ y2 then zr 38 43 [v0, v1, v2, v3] st u P else zr 38 21 [v0, v1, v2, v3] st u P) := zr_Cmp k38_18
theorem k38_21 : xcd 38 21 = oAl 0 22 := rfl
theorem r38_21 : zr 38 21 [.ref a0, v1, v2, v3] st u P = zr 38 22 [.ref a0, v1, v2, v3] (.ref a0 :: st) u P := zr_Al k38_21 rfl
theorem k38_22 : xcd 38 22 = oGR 3 2 25 := rfl
theorem r38_22 : zr 38 22 [v0, v1, v2, v3] (.ref b1 :: st) u P = (xIs u b1 3 ∧ ∃ b, xR u b1 2 = some b ∧ zr 38 25 [v0, v1, v2, v3] (.ref b :: st) u P) := zr_GR k38_22
theorem k38_25 : xcd 38 25 = oIl 3 26 := rfl
theorem r38_25 : zr 38 25 [v0, v1, v2, .int x3] st u P = zr 38 26 [v0, v1, v2, .int x3] (.int x3 :: st) u P := zr_Il k38_25 rfl
theorem k38_26 : xcd 38 26 = oAl 0 27 := rfl
theorem r38_26 : zr 38 26 [.ref a0, v1, v2, v3] st u P = zr 38 27 [.ref a0, v1, v2, v3] (.ref a0 :: st) u P := zr_Al k38_26 rfl
theorem k38_27 : xcd 38 27 = oGR 3 1 30 := rfl
theorem r38_27 : zr 38 27 [v0, v1, v2, v3] (.ref b1 :: st) u P = (xIs u b1 3 ∧ ∃ b, xR u b1 1 = some b ∧ zr 38 30 [v0, v1, v2, v3] (.ref b :: st) u P) := zr_GR k38_27
theorem k38_30 : xcd 38 30 = oIl 3 31 := rfl
theorem r38_30 : zr 38 30 [v0, v1, v2, .int x3] st u P = zr 38 31 [v0, v1, v2, .int x3] (.int x3 :: st) u P := zr_Il k38_30 rfl
theorem k38_31 : xcd 38 31 = oIl 2 32 := rfl
theorem r38_31 : zr 38 31 [v0, v1, .int x2, v3] st u P = zr 38 32 [v0, v1, .int x2, v3] (.int x2 :: st) u P := zr_Il k38_31 rfl
theorem k38_32 : xcd 38 32 = oIl 1 33 := rfl
theorem r38_32 : zr 38 32 [v0, .int x1, v2, v3] st u P = zr 38 33 [v0, .int x1, v2, v3] (.int x1 :: st) u P := zr_Il k38_32 rfl
theorem k38_33 : xcd 38 33 = oCalV 9 99 3 36 := rfl
theorem r38_33 : zr 38 33 [v0, v1, v2, v3] (.int y3 :: .int y2 :: .int y1 :: .ref b8 :: st) u P = ((xIs u b8 9 ∧ xcat st ≤ 8) ∧ zr 99 0 [.ref b8, .int y1, .int y2, .int y3, .null, .null, .null] [] u (fun r u2 => zr 38 36 [v0, v1, v2, v3] (r.toList ++ st) u2 P)) := zr_CV k38_33 rfl rfl rfl ⟨Nat.le_of_ble_eq_true rfl, Nat.succ_ne_zero _, by decide⟩ rfl
theorem k38_36 : xcd 38 36 = oSt 13 (fun x => x) 37 := rfl
theorem r38_36 : zr 38 36 [v0, v1, v2, v3] (.int y2 :: .int y1 :: .ref b1 :: st) u P = ((xIs u b1 13 ∧ xinb y1 (xN u b1)) ∧ zr 38 37 [v0, v1, v2, v3] st (xsI u b1 (xix y1) y2) P) := zr_St k38_36
theorem k38_37 : xcd 38 37 = oInc 3 1 40 := rfl
theorem r38_37 : zr 38 37 [v0, v1, .int x2, .int x3] st u P = zr 38 40 [v0, v1, .int x2, .int (x3 + 1)] st u P := zr_Inc k38_37 rfl rfl
theorem k38_40 : xcd 38 40 = oGoto 10 := rfl
theorem r38_40 : zr 38 40 [v0, v1, v2, v3] st u P = zr 38 10 [v0, v1, v2, v3] st u P := zr_Goto k38_40
theorem k38_43 : xcd 38 43 = oRv 0 := rfl
theorem r38_43 : zr 38 43 [v0, v1, v2, v3] [] u P = P none u := zr_Rv k38_43
theorem k39_0 : xcd 39 0 = oAl 0 1 := rfl
theorem r39_0 : zr 39 0 [.ref a0, v1, v2, v3, v4] st u P = zr 39 1 [.ref a0, v1, v2, v3, v4] (.ref a0 :: st) u P := zr_Al k39_0 rfl
theorem k39_1 : xcd 39 1 = oGR 3 0 4 := rfl
theorem r39_1 : zr 39 1 [v0, v1, v2, v3, v4] (.ref b1 :: st) u P = (xIs u b1 3 ∧ ∃ b, xR u b1 0 = some b ∧ zr 39 4 [v0, v1, v2, v3, v4] (.ref b :: st) u P) := zr_GR k39_1
theorem k39_4 : xcd 39 4 = oIl 1 5 := rfl
theorem r39_4 : zr 39 4 [v0, .int x1, v2, v3, v4] st u P = zr 39 5 [v0, .int x1, v2, v3, v4] (.int x1 :: st) u P := zr_Il k39_4 rfl
theorem k39_5 : xcd 39 5 = oIl 2 6 := rfl
theorem r39_5 : zr 39 5 [v0, v1, .int x2, v3, v4] st u P = zr 39 6 [v0, v1, .int x2, v3, v4] (.int x2 :: st) u P := zr_Il k39_5 rfl
theorem k39_6 : xcd 39 6 = oCalV 4 47 2 9 := rfl
theorem r39_6 : zr 39 6 [v0, v1, v2, v3, v4] (.int y2 :: .int y1 :: .ref b8 :: st) u P = ((xIs u b8 4 ∧ xcat st ≤ 8) ∧ zr 47 0 [.ref b8, .int y1, .int y2, .null, .null] [] u (fun r u2 => zr 39 9 [v0, v1, v2, v3, v4] (r.toList ++ st) u2 P)) := zr_CV k39_6 rfl rfl rfl ⟨Nat.le_of_ble_eq_true rfl, Nat.succ_ne_zero _, by decide⟩ rfl
theorem k39_9 : xcd 39 9 = oI 0 10 := rfl
theorem r39_9 : zr 39 9 [v0, v1, v2, v3, v4] st u P = zr 39 10 [v0, v1, v2, v3, v4] (.int 0 :: st) u P := zr_I k39_9
theorem k39_10 : xcd 39 10 = oIs 3 11 := rfl
theorem r39_10 : zr 39 10 [v0, v1, .int x2, v3, v4] (.int y1 :: st) u P = zr 39 11 [v0, v1, .int x2, .int y1, v4] st u P := zr_Is k39_10 ⟨Nat.le_of_ble_eq_true rfl, rfl⟩
theorem k39_11 : xcd 39 11 = oI 0 12 := rfl
theorem r39_11 : zr 39 11 [v0, v1, v2, v3, v4] st u P = zr 39 12 [v0, v1, v2, v3, v4] (.int 0 :: st) u P := zr_I k39_11
theorem k39_12 : xcd 39 12 = oIs 4 14 := rfl
theorem r39_12 : zr 39 12 [v0, v1, v2, .int x3, v4] (.int y1 :: st) u P = zr 39 14 [v0, v1, v2, .int x3, .int y1] st u P := zr_Is k39_12 ⟨Nat.le_of_ble_eq_true rfl, rfl⟩
theorem k39_14 : xcd 39 14 = oIl 4 16 := rfl
theorem r39_14 : zr 39 14 [v0, v1, v2, v3, .int x4] st u P = zr 39 16 [v0, v1, v2, v3, .int x4] (.int x4 :: st) u P := zr_Il k39_14 rfl
theorem k39_16 : xcd 39 16 = oAl 0 17 := rfl
theorem r39_16 : zr 39 16 [.ref a0, v1, v2, v3, v4] st u P = zr 39 17 [.ref a0, v1, v2, v3, v4] (.ref a0 :: st) u P := zr_Al k39_16 rfl
theorem k39_17 : xcd 39 17 = oGR 3 0 20 := rfl
theorem r39_17 : zr 39 17 [v0, v1, v2, v3, v4] (.ref b1 :: st) u P = (xIs u b1 3 ∧ ∃ b, xR u b1 0 = some b ∧ zr 39 20 [v0, v1, v2, v3, v4] (.ref b :: st) u P) := zr_GR k39_17
theorem k39_20 : xcd 39 20 = oGI 4 8 23 := rfl
theorem r39_20 : zr 39 20 [v0, v1, v2, v3, v4] (.ref b1 :: st) u P = (xIs u b1 4 ∧ zr 39 23 [v0, v1, v2, v3, v4] (.int (xI u b1 8) :: st) u P) := zr_GI k39_20
theorem k39_23 : xcd 39 23 = oCmp (fun x y => decide (y ≤ x)) 50 26 := rfl
theorem r39_23 : zr 39 23 [v0, v1, v2, v3, v4] (.int y1 :: .int y2 :: st) u P = (if y1 ≤ y2 then zr 39 50 [v0, v1, v2, v3, v4] st u P else zr 39 26 [v0, v1, v2, v3, v4] st u P) := zr_Cmp k39_23
theorem k39_26 : xcd 39 26 = oIl 3 27 := rfl
theorem r39_26 : zr 39 26 [v0, v1, v2, .int x3, v4] st u P = zr 39 27 [v0, v1, v2, .int x3, v4] (.int x3 :: st) u P := zr_Il k39_26 rfl
theorem k39_27 : xcd 39 27 = oAl 0 28 := rfl
theorem r39_27 : zr 39 27 [.ref a0, v1, v2, v3, v4] st u P = zr 39 28 [.ref a0, v1, v2, v3, v4] (.ref a0 :: st) u P := zr_Al k39_27 rfl
theorem k39_28 : xcd 39 28 = oGR 3 2 31 := rfl
theorem r39_28 : zr 39 28 [v0, v1, v2, v3, v4] (.ref b1 :: st) u P = (xIs u b1 3 ∧ ∃ b, xR u b1 2 = some b ∧ zr 39 31 [v0, v1, v2, v3, v4] (.ref b :: st) u P) := zr_GR k39_28
theorem k39_31 : xcd 39 31 = oAl 0 32 := rfl
theorem r39_31 : zr 39 31 [.ref a0, v1, v2, v3, v4] st u P = zr 39 32 [.ref a0, v1, v2, v3, v4] (.ref a0 :: st) u P := zr_Al k39_31 rfl
theorem k39_32 : xcd 39 32 = oGR 3 0 35 := rfl
theorem r39_32 : zr 39 32 [v0, v1, v2, v3, v4] (.ref b1 :: st) u P = (xIs u b1 3 ∧ ∃ b, xR u b1 0 = some b ∧ zr 39 35 [v0, v1, v2, v3, v4] (.ref b :: st) u P) := zr_GR k39_32
theorem k39_35 : xcd 39 35 = oGR 4 7 38 := rfl
theorem r39_35 : zr 39 35 [v0, v1, v2, v3, v4] (.ref b1 :: st) u P = (xIs u b1 4 ∧ ∃ b, xR u b1 7 = some b ∧ zr 39 38 [v0, v1, v2, v3, v4] (.ref b :: st) u P) := zr_GR k39_35
theorem k39_38 : xcd 39 38 = oIl 4 40 := rfl
theorem r39_38 : zr 39 38 [v0, v1, v2, v3, .int x4] st u P = zr 39 40 [v0, v1, v2, v3, .int x4] (.int x4 :: st) u P := zr_Il k39_38 rfl
theorem k39_40 : xcd 39 40 = oLd 13 41 := rfl
theorem r39_40 : zr 39 40 [v0, v1, v2, v3, v4] (.int y1 :: .ref b1 :: st) u P = ((xIs u b1 13 ∧ xinb y1 (xN u b1)) ∧ zr 39 41 [v0, v1, v2, v3, v4] (.int (xI u b1 (xix y1)) :: st) u P) := zr_Ld k39_40
theorem k39_41 : xcd 39 41 = oLd 13 42 := rfl
theorem r39_41 : zr 39 41 [v0, v1, v2, v3, v4] (.int y1 :: .ref b1 :: st) u P = ((xIs u b1 13 ∧ xinb y1 (xN u b1)) ∧ zr 39 42 [v0, v1, v2, v3, v4] (.int (xI u b1 (xix y1)) :: st) u P) := zr_Ld k39_41
theorem k39_42 : xcd 39 42 = oB (fun x y => x + y) 43 := rfl
theorem r39_42 : zr 39 42 [v0, v1, v2, v3, v4] (.int y1 :: .int y2 :: st) u P = zr 39 43 [v0, v1, v2, v3, v4] (.int (y2 + y1) :: st) u P := zr_B k39_42
theorem k39_43 : xcd 39 43 = oIs 3 44 := rfl
theorem r39_43 : zr 39 43 [v0, v1, .int x2, v3, v4] (.int y1 :: st) u P = zr 39 44 [v0, v1, .int x2, .int y1, v4] st u P := zr_Is k39_43 ⟨Nat.le_of_ble_eq_true rfl, rfl⟩
theorem k39_44 : xcd 39 44 = oInc 4 1 47 := rfl
theorem r39_44 : zr 39 44 [v0, v1, v2, .int x3, .int x4] st u P = zr 39 47 [v0, v1, v2, .int x3, .int (x4 + 1)] st u P := zr_Inc k39_44 rfl rfl
theorem k39_47 : xcd 39 47 = oGoto 14 := rfl
theorem r39_47 : zr 39 47 [v0, v1, v2, v3, v4] st u P = zr 39 14 [v0, v1, v2, v3, v4] st u P := zr_Goto k39_47
theorem k39_50 : xcd 39 50 = oIl 3 51 := rfl
theorem r39_50 : zr 39 50 [v0, v1, v2, .int x3, v4] st u P = zr 39 51 [v0, v1, v2, .int x3, v4] (.int x3 :: st) u P := zr_Il k39_50 rfl
theorem k39_51 : xcd 39 51 = oRi 0 := rfl
theorem r39_51 : zr 39 51 [v0, v1, v2, v3, v4] [.int y1] u P = P (some (.int y1)) u := zr_Ri k39_51
theorem k40_0 : xcd 40 0 = oI 2147483647 2 := rfl
theorem r40_0 : zr 40 0 [v0, v1, v2, v3, v4, v5] st u P = zr 40 2 [v0, v1, v2, v3, v4, v5] (.int 2147483647 :: st) u P := zr_I k40_0
theorem k40_2 : xcd 40 2 = oIs 1 3 := rfl
theorem r40_2 : zr 40 2 [.ref a0, v1, v2, v3, v4, v5] (.int y1 :: st) u P = zr 40 3 [.ref a0, .int y1, v2, v3, v4, v5] st u P := zr_Is k40_2 ⟨Nat.le_of_ble_eq_true rfl, rfl⟩
theorem k40_3 : xcd 40 3 = oI 0 4 := rfl
theorem r40_3 : zr 40 3 [v0, v1, v2, v3, v4, v5] st u P = zr 40 4 [v0, v1, v2, v3, v4, v5] (.int 0 :: st) u P := zr_I k40_3
theorem k40_4 : xcd 40 4 = oIs 2 5 := rfl
theorem r40_4 : zr 40 4 [v0, .int x1, v2, v3, v4, v5] (.int y1 :: st) u P = zr 40 5 [v0, .int x1, .int y1, v3, v4, v5] st u P := zr_Is k40_4 ⟨Nat.le_of_ble_eq_true rfl, rfl⟩
theorem k40_5 : xcd 40 5 = oI 0 6 := rfl
theorem r40_5 : zr 40 5 [v0, v1, v2, v3, v4, v5] st u P = zr 40 6 [v0, v1, v2, v3, v4, v5] (.int 0 :: st) u P := zr_I k40_5
theorem k40_6 : xcd 40 6 = oIs 3 7 := rfl
theorem r40_6 : zr 40 6 [v0, v1, .int x2, v3, v4, v5] (.int y1 :: st) u P = zr 40 7 [v0, v1, .int x2, .int y1, v4, v5] st u P := zr_Is k40_6 ⟨Nat.le_of_ble_eq_true rfl, rfl⟩
theorem k40_7 : xcd 40 7 = oIl 3 8 := rfl
theorem r40_7 : zr 40 7 [v0, v1, v2, .int x3, v4, v5] st u P = zr 40 8 [v0, v1, v2, .int x3, v4, v5] (.int x3 :: st) u P := zr_Il k40_7 rfl
theorem k40_8 : xcd 40 8 = oAl 0 9 := rfl
theorem r40_8 : zr 40 8 [.ref a0, v1, v2, v3, v4, v5] st u P = zr 40 9 [.ref a0, v1, v2, v3, v4, v5] (.ref a0 :: st) u P := zr_Al k40_8 rfl
theorem k40_9 : xcd 40 9 = oGR 3 0 12 := rfl
theorem r40_9 : zr 40 9 [v0, v1, v2, v3, v4, v5] (.ref b1 :: st) u P = (xIs u b1 3 ∧ ∃ b, xR u b1 0 = some b ∧ zr 40 12 [v0, v1, v2, v3, v4, v5] (.ref b :: st) u P) := zr_GR k40_9
theorem k40_12 : xcd 40 12 = oGI 4 0 15 := rfl
theorem r40_12 : zr 40 12 [v0, v1, v2, v3, v4, v5] (.ref b1 :: st) u P = (xIs u b1 4 ∧ zr 40 15 [v0, v1, v2, v3, v4, v5] (.int (xI u b1 0) :: st) u P) := zr_GI k40_12
theorem k40_15 : xcd 40 15 = oCmp (fun x y => decide (y < x)) 79 18 := rfl
theorem r40_15 : zr 40 15 [v0, v1, v2, v3, v4, v5] (.int y1 :: .int y2 :: st) u P = (if y1 < y2 then zr 40 79 [v0, v1, v2, v3, v4, v5] st u P else zr 40 18 [v0, v1, v2, v3, v4, v5] st u P) := zr_Cmp k40_15
theorem k40_18 : xcd 40 18 = oIl 1 19 := rfl
theorem r40_18 : zr 40 18 [v0, .int x1, v2, v3, v4, v5] st u P = zr 40 19 [v0, .int x1, v2, v3, v4, v5] (.int x1 :: st) u P := zr_Il k40_18 rfl
theorem k40_19 : xcd 40 19 = oIf (fun x => decide (x ≤ 0)) 79 22 := rfl
theorem r40_19 : zr 40 19 [v0, v1, v2, v3, v4, v5] (.int y1 :: st) u P = (if y1 ≤ 0 then zr 40 79 [v0, v1, v2, v3, v4, v5] st u P else zr 40 22 [v0, v1, v2, v3, v4, v5] st u P) := zr_If k40_19
theorem k40_22 : xcd 40 22 = oI 0 23 := rfl
theorem r40_22 : zr 40 22 [v0, v1, v2, v3, v4, v5] st u P = zr 40 23 [v0, v1, v2, v3, v4, v5] (.int 0 :: st) u P := zr_I k40_22
theorem k40_23 : xcd 40 23 = oIs 4 25 := rfl
theorem r40_23 : zr 40 23 [v0, v1, v2, .int x3, v4, v5] (.int y1 :: st) u P = zr 40 25 [v0, v1, v2, .int x3, .int y1, v5] st u P := zr_Is k40_23 ⟨Nat.le_of_ble_eq_true rfl, rfl⟩
theorem k40_25 : xcd 40 25 = oIl 4 27 := rfl
theorem r40_25 : zr 40 25 [v0, v1, v2, v3, .int x4, v5] st u P = zr 40 27 [v0, v1, v2, v3, .int x4, v5] (.int x4 :: st) u P := zr_Il k40_25 rfl
theorem k40_27 : xcd 40 27 = oAl 0 28 := rfl
theorem r40_27 : zr 40 27 [.ref a0, v1, v2, v3, v4, v5] st u P = zr 40 28 [.ref a0, v1, v2, v3, v4, v5] (.ref a0 :: st) u P := zr_Al k40_27 rfl
theorem k40_28 : xcd 40 28 = oGR 3 0 31 := rfl
theorem r40_28 : zr 40 28 [v0, v1, v2, v3, v4, v5] (.ref b1 :: st) u P = (xIs u b1 3 ∧ ∃ b, xR u b1 0 = some b ∧ zr 40 31 [v0, v1, v2, v3, v4, v5] (.ref b :: st) u P) := zr_GR k40_28
theorem k40_31 : xcd 40 31 = oGI 4 0 34 := rfl
theorem r40_31 : zr 40 31 [v0, v1, v2, v3, v4, v5] (.ref b1 :: st) u P = (xIs u b1 4 ∧ zr 40 34 [v0, v1, v2, v3, v4, v5] (.int (xI u b1 0) :: st) u P) := zr_GI k40_31
theorem k40_34 : xcd 40 34 = oCmp (fun x y => decide (y < x)) 73 37 := rfl
theorem r40_34 : zr 40 34 [v0, v1, v2, v3, v4, v5] (.int y1 :: .int y2 :: st) u P = (if y1 < y2 then zr 40 73 [v0, v1, v2, v3, v4, v5] st u P else zr 40 37 [v0, v1, v2, v3, v4, v5] st u P) := zr_Cmp k40_34
theorem k40_37 : xcd 40 37 = oIl 1 38 := rfl
theorem r40_37 : zr 40 37 [v0, .int x1, v2, v3, v4, v5] st u P = zr 40 38 [v0, .int x1, v2, v3, v4, v5] (.int x1 :: st) u P := zr_Il k40_37 rfl
theorem k40_38 : xcd 40 38 = oIf (fun x => decide (x ≤ 0)) 73 41 := rfl
theorem r40_38 : zr 40 38 [v0, v1, v2, v3, v4, v5] (.int y1 :: st) u P = (if y1 ≤ 0 then zr 40 73 [v0, v1, v2, v3, v4, v5] st u P else zr 40 41 [v0, v1, v2, v3, v4, v5] st u P) := zr_If k40_38
theorem k40_41 : xcd 40 41 = oAl 0 42 := rfl
theorem r40_41 : zr 40 41 [.ref a0, v1, v2, v3, v4, v5] st u P = zr 40 42 [.ref a0, v1, v2, v3, v4, v5] (.ref a0 :: st) u P := zr_Al k40_41 rfl
theorem k40_42 : xcd 40 42 = oIl 4 44 := rfl
theorem r40_42 : zr 40 42 [v0, v1, v2, v3, .int x4, v5] st u P = zr 40 44 [v0, v1, v2, v3, .int x4, v5] (.int x4 :: st) u P := zr_Il k40_42 rfl
theorem k40_44 : xcd 40 44 = oIl 3 45 := rfl
theorem r40_44 : zr 40 44 [v0, v1, v2, .int x3, v4, v5] st u P = zr 40 45 [v0, v1, v2, .int x3, v4, v5] (.int x3 :: st) u P := zr_Il k40_44 rfl
theorem k40_45 : xcd 40 45 = oCalV 3 39 2 48 := rfl
theorem r40_45 : zr 40 45 [v0, v1, v2, v3, v4, v5] (.int y2 :: .int y1 :: .ref b8 :: st) u P = ((xIs u b8 3 ∧ xcat st ≤ 8) ∧ zr 39 0 [.ref b8, .int y1, .int y2, .null, .null] [] u (fun r u2 => zr 40 48 [v0, v1, v2, v3, v4, v5] (r.toList ++ st) u2 P)) := zr_CV k40_45 rfl rfl rfl ⟨Nat.le_of_ble_eq_true rfl, Nat.succ_ne_zero _, by decide⟩ rfl
theorem k40_48 : xcd 40 48 = oIs 5 50 := rfl
theorem r40_48 : zr 40 48 [v0, v1, v2, v3, .int x4, v5] (.int y1 :: st) u P = zr 40 50 [v0, v1, v2, v3, .int x4, .int y1] st u P := zr_Is k40_48 ⟨Nat.le_of_ble_eq_true rfl, rfl⟩
theorem k40_50 : xcd 40 50 = oIl 5 52 := rfl
theorem r40_50 : zr 40 50 [v0, v1, v2, v3, v4, .int x5] st u P = zr 40 52 [v0, v1, v2, v3, v4, .int x5] (.int x5 :: st) u P := zr_Il k40_50 rfl
theorem k40_52 : xcd 40 52 = oIl 1 53 := rfl
theorem r40_52 : zr 40 52 [v0, .int x1, v2, v3, v4, v5] st u P = zr 40 53 [v0, .int x1, v2, v3, v4, v5] (.int x1 :: st) u P := zr_Il k40_52 rfl
theorem k40_53 : xcd 40 53 = oCmp (fun x y => decide (y ≤ x)) 67 56 := rfl
theorem r40_53 : zr 40 53 [v0, v1, v2, v3, v4, v5] (.int y1 :: .int y2 :: st) u P = (if y1 ≤ y2 then zr 40 67 [v0, v1, v2, v3, v4, v5] st u P else zr 40 56 [v0, v1, v2, v3, v4, v5] st u P) := zr_Cmp k40_53
theorem k40_56 : xcd 40 56 = oIl 5 58 := rfl
theorem r40_56 : zr 40 56 [v0, v1, v2, v3, v4, .int x5] st u P = zr 40 58 [v0, v1, v2, v3, v4, .int x5] (.int x5 :: st) u P := zr_Il k40_56 rfl
theorem k40_58 : xcd 40 58 = oIs 1 59 := rfl
theorem r40_58 : zr 40 58 [.ref a0, v1, v2, v3, v4, v5] (.int y1 :: st) u P = zr 40 59 [.ref a0, .int y1, v2, v3, v4, v5] st u P := zr_Is k40_58 ⟨Nat.le_of_ble_eq_true rfl, rfl⟩
theorem k40_59 : xcd 40 59 = oIl 4 61 := rfl
theorem r40_59 : zr 40 59 [v0, v1, v2, v3, .int x4, v5] st u P = zr 40 61 [v0, v1, v2, v3, .int x4, v5] (.int x4 :: st) u P := zr_Il k40_59 rfl
theorem k40_61 : xcd 40 61 = oI 100 63 := rfl
theorem r40_61 : zr 40 61 [v0, v1, v2, v3, v4, v5] st u P = zr 40 63 [v0, v1, v2, v3, v4, v5] (.int 100 :: st) u P := zr_I k40_61
theorem k40_63 : xcd 40 63 = oIl 3 64 := rfl
theorem r40_63 : zr 40 63 [v0, v1, v2, .int x3, v4, v5] st u P = zr 40 64 [v0, v1, v2, .int x3, v4, v5] (.int x3 :: st) u P := zr_Il k40_63 rfl
theorem k40_64 : xcd 40 64 = oB (fun x y => x * y) 65 := rfl
theorem r40_64 : zr 40 64 [v0, v1, v2, v3, v4, v5] (.int y1 :: .int y2 :: st) u P = zr 40 65 [v0, v1, v2, v3, v4, v5] (.int (y2 * y1) :: st) u P := zr_B k40_64
theorem k40_65 : xcd 40 65 = oB (fun x y => x + y) 66 := rfl
theorem r40_65 : zr 40 65 [v0, v1, v2, v3, v4, v5] (.int y1 :: .int y2 :: st) u P = zr 40 66 [v0, v1, v2, v3, v4, v5] (.int (y2 + y1) :: st) u P := zr_B k40_65
theorem k40_66 : xcd 40 66 = oIs 2 67 := rfl
theorem r40_66 : zr 40 66 [v0, .int x1, v2, v3, v4, v5] (.int y1 :: st) u P = zr 40 67 [v0, .int x1, .int y1, v3, v4, v5] st u P := zr_Is k40_66 ⟨Nat.le_of_ble_eq_true rfl, rfl⟩
theorem k40_67 : xcd 40 67 = oInc 4 1 70 := rfl
theorem r40_67 : zr 40 67 [v0, v1, v2, .int x3, .int x4, v5] st u P = zr 40 70 [v0, v1, v2, .int x3, .int (x4 + 1), v5] st u P := zr_Inc k40_67 rfl rfl
theorem k40_70 : xcd 40 70 = oGoto 25 := rfl
theorem r40_70 : zr 40 70 [v0, v1, v2, v3, v4, v5] st u P = zr 40 25 [v0, v1, v2, v3, v4, v5] st u P := zr_Goto k40_70
theorem k40_73 : xcd 40 73 = oInc 3 1 76 := rfl
theorem r40_73 : zr 40 73 [v0, v1, .int x2, .int x3, v4, v5] st u P = zr 40 76 [v0, v1, .int x2, .int (x3 + 1), v4, v5] st u P := zr_Inc k40_73 rfl rfl
theorem k40_76 : xcd 40 76 = oGoto 7 := rfl
theorem r40_76 : zr 40 76 [v0, v1, v2, v3, v4, v5] st u P = zr 40 7 [v0, v1, v2, v3, v4, v5] st u P := zr_Goto k40_76
theorem k40_79 : xcd 40 79 = oIl 2 80 := rfl
theorem r40_79 : zr 40 79 [v0, v1, .int x2, v3, v4, v5] st u P = zr 40 80 [v0, v1, .int x2, v3, v4, v5] (.int x2 :: st) u P := zr_Il k40_79 rfl
theorem k40_80 : xcd 40 80 = oRi 0 := rfl
theorem r40_80 : zr 40 80 [v0, v1, v2, v3, v4, v5] [.int y1] u P = P (some (.int y1)) u := zr_Ri k40_80
theorem k41_0 : xcd 41 0 = oAl 0 1 := rfl
theorem r41_0 : zr 41 0 [.ref a0, v1, v2, v3] st u P = zr 41 1 [.ref a0, v1, v2, v3] (.ref a0 :: st) u P := zr_Al k41_0 rfl
theorem k41_1 : xcd 41 1 = oGR 3 0 4 := rfl
theorem r41_1 : zr 41 1 [v0, v1, v2, v3] (.ref b1 :: st) u P = (xIs u b1 3 ∧ ∃ b, xR u b1 0 = some b ∧ zr 41 4 [v0, v1, v2, v3] (.ref b :: st) u P) := zr_GR k41_1
theorem k41_4 : xcd 41 4 = oAl 1 5 := rfl
theorem r41_4 : zr 41 4 [v0, .ref a1, v2, v3] st u P = zr 41 5 [v0, .ref a1, v2, v3] (.ref a1 :: st) u P := zr_Al k41_4 rfl
theorem k41_5 : xcd 41 5 = oGI 5 0 8 := rfl
theorem r41_5 : zr 41 5 [v0, v1, v2, v3] (.ref b1 :: st) u P = (xIs u b1 5 ∧ zr 41 8 [v0, v1, v2, v3] (.int (xI u b1 0) :: st) u P) := zr_GI k41_5
theorem k41_8 : xcd 41 8 = oCalV 4 45 1 11 := rfl
theorem r41_8 : zr 41 8 [v0, v1, v2, v3] (.int y1 :: .ref b8 :: st) u P = ((xIs u b8 4 ∧ xcat st ≤ 8) ∧ zr 45 0 [.ref b8, .int y1, .null] [] u (fun r u2 => zr 41 11 [v0, v1, v2, v3] (r.toList ++ st) u2 P)) := zr_CV k41_8 rfl rfl rfl ⟨Nat.le_of_ble_eq_true rfl, Nat.succ_ne_zero _, by decide⟩ rfl
theorem k41_11 : xcd 41 11 = oAl 0 12 := rfl
theorem r41_11 : zr 41 11 [.ref a0, v1, v2, v3] st u P = zr 41 12 [.ref a0, v1, v2, v3] (.ref a0 :: st) u P := zr_Al k41_11 rfl
theorem k41_12 : xcd 41 12 = oGR 3 0 15 := rfl
theorem r41_12 : zr 41 12 [v0, v1, v2, v3] (.ref b1 :: st) u P = (xIs u b1 3 ∧ ∃ b, xR u b1 0 = some b ∧ zr 41 15 [v0, v1, v2, v3] (.ref b :: st) u P) := zr_GR k41_12
theorem k41_15 : xcd 41 15 = oAl 1 16 := rfl
theorem r41_15 : zr 41 15 [v0, .ref a1, v2, v3] st u P = zr 41 16 [v0, .ref a1, v2, v3] (.ref a1 :: st) u P := zr_Al k41_15 rfl
theorem k41_16 : xcd 41 16 = oGI 5 1 19 := rfl
theorem r41_16 : zr 41 16 [v0, v1, v2, v3] (.ref b1 :: st) u P = (xIs u b1 5 ∧ zr 41 19 [v0, v1, v2, v3] (.int (xI u b1 1) :: st) u P) := zr_GI k41_16
theorem k41_19 : xcd 41 19 = oAl 1 20 := rfl
theorem r41_19 : zr 41 19 [v0, .ref a1, v2, v3] st u P = zr 41 20 [v0, .ref a1, v2, v3] (.ref a1 :: st) u P := zr_Al k41_19 rfl
theorem k41_20 : xcd 41 20 = oGI 5 2 23 := rfl
theorem r41_20 : zr 41 20 [v0, v1, v2, v3] (.ref b1 :: st) u P = (xIs u b1 5 ∧ zr 41 23 [v0, v1, v2, v3] (.int (xI u b1 2) :: st) u P) := zr_GI k41_20
theorem k41_23 : xcd 41 23 = oCalV 4 47 2 26 := rfl
theorem r41_23 : zr 41 23 [v0, v1, v2, v3] (.int y2 :: .int y1 :: .ref b8 :: st) u P = ((xIs u b8 4 ∧ xcat st ≤ 8) ∧ zr 47 0 [.ref b8, .int y1, .int y2, .null, .null] [] u (fun r u2 => zr 41 26 [v0, v1, v2, v3] (r.toList ++ st) u2 P)) := zr_CV k41_23 rfl rfl rfl ⟨Nat.le_of_ble_eq_true rfl, Nat.succ_ne_zero _, by decide⟩ rfl
theorem k41_26 : xcd 41 26 = oAl 1 27 := rfl
theorem r41_26 : zr 41 26 [v0, .ref a1, v2, v3] st u P = zr 41 27 [v0, .ref a1, v2, v3] (.ref a1 :: st) u P := zr_Al k41_26 rfl
theorem k41_27 : xcd 41 27 = oI 0 28 := rfl
theorem r41_27 : zr 41 27 [v0, v1, v2, v3] st u P = zr 41 28 [v0, v1, v2, v3] (.int 0 :: st) u P := zr_I k41_27
theorem k41_28 : xcd 41 28 = oPI 5 8 31 := rfl
theorem r41_28 : zr 41 28 [v0, v1, v2, v3] (.int y1 :: .ref b1 :: st) u P = (xIs u b1 5 ∧ zr 41 31 [v0, v1, v2, v3] st (xsI u b1 8 y1) P) := zr_PI k41_28
theorem k41_31 : xcd 41 31 = oI 0 32 := rfl
theorem r41_31 : zr 41 31 [v0, v1, v2, v3] st u P = zr 41 32 [v0, v1, v2, v3] (.int 0 :: st) u P := zr_I k41_31
theorem k41_32 : xcd 41 32 = oIs 2 33 := rfl
theorem r41_32 : zr 41 32 [v0, .ref a1, v2, v3] (.int y1 :: st) u P = zr 41 33 [v0, .ref a1, .int y1, v3] st u P := zr_Is k41_32 ⟨Nat.le_of_ble_eq_true rfl, rfl⟩
theorem k41_33 : xcd 41 33 = oIl 2 34 := rfl
theorem r41_33 : zr 41 33 [v0, v1, .int x2, v3] st u P = zr 41 34 [v0, v1, .int x2, v3] (.int x2 :: st) u P := zr_Il k41_33 rfl
theorem k41_34 : xcd 41 34 = oAl 0 35 := rfl
theorem r41_34 : zr 41 34 [.ref a0, v1, v2, v3] st u P = zr 41 35 [.ref a0, v1, v2, v3] (.ref a0 :: st) u P := zr_Al k41_34 rfl
theorem k41_35 : xcd 41 35 = oGR 3 0 38 := rfl
theorem r41_35 : zr 41 35 [v0, v1, v2, v3] (.ref b1 :: st) u P = (xIs u b1 3 ∧ ∃ b, xR u b1 0 = some b ∧ zr 41 38 [v0, v1, v2, v3] (.ref b :: st) u P) := zr_GR k41_35
theorem k41_38 : xcd 41 38 = oGI 4 8 41 := rfl
theorem r41_38 : zr 41 38 [v0, v1, v2, v3] (.ref b1 :: st) u P = (xIs u b1 4 ∧ zr 41 41 [v0, v1, v2, v3] (.int (xI u b1 8) :: st) u P) := zr_GI k41_38
theorem k41_41 : xcd 41 41 = oCmp (fun x y => decide (y ≤ x)) 113 44 := rfl
theorem r41_41 : zr 41 41 [v0, v1, v2, v3] (.int y1 :: .int y2 :: st) u P = (if y1 ≤ y2 then zr 41 113 [v0, v1, v2, v3] st u P else zr 41 44 [v0, v1, v2, v3] st u P) := zr_Cmp k41_41
theorem k41_44 : xcd 41 44 = oAl 0 45 := rfl
theorem r41_44 : zr 41 44 [.ref a0, v1, v2, v3] st u P = zr 41 45 [.ref a0, v1, v2, v3] (.ref a0 :: st) u P := zr_Al k41_44 rfl
theorem k41_45 : xcd 41 45 = oGR 3 0 48 := rfl
theorem r41_45 : zr 41 45 [v0, v1, v2, v3] (.ref b1 :: st) u P = (xIs u b1 3 ∧ ∃ b, xR u b1 0 = some b ∧ zr 41 48 [v0, v1, v2, v3] (.ref b :: st) u P) := zr_GR k41_45
theorem k41_48 : xcd 41 48 = oGR 4 7 51 := rfl
theorem r41_48 : zr 41 48 [v0, v1, v2, v3] (.ref b1 :: st) u P = (xIs u b1 4 ∧ ∃ b, xR u b1 7 = some b ∧ zr 41 51 [v0, v1, v2, v3] (.ref b :: st) u P) := zr_GR k41_48
theorem k41_51 : xcd 41 51 = oIl 2 52 := rfl
theorem r41_51 : zr 41 51 [v0, v1, .int x2, v3] st u P = zr 41 52 [v0, v1, .int x2, v3] (.int x2 :: st) u P := zr_Il k41_51 rfl
theorem k41_52 : xcd 41 52 = oLd 13 53 := rfl
theorem r41_52 : zr 41 52 [v0, v1, v2, v3] (.int y1 :: .ref b1 :: st) u P = ((xIs u b1 13 ∧ xinb y1 (xN u b1)) ∧ zr 41 53 [v0, v1, v2, v3] (.int (xI u b1 (xix y1)) :: st) u P) := zr_Ld k41_52
theorem k41_53 : xcd 41 53 = oIs 3 54 := rfl
theorem r41_53 : zr 41 53 [v0, v1, .int x2, v3] (.int y1 :: st) u P = zr 41 54 [v0, v1, .int x2, .int y1] st u P := zr_Is k41_53 ⟨Nat.le_of_ble_eq_true rfl, rfl⟩
theorem k41_54 : xcd 41 54 = oAl 1 55 := rfl
theorem r41_54 : zr 41 54 [v0, .ref a1, v2, v3] st u P = zr 41 55 [v0, .ref a1, v2, v3] (.ref a1 :: st) u P := zr_Al k41_54 rfl
theorem k41_55 : xcd 41 55 = oIl 3 56 := rfl
theorem r41_55 : zr 41 55 [v0, v1, v2, .int x3] st u P = zr 41 56 [v0, v1, v2, .int x3] (.int x3 :: st) u P := zr_Il k41_55 rfl
theorem k41_56 : xcd 41 56 = oAl 0 57 := rfl
theorem r41_56 : zr 41 56 [.ref a0, v1, v2, v3] st u P = zr 41 57 [.ref a0, v1, v2, v3] (.ref a0 :: st) u P := zr_Al k41_56 rfl
theorem k41_57 : xcd 41 57 = oGR 3 1 60 := rfl
theorem r41_57 : zr 41 57 [v0, v1, v2, v3] (.ref b1 :: st) u P = (xIs u b1 3 ∧ ∃ b, xR u b1 1 = some b ∧ zr 41 60 [v0, v1, v2, v3] (.ref b :: st) u P) := zr_GR k41_57
theorem k41_60 : xcd 41 60 = oIl 3 61 := rfl
theorem r41_60 : zr 41 60 [v0, v1, v2, .int x3] st u P = zr 41 61 [v0, v1, v2, .int x3] (.int x3 :: st) u P := zr_Il k41_60 rfl
theorem k41_61 : xcd 41 61 = oAl 1 62 := rfl
theorem r41_61 : zr 41 61 [v0, .ref a1, v2, v3] st u P = zr 41 62 [v0, .ref a1, v2, v3] (.ref a1 :: st) u P := zr_Al k41_61 rfl
theorem k41_62 : xcd 41 62 = oGI 5 3 65 := rfl
theorem r41_62 : zr 41 62 [v0, v1, v2, v3] (.ref b1 :: st) u P = (xIs u b1 5 ∧ zr 41 65 [v0, v1, v2, v3] (.int (xI u b1 3) :: st) u P) := zr_GI k41_62
theorem k41_65 : xcd 41 65 = oAl 1 66 := rfl
theorem r41_65 : zr 41 65 [v0, .ref a1, v2, v3] st u P = zr 41 66 [v0, .ref a1, v2, v3] (.ref a1 :: st) u P := zr_Al k41_65 rfl
theorem k41_66 : xcd 41 66 = oGI 5 0 69 := rfl
theorem r41_66 : zr 41 66 [v0, v1, v2, v3] (.ref b1 :: st) u P = (xIs u b1 5 ∧ zr 41 69 [v0, v1, v2, v3] (.int (xI u b1 0) :: st) u P) := zr_GI k41_66
theorem k41_69 : xcd 41 69 = oCalV 9 99 3 72 := rfl
theorem r41_69 : zr 41 69 [v0, v1, v2, v3] (.int y3 :: .int y2 :: .int y1 :: .ref b8 :: st) u P = ((xIs u b8 9 ∧ xcat st ≤ 8) ∧ zr 99 0 [.ref b8, .int y1, .int y2, .int y3, .null, .null, .null] [] u (fun r u2 => zr 41 72 [v0, v1, v2, v3] (r.toList ++ st) u2 P)) := zr_CV k41_69 rfl rfl rfl ⟨Nat.le_of_ble_eq_true rfl, Nat.succ_ne_zero _, by decide⟩ rfl
theorem k41_72 : xcd 41 72 = oAl 0 73 := rfl
theorem r41_72 : zr 41 72 [.ref a0, v1, v2, v3] st u P = zr 41 73 [.ref a0, v1, v2, v3] (.ref a0 :: st) u P := zr_Al k41_72 rfl
theorem k41_73 : xcd 41 73 = oGR 3 1 76 := rfl
theorem r41_73 : zr 41 73 [v0, v1, v2, v3] (.ref b1 :: st) u P = (xIs u b1 3 ∧ ∃ b, xR u b1 1 = some b ∧ zr 41 76 [v0, v1, v2, v3] (.ref b :: st) u P) := zr_GR k41_73
theorem k41_76 : xcd 41 76 = oIl 3 77 := rfl
theorem r41_76 : zr 41 76 [v0, v1, v2, .int x3] st u P = zr 41 77 [v0, v1, v2, .int x3] (.int x3 :: st) u P := zr_Il k41_76 rfl
theorem k41_77 : xcd 41 77 = oAl 1 78 := rfl
theorem r41_77 : zr 41 77 [v0, .ref a1, v2, v3] st u P = zr 41 78 [v0, .ref a1, v2, v3] (.ref a1 :: st) u P := zr_Al k41_77 rfl
theorem k41_78 : xcd 41 78 = oGI 5 3 81 := rfl
theorem r41_78 : zr 41 78 [v0, v1, v2, v3] (.ref b1 :: st) u P = (xIs u b1 5 ∧ zr 41 81 [v0, v1, v2, v3] (.int (xI u b1 3) :: st) u P) := zr_GI k41_78
theorem k41_81 : xcd 41 81 = oCalV 9 102 2 84 := rfl
theorem r41_81 : zr 41 81 [v0, v1, v2, v3] (.int y2 :: .int y1 :: .ref b8 :: st) u P = ((xIs u b8 9 ∧ xcat st ≤ 8) ∧ zr 102 0 [.ref b8, .int y1, .int y2, .null, .null, .null] [] u (fun r u2 => zr 41 84 [v0, v1, v2, v3] (r.toList ++ st) u2 P)) := zr_CV k41_81 rfl rfl rfl ⟨Nat.le_of_ble_eq_true rfl, Nat.succ_ne_zero _, by decide⟩ rfl
theorem k41_84 : xcd 41 84 = oAl 0 85 := rfl
theorem r41_84 : zr 41 84 [.ref a0, v1, v2, v3] st u P = zr 41 85 [.ref a0, v1, v2, v3] (.ref a0 :: st) u P := zr_Al k41_84 rfl
theorem k41_85 : xcd 41 85 = oGR 3 1 88 := rfl
theorem r41_85 : zr 41 85 [v0, v1, v2, v3] (.ref b1 :: st) u P = (xIs u b1 3 ∧ ∃ b, xR u b1 1 = some b ∧ zr 41 88 [v0, v1, v2, v3] (.ref b :: st) u P) := zr_GR k41_85
theorem k41_88 : xcd 41 88 = oIl 3 89 := rfl
theorem r41_88 : zr 41 88 [v0, v1, v2, .int x3] st u P = zr 41 89 [v0, v1, v2, .int x3] (.int x3 :: st) u P := zr_Il k41_88 rfl
theorem k41_89 : xcd 41 89 = oAl 1 90 := rfl
theorem r41_89 : zr 41 89 [v0, .ref a1, v2, v3] st u P = zr 41 90 [v0, .ref a1, v2, v3] (.ref a1 :: st) u P := zr_Al k41_89 rfl
theorem k41_90 : xcd 41 90 = oGI 5 3 93 := rfl
theorem r41_90 : zr 41 90 [v0, v1, v2, v3] (.ref b1 :: st) u P = (xIs u b1 5 ∧ zr 41 93 [v0, v1, v2, v3] (.int (xI u b1 3) :: st) u P) := zr_GI k41_90
theorem k41_93 : xcd 41 93 = oAl 1 94 := rfl
theorem r41_93 : zr 41 93 [v0, .ref a1, v2, v3] st u P = zr 41 94 [v0, .ref a1, v2, v3] (.ref a1 :: st) u P := zr_Al k41_93 rfl
theorem k41_94 : xcd 41 94 = oGI 5 0 97 := rfl
theorem r41_94 : zr 41 94 [v0, v1, v2, v3] (.ref b1 :: st) u P = (xIs u b1 5 ∧ zr 41 97 [v0, v1, v2, v3] (.int (xI u b1 0) :: st) u P) := zr_GI k41_94
theorem k41_97 : xcd 41 97 = oAl 1 98 := rfl
theorem r41_97 : zr 41 97 [v0, .ref a1, v2, v3] st u P = zr 41 98 [v0, .ref a1, v2, v3] (.ref a1 :: st) u P := zr_Al k41_97 rfl
theorem k41_98 : xcd 41 98 = oGI 5 5 101 := rfl
theorem r41_98 : zr 41 98 [v0, v1, v2, v3] (.ref b1 :: st) u P = (xIs u b1 5 ∧ zr 41 101 [v0, v1, v2, v3] (.int (xI u b1 5) :: st) u P) := zr_GI k41_98
theorem k41_101 : xcd 41 101 = oCalV 9 100 4 104 := rfl
theorem r41_101 : zr 41 101 [v0, v1, v2, v3] (.int y4 :: .int y3 :: .int y2 :: .int y1 :: .ref b8 :: st) u P = ((xIs u b8 9 ∧ xcat st ≤ 8) ∧ zr 100 0 [.ref b8, .int y1, .int y2, .int y3, .int y4, .null] [] u (fun r u2 => zr 41 104 [v0, v1, v2, v3] (r.toList ++ st) u2 P)) := zr_CV k41_101 rfl rfl rfl ⟨Nat.le_of_ble_eq_true rfl, Nat.succ_ne_zero _, by decide⟩ rfl
theorem k41_104 : xcd 41 104 = oCalV 5 55 4 107 := rfl
theorem r41_104 : zr 41 104 [v0, v1, v2, v3] (.int y4 :: .int y3 :: .int y2 :: .int y1 :: .ref b8 :: st) u P = ((xIs u b8 5 ∧ xcat st ≤ 8) ∧ zr 55 0 [.ref b8, .int y1, .int y2, .int y3, .int y4] [] u (fun r u2 => zr 41 107 [v0, v1, v2, v3] (r.toList ++ st) u2 P)) := zr_CV k41_104 rfl rfl rfl ⟨Nat.le_of_ble_eq_true rfl, Nat.succ_ne_zero _, by decide⟩ rfl
theorem k41_107 : xcd 41 107 = oInc 2 1 110 := rfl
theorem r41_107 : zr 41 107 [v0, .ref a1, .int x2, v3] st u P = zr 41 110 [v0, .ref a1, .int (x2 + 1), v3] st u P := zr_Inc k41_107 rfl rfl
theorem k41_110 : xcd 41 110 = oGoto 33 := rfl
theorem r41_110 : zr 41 110 [v0, v1, v2, v3] st u P = zr 41 33 [v0, v1, v2, v3] st u P := zr_Goto k41_110
theorem k41_113 : xcd 41 113 = oRv 0 := rfl
theorem r41_113 : zr 41 113 [v0, v1, v2, v3] [] u P = P none u := zr_Rv k41_113
theorem k43_0 : xcd 43 0 = oAl 0 1 := rfl
theorem r43_0 : zr 43 0 [.ref a0, v1, v2] st u P = zr 43 1 [.ref a0, v1, v2] (.ref a0 :: st) u P := zr_Al k43_0 rfl
theorem k43_1 : xcd 43 1 = oIl 1 2 := rfl
theorem r43_1 : zr 43 1 [v0, .int x1, v2] st u P = zr 43 2 [v0, .int x1, v2] (.int x1 :: st) u P := zr_Il k43_1 rfl
theorem k43_2 : xcd 43 2 = oPI 4 0 5 := rfl
theorem r43_2 : zr 43 2 [v0, v1, v2] (.int y1 :: .ref b1 :: st) u P = (xIs u b1 4 ∧ zr 43 5 [v0, v1, v2] st (xsI u b1 0 y1) P) := zr_PI k43_2
theorem k43_5 : xcd 43 5 = oAl 0 6 := rfl
theorem r43_5 : zr 43 5 [.ref a0, v1, v2] st u P = zr 43 6 [.ref a0, v1, v2] (.ref a0 :: st) u P := zr_Al k43_5 rfl
theorem k43_6 : xcd 43 6 = oIl 2 7 := rfl
theorem r43_6 : zr 43 6 [v0, v1, .int x2] st u P = zr 43 7 [v0, v1, .int x2] (.int x2 :: st) u P := zr_Il k43_6 rfl
theorem k43_7 : xcd 43 7 = oPI 4 1 10 := rfl
theorem r43_7 : zr 43 7 [v0, v1, v2] (.int y1 :: .ref b1 :: st) u P = (xIs u b1 4 ∧ zr 43 10 [v0, v1, v2] st (xsI u b1 1 y1) P) := zr_PI k43_7
theorem k43_10 : xcd 43 10 = oAl 0 11 := rfl
theorem r43_10 : zr 43 10 [.ref a0, v1, v2] st u P = zr 43 11 [.ref a0, v1, v2] (.ref a0 :: st) u P := zr_Al k43_10 rfl
theorem k43_11 : xcd 43 11 = oI 0 12 := rfl
theorem r43_11 : zr 43 11 [v0, v1, v2] st u P = zr 43 12 [v0, v1, v2] (.int 0 :: st) u P := zr_I k43_11
theorem k43_12 : xcd 43 12 = oPI 4 2 15 := rfl
theorem r43_12 : zr 43 12 [v0, v1, v2] (.int y1 :: .ref b1 :: st) u P = (xIs u b1 4 ∧ zr 43 15 [v0, v1, v2] st (xsI u b1 2 y1) P) := zr_PI k43_12
theorem k43_15 : xcd 43 15 = oAl 0 16 := rfl
theorem r43_15 : zr 43 15 [.ref a0, v1, v2] st u P = zr 43 16 [.ref a0, v1, v2] (.ref a0 :: st) u P := zr_Al k43_15 rfl
theorem k43_16 : xcd 43 16 = oGR 4 5 19 := rfl
theorem r43_16 : zr 43 16 [v0, v1, v2] (.ref b1 :: st) u P = (xIs u b1 4 ∧ ∃ b, xR u b1 5 = some b ∧ zr 43 19 [v0, v1, v2] (.ref b :: st) u P) := zr_GR k43_16
theorem k43_19 : xcd 43 19 = oI 0 20 := rfl
theorem r43_19 : zr 43 19 [v0, v1, v2] st u P = zr 43 20 [v0, v1, v2] (.int 0 :: st) u P := zr_I k43_19
theorem k43_20 : xcd 43 20 = oPI 2 0 23 := rfl
theorem r43_20 : zr 43 20 [v0, v1, v2] (.int y1 :: .ref b1 :: st) u P = (xIs u b1 2 ∧ zr 43 23 [v0, v1, v2] st (xsI u b1 0 y1) P) := zr_PI k43_20
theorem k43_23 : xcd 43 23 = oRv 0 := rfl
theorem r43_23 : zr 43 23 [v0, v1, v2] [] u P = P none u := zr_Rv k43_23
theorem k44_0 : xcd 44 0 = oAl 0 1 := rfl
theorem r44_0 : zr 44 0 [.ref a0, v1, v2] st u P = zr 44 1 [.ref a0, v1, v2] (.ref a0 :: st) u P := zr_Al k44_0 rfl
theorem k44_1 : xcd 44 1 = oGR 4 3 4 := rfl
theorem r44_1 : zr 44 1 [v0, v1, v2] (.ref b1 :: st) u P = (xIs u b1 4 ∧ ∃ b, xR u b1 3 = some b ∧ zr 44 4 [v0, v1, v2] (.ref b :: st) u P) := zr_GR k44_1
theorem k44_4 : xcd 44 4 = oAl 0 5 := rfl
theorem r44_4 : zr 44 4 [.ref a0, v1, v2] st u P = zr 44 5 [.ref a0, v1, v2] (.ref a0 :: st) u P := zr_Al k44_4 rfl
theorem k44_5 : xcd 44 5 = oGI 4 2 8 := rfl
theorem r44_5 : zr 44 5 [v0, v1, v2] (.ref b1 :: st) u P = (xIs u b1 4 ∧ zr 44 8 [v0, v1, v2] (.int (xI u b1 2) :: st) u P) := zr_GI k44_5
theorem k44_8 : xcd 44 8 = oIl 1 9 := rfl
theorem r44_8 : zr 44 8 [v0, .int x1, v2] st u P = zr 44 9 [v0, .int x1, v2] (.int x1 :: st) u P := zr_Il k44_8 rfl
theorem k44_9 : xcd 44 9 = oSt 13 (fun x => x) 10 := rfl
theorem r44_9 : zr 44 9 [v0, v1, v2] (.int y2 :: .int y1 :: .ref b1 :: st) u P = ((xIs u b1 13 ∧ xinb y1 (xN u b1)) ∧ zr 44 10 [v0, v1, v2] st (xsI u b1 (xix y1) y2) P) := zr_St k44_9
theorem k44_10 : xcd 44 10 = oAl 0 11 := rfl
theorem r44_10 : zr 44 10 [.ref a0, v1, v2] st u P = zr 44 11 [.ref a0, v1, v2] (.ref a0 :: st) u P := zr_Al k44_10 rfl
theorem k44_11 : xcd 44 11 = oGR 4 4 14 := rfl
theorem r44_11 : zr 44 11 [v0, v1, v2] (.ref b1 :: st) u P = (xIs u b1 4 ∧ ∃ b, xR u b1 4 = some b ∧ zr 44 14 [v0, v1, v2] (.ref b :: st) u P) := zr_GR k44_11
theorem k44_14 : xcd 44 14 = oAl 0 15 := rfl
theorem r44_14 : zr 44 14 [.ref a0, v1, v2] st u P = zr 44 15 [.ref a0, v1, v2] (.ref a0 :: st) u P := zr_Al k44_14 rfl
theorem k44_15 : xcd 44 15 = oGI 4 2 18 := rfl
theorem r44_15 : zr 44 15 [v0, v1, v2] (.ref b1 :: st) u P = (xIs u b1 4 ∧ zr 44 18 [v0, v1, v2] (.int (xI u b1 2) :: st) u P) := zr_GI k44_15
theorem k44_18 : xcd 44 18 = oIl 2 19 := rfl
theorem r44_18 : zr 44 18 [v0, v1, .int x2] st u P = zr 44 19 [v0, v1, .int x2] (.int x2 :: st) u P := zr_Il k44_18 rfl
theorem k44_19 : xcd 44 19 = oSt 15 (fun x => vp_nar .boolean x) 20 := rfl
theorem r44_19 : zr 44 19 [v0, v1, v2] (.int y2 :: .int y1 :: .ref b1 :: st) u P = ((xIs u b1 15 ∧ xinb y1 (xN u b1)) ∧ zr 44 20 [v0, v1, v2] st (xsI u b1 (xix y1) (vp_nar .boolean y2)) P) := zr_St k44_19
theorem k44_20 : xcd 44 20 = oAl 0 21 := rfl
theorem r44_20 : zr 44 20 [.ref a0, v1, v2] st u P = zr 44 21 [.ref a0, v1, v2] (.ref a0 :: st) u P := zr_Al k44_20 rfl
theorem k44_21 : xcd 44 21 = oDup 22 := rfl
theorem r44_21 : zr 44 21 [v0, v1, v2] (.ref b1 :: st) u P = zr 44 22 [v0, v1, v2] (.ref b1 :: .ref b1 :: st) u P := zr_DupA k44_21
theorem k44_22 : xcd 44 22 = oGI 4 2 25 := rfl
theorem r44_22 : zr 44 22 [v0, v1, v2] (.ref b1 :: st) u P = (xIs u b1 4 ∧ zr 44 25 [v0, v1, v2] (.int (xI u b1 2) :: st) u P) := zr_GI k44_22
theorem k44_25 : xcd 44 25 = oI 1 26 := rfl
theorem r44_25 : zr 44 25 [v0, v1, v2] st u P = zr 44 26 [v0, v1, v2] (.int 1 :: st) u P := zr_I k44_25
theorem k44_26 : xcd 44 26 = oB (fun x y => x + y) 27 := rfl
theorem r44_26 : zr 44 26 [v0, v1, v2] (.int y1 :: .int y2 :: st) u P = zr 44 27 [v0, v1, v2] (.int (y2 + y1) :: st) u P := zr_B k44_26
theorem k44_27 : xcd 44 27 = oPI 4 2 30 := rfl
theorem r44_27 : zr 44 27 [v0, v1, v2] (.int y1 :: .ref b1 :: st) u P = (xIs u b1 4 ∧ zr 44 30 [v0, v1, v2] st (xsI u b1 2 y1) P) := zr_PI k44_27
theorem k44_30 : xcd 44 30 = oRv 0 := rfl
theorem r44_30 : zr 44 30 [v0, v1, v2] [] u P = P none u := zr_Rv k44_30
theorem k45_0 : xcd 45 0 = oI 0 1 := rfl
theorem r45_0 : zr 45 0 [v0, v1, v2] st u P = zr 45 1 [v0, v1, v2] (.int 0 :: st) u P := zr_I k45_0
theorem k45_1 : xcd 45 1 = oIs 2 2 := rfl
theorem r45_1 : zr 45 1 [v0, .int x1, v2] (.int y1 :: st) u P = zr 45 2 [v0, .int x1, .int y1] st u P := zr_Is k45_1 ⟨Nat.le_of_ble_eq_true rfl, rfl⟩
theorem k45_2 : xcd 45 2 = oIl 2 3 := rfl
theorem r45_2 : zr 45 2 [v0, v1, .int x2] st u P = zr 45 3 [v0, v1, .int x2] (.int x2 :: st) u P := zr_Il k45_2 rfl
theorem k45_3 : xcd 45 3 = oAl 0 4 := rfl
theorem r45_3 : zr 45 3 [.ref a0, v1, v2] st u P = zr 45 4 [.ref a0, v1, v2] (.ref a0 :: st) u P := zr_Al k45_3 rfl
theorem k45_4 : xcd 45 4 = oGI 4 2 7 := rfl
theorem r45_4 : zr 45 4 [v0, v1, v2] (.ref b1 :: st) u P = (xIs u b1 4 ∧ zr 45 7 [v0, v1, v2] (.int (xI u b1 2) :: st) u P) := zr_GI k45_4
theorem k45_7 : xcd 45 7 = oCmp (fun x y => decide (y ≤ x)) 31 10 := rfl
theorem r45_7 : zr 45 7 [v0, v1, v2] (.int y1 :: .int y2 :: st) u P = (if y1 ≤ y2 then zr 45 31 [v0, v1, v2] st u P else zr 45 10 [v0, v1, v2] st u P) := zr_Cmp k45_7
theorem k45_10 : xcd 45 10 = oAl 0 11 := rfl
theorem r45_10 : zr 45 10 [.ref a0, v1, v2] st u P = zr 45 11 [.ref a0, v1, v2] (.ref a0 :: st) u P := zr_Al k45_10 rfl
theorem k45_11 : xcd 45 11 = oGR 4 6 14 := rfl
theorem r45_11 : zr 45 11 [v0, v1, v2] (.ref b1 :: st) u P = (xIs u b1 4 ∧ ∃ b, xR u b1 6 = some b ∧ zr 45 14 [v0, v1, v2] (.ref b :: st) u P) := zr_GR k45_11
theorem k45_14 : xcd 45 14 = oIl 2 15 := rfl
theorem r45_14 : zr 45 14 [v0, v1, .int x2] st u P = zr 45 15 [v0, v1, .int x2] (.int x2 :: st) u P := zr_Il k45_14 rfl
theorem k45_15 : xcd 45 15 = oAl 0 16 := rfl
theorem r45_15 : zr 45 15 [.ref a0, v1, v2] st u P = zr 45 16 [.ref a0, v1, v2] (.ref a0 :: st) u P := zr_Al k45_15 rfl
theorem k45_16 : xcd 45 16 = oGR 4 5 19 := rfl
theorem r45_16 : zr 45 16 [v0, v1, v2] (.ref b1 :: st) u P = (xIs u b1 4 ∧ ∃ b, xR u b1 5 = some b ∧ zr 45 19 [v0, v1, v2] (.ref b :: st) u P) := zr_GR k45_16
theorem k45_19 : xcd 45 19 = oIl 2 20 := rfl
theorem r45_19 : zr 45 19 [v0, v1, .int x2] st u P = zr 45 20 [v0, v1, .int x2] (.int x2 :: st) u P := zr_Il k45_19 rfl
theorem k45_20 : xcd 45 20 = oIl 1 21 := rfl
theorem r45_20 : zr 45 20 [v0, .int x1, v2] st u P = zr 45 21 [v0, .int x1, v2] (.int x1 :: st) u P := zr_Il k45_20 rfl
theorem k45_21 : xcd 45 21 = oCalV 2 19 2 24 := rfl
theorem r45_21 : zr 45 21 [v0, v1, v2] (.int y2 :: .int y1 :: .ref b8 :: st) u P = ((xIs u b8 2 ∧ xcat st ≤ 8) ∧ zr 19 0 [.ref b8, .int y1, .int y2, .null] [] u (fun r u2 => zr 45 24 [v0, v1, v2] (r.toList ++ st) u2 P)) := zr_CV k45_21 rfl rfl rfl ⟨Nat.le_of_ble_eq_true rfl, Nat.succ_ne_zero _, by decide⟩ rfl
theorem k45_24 : xcd 45 24 = oSt 13 (fun x => x) 25 := rfl
theorem r45_24 : zr 45 24 [v0, v1, v2] (.int y2 :: .int y1 :: .ref b1 :: st) u P = ((xIs u b1 13 ∧ xinb y1 (xN u b1)) ∧ zr 45 25 [v0, v1, v2] st (xsI u b1 (xix y1) y2) P) := zr_St k45_24
theorem k45_25 : xcd 45 25 = oInc 2 1 28 := rfl
theorem r45_25 : zr 45 25 [v0, .int x1, .int x2] st u P = zr 45 28 [v0, .int x1, .int (x2 + 1)] st u P := zr_Inc k45_25 rfl rfl
theorem k45_28 : xcd 45 28 = oGoto 2 := rfl
theorem r45_28 : zr 45 28 [v0, v1, v2] st u P = zr 45 2 [v0, v1, v2] st u P := zr_Goto k45_28
theorem k45_31 : xcd 45 31 = oRv 0 := rfl
theorem r45_31 : zr 45 31 [v0, v1, v2] [] u P = P none u := zr_Rv k45_31
theorem k46_0 : xcd 46 0 = oI 0 1 := rfl
theorem r46_0 : zr 46 0 [v0, v1, v2, v3, v4] st u P = zr 46 1 [v0, v1, v2, v3, v4] (.int 0 :: st) u P := zr_I k46_0
theorem k46_1 : xcd 46 1 = oIs 4 3 := rfl
theorem r46_1 : zr 46 1 [v0, v1, v2, .int x3, v4] (.int y1 :: st) u P = zr 46 3 [v0, v1, v2, .int x3, .int y1] st u P := zr_Is k46_1 ⟨Nat.le_of_ble_eq_true rfl, rfl⟩
theorem k46_3 : xcd 46 3 = oIl 4 5 := rfl
theorem r46_3 : zr 46 3 [v0, v1, v2, v3, .int x4] st u P = zr 46 5 [v0, v1, v2, v3, .int x4] (.int x4 :: st) u P := zr_Il k46_3 rfl
theorem k46_5 : xcd 46 5 = oAl 0 6 := rfl
theorem r46_5 : zr 46 5 [.ref a0, v1, v2, v3, v4] st u P = zr 46 6 [.ref a0, v1, v2, v3, v4] (.ref a0 :: st) u P := zr_Al k46_5 rfl
theorem k46_6 : xcd 46 6 = oGI 4 2 9 := rfl
theorem r46_6 : zr 46 6 [v0, v1, v2, v3, v4] (.ref b1 :: st) u P = (xIs u b1 4 ∧ zr 46 9 [v0, v1, v2, v3, v4] (.int (xI u b1 2) :: st) u P) := zr_GI k46_6
theorem k46_9 : xcd 46 9 = oCmp (fun x y => decide (y ≤ x)) 51 12 := rfl
theorem r46_9 : zr 46 9 [v0, v1, v2, v3, v4] (.int y1 :: .int y2 :: st) u P = (if y1 ≤ y2 then zr 46 51 [v0, v1, v2, v3, v4] st u P else zr 46 12 [v0, v1, v2, v3, v4] st u P) := zr_Cmp k46_9
theorem k46_12 : xcd 46 12 = oAl 0 13 := rfl
theorem r46_12 : zr 46 12 [.ref a0, v1, v2, v3, v4] st u P = zr 46 13 [.ref a0, v1, v2, v3, v4] (.ref a0 :: st) u P := zr_Al k46_12 rfl
theorem k46_13 : xcd 46 13 = oGR 4 3 16 := rfl
theorem r46_13 : zr 46 13 [v0, v1, v2, v3, v4] (.ref b1 :: st) u P = (xIs u b1 4 ∧ ∃ b, xR u b1 3 = some b ∧ zr 46 16 [v0, v1, v2, v3, v4] (.ref b :: st) u P) := zr_GR k46_13
theorem k46_16 : xcd 46 16 = oIl 4 18 := rfl
theorem r46_16 : zr 46 16 [v0, v1, v2, v3, .int x4] st u P = zr 46 18 [v0, v1, v2, v3, .int x4] (.int x4 :: st) u P := zr_Il k46_16 rfl
theorem k46_18 : xcd 46 18 = oLd 13 19 := rfl
theorem r46_18 : zr 46 18 [v0, v1, v2, v3, v4] (.int y1 :: .ref b1 :: st) u P = ((xIs u b1 13 ∧ xinb y1 (xN u b1)) ∧ zr 46 19 [v0, v1, v2, v3, v4] (.int (xI u b1 (xix y1)) :: st) u P) := zr_Ld k46_18
theorem k46_19 : xcd 46 19 = oIl 1 20 := rfl
theorem r46_19 : zr 46 19 [v0, .int x1, v2, v3, v4] st u P = zr 46 20 [v0, .int x1, v2, v3, v4] (.int x1 :: st) u P := zr_Il k46_19 rfl
theorem k46_20 : xcd 46 20 = oCmp (fun x y => decide (¬ x = y)) 45 23 := rfl
theorem r46_20 : zr 46 20 [v0, v1, v2, v3, v4] (.int y1 :: .int y2 :: st) u P = (if ¬ y2 = y1 then zr 46 45 [v0, v1, v2, v3, v4] st u P else zr 46 23 [v0, v1, v2, v3, v4] st u P) := zr_Cmp k46_20
theorem k46_23 : xcd 46 23 = oAl 0 24 := rfl
theorem r46_23 : zr 46 23 [.ref a0, v1, v2, v3, v4] st u P = zr 46 24 [.ref a0, v1, v2, v3, v4] (.ref a0 :: st) u P := zr_Al k46_23 rfl
theorem k46_24 : xcd 46 24 = oGR 4 5 27 := rfl
theorem r46_24 : zr 46 24 [v0, v1, v2, v3, v4] (.ref b1 :: st) u P = (xIs u b1 4 ∧ ∃ b, xR u b1 5 = some b ∧ zr 46 27 [v0, v1, v2, v3, v4] (.ref b :: st) u P) := zr_GR k46_24
theorem k46_27 : xcd 46 27 = oAl 0 28 := rfl
theorem r46_27 : zr 46 27 [.ref a0, v1, v2, v3, v4] st u P = zr 46 28 [.ref a0, v1, v2, v3, v4] (.ref a0 :: st) u P := zr_Al k46_27 rfl
theorem k46_28 : xcd 46 28 = oGR 4 6 31 := rfl
theorem r46_28 : zr 46 28 [v0, v1, v2, v3, v4] (.ref b1 :: st) u P = (xIs u b1 4 ∧ ∃ b, xR u b1 6 = some b ∧ zr 46 31 [v0, v1, v2, v3, v4] (.ref b :: st) u P) := zr_GR k46_28
theorem k46_31 : xcd 46 31 = oIl 4 33 := rfl
theorem r46_31 : zr 46 31 [v0, v1, v2, v3, .int x4] st u P = zr 46 33 [v0, v1, v2, v3, .int x4] (.int x4 :: st) u P := zr_Il k46_31 rfl
theorem k46_33 : xcd 46 33 = oLd 13 34 := rfl
theorem r46_33 : zr 46 33 [v0, v1, v2, v3, v4] (.int y1 :: .ref b1 :: st) u P = ((xIs u b1 13 ∧ xinb y1 (xN u b1)) ∧ zr 46 34 [v0, v1, v2, v3, v4] (.int (xI u b1 (xix y1)) :: st) u P) := zr_Ld k46_33
theorem k46_34 : xcd 46 34 = oIl 2 35 := rfl
theorem r46_34 : zr 46 34 [v0, v1, .int x2, v3, v4] st u P = zr 46 35 [v0, v1, .int x2, v3, v4] (.int x2 :: st) u P := zr_Il k46_34 rfl
theorem k46_35 : xcd 46 35 = oIl 3 36 := rfl
theorem r46_35 : zr 46 35 [v0, v1, v2, .int x3, v4] st u P = zr 46 36 [v0, v1, v2, .int x3, v4] (.int x3 :: st) u P := zr_Il k46_35 rfl
theorem k46_36 : xcd 46 36 = oCalV 2 26 3 39 := rfl
theorem r46_36 : zr 46 36 [v0, v1, v2, v3, v4] (.int y3 :: .int y2 :: .int y1 :: .ref b8 :: st) u P = ((xIs u b8 2 ∧ xcat st ≤ 8) ∧ zr 26 0 [.ref b8, .int y1, .int y2, .int y3, .null, .null, .null, .null] [] u (fun r u2 => zr 46 39 [v0, v1, v2, v3, v4] (r.toList ++ st) u2 P)) := zr_CV k46_36 rfl rfl rfl ⟨Nat.le_of_ble_eq_true rfl, Nat.succ_ne_zero _, by decide⟩ rfl
theorem k46_39 : xcd 46 39 = oIf (fun x => decide (x = 0)) 45 42 := rfl
theorem r46_39 : zr 46 39 [v0, v1, v2, v3, v4] (.int y1 :: st) u P = (if y1 = 0 then zr 46 45 [v0, v1, v2, v3, v4] st u P else zr 46 42 [v0, v1, v2, v3, v4] st u P) := zr_If k46_39
theorem k46_42 : xcd 46 42 = oIl 4 44 := rfl
theorem r46_42 : zr 46 42 [v0, v1, v2, v3, .int x4] st u P = zr 46 44 [v0, v1, v2, v3, .int x4] (.int x4 :: st) u P := zr_Il k46_42 rfl
theorem k46_44 : xcd 46 44 = oRi 0 := rfl
theorem r46_44 : zr 46 44 [v0, v1, v2, v3, v4] [.int y1] u P = P (some (.int y1)) u := zr_Ri k46_44
theorem k46_45 : xcd 46 45 = oInc 4 1 48 := rfl
theorem r46_45 : zr 46 45 [v0, v1, v2, .int x3, .int x4] st u P = zr 46 48 [v0, v1, v2, .int x3, .int (x4 + 1)] st u P := zr_Inc k46_45 rfl rfl
theorem k46_48 : xcd 46 48 = oGoto 3 := rfl
theorem r46_48 : zr 46 48 [v0, v1, v2, v3, v4] st u P = zr 46 3 [v0, v1, v2, v3, v4] st u P := zr_Goto k46_48
theorem k46_51 : xcd 46 51 = oI (-2) 53 := rfl
theorem r46_51 : zr 46 51 [v0, v1, v2, v3, v4] st u P = zr 46 53 [v0, v1, v2, v3, v4] (.int (-2) :: st) u P := zr_I k46_51
theorem k46_53 : xcd 46 53 = oRi 0 := rfl
theorem r46_53 : zr 46 53 [v0, v1, v2, v3, v4] [.int y1] u P = P (some (.int y1)) u := zr_Ri k46_53
theorem k47_0 : xcd 47 0 = oAl 0 1 := rfl
theorem r47_0 : zr 47 0 [.ref a0, v1, v2, v3, v4] st u P = zr 47 1 [.ref a0, v1, v2, v3, v4] (.ref a0 :: st) u P := zr_Al k47_0 rfl
theorem k47_1 : xcd 47 1 = oI 0 2 := rfl
theorem r47_1 : zr 47 1 [v0, v1, v2, v3, v4] st u P = zr 47 2 [v0, v1, v2, v3, v4] (.int 0 :: st) u P := zr_I k47_1
theorem k47_2 : xcd 47 2 = oPI 4 8 5 := rfl
theorem r47_2 : zr 47 2 [v0, v1, v2, v3, v4] (.int y1 :: .ref b1 :: st) u P = (xIs u b1 4 ∧ zr 47 5 [v0, v1, v2, v3, v4] st (xsI u b1 8 y1) P) := zr_PI k47_2
theorem k47_5 : xcd 47 5 = oI 0 6 := rfl
theorem r47_5 : zr 47 5 [v0, v1, v2, v3, v4] st u P = zr 47 6 [v0, v1, v2, v3, v4] (.int 0 :: st) u P := zr_I k47_5
theorem k47_6 : xcd 47 6 = oIs 3 7 := rfl
theorem r47_6 : zr 47 6 [v0, v1, .int x2, v3, v4] (.int y1 :: st) u P = zr 47 7 [v0, v1, .int x2, .int y1, v4] st u P := zr_Is k47_6 ⟨Nat.le_of_ble_eq_true rfl, rfl⟩
theorem k47_7 : xcd 47 7 = oIl 3 8 := rfl
theorem r47_7 : zr 47 7 [v0, v1, v2, .int x3, v4] st u P = zr 47 8 [v0, v1, v2, .int x3, v4] (.int x3 :: st) u P := zr_Il k47_7 rfl
theorem k47_8 : xcd 47 8 = oAl 0 9 := rfl
theorem r47_8 : zr 47 8 [.ref a0, v1, v2, v3, v4] st u P = zr 47 9 [.ref a0, v1, v2, v3, v4] (.ref a0 :: st) u P := zr_Al k47_8 rfl
theorem k47_9 : xcd 47 9 = oGI 4 1 12 := rfl
theorem r47_9 : zr 47 9 [v0, v1, v2, v3, v4] (.ref b1 :: st) u P = (xIs u b1 4 ∧ zr 47 12 [v0, v1, v2, v3, v4] (.int (xI u b1 1) :: st) u P) := zr_GI k47_9
theorem k47_12 : xcd 47 12 = oCmp (fun x y => decide (y ≤ x)) 67 15 := rfl
theorem r47_12 : zr 47 12 [v0, v1, v2, v3, v4] (.int y1 :: .int y2 :: st) u P = (if y1 ≤ y2 then zr 47 67 [v0, v1, v2, v3, v4] st u P else zr 47 15 [v0, v1, v2, v3, v4] st u P) := zr_Cmp k47_12
theorem k47_15 : xcd 47 15 = oAl 0 16 := rfl
theorem r47_15 : zr 47 15 [.ref a0, v1, v2, v3, v4] st u P = zr 47 16 [.ref a0, v1, v2, v3, v4] (.ref a0 :: st) u P := zr_Al k47_15 rfl
theorem k47_16 : xcd 47 16 = oIl 3 17 := rfl
theorem r47_16 : zr 47 16 [v0, v1, v2, .int x3, v4] st u P = zr 47 17 [v0, v1, v2, .int x3, v4] (.int x3 :: st) u P := zr_Il k47_16 rfl
theorem k47_17 : xcd 47 17 = oIl 1 18 := rfl
theorem r47_17 : zr 47 17 [v0, .int x1, v2, v3, v4] st u P = zr 47 18 [v0, .int x1, v2, v3, v4] (.int x1 :: st) u P := zr_Il k47_17 rfl
theorem k47_18 : xcd 47 18 = oIl 2 19 := rfl
theorem r47_18 : zr 47 18 [v0, v1, .int x2, v3, v4] st u P = zr 47 19 [v0, v1, .int x2, v3, v4] (.int x2 :: st) u P := zr_Il k47_18 rfl
theorem k47_19 : xcd 47 19 = oCalV 4 46 3 22 := rfl
theorem r47_19 : zr 47 19 [v0, v1, v2, v3, v4] (.int y3 :: .int y2 :: .int y1 :: .ref b8 :: st) u P = ((xIs u b8 4 ∧ xcat st ≤ 8) ∧ zr 46 0 [.ref b8, .int y1, .int y2, .int y3, .null] [] u (fun r u2 => zr 47 22 [v0, v1, v2, v3, v4] (r.toList ++ st) u2 P)) := zr_CV k47_19 rfl rfl rfl ⟨Nat.le_of_ble_eq_true rfl, Nat.succ_ne_zero _, by decide⟩ rfl
theorem k47_22 : xcd 47 22 = oIs 4 24 := rfl
theorem r47_22 : zr 47 22 [v0, v1, v2, .int x3, v4] (.int y1 :: st) u P = zr 47 24 [v0, v1, v2, .int x3, .int y1] st u P := zr_Is k47_22 ⟨Nat.le_of_ble_eq_true rfl, rfl⟩
theorem k47_24 : xcd 47 24 = oIl 4 26 := rfl
theorem r47_24 : zr 47 24 [v0, v1, v2, v3, .int x4] st u P = zr 47 26 [v0, v1, v2, v3, .int x4] (.int x4 :: st) u P := zr_Il k47_24 rfl
theorem k47_26 : xcd 47 26 = oIf (fun x => decide (x < 0)) 61 29 := rfl
theorem r47_26 : zr 47 26 [v0, v1, v2, v3, v4] (.int y1 :: st) u P = (if y1 < 0 then zr 47 61 [v0, v1, v2, v3, v4] st u P else zr 47 29 [v0, v1, v2, v3, v4] st u P) := zr_If k47_26
theorem k47_29 : xcd 47 29 = oAl 0 30 := rfl
theorem r47_29 : zr 47 29 [.ref a0, v1, v2, v3, v4] st u P = zr 47 30 [.ref a0, v1, v2, v3, v4] (.ref a0 :: st) u P := zr_Al k47_29 rfl
theorem k47_30 : xcd 47 30 = oGR 4 7 33 := rfl
theorem r47_30 : zr 47 30 [v0, v1, v2, v3, v4] (.ref b1 :: st) u P = (xIs u b1 4 ∧ ∃ b, xR u b1 7 = some b ∧ zr 47 33 [v0, v1, v2, v3, v4] (.ref b :: st) u P) := zr_GR k47_30
theorem k47_33 : xcd 47 33 = oAl 0 34 := rfl
theorem r47_33 : zr 47 33 [.ref a0, v1, v2, v3, v4] st u P = zr 47 34 [.ref a0, v1, v2, v3, v4] (.ref a0 :: st) u P := zr_Al k47_33 rfl
theorem k47_34 : xcd 47 34 = oGI 4 8 37 := rfl
theorem r47_34 : zr 47 34 [v0, v1, v2, v3, v4] (.ref b1 :: st) u P = (xIs u b1 4 ∧ zr 47 37 [v0, v1, v2, v3, v4] (.int (xI u b1 8) :: st) u P) := zr_GI k47_34
theorem k47_37 : xcd 47 37 = oIl 4 39 := rfl
theorem r47_37 : zr 47 37 [v0, v1, v2, v3, .int x4] st u P = zr 47 39 [v0, v1, v2, v3, .int x4] (.int x4 :: st) u P := zr_Il k47_37 rfl
theorem k47_39 : xcd 47 39 = oSt 13 (fun x => x) 40 := rfl
theorem r47_39 : zr 47 39 [v0, v1, v2, v3, v4] (.int y2 :: .int y1 :: .ref b1 :: st) u P = ((xIs u b1 13 ∧ xinb y1 (xN u b1)) ∧ zr 47 40 [v0, v1, v2, v3, v4] st (xsI u b1 (xix y1) y2) P) := zr_St k47_39
theorem k47_40 : xcd 47 40 = oAl 0 41 := rfl
theorem r47_40 : zr 47 40 [.ref a0, v1, v2, v3, v4] st u P = zr 47 41 [.ref a0, v1, v2, v3, v4] (.ref a0 :: st) u P := zr_Al k47_40 rfl
theorem k47_41 : xcd 47 41 = oDup 42 := rfl
theorem r47_41 : zr 47 41 [v0, v1, v2, v3, v4] (.ref b1 :: st) u P = zr 47 42 [v0, v1, v2, v3, v4] (.ref b1 :: .ref b1 :: st) u P := zr_DupA k47_41
theorem k47_42 : xcd 47 42 = oGI 4 8 45 := rfl
theorem r47_42 : zr 47 42 [v0, v1, v2, v3, v4] (.ref b1 :: st) u P = (xIs u b1 4 ∧ zr 47 45 [v0, v1, v2, v3, v4] (.int (xI u b1 8) :: st) u P) := zr_GI k47_42
theorem k47_45 : xcd 47 45 = oI 1 46 := rfl
theorem r47_45 : zr 47 45 [v0, v1, v2, v3, v4] st u P = zr 47 46 [v0, v1, v2, v3, v4] (.int 1 :: st) u P := zr_I k47_45
theorem k47_46 : xcd 47 46 = oB (fun x y => x + y) 47 := rfl
theorem r47_46 : zr 47 46 [v0, v1, v2, v3, v4] (.int y1 :: .int y2 :: st) u P = zr 47 47 [v0, v1, v2, v3, v4] (.int (y2 + y1) :: st) u P := zr_B k47_46
theorem k47_47 : xcd 47 47 = oPI 4 8 50 := rfl
theorem r47_47 : zr 47 47 [v0, v1, v2, v3, v4] (.int y1 :: .ref b1 :: st) u P = (xIs u b1 4 ∧ zr 47 50 [v0, v1, v2, v3, v4] st (xsI u b1 8 y1) P) := zr_PI k47_47
theorem k47_50 : xcd 47 50 = oAl 0 51 := rfl
theorem r47_50 : zr 47 50 [.ref a0, v1, v2, v3, v4] st u P = zr 47 51 [.ref a0, v1, v2, v3, v4] (.ref a0 :: st) u P := zr_Al k47_50 rfl
theorem k47_51 : xcd 47 51 = oGR 4 4 54 := rfl
theorem r47_51 : zr 47 51 [v0, v1, v2, v3, v4] (.ref b1 :: st) u P = (xIs u b1 4 ∧ ∃ b, xR u b1 4 = some b ∧ zr 47 54 [v0, v1, v2, v3, v4] (.ref b :: st) u P) := zr_GR k47_51
theorem k47_54 : xcd 47 54 = oIl 4 56 := rfl
theorem r47_54 : zr 47 54 [v0, v1, v2, v3, .int x4] st u P = zr 47 56 [v0, v1, v2, v3, .int x4] (.int x4 :: st) u P := zr_Il k47_54 rfl
theorem k47_56 : xcd 47 56 = oLd 15 57 := rfl
theorem r47_56 : zr 47 56 [v0, v1, v2, v3, v4] (.int y1 :: .ref b1 :: st) u P = ((xIs u b1 15 ∧ xinb y1 (xN u b1)) ∧ zr 47 57 [v0, v1, v2, v3, v4] (.int (xI u b1 (xix y1)) :: st) u P) := zr_Ld k47_56
theorem k47_57 : xcd 47 57 = oIf (fun x => decide (x = 0)) 61 60 := rfl
theorem r47_57 : zr 47 57 [v0, v1, v2, v3, v4] (.int y1 :: st) u P = (if y1 = 0 then zr 47 61 [v0, v1, v2, v3, v4] st u P else zr 47 60 [v0, v1, v2, v3, v4] st u P) := zr_If k47_57
theorem k47_60 : xcd 47 60 = oRv 0 := rfl
theorem r47_60 : zr 47 60 [v0, v1, v2, v3, v4] [] u P = P none u := zr_Rv k47_60
theorem k47_61 : xcd 47 61 = oInc 3 1 64 := rfl
theorem r47_61 : zr 47 61 [v0, v1, .int x2, .int x3, v4] st u P = zr 47 64 [v0, v1, .int x2, .int (x3 + 1), v4] st u P := zr_Inc k47_61 rfl rfl
theorem k47_64 : xcd 47 64 = oGoto 7 := rfl
theorem r47_64 : zr 47 64 [v0, v1, v2, v3, v4] st u P = zr 47 7 [v0, v1, v2, v3, v4] st u P := zr_Goto k47_64
theorem k47_67 : xcd 47 67 = oRv 0 := rfl
theorem r47_67 : zr 47 67 [v0, v1, v2, v3, v4] [] u P = P none u := zr_Rv k47_67
end
