/-! rows of X11_owed, X11_remembers, X11_sale, X11_refund, X11_canMove, X11_move, X11_turn, X11_undo, X11_isTaxed, X11_idle, X11_unitsLeft, X11_size, X11_trouble -/
section
variable {u : xMem} {P : Option Value → xMem → Prop} {st : List Value} {v0 v1 v2 v3 v4 v5 v6 v7 v8 v9 v10 v11 v12 v13 v14 v15 : Value} {x0 x1 x2 x3 x4 x5 x6 x7 x8 x9 x10 x11 x12 x13 x14 x15 : Int32} {a0 a1 a2 a3 a4 a5 a6 a7 a8 a9 a10 a11 a12 a13 a14 a15 : Nat} {j0 j1 j2 j3 j4 j5 j6 j7 j8 j9 j10 j11 j12 j13 j14 j15 : Int64} {y1 y2 y3 y4 y5 y6 y7 y8 : Int32} {b1 b2 b3 b4 b5 b6 b7 b8 : Nat} {w1 w2 w3 w4 : Int64}
theorem k288_0 : xcd 288 0 = oAl 0 1 := rfl
theorem r288_0 : zr 288 0 [.ref a0, v1] st u P = zr 288 1 [.ref a0, v1] (.ref a0 :: st) u P := zr_Al k288_0 rfl
theorem k288_1 : xcd 288 1 = oI 0 2 := rfl
theorem r288_1 : zr 288 1 [v0, v1] st u P = zr 288 2 [v0, v1] (.int 0 :: st) u P := zr_I k288_1
theorem k288_2 : xcd 288 2 = oPI 11 0 5 := rfl
theorem r288_2 : zr 288 2 [v0, v1] (.int y1 :: .ref b1 :: st) u P = (xIs u b1 11 ∧ zr 288 5 [v0, v1] st (xsI u b1 0 y1) P) := zr_PI k288_2
theorem k288_5 : xcd 288 5 = oAl 0 6 := rfl
theorem r288_5 : zr 288 5 [.ref a0, v1] st u P = zr 288 6 [.ref a0, v1] (.ref a0 :: st) u P := zr_Al k288_5 rfl
theorem k288_6 : xcd 288 6 = oIl 1 7 := rfl
theorem r288_6 : zr 288 6 [v0, .int x1] st u P = zr 288 7 [v0, .int x1] (.int x1 :: st) u P := zr_Il k288_6 rfl
theorem k288_7 : xcd 288 7 = oCalV 11 261 1 10 := rfl
theorem r288_7 : zr 288 7 [v0, v1] (.int y1 :: .ref b8 :: st) u P = ((xIs u b8 11 ∧ xcat st ≤ 8) ∧ zr 261 0 [.ref b8, .int y1] [] u (fun r u2 => zr 288 10 [v0, v1] (r.toList ++ st) u2 P)) := zr_CV k288_7 rfl rfl rfl ⟨Nat.le_of_ble_eq_true rfl, Nat.succ_ne_zero _, by decide⟩ rfl
theorem k288_10 : xcd 288 10 = oIf (fun x => decide (x = 0)) 31 13 := rfl
theorem r288_10 : zr 288 10 [v0, v1] (.int y1 :: st) u P = (if y1 = 0 then zr 288 31 [v0, v1] st u P else zr 288 13 [v0, v1] st u P) := zr_If k288_10
theorem k288_13 : xcd 288 13 = oAl 0 14 := rfl
theorem r288_13 : zr 288 13 [.ref a0, v1] st u P = zr 288 14 [.ref a0, v1] (.ref a0 :: st) u P := zr_Al k288_13 rfl
theorem k288_14 : xcd 288 14 = oAl 0 15 := rfl
theorem r288_14 : zr 288 14 [.ref a0, v1] st u P = zr 288 15 [.ref a0, v1] (.ref a0 :: st) u P := zr_Al k288_14 rfl
theorem k288_15 : xcd 288 15 = oIl 1 16 := rfl
theorem r288_15 : zr 288 15 [v0, .int x1] st u P = zr 288 16 [v0, .int x1] (.int x1 :: st) u P := zr_Il k288_15 rfl
theorem k288_16 : xcd 288 16 = oCalV 11 286 1 19 := rfl
theorem r288_16 : zr 288 16 [v0, v1] (.int y1 :: .ref b8 :: st) u P = ((xIs u b8 11 ∧ xcat st ≤ 8) ∧ zr 286 0 [.ref b8, .int y1] [] u (fun r u2 => zr 288 19 [v0, v1] (r.toList ++ st) u2 P)) := zr_CV k288_16 rfl rfl rfl ⟨Nat.le_of_ble_eq_true rfl, Nat.succ_ne_zero _, by decide⟩ rfl
theorem k288_19 : xcd 288 19 = oAl 0 20 := rfl
theorem r288_19 : zr 288 19 [.ref a0, v1] st u P = zr 288 20 [.ref a0, v1] (.ref a0 :: st) u P := zr_Al k288_19 rfl
theorem k288_20 : xcd 288 20 = oIl 1 21 := rfl
theorem r288_20 : zr 288 20 [v0, .int x1] st u P = zr 288 21 [v0, .int x1] (.int x1 :: st) u P := zr_Il k288_20 rfl
theorem k288_21 : xcd 288 21 = oCalV 11 266 1 24 := rfl
theorem r288_21 : zr 288 21 [v0, v1] (.int y1 :: .ref b8 :: st) u P = ((xIs u b8 11 ∧ xcat st ≤ 8) ∧ zr 266 0 [.ref b8, .int y1, .null, .null] [] u (fun r u2 => zr 288 24 [v0, v1] (r.toList ++ st) u2 P)) := zr_CV k288_21 rfl rfl rfl ⟨Nat.le_of_ble_eq_true rfl, Nat.succ_ne_zero _, by decide⟩ rfl
theorem k288_24 : xcd 288 24 = oB (fun x y => x - y) 25 := rfl
theorem r288_24 : zr 288 24 [v0, v1] (.int y1 :: .int y2 :: st) u P = zr 288 25 [v0, v1] (.int (y2 - y1) :: st) u P := zr_B k288_24
theorem k288_25 : xcd 288 25 = oCalV 11 174 1 28 := rfl
theorem r288_25 : zr 288 25 [v0, v1] (.int y1 :: .ref b8 :: st) u P = ((xIs u b8 11 ∧ xcat st ≤ 8) ∧ zr 174 0 [.ref b8, .int y1] [] u (fun r u2 => zr 288 28 [v0, v1] (r.toList ++ st) u2 P)) := zr_CV k288_25 rfl rfl rfl ⟨Nat.le_of_ble_eq_true rfl, Nat.succ_ne_zero _, by decide⟩ rfl
theorem k288_28 : xcd 288 28 = oGoto 36 := rfl
theorem r288_28 : zr 288 28 [v0, v1] st u P = zr 288 36 [v0, v1] st u P := zr_Goto k288_28
theorem k288_31 : xcd 288 31 = oAl 0 32 := rfl
theorem r288_31 : zr 288 31 [.ref a0, v1] st u P = zr 288 32 [.ref a0, v1] (.ref a0 :: st) u P := zr_Al k288_31 rfl
theorem k288_32 : xcd 288 32 = oI 1 33 := rfl
theorem r288_32 : zr 288 32 [v0, v1] st u P = zr 288 33 [v0, v1] (.int 1 :: st) u P := zr_I k288_32
theorem k288_33 : xcd 288 33 = oCalV 11 173 1 36 := rfl
theorem r288_33 : zr 288 33 [v0, v1] (.int y1 :: .ref b8 :: st) u P = ((xIs u b8 11 ∧ xcat st ≤ 8) ∧ zr 173 0 [.ref b8, .int y1] [] u (fun r u2 => zr 288 36 [v0, v1] (r.toList ++ st) u2 P)) := zr_CV k288_33 rfl rfl rfl ⟨Nat.le_of_ble_eq_true rfl, Nat.succ_ne_zero _, by decide⟩ rfl
theorem k288_36 : xcd 288 36 = oRi 0 := rfl
theorem r288_36 : zr 288 36 [v0, v1] [.int y1] u P = P (some (.int y1)) u := zr_Ri k288_36
theorem k289_0 : xcd 289 0 = oAl 0 1 := rfl
theorem r289_0 : zr 289 0 [.ref a0, v1, v2, v3, v4] st u P = zr 289 1 [.ref a0, v1, v2, v3, v4] (.ref a0 :: st) u P := zr_Al k289_0 rfl
theorem k289_1 : xcd 289 1 = oGI 11 31 4 := rfl
theorem r289_1 : zr 289 1 [v0, v1, v2, v3, v4] (.ref b1 :: st) u P = (xIs u b1 11 ∧ zr 289 4 [v0, v1, v2, v3, v4] (.int (xI u b1 31) :: st) u P) := zr_GI k289_1
theorem k289_4 : xcd 289 4 = oI 8 6 := rfl
theorem r289_4 : zr 289 4 [v0, v1, v2, v3, v4] st u P = zr 289 6 [v0, v1, v2, v3, v4] (.int 8 :: st) u P := zr_I k289_4
theorem k289_6 : xcd 289 6 = oCmp (fun x y => decide (¬ x = y)) 83 9 := rfl
theorem r289_6 : zr 289 6 [v0, v1, v2, v3, v4] (.int y1 :: .int y2 :: st) u P = (if ¬ y2 = y1 then zr 289 83 [v0, v1, v2, v3, v4] st u P else zr 289 9 [v0, v1, v2, v3, v4] st u P) := zr_Cmp k289_6
theorem k289_9 : xcd 289 9 = oI 1 10 := rfl
theorem r289_9 : zr 289 9 [v0, v1, v2, v3, v4] st u P = zr 289 10 [v0, v1, v2, v3, v4] (.int 1 :: st) u P := zr_I k289_9
theorem k289_10 : xcd 289 10 = oIs 4 12 := rfl
theorem r289_10 : zr 289 10 [v0, v1, v2, .int x3, v4] (.int y1 :: st) u P = zr 289 12 [v0, v1, v2, .int x3, .int y1] st u P := zr_Is k289_10 ⟨Nat.le_of_ble_eq_true rfl, rfl⟩
theorem k289_12 : xcd 289 12 = oIl 4 14 := rfl
theorem r289_12 : zr 289 12 [v0, v1, v2, v3, .int x4] st u P = zr 289 14 [v0, v1, v2, v3, .int x4] (.int x4 :: st) u P := zr_Il k289_12 rfl
theorem k289_14 : xcd 289 14 = oI 8 16 := rfl
theorem r289_14 : zr 289 14 [v0, v1, v2, v3, v4] st u P = zr 289 16 [v0, v1, v2, v3, v4] (.int 8 :: st) u P := zr_I k289_14
theorem k289_16 : xcd 289 16 = oCmp (fun x y => decide (y ≤ x)) 73 19 := rfl
theorem r289_16 : zr 289 16 [v0, v1, v2, v3, v4] (.int y1 :: .int y2 :: st) u P = (if y1 ≤ y2 then zr 289 73 [v0, v1, v2, v3, v4] st u P else zr 289 19 [v0, v1, v2, v3, v4] st u P) := zr_Cmp k289_16
theorem k289_19 : xcd 289 19 = oAl 0 20 := rfl
theorem r289_19 : zr 289 19 [.ref a0, v1, v2, v3, v4] st u P = zr 289 20 [.ref a0, v1, v2, v3, v4] (.ref a0 :: st) u P := zr_Al k289_19 rfl
theorem k289_20 : xcd 289 20 = oGR 11 28 23 := rfl
theorem r289_20 : zr 289 20 [v0, v1, v2, v3, v4] (.ref b1 :: st) u P = (xIs u b1 11 ∧ ∃ b, xR u b1 28 = some b ∧ zr 289 23 [v0, v1, v2, v3, v4] (.ref b :: st) u P) := zr_GR k289_20
theorem k289_23 : xcd 289 23 = oIl 4 25 := rfl
theorem r289_23 : zr 289 23 [v0, v1, v2, v3, .int x4] st u P = zr 289 25 [v0, v1, v2, v3, .int x4] (.int x4 :: st) u P := zr_Il k289_23 rfl
theorem k289_25 : xcd 289 25 = oI 1 26 := rfl
theorem r289_25 : zr 289 25 [v0, v1, v2, v3, v4] st u P = zr 289 26 [v0, v1, v2, v3, v4] (.int 1 :: st) u P := zr_I k289_25
theorem k289_26 : xcd 289 26 = oB (fun x y => x - y) 27 := rfl
theorem r289_26 : zr 289 26 [v0, v1, v2, v3, v4] (.int y1 :: .int y2 :: st) u P = zr 289 27 [v0, v1, v2, v3, v4] (.int (y2 - y1) :: st) u P := zr_B k289_26
theorem k289_27 : xcd 289 27 = oAl 0 28 := rfl
theorem r289_27 : zr 289 27 [.ref a0, v1, v2, v3, v4] st u P = zr 289 28 [.ref a0, v1, v2, v3, v4] (.ref a0 :: st) u P := zr_Al k289_27 rfl
theorem k289_28 : xcd 289 28 = oGR 11 28 31 := rfl
theorem r289_28 : zr 289 28 [v0, v1, v2, v3, v4] (.ref b1 :: st) u P = (xIs u b1 11 ∧ ∃ b, xR u b1 28 = some b ∧ zr 289 31 [v0, v1, v2, v3, v4] (.ref b :: st) u P) := zr_GR k289_28
theorem k289_31 : xcd 289 31 = oIl 4 33 := rfl
theorem r289_31 : zr 289 31 [v0, v1, v2, v3, .int x4] st u P = zr 289 33 [v0, v1, v2, v3, .int x4] (.int x4 :: st) u P := zr_Il k289_31 rfl
theorem k289_33 : xcd 289 33 = oLd 13 34 := rfl
theorem r289_33 : zr 289 33 [v0, v1, v2, v3, v4] (.int y1 :: .ref b1 :: st) u P = ((xIs u b1 13 ∧ xinb y1 (xN u b1)) ∧ zr 289 34 [v0, v1, v2, v3, v4] (.int (xI u b1 (xix y1)) :: st) u P) := zr_Ld k289_33
theorem k289_34 : xcd 289 34 = oSt 13 (fun x => x) 35 := rfl
theorem r289_34 : zr 289 34 [v0, v1, v2, v3, v4] (.int y2 :: .int y1 :: .ref b1 :: st) u P = ((xIs u b1 13 ∧ xinb y1 (xN u b1)) ∧ zr 289 35 [v0, v1, v2, v3, v4] st (xsI u b1 (xix y1) y2) P) := zr_St k289_34
theorem k289_35 : xcd 289 35 = oAl 0 36 := rfl
theorem r289_35 : zr 289 35 [.ref a0, v1, v2, v3, v4] st u P = zr 289 36 [.ref a0, v1, v2, v3, v4] (.ref a0 :: st) u P := zr_Al k289_35 rfl
theorem k289_36 : xcd 289 36 = oGR 11 29 39 := rfl
theorem r289_36 : zr 289 36 [v0, v1, v2, v3, v4] (.ref b1 :: st) u P = (xIs u b1 11 ∧ ∃ b, xR u b1 29 = some b ∧ zr 289 39 [v0, v1, v2, v3, v4] (.ref b :: st) u P) := zr_GR k289_36
theorem k289_39 : xcd 289 39 = oIl 4 41 := rfl
theorem r289_39 : zr 289 39 [v0, v1, v2, v3, .int x4] st u P = zr 289 41 [v0, v1, v2, v3, .int x4] (.int x4 :: st) u P := zr_Il k289_39 rfl
theorem k289_41 : xcd 289 41 = oI 1 42 := rfl
theorem r289_41 : zr 289 41 [v0, v1, v2, v3, v4] st u P = zr 289 42 [v0, v1, v2, v3, v4] (.int 1 :: st) u P := zr_I k289_41
theorem k289_42 : xcd 289 42 = oB (fun x y => x - y) 43 := rfl
theorem r289_42 : zr 289 42 [v0, v1, v2, v3, v4] (.int y1 :: .int y2 :: st) u P = zr 289 43 [v0, v1, v2, v3, v4] (.int (y2 - y1) :: st) u P := zr_B k289_42
theorem k289_43 : xcd 289 43 = oAl 0 44 := rfl
theorem r289_43 : zr 289 43 [.ref a0, v1, v2, v3, v4] st u P = zr 289 44 [.ref a0, v1, v2, v3, v4] (.ref a0 :: st) u P := zr_Al k289_43 rfl
theorem k289_44 : xcd 289 44 = oGR 11 29 47 := rfl
theorem r289_44 : zr 289 44 [v0, v1, v2, v3, v4] (.ref b1 :: st) u P = (xIs u b1 11 ∧ ∃ b, xR u b1 29 = some b ∧ zr 289 47 [v0, v1, v2, v3, v4] (.ref b :: st) u P) := zr_GR k289_44
theorem k289_47 : xcd 289 47 = oIl 4 49 := rfl
theorem r289_47 : zr 289 47 [v0, v1, v2, v3, .int x4] st u P = zr 289 49 [v0, v1, v2, v3, .int x4] (.int x4 :: st) u P := zr_Il k289_47 rfl
theorem k289_49 : xcd 289 49 = oLd 13 50 := rfl
theorem r289_49 : zr 289 49 [v0, v1, v2, v3, v4] (.int y1 :: .ref b1 :: st) u P = ((xIs u b1 13 ∧ xinb y1 (xN u b1)) ∧ zr 289 50 [v0, v1, v2, v3, v4] (.int (xI u b1 (xix y1)) :: st) u P) := zr_Ld k289_49
theorem k289_50 : xcd 289 50 = oSt 13 (fun x => x) 51 := rfl
theorem r289_50 : zr 289 50 [v0, v1, v2, v3, v4] (.int y2 :: .int y1 :: .ref b1 :: st) u P = ((xIs u b1 13 ∧ xinb y1 (xN u b1)) ∧ zr 289 51 [v0, v1, v2, v3, v4] st (xsI u b1 (xix y1) y2) P) := zr_St k289_50
theorem k289_51 : xcd 289 51 = oAl 0 52 := rfl
theorem r289_51 : zr 289 51 [.ref a0, v1, v2, v3, v4] st u P = zr 289 52 [.ref a0, v1, v2, v3, v4] (.ref a0 :: st) u P := zr_Al k289_51 rfl
theorem k289_52 : xcd 289 52 = oGR 11 30 55 := rfl
theorem r289_52 : zr 289 52 [v0, v1, v2, v3, v4] (.ref b1 :: st) u P = (xIs u b1 11 ∧ ∃ b, xR u b1 30 = some b ∧ zr 289 55 [v0, v1, v2, v3, v4] (.ref b :: st) u P) := zr_GR k289_52
theorem k289_55 : xcd 289 55 = oIl 4 57 := rfl
theorem r289_55 : zr 289 55 [v0, v1, v2, v3, .int x4] st u P = zr 289 57 [v0, v1, v2, v3, .int x4] (.int x4 :: st) u P := zr_Il k289_55 rfl
theorem k289_57 : xcd 289 57 = oI 1 58 := rfl
theorem r289_57 : zr 289 57 [v0, v1, v2, v3, v4] st u P = zr 289 58 [v0, v1, v2, v3, v4] (.int 1 :: st) u P := zr_I k289_57
theorem k289_58 : xcd 289 58 = oB (fun x y => x - y) 59 := rfl
theorem r289_58 : zr 289 58 [v0, v1, v2, v3, v4] (.int y1 :: .int y2 :: st) u P = zr 289 59 [v0, v1, v2, v3, v4] (.int (y2 - y1) :: st) u P := zr_B k289_58
theorem k289_59 : xcd 289 59 = oAl 0 60 := rfl
theorem r289_59 : zr 289 59 [.ref a0, v1, v2, v3, v4] st u P = zr 289 60 [.ref a0, v1, v2, v3, v4] (.ref a0 :: st) u P := zr_Al k289_59 rfl
theorem k289_60 : xcd 289 60 = oGR 11 30 63 := rfl
theorem r289_60 : zr 289 60 [v0, v1, v2, v3, v4] (.ref b1 :: st) u P = (xIs u b1 11 ∧ ∃ b, xR u b1 30 = some b ∧ zr 289 63 [v0, v1, v2, v3, v4] (.ref b :: st) u P) := zr_GR k289_60
theorem k289_63 : xcd 289 63 = oIl 4 65 := rfl
theorem r289_63 : zr 289 63 [v0, v1, v2, v3, .int x4] st u P = zr 289 65 [v0, v1, v2, v3, .int x4] (.int x4 :: st) u P := zr_Il k289_63 rfl
theorem k289_65 : xcd 289 65 = oLd 13 66 := rfl
theorem r289_65 : zr 289 65 [v0, v1, v2, v3, v4] (.int y1 :: .ref b1 :: st) u P = ((xIs u b1 13 ∧ xinb y1 (xN u b1)) ∧ zr 289 66 [v0, v1, v2, v3, v4] (.int (xI u b1 (xix y1)) :: st) u P) := zr_Ld k289_65
theorem k289_66 : xcd 289 66 = oSt 13 (fun x => x) 67 := rfl
theorem r289_66 : zr 289 66 [v0, v1, v2, v3, v4] (.int y2 :: .int y1 :: .ref b1 :: st) u P = ((xIs u b1 13 ∧ xinb y1 (xN u b1)) ∧ zr 289 67 [v0, v1, v2, v3, v4] st (xsI u b1 (xix y1) y2) P) := zr_St k289_66
theorem k289_67 : xcd 289 67 = oInc 4 1 70 := rfl
theorem r289_67 : zr 289 67 [v0, v1, v2, .int x3, .int x4] st u P = zr 289 70 [v0, v1, v2, .int x3, .int (x4 + 1)] st u P := zr_Inc k289_67 rfl rfl
theorem k289_70 : xcd 289 70 = oGoto 12 := rfl
theorem r289_70 : zr 289 70 [v0, v1, v2, v3, v4] st u P = zr 289 12 [v0, v1, v2, v3, v4] st u P := zr_Goto k289_70
theorem k289_73 : xcd 289 73 = oAl 0 74 := rfl
theorem r289_73 : zr 289 73 [.ref a0, v1, v2, v3, v4] st u P = zr 289 74 [.ref a0, v1, v2, v3, v4] (.ref a0 :: st) u P := zr_Al k289_73 rfl
theorem k289_74 : xcd 289 74 = oDup 75 := rfl
theorem r289_74 : zr 289 74 [v0, v1, v2, v3, v4] (.ref b1 :: st) u P = zr 289 75 [v0, v1, v2, v3, v4] (.ref b1 :: .ref b1 :: st) u P := zr_DupA k289_74
theorem k289_75 : xcd 289 75 = oGI 11 31 78 := rfl
theorem r289_75 : zr 289 75 [v0, v1, v2, v3, v4] (.ref b1 :: st) u P = (xIs u b1 11 ∧ zr 289 78 [v0, v1, v2, v3, v4] (.int (xI u b1 31) :: st) u P) := zr_GI k289_75
theorem k289_78 : xcd 289 78 = oI 1 79 := rfl
theorem r289_78 : zr 289 78 [v0, v1, v2, v3, v4] st u P = zr 289 79 [v0, v1, v2, v3, v4] (.int 1 :: st) u P := zr_I k289_78
theorem k289_79 : xcd 289 79 = oB (fun x y => x - y) 80 := rfl
theorem r289_79 : zr 289 79 [v0, v1, v2, v3, v4] (.int y1 :: .int y2 :: st) u P = zr 289 80 [v0, v1, v2, v3, v4] (.int (y2 - y1) :: st) u P := zr_B k289_79
theorem k289_80 : xcd 289 80 = oPI 11 31 83 := rfl
theorem r289_80 : zr 289 80 [v0, v1, v2, v3, v4] (.int y1 :: .ref b1 :: st) u P = (xIs u b1 11 ∧ zr 289 83 [v0, v1, v2, v3, v4] st (xsI u b1 31 y1) P) := zr_PI k289_80
theorem k289_83 : xcd 289 83 = oAl 0 84 := rfl
theorem r289_83 : zr 289 83 [.ref a0, v1, v2, v3, v4] st u P = zr 289 84 [.ref a0, v1, v2, v3, v4] (.ref a0 :: st) u P := zr_Al k289_83 rfl
theorem k289_84 : xcd 289 84 = oGR 11 28 87 := rfl
theorem r289_84 : zr 289 84 [v0, v1, v2, v3, v4] (.ref b1 :: st) u P = (xIs u b1 11 ∧ ∃ b, xR u b1 28 = some b ∧ zr 289 87 [v0, v1, v2, v3, v4] (.ref b :: st) u P) := zr_GR k289_84
theorem k289_87 : xcd 289 87 = oAl 0 88 := rfl
theorem r289_87 : zr 289 87 [.ref a0, v1, v2, v3, v4] st u P = zr 289 88 [.ref a0, v1, v2, v3, v4] (.ref a0 :: st) u P := zr_Al k289_87 rfl
theorem k289_88 : xcd 289 88 = oGI 11 31 91 := rfl
theorem r289_88 : zr 289 88 [v0, v1, v2, v3, v4] (.ref b1 :: st) u P = (xIs u b1 11 ∧ zr 289 91 [v0, v1, v2, v3, v4] (.int (xI u b1 31) :: st) u P) := zr_GI k289_88
theorem k289_91 : xcd 289 91 = oIl 1 92 := rfl
theorem r289_91 : zr 289 91 [v0, .int x1, v2, v3, v4] st u P = zr 289 92 [v0, .int x1, v2, v3, v4] (.int x1 :: st) u P := zr_Il k289_91 rfl
theorem k289_92 : xcd 289 92 = oSt 13 (fun x => x) 93 := rfl
theorem r289_92 : zr 289 92 [v0, v1, v2, v3, v4] (.int y2 :: .int y1 :: .ref b1 :: st) u P = ((xIs u b1 13 ∧ xinb y1 (xN u b1)) ∧ zr 289 93 [v0, v1, v2, v3, v4] st (xsI u b1 (xix y1) y2) P) := zr_St k289_92
theorem k289_93 : xcd 289 93 = oAl 0 94 := rfl
theorem r289_93 : zr 289 93 [.ref a0, v1, v2, v3, v4] st u P = zr 289 94 [.ref a0, v1, v2, v3, v4] (.ref a0 :: st) u P := zr_Al k289_93 rfl
theorem k289_94 : xcd 289 94 = oGR 11 29 97 := rfl
theorem r289_94 : zr 289 94 [v0, v1, v2, v3, v4] (.ref b1 :: st) u P = (xIs u b1 11 ∧ ∃ b, xR u b1 29 = some b ∧ zr 289 97 [v0, v1, v2, v3, v4] (.ref b :: st) u P) := zr_GR k289_94
theorem k289_97 : xcd 289 97 = oAl 0 98 := rfl
theorem r289_97 : zr 289 97 [.ref a0, v1, v2, v3, v4] st u P = zr 289 98 [.ref a0, v1, v2, v3, v4] (.ref a0 :: st) u P := zr_Al k289_97 rfl
theorem k289_98 : xcd 289 98 = oGI 11 31 101 := rfl
theorem r289_98 : zr 289 98 [v0, v1, v2, v3, v4] (.ref b1 :: st) u P = (xIs u b1 11 ∧ zr 289 101 [v0, v1, v2, v3, v4] (.int (xI u b1 31) :: st) u P) := zr_GI k289_98
theorem k289_101 : xcd 289 101 = oIl 2 102 := rfl
theorem r289_101 : zr 289 101 [v0, v1, .int x2, v3, v4] st u P = zr 289 102 [v0, v1, .int x2, v3, v4] (.int x2 :: st) u P := zr_Il k289_101 rfl
theorem k289_102 : xcd 289 102 = oSt 13 (fun x => x) 103 := rfl
theorem r289_102 : zr 289 102 [v0, v1, v2, v3, v4] (.int y2 :: .int y1 :: .ref b1 :: st) u P = ((xIs u b1 13 ∧ xinb y1 (xN u b1)) ∧ zr 289 103 [v0, v1, v2, v3, v4] st (xsI u b1 (xix y1) y2) P) := zr_St k289_102
theorem k289_103 : xcd 289 103 = oAl 0 104 := rfl
theorem r289_103 : zr 289 103 [.ref a0, v1, v2, v3, v4] st u P = zr 289 104 [.ref a0, v1, v2, v3, v4] (.ref a0 :: st) u P := zr_Al k289_103 rfl
theorem k289_104 : xcd 289 104 = oGR 11 30 107 := rfl
theorem r289_104 : zr 289 104 [v0, v1, v2, v3, v4] (.ref b1 :: st) u P = (xIs u b1 11 ∧ ∃ b, xR u b1 30 = some b ∧ zr 289 107 [v0, v1, v2, v3, v4] (.ref b :: st) u P) := zr_GR k289_104
theorem k289_107 : xcd 289 107 = oAl 0 108 := rfl
theorem r289_107 : zr 289 107 [.ref a0, v1, v2, v3, v4] st u P = zr 289 108 [.ref a0, v1, v2, v3, v4] (.ref a0 :: st) u P := zr_Al k289_107 rfl
theorem k289_108 : xcd 289 108 = oGI 11 31 111 := rfl
theorem r289_108 : zr 289 108 [v0, v1, v2, v3, v4] (.ref b1 :: st) u P = (xIs u b1 11 ∧ zr 289 111 [v0, v1, v2, v3, v4] (.int (xI u b1 31) :: st) u P) := zr_GI k289_108
theorem k289_111 : xcd 289 111 = oIl 3 112 := rfl
theorem r289_111 : zr 289 111 [v0, v1, v2, .int x3, v4] st u P = zr 289 112 [v0, v1, v2, .int x3, v4] (.int x3 :: st) u P := zr_Il k289_111 rfl
theorem k289_112 : xcd 289 112 = oSt 13 (fun x => x) 113 := rfl
theorem r289_112 : zr 289 112 [v0, v1, v2, v3, v4] (.int y2 :: .int y1 :: .ref b1 :: st) u P = ((xIs u b1 13 ∧ xinb y1 (xN u b1)) ∧ zr 289 113 [v0, v1, v2, v3, v4] st (xsI u b1 (xix y1) y2) P) := zr_St k289_112
theorem k289_113 : xcd 289 113 = oAl 0 114 := rfl
theorem r289_113 : zr 289 113 [.ref a0, v1, v2, v3, v4] st u P = zr 289 114 [.ref a0, v1, v2, v3, v4] (.ref a0 :: st) u P := zr_Al k289_113 rfl
theorem k289_114 : xcd 289 114 = oDup 115 := rfl
theorem r289_114 : zr 289 114 [v0, v1, v2, v3, v4] (.ref b1 :: st) u P = zr 289 115 [v0, v1, v2, v3, v4] (.ref b1 :: .ref b1 :: st) u P := zr_DupA k289_114
theorem k289_115 : xcd 289 115 = oGI 11 31 118 := rfl
theorem r289_115 : zr 289 115 [v0, v1, v2, v3, v4] (.ref b1 :: st) u P = (xIs u b1 11 ∧ zr 289 118 [v0, v1, v2, v3, v4] (.int (xI u b1 31) :: st) u P) := zr_GI k289_115
theorem k289_118 : xcd 289 118 = oI 1 119 := rfl
theorem r289_118 : zr 289 118 [v0, v1, v2, v3, v4] st u P = zr 289 119 [v0, v1, v2, v3, v4] (.int 1 :: st) u P := zr_I k289_118
theorem k289_119 : xcd 289 119 = oB (fun x y => x + y) 120 := rfl
theorem r289_119 : zr 289 119 [v0, v1, v2, v3, v4] (.int y1 :: .int y2 :: st) u P = zr 289 120 [v0, v1, v2, v3, v4] (.int (y2 + y1) :: st) u P := zr_B k289_119
theorem k289_120 : xcd 289 120 = oPI 11 31 123 := rfl
theorem r289_120 : zr 289 120 [v0, v1, v2, v3, v4] (.int y1 :: .ref b1 :: st) u P = (xIs u b1 11 ∧ zr 289 123 [v0, v1, v2, v3, v4] st (xsI u b1 31 y1) P) := zr_PI k289_120
theorem k289_123 : xcd 289 123 = oRv 0 := rfl
theorem r289_123 : zr 289 123 [v0, v1, v2, v3, v4] [] u P = P none u := zr_Rv k289_123
theorem k290_0 : xcd 290 0 = oAl 0 1 := rfl
theorem r290_0 : zr 290 0 [.ref a0, v1, v2, v3, v4, v5, v6, v7, v8, v9, v10, v11] st u P = zr 290 1 [.ref a0, v1, v2, v3, v4, v5, v6, v7, v8, v9, v10, v11] (.ref a0 :: st) u P := zr_Al k290_0 rfl
theorem k290_1 : xcd 290 1 = oI 0 2 := rfl
theorem r290_1 : zr 290 1 [v0, v1, v2, v3, v4, v5, v6, v7, v8, v9, v10, v11] st u P = zr 290 2 [v0, v1, v2, v3, v4, v5, v6, v7, v8, v9, v10, v11] (.int 0 :: st) u P := zr_I k290_1
theorem k290_2 : xcd 290 2 = oPI 11 0 5 := rfl
theorem r290_2 : zr 290 2 [v0, v1, v2, v3, v4, v5, v6, v7, v8, v9, v10, v11] (.int y1 :: .ref b1 :: st) u P = (xIs u b1 11 ∧ zr 290 5 [v0, v1, v2, v3, v4, v5, v6, v7, v8, v9, v10, v11] st (xsI u b1 0 y1) P) := zr_PI k290_2
theorem k290_5 : xcd 290 5 = oAl 0 6 := rfl
theorem r290_5 : zr 290 5 [.ref a0, v1, v2, v3, v4, v5, v6, v7, v8, v9, v10, v11] st u P = zr 290 6 [.ref a0, v1, v2, v3, v4, v5, v6, v7, v8, v9, v10, v11] (.ref a0 :: st) u P := zr_Al k290_5 rfl
theorem k290_6 : xcd 290 6 = oIl 1 7 := rfl
theorem r290_6 : zr 290 6 [v0, .int x1, v2, v3, v4, v5, v6, v7, v8, v9, v10, v11] st u P = zr 290 7 [v0, .int x1, v2, v3, v4, v5, v6, v7, v8, v9, v10, v11] (.int x1 :: st) u P := zr_Il k290_6 rfl
theorem k290_7 : xcd 290 7 = oIl 2 8 := rfl
theorem r290_7 : zr 290 7 [v0, v1, .int x2, v3, v4, v5, v6, v7, v8, v9, v10, v11] st u P = zr 290 8 [v0, v1, .int x2, v3, v4, v5, v6, v7, v8, v9, v10, v11] (.int x2 :: st) u P := zr_Il k290_7 rfl
theorem k290_8 : xcd 290 8 = oIl 3 9 := rfl
theorem r290_8 : zr 290 8 [v0, v1, v2, .int x3, v4, v5, v6, v7, v8, v9, v10, v11] st u P = zr 290 9 [v0, v1, v2, .int x3, v4, v5, v6, v7, v8, v9, v10, v11] (.int x3 :: st) u P := zr_Il k290_8 rfl
theorem k290_9 : xcd 290 9 = oIl 4 11 := rfl
theorem r290_9 : zr 290 9 [v0, v1, v2, v3, .int x4, v5, v6, v7, v8, v9, v10, v11] st u P = zr 290 11 [v0, v1, v2, v3, .int x4, v5, v6, v7, v8, v9, v10, v11] (.int x4 :: st) u P := zr_Il k290_9 rfl
theorem k290_11 : xcd 290 11 = oIl 5 13 := rfl
theorem r290_11 : zr 290 11 [v0, v1, v2, v3, v4, .int x5, v6, v7, v8, v9, v10, v11] st u P = zr 290 13 [v0, v1, v2, v3, v4, .int x5, v6, v7, v8, v9, v10, v11] (.int x5 :: st) u P := zr_Il k290_11 rfl
theorem k290_13 : xcd 290 13 = oIl 6 15 := rfl
theorem r290_13 : zr 290 13 [v0, v1, v2, v3, v4, v5, .int x6, v7, v8, v9, v10, v11] st u P = zr 290 15 [v0, v1, v2, v3, v4, v5, .int x6, v7, v8, v9, v10, v11] (.int x6 :: st) u P := zr_Il k290_13 rfl
theorem k290_15 : xcd 290 15 = oCalV 11 258 6 18 := rfl
theorem r290_15 : zr 290 15 [v0, v1, v2, v3, v4, v5, v6, v7, v8, v9, v10, v11] (.int y6 :: .int y5 :: .int y4 :: .int y3 :: .int y2 :: .int y1 :: .ref b8 :: st) u P = ((xIs u b8 11 ∧ xcat st ≤ 8) ∧ zr 258 0 [.ref b8, .int y1, .int y2, .int y3, .int y4, .int y5, .int y6, .null] [] u (fun r u2 => zr 290 18 [v0, v1, v2, v3, v4, v5, v6, v7, v8, v9, v10, v11] (r.toList ++ st) u2 P)) := zr_CV k290_15 rfl rfl rfl ⟨Nat.le_of_ble_eq_true rfl, Nat.succ_ne_zero _, by decide⟩ rfl
theorem k290_18 : xcd 290 18 = oIs 7 20 := rfl
theorem r290_18 : zr 290 18 [v0, v1, v2, v3, v4, v5, .int x6, v7, v8, v9, v10, v11] (.int y1 :: st) u P = zr 290 20 [v0, v1, v2, v3, v4, v5, .int x6, .int y1, v8, v9, v10, v11] st u P := zr_Is k290_18 ⟨Nat.le_of_ble_eq_true rfl, rfl⟩
theorem k290_20 : xcd 290 20 = oIl 7 22 := rfl
theorem r290_20 : zr 290 20 [v0, v1, v2, v3, v4, v5, v6, .int x7, v8, v9, v10, v11] st u P = zr 290 22 [v0, v1, v2, v3, v4, v5, v6, .int x7, v8, v9, v10, v11] (.int x7 :: st) u P := zr_Il k290_20 rfl
theorem k290_22 : xcd 290 22 = oIf (fun x => decide (x ≤ 0)) 32 25 := rfl
theorem r290_22 : zr 290 22 [v0, v1, v2, v3, v4, v5, v6, v7, v8, v9, v10, v11] (.int y1 :: st) u P = (if y1 ≤ 0 then zr 290 32 [v0, v1, v2, v3, v4, v5, v6, v7, v8, v9, v10, v11] st u P else zr 290 25 [v0, v1, v2, v3, v4, v5, v6, v7, v8, v9, v10, v11] st u P) := zr_If k290_22
theorem k290_25 : xcd 290 25 = oAl 0 26 := rfl
theorem r290_25 : zr 290 25 [.ref a0, v1, v2, v3, v4, v5, v6, v7, v8, v9, v10, v11] st u P = zr 290 26 [.ref a0, v1, v2, v3, v4, v5, v6, v7, v8, v9, v10, v11] (.ref a0 :: st) u P := zr_Al k290_25 rfl
theorem k290_26 : xcd 290 26 = oIl 7 28 := rfl
theorem r290_26 : zr 290 26 [v0, v1, v2, v3, v4, v5, v6, .int x7, v8, v9, v10, v11] st u P = zr 290 28 [v0, v1, v2, v3, v4, v5, v6, .int x7, v8, v9, v10, v11] (.int x7 :: st) u P := zr_Il k290_26 rfl
theorem k290_28 : xcd 290 28 = oCalV 11 172 1 31 := rfl
theorem r290_28 : zr 290 28 [v0, v1, v2, v3, v4, v5, v6, v7, v8, v9, v10, v11] (.int y1 :: .ref b8 :: st) u P = ((xIs u b8 11 ∧ xcat st ≤ 8) ∧ zr 172 0 [.ref b8, .int y1] [] u (fun r u2 => zr 290 31 [v0, v1, v2, v3, v4, v5, v6, v7, v8, v9, v10, v11] (r.toList ++ st) u2 P)) := zr_CV k290_28 rfl rfl rfl ⟨Nat.le_of_ble_eq_true rfl, Nat.succ_ne_zero _, by decide⟩ rfl
theorem k290_31 : xcd 290 31 = oRi 0 := rfl
theorem r290_31 : zr 290 31 [v0, v1, v2, v3, v4, v5, v6, v7, v8, v9, v10, v11] [.int y1] u P = P (some (.int y1)) u := zr_Ri k290_31
theorem k290_32 : xcd 290 32 = oIl 1 33 := rfl
theorem r290_32 : zr 290 32 [v0, .int x1, v2, v3, v4, v5, v6, v7, v8, v9, v10, v11] st u P = zr 290 33 [v0, .int x1, v2, v3, v4, v5, v6, v7, v8, v9, v10, v11] (.int x1 :: st) u P := zr_Il k290_32 rfl
theorem k290_33 : xcd 290 33 = oAl 0 34 := rfl
theorem r290_33 : zr 290 33 [.ref a0, v1, v2, v3, v4, v5, v6, v7, v8, v9, v10, v11] st u P = zr 290 34 [.ref a0, v1, v2, v3, v4, v5, v6, v7, v8, v9, v10, v11] (.ref a0 :: st) u P := zr_Al k290_33 rfl
theorem k290_34 : xcd 290 34 = oCalV 11 274 0 37 := rfl
theorem r290_34 : zr 290 34 [v0, v1, v2, v3, v4, v5, v6, v7, v8, v9, v10, v11] (.ref b8 :: st) u P = ((xIs u b8 11 ∧ xcat st ≤ 8) ∧ zr 274 0 [.ref b8] [] u (fun r u2 => zr 290 37 [v0, v1, v2, v3, v4, v5, v6, v7, v8, v9, v10, v11] (r.toList ++ st) u2 P)) := zr_CV k290_34 rfl rfl rfl ⟨Nat.le_of_ble_eq_true rfl, Nat.succ_ne_zero _, by decide⟩ rfl
theorem k290_37 : xcd 290 37 = oCmp (fun x y => decide (y < x)) 46 40 := rfl
theorem r290_37 : zr 290 37 [v0, v1, v2, v3, v4, v5, v6, v7, v8, v9, v10, v11] (.int y1 :: .int y2 :: st) u P = (if y1 < y2 then zr 290 46 [v0, v1, v2, v3, v4, v5, v6, v7, v8, v9, v10, v11] st u P else zr 290 40 [v0, v1, v2, v3, v4, v5, v6, v7, v8, v9, v10, v11] st u P) := zr_Cmp k290_37
theorem k290_40 : xcd 290 40 = oAl 0 41 := rfl
theorem r290_40 : zr 290 40 [.ref a0, v1, v2, v3, v4, v5, v6, v7, v8, v9, v10, v11] st u P = zr 290 41 [.ref a0, v1, v2, v3, v4, v5, v6, v7, v8, v9, v10, v11] (.ref a0 :: st) u P := zr_Al k290_40 rfl
theorem k290_41 : xcd 290 41 = oI 5 42 := rfl
theorem r290_41 : zr 290 41 [v0, v1, v2, v3, v4, v5, v6, v7, v8, v9, v10, v11] st u P = zr 290 42 [v0, v1, v2, v3, v4, v5, v6, v7, v8, v9, v10, v11] (.int 5 :: st) u P := zr_I k290_41
theorem k290_42 : xcd 290 42 = oCalV 11 172 1 45 := rfl
theorem r290_42 : zr 290 42 [v0, v1, v2, v3, v4, v5, v6, v7, v8, v9, v10, v11] (.int y1 :: .ref b8 :: st) u P = ((xIs u b8 11 ∧ xcat st ≤ 8) ∧ zr 172 0 [.ref b8, .int y1] [] u (fun r u2 => zr 290 45 [v0, v1, v2, v3, v4, v5, v6, v7, v8, v9, v10, v11] (r.toList ++ st) u2 P)) := zr_CV k290_42 rfl rfl rfl ⟨Nat.le_of_ble_eq_true rfl, Nat.succ_ne_zero _, by decide⟩ rfl
theorem k290_45 : xcd 290 45 = oRi 0 := rfl
theorem r290_45 : zr 290 45 [v0, v1, v2, v3, v4, v5, v6, v7, v8, v9, v10, v11] [.int y1] u P = P (some (.int y1)) u := zr_Ri k290_45
theorem k290_46 : xcd 290 46 = oAl 0 47 := rfl
theorem r290_46 : zr 290 46 [.ref a0, v1, v2, v3, v4, v5, v6, v7, v8, v9, v10, v11] st u P = zr 290 47 [.ref a0, v1, v2, v3, v4, v5, v6, v7, v8, v9, v10, v11] (.ref a0 :: st) u P := zr_Al k290_46 rfl
theorem k290_47 : xcd 290 47 = oGI 11 20 50 := rfl
theorem r290_47 : zr 290 47 [v0, v1, v2, v3, v4, v5, v6, v7, v8, v9, v10, v11] (.ref b1 :: st) u P = (xIs u b1 11 ∧ zr 290 50 [v0, v1, v2, v3, v4, v5, v6, v7, v8, v9, v10, v11] (.int (xI u b1 20) :: st) u P) := zr_GI k290_47
theorem k290_50 : xcd 290 50 = oI 40 52 := rfl
theorem r290_50 : zr 290 50 [v0, v1, v2, v3, v4, v5, v6, v7, v8, v9, v10, v11] st u P = zr 290 52 [v0, v1, v2, v3, v4, v5, v6, v7, v8, v9, v10, v11] (.int 40 :: st) u P := zr_I k290_50
theorem k290_52 : xcd 290 52 = oCmp (fun x y => decide (¬ x = y)) 61 55 := rfl
theorem r290_52 : zr 290 52 [v0, v1, v2, v3, v4, v5, v6, v7, v8, v9, v10, v11] (.int y1 :: .int y2 :: st) u P = (if ¬ y2 = y1 then zr 290 61 [v0, v1, v2, v3, v4, v5, v6, v7, v8, v9, v10, v11] st u P else zr 290 55 [v0, v1, v2, v3, v4, v5, v6, v7, v8, v9, v10, v11] st u P) := zr_Cmp k290_52
theorem k290_55 : xcd 290 55 = oAl 0 56 := rfl
theorem r290_55 : zr 290 55 [.ref a0, v1, v2, v3, v4, v5, v6, v7, v8, v9, v10, v11] st u P = zr 290 56 [.ref a0, v1, v2, v3, v4, v5, v6, v7, v8, v9, v10, v11] (.ref a0 :: st) u P := zr_Al k290_55 rfl
theorem k290_56 : xcd 290 56 = oI 3 57 := rfl
theorem r290_56 : zr 290 56 [v0, v1, v2, v3, v4, v5, v6, v7, v8, v9, v10, v11] st u P = zr 290 57 [v0, v1, v2, v3, v4, v5, v6, v7, v8, v9, v10, v11] (.int 3 :: st) u P := zr_I k290_56
theorem k290_57 : xcd 290 57 = oCalV 11 172 1 60 := rfl
theorem r290_57 : zr 290 57 [v0, v1, v2, v3, v4, v5, v6, v7, v8, v9, v10, v11] (.int y1 :: .ref b8 :: st) u P = ((xIs u b8 11 ∧ xcat st ≤ 8) ∧ zr 172 0 [.ref b8, .int y1] [] u (fun r u2 => zr 290 60 [v0, v1, v2, v3, v4, v5, v6, v7, v8, v9, v10, v11] (r.toList ++ st) u2 P)) := zr_CV k290_57 rfl rfl rfl ⟨Nat.le_of_ble_eq_true rfl, Nat.succ_ne_zero _, by decide⟩ rfl
theorem k290_60 : xcd 290 60 = oRi 0 := rfl
theorem r290_60 : zr 290 60 [v0, v1, v2, v3, v4, v5, v6, v7, v8, v9, v10, v11] [.int y1] u P = P (some (.int y1)) u := zr_Ri k290_60
theorem k290_61 : xcd 290 61 = oI 25 63 := rfl
theorem r290_61 : zr 290 61 [v0, v1, v2, v3, v4, v5, v6, v7, v8, v9, v10, v11] st u P = zr 290 63 [v0, v1, v2, v3, v4, v5, v6, v7, v8, v9, v10, v11] (.int 25 :: st) u P := zr_I k290_61
theorem k290_63 : xcd 290 63 = oAl 0 64 := rfl
theorem r290_63 : zr 290 63 [.ref a0, v1, v2, v3, v4, v5, v6, v7, v8, v9, v10, v11] st u P = zr 290 64 [.ref a0, v1, v2, v3, v4, v5, v6, v7, v8, v9, v10, v11] (.ref a0 :: st) u P := zr_Al k290_63 rfl
theorem k290_64 : xcd 290 64 = oGI 11 20 67 := rfl
theorem r290_64 : zr 290 64 [v0, v1, v2, v3, v4, v5, v6, v7, v8, v9, v10, v11] (.ref b1 :: st) u P = (xIs u b1 11 ∧ zr 290 67 [v0, v1, v2, v3, v4, v5, v6, v7, v8, v9, v10, v11] (.int (xI u b1 20) :: st) u P) := zr_GI k290_64
theorem k290_67 : xcd 290 67 = oB (fun x y => x * y) 68 := rfl
theorem r290_67 : zr 290 67 [v0, v1, v2, v3, v4, v5, v6, v7, v8, v9, v10, v11] (.int y1 :: .int y2 :: st) u P = zr 290 68 [v0, v1, v2, v3, v4, v5, v6, v7, v8, v9, v10, v11] (.int (y2 * y1) :: st) u P := zr_B k290_67
theorem k290_68 : xcd 290 68 = oIs 8 70 := rfl
theorem r290_68 : zr 290 68 [v0, v1, v2, v3, v4, v5, v6, .int x7, v8, v9, v10, v11] (.int y1 :: st) u P = zr 290 70 [v0, v1, v2, v3, v4, v5, v6, .int x7, .int y1, v9, v10, v11] st u P := zr_Is k290_68 ⟨Nat.le_of_ble_eq_true rfl, rfl⟩
theorem k290_70 : xcd 290 70 = oAl 0 71 := rfl
theorem r290_70 : zr 290 70 [.ref a0, v1, v2, v3, v4, v5, v6, v7, v8, v9, v10, v11] st u P = zr 290 71 [.ref a0, v1, v2, v3, v4, v5, v6, v7, v8, v9, v10, v11] (.ref a0 :: st) u P := zr_Al k290_70 rfl
theorem k290_71 : xcd 290 71 = oIl 1 72 := rfl
theorem r290_71 : zr 290 71 [v0, .int x1, v2, v3, v4, v5, v6, v7, v8, v9, v10, v11] st u P = zr 290 72 [v0, .int x1, v2, v3, v4, v5, v6, v7, v8, v9, v10, v11] (.int x1 :: st) u P := zr_Il k290_71 rfl
theorem k290_72 : xcd 290 72 = oIl 2 73 := rfl
theorem r290_72 : zr 290 72 [v0, v1, .int x2, v3, v4, v5, v6, v7, v8, v9, v10, v11] st u P = zr 290 73 [v0, v1, .int x2, v3, v4, v5, v6, v7, v8, v9, v10, v11] (.int x2 :: st) u P := zr_Il k290_72 rfl
theorem k290_73 : xcd 290 73 = oIl 3 74 := rfl
theorem r290_73 : zr 290 73 [v0, v1, v2, .int x3, v4, v5, v6, v7, v8, v9, v10, v11] st u P = zr 290 74 [v0, v1, v2, .int x3, v4, v5, v6, v7, v8, v9, v10, v11] (.int x3 :: st) u P := zr_Il k290_73 rfl
theorem k290_74 : xcd 290 74 = oAl 0 75 := rfl
theorem r290_74 : zr 290 74 [.ref a0, v1, v2, v3, v4, v5, v6, v7, v8, v9, v10, v11] st u P = zr 290 75 [.ref a0, v1, v2, v3, v4, v5, v6, v7, v8, v9, v10, v11] (.ref a0 :: st) u P := zr_Al k290_74 rfl
theorem k290_75 : xcd 290 75 = oGR 11 17 78 := rfl
theorem r290_75 : zr 290 75 [v0, v1, v2, v3, v4, v5, v6, v7, v8, v9, v10, v11] (.ref b1 :: st) u P = (xIs u b1 11 ∧ ∃ b, xR u b1 17 = some b ∧ zr 290 78 [v0, v1, v2, v3, v4, v5, v6, v7, v8, v9, v10, v11] (.ref b :: st) u P) := zr_GR k290_75
theorem k290_78 : xcd 290 78 = oCalV 11 236 4 81 := rfl
theorem r290_78 : zr 290 78 [v0, v1, v2, v3, v4, v5, v6, v7, v8, v9, v10, v11] (.ref b4 :: .int y3 :: .int y2 :: .int y1 :: .ref b8 :: st) u P = ((xIs u b8 11 ∧ xcat st ≤ 8) ∧ zr 236 0 [.ref b8, .int y1, .int y2, .int y3, .ref b4, .null, .null, .null] [] u (fun r u2 => zr 290 81 [v0, v1, v2, v3, v4, v5, v6, v7, v8, v9, v10, v11] (r.toList ++ st) u2 P)) := zr_CV k290_78 rfl rfl rfl ⟨Nat.le_of_ble_eq_true rfl, Nat.succ_ne_zero _, by decide⟩ rfl
theorem k290_81 : xcd 290 81 = oIs 9 83 := rfl
theorem r290_81 : zr 290 81 [v0, v1, v2, v3, v4, v5, v6, v7, .int x8, v9, v10, v11] (.int y1 :: st) u P = zr 290 83 [v0, v1, v2, v3, v4, v5, v6, v7, .int x8, .int y1, v10, v11] st u P := zr_Is k290_81 ⟨Nat.le_of_ble_eq_true rfl, rfl⟩
theorem k290_83 : xcd 290 83 = oAl 0 84 := rfl
theorem r290_83 : zr 290 83 [.ref a0, v1, v2, v3, v4, v5, v6, v7, v8, v9, v10, v11] st u P = zr 290 84 [.ref a0, v1, v2, v3, v4, v5, v6, v7, v8, v9, v10, v11] (.ref a0 :: st) u P := zr_Al k290_83 rfl
theorem k290_84 : xcd 290 84 = oGR 11 19 87 := rfl
theorem r290_84 : zr 290 84 [v0, v1, v2, v3, v4, v5, v6, v7, v8, v9, v10, v11] (.ref b1 :: st) u P = (xIs u b1 11 ∧ ∃ b, xR u b1 19 = some b ∧ zr 290 87 [v0, v1, v2, v3, v4, v5, v6, v7, v8, v9, v10, v11] (.ref b :: st) u P) := zr_GR k290_84
theorem k290_87 : xcd 290 87 = oIl 8 89 := rfl
theorem r290_87 : zr 290 87 [v0, v1, v2, v3, v4, v5, v6, v7, .int x8, v9, v10, v11] st u P = zr 290 89 [v0, v1, v2, v3, v4, v5, v6, v7, .int x8, v9, v10, v11] (.int x8 :: st) u P := zr_Il k290_87 rfl
theorem k290_89 : xcd 290 89 = oI 0 90 := rfl
theorem r290_89 : zr 290 89 [v0, v1, v2, v3, v4, v5, v6, v7, v8, v9, v10, v11] st u P = zr 290 90 [v0, v1, v2, v3, v4, v5, v6, v7, v8, v9, v10, v11] (.int 0 :: st) u P := zr_I k290_89
theorem k290_90 : xcd 290 90 = oB (fun x y => x + y) 91 := rfl
theorem r290_90 : zr 290 90 [v0, v1, v2, v3, v4, v5, v6, v7, v8, v9, v10, v11] (.int y1 :: .int y2 :: st) u P = zr 290 91 [v0, v1, v2, v3, v4, v5, v6, v7, v8, v9, v10, v11] (.int (y2 + y1) :: st) u P := zr_B k290_90
theorem k290_91 : xcd 290 91 = oIl 1 92 := rfl
theorem r290_91 : zr 290 91 [v0, .int x1, v2, v3, v4, v5, v6, v7, v8, v9, v10, v11] st u P = zr 290 92 [v0, .int x1, v2, v3, v4, v5, v6, v7, v8, v9, v10, v11] (.int x1 :: st) u P := zr_Il k290_91 rfl
theorem k290_92 : xcd 290 92 = oSt 13 (fun x => x) 93 := rfl
theorem r290_92 : zr 290 92 [v0, v1, v2, v3, v4, v5, v6, v7, v8, v9, v10, v11] (.int y2 :: .int y1 :: .ref b1 :: st) u P = ((xIs u b1 13 ∧ xinb y1 (xN u b1)) ∧ zr 290 93 [v0, v1, v2, v3, v4, v5, v6, v7, v8, v9, v10, v11] st (xsI u b1 (xix y1) y2) P) := zr_St k290_92
theorem k290_93 : xcd 290 93 = oAl 0 94 := rfl
theorem r290_93 : zr 290 93 [.ref a0, v1, v2, v3, v4, v5, v6, v7, v8, v9, v10, v11] st u P = zr 290 94 [.ref a0, v1, v2, v3, v4, v5, v6, v7, v8, v9, v10, v11] (.ref a0 :: st) u P := zr_Al k290_93 rfl
theorem k290_94 : xcd 290 94 = oGR 11 19 97 := rfl
theorem r290_94 : zr 290 94 [v0, v1, v2, v3, v4, v5, v6, v7, v8, v9, v10, v11] (.ref b1 :: st) u P = (xIs u b1 11 ∧ ∃ b, xR u b1 19 = some b ∧ zr 290 97 [v0, v1, v2, v3, v4, v5, v6, v7, v8, v9, v10, v11] (.ref b :: st) u P) := zr_GR k290_94
theorem k290_97 : xcd 290 97 = oIl 8 99 := rfl
theorem r290_97 : zr 290 97 [v0, v1, v2, v3, v4, v5, v6, v7, .int x8, v9, v10, v11] st u P = zr 290 99 [v0, v1, v2, v3, v4, v5, v6, v7, .int x8, v9, v10, v11] (.int x8 :: st) u P := zr_Il k290_97 rfl
theorem k290_99 : xcd 290 99 = oI 1 100 := rfl
theorem r290_99 : zr 290 99 [v0, v1, v2, v3, v4, v5, v6, v7, v8, v9, v10, v11] st u P = zr 290 100 [v0, v1, v2, v3, v4, v5, v6, v7, v8, v9, v10, v11] (.int 1 :: st) u P := zr_I k290_99
theorem k290_100 : xcd 290 100 = oB (fun x y => x + y) 101 := rfl
theorem r290_100 : zr 290 100 [v0, v1, v2, v3, v4, v5, v6, v7, v8, v9, v10, v11] (.int y1 :: .int y2 :: st) u P = zr 290 101 [v0, v1, v2, v3, v4, v5, v6, v7, v8, v9, v10, v11] (.int (y2 + y1) :: st) u P := zr_B k290_100
theorem k290_101 : xcd 290 101 = oIl 2 102 := rfl
theorem r290_101 : zr 290 101 [v0, v1, .int x2, v3, v4, v5, v6, v7, v8, v9, v10, v11] st u P = zr 290 102 [v0, v1, .int x2, v3, v4, v5, v6, v7, v8, v9, v10, v11] (.int x2 :: st) u P := zr_Il k290_101 rfl
theorem k290_102 : xcd 290 102 = oSt 13 (fun x => x) 103 := rfl
theorem r290_102 : zr 290 102 [v0, v1, v2, v3, v4, v5, v6, v7, v8, v9, v10, v11] (.int y2 :: .int y1 :: .ref b1 :: st) u P = ((xIs u b1 13 ∧ xinb y1 (xN u b1)) ∧ zr 290 103 [v0, v1, v2, v3, v4, v5, v6, v7, v8, v9, v10, v11] st (xsI u b1 (xix y1) y2) P) := zr_St k290_102
theorem k290_103 : xcd 290 103 = oAl 0 104 := rfl
theorem r290_103 : zr 290 103 [.ref a0, v1, v2, v3, v4, v5, v6, v7, v8, v9, v10, v11] st u P = zr 290 104 [.ref a0, v1, v2, v3, v4, v5, v6, v7, v8, v9, v10, v11] (.ref a0 :: st) u P := zr_Al k290_103 rfl
theorem k290_104 : xcd 290 104 = oGR 11 19 107 := rfl
theorem r290_104 : zr 290 104 [v0, v1, v2, v3, v4, v5, v6, v7, v8, v9, v10, v11] (.ref b1 :: st) u P = (xIs u b1 11 ∧ ∃ b, xR u b1 19 = some b ∧ zr 290 107 [v0, v1, v2, v3, v4, v5, v6, v7, v8, v9, v10, v11] (.ref b :: st) u P) := zr_GR k290_104
theorem k290_107 : xcd 290 107 = oIl 8 109 := rfl
theorem r290_107 : zr 290 107 [v0, v1, v2, v3, v4, v5, v6, v7, .int x8, v9, v10, v11] st u P = zr 290 109 [v0, v1, v2, v3, v4, v5, v6, v7, .int x8, v9, v10, v11] (.int x8 :: st) u P := zr_Il k290_107 rfl
theorem k290_109 : xcd 290 109 = oI 2 110 := rfl
theorem r290_109 : zr 290 109 [v0, v1, v2, v3, v4, v5, v6, v7, v8, v9, v10, v11] st u P = zr 290 110 [v0, v1, v2, v3, v4, v5, v6, v7, v8, v9, v10, v11] (.int 2 :: st) u P := zr_I k290_109
theorem k290_110 : xcd 290 110 = oB (fun x y => x + y) 111 := rfl
theorem r290_110 : zr 290 110 [v0, v1, v2, v3, v4, v5, v6, v7, v8, v9, v10, v11] (.int y1 :: .int y2 :: st) u P = zr 290 111 [v0, v1, v2, v3, v4, v5, v6, v7, v8, v9, v10, v11] (.int (y2 + y1) :: st) u P := zr_B k290_110
theorem k290_111 : xcd 290 111 = oIl 3 112 := rfl
theorem r290_111 : zr 290 111 [v0, v1, v2, .int x3, v4, v5, v6, v7, v8, v9, v10, v11] st u P = zr 290 112 [v0, v1, v2, .int x3, v4, v5, v6, v7, v8, v9, v10, v11] (.int x3 :: st) u P := zr_Il k290_111 rfl
theorem k290_112 : xcd 290 112 = oSt 13 (fun x => x) 113 := rfl
theorem r290_112 : zr 290 112 [v0, v1, v2, v3, v4, v5, v6, v7, v8, v9, v10, v11] (.int y2 :: .int y1 :: .ref b1 :: st) u P = ((xIs u b1 13 ∧ xinb y1 (xN u b1)) ∧ zr 290 113 [v0, v1, v2, v3, v4, v5, v6, v7, v8, v9, v10, v11] st (xsI u b1 (xix y1) y2) P) := zr_St k290_112
theorem k290_113 : xcd 290 113 = oAl 0 114 := rfl
theorem r290_113 : zr 290 113 [.ref a0, v1, v2, v3, v4, v5, v6, v7, v8, v9, v10, v11] st u P = zr 290 114 [.ref a0, v1, v2, v3, v4, v5, v6, v7, v8, v9, v10, v11] (.ref a0 :: st) u P := zr_Al k290_113 rfl
theorem k290_114 : xcd 290 114 = oGR 11 19 117 := rfl
theorem r290_114 : zr 290 114 [v0, v1, v2, v3, v4, v5, v6, v7, v8, v9, v10, v11] (.ref b1 :: st) u P = (xIs u b1 11 ∧ ∃ b, xR u b1 19 = some b ∧ zr 290 117 [v0, v1, v2, v3, v4, v5, v6, v7, v8, v9, v10, v11] (.ref b :: st) u P) := zr_GR k290_114
theorem k290_117 : xcd 290 117 = oIl 8 119 := rfl
theorem r290_117 : zr 290 117 [v0, v1, v2, v3, v4, v5, v6, v7, .int x8, v9, v10, v11] st u P = zr 290 119 [v0, v1, v2, v3, v4, v5, v6, v7, .int x8, v9, v10, v11] (.int x8 :: st) u P := zr_Il k290_117 rfl
theorem k290_119 : xcd 290 119 = oI 3 120 := rfl
theorem r290_119 : zr 290 119 [v0, v1, v2, v3, v4, v5, v6, v7, v8, v9, v10, v11] st u P = zr 290 120 [v0, v1, v2, v3, v4, v5, v6, v7, v8, v9, v10, v11] (.int 3 :: st) u P := zr_I k290_119
theorem k290_120 : xcd 290 120 = oB (fun x y => x + y) 121 := rfl
theorem r290_120 : zr 290 120 [v0, v1, v2, v3, v4, v5, v6, v7, v8, v9, v10, v11] (.int y1 :: .int y2 :: st) u P = zr 290 121 [v0, v1, v2, v3, v4, v5, v6, v7, v8, v9, v10, v11] (.int (y2 + y1) :: st) u P := zr_B k290_120
theorem k290_121 : xcd 290 121 = oIl 4 123 := rfl
theorem r290_121 : zr 290 121 [v0, v1, v2, v3, .int x4, v5, v6, v7, v8, v9, v10, v11] st u P = zr 290 123 [v0, v1, v2, v3, .int x4, v5, v6, v7, v8, v9, v10, v11] (.int x4 :: st) u P := zr_Il k290_121 rfl
theorem k290_123 : xcd 290 123 = oSt 13 (fun x => x) 124 := rfl
theorem r290_123 : zr 290 123 [v0, v1, v2, v3, v4, v5, v6, v7, v8, v9, v10, v11] (.int y2 :: .int y1 :: .ref b1 :: st) u P = ((xIs u b1 13 ∧ xinb y1 (xN u b1)) ∧ zr 290 124 [v0, v1, v2, v3, v4, v5, v6, v7, v8, v9, v10, v11] st (xsI u b1 (xix y1) y2) P) := zr_St k290_123
theorem k290_124 : xcd 290 124 = oAl 0 125 := rfl
theorem r290_124 : zr 290 124 [.ref a0, v1, v2, v3, v4, v5, v6, v7, v8, v9, v10, v11] st u P = zr 290 125 [.ref a0, v1, v2, v3, v4, v5, v6, v7, v8, v9, v10, v11] (.ref a0 :: st) u P := zr_Al k290_124 rfl
theorem k290_125 : xcd 290 125 = oGR 11 19 128 := rfl
theorem r290_125 : zr 290 125 [v0, v1, v2, v3, v4, v5, v6, v7, v8, v9, v10, v11] (.ref b1 :: st) u P = (xIs u b1 11 ∧ ∃ b, xR u b1 19 = some b ∧ zr 290 128 [v0, v1, v2, v3, v4, v5, v6, v7, v8, v9, v10, v11] (.ref b :: st) u P) := zr_GR k290_125
theorem k290_128 : xcd 290 128 = oIl 8 130 := rfl
theorem r290_128 : zr 290 128 [v0, v1, v2, v3, v4, v5, v6, v7, .int x8, v9, v10, v11] st u P = zr 290 130 [v0, v1, v2, v3, v4, v5, v6, v7, .int x8, v9, v10, v11] (.int x8 :: st) u P := zr_Il k290_128 rfl
theorem k290_130 : xcd 290 130 = oI 4 131 := rfl
theorem r290_130 : zr 290 130 [v0, v1, v2, v3, v4, v5, v6, v7, v8, v9, v10, v11] st u P = zr 290 131 [v0, v1, v2, v3, v4, v5, v6, v7, v8, v9, v10, v11] (.int 4 :: st) u P := zr_I k290_130
theorem k290_131 : xcd 290 131 = oB (fun x y => x + y) 132 := rfl
theorem r290_131 : zr 290 131 [v0, v1, v2, v3, v4, v5, v6, v7, v8, v9, v10, v11] (.int y1 :: .int y2 :: st) u P = zr 290 132 [v0, v1, v2, v3, v4, v5, v6, v7, v8, v9, v10, v11] (.int (y2 + y1) :: st) u P := zr_B k290_131
theorem k290_132 : xcd 290 132 = oIl 5 134 := rfl
theorem r290_132 : zr 290 132 [v0, v1, v2, v3, v4, .int x5, v6, v7, v8, v9, v10, v11] st u P = zr 290 134 [v0, v1, v2, v3, v4, .int x5, v6, v7, v8, v9, v10, v11] (.int x5 :: st) u P := zr_Il k290_132 rfl
theorem k290_134 : xcd 290 134 = oSt 13 (fun x => x) 135 := rfl
theorem r290_134 : zr 290 134 [v0, v1, v2, v3, v4, v5, v6, v7, v8, v9, v10, v11] (.int y2 :: .int y1 :: .ref b1 :: st) u P = ((xIs u b1 13 ∧ xinb y1 (xN u b1)) ∧ zr 290 135 [v0, v1, v2, v3, v4, v5, v6, v7, v8, v9, v10, v11] st (xsI u b1 (xix y1) y2) P) := zr_St k290_134
theorem k290_135 : xcd 290 135 = oAl 0 136 := rfl
theorem r290_135 : zr 290 135 [.ref a0, v1, v2, v3, v4, v5, v6, v7, v8, v9, v10, v11] st u P = zr 290 136 [.ref a0, v1, v2, v3, v4, v5, v6, v7, v8, v9, v10, v11] (.ref a0 :: st) u P := zr_Al k290_135 rfl
theorem k290_136 : xcd 290 136 = oGR 11 19 139 := rfl
theorem r290_136 : zr 290 136 [v0, v1, v2, v3, v4, v5, v6, v7, v8, v9, v10, v11] (.ref b1 :: st) u P = (xIs u b1 11 ∧ ∃ b, xR u b1 19 = some b ∧ zr 290 139 [v0, v1, v2, v3, v4, v5, v6, v7, v8, v9, v10, v11] (.ref b :: st) u P) := zr_GR k290_136
theorem k290_139 : xcd 290 139 = oIl 8 141 := rfl
theorem r290_139 : zr 290 139 [v0, v1, v2, v3, v4, v5, v6, v7, .int x8, v9, v10, v11] st u P = zr 290 141 [v0, v1, v2, v3, v4, v5, v6, v7, .int x8, v9, v10, v11] (.int x8 :: st) u P := zr_Il k290_139 rfl
theorem k290_141 : xcd 290 141 = oI 5 142 := rfl
theorem r290_141 : zr 290 141 [v0, v1, v2, v3, v4, v5, v6, v7, v8, v9, v10, v11] st u P = zr 290 142 [v0, v1, v2, v3, v4, v5, v6, v7, v8, v9, v10, v11] (.int 5 :: st) u P := zr_I k290_141
theorem k290_142 : xcd 290 142 = oB (fun x y => x + y) 143 := rfl
theorem r290_142 : zr 290 142 [v0, v1, v2, v3, v4, v5, v6, v7, v8, v9, v10, v11] (.int y1 :: .int y2 :: st) u P = zr 290 143 [v0, v1, v2, v3, v4, v5, v6, v7, v8, v9, v10, v11] (.int (y2 + y1) :: st) u P := zr_B k290_142
theorem k290_143 : xcd 290 143 = oIl 6 145 := rfl
theorem r290_143 : zr 290 143 [v0, v1, v2, v3, v4, v5, .int x6, v7, v8, v9, v10, v11] st u P = zr 290 145 [v0, v1, v2, v3, v4, v5, .int x6, v7, v8, v9, v10, v11] (.int x6 :: st) u P := zr_Il k290_143 rfl
theorem k290_145 : xcd 290 145 = oSt 13 (fun x => x) 146 := rfl
theorem r290_145 : zr 290 145 [v0, v1, v2, v3, v4, v5, v6, v7, v8, v9, v10, v11] (.int y2 :: .int y1 :: .ref b1 :: st) u P = ((xIs u b1 13 ∧ xinb y1 (xN u b1)) ∧ zr 290 146 [v0, v1, v2, v3, v4, v5, v6, v7, v8, v9, v10, v11] st (xsI u b1 (xix y1) y2) P) := zr_St k290_145
theorem k290_146 : xcd 290 146 = oAl 0 147 := rfl
theorem r290_146 : zr 290 146 [.ref a0, v1, v2, v3, v4, v5, v6, v7, v8, v9, v10, v11] st u P = zr 290 147 [.ref a0, v1, v2, v3, v4, v5, v6, v7, v8, v9, v10, v11] (.ref a0 :: st) u P := zr_Al k290_146 rfl
theorem k290_147 : xcd 290 147 = oGR 11 19 150 := rfl
theorem r290_147 : zr 290 147 [v0, v1, v2, v3, v4, v5, v6, v7, v8, v9, v10, v11] (.ref b1 :: st) u P = (xIs u b1 11 ∧ ∃ b, xR u b1 19 = some b ∧ zr 290 150 [v0, v1, v2, v3, v4, v5, v6, v7, v8, v9, v10, v11] (.ref b :: st) u P) := zr_GR k290_147
theorem k290_150 : xcd 290 150 = oIl 8 152 := rfl
theorem r290_150 : zr 290 150 [v0, v1, v2, v3, v4, v5, v6, v7, .int x8, v9, v10, v11] st u P = zr 290 152 [v0, v1, v2, v3, v4, v5, v6, v7, .int x8, v9, v10, v11] (.int x8 :: st) u P := zr_Il k290_150 rfl
theorem k290_152 : xcd 290 152 = oI 6 154 := rfl
theorem r290_152 : zr 290 152 [v0, v1, v2, v3, v4, v5, v6, v7, v8, v9, v10, v11] st u P = zr 290 154 [v0, v1, v2, v3, v4, v5, v6, v7, v8, v9, v10, v11] (.int 6 :: st) u P := zr_I k290_152
theorem k290_154 : xcd 290 154 = oB (fun x y => x + y) 155 := rfl
theorem r290_154 : zr 290 154 [v0, v1, v2, v3, v4, v5, v6, v7, v8, v9, v10, v11] (.int y1 :: .int y2 :: st) u P = zr 290 155 [v0, v1, v2, v3, v4, v5, v6, v7, v8, v9, v10, v11] (.int (y2 + y1) :: st) u P := zr_B k290_154
theorem k290_155 : xcd 290 155 = oIl 5 157 := rfl
theorem r290_155 : zr 290 155 [v0, v1, v2, v3, v4, .int x5, v6, v7, v8, v9, v10, v11] st u P = zr 290 157 [v0, v1, v2, v3, v4, .int x5, v6, v7, v8, v9, v10, v11] (.int x5 :: st) u P := zr_Il k290_155 rfl
theorem k290_157 : xcd 290 157 = oSt 13 (fun x => x) 158 := rfl
theorem r290_157 : zr 290 157 [v0, v1, v2, v3, v4, v5, v6, v7, v8, v9, v10, v11] (.int y2 :: .int y1 :: .ref b1 :: st) u P = ((xIs u b1 13 ∧ xinb y1 (xN u b1)) ∧ zr 290 158 [v0, v1, v2, v3, v4, v5, v6, v7, v8, v9, v10, v11] st (xsI u b1 (xix y1) y2) P) := zr_St k290_157
theorem k290_158 : xcd 290 158 = oAl 0 159 := rfl
theorem r290_158 : zr 290 158 [.ref a0, v1, v2, v3, v4, v5, v6, v7, v8, v9, v10, v11] st u P = zr 290 159 [.ref a0, v1, v2, v3, v4, v5, v6, v7, v8, v9, v10, v11] (.ref a0 :: st) u P := zr_Al k290_158 rfl
theorem k290_159 : xcd 290 159 = oGR 11 19 162 := rfl
theorem r290_159 : zr 290 159 [v0, v1, v2, v3, v4, v5, v6, v7, v8, v9, v10, v11] (.ref b1 :: st) u P = (xIs u b1 11 ∧ ∃ b, xR u b1 19 = some b ∧ zr 290 162 [v0, v1, v2, v3, v4, v5, v6, v7, v8, v9, v10, v11] (.ref b :: st) u P) := zr_GR k290_159
theorem k290_162 : xcd 290 162 = oIl 8 164 := rfl
theorem r290_162 : zr 290 162 [v0, v1, v2, v3, v4, v5, v6, v7, .int x8, v9, v10, v11] st u P = zr 290 164 [v0, v1, v2, v3, v4, v5, v6, v7, .int x8, v9, v10, v11] (.int x8 :: st) u P := zr_Il k290_162 rfl
theorem k290_164 : xcd 290 164 = oI 7 166 := rfl
theorem r290_164 : zr 290 164 [v0, v1, v2, v3, v4, v5, v6, v7, v8, v9, v10, v11] st u P = zr 290 166 [v0, v1, v2, v3, v4, v5, v6, v7, v8, v9, v10, v11] (.int 7 :: st) u P := zr_I k290_164
theorem k290_166 : xcd 290 166 = oB (fun x y => x + y) 167 := rfl
theorem r290_166 : zr 290 166 [v0, v1, v2, v3, v4, v5, v6, v7, v8, v9, v10, v11] (.int y1 :: .int y2 :: st) u P = zr 290 167 [v0, v1, v2, v3, v4, v5, v6, v7, v8, v9, v10, v11] (.int (y2 + y1) :: st) u P := zr_B k290_166
theorem k290_167 : xcd 290 167 = oIl 9 169 := rfl
theorem r290_167 : zr 290 167 [v0, v1, v2, v3, v4, v5, v6, v7, v8, .int x9, v10, v11] st u P = zr 290 169 [v0, v1, v2, v3, v4, v5, v6, v7, v8, .int x9, v10, v11] (.int x9 :: st) u P := zr_Il k290_167 rfl
theorem k290_169 : xcd 290 169 = oSt 13 (fun x => x) 170 := rfl
theorem r290_169 : zr 290 169 [v0, v1, v2, v3, v4, v5, v6, v7, v8, v9, v10, v11] (.int y2 :: .int y1 :: .ref b1 :: st) u P = ((xIs u b1 13 ∧ xinb y1 (xN u b1)) ∧ zr 290 170 [v0, v1, v2, v3, v4, v5, v6, v7, v8, v9, v10, v11] st (xsI u b1 (xix y1) y2) P) := zr_St k290_169
theorem k290_170 : xcd 290 170 = oAl 0 171 := rfl
theorem r290_170 : zr 290 170 [.ref a0, v1, v2, v3, v4, v5, v6, v7, v8, v9, v10, v11] st u P = zr 290 171 [.ref a0, v1, v2, v3, v4, v5, v6, v7, v8, v9, v10, v11] (.ref a0 :: st) u P := zr_Al k290_170 rfl
theorem k290_171 : xcd 290 171 = oGR 11 19 174 := rfl
theorem r290_171 : zr 290 171 [v0, v1, v2, v3, v4, v5, v6, v7, v8, v9, v10, v11] (.ref b1 :: st) u P = (xIs u b1 11 ∧ ∃ b, xR u b1 19 = some b ∧ zr 290 174 [v0, v1, v2, v3, v4, v5, v6, v7, v8, v9, v10, v11] (.ref b :: st) u P) := zr_GR k290_171
theorem k290_174 : xcd 290 174 = oIl 8 176 := rfl
theorem r290_174 : zr 290 174 [v0, v1, v2, v3, v4, v5, v6, v7, .int x8, v9, v10, v11] st u P = zr 290 176 [v0, v1, v2, v3, v4, v5, v6, v7, .int x8, v9, v10, v11] (.int x8 :: st) u P := zr_Il k290_174 rfl
theorem k290_176 : xcd 290 176 = oI 8 178 := rfl
theorem r290_176 : zr 290 176 [v0, v1, v2, v3, v4, v5, v6, v7, v8, v9, v10, v11] st u P = zr 290 178 [v0, v1, v2, v3, v4, v5, v6, v7, v8, v9, v10, v11] (.int 8 :: st) u P := zr_I k290_176
theorem k290_178 : xcd 290 178 = oB (fun x y => x + y) 179 := rfl
theorem r290_178 : zr 290 178 [v0, v1, v2, v3, v4, v5, v6, v7, v8, v9, v10, v11] (.int y1 :: .int y2 :: st) u P = zr 290 179 [v0, v1, v2, v3, v4, v5, v6, v7, v8, v9, v10, v11] (.int (y2 + y1) :: st) u P := zr_B k290_178
theorem k290_179 : xcd 290 179 = oI 0 180 := rfl
theorem r290_179 : zr 290 179 [v0, v1, v2, v3, v4, v5, v6, v7, v8, v9, v10, v11] st u P = zr 290 180 [v0, v1, v2, v3, v4, v5, v6, v7, v8, v9, v10, v11] (.int 0 :: st) u P := zr_I k290_179
theorem k290_180 : xcd 290 180 = oSt 13 (fun x => x) 181 := rfl
theorem r290_180 : zr 290 180 [v0, v1, v2, v3, v4, v5, v6, v7, v8, v9, v10, v11] (.int y2 :: .int y1 :: .ref b1 :: st) u P = ((xIs u b1 13 ∧ xinb y1 (xN u b1)) ∧ zr 290 181 [v0, v1, v2, v3, v4, v5, v6, v7, v8, v9, v10, v11] st (xsI u b1 (xix y1) y2) P) := zr_St k290_180
theorem k290_181 : xcd 290 181 = oI 0 182 := rfl
theorem r290_181 : zr 290 181 [v0, v1, v2, v3, v4, v5, v6, v7, v8, v9, v10, v11] st u P = zr 290 182 [v0, v1, v2, v3, v4, v5, v6, v7, v8, v9, v10, v11] (.int 0 :: st) u P := zr_I k290_181
theorem k290_182 : xcd 290 182 = oIs 10 184 := rfl
theorem r290_182 : zr 290 182 [v0, v1, v2, v3, v4, v5, v6, v7, v8, .int x9, v10, v11] (.int y1 :: st) u P = zr 290 184 [v0, v1, v2, v3, v4, v5, v6, v7, v8, .int x9, .int y1, v11] st u P := zr_Is k290_182 ⟨Nat.le_of_ble_eq_true rfl, rfl⟩
theorem k290_184 : xcd 290 184 = oIl 10 186 := rfl
theorem r290_184 : zr 290 184 [v0, v1, v2, v3, v4, v5, v6, v7, v8, v9, .int x10, v11] st u P = zr 290 186 [v0, v1, v2, v3, v4, v5, v6, v7, v8, v9, .int x10, v11] (.int x10 :: st) u P := zr_Il k290_184 rfl
theorem k290_186 : xcd 290 186 = oIl 9 188 := rfl
theorem r290_186 : zr 290 186 [v0, v1, v2, v3, v4, v5, v6, v7, v8, .int x9, v10, v11] st u P = zr 290 188 [v0, v1, v2, v3, v4, v5, v6, v7, v8, .int x9, v10, v11] (.int x9 :: st) u P := zr_Il k290_186 rfl
theorem k290_188 : xcd 290 188 = oCmp (fun x y => decide (y ≤ x)) 301 191 := rfl
theorem r290_188 : zr 290 188 [v0, v1, v2, v3, v4, v5, v6, v7, v8, v9, v10, v11] (.int y1 :: .int y2 :: st) u P = (if y1 ≤ y2 then zr 290 301 [v0, v1, v2, v3, v4, v5, v6, v7, v8, v9, v10, v11] st u P else zr 290 191 [v0, v1, v2, v3, v4, v5, v6, v7, v8, v9, v10, v11] st u P) := zr_Cmp k290_188
theorem k290_191 : xcd 290 191 = oIl 8 193 := rfl
theorem r290_191 : zr 290 191 [v0, v1, v2, v3, v4, v5, v6, v7, .int x8, v9, v10, v11] st u P = zr 290 193 [v0, v1, v2, v3, v4, v5, v6, v7, .int x8, v9, v10, v11] (.int x8 :: st) u P := zr_Il k290_191 rfl
theorem k290_193 : xcd 290 193 = oI 9 195 := rfl
theorem r290_193 : zr 290 193 [v0, v1, v2, v3, v4, v5, v6, v7, v8, v9, v10, v11] st u P = zr 290 195 [v0, v1, v2, v3, v4, v5, v6, v7, v8, v9, v10, v11] (.int 9 :: st) u P := zr_I k290_193
theorem k290_195 : xcd 290 195 = oB (fun x y => x + y) 196 := rfl
theorem r290_195 : zr 290 195 [v0, v1, v2, v3, v4, v5, v6, v7, v8, v9, v10, v11] (.int y1 :: .int y2 :: st) u P = zr 290 196 [v0, v1, v2, v3, v4, v5, v6, v7, v8, v9, v10, v11] (.int (y2 + y1) :: st) u P := zr_B k290_195
theorem k290_196 : xcd 290 196 = oI 4 197 := rfl
theorem r290_196 : zr 290 196 [v0, v1, v2, v3, v4, v5, v6, v7, v8, v9, v10, v11] st u P = zr 290 197 [v0, v1, v2, v3, v4, v5, v6, v7, v8, v9, v10, v11] (.int 4 :: st) u P := zr_I k290_196
theorem k290_197 : xcd 290 197 = oIl 10 199 := rfl
theorem r290_197 : zr 290 197 [v0, v1, v2, v3, v4, v5, v6, v7, v8, v9, .int x10, v11] st u P = zr 290 199 [v0, v1, v2, v3, v4, v5, v6, v7, v8, v9, .int x10, v11] (.int x10 :: st) u P := zr_Il k290_197 rfl
theorem k290_199 : xcd 290 199 = oB (fun x y => x * y) 200 := rfl
theorem r290_199 : zr 290 199 [v0, v1, v2, v3, v4, v5, v6, v7, v8, v9, v10, v11] (.int y1 :: .int y2 :: st) u P = zr 290 200 [v0, v1, v2, v3, v4, v5, v6, v7, v8, v9, v10, v11] (.int (y2 * y1) :: st) u P := zr_B k290_199
theorem k290_200 : xcd 290 200 = oB (fun x y => x + y) 201 := rfl
theorem r290_200 : zr 290 200 [v0, v1, v2, v3, v4, v5, v6, v7, v8, v9, v10, v11] (.int y1 :: .int y2 :: st) u P = zr 290 201 [v0, v1, v2, v3, v4, v5, v6, v7, v8, v9, v10, v11] (.int (y2 + y1) :: st) u P := zr_B k290_200
theorem k290_201 : xcd 290 201 = oIs 11 203 := rfl
theorem r290_201 : zr 290 201 [v0, v1, v2, v3, v4, v5, v6, v7, v8, v9, .int x10, v11] (.int y1 :: st) u P = zr 290 203 [v0, v1, v2, v3, v4, v5, v6, v7, v8, v9, .int x10, .int y1] st u P := zr_Is k290_201 ⟨Nat.le_of_ble_eq_true rfl, rfl⟩
theorem k290_203 : xcd 290 203 = oAl 0 204 := rfl
theorem r290_203 : zr 290 203 [.ref a0, v1, v2, v3, v4, v5, v6, v7, v8, v9, v10, v11] st u P = zr 290 204 [.ref a0, v1, v2, v3, v4, v5, v6, v7, v8, v9, v10, v11] (.ref a0 :: st) u P := zr_Al k290_203 rfl
theorem k290_204 : xcd 290 204 = oGR 11 19 207 := rfl
theorem r290_204 : zr 290 204 [v0, v1, v2, v3, v4, v5, v6, v7, v8, v9, v10, v11] (.ref b1 :: st) u P = (xIs u b1 11 ∧ ∃ b, xR u b1 19 = some b ∧ zr 290 207 [v0, v1, v2, v3, v4, v5, v6, v7, v8, v9, v10, v11] (.ref b :: st) u P) := zr_GR k290_204
theorem k290_207 : xcd 290 207 = oIl 11 209 := rfl
theorem r290_207 : zr 290 207 [v0, v1, v2, v3, v4, v5, v6, v7, v8, v9, v10, .int x11] st u P = zr 290 209 [v0, v1, v2, v3, v4, v5, v6, v7, v8, v9, v10, .int x11] (.int x11 :: st) u P := zr_Il k290_207 rfl
theorem k290_209 : xcd 290 209 = oAl 0 210 := rfl
theorem r290_209 : zr 290 209 [.ref a0, v1, v2, v3, v4, v5, v6, v7, v8, v9, v10, v11] st u P = zr 290 210 [.ref a0, v1, v2, v3, v4, v5, v6, v7, v8, v9, v10, v11] (.ref a0 :: st) u P := zr_Al k290_209 rfl
theorem k290_210 : xcd 290 210 = oGR 11 17 213 := rfl
theorem r290_210 : zr 290 210 [v0, v1, v2, v3, v4, v5, v6, v7, v8, v9, v10, v11] (.ref b1 :: st) u P = (xIs u b1 11 ∧ ∃ b, xR u b1 17 = some b ∧ zr 290 213 [v0, v1, v2, v3, v4, v5, v6, v7, v8, v9, v10, v11] (.ref b :: st) u P) := zr_GR k290_210
theorem k290_213 : xcd 290 213 = oIl 10 215 := rfl
theorem r290_213 : zr 290 213 [v0, v1, v2, v3, v4, v5, v6, v7, v8, v9, .int x10, v11] st u P = zr 290 215 [v0, v1, v2, v3, v4, v5, v6, v7, v8, v9, .int x10, v11] (.int x10 :: st) u P := zr_Il k290_213 rfl
theorem k290_215 : xcd 290 215 = oLd 13 216 := rfl
theorem r290_215 : zr 290 215 [v0, v1, v2, v3, v4, v5, v6, v7, v8, v9, v10, v11] (.int y1 :: .ref b1 :: st) u P = ((xIs u b1 13 ∧ xinb y1 (xN u b1)) ∧ zr 290 216 [v0, v1, v2, v3, v4, v5, v6, v7, v8, v9, v10, v11] (.int (xI u b1 (xix y1)) :: st) u P) := zr_Ld k290_215
theorem k290_216 : xcd 290 216 = oSt 13 (fun x => x) 217 := rfl
theorem r290_216 : zr 290 216 [v0, v1, v2, v3, v4, v5, v6, v7, v8, v9, v10, v11] (.int y2 :: .int y1 :: .ref b1 :: st) u P = ((xIs u b1 13 ∧ xinb y1 (xN u b1)) ∧ zr 290 217 [v0, v1, v2, v3, v4, v5, v6, v7, v8, v9, v10, v11] st (xsI u b1 (xix y1) y2) P) := zr_St k290_216
theorem k290_217 : xcd 290 217 = oAl 0 218 := rfl
theorem r290_217 : zr 290 217 [.ref a0, v1, v2, v3, v4, v5, v6, v7, v8, v9, v10, v11] st u P = zr 290 218 [.ref a0, v1, v2, v3, v4, v5, v6, v7, v8, v9, v10, v11] (.ref a0 :: st) u P := zr_Al k290_217 rfl
theorem k290_218 : xcd 290 218 = oGR 11 19 221 := rfl
theorem r290_218 : zr 290 218 [v0, v1, v2, v3, v4, v5, v6, v7, v8, v9, v10, v11] (.ref b1 :: st) u P = (xIs u b1 11 ∧ ∃ b, xR u b1 19 = some b ∧ zr 290 221 [v0, v1, v2, v3, v4, v5, v6, v7, v8, v9, v10, v11] (.ref b :: st) u P) := zr_GR k290_218
theorem k290_221 : xcd 290 221 = oIl 11 223 := rfl
theorem r290_221 : zr 290 221 [v0, v1, v2, v3, v4, v5, v6, v7, v8, v9, v10, .int x11] st u P = zr 290 223 [v0, v1, v2, v3, v4, v5, v6, v7, v8, v9, v10, .int x11] (.int x11 :: st) u P := zr_Il k290_221 rfl
theorem k290_223 : xcd 290 223 = oI 1 224 := rfl
theorem r290_223 : zr 290 223 [v0, v1, v2, v3, v4, v5, v6, v7, v8, v9, v10, v11] st u P = zr 290 224 [v0, v1, v2, v3, v4, v5, v6, v7, v8, v9, v10, v11] (.int 1 :: st) u P := zr_I k290_223
theorem k290_224 : xcd 290 224 = oB (fun x y => x + y) 225 := rfl
theorem r290_224 : zr 290 224 [v0, v1, v2, v3, v4, v5, v6, v7, v8, v9, v10, v11] (.int y1 :: .int y2 :: st) u P = zr 290 225 [v0, v1, v2, v3, v4, v5, v6, v7, v8, v9, v10, v11] (.int (y2 + y1) :: st) u P := zr_B k290_224
theorem k290_225 : xcd 290 225 = oAl 0 226 := rfl
theorem r290_225 : zr 290 225 [.ref a0, v1, v2, v3, v4, v5, v6, v7, v8, v9, v10, v11] st u P = zr 290 226 [.ref a0, v1, v2, v3, v4, v5, v6, v7, v8, v9, v10, v11] (.ref a0 :: st) u P := zr_Al k290_225 rfl
theorem k290_226 : xcd 290 226 = oAl 0 227 := rfl
theorem r290_226 : zr 290 226 [.ref a0, v1, v2, v3, v4, v5, v6, v7, v8, v9, v10, v11] st u P = zr 290 227 [.ref a0, v1, v2, v3, v4, v5, v6, v7, v8, v9, v10, v11] (.ref a0 :: st) u P := zr_Al k290_226 rfl
theorem k290_227 : xcd 290 227 = oGR 11 17 230 := rfl
theorem r290_227 : zr 290 227 [v0, v1, v2, v3, v4, v5, v6, v7, v8, v9, v10, v11] (.ref b1 :: st) u P = (xIs u b1 11 ∧ ∃ b, xR u b1 17 = some b ∧ zr 290 230 [v0, v1, v2, v3, v4, v5, v6, v7, v8, v9, v10, v11] (.ref b :: st) u P) := zr_GR k290_227
theorem k290_230 : xcd 290 230 = oIl 10 232 := rfl
theorem r290_230 : zr 290 230 [v0, v1, v2, v3, v4, v5, v6, v7, v8, v9, .int x10, v11] st u P = zr 290 232 [v0, v1, v2, v3, v4, v5, v6, v7, v8, v9, .int x10, v11] (.int x10 :: st) u P := zr_Il k290_230 rfl
theorem k290_232 : xcd 290 232 = oLd 13 233 := rfl
theorem r290_232 : zr 290 232 [v0, v1, v2, v3, v4, v5, v6, v7, v8, v9, v10, v11] (.int y1 :: .ref b1 :: st) u P = ((xIs u b1 13 ∧ xinb y1 (xN u b1)) ∧ zr 290 233 [v0, v1, v2, v3, v4, v5, v6, v7, v8, v9, v10, v11] (.int (xI u b1 (xix y1)) :: st) u P) := zr_Ld k290_232
theorem k290_233 : xcd 290 233 = oIl 4 235 := rfl
theorem r290_233 : zr 290 233 [v0, v1, v2, v3, .int x4, v5, v6, v7, v8, v9, v10, v11] st u P = zr 290 235 [v0, v1, v2, v3, .int x4, v5, v6, v7, v8, v9, v10, v11] (.int x4 :: st) u P := zr_Il k290_233 rfl
theorem k290_235 : xcd 290 235 = oIl 1 236 := rfl
theorem r290_235 : zr 290 235 [v0, .int x1, v2, v3, v4, v5, v6, v7, v8, v9, v10, v11] st u P = zr 290 236 [v0, .int x1, v2, v3, v4, v5, v6, v7, v8, v9, v10, v11] (.int x1 :: st) u P := zr_Il k290_235 rfl
theorem k290_236 : xcd 290 236 = oCalV 11 245 3 239 := rfl
theorem r290_236 : zr 290 236 [v0, v1, v2, v3, v4, v5, v6, v7, v8, v9, v10, v11] (.int y3 :: .int y2 :: .int y1 :: .ref b8 :: st) u P = ((xIs u b8 11 ∧ xcat st ≤ 8) ∧ zr 245 0 [.ref b8, .int y1, .int y2, .int y3, .null] [] u (fun r u2 => zr 290 239 [v0, v1, v2, v3, v4, v5, v6, v7, v8, v9, v10, v11] (r.toList ++ st) u2 P)) := zr_CV k290_236 rfl rfl rfl ⟨Nat.le_of_ble_eq_true rfl, Nat.succ_ne_zero _, by decide⟩ rfl
theorem k290_239 : xcd 290 239 = oSt 13 (fun x => x) 240 := rfl
theorem r290_239 : zr 290 239 [v0, v1, v2, v3, v4, v5, v6, v7, v8, v9, v10, v11] (.int y2 :: .int y1 :: .ref b1 :: st) u P = ((xIs u b1 13 ∧ xinb y1 (xN u b1)) ∧ zr 290 240 [v0, v1, v2, v3, v4, v5, v6, v7, v8, v9, v10, v11] st (xsI u b1 (xix y1) y2) P) := zr_St k290_239
theorem k290_240 : xcd 290 240 = oAl 0 241 := rfl
theorem r290_240 : zr 290 240 [.ref a0, v1, v2, v3, v4, v5, v6, v7, v8, v9, v10, v11] st u P = zr 290 241 [.ref a0, v1, v2, v3, v4, v5, v6, v7, v8, v9, v10, v11] (.ref a0 :: st) u P := zr_Al k290_240 rfl
theorem k290_241 : xcd 290 241 = oGR 11 19 244 := rfl
theorem r290_241 : zr 290 241 [v0, v1, v2, v3, v4, v5, v6, v7, v8, v9, v10, v11] (.ref b1 :: st) u P = (xIs u b1 11 ∧ ∃ b, xR u b1 19 = some b ∧ zr 290 244 [v0, v1, v2, v3, v4, v5, v6, v7, v8, v9, v10, v11] (.ref b :: st) u P) := zr_GR k290_241
theorem k290_244 : xcd 290 244 = oIl 11 246 := rfl
theorem r290_244 : zr 290 244 [v0, v1, v2, v3, v4, v5, v6, v7, v8, v9, v10, .int x11] st u P = zr 290 246 [v0, v1, v2, v3, v4, v5, v6, v7, v8, v9, v10, .int x11] (.int x11 :: st) u P := zr_Il k290_244 rfl
theorem k290_246 : xcd 290 246 = oI 2 247 := rfl
theorem r290_246 : zr 290 246 [v0, v1, v2, v3, v4, v5, v6, v7, v8, v9, v10, v11] st u P = zr 290 247 [v0, v1, v2, v3, v4, v5, v6, v7, v8, v9, v10, v11] (.int 2 :: st) u P := zr_I k290_246
theorem k290_247 : xcd 290 247 = oB (fun x y => x + y) 248 := rfl
theorem r290_247 : zr 290 247 [v0, v1, v2, v3, v4, v5, v6, v7, v8, v9, v10, v11] (.int y1 :: .int y2 :: st) u P = zr 290 248 [v0, v1, v2, v3, v4, v5, v6, v7, v8, v9, v10, v11] (.int (y2 + y1) :: st) u P := zr_B k290_247
theorem k290_248 : xcd 290 248 = oAl 0 249 := rfl
theorem r290_248 : zr 290 248 [.ref a0, v1, v2, v3, v4, v5, v6, v7, v8, v9, v10, v11] st u P = zr 290 249 [.ref a0, v1, v2, v3, v4, v5, v6, v7, v8, v9, v10, v11] (.ref a0 :: st) u P := zr_Al k290_248 rfl
theorem k290_249 : xcd 290 249 = oAl 0 250 := rfl
theorem r290_249 : zr 290 249 [.ref a0, v1, v2, v3, v4, v5, v6, v7, v8, v9, v10, v11] st u P = zr 290 250 [.ref a0, v1, v2, v3, v4, v5, v6, v7, v8, v9, v10, v11] (.ref a0 :: st) u P := zr_Al k290_249 rfl
theorem k290_250 : xcd 290 250 = oGR 11 17 253 := rfl
theorem r290_250 : zr 290 250 [v0, v1, v2, v3, v4, v5, v6, v7, v8, v9, v10, v11] (.ref b1 :: st) u P = (xIs u b1 11 ∧ ∃ b, xR u b1 17 = some b ∧ zr 290 253 [v0, v1, v2, v3, v4, v5, v6, v7, v8, v9, v10, v11] (.ref b :: st) u P) := zr_GR k290_250
theorem k290_253 : xcd 290 253 = oIl 10 255 := rfl
theorem r290_253 : zr 290 253 [v0, v1, v2, v3, v4, v5, v6, v7, v8, v9, .int x10, v11] st u P = zr 290 255 [v0, v1, v2, v3, v4, v5, v6, v7, v8, v9, .int x10, v11] (.int x10 :: st) u P := zr_Il k290_253 rfl
theorem k290_255 : xcd 290 255 = oLd 13 256 := rfl
theorem r290_255 : zr 290 255 [v0, v1, v2, v3, v4, v5, v6, v7, v8, v9, v10, v11] (.int y1 :: .ref b1 :: st) u P = ((xIs u b1 13 ∧ xinb y1 (xN u b1)) ∧ zr 290 256 [v0, v1, v2, v3, v4, v5, v6, v7, v8, v9, v10, v11] (.int (xI u b1 (xix y1)) :: st) u P) := zr_Ld k290_255
theorem k290_256 : xcd 290 256 = oIl 4 258 := rfl
theorem r290_256 : zr 290 256 [v0, v1, v2, v3, .int x4, v5, v6, v7, v8, v9, v10, v11] st u P = zr 290 258 [v0, v1, v2, v3, .int x4, v5, v6, v7, v8, v9, v10, v11] (.int x4 :: st) u P := zr_Il k290_256 rfl
theorem k290_258 : xcd 290 258 = oCalV 11 248 2 261 := rfl
theorem r290_258 : zr 290 258 [v0, v1, v2, v3, v4, v5, v6, v7, v8, v9, v10, v11] (.int y2 :: .int y1 :: .ref b8 :: st) u P = ((xIs u b8 11 ∧ xcat st ≤ 8) ∧ zr 248 0 [.ref b8, .int y1, .int y2, .null] [] u (fun r u2 => zr 290 261 [v0, v1, v2, v3, v4, v5, v6, v7, v8, v9, v10, v11] (r.toList ++ st) u2 P)) := zr_CV k290_258 rfl rfl rfl ⟨Nat.le_of_ble_eq_true rfl, Nat.succ_ne_zero _, by decide⟩ rfl
theorem k290_261 : xcd 290 261 = oSt 13 (fun x => x) 262 := rfl
theorem r290_261 : zr 290 261 [v0, v1, v2, v3, v4, v5, v6, v7, v8, v9, v10, v11] (.int y2 :: .int y1 :: .ref b1 :: st) u P = ((xIs u b1 13 ∧ xinb y1 (xN u b1)) ∧ zr 290 262 [v0, v1, v2, v3, v4, v5, v6, v7, v8, v9, v10, v11] st (xsI u b1 (xix y1) y2) P) := zr_St k290_261
theorem k290_262 : xcd 290 262 = oAl 0 263 := rfl
theorem r290_262 : zr 290 262 [.ref a0, v1, v2, v3, v4, v5, v6, v7, v8, v9, v10, v11] st u P = zr 290 263 [.ref a0, v1, v2, v3, v4, v5, v6, v7, v8, v9, v10, v11] (.ref a0 :: st) u P := zr_Al k290_262 rfl
theorem k290_263 : xcd 290 263 = oGR 11 19 266 := rfl
theorem r290_263 : zr 290 263 [v0, v1, v2, v3, v4, v5, v6, v7, v8, v9, v10, v11] (.ref b1 :: st) u P = (xIs u b1 11 ∧ ∃ b, xR u b1 19 = some b ∧ zr 290 266 [v0, v1, v2, v3, v4, v5, v6, v7, v8, v9, v10, v11] (.ref b :: st) u P) := zr_GR k290_263
theorem k290_266 : xcd 290 266 = oIl 11 268 := rfl
theorem r290_266 : zr 290 266 [v0, v1, v2, v3, v4, v5, v6, v7, v8, v9, v10, .int x11] st u P = zr 290 268 [v0, v1, v2, v3, v4, v5, v6, v7, v8, v9, v10, .int x11] (.int x11 :: st) u P := zr_Il k290_266 rfl
theorem k290_268 : xcd 290 268 = oI 3 269 := rfl
theorem r290_268 : zr 290 268 [v0, v1, v2, v3, v4, v5, v6, v7, v8, v9, v10, v11] st u P = zr 290 269 [v0, v1, v2, v3, v4, v5, v6, v7, v8, v9, v10, v11] (.int 3 :: st) u P := zr_I k290_268
theorem k290_269 : xcd 290 269 = oB (fun x y => x + y) 270 := rfl
theorem r290_269 : zr 290 269 [v0, v1, v2, v3, v4, v5, v6, v7, v8, v9, v10, v11] (.int y1 :: .int y2 :: st) u P = zr 290 270 [v0, v1, v2, v3, v4, v5, v6, v7, v8, v9, v10, v11] (.int (y2 + y1) :: st) u P := zr_B k290_269
theorem k290_270 : xcd 290 270 = oAl 0 271 := rfl
theorem r290_270 : zr 290 270 [.ref a0, v1, v2, v3, v4, v5, v6, v7, v8, v9, v10, v11] st u P = zr 290 271 [.ref a0, v1, v2, v3, v4, v5, v6, v7, v8, v9, v10, v11] (.ref a0 :: st) u P := zr_Al k290_270 rfl
theorem k290_271 : xcd 290 271 = oAl 0 272 := rfl
theorem r290_271 : zr 290 271 [.ref a0, v1, v2, v3, v4, v5, v6, v7, v8, v9, v10, v11] st u P = zr 290 272 [.ref a0, v1, v2, v3, v4, v5, v6, v7, v8, v9, v10, v11] (.ref a0 :: st) u P := zr_Al k290_271 rfl
theorem k290_272 : xcd 290 272 = oGR 11 17 275 := rfl
theorem r290_272 : zr 290 272 [v0, v1, v2, v3, v4, v5, v6, v7, v8, v9, v10, v11] (.ref b1 :: st) u P = (xIs u b1 11 ∧ ∃ b, xR u b1 17 = some b ∧ zr 290 275 [v0, v1, v2, v3, v4, v5, v6, v7, v8, v9, v10, v11] (.ref b :: st) u P) := zr_GR k290_272
theorem k290_275 : xcd 290 275 = oIl 10 277 := rfl
theorem r290_275 : zr 290 275 [v0, v1, v2, v3, v4, v5, v6, v7, v8, v9, .int x10, v11] st u P = zr 290 277 [v0, v1, v2, v3, v4, v5, v6, v7, v8, v9, .int x10, v11] (.int x10 :: st) u P := zr_Il k290_275 rfl
theorem k290_277 : xcd 290 277 = oLd 13 278 := rfl
theorem r290_277 : zr 290 277 [v0, v1, v2, v3, v4, v5, v6, v7, v8, v9, v10, v11] (.int y1 :: .ref b1 :: st) u P = ((xIs u b1 13 ∧ xinb y1 (xN u b1)) ∧ zr 290 278 [v0, v1, v2, v3, v4, v5, v6, v7, v8, v9, v10, v11] (.int (xI u b1 (xix y1)) :: st) u P) := zr_Ld k290_277
theorem k290_278 : xcd 290 278 = oIl 4 280 := rfl
theorem r290_278 : zr 290 278 [v0, v1, v2, v3, .int x4, v5, v6, v7, v8, v9, v10, v11] st u P = zr 290 280 [v0, v1, v2, v3, .int x4, v5, v6, v7, v8, v9, v10, v11] (.int x4 :: st) u P := zr_Il k290_278 rfl
theorem k290_280 : xcd 290 280 = oIl 1 281 := rfl
theorem r290_280 : zr 290 280 [v0, .int x1, v2, v3, v4, v5, v6, v7, v8, v9, v10, v11] st u P = zr 290 281 [v0, .int x1, v2, v3, v4, v5, v6, v7, v8, v9, v10, v11] (.int x1 :: st) u P := zr_Il k290_280 rfl
theorem k290_281 : xcd 290 281 = oIl 6 283 := rfl
theorem r290_281 : zr 290 281 [v0, v1, v2, v3, v4, v5, .int x6, v7, v8, v9, v10, v11] st u P = zr 290 283 [v0, v1, v2, v3, v4, v5, .int x6, v7, v8, v9, v10, v11] (.int x6 :: st) u P := zr_Il k290_281 rfl
theorem k290_283 : xcd 290 283 = oCalV 11 247 4 286 := rfl
theorem r290_283 : zr 290 283 [v0, v1, v2, v3, v4, v5, v6, v7, v8, v9, v10, v11] (.int y4 :: .int y3 :: .int y2 :: .int y1 :: .ref b8 :: st) u P = ((xIs u b8 11 ∧ xcat st ≤ 8) ∧ zr 247 0 [.ref b8, .int y1, .int y2, .int y3, .int y4, .null, .null] [] u (fun r u2 => zr 290 286 [v0, v1, v2, v3, v4, v5, v6, v7, v8, v9, v10, v11] (r.toList ++ st) u2 P)) := zr_CV k290_283 rfl rfl rfl ⟨Nat.le_of_ble_eq_true rfl, Nat.succ_ne_zero _, by decide⟩ rfl
theorem k290_286 : xcd 290 286 = oIf (fun x => decide (x = 0)) 293 289 := rfl
theorem r290_286 : zr 290 286 [v0, v1, v2, v3, v4, v5, v6, v7, v8, v9, v10, v11] (.int y1 :: st) u P = (if y1 = 0 then zr 290 293 [v0, v1, v2, v3, v4, v5, v6, v7, v8, v9, v10, v11] st u P else zr 290 289 [v0, v1, v2, v3, v4, v5, v6, v7, v8, v9, v10, v11] st u P) := zr_If k290_286
theorem k290_289 : xcd 290 289 = oI 1 290 := rfl
theorem r290_289 : zr 290 289 [v0, v1, v2, v3, v4, v5, v6, v7, v8, v9, v10, v11] st u P = zr 290 290 [v0, v1, v2, v3, v4, v5, v6, v7, v8, v9, v10, v11] (.int 1 :: st) u P := zr_I k290_289
theorem k290_290 : xcd 290 290 = oGoto 294 := rfl
theorem r290_290 : zr 290 290 [v0, v1, v2, v3, v4, v5, v6, v7, v8, v9, v10, v11] st u P = zr 290 294 [v0, v1, v2, v3, v4, v5, v6, v7, v8, v9, v10, v11] st u P := zr_Goto k290_290
theorem k290_293 : xcd 290 293 = oI 0 294 := rfl
theorem r290_293 : zr 290 293 [v0, v1, v2, v3, v4, v5, v6, v7, v8, v9, v10, v11] st u P = zr 290 294 [v0, v1, v2, v3, v4, v5, v6, v7, v8, v9, v10, v11] (.int 0 :: st) u P := zr_I k290_293
theorem k290_294 : xcd 290 294 = oSt 13 (fun x => x) 295 := rfl
theorem r290_294 : zr 290 294 [v0, v1, v2, v3, v4, v5, v6, v7, v8, v9, v10, v11] (.int y2 :: .int y1 :: .ref b1 :: st) u P = ((xIs u b1 13 ∧ xinb y1 (xN u b1)) ∧ zr 290 295 [v0, v1, v2, v3, v4, v5, v6, v7, v8, v9, v10, v11] st (xsI u b1 (xix y1) y2) P) := zr_St k290_294
theorem k290_295 : xcd 290 295 = oInc 10 1 298 := rfl
theorem r290_295 : zr 290 295 [v0, v1, v2, v3, v4, v5, v6, v7, v8, .int x9, .int x10, v11] st u P = zr 290 298 [v0, v1, v2, v3, v4, v5, v6, v7, v8, .int x9, .int (x10 + 1), v11] st u P := zr_Inc k290_295 rfl rfl
theorem k290_298 : xcd 290 298 = oGoto 184 := rfl
theorem r290_298 : zr 290 298 [v0, v1, v2, v3, v4, v5, v6, v7, v8, v9, v10, v11] st u P = zr 290 184 [v0, v1, v2, v3, v4, v5, v6, v7, v8, v9, v10, v11] st u P := zr_Goto k290_298
theorem k290_301 : xcd 290 301 = oAl 0 302 := rfl
theorem r290_301 : zr 290 301 [.ref a0, v1, v2, v3, v4, v5, v6, v7, v8, v9, v10, v11] st u P = zr 290 302 [.ref a0, v1, v2, v3, v4, v5, v6, v7, v8, v9, v10, v11] (.ref a0 :: st) u P := zr_Al k290_301 rfl
theorem k290_302 : xcd 290 302 = oI 0 303 := rfl
theorem r290_302 : zr 290 302 [v0, v1, v2, v3, v4, v5, v6, v7, v8, v9, v10, v11] st u P = zr 290 303 [v0, v1, v2, v3, v4, v5, v6, v7, v8, v9, v10, v11] (.int 0 :: st) u P := zr_I k290_302
theorem k290_303 : xcd 290 303 = oAl 0 304 := rfl
theorem r290_303 : zr 290 303 [.ref a0, v1, v2, v3, v4, v5, v6, v7, v8, v9, v10, v11] st u P = zr 290 304 [.ref a0, v1, v2, v3, v4, v5, v6, v7, v8, v9, v10, v11] (.ref a0 :: st) u P := zr_Al k290_303 rfl
theorem k290_304 : xcd 290 304 = oGI 11 20 307 := rfl
theorem r290_304 : zr 290 304 [v0, v1, v2, v3, v4, v5, v6, v7, v8, v9, v10, v11] (.ref b1 :: st) u P = (xIs u b1 11 ∧ zr 290 307 [v0, v1, v2, v3, v4, v5, v6, v7, v8, v9, v10, v11] (.int (xI u b1 20) :: st) u P) := zr_GI k290_304
theorem k290_307 : xcd 290 307 = oIl 5 309 := rfl
theorem r290_307 : zr 290 307 [v0, v1, v2, v3, v4, .int x5, v6, v7, v8, v9, v10, v11] st u P = zr 290 309 [v0, v1, v2, v3, v4, .int x5, v6, v7, v8, v9, v10, v11] (.int x5 :: st) u P := zr_Il k290_307 rfl
theorem k290_309 : xcd 290 309 = oCalV 11 289 3 312 := rfl
theorem r290_309 : zr 290 309 [v0, v1, v2, v3, v4, v5, v6, v7, v8, v9, v10, v11] (.int y3 :: .int y2 :: .int y1 :: .ref b8 :: st) u P = ((xIs u b8 11 ∧ xcat st ≤ 8) ∧ zr 289 0 [.ref b8, .int y1, .int y2, .int y3, .null] [] u (fun r u2 => zr 290 312 [v0, v1, v2, v3, v4, v5, v6, v7, v8, v9, v10, v11] (r.toList ++ st) u2 P)) := zr_CV k290_309 rfl rfl rfl ⟨Nat.le_of_ble_eq_true rfl, Nat.succ_ne_zero _, by decide⟩ rfl
theorem k290_312 : xcd 290 312 = oAl 0 313 := rfl
theorem r290_312 : zr 290 312 [.ref a0, v1, v2, v3, v4, v5, v6, v7, v8, v9, v10, v11] st u P = zr 290 313 [.ref a0, v1, v2, v3, v4, v5, v6, v7, v8, v9, v10, v11] (.ref a0 :: st) u P := zr_Al k290_312 rfl
theorem k290_313 : xcd 290 313 = oDup 314 := rfl
theorem r290_313 : zr 290 313 [v0, v1, v2, v3, v4, v5, v6, v7, v8, v9, v10, v11] (.ref b1 :: st) u P = zr 290 314 [v0, v1, v2, v3, v4, v5, v6, v7, v8, v9, v10, v11] (.ref b1 :: .ref b1 :: st) u P := zr_DupA k290_313
theorem k290_314 : xcd 290 314 = oGI 11 20 317 := rfl
theorem r290_314 : zr 290 314 [v0, v1, v2, v3, v4, v5, v6, v7, v8, v9, v10, v11] (.ref b1 :: st) u P = (xIs u b1 11 ∧ zr 290 317 [v0, v1, v2, v3, v4, v5, v6, v7, v8, v9, v10, v11] (.int (xI u b1 20) :: st) u P) := zr_GI k290_314
theorem k290_317 : xcd 290 317 = oI 1 318 := rfl
theorem r290_317 : zr 290 317 [v0, v1, v2, v3, v4, v5, v6, v7, v8, v9, v10, v11] st u P = zr 290 318 [v0, v1, v2, v3, v4, v5, v6, v7, v8, v9, v10, v11] (.int 1 :: st) u P := zr_I k290_317
theorem k290_318 : xcd 290 318 = oB (fun x y => x + y) 319 := rfl
theorem r290_318 : zr 290 318 [v0, v1, v2, v3, v4, v5, v6, v7, v8, v9, v10, v11] (.int y1 :: .int y2 :: st) u P = zr 290 319 [v0, v1, v2, v3, v4, v5, v6, v7, v8, v9, v10, v11] (.int (y2 + y1) :: st) u P := zr_B k290_318
theorem k290_319 : xcd 290 319 = oPI 11 20 322 := rfl
theorem r290_319 : zr 290 319 [v0, v1, v2, v3, v4, v5, v6, v7, v8, v9, v10, v11] (.int y1 :: .ref b1 :: st) u P = (xIs u b1 11 ∧ zr 290 322 [v0, v1, v2, v3, v4, v5, v6, v7, v8, v9, v10, v11] st (xsI u b1 20 y1) P) := zr_PI k290_319
theorem k290_322 : xcd 290 322 = oAl 0 323 := rfl
theorem r290_322 : zr 290 322 [.ref a0, v1, v2, v3, v4, v5, v6, v7, v8, v9, v10, v11] st u P = zr 290 323 [.ref a0, v1, v2, v3, v4, v5, v6, v7, v8, v9, v10, v11] (.ref a0 :: st) u P := zr_Al k290_322 rfl
theorem k290_323 : xcd 290 323 = oAl 0 324 := rfl
theorem r290_323 : zr 290 323 [.ref a0, v1, v2, v3, v4, v5, v6, v7, v8, v9, v10, v11] st u P = zr 290 324 [.ref a0, v1, v2, v3, v4, v5, v6, v7, v8, v9, v10, v11] (.ref a0 :: st) u P := zr_Al k290_323 rfl
theorem k290_324 : xcd 290 324 = oGI 11 20 327 := rfl
theorem r290_324 : zr 290 324 [v0, v1, v2, v3, v4, v5, v6, v7, v8, v9, v10, v11] (.ref b1 :: st) u P = (xIs u b1 11 ∧ zr 290 327 [v0, v1, v2, v3, v4, v5, v6, v7, v8, v9, v10, v11] (.int (xI u b1 20) :: st) u P) := zr_GI k290_324
theorem k290_327 : xcd 290 327 = oI 1 328 := rfl
theorem r290_327 : zr 290 327 [v0, v1, v2, v3, v4, v5, v6, v7, v8, v9, v10, v11] st u P = zr 290 328 [v0, v1, v2, v3, v4, v5, v6, v7, v8, v9, v10, v11] (.int 1 :: st) u P := zr_I k290_327
theorem k290_328 : xcd 290 328 = oB (fun x y => x - y) 329 := rfl
theorem r290_328 : zr 290 328 [v0, v1, v2, v3, v4, v5, v6, v7, v8, v9, v10, v11] (.int y1 :: .int y2 :: st) u P = zr 290 329 [v0, v1, v2, v3, v4, v5, v6, v7, v8, v9, v10, v11] (.int (y2 - y1) :: st) u P := zr_B k290_328
theorem k290_329 : xcd 290 329 = oCalV 11 174 1 332 := rfl
theorem r290_329 : zr 290 329 [v0, v1, v2, v3, v4, v5, v6, v7, v8, v9, v10, v11] (.int y1 :: .ref b8 :: st) u P = ((xIs u b8 11 ∧ xcat st ≤ 8) ∧ zr 174 0 [.ref b8, .int y1] [] u (fun r u2 => zr 290 332 [v0, v1, v2, v3, v4, v5, v6, v7, v8, v9, v10, v11] (r.toList ++ st) u2 P)) := zr_CV k290_329 rfl rfl rfl ⟨Nat.le_of_ble_eq_true rfl, Nat.succ_ne_zero _, by decide⟩ rfl
theorem k290_332 : xcd 290 332 = oRi 0 := rfl
theorem r290_332 : zr 290 332 [v0, v1, v2, v3, v4, v5, v6, v7, v8, v9, v10, v11] [.int y1] u P = P (some (.int y1)) u := zr_Ri k290_332
theorem k291_0 : xcd 291 0 = oAl 0 1 := rfl
theorem r291_0 : zr 291 0 [.ref a0, v1, v2, v3] st u P = zr 291 1 [.ref a0, v1, v2, v3] (.ref a0 :: st) u P := zr_Al k291_0 rfl
theorem k291_1 : xcd 291 1 = oI 0 2 := rfl
theorem r291_1 : zr 291 1 [v0, v1, v2, v3] st u P = zr 291 2 [v0, v1, v2, v3] (.int 0 :: st) u P := zr_I k291_1
theorem k291_2 : xcd 291 2 = oPI 11 0 5 := rfl
theorem r291_2 : zr 291 2 [v0, v1, v2, v3] (.int y1 :: .ref b1 :: st) u P = (xIs u b1 11 ∧ zr 291 5 [v0, v1, v2, v3] st (xsI u b1 0 y1) P) := zr_PI k291_2
theorem k291_5 : xcd 291 5 = oAl 0 6 := rfl
theorem r291_5 : zr 291 5 [.ref a0, v1, v2, v3] st u P = zr 291 6 [.ref a0, v1, v2, v3] (.ref a0 :: st) u P := zr_Al k291_5 rfl
theorem k291_6 : xcd 291 6 = oIl 1 7 := rfl
theorem r291_6 : zr 291 6 [v0, .int x1, v2, v3] st u P = zr 291 7 [v0, .int x1, v2, v3] (.int x1 :: st) u P := zr_Il k291_6 rfl
theorem k291_7 : xcd 291 7 = oCalV 11 261 1 10 := rfl
theorem r291_7 : zr 291 7 [v0, v1, v2, v3] (.int y1 :: .ref b8 :: st) u P = ((xIs u b8 11 ∧ xcat st ≤ 8) ∧ zr 261 0 [.ref b8, .int y1] [] u (fun r u2 => zr 291 10 [v0, v1, v2, v3] (r.toList ++ st) u2 P)) := zr_CV k291_7 rfl rfl rfl ⟨Nat.le_of_ble_eq_true rfl, Nat.succ_ne_zero _, by decide⟩ rfl
theorem k291_10 : xcd 291 10 = oIf (fun x => decide (¬ x = 0)) 19 13 := rfl
theorem r291_10 : zr 291 10 [v0, v1, v2, v3] (.int y1 :: st) u P = (if ¬ y1 = 0 then zr 291 19 [v0, v1, v2, v3] st u P else zr 291 13 [v0, v1, v2, v3] st u P) := zr_If k291_10
theorem k291_13 : xcd 291 13 = oAl 0 14 := rfl
theorem r291_13 : zr 291 13 [.ref a0, v1, v2, v3] st u P = zr 291 14 [.ref a0, v1, v2, v3] (.ref a0 :: st) u P := zr_Al k291_13 rfl
theorem k291_14 : xcd 291 14 = oI 1 15 := rfl
theorem r291_14 : zr 291 14 [v0, v1, v2, v3] st u P = zr 291 15 [v0, v1, v2, v3] (.int 1 :: st) u P := zr_I k291_14
theorem k291_15 : xcd 291 15 = oCalV 11 172 1 18 := rfl
theorem r291_15 : zr 291 15 [v0, v1, v2, v3] (.int y1 :: .ref b8 :: st) u P = ((xIs u b8 11 ∧ xcat st ≤ 8) ∧ zr 172 0 [.ref b8, .int y1] [] u (fun r u2 => zr 291 18 [v0, v1, v2, v3] (r.toList ++ st) u2 P)) := zr_CV k291_15 rfl rfl rfl ⟨Nat.le_of_ble_eq_true rfl, Nat.succ_ne_zero _, by decide⟩ rfl
theorem k291_18 : xcd 291 18 = oRi 0 := rfl
theorem r291_18 : zr 291 18 [v0, v1, v2, v3] [.int y1] u P = P (some (.int y1)) u := zr_Ri k291_18
theorem k291_19 : xcd 291 19 = oIl 2 20 := rfl
theorem r291_19 : zr 291 19 [v0, v1, .int x2, v3] st u P = zr 291 20 [v0, v1, .int x2, v3] (.int x2 :: st) u P := zr_Il k291_19 rfl
theorem k291_20 : xcd 291 20 = oI 1 21 := rfl
theorem r291_20 : zr 291 20 [v0, v1, v2, v3] st u P = zr 291 21 [v0, v1, v2, v3] (.int 1 :: st) u P := zr_I k291_20
theorem k291_21 : xcd 291 21 = oAl 0 22 := rfl
theorem r291_21 : zr 291 21 [.ref a0, v1, v2, v3] st u P = zr 291 22 [.ref a0, v1, v2, v3] (.ref a0 :: st) u P := zr_Al k291_21 rfl
theorem k291_22 : xcd 291 22 = oIl 1 23 := rfl
theorem r291_22 : zr 291 22 [v0, .int x1, v2, v3] st u P = zr 291 23 [v0, .int x1, v2, v3] (.int x1 :: st) u P := zr_Il k291_22 rfl
theorem k291_23 : xcd 291 23 = oI 6 25 := rfl
theorem r291_23 : zr 291 23 [v0, v1, v2, v3] st u P = zr 291 25 [v0, v1, v2, v3] (.int 6 :: st) u P := zr_I k291_23
theorem k291_25 : xcd 291 25 = oCalV 11 262 2 28 := rfl
theorem r291_25 : zr 291 25 [v0, v1, v2, v3] (.int y2 :: .int y1 :: .ref b8 :: st) u P = ((xIs u b8 11 ∧ xcat st ≤ 8) ∧ zr 262 0 [.ref b8, .int y1, .int y2] [] u (fun r u2 => zr 291 28 [v0, v1, v2, v3] (r.toList ++ st) u2 P)) := zr_CV k291_25 rfl rfl rfl ⟨Nat.le_of_ble_eq_true rfl, Nat.succ_ne_zero _, by decide⟩ rfl
theorem k291_28 : xcd 291 28 = oCal 175 3 31 := rfl
theorem r291_28 : zr 291 28 [v0, v1, v2, v3] (.int y3 :: .int y2 :: .int y1 :: st) u P = (xcat st ≤ 8 ∧ zr 175 0 [.int y1, .int y2, .int y3] [] u (fun r u2 => zr 291 31 [v0, v1, v2, v3] (r.toList ++ st) u2 P)) := zr_CS k291_28 (Nat.le_add_left _ _) rfl rfl ⟨Nat.le_of_ble_eq_true rfl, Nat.succ_ne_zero _, by decide⟩ rfl
theorem k291_31 : xcd 291 31 = oIf (fun x => decide (¬ x = 0)) 40 34 := rfl
theorem r291_31 : zr 291 31 [v0, v1, v2, v3] (.int y1 :: st) u P = (if ¬ y1 = 0 then zr 291 40 [v0, v1, v2, v3] st u P else zr 291 34 [v0, v1, v2, v3] st u P) := zr_If k291_31
theorem k291_34 : xcd 291 34 = oAl 0 35 := rfl
theorem r291_34 : zr 291 34 [.ref a0, v1, v2, v3] st u P = zr 291 35 [.ref a0, v1, v2, v3] (.ref a0 :: st) u P := zr_Al k291_34 rfl
theorem k291_35 : xcd 291 35 = oI 2 36 := rfl
theorem r291_35 : zr 291 35 [v0, v1, v2, v3] st u P = zr 291 36 [v0, v1, v2, v3] (.int 2 :: st) u P := zr_I k291_35
theorem k291_36 : xcd 291 36 = oCalV 11 172 1 39 := rfl
theorem r291_36 : zr 291 36 [v0, v1, v2, v3] (.int y1 :: .ref b8 :: st) u P = ((xIs u b8 11 ∧ xcat st ≤ 8) ∧ zr 172 0 [.ref b8, .int y1] [] u (fun r u2 => zr 291 39 [v0, v1, v2, v3] (r.toList ++ st) u2 P)) := zr_CV k291_36 rfl rfl rfl ⟨Nat.le_of_ble_eq_true rfl, Nat.succ_ne_zero _, by decide⟩ rfl
theorem k291_39 : xcd 291 39 = oRi 0 := rfl
theorem r291_39 : zr 291 39 [v0, v1, v2, v3] [.int y1] u P = P (some (.int y1)) u := zr_Ri k291_39
theorem k291_40 : xcd 291 40 = oAl 0 41 := rfl
theorem r291_40 : zr 291 40 [.ref a0, v1, v2, v3] st u P = zr 291 41 [.ref a0, v1, v2, v3] (.ref a0 :: st) u P := zr_Al k291_40 rfl
theorem k291_41 : xcd 291 41 = oIl 1 42 := rfl
theorem r291_41 : zr 291 41 [v0, .int x1, v2, v3] st u P = zr 291 42 [v0, .int x1, v2, v3] (.int x1 :: st) u P := zr_Il k291_41 rfl
theorem k291_42 : xcd 291 42 = oCalV 11 266 1 45 := rfl
theorem r291_42 : zr 291 42 [v0, v1, v2, v3] (.int y1 :: .ref b8 :: st) u P = ((xIs u b8 11 ∧ xcat st ≤ 8) ∧ zr 266 0 [.ref b8, .int y1, .null, .null] [] u (fun r u2 => zr 291 45 [v0, v1, v2, v3] (r.toList ++ st) u2 P)) := zr_CV k291_42 rfl rfl rfl ⟨Nat.le_of_ble_eq_true rfl, Nat.succ_ne_zero _, by decide⟩ rfl
theorem k291_45 : xcd 291 45 = oIs 3 46 := rfl
theorem r291_45 : zr 291 45 [v0, v1, .int x2, v3] (.int y1 :: st) u P = zr 291 46 [v0, v1, .int x2, .int y1] st u P := zr_Is k291_45 ⟨Nat.le_of_ble_eq_true rfl, rfl⟩
theorem k291_46 : xcd 291 46 = oAl 0 47 := rfl
theorem r291_46 : zr 291 46 [.ref a0, v1, v2, v3] st u P = zr 291 47 [.ref a0, v1, v2, v3] (.ref a0 :: st) u P := zr_Al k291_46 rfl
theorem k291_47 : xcd 291 47 = oGR 11 19 50 := rfl
theorem r291_47 : zr 291 47 [v0, v1, v2, v3] (.ref b1 :: st) u P = (xIs u b1 11 ∧ ∃ b, xR u b1 19 = some b ∧ zr 291 50 [v0, v1, v2, v3] (.ref b :: st) u P) := zr_GR k291_47
theorem k291_50 : xcd 291 50 = oI 25 52 := rfl
theorem r291_50 : zr 291 50 [v0, v1, v2, v3] st u P = zr 291 52 [v0, v1, v2, v3] (.int 25 :: st) u P := zr_I k291_50
theorem k291_52 : xcd 291 52 = oIl 1 53 := rfl
theorem r291_52 : zr 291 52 [v0, .int x1, v2, v3] st u P = zr 291 53 [v0, .int x1, v2, v3] (.int x1 :: st) u P := zr_Il k291_52 rfl
theorem k291_53 : xcd 291 53 = oB (fun x y => x * y) 54 := rfl
theorem r291_53 : zr 291 53 [v0, v1, v2, v3] (.int y1 :: .int y2 :: st) u P = zr 291 54 [v0, v1, v2, v3] (.int (y2 * y1) :: st) u P := zr_B k291_53
theorem k291_54 : xcd 291 54 = oI 6 56 := rfl
theorem r291_54 : zr 291 54 [v0, v1, v2, v3] st u P = zr 291 56 [v0, v1, v2, v3] (.int 6 :: st) u P := zr_I k291_54
theorem k291_56 : xcd 291 56 = oB (fun x y => x + y) 57 := rfl
theorem r291_56 : zr 291 56 [v0, v1, v2, v3] (.int y1 :: .int y2 :: st) u P = zr 291 57 [v0, v1, v2, v3] (.int (y2 + y1) :: st) u P := zr_B k291_56
theorem k291_57 : xcd 291 57 = oDup2 58 := rfl
theorem r291_57 : zr 291 57 [v0, v1, v2, v3] (.int y1 :: .ref b1 :: st) u P = zr 291 58 [v0, v1, v2, v3] (.int y1 :: .ref b1 :: .int y1 :: .ref b1 :: st) u P := zr_Dup2 k291_57
theorem k291_58 : xcd 291 58 = oLd 13 59 := rfl
theorem r291_58 : zr 291 58 [v0, v1, v2, v3] (.int y1 :: .ref b1 :: st) u P = ((xIs u b1 13 ∧ xinb y1 (xN u b1)) ∧ zr 291 59 [v0, v1, v2, v3] (.int (xI u b1 (xix y1)) :: st) u P) := zr_Ld k291_58
theorem k291_59 : xcd 291 59 = oIl 2 60 := rfl
theorem r291_59 : zr 291 59 [v0, v1, .int x2, v3] st u P = zr 291 60 [v0, v1, .int x2, v3] (.int x2 :: st) u P := zr_Il k291_59 rfl
theorem k291_60 : xcd 291 60 = oB (fun x y => x - y) 61 := rfl
theorem r291_60 : zr 291 60 [v0, v1, v2, v3] (.int y1 :: .int y2 :: st) u P = zr 291 61 [v0, v1, v2, v3] (.int (y2 - y1) :: st) u P := zr_B k291_60
theorem k291_61 : xcd 291 61 = oSt 13 (fun x => x) 62 := rfl
theorem r291_61 : zr 291 61 [v0, v1, v2, v3] (.int y2 :: .int y1 :: .ref b1 :: st) u P = ((xIs u b1 13 ∧ xinb y1 (xN u b1)) ∧ zr 291 62 [v0, v1, v2, v3] st (xsI u b1 (xix y1) y2) P) := zr_St k291_61
theorem k291_62 : xcd 291 62 = oAl 0 63 := rfl
theorem r291_62 : zr 291 62 [.ref a0, v1, v2, v3] st u P = zr 291 63 [.ref a0, v1, v2, v3] (.ref a0 :: st) u P := zr_Al k291_62 rfl
theorem k291_63 : xcd 291 63 = oI 1 64 := rfl
theorem r291_63 : zr 291 63 [v0, v1, v2, v3] st u P = zr 291 64 [v0, v1, v2, v3] (.int 1 :: st) u P := zr_I k291_63
theorem k291_64 : xcd 291 64 = oIl 1 65 := rfl
theorem r291_64 : zr 291 64 [v0, .int x1, v2, v3] st u P = zr 291 65 [v0, .int x1, v2, v3] (.int x1 :: st) u P := zr_Il k291_64 rfl
theorem k291_65 : xcd 291 65 = oIl 2 66 := rfl
theorem r291_65 : zr 291 65 [v0, v1, .int x2, v3] st u P = zr 291 66 [v0, v1, .int x2, v3] (.int x2 :: st) u P := zr_Il k291_65 rfl
theorem k291_66 : xcd 291 66 = oCalV 11 289 3 69 := rfl
theorem r291_66 : zr 291 66 [v0, v1, v2, v3] (.int y3 :: .int y2 :: .int y1 :: .ref b8 :: st) u P = ((xIs u b8 11 ∧ xcat st ≤ 8) ∧ zr 289 0 [.ref b8, .int y1, .int y2, .int y3, .null] [] u (fun r u2 => zr 291 69 [v0, v1, v2, v3] (r.toList ++ st) u2 P)) := zr_CV k291_66 rfl rfl rfl ⟨Nat.le_of_ble_eq_true rfl, Nat.succ_ne_zero _, by decide⟩ rfl
theorem k291_69 : xcd 291 69 = oAl 0 70 := rfl
theorem r291_69 : zr 291 69 [.ref a0, v1, v2, v3] st u P = zr 291 70 [.ref a0, v1, v2, v3] (.ref a0 :: st) u P := zr_Al k291_69 rfl
theorem k291_70 : xcd 291 70 = oIl 3 71 := rfl
theorem r291_70 : zr 291 70 [v0, v1, v2, .int x3] st u P = zr 291 71 [v0, v1, v2, .int x3] (.int x3 :: st) u P := zr_Il k291_70 rfl
theorem k291_71 : xcd 291 71 = oAl 0 72 := rfl
theorem r291_71 : zr 291 71 [.ref a0, v1, v2, v3] st u P = zr 291 72 [.ref a0, v1, v2, v3] (.ref a0 :: st) u P := zr_Al k291_71 rfl
theorem k291_72 : xcd 291 72 = oIl 1 73 := rfl
theorem r291_72 : zr 291 72 [v0, .int x1, v2, v3] st u P = zr 291 73 [v0, .int x1, v2, v3] (.int x1 :: st) u P := zr_Il k291_72 rfl
theorem k291_73 : xcd 291 73 = oCalV 11 266 1 76 := rfl
theorem r291_73 : zr 291 73 [v0, v1, v2, v3] (.int y1 :: .ref b8 :: st) u P = ((xIs u b8 11 ∧ xcat st ≤ 8) ∧ zr 266 0 [.ref b8, .int y1, .null, .null] [] u (fun r u2 => zr 291 76 [v0, v1, v2, v3] (r.toList ++ st) u2 P)) := zr_CV k291_73 rfl rfl rfl ⟨Nat.le_of_ble_eq_true rfl, Nat.succ_ne_zero _, by decide⟩ rfl
theorem k291_76 : xcd 291 76 = oB (fun x y => x - y) 77 := rfl
theorem r291_76 : zr 291 76 [v0, v1, v2, v3] (.int y1 :: .int y2 :: st) u P = zr 291 77 [v0, v1, v2, v3] (.int (y2 - y1) :: st) u P := zr_B k291_76
theorem k291_77 : xcd 291 77 = oCalV 11 174 1 80 := rfl
theorem r291_77 : zr 291 77 [v0, v1, v2, v3] (.int y1 :: .ref b8 :: st) u P = ((xIs u b8 11 ∧ xcat st ≤ 8) ∧ zr 174 0 [.ref b8, .int y1] [] u (fun r u2 => zr 291 80 [v0, v1, v2, v3] (r.toList ++ st) u2 P)) := zr_CV k291_77 rfl rfl rfl ⟨Nat.le_of_ble_eq_true rfl, Nat.succ_ne_zero _, by decide⟩ rfl
theorem k291_80 : xcd 291 80 = oRi 0 := rfl
theorem r291_80 : zr 291 80 [v0, v1, v2, v3] [.int y1] u P = P (some (.int y1)) u := zr_Ri k291_80
theorem k292_0 : xcd 292 0 = oI 0 1 := rfl
theorem r292_0 : zr 292 0 [v0, v1, v2, v3, v4] st u P = zr 292 1 [v0, v1, v2, v3, v4] (.int 0 :: st) u P := zr_I k292_0
theorem k292_1 : xcd 292 1 = oIs 4 3 := rfl
theorem r292_1 : zr 292 1 [v0, v1, v2, .int x3, v4] (.int y1 :: st) u P = zr 292 3 [v0, v1, v2, .int x3, .int y1] st u P := zr_Is k292_1 ⟨Nat.le_of_ble_eq_true rfl, rfl⟩
theorem k292_3 : xcd 292 3 = oIl 4 5 := rfl
theorem r292_3 : zr 292 3 [v0, v1, v2, v3, .int x4] st u P = zr 292 5 [v0, v1, v2, v3, .int x4] (.int x4 :: st) u P := zr_Il k292_3 rfl
theorem k292_5 : xcd 292 5 = oAl 0 6 := rfl
theorem r292_5 : zr 292 5 [.ref a0, v1, v2, v3, v4] st u P = zr 292 6 [.ref a0, v1, v2, v3, v4] (.ref a0 :: st) u P := zr_Al k292_5 rfl
theorem k292_6 : xcd 292 6 = oGR 11 3 9 := rfl
theorem r292_6 : zr 292 6 [v0, v1, v2, v3, v4] (.ref b1 :: st) u P = (xIs u b1 11 ∧ ∃ b, xR u b1 3 = some b ∧ zr 292 9 [v0, v1, v2, v3, v4] (.ref b :: st) u P) := zr_GR k292_6
theorem k292_9 : xcd 292 9 = oIl 1 10 := rfl
theorem r292_9 : zr 292 9 [v0, .int x1, v2, v3, v4] st u P = zr 292 10 [v0, .int x1, v2, v3, v4] (.int x1 :: st) u P := zr_Il k292_9 rfl
theorem k292_10 : xcd 292 10 = oCal 199 1 13 := rfl
theorem r292_10 : zr 292 10 [v0, v1, v2, v3, v4] (.int y1 :: st) u P = (xcat st ≤ 8 ∧ zr 199 0 [.int y1] [] u (fun r u2 => zr 292 13 [v0, v1, v2, v3, v4] (r.toList ++ st) u2 P)) := zr_CS k292_10 (Nat.le_add_left _ _) rfl rfl ⟨Nat.le_of_ble_eq_true rfl, Nat.succ_ne_zero _, by decide⟩ rfl
theorem k292_13 : xcd 292 13 = oI 2 14 := rfl
theorem r292_13 : zr 292 13 [v0, v1, v2, v3, v4] st u P = zr 292 14 [v0, v1, v2, v3, v4] (.int 2 :: st) u P := zr_I k292_13
theorem k292_14 : xcd 292 14 = oB (fun x y => x + y) 15 := rfl
theorem r292_14 : zr 292 14 [v0, v1, v2, v3, v4] (.int y1 :: .int y2 :: st) u P = zr 292 15 [v0, v1, v2, v3, v4] (.int (y2 + y1) :: st) u P := zr_B k292_14
theorem k292_15 : xcd 292 15 = oLd 13 16 := rfl
theorem r292_15 : zr 292 15 [v0, v1, v2, v3, v4] (.int y1 :: .ref b1 :: st) u P = ((xIs u b1 13 ∧ xinb y1 (xN u b1)) ∧ zr 292 16 [v0, v1, v2, v3, v4] (.int (xI u b1 (xix y1)) :: st) u P) := zr_Ld k292_15
theorem k292_16 : xcd 292 16 = oCmp (fun x y => decide (y ≤ x)) 52 19 := rfl
theorem r292_16 : zr 292 16 [v0, v1, v2, v3, v4] (.int y1 :: .int y2 :: st) u P = (if y1 ≤ y2 then zr 292 52 [v0, v1, v2, v3, v4] st u P else zr 292 19 [v0, v1, v2, v3, v4] st u P) := zr_Cmp k292_16
theorem k292_19 : xcd 292 19 = oAl 0 20 := rfl
theorem r292_19 : zr 292 19 [.ref a0, v1, v2, v3, v4] st u P = zr 292 20 [.ref a0, v1, v2, v3, v4] (.ref a0 :: st) u P := zr_Al k292_19 rfl
theorem k292_20 : xcd 292 20 = oAl 0 21 := rfl
theorem r292_20 : zr 292 20 [.ref a0, v1, v2, v3, v4] st u P = zr 292 21 [.ref a0, v1, v2, v3, v4] (.ref a0 :: st) u P := zr_Al k292_20 rfl
theorem k292_21 : xcd 292 21 = oIl 1 22 := rfl
theorem r292_21 : zr 292 21 [v0, .int x1, v2, v3, v4] st u P = zr 292 22 [v0, .int x1, v2, v3, v4] (.int x1 :: st) u P := zr_Il k292_21 rfl
theorem k292_22 : xcd 292 22 = oIl 4 24 := rfl
theorem r292_22 : zr 292 22 [v0, v1, v2, v3, .int x4] st u P = zr 292 24 [v0, v1, v2, v3, .int x4] (.int x4 :: st) u P := zr_Il k292_22 rfl
theorem k292_24 : xcd 292 24 = oCalV 11 220 2 27 := rfl
theorem r292_24 : zr 292 24 [v0, v1, v2, v3, v4] (.int y2 :: .int y1 :: .ref b8 :: st) u P = ((xIs u b8 11 ∧ xcat st ≤ 8) ∧ zr 220 0 [.ref b8, .int y1, .int y2] [] u (fun r u2 => zr 292 27 [v0, v1, v2, v3, v4] (r.toList ++ st) u2 P)) := zr_CV k292_24 rfl rfl rfl ⟨Nat.le_of_ble_eq_true rfl, Nat.succ_ne_zero _, by decide⟩ rfl
theorem k292_27 : xcd 292 27 = oIl 2 28 := rfl
theorem r292_27 : zr 292 27 [v0, v1, .int x2, v3, v4] st u P = zr 292 28 [v0, v1, .int x2, v3, v4] (.int x2 :: st) u P := zr_Il k292_27 rfl
theorem k292_28 : xcd 292 28 = oB (fun x y => x + y) 29 := rfl
theorem r292_28 : zr 292 28 [v0, v1, v2, v3, v4] (.int y1 :: .int y2 :: st) u P = zr 292 29 [v0, v1, v2, v3, v4] (.int (y2 + y1) :: st) u P := zr_B k292_28
theorem k292_29 : xcd 292 29 = oAl 0 30 := rfl
theorem r292_29 : zr 292 29 [.ref a0, v1, v2, v3, v4] st u P = zr 292 30 [.ref a0, v1, v2, v3, v4] (.ref a0 :: st) u P := zr_Al k292_29 rfl
theorem k292_30 : xcd 292 30 = oIl 1 31 := rfl
theorem r292_30 : zr 292 30 [v0, .int x1, v2, v3, v4] st u P = zr 292 31 [v0, .int x1, v2, v3, v4] (.int x1 :: st) u P := zr_Il k292_30 rfl
theorem k292_31 : xcd 292 31 = oIl 4 33 := rfl
theorem r292_31 : zr 292 31 [v0, v1, v2, v3, .int x4] st u P = zr 292 33 [v0, v1, v2, v3, .int x4] (.int x4 :: st) u P := zr_Il k292_31 rfl
theorem k292_33 : xcd 292 33 = oCalV 11 221 2 36 := rfl
theorem r292_33 : zr 292 33 [v0, v1, v2, v3, v4] (.int y2 :: .int y1 :: .ref b8 :: st) u P = ((xIs u b8 11 ∧ xcat st ≤ 8) ∧ zr 221 0 [.ref b8, .int y1, .int y2] [] u (fun r u2 => zr 292 36 [v0, v1, v2, v3, v4] (r.toList ++ st) u2 P)) := zr_CV k292_33 rfl rfl rfl ⟨Nat.le_of_ble_eq_true rfl, Nat.succ_ne_zero _, by decide⟩ rfl
theorem k292_36 : xcd 292 36 = oIl 3 37 := rfl
theorem r292_36 : zr 292 36 [v0, v1, v2, .int x3, v4] st u P = zr 292 37 [v0, v1, v2, .int x3, v4] (.int x3 :: st) u P := zr_Il k292_36 rfl
theorem k292_37 : xcd 292 37 = oB (fun x y => x + y) 38 := rfl
theorem r292_37 : zr 292 37 [v0, v1, v2, v3, v4] (.int y1 :: .int y2 :: st) u P = zr 292 38 [v0, v1, v2, v3, v4] (.int (y2 + y1) :: st) u P := zr_B k292_37
theorem k292_38 : xcd 292 38 = oCalV 11 223 2 41 := rfl
theorem r292_38 : zr 292 38 [v0, v1, v2, v3, v4] (.int y2 :: .int y1 :: .ref b8 :: st) u P = ((xIs u b8 11 ∧ xcat st ≤ 8) ∧ zr 223 0 [.ref b8, .int y1, .int y2] [] u (fun r u2 => zr 292 41 [v0, v1, v2, v3, v4] (r.toList ++ st) u2 P)) := zr_CV k292_38 rfl rfl rfl ⟨Nat.le_of_ble_eq_true rfl, Nat.succ_ne_zero _, by decide⟩ rfl
theorem k292_41 : xcd 292 41 = oIf (fun x => decide (¬ x = 0)) 46 44 := rfl
theorem r292_41 : zr 292 41 [v0, v1, v2, v3, v4] (.int y1 :: st) u P = (if ¬ y1 = 0 then zr 292 46 [v0, v1, v2, v3, v4] st u P else zr 292 44 [v0, v1, v2, v3, v4] st u P) := zr_If k292_41
theorem k292_44 : xcd 292 44 = oI 0 45 := rfl
theorem r292_44 : zr 292 44 [v0, v1, v2, v3, v4] st u P = zr 292 45 [v0, v1, v2, v3, v4] (.int 0 :: st) u P := zr_I k292_44
theorem k292_45 : xcd 292 45 = oRz 0 := rfl
theorem r292_45 : zr 292 45 [v0, v1, v2, v3, v4] [.int y1] u P = ((y1 = 0 ∨ y1 = 1) ∧ P (some (.int y1)) u) := zr_Rz k292_45
theorem k292_46 : xcd 292 46 = oInc 4 1 49 := rfl
theorem r292_46 : zr 292 46 [v0, v1, v2, .int x3, .int x4] st u P = zr 292 49 [v0, v1, v2, .int x3, .int (x4 + 1)] st u P := zr_Inc k292_46 rfl rfl
theorem k292_49 : xcd 292 49 = oGoto 3 := rfl
theorem r292_49 : zr 292 49 [v0, v1, v2, v3, v4] st u P = zr 292 3 [v0, v1, v2, v3, v4] st u P := zr_Goto k292_49
theorem k292_52 : xcd 292 52 = oI 1 53 := rfl
theorem r292_52 : zr 292 52 [v0, v1, v2, v3, v4] st u P = zr 292 53 [v0, v1, v2, v3, v4] (.int 1 :: st) u P := zr_I k292_52
theorem k292_53 : xcd 292 53 = oRz 0 := rfl
theorem r292_53 : zr 292 53 [v0, v1, v2, v3, v4] [.int y1] u P = ((y1 = 0 ∨ y1 = 1) ∧ P (some (.int y1)) u) := zr_Rz k292_53
theorem k293_0 : xcd 293 0 = oAl 0 1 := rfl
theorem r293_0 : zr 293 0 [.ref a0, v1, v2, v3, v4, v5, v6, v7, v8, v9] st u P = zr 293 1 [.ref a0, v1, v2, v3, v4, v5, v6, v7, v8, v9] (.ref a0 :: st) u P := zr_Al k293_0 rfl
theorem k293_1 : xcd 293 1 = oI 0 2 := rfl
theorem r293_1 : zr 293 1 [v0, v1, v2, v3, v4, v5, v6, v7, v8, v9] st u P = zr 293 2 [v0, v1, v2, v3, v4, v5, v6, v7, v8, v9] (.int 0 :: st) u P := zr_I k293_1
theorem k293_2 : xcd 293 2 = oPI 11 0 5 := rfl
theorem r293_2 : zr 293 2 [v0, v1, v2, v3, v4, v5, v6, v7, v8, v9] (.int y1 :: .ref b1 :: st) u P = (xIs u b1 11 ∧ zr 293 5 [v0, v1, v2, v3, v4, v5, v6, v7, v8, v9] st (xsI u b1 0 y1) P) := zr_PI k293_2
theorem k293_5 : xcd 293 5 = oAl 0 6 := rfl
theorem r293_5 : zr 293 5 [.ref a0, v1, v2, v3, v4, v5, v6, v7, v8, v9] st u P = zr 293 6 [.ref a0, v1, v2, v3, v4, v5, v6, v7, v8, v9] (.ref a0 :: st) u P := zr_Al k293_5 rfl
theorem k293_6 : xcd 293 6 = oAl 0 7 := rfl
theorem r293_6 : zr 293 6 [.ref a0, v1, v2, v3, v4, v5, v6, v7, v8, v9] st u P = zr 293 7 [.ref a0, v1, v2, v3, v4, v5, v6, v7, v8, v9] (.ref a0 :: st) u P := zr_Al k293_6 rfl
theorem k293_7 : xcd 293 7 = oIl 1 8 := rfl
theorem r293_7 : zr 293 7 [v0, .int x1, v2, v3, v4, v5, v6, v7, v8, v9] st u P = zr 293 8 [v0, .int x1, v2, v3, v4, v5, v6, v7, v8, v9] (.int x1 :: st) u P := zr_Il k293_7 rfl
theorem k293_8 : xcd 293 8 = oCalV 11 214 1 11 := rfl
theorem r293_8 : zr 293 8 [v0, v1, v2, v3, v4, v5, v6, v7, v8, v9] (.int y1 :: .ref b8 :: st) u P = ((xIs u b8 11 ∧ xcat st ≤ 8) ∧ zr 214 0 [.ref b8, .int y1] [] u (fun r u2 => zr 293 11 [v0, v1, v2, v3, v4, v5, v6, v7, v8, v9] (r.toList ++ st) u2 P)) := zr_CV k293_8 rfl rfl rfl ⟨Nat.le_of_ble_eq_true rfl, Nat.succ_ne_zero _, by decide⟩ rfl
theorem k293_11 : xcd 293 11 = oIl 2 12 := rfl
theorem r293_11 : zr 293 11 [v0, v1, .int x2, v3, v4, v5, v6, v7, v8, v9] st u P = zr 293 12 [v0, v1, .int x2, v3, v4, v5, v6, v7, v8, v9] (.int x2 :: st) u P := zr_Il k293_11 rfl
theorem k293_12 : xcd 293 12 = oCalV 11 224 2 15 := rfl
theorem r293_12 : zr 293 12 [v0, v1, v2, v3, v4, v5, v6, v7, v8, v9] (.int y2 :: .int y1 :: .ref b8 :: st) u P = ((xIs u b8 11 ∧ xcat st ≤ 8) ∧ zr 224 0 [.ref b8, .int y1, .int y2] [] u (fun r u2 => zr 293 15 [v0, v1, v2, v3, v4, v5, v6, v7, v8, v9] (r.toList ++ st) u2 P)) := zr_CV k293_12 rfl rfl rfl ⟨Nat.le_of_ble_eq_true rfl, Nat.succ_ne_zero _, by decide⟩ rfl
theorem k293_15 : xcd 293 15 = oIs 5 17 := rfl
theorem r293_15 : zr 293 15 [v0, v1, v2, v3, .int x4, v5, v6, v7, v8, v9] (.int y1 :: st) u P = zr 293 17 [v0, v1, v2, v3, .int x4, .int y1, v6, v7, v8, v9] st u P := zr_Is k293_15 ⟨Nat.le_of_ble_eq_true rfl, rfl⟩
theorem k293_17 : xcd 293 17 = oIl 5 19 := rfl
theorem r293_17 : zr 293 17 [v0, v1, v2, v3, v4, .int x5, v6, v7, v8, v9] st u P = zr 293 19 [v0, v1, v2, v3, v4, .int x5, v6, v7, v8, v9] (.int x5 :: st) u P := zr_Il k293_17 rfl
theorem k293_19 : xcd 293 19 = oIf (fun x => decide (x ≤ 0)) 29 22 := rfl
theorem r293_19 : zr 293 19 [v0, v1, v2, v3, v4, v5, v6, v7, v8, v9] (.int y1 :: st) u P = (if y1 ≤ 0 then zr 293 29 [v0, v1, v2, v3, v4, v5, v6, v7, v8, v9] st u P else zr 293 22 [v0, v1, v2, v3, v4, v5, v6, v7, v8, v9] st u P) := zr_If k293_19
theorem k293_22 : xcd 293 22 = oAl 0 23 := rfl
theorem r293_22 : zr 293 22 [.ref a0, v1, v2, v3, v4, v5, v6, v7, v8, v9] st u P = zr 293 23 [.ref a0, v1, v2, v3, v4, v5, v6, v7, v8, v9] (.ref a0 :: st) u P := zr_Al k293_22 rfl
theorem k293_23 : xcd 293 23 = oIl 5 25 := rfl
theorem r293_23 : zr 293 23 [v0, v1, v2, v3, v4, .int x5, v6, v7, v8, v9] st u P = zr 293 25 [v0, v1, v2, v3, v4, .int x5, v6, v7, v8, v9] (.int x5 :: st) u P := zr_Il k293_23 rfl
theorem k293_25 : xcd 293 25 = oCalV 11 172 1 28 := rfl
theorem r293_25 : zr 293 25 [v0, v1, v2, v3, v4, v5, v6, v7, v8, v9] (.int y1 :: .ref b8 :: st) u P = ((xIs u b8 11 ∧ xcat st ≤ 8) ∧ zr 172 0 [.ref b8, .int y1] [] u (fun r u2 => zr 293 28 [v0, v1, v2, v3, v4, v5, v6, v7, v8, v9] (r.toList ++ st) u2 P)) := zr_CV k293_25 rfl rfl rfl ⟨Nat.le_of_ble_eq_true rfl, Nat.succ_ne_zero _, by decide⟩ rfl
theorem k293_28 : xcd 293 28 = oRi 0 := rfl
theorem r293_28 : zr 293 28 [v0, v1, v2, v3, v4, v5, v6, v7, v8, v9] [.int y1] u P = P (some (.int y1)) u := zr_Ri k293_28
theorem k293_29 : xcd 293 29 = oAl 0 30 := rfl
theorem r293_29 : zr 293 29 [.ref a0, v1, v2, v3, v4, v5, v6, v7, v8, v9] st u P = zr 293 30 [.ref a0, v1, v2, v3, v4, v5, v6, v7, v8, v9] (.ref a0 :: st) u P := zr_Al k293_29 rfl
theorem k293_30 : xcd 293 30 = oGR 11 3 33 := rfl
theorem r293_30 : zr 293 30 [v0, v1, v2, v3, v4, v5, v6, v7, v8, v9] (.ref b1 :: st) u P = (xIs u b1 11 ∧ ∃ b, xR u b1 3 = some b ∧ zr 293 33 [v0, v1, v2, v3, v4, v5, v6, v7, v8, v9] (.ref b :: st) u P) := zr_GR k293_30
theorem k293_33 : xcd 293 33 = oIl 1 34 := rfl
theorem r293_33 : zr 293 33 [v0, .int x1, v2, v3, v4, v5, v6, v7, v8, v9] st u P = zr 293 34 [v0, .int x1, v2, v3, v4, v5, v6, v7, v8, v9] (.int x1 :: st) u P := zr_Il k293_33 rfl
theorem k293_34 : xcd 293 34 = oCal 200 2 37 := rfl
theorem r293_34 : zr 293 34 [v0, v1, v2, v3, v4, v5, v6, v7, v8, v9] (.int y2 :: .ref b1 :: st) u P = (xcat st ≤ 8 ∧ zr 200 0 [.ref b1, .int y2, .null] [] u (fun r u2 => zr 293 37 [v0, v1, v2, v3, v4, v5, v6, v7, v8, v9] (r.toList ++ st) u2 P)) := zr_CS k293_34 (Nat.le_add_left _ _) rfl rfl ⟨Nat.le_of_ble_eq_true rfl, Nat.succ_ne_zero _, by decide⟩ rfl
theorem k293_37 : xcd 293 37 = oIs 6 39 := rfl
theorem r293_37 : zr 293 37 [v0, v1, v2, v3, v4, .int x5, v6, v7, v8, v9] (.int y1 :: st) u P = zr 293 39 [v0, v1, v2, v3, v4, .int x5, .int y1, v7, v8, v9] st u P := zr_Is k293_37 ⟨Nat.le_of_ble_eq_true rfl, rfl⟩
theorem k293_39 : xcd 293 39 = oIl 3 40 := rfl
theorem r293_39 : zr 293 39 [v0, v1, v2, .int x3, v4, v5, v6, v7, v8, v9] st u P = zr 293 40 [v0, v1, v2, .int x3, v4, v5, v6, v7, v8, v9] (.int x3 :: st) u P := zr_Il k293_39 rfl
theorem k293_40 : xcd 293 40 = oI (-40) 42 := rfl
theorem r293_40 : zr 293 40 [v0, v1, v2, v3, v4, v5, v6, v7, v8, v9] st u P = zr 293 42 [v0, v1, v2, v3, v4, v5, v6, v7, v8, v9] (.int (-40) :: st) u P := zr_I k293_40
theorem k293_42 : xcd 293 42 = oI 40 44 := rfl
theorem r293_42 : zr 293 42 [v0, v1, v2, v3, v4, v5, v6, v7, v8, v9] st u P = zr 293 44 [v0, v1, v2, v3, v4, v5, v6, v7, v8, v9] (.int 40 :: st) u P := zr_I k293_42
theorem k293_44 : xcd 293 44 = oCal 175 3 47 := rfl
theorem r293_44 : zr 293 44 [v0, v1, v2, v3, v4, v5, v6, v7, v8, v9] (.int y3 :: .int y2 :: .int y1 :: st) u P = (xcat st ≤ 8 ∧ zr 175 0 [.int y1, .int y2, .int y3] [] u (fun r u2 => zr 293 47 [v0, v1, v2, v3, v4, v5, v6, v7, v8, v9] (r.toList ++ st) u2 P)) := zr_CS k293_44 (Nat.le_add_left _ _) rfl rfl ⟨Nat.le_of_ble_eq_true rfl, Nat.succ_ne_zero _, by decide⟩ rfl
theorem k293_47 : xcd 293 47 = oIf (fun x => decide (x = 0)) 62 50 := rfl
theorem r293_47 : zr 293 47 [v0, v1, v2, v3, v4, v5, v6, v7, v8, v9] (.int y1 :: st) u P = (if y1 = 0 then zr 293 62 [v0, v1, v2, v3, v4, v5, v6, v7, v8, v9] st u P else zr 293 50 [v0, v1, v2, v3, v4, v5, v6, v7, v8, v9] st u P) := zr_If k293_47
theorem k293_50 : xcd 293 50 = oIl 4 52 := rfl
theorem r293_50 : zr 293 50 [v0, v1, v2, v3, .int x4, v5, v6, v7, v8, v9] st u P = zr 293 52 [v0, v1, v2, v3, .int x4, v5, v6, v7, v8, v9] (.int x4 :: st) u P := zr_Il k293_50 rfl
theorem k293_52 : xcd 293 52 = oI (-40) 54 := rfl
theorem r293_52 : zr 293 52 [v0, v1, v2, v3, v4, v5, v6, v7, v8, v9] st u P = zr 293 54 [v0, v1, v2, v3, v4, v5, v6, v7, v8, v9] (.int (-40) :: st) u P := zr_I k293_52
theorem k293_54 : xcd 293 54 = oI 40 56 := rfl
theorem r293_54 : zr 293 54 [v0, v1, v2, v3, v4, v5, v6, v7, v8, v9] st u P = zr 293 56 [v0, v1, v2, v3, v4, v5, v6, v7, v8, v9] (.int 40 :: st) u P := zr_I k293_54
theorem k293_56 : xcd 293 56 = oCal 175 3 59 := rfl
theorem r293_56 : zr 293 56 [v0, v1, v2, v3, v4, v5, v6, v7, v8, v9] (.int y3 :: .int y2 :: .int y1 :: st) u P = (xcat st ≤ 8 ∧ zr 175 0 [.int y1, .int y2, .int y3] [] u (fun r u2 => zr 293 59 [v0, v1, v2, v3, v4, v5, v6, v7, v8, v9] (r.toList ++ st) u2 P)) := zr_CS k293_56 (Nat.le_add_left _ _) rfl rfl ⟨Nat.le_of_ble_eq_true rfl, Nat.succ_ne_zero _, by decide⟩ rfl
theorem k293_59 : xcd 293 59 = oIf (fun x => decide (¬ x = 0)) 68 62 := rfl
theorem r293_59 : zr 293 59 [v0, v1, v2, v3, v4, v5, v6, v7, v8, v9] (.int y1 :: st) u P = (if ¬ y1 = 0 then zr 293 68 [v0, v1, v2, v3, v4, v5, v6, v7, v8, v9] st u P else zr 293 62 [v0, v1, v2, v3, v4, v5, v6, v7, v8, v9] st u P) := zr_If k293_59
theorem k293_62 : xcd 293 62 = oAl 0 63 := rfl
theorem r293_62 : zr 293 62 [.ref a0, v1, v2, v3, v4, v5, v6, v7, v8, v9] st u P = zr 293 63 [.ref a0, v1, v2, v3, v4, v5, v6, v7, v8, v9] (.ref a0 :: st) u P := zr_Al k293_62 rfl
theorem k293_63 : xcd 293 63 = oI 2 64 := rfl
theorem r293_63 : zr 293 63 [v0, v1, v2, v3, v4, v5, v6, v7, v8, v9] st u P = zr 293 64 [v0, v1, v2, v3, v4, v5, v6, v7, v8, v9] (.int 2 :: st) u P := zr_I k293_63
theorem k293_64 : xcd 293 64 = oCalV 11 172 1 67 := rfl
theorem r293_64 : zr 293 64 [v0, v1, v2, v3, v4, v5, v6, v7, v8, v9] (.int y1 :: .ref b8 :: st) u P = ((xIs u b8 11 ∧ xcat st ≤ 8) ∧ zr 172 0 [.ref b8, .int y1] [] u (fun r u2 => zr 293 67 [v0, v1, v2, v3, v4, v5, v6, v7, v8, v9] (r.toList ++ st) u2 P)) := zr_CV k293_64 rfl rfl rfl ⟨Nat.le_of_ble_eq_true rfl, Nat.succ_ne_zero _, by decide⟩ rfl
theorem k293_67 : xcd 293 67 = oRi 0 := rfl
theorem r293_67 : zr 293 67 [v0, v1, v2, v3, v4, v5, v6, v7, v8, v9] [.int y1] u P = P (some (.int y1)) u := zr_Ri k293_67
theorem k293_68 : xcd 293 68 = oIl 6 70 := rfl
theorem r293_68 : zr 293 68 [v0, v1, v2, v3, v4, v5, .int x6, v7, v8, v9] st u P = zr 293 70 [v0, v1, v2, v3, v4, v5, .int x6, v7, v8, v9] (.int x6 :: st) u P := zr_Il k293_68 rfl
theorem k293_70 : xcd 293 70 = oI (-1) 71 := rfl
theorem r293_70 : zr 293 70 [v0, v1, v2, v3, v4, v5, v6, v7, v8, v9] st u P = zr 293 71 [v0, v1, v2, v3, v4, v5, v6, v7, v8, v9] (.int (-1) :: st) u P := zr_I k293_70
theorem k293_71 : xcd 293 71 = oCmp (fun x y => decide (x = y)) 108 74 := rfl
theorem r293_71 : zr 293 71 [v0, v1, v2, v3, v4, v5, v6, v7, v8, v9] (.int y1 :: .int y2 :: st) u P = (if y2 = y1 then zr 293 108 [v0, v1, v2, v3, v4, v5, v6, v7, v8, v9] st u P else zr 293 74 [v0, v1, v2, v3, v4, v5, v6, v7, v8, v9] st u P) := zr_Cmp k293_71
theorem k293_74 : xcd 293 74 = oIl 2 75 := rfl
theorem r293_74 : zr 293 74 [v0, v1, .int x2, v3, v4, v5, v6, v7, v8, v9] st u P = zr 293 75 [v0, v1, .int x2, v3, v4, v5, v6, v7, v8, v9] (.int x2 :: st) u P := zr_Il k293_74 rfl
theorem k293_75 : xcd 293 75 = oAl 0 76 := rfl
theorem r293_75 : zr 293 75 [.ref a0, v1, v2, v3, v4, v5, v6, v7, v8, v9] st u P = zr 293 76 [.ref a0, v1, v2, v3, v4, v5, v6, v7, v8, v9] (.ref a0 :: st) u P := zr_Al k293_75 rfl
theorem k293_76 : xcd 293 76 = oGR 11 3 79 := rfl
theorem r293_76 : zr 293 76 [v0, v1, v2, v3, v4, v5, v6, v7, v8, v9] (.ref b1 :: st) u P = (xIs u b1 11 ∧ ∃ b, xR u b1 3 = some b ∧ zr 293 79 [v0, v1, v2, v3, v4, v5, v6, v7, v8, v9] (.ref b :: st) u P) := zr_GR k293_76
theorem k293_79 : xcd 293 79 = oIl 6 81 := rfl
theorem r293_79 : zr 293 79 [v0, v1, v2, v3, v4, v5, .int x6, v7, v8, v9] st u P = zr 293 81 [v0, v1, v2, v3, v4, v5, .int x6, v7, v8, v9] (.int x6 :: st) u P := zr_Il k293_79 rfl
theorem k293_81 : xcd 293 81 = oCal 199 1 84 := rfl
theorem r293_81 : zr 293 81 [v0, v1, v2, v3, v4, v5, v6, v7, v8, v9] (.int y1 :: st) u P = (xcat st ≤ 8 ∧ zr 199 0 [.int y1] [] u (fun r u2 => zr 293 84 [v0, v1, v2, v3, v4, v5, v6, v7, v8, v9] (r.toList ++ st) u2 P)) := zr_CS k293_81 (Nat.le_add_left _ _) rfl rfl ⟨Nat.le_of_ble_eq_true rfl, Nat.succ_ne_zero _, by decide⟩ rfl
theorem k293_84 : xcd 293 84 = oI 1 85 := rfl
theorem r293_84 : zr 293 84 [v0, v1, v2, v3, v4, v5, v6, v7, v8, v9] st u P = zr 293 85 [v0, v1, v2, v3, v4, v5, v6, v7, v8, v9] (.int 1 :: st) u P := zr_I k293_84
theorem k293_85 : xcd 293 85 = oB (fun x y => x + y) 86 := rfl
theorem r293_85 : zr 293 85 [v0, v1, v2, v3, v4, v5, v6, v7, v8, v9] (.int y1 :: .int y2 :: st) u P = zr 293 86 [v0, v1, v2, v3, v4, v5, v6, v7, v8, v9] (.int (y2 + y1) :: st) u P := zr_B k293_85
theorem k293_86 : xcd 293 86 = oLd 13 87 := rfl
theorem r293_86 : zr 293 86 [v0, v1, v2, v3, v4, v5, v6, v7, v8, v9] (.int y1 :: .ref b1 :: st) u P = ((xIs u b1 13 ∧ xinb y1 (xN u b1)) ∧ zr 293 87 [v0, v1, v2, v3, v4, v5, v6, v7, v8, v9] (.int (xI u b1 (xix y1)) :: st) u P) := zr_Ld k293_86
theorem k293_87 : xcd 293 87 = oCmp (fun x y => decide (x ≤ y)) 102 90 := rfl
theorem r293_87 : zr 293 87 [v0, v1, v2, v3, v4, v5, v6, v7, v8, v9] (.int y1 :: .int y2 :: st) u P = (if y2 ≤ y1 then zr 293 102 [v0, v1, v2, v3, v4, v5, v6, v7, v8, v9] st u P else zr 293 90 [v0, v1, v2, v3, v4, v5, v6, v7, v8, v9] st u P) := zr_Cmp k293_87
theorem k293_90 : xcd 293 90 = oAl 0 91 := rfl
theorem r293_90 : zr 293 90 [.ref a0, v1, v2, v3, v4, v5, v6, v7, v8, v9] st u P = zr 293 91 [.ref a0, v1, v2, v3, v4, v5, v6, v7, v8, v9] (.ref a0 :: st) u P := zr_Al k293_90 rfl
theorem k293_91 : xcd 293 91 = oIl 6 93 := rfl
theorem r293_91 : zr 293 91 [v0, v1, v2, v3, v4, v5, .int x6, v7, v8, v9] st u P = zr 293 93 [v0, v1, v2, v3, v4, v5, .int x6, v7, v8, v9] (.int x6 :: st) u P := zr_Il k293_91 rfl
theorem k293_93 : xcd 293 93 = oIl 3 94 := rfl
theorem r293_93 : zr 293 93 [v0, v1, v2, .int x3, v4, v5, v6, v7, v8, v9] st u P = zr 293 94 [v0, v1, v2, .int x3, v4, v5, v6, v7, v8, v9] (.int x3 :: st) u P := zr_Il k293_93 rfl
theorem k293_94 : xcd 293 94 = oIl 4 96 := rfl
theorem r293_94 : zr 293 94 [v0, v1, v2, v3, .int x4, v5, v6, v7, v8, v9] st u P = zr 293 96 [v0, v1, v2, v3, .int x4, v5, v6, v7, v8, v9] (.int x4 :: st) u P := zr_Il k293_94 rfl
theorem k293_96 : xcd 293 96 = oCalV 11 292 3 99 := rfl
theorem r293_96 : zr 293 96 [v0, v1, v2, v3, v4, v5, v6, v7, v8, v9] (.int y3 :: .int y2 :: .int y1 :: .ref b8 :: st) u P = ((xIs u b8 11 ∧ xcat st ≤ 8) ∧ zr 292 0 [.ref b8, .int y1, .int y2, .int y3, .null] [] u (fun r u2 => zr 293 99 [v0, v1, v2, v3, v4, v5, v6, v7, v8, v9] (r.toList ++ st) u2 P)) := zr_CV k293_96 rfl rfl rfl ⟨Nat.le_of_ble_eq_true rfl, Nat.succ_ne_zero _, by decide⟩ rfl
theorem k293_99 : xcd 293 99 = oIf (fun x => decide (¬ x = 0)) 108 102 := rfl
theorem r293_99 : zr 293 99 [v0, v1, v2, v3, v4, v5, v6, v7, v8, v9] (.int y1 :: st) u P = (if ¬ y1 = 0 then zr 293 108 [v0, v1, v2, v3, v4, v5, v6, v7, v8, v9] st u P else zr 293 102 [v0, v1, v2, v3, v4, v5, v6, v7, v8, v9] st u P) := zr_If k293_99
theorem k293_102 : xcd 293 102 = oAl 0 103 := rfl
theorem r293_102 : zr 293 102 [.ref a0, v1, v2, v3, v4, v5, v6, v7, v8, v9] st u P = zr 293 103 [.ref a0, v1, v2, v3, v4, v5, v6, v7, v8, v9] (.ref a0 :: st) u P := zr_Al k293_102 rfl
theorem k293_103 : xcd 293 103 = oI 2 104 := rfl
theorem r293_103 : zr 293 103 [v0, v1, v2, v3, v4, v5, v6, v7, v8, v9] st u P = zr 293 104 [v0, v1, v2, v3, v4, v5, v6, v7, v8, v9] (.int 2 :: st) u P := zr_I k293_103
theorem k293_104 : xcd 293 104 = oCalV 11 172 1 107 := rfl
theorem r293_104 : zr 293 104 [v0, v1, v2, v3, v4, v5, v6, v7, v8, v9] (.int y1 :: .ref b8 :: st) u P = ((xIs u b8 11 ∧ xcat st ≤ 8) ∧ zr 172 0 [.ref b8, .int y1] [] u (fun r u2 => zr 293 107 [v0, v1, v2, v3, v4, v5, v6, v7, v8, v9] (r.toList ++ st) u2 P)) := zr_CV k293_104 rfl rfl rfl ⟨Nat.le_of_ble_eq_true rfl, Nat.succ_ne_zero _, by decide⟩ rfl
theorem k293_107 : xcd 293 107 = oRi 0 := rfl
theorem r293_107 : zr 293 107 [v0, v1, v2, v3, v4, v5, v6, v7, v8, v9] [.int y1] u P = P (some (.int y1)) u := zr_Ri k293_107
theorem k293_108 : xcd 293 108 = oIl 6 110 := rfl
theorem r293_108 : zr 293 108 [v0, v1, v2, v3, v4, v5, .int x6, v7, v8, v9] st u P = zr 293 110 [v0, v1, v2, v3, v4, v5, .int x6, v7, v8, v9] (.int x6 :: st) u P := zr_Il k293_108 rfl
theorem k293_110 : xcd 293 110 = oI (-1) 111 := rfl
theorem r293_110 : zr 293 110 [v0, v1, v2, v3, v4, v5, v6, v7, v8, v9] st u P = zr 293 111 [v0, v1, v2, v3, v4, v5, v6, v7, v8, v9] (.int (-1) :: st) u P := zr_I k293_110
theorem k293_111 : xcd 293 111 = oCmp (fun x y => decide (x = y)) 129 114 := rfl
theorem r293_111 : zr 293 111 [v0, v1, v2, v3, v4, v5, v6, v7, v8, v9] (.int y1 :: .int y2 :: st) u P = (if y2 = y1 then zr 293 129 [v0, v1, v2, v3, v4, v5, v6, v7, v8, v9] st u P else zr 293 114 [v0, v1, v2, v3, v4, v5, v6, v7, v8, v9] st u P) := zr_Cmp k293_111
theorem k293_114 : xcd 293 114 = oAl 0 115 := rfl
theorem r293_114 : zr 293 114 [.ref a0, v1, v2, v3, v4, v5, v6, v7, v8, v9] st u P = zr 293 115 [.ref a0, v1, v2, v3, v4, v5, v6, v7, v8, v9] (.ref a0 :: st) u P := zr_Al k293_114 rfl
theorem k293_115 : xcd 293 115 = oGR 11 3 118 := rfl
theorem r293_115 : zr 293 115 [v0, v1, v2, v3, v4, v5, v6, v7, v8, v9] (.ref b1 :: st) u P = (xIs u b1 11 ∧ ∃ b, xR u b1 3 = some b ∧ zr 293 118 [v0, v1, v2, v3, v4, v5, v6, v7, v8, v9] (.ref b :: st) u P) := zr_GR k293_115
theorem k293_118 : xcd 293 118 = oIl 6 120 := rfl
theorem r293_118 : zr 293 118 [v0, v1, v2, v3, v4, v5, .int x6, v7, v8, v9] st u P = zr 293 120 [v0, v1, v2, v3, v4, v5, .int x6, v7, v8, v9] (.int x6 :: st) u P := zr_Il k293_118 rfl
theorem k293_120 : xcd 293 120 = oCal 199 1 123 := rfl
theorem r293_120 : zr 293 120 [v0, v1, v2, v3, v4, v5, v6, v7, v8, v9] (.int y1 :: st) u P = (xcat st ≤ 8 ∧ zr 199 0 [.int y1] [] u (fun r u2 => zr 293 123 [v0, v1, v2, v3, v4, v5, v6, v7, v8, v9] (r.toList ++ st) u2 P)) := zr_CS k293_120 (Nat.le_add_left _ _) rfl rfl ⟨Nat.le_of_ble_eq_true rfl, Nat.succ_ne_zero _, by decide⟩ rfl
theorem k293_123 : xcd 293 123 = oI 2 124 := rfl
theorem r293_123 : zr 293 123 [v0, v1, v2, v3, v4, v5, v6, v7, v8, v9] st u P = zr 293 124 [v0, v1, v2, v3, v4, v5, v6, v7, v8, v9] (.int 2 :: st) u P := zr_I k293_123
theorem k293_124 : xcd 293 124 = oB (fun x y => x + y) 125 := rfl
theorem r293_124 : zr 293 124 [v0, v1, v2, v3, v4, v5, v6, v7, v8, v9] (.int y1 :: .int y2 :: st) u P = zr 293 125 [v0, v1, v2, v3, v4, v5, v6, v7, v8, v9] (.int (y2 + y1) :: st) u P := zr_B k293_124
theorem k293_125 : xcd 293 125 = oLd 13 126 := rfl
theorem r293_125 : zr 293 125 [v0, v1, v2, v3, v4, v5, v6, v7, v8, v9] (.int y1 :: .ref b1 :: st) u P = ((xIs u b1 13 ∧ xinb y1 (xN u b1)) ∧ zr 293 126 [v0, v1, v2, v3, v4, v5, v6, v7, v8, v9] (.int (xI u b1 (xix y1)) :: st) u P) := zr_Ld k293_125
theorem k293_126 : xcd 293 126 = oIf (fun x => decide (¬ x = 0)) 135 129 := rfl
theorem r293_126 : zr 293 126 [v0, v1, v2, v3, v4, v5, v6, v7, v8, v9] (.int y1 :: st) u P = (if ¬ y1 = 0 then zr 293 135 [v0, v1, v2, v3, v4, v5, v6, v7, v8, v9] st u P else zr 293 129 [v0, v1, v2, v3, v4, v5, v6, v7, v8, v9] st u P) := zr_If k293_126
theorem k293_129 : xcd 293 129 = oAl 0 130 := rfl
theorem r293_129 : zr 293 129 [.ref a0, v1, v2, v3, v4, v5, v6, v7, v8, v9] st u P = zr 293 130 [.ref a0, v1, v2, v3, v4, v5, v6, v7, v8, v9] (.ref a0 :: st) u P := zr_Al k293_129 rfl
theorem k293_130 : xcd 293 130 = oI 5 131 := rfl
theorem r293_130 : zr 293 130 [v0, v1, v2, v3, v4, v5, v6, v7, v8, v9] st u P = zr 293 131 [v0, v1, v2, v3, v4, v5, v6, v7, v8, v9] (.int 5 :: st) u P := zr_I k293_130
theorem k293_131 : xcd 293 131 = oCalV 11 172 1 134 := rfl
theorem r293_131 : zr 293 131 [v0, v1, v2, v3, v4, v5, v6, v7, v8, v9] (.int y1 :: .ref b8 :: st) u P = ((xIs u b8 11 ∧ xcat st ≤ 8) ∧ zr 172 0 [.ref b8, .int y1] [] u (fun r u2 => zr 293 134 [v0, v1, v2, v3, v4, v5, v6, v7, v8, v9] (r.toList ++ st) u2 P)) := zr_CV k293_131 rfl rfl rfl ⟨Nat.le_of_ble_eq_true rfl, Nat.succ_ne_zero _, by decide⟩ rfl
theorem k293_134 : xcd 293 134 = oRi 0 := rfl
theorem r293_134 : zr 293 134 [v0, v1, v2, v3, v4, v5, v6, v7, v8, v9] [.int y1] u P = P (some (.int y1)) u := zr_Ri k293_134
theorem k293_135 : xcd 293 135 = oAl 0 136 := rfl
theorem r293_135 : zr 293 135 [.ref a0, v1, v2, v3, v4, v5, v6, v7, v8, v9] st u P = zr 293 136 [.ref a0, v1, v2, v3, v4, v5, v6, v7, v8, v9] (.ref a0 :: st) u P := zr_Al k293_135 rfl
theorem k293_136 : xcd 293 136 = oGR 11 3 139 := rfl
theorem r293_136 : zr 293 136 [v0, v1, v2, v3, v4, v5, v6, v7, v8, v9] (.ref b1 :: st) u P = (xIs u b1 11 ∧ ∃ b, xR u b1 3 = some b ∧ zr 293 139 [v0, v1, v2, v3, v4, v5, v6, v7, v8, v9] (.ref b :: st) u P) := zr_GR k293_136
theorem k293_139 : xcd 293 139 = oI 4 140 := rfl
theorem r293_139 : zr 293 139 [v0, v1, v2, v3, v4, v5, v6, v7, v8, v9] st u P = zr 293 140 [v0, v1, v2, v3, v4, v5, v6, v7, v8, v9] (.int 4 :: st) u P := zr_I k293_139
theorem k293_140 : xcd 293 140 = oLd 13 141 := rfl
theorem r293_140 : zr 293 140 [v0, v1, v2, v3, v4, v5, v6, v7, v8, v9] (.int y1 :: .ref b1 :: st) u P = ((xIs u b1 13 ∧ xinb y1 (xN u b1)) ∧ zr 293 141 [v0, v1, v2, v3, v4, v5, v6, v7, v8, v9] (.int (xI u b1 (xix y1)) :: st) u P) := zr_Ld k293_140
theorem k293_141 : xcd 293 141 = oI 16 143 := rfl
theorem r293_141 : zr 293 141 [v0, v1, v2, v3, v4, v5, v6, v7, v8, v9] st u P = zr 293 143 [v0, v1, v2, v3, v4, v5, v6, v7, v8, v9] (.int 16 :: st) u P := zr_I k293_141
theorem k293_143 : xcd 293 143 = oCmp (fun x y => decide (¬ x = y)) 152 146 := rfl
theorem r293_143 : zr 293 143 [v0, v1, v2, v3, v4, v5, v6, v7, v8, v9] (.int y1 :: .int y2 :: st) u P = (if ¬ y2 = y1 then zr 293 152 [v0, v1, v2, v3, v4, v5, v6, v7, v8, v9] st u P else zr 293 146 [v0, v1, v2, v3, v4, v5, v6, v7, v8, v9] st u P) := zr_Cmp k293_143
theorem k293_146 : xcd 293 146 = oAl 0 147 := rfl
theorem r293_146 : zr 293 146 [.ref a0, v1, v2, v3, v4, v5, v6, v7, v8, v9] st u P = zr 293 147 [.ref a0, v1, v2, v3, v4, v5, v6, v7, v8, v9] (.ref a0 :: st) u P := zr_Al k293_146 rfl
theorem k293_147 : xcd 293 147 = oI 3 148 := rfl
theorem r293_147 : zr 293 147 [v0, v1, v2, v3, v4, v5, v6, v7, v8, v9] st u P = zr 293 148 [v0, v1, v2, v3, v4, v5, v6, v7, v8, v9] (.int 3 :: st) u P := zr_I k293_147
theorem k293_148 : xcd 293 148 = oCalV 11 172 1 151 := rfl
theorem r293_148 : zr 293 148 [v0, v1, v2, v3, v4, v5, v6, v7, v8, v9] (.int y1 :: .ref b8 :: st) u P = ((xIs u b8 11 ∧ xcat st ≤ 8) ∧ zr 172 0 [.ref b8, .int y1] [] u (fun r u2 => zr 293 151 [v0, v1, v2, v3, v4, v5, v6, v7, v8, v9] (r.toList ++ st) u2 P)) := zr_CV k293_148 rfl rfl rfl ⟨Nat.le_of_ble_eq_true rfl, Nat.succ_ne_zero _, by decide⟩ rfl
theorem k293_151 : xcd 293 151 = oRi 0 := rfl
theorem r293_151 : zr 293 151 [v0, v1, v2, v3, v4, v5, v6, v7, v8, v9] [.int y1] u P = P (some (.int y1)) u := zr_Ri k293_151
theorem k293_152 : xcd 293 152 = oAl 0 153 := rfl
theorem r293_152 : zr 293 152 [.ref a0, v1, v2, v3, v4, v5, v6, v7, v8, v9] st u P = zr 293 153 [.ref a0, v1, v2, v3, v4, v5, v6, v7, v8, v9] (.ref a0 :: st) u P := zr_Al k293_152 rfl
theorem k293_153 : xcd 293 153 = oGR 11 3 156 := rfl
theorem r293_153 : zr 293 153 [v0, v1, v2, v3, v4, v5, v6, v7, v8, v9] (.ref b1 :: st) u P = (xIs u b1 11 ∧ ∃ b, xR u b1 3 = some b ∧ zr 293 156 [v0, v1, v2, v3, v4, v5, v6, v7, v8, v9] (.ref b :: st) u P) := zr_GR k293_153
theorem k293_156 : xcd 293 156 = oI 4 157 := rfl
theorem r293_156 : zr 293 156 [v0, v1, v2, v3, v4, v5, v6, v7, v8, v9] st u P = zr 293 157 [v0, v1, v2, v3, v4, v5, v6, v7, v8, v9] (.int 4 :: st) u P := zr_I k293_156
theorem k293_157 : xcd 293 157 = oLd 13 158 := rfl
theorem r293_157 : zr 293 157 [v0, v1, v2, v3, v4, v5, v6, v7, v8, v9] (.int y1 :: .ref b1 :: st) u P = ((xIs u b1 13 ∧ xinb y1 (xN u b1)) ∧ zr 293 158 [v0, v1, v2, v3, v4, v5, v6, v7, v8, v9] (.int (xI u b1 (xix y1)) :: st) u P) := zr_Ld k293_157
theorem k293_158 : xcd 293 158 = oCal 199 1 161 := rfl
theorem r293_158 : zr 293 158 [v0, v1, v2, v3, v4, v5, v6, v7, v8, v9] (.int y1 :: st) u P = (xcat st ≤ 8 ∧ zr 199 0 [.int y1] [] u (fun r u2 => zr 293 161 [v0, v1, v2, v3, v4, v5, v6, v7, v8, v9] (r.toList ++ st) u2 P)) := zr_CS k293_158 (Nat.le_add_left _ _) rfl rfl ⟨Nat.le_of_ble_eq_true rfl, Nat.succ_ne_zero _, by decide⟩ rfl
theorem k293_161 : xcd 293 161 = oIs 7 163 := rfl
theorem r293_161 : zr 293 161 [v0, v1, v2, v3, v4, v5, .int x6, v7, v8, v9] (.int y1 :: st) u P = zr 293 163 [v0, v1, v2, v3, v4, v5, .int x6, .int y1, v8, v9] st u P := zr_Is k293_161 ⟨Nat.le_of_ble_eq_true rfl, rfl⟩
theorem k293_163 : xcd 293 163 = oAl 0 164 := rfl
theorem r293_163 : zr 293 163 [.ref a0, v1, v2, v3, v4, v5, v6, v7, v8, v9] st u P = zr 293 164 [.ref a0, v1, v2, v3, v4, v5, v6, v7, v8, v9] (.ref a0 :: st) u P := zr_Al k293_163 rfl
theorem k293_164 : xcd 293 164 = oGR 11 3 167 := rfl
theorem r293_164 : zr 293 164 [v0, v1, v2, v3, v4, v5, v6, v7, v8, v9] (.ref b1 :: st) u P = (xIs u b1 11 ∧ ∃ b, xR u b1 3 = some b ∧ zr 293 167 [v0, v1, v2, v3, v4, v5, v6, v7, v8, v9] (.ref b :: st) u P) := zr_GR k293_164
theorem k293_167 : xcd 293 167 = oIl 6 169 := rfl
theorem r293_167 : zr 293 167 [v0, v1, v2, v3, v4, v5, .int x6, v7, v8, v9] st u P = zr 293 169 [v0, v1, v2, v3, v4, v5, .int x6, v7, v8, v9] (.int x6 :: st) u P := zr_Il k293_167 rfl
theorem k293_169 : xcd 293 169 = oCal 199 1 172 := rfl
theorem r293_169 : zr 293 169 [v0, v1, v2, v3, v4, v5, v6, v7, v8, v9] (.int y1 :: st) u P = (xcat st ≤ 8 ∧ zr 199 0 [.int y1] [] u (fun r u2 => zr 293 172 [v0, v1, v2, v3, v4, v5, v6, v7, v8, v9] (r.toList ++ st) u2 P)) := zr_CS k293_169 (Nat.le_add_left _ _) rfl rfl ⟨Nat.le_of_ble_eq_true rfl, Nat.succ_ne_zero _, by decide⟩ rfl
theorem k293_172 : xcd 293 172 = oI 2 173 := rfl
theorem r293_172 : zr 293 172 [v0, v1, v2, v3, v4, v5, v6, v7, v8, v9] st u P = zr 293 173 [v0, v1, v2, v3, v4, v5, v6, v7, v8, v9] (.int 2 :: st) u P := zr_I k293_172
theorem k293_173 : xcd 293 173 = oB (fun x y => x + y) 174 := rfl
theorem r293_173 : zr 293 173 [v0, v1, v2, v3, v4, v5, v6, v7, v8, v9] (.int y1 :: .int y2 :: st) u P = zr 293 174 [v0, v1, v2, v3, v4, v5, v6, v7, v8, v9] (.int (y2 + y1) :: st) u P := zr_B k293_173
theorem k293_174 : xcd 293 174 = oLd 13 175 := rfl
theorem r293_174 : zr 293 174 [v0, v1, v2, v3, v4, v5, v6, v7, v8, v9] (.int y1 :: .ref b1 :: st) u P = ((xIs u b1 13 ∧ xinb y1 (xN u b1)) ∧ zr 293 175 [v0, v1, v2, v3, v4, v5, v6, v7, v8, v9] (.int (xI u b1 (xix y1)) :: st) u P) := zr_Ld k293_174
theorem k293_175 : xcd 293 175 = oIs 8 177 := rfl
theorem r293_175 : zr 293 175 [v0, v1, v2, v3, v4, v5, v6, .int x7, v8, v9] (.int y1 :: st) u P = zr 293 177 [v0, v1, v2, v3, v4, v5, v6, .int x7, .int y1, v9] st u P := zr_Is k293_175 ⟨Nat.le_of_ble_eq_true rfl, rfl⟩
theorem k293_177 : xcd 293 177 = oAl 0 178 := rfl
theorem r293_177 : zr 293 177 [.ref a0, v1, v2, v3, v4, v5, v6, v7, v8, v9] st u P = zr 293 178 [.ref a0, v1, v2, v3, v4, v5, v6, v7, v8, v9] (.ref a0 :: st) u P := zr_Al k293_177 rfl
theorem k293_178 : xcd 293 178 = oGR 11 3 181 := rfl
theorem r293_178 : zr 293 178 [v0, v1, v2, v3, v4, v5, v6, v7, v8, v9] (.ref b1 :: st) u P = (xIs u b1 11 ∧ ∃ b, xR u b1 3 = some b ∧ zr 293 181 [v0, v1, v2, v3, v4, v5, v6, v7, v8, v9] (.ref b :: st) u P) := zr_GR k293_178
theorem k293_181 : xcd 293 181 = oIl 7 183 := rfl
theorem r293_181 : zr 293 181 [v0, v1, v2, v3, v4, v5, v6, .int x7, v8, v9] st u P = zr 293 183 [v0, v1, v2, v3, v4, v5, v6, .int x7, v8, v9] (.int x7 :: st) u P := zr_Il k293_181 rfl
theorem k293_183 : xcd 293 183 = oIl 1 184 := rfl
theorem r293_183 : zr 293 183 [v0, .int x1, v2, v3, v4, v5, v6, v7, v8, v9] st u P = zr 293 184 [v0, .int x1, v2, v3, v4, v5, v6, v7, v8, v9] (.int x1 :: st) u P := zr_Il k293_183 rfl
theorem k293_184 : xcd 293 184 = oSt 13 (fun x => x) 185 := rfl
theorem r293_184 : zr 293 184 [v0, v1, v2, v3, v4, v5, v6, v7, v8, v9] (.int y2 :: .int y1 :: .ref b1 :: st) u P = ((xIs u b1 13 ∧ xinb y1 (xN u b1)) ∧ zr 293 185 [v0, v1, v2, v3, v4, v5, v6, v7, v8, v9] st (xsI u b1 (xix y1) y2) P) := zr_St k293_184
theorem k293_185 : xcd 293 185 = oAl 0 186 := rfl
theorem r293_185 : zr 293 185 [.ref a0, v1, v2, v3, v4, v5, v6, v7, v8, v9] st u P = zr 293 186 [.ref a0, v1, v2, v3, v4, v5, v6, v7, v8, v9] (.ref a0 :: st) u P := zr_Al k293_185 rfl
theorem k293_186 : xcd 293 186 = oGR 11 3 189 := rfl
theorem r293_186 : zr 293 186 [v0, v1, v2, v3, v4, v5, v6, v7, v8, v9] (.ref b1 :: st) u P = (xIs u b1 11 ∧ ∃ b, xR u b1 3 = some b ∧ zr 293 189 [v0, v1, v2, v3, v4, v5, v6, v7, v8, v9] (.ref b :: st) u P) := zr_GR k293_186
theorem k293_189 : xcd 293 189 = oIl 7 191 := rfl
theorem r293_189 : zr 293 189 [v0, v1, v2, v3, v4, v5, v6, .int x7, v8, v9] st u P = zr 293 191 [v0, v1, v2, v3, v4, v5, v6, .int x7, v8, v9] (.int x7 :: st) u P := zr_Il k293_189 rfl
theorem k293_191 : xcd 293 191 = oI 1 192 := rfl
theorem r293_191 : zr 293 191 [v0, v1, v2, v3, v4, v5, v6, v7, v8, v9] st u P = zr 293 192 [v0, v1, v2, v3, v4, v5, v6, v7, v8, v9] (.int 1 :: st) u P := zr_I k293_191
theorem k293_192 : xcd 293 192 = oB (fun x y => x + y) 193 := rfl
theorem r293_192 : zr 293 192 [v0, v1, v2, v3, v4, v5, v6, v7, v8, v9] (.int y1 :: .int y2 :: st) u P = zr 293 193 [v0, v1, v2, v3, v4, v5, v6, v7, v8, v9] (.int (y2 + y1) :: st) u P := zr_B k293_192
theorem k293_193 : xcd 293 193 = oIl 2 194 := rfl
theorem r293_193 : zr 293 193 [v0, v1, .int x2, v3, v4, v5, v6, v7, v8, v9] st u P = zr 293 194 [v0, v1, .int x2, v3, v4, v5, v6, v7, v8, v9] (.int x2 :: st) u P := zr_Il k293_193 rfl
theorem k293_194 : xcd 293 194 = oSt 13 (fun x => x) 195 := rfl
theorem r293_194 : zr 293 194 [v0, v1, v2, v3, v4, v5, v6, v7, v8, v9] (.int y2 :: .int y1 :: .ref b1 :: st) u P = ((xIs u b1 13 ∧ xinb y1 (xN u b1)) ∧ zr 293 195 [v0, v1, v2, v3, v4, v5, v6, v7, v8, v9] st (xsI u b1 (xix y1) y2) P) := zr_St k293_194
theorem k293_195 : xcd 293 195 = oAl 0 196 := rfl
theorem r293_195 : zr 293 195 [.ref a0, v1, v2, v3, v4, v5, v6, v7, v8, v9] st u P = zr 293 196 [.ref a0, v1, v2, v3, v4, v5, v6, v7, v8, v9] (.ref a0 :: st) u P := zr_Al k293_195 rfl
theorem k293_196 : xcd 293 196 = oGR 11 3 199 := rfl
theorem r293_196 : zr 293 196 [v0, v1, v2, v3, v4, v5, v6, v7, v8, v9] (.ref b1 :: st) u P = (xIs u b1 11 ∧ ∃ b, xR u b1 3 = some b ∧ zr 293 199 [v0, v1, v2, v3, v4, v5, v6, v7, v8, v9] (.ref b :: st) u P) := zr_GR k293_196
theorem k293_199 : xcd 293 199 = oIl 7 201 := rfl
theorem r293_199 : zr 293 199 [v0, v1, v2, v3, v4, v5, v6, .int x7, v8, v9] st u P = zr 293 201 [v0, v1, v2, v3, v4, v5, v6, .int x7, v8, v9] (.int x7 :: st) u P := zr_Il k293_199 rfl
theorem k293_201 : xcd 293 201 = oI 2 202 := rfl
theorem r293_201 : zr 293 201 [v0, v1, v2, v3, v4, v5, v6, v7, v8, v9] st u P = zr 293 202 [v0, v1, v2, v3, v4, v5, v6, v7, v8, v9] (.int 2 :: st) u P := zr_I k293_201
theorem k293_202 : xcd 293 202 = oB (fun x y => x + y) 203 := rfl
theorem r293_202 : zr 293 202 [v0, v1, v2, v3, v4, v5, v6, v7, v8, v9] (.int y1 :: .int y2 :: st) u P = zr 293 203 [v0, v1, v2, v3, v4, v5, v6, v7, v8, v9] (.int (y2 + y1) :: st) u P := zr_B k293_202
theorem k293_203 : xcd 293 203 = oIl 8 205 := rfl
theorem r293_203 : zr 293 203 [v0, v1, v2, v3, v4, v5, v6, v7, .int x8, v9] st u P = zr 293 205 [v0, v1, v2, v3, v4, v5, v6, v7, .int x8, v9] (.int x8 :: st) u P := zr_Il k293_203 rfl
theorem k293_205 : xcd 293 205 = oSt 13 (fun x => x) 206 := rfl
theorem r293_205 : zr 293 205 [v0, v1, v2, v3, v4, v5, v6, v7, v8, v9] (.int y2 :: .int y1 :: .ref b1 :: st) u P = ((xIs u b1 13 ∧ xinb y1 (xN u b1)) ∧ zr 293 206 [v0, v1, v2, v3, v4, v5, v6, v7, v8, v9] st (xsI u b1 (xix y1) y2) P) := zr_St k293_205
theorem k293_206 : xcd 293 206 = oI 0 207 := rfl
theorem r293_206 : zr 293 206 [v0, v1, v2, v3, v4, v5, v6, v7, v8, v9] st u P = zr 293 207 [v0, v1, v2, v3, v4, v5, v6, v7, v8, v9] (.int 0 :: st) u P := zr_I k293_206
theorem k293_207 : xcd 293 207 = oIs 9 209 := rfl
theorem r293_207 : zr 293 207 [v0, v1, v2, v3, v4, v5, v6, v7, .int x8, v9] (.int y1 :: st) u P = zr 293 209 [v0, v1, v2, v3, v4, v5, v6, v7, .int x8, .int y1] st u P := zr_Is k293_207 ⟨Nat.le_of_ble_eq_true rfl, rfl⟩
theorem k293_209 : xcd 293 209 = oIl 9 211 := rfl
theorem r293_209 : zr 293 209 [v0, v1, v2, v3, v4, v5, v6, v7, v8, .int x9] st u P = zr 293 211 [v0, v1, v2, v3, v4, v5, v6, v7, v8, .int x9] (.int x9 :: st) u P := zr_Il k293_209 rfl
theorem k293_211 : xcd 293 211 = oIl 8 213 := rfl
theorem r293_211 : zr 293 211 [v0, v1, v2, v3, v4, v5, v6, v7, .int x8, v9] st u P = zr 293 213 [v0, v1, v2, v3, v4, v5, v6, v7, .int x8, v9] (.int x8 :: st) u P := zr_Il k293_211 rfl
theorem k293_213 : xcd 293 213 = oCmp (fun x y => decide (y ≤ x)) 271 216 := rfl
theorem r293_213 : zr 293 213 [v0, v1, v2, v3, v4, v5, v6, v7, v8, v9] (.int y1 :: .int y2 :: st) u P = (if y1 ≤ y2 then zr 293 271 [v0, v1, v2, v3, v4, v5, v6, v7, v8, v9] st u P else zr 293 216 [v0, v1, v2, v3, v4, v5, v6, v7, v8, v9] st u P) := zr_Cmp k293_213
theorem k293_216 : xcd 293 216 = oAl 0 217 := rfl
theorem r293_216 : zr 293 216 [.ref a0, v1, v2, v3, v4, v5, v6, v7, v8, v9] st u P = zr 293 217 [.ref a0, v1, v2, v3, v4, v5, v6, v7, v8, v9] (.ref a0 :: st) u P := zr_Al k293_216 rfl
theorem k293_217 : xcd 293 217 = oGR 11 3 220 := rfl
theorem r293_217 : zr 293 217 [v0, v1, v2, v3, v4, v5, v6, v7, v8, v9] (.ref b1 :: st) u P = (xIs u b1 11 ∧ ∃ b, xR u b1 3 = some b ∧ zr 293 220 [v0, v1, v2, v3, v4, v5, v6, v7, v8, v9] (.ref b :: st) u P) := zr_GR k293_217
theorem k293_220 : xcd 293 220 = oIl 7 222 := rfl
theorem r293_220 : zr 293 220 [v0, v1, v2, v3, v4, v5, v6, .int x7, v8, v9] st u P = zr 293 222 [v0, v1, v2, v3, v4, v5, v6, .int x7, v8, v9] (.int x7 :: st) u P := zr_Il k293_220 rfl
theorem k293_222 : xcd 293 222 = oI 3 223 := rfl
theorem r293_222 : zr 293 222 [v0, v1, v2, v3, v4, v5, v6, v7, v8, v9] st u P = zr 293 223 [v0, v1, v2, v3, v4, v5, v6, v7, v8, v9] (.int 3 :: st) u P := zr_I k293_222
theorem k293_223 : xcd 293 223 = oB (fun x y => x + y) 224 := rfl
theorem r293_223 : zr 293 223 [v0, v1, v2, v3, v4, v5, v6, v7, v8, v9] (.int y1 :: .int y2 :: st) u P = zr 293 224 [v0, v1, v2, v3, v4, v5, v6, v7, v8, v9] (.int (y2 + y1) :: st) u P := zr_B k293_223
theorem k293_224 : xcd 293 224 = oI 2 225 := rfl
theorem r293_224 : zr 293 224 [v0, v1, v2, v3, v4, v5, v6, v7, v8, v9] st u P = zr 293 225 [v0, v1, v2, v3, v4, v5, v6, v7, v8, v9] (.int 2 :: st) u P := zr_I k293_224
theorem k293_225 : xcd 293 225 = oIl 9 227 := rfl
theorem r293_225 : zr 293 225 [v0, v1, v2, v3, v4, v5, v6, v7, v8, .int x9] st u P = zr 293 227 [v0, v1, v2, v3, v4, v5, v6, v7, v8, .int x9] (.int x9 :: st) u P := zr_Il k293_225 rfl
theorem k293_227 : xcd 293 227 = oB (fun x y => x * y) 228 := rfl
theorem r293_227 : zr 293 227 [v0, v1, v2, v3, v4, v5, v6, v7, v8, v9] (.int y1 :: .int y2 :: st) u P = zr 293 228 [v0, v1, v2, v3, v4, v5, v6, v7, v8, v9] (.int (y2 * y1) :: st) u P := zr_B k293_227
theorem k293_228 : xcd 293 228 = oB (fun x y => x + y) 229 := rfl
theorem r293_228 : zr 293 228 [v0, v1, v2, v3, v4, v5, v6, v7, v8, v9] (.int y1 :: .int y2 :: st) u P = zr 293 229 [v0, v1, v2, v3, v4, v5, v6, v7, v8, v9] (.int (y2 + y1) :: st) u P := zr_B k293_228
theorem k293_229 : xcd 293 229 = oAl 0 230 := rfl
theorem r293_229 : zr 293 229 [.ref a0, v1, v2, v3, v4, v5, v6, v7, v8, v9] st u P = zr 293 230 [.ref a0, v1, v2, v3, v4, v5, v6, v7, v8, v9] (.ref a0 :: st) u P := zr_Al k293_229 rfl
theorem k293_230 : xcd 293 230 = oIl 6 232 := rfl
theorem r293_230 : zr 293 230 [v0, v1, v2, v3, v4, v5, .int x6, v7, v8, v9] st u P = zr 293 232 [v0, v1, v2, v3, v4, v5, .int x6, v7, v8, v9] (.int x6 :: st) u P := zr_Il k293_230 rfl
theorem k293_232 : xcd 293 232 = oIl 9 234 := rfl
theorem r293_232 : zr 293 232 [v0, v1, v2, v3, v4, v5, v6, v7, v8, .int x9] st u P = zr 293 234 [v0, v1, v2, v3, v4, v5, v6, v7, v8, .int x9] (.int x9 :: st) u P := zr_Il k293_232 rfl
theorem k293_234 : xcd 293 234 = oCalV 11 220 2 237 := rfl
theorem r293_234 : zr 293 234 [v0, v1, v2, v3, v4, v5, v6, v7, v8, v9] (.int y2 :: .int y1 :: .ref b8 :: st) u P = ((xIs u b8 11 ∧ xcat st ≤ 8) ∧ zr 220 0 [.ref b8, .int y1, .int y2] [] u (fun r u2 => zr 293 237 [v0, v1, v2, v3, v4, v5, v6, v7, v8, v9] (r.toList ++ st) u2 P)) := zr_CV k293_234 rfl rfl rfl ⟨Nat.le_of_ble_eq_true rfl, Nat.succ_ne_zero _, by decide⟩ rfl
theorem k293_237 : xcd 293 237 = oIl 3 238 := rfl
theorem r293_237 : zr 293 237 [v0, v1, v2, .int x3, v4, v5, v6, v7, v8, v9] st u P = zr 293 238 [v0, v1, v2, .int x3, v4, v5, v6, v7, v8, v9] (.int x3 :: st) u P := zr_Il k293_237 rfl
theorem k293_238 : xcd 293 238 = oB (fun x y => x + y) 239 := rfl
theorem r293_238 : zr 293 238 [v0, v1, v2, v3, v4, v5, v6, v7, v8, v9] (.int y1 :: .int y2 :: st) u P = zr 293 239 [v0, v1, v2, v3, v4, v5, v6, v7, v8, v9] (.int (y2 + y1) :: st) u P := zr_B k293_238
theorem k293_239 : xcd 293 239 = oSt 13 (fun x => x) 240 := rfl
theorem r293_239 : zr 293 239 [v0, v1, v2, v3, v4, v5, v6, v7, v8, v9] (.int y2 :: .int y1 :: .ref b1 :: st) u P = ((xIs u b1 13 ∧ xinb y1 (xN u b1)) ∧ zr 293 240 [v0, v1, v2, v3, v4, v5, v6, v7, v8, v9] st (xsI u b1 (xix y1) y2) P) := zr_St k293_239
theorem k293_240 : xcd 293 240 = oAl 0 241 := rfl
theorem r293_240 : zr 293 240 [.ref a0, v1, v2, v3, v4, v5, v6, v7, v8, v9] st u P = zr 293 241 [.ref a0, v1, v2, v3, v4, v5, v6, v7, v8, v9] (.ref a0 :: st) u P := zr_Al k293_240 rfl
theorem k293_241 : xcd 293 241 = oGR 11 3 244 := rfl
theorem r293_241 : zr 293 241 [v0, v1, v2, v3, v4, v5, v6, v7, v8, v9] (.ref b1 :: st) u P = (xIs u b1 11 ∧ ∃ b, xR u b1 3 = some b ∧ zr 293 244 [v0, v1, v2, v3, v4, v5, v6, v7, v8, v9] (.ref b :: st) u P) := zr_GR k293_241
theorem k293_244 : xcd 293 244 = oIl 7 246 := rfl
theorem r293_244 : zr 293 244 [v0, v1, v2, v3, v4, v5, v6, .int x7, v8, v9] st u P = zr 293 246 [v0, v1, v2, v3, v4, v5, v6, .int x7, v8, v9] (.int x7 :: st) u P := zr_Il k293_244 rfl
theorem k293_246 : xcd 293 246 = oI 4 247 := rfl
theorem r293_246 : zr 293 246 [v0, v1, v2, v3, v4, v5, v6, v7, v8, v9] st u P = zr 293 247 [v0, v1, v2, v3, v4, v5, v6, v7, v8, v9] (.int 4 :: st) u P := zr_I k293_246
theorem k293_247 : xcd 293 247 = oB (fun x y => x + y) 248 := rfl
theorem r293_247 : zr 293 247 [v0, v1, v2, v3, v4, v5, v6, v7, v8, v9] (.int y1 :: .int y2 :: st) u P = zr 293 248 [v0, v1, v2, v3, v4, v5, v6, v7, v8, v9] (.int (y2 + y1) :: st) u P := zr_B k293_247
theorem k293_248 : xcd 293 248 = oI 2 249 := rfl
theorem r293_248 : zr 293 248 [v0, v1, v2, v3, v4, v5, v6, v7, v8, v9] st u P = zr 293 249 [v0, v1, v2, v3, v4, v5, v6, v7, v8, v9] (.int 2 :: st) u P := zr_I k293_248
theorem k293_249 : xcd 293 249 = oIl 9 251 := rfl
theorem r293_249 : zr 293 249 [v0, v1, v2, v3, v4, v5, v6, v7, v8, .int x9] st u P = zr 293 251 [v0, v1, v2, v3, v4, v5, v6, v7, v8, .int x9] (.int x9 :: st) u P := zr_Il k293_249 rfl
theorem k293_251 : xcd 293 251 = oB (fun x y => x * y) 252 := rfl
theorem r293_251 : zr 293 251 [v0, v1, v2, v3, v4, v5, v6, v7, v8, v9] (.int y1 :: .int y2 :: st) u P = zr 293 252 [v0, v1, v2, v3, v4, v5, v6, v7, v8, v9] (.int (y2 * y1) :: st) u P := zr_B k293_251
theorem k293_252 : xcd 293 252 = oB (fun x y => x + y) 253 := rfl
theorem r293_252 : zr 293 252 [v0, v1, v2, v3, v4, v5, v6, v7, v8, v9] (.int y1 :: .int y2 :: st) u P = zr 293 253 [v0, v1, v2, v3, v4, v5, v6, v7, v8, v9] (.int (y2 + y1) :: st) u P := zr_B k293_252
theorem k293_253 : xcd 293 253 = oAl 0 254 := rfl
theorem r293_253 : zr 293 253 [.ref a0, v1, v2, v3, v4, v5, v6, v7, v8, v9] st u P = zr 293 254 [.ref a0, v1, v2, v3, v4, v5, v6, v7, v8, v9] (.ref a0 :: st) u P := zr_Al k293_253 rfl
theorem k293_254 : xcd 293 254 = oIl 6 256 := rfl
theorem r293_254 : zr 293 254 [v0, v1, v2, v3, v4, v5, .int x6, v7, v8, v9] st u P = zr 293 256 [v0, v1, v2, v3, v4, v5, .int x6, v7, v8, v9] (.int x6 :: st) u P := zr_Il k293_254 rfl
theorem k293_256 : xcd 293 256 = oIl 9 258 := rfl
theorem r293_256 : zr 293 256 [v0, v1, v2, v3, v4, v5, v6, v7, v8, .int x9] st u P = zr 293 258 [v0, v1, v2, v3, v4, v5, v6, v7, v8, .int x9] (.int x9 :: st) u P := zr_Il k293_256 rfl
theorem k293_258 : xcd 293 258 = oCalV 11 221 2 261 := rfl
theorem r293_258 : zr 293 258 [v0, v1, v2, v3, v4, v5, v6, v7, v8, v9] (.int y2 :: .int y1 :: .ref b8 :: st) u P = ((xIs u b8 11 ∧ xcat st ≤ 8) ∧ zr 221 0 [.ref b8, .int y1, .int y2] [] u (fun r u2 => zr 293 261 [v0, v1, v2, v3, v4, v5, v6, v7, v8, v9] (r.toList ++ st) u2 P)) := zr_CV k293_258 rfl rfl rfl ⟨Nat.le_of_ble_eq_true rfl, Nat.succ_ne_zero _, by decide⟩ rfl
theorem k293_261 : xcd 293 261 = oIl 4 263 := rfl
theorem r293_261 : zr 293 261 [v0, v1, v2, v3, .int x4, v5, v6, v7, v8, v9] st u P = zr 293 263 [v0, v1, v2, v3, .int x4, v5, v6, v7, v8, v9] (.int x4 :: st) u P := zr_Il k293_261 rfl
theorem k293_263 : xcd 293 263 = oB (fun x y => x + y) 264 := rfl
theorem r293_263 : zr 293 263 [v0, v1, v2, v3, v4, v5, v6, v7, v8, v9] (.int y1 :: .int y2 :: st) u P = zr 293 264 [v0, v1, v2, v3, v4, v5, v6, v7, v8, v9] (.int (y2 + y1) :: st) u P := zr_B k293_263
theorem k293_264 : xcd 293 264 = oSt 13 (fun x => x) 265 := rfl
theorem r293_264 : zr 293 264 [v0, v1, v2, v3, v4, v5, v6, v7, v8, v9] (.int y2 :: .int y1 :: .ref b1 :: st) u P = ((xIs u b1 13 ∧ xinb y1 (xN u b1)) ∧ zr 293 265 [v0, v1, v2, v3, v4, v5, v6, v7, v8, v9] st (xsI u b1 (xix y1) y2) P) := zr_St k293_264
theorem k293_265 : xcd 293 265 = oInc 9 1 268 := rfl
theorem r293_265 : zr 293 265 [v0, v1, v2, v3, v4, v5, v6, v7, .int x8, .int x9] st u P = zr 293 268 [v0, v1, v2, v3, v4, v5, v6, v7, .int x8, .int (x9 + 1)] st u P := zr_Inc k293_265 rfl rfl
theorem k293_268 : xcd 293 268 = oGoto 209 := rfl
theorem r293_268 : zr 293 268 [v0, v1, v2, v3, v4, v5, v6, v7, v8, v9] st u P = zr 293 209 [v0, v1, v2, v3, v4, v5, v6, v7, v8, v9] st u P := zr_Goto k293_268
theorem k293_271 : xcd 293 271 = oAl 0 272 := rfl
theorem r293_271 : zr 293 271 [.ref a0, v1, v2, v3, v4, v5, v6, v7, v8, v9] st u P = zr 293 272 [.ref a0, v1, v2, v3, v4, v5, v6, v7, v8, v9] (.ref a0 :: st) u P := zr_Al k293_271 rfl
theorem k293_272 : xcd 293 272 = oGR 11 3 275 := rfl
theorem r293_272 : zr 293 272 [v0, v1, v2, v3, v4, v5, v6, v7, v8, v9] (.ref b1 :: st) u P = (xIs u b1 11 ∧ ∃ b, xR u b1 3 = some b ∧ zr 293 275 [v0, v1, v2, v3, v4, v5, v6, v7, v8, v9] (.ref b :: st) u P) := zr_GR k293_272
theorem k293_275 : xcd 293 275 = oI 4 276 := rfl
theorem r293_275 : zr 293 275 [v0, v1, v2, v3, v4, v5, v6, v7, v8, v9] st u P = zr 293 276 [v0, v1, v2, v3, v4, v5, v6, v7, v8, v9] (.int 4 :: st) u P := zr_I k293_275
theorem k293_276 : xcd 293 276 = oDup2 277 := rfl
theorem r293_276 : zr 293 276 [v0, v1, v2, v3, v4, v5, v6, v7, v8, v9] (.int y1 :: .ref b1 :: st) u P = zr 293 277 [v0, v1, v2, v3, v4, v5, v6, v7, v8, v9] (.int y1 :: .ref b1 :: .int y1 :: .ref b1 :: st) u P := zr_Dup2 k293_276
theorem k293_277 : xcd 293 277 = oLd 13 278 := rfl
theorem r293_277 : zr 293 277 [v0, v1, v2, v3, v4, v5, v6, v7, v8, v9] (.int y1 :: .ref b1 :: st) u P = ((xIs u b1 13 ∧ xinb y1 (xN u b1)) ∧ zr 293 278 [v0, v1, v2, v3, v4, v5, v6, v7, v8, v9] (.int (xI u b1 (xix y1)) :: st) u P) := zr_Ld k293_277
theorem k293_278 : xcd 293 278 = oI 1 279 := rfl
theorem r293_278 : zr 293 278 [v0, v1, v2, v3, v4, v5, v6, v7, v8, v9] st u P = zr 293 279 [v0, v1, v2, v3, v4, v5, v6, v7, v8, v9] (.int 1 :: st) u P := zr_I k293_278
theorem k293_279 : xcd 293 279 = oB (fun x y => x + y) 280 := rfl
theorem r293_279 : zr 293 279 [v0, v1, v2, v3, v4, v5, v6, v7, v8, v9] (.int y1 :: .int y2 :: st) u P = zr 293 280 [v0, v1, v2, v3, v4, v5, v6, v7, v8, v9] (.int (y2 + y1) :: st) u P := zr_B k293_279
theorem k293_280 : xcd 293 280 = oSt 13 (fun x => x) 281 := rfl
theorem r293_280 : zr 293 280 [v0, v1, v2, v3, v4, v5, v6, v7, v8, v9] (.int y2 :: .int y1 :: .ref b1 :: st) u P = ((xIs u b1 13 ∧ xinb y1 (xN u b1)) ∧ zr 293 281 [v0, v1, v2, v3, v4, v5, v6, v7, v8, v9] st (xsI u b1 (xix y1) y2) P) := zr_St k293_280
theorem k293_281 : xcd 293 281 = oAl 0 282 := rfl
theorem r293_281 : zr 293 281 [.ref a0, v1, v2, v3, v4, v5, v6, v7, v8, v9] st u P = zr 293 282 [.ref a0, v1, v2, v3, v4, v5, v6, v7, v8, v9] (.ref a0 :: st) u P := zr_Al k293_281 rfl
theorem k293_282 : xcd 293 282 = oI 2 283 := rfl
theorem r293_282 : zr 293 282 [v0, v1, v2, v3, v4, v5, v6, v7, v8, v9] st u P = zr 293 283 [v0, v1, v2, v3, v4, v5, v6, v7, v8, v9] (.int 2 :: st) u P := zr_I k293_282
theorem k293_283 : xcd 293 283 = oI 0 284 := rfl
theorem r293_283 : zr 293 283 [v0, v1, v2, v3, v4, v5, v6, v7, v8, v9] st u P = zr 293 284 [v0, v1, v2, v3, v4, v5, v6, v7, v8, v9] (.int 0 :: st) u P := zr_I k293_283
theorem k293_284 : xcd 293 284 = oI 0 285 := rfl
theorem r293_284 : zr 293 284 [v0, v1, v2, v3, v4, v5, v6, v7, v8, v9] st u P = zr 293 285 [v0, v1, v2, v3, v4, v5, v6, v7, v8, v9] (.int 0 :: st) u P := zr_I k293_284
theorem k293_285 : xcd 293 285 = oCalV 11 289 3 288 := rfl
theorem r293_285 : zr 293 285 [v0, v1, v2, v3, v4, v5, v6, v7, v8, v9] (.int y3 :: .int y2 :: .int y1 :: .ref b8 :: st) u P = ((xIs u b8 11 ∧ xcat st ≤ 8) ∧ zr 289 0 [.ref b8, .int y1, .int y2, .int y3, .null] [] u (fun r u2 => zr 293 288 [v0, v1, v2, v3, v4, v5, v6, v7, v8, v9] (r.toList ++ st) u2 P)) := zr_CV k293_285 rfl rfl rfl ⟨Nat.le_of_ble_eq_true rfl, Nat.succ_ne_zero _, by decide⟩ rfl
theorem k293_288 : xcd 293 288 = oAl 0 289 := rfl
theorem r293_288 : zr 293 288 [.ref a0, v1, v2, v3, v4, v5, v6, v7, v8, v9] st u P = zr 293 289 [.ref a0, v1, v2, v3, v4, v5, v6, v7, v8, v9] (.ref a0 :: st) u P := zr_Al k293_288 rfl
theorem k293_289 : xcd 293 289 = oAl 0 290 := rfl
theorem r293_289 : zr 293 289 [.ref a0, v1, v2, v3, v4, v5, v6, v7, v8, v9] st u P = zr 293 290 [.ref a0, v1, v2, v3, v4, v5, v6, v7, v8, v9] (.ref a0 :: st) u P := zr_Al k293_289 rfl
theorem k293_290 : xcd 293 290 = oIl 1 291 := rfl
theorem r293_290 : zr 293 290 [v0, .int x1, v2, v3, v4, v5, v6, v7, v8, v9] st u P = zr 293 291 [v0, .int x1, v2, v3, v4, v5, v6, v7, v8, v9] (.int x1 :: st) u P := zr_Il k293_290 rfl
theorem k293_291 : xcd 293 291 = oCalV 11 217 1 294 := rfl
theorem r293_291 : zr 293 291 [v0, v1, v2, v3, v4, v5, v6, v7, v8, v9] (.int y1 :: .ref b8 :: st) u P = ((xIs u b8 11 ∧ xcat st ≤ 8) ∧ zr 217 0 [.ref b8, .int y1, .null, .null] [] u (fun r u2 => zr 293 294 [v0, v1, v2, v3, v4, v5, v6, v7, v8, v9] (r.toList ++ st) u2 P)) := zr_CV k293_291 rfl rfl rfl ⟨Nat.le_of_ble_eq_true rfl, Nat.succ_ne_zero _, by decide⟩ rfl
theorem k293_294 : xcd 293 294 = oCalV 11 174 1 297 := rfl
theorem r293_294 : zr 293 294 [v0, v1, v2, v3, v4, v5, v6, v7, v8, v9] (.int y1 :: .ref b8 :: st) u P = ((xIs u b8 11 ∧ xcat st ≤ 8) ∧ zr 174 0 [.ref b8, .int y1] [] u (fun r u2 => zr 293 297 [v0, v1, v2, v3, v4, v5, v6, v7, v8, v9] (r.toList ++ st) u2 P)) := zr_CV k293_294 rfl rfl rfl ⟨Nat.le_of_ble_eq_true rfl, Nat.succ_ne_zero _, by decide⟩ rfl
theorem k293_297 : xcd 293 297 = oRi 0 := rfl
theorem r293_297 : zr 293 297 [v0, v1, v2, v3, v4, v5, v6, v7, v8, v9] [.int y1] u P = P (some (.int y1)) u := zr_Ri k293_297
theorem k294_0 : xcd 294 0 = oAl 0 1 := rfl
theorem r294_0 : zr 294 0 [.ref a0, v1, v2, v3, v4, v5, v6] st u P = zr 294 1 [.ref a0, v1, v2, v3, v4, v5, v6] (.ref a0 :: st) u P := zr_Al k294_0 rfl
theorem k294_1 : xcd 294 1 = oI 0 2 := rfl
theorem r294_1 : zr 294 1 [v0, v1, v2, v3, v4, v5, v6] st u P = zr 294 2 [v0, v1, v2, v3, v4, v5, v6] (.int 0 :: st) u P := zr_I k294_1
theorem k294_2 : xcd 294 2 = oPI 11 0 5 := rfl
theorem r294_2 : zr 294 2 [v0, v1, v2, v3, v4, v5, v6] (.int y1 :: .ref b1 :: st) u P = (xIs u b1 11 ∧ zr 294 5 [v0, v1, v2, v3, v4, v5, v6] st (xsI u b1 0 y1) P) := zr_PI k294_2
theorem k294_5 : xcd 294 5 = oAl 0 6 := rfl
theorem r294_5 : zr 294 5 [.ref a0, v1, v2, v3, v4, v5, v6] st u P = zr 294 6 [.ref a0, v1, v2, v3, v4, v5, v6] (.ref a0 :: st) u P := zr_Al k294_5 rfl
theorem k294_6 : xcd 294 6 = oAl 0 7 := rfl
theorem r294_6 : zr 294 6 [.ref a0, v1, v2, v3, v4, v5, v6] st u P = zr 294 7 [.ref a0, v1, v2, v3, v4, v5, v6] (.ref a0 :: st) u P := zr_Al k294_6 rfl
theorem k294_7 : xcd 294 7 = oIl 1 8 := rfl
theorem r294_7 : zr 294 7 [v0, .int x1, v2, v3, v4, v5, v6] st u P = zr 294 8 [v0, .int x1, v2, v3, v4, v5, v6] (.int x1 :: st) u P := zr_Il k294_7 rfl
theorem k294_8 : xcd 294 8 = oCalV 11 214 1 11 := rfl
theorem r294_8 : zr 294 8 [v0, v1, v2, v3, v4, v5, v6] (.int y1 :: .ref b8 :: st) u P = ((xIs u b8 11 ∧ xcat st ≤ 8) ∧ zr 214 0 [.ref b8, .int y1] [] u (fun r u2 => zr 294 11 [v0, v1, v2, v3, v4, v5, v6] (r.toList ++ st) u2 P)) := zr_CV k294_8 rfl rfl rfl ⟨Nat.le_of_ble_eq_true rfl, Nat.succ_ne_zero _, by decide⟩ rfl
theorem k294_11 : xcd 294 11 = oIf (fun x => decide (x = 0)) 26 14 := rfl
theorem r294_11 : zr 294 11 [v0, v1, v2, v3, v4, v5, v6] (.int y1 :: st) u P = (if y1 = 0 then zr 294 26 [v0, v1, v2, v3, v4, v5, v6] st u P else zr 294 14 [v0, v1, v2, v3, v4, v5, v6] st u P) := zr_If k294_11
theorem k294_14 : xcd 294 14 = oAl 0 15 := rfl
theorem r294_14 : zr 294 14 [.ref a0, v1, v2, v3, v4, v5, v6] st u P = zr 294 15 [.ref a0, v1, v2, v3, v4, v5, v6] (.ref a0 :: st) u P := zr_Al k294_14 rfl
theorem k294_15 : xcd 294 15 = oIl 2 16 := rfl
theorem r294_15 : zr 294 15 [v0, v1, .int x2, v3, v4, v5, v6] st u P = zr 294 16 [v0, v1, .int x2, v3, v4, v5, v6] (.int x2 :: st) u P := zr_Il k294_15 rfl
theorem k294_16 : xcd 294 16 = oCalV 11 213 1 19 := rfl
theorem r294_16 : zr 294 16 [v0, v1, v2, v3, v4, v5, v6] (.int y1 :: .ref b8 :: st) u P = ((xIs u b8 11 ∧ xcat st ≤ 8) ∧ zr 213 0 [.ref b8, .int y1] [] u (fun r u2 => zr 294 19 [v0, v1, v2, v3, v4, v5, v6] (r.toList ++ st) u2 P)) := zr_CV k294_16 rfl rfl rfl ⟨Nat.le_of_ble_eq_true rfl, Nat.succ_ne_zero _, by decide⟩ rfl
theorem k294_19 : xcd 294 19 = oIf (fun x => decide (x = 0)) 26 22 := rfl
theorem r294_19 : zr 294 19 [v0, v1, v2, v3, v4, v5, v6] (.int y1 :: st) u P = (if y1 = 0 then zr 294 26 [v0, v1, v2, v3, v4, v5, v6] st u P else zr 294 22 [v0, v1, v2, v3, v4, v5, v6] st u P) := zr_If k294_19
theorem k294_22 : xcd 294 22 = oI 1 23 := rfl
theorem r294_22 : zr 294 22 [v0, v1, v2, v3, v4, v5, v6] st u P = zr 294 23 [v0, v1, v2, v3, v4, v5, v6] (.int 1 :: st) u P := zr_I k294_22
theorem k294_23 : xcd 294 23 = oGoto 27 := rfl
theorem r294_23 : zr 294 23 [v0, v1, v2, v3, v4, v5, v6] st u P = zr 294 27 [v0, v1, v2, v3, v4, v5, v6] st u P := zr_Goto k294_23
theorem k294_26 : xcd 294 26 = oI 0 27 := rfl
theorem r294_26 : zr 294 26 [v0, v1, v2, v3, v4, v5, v6] st u P = zr 294 27 [v0, v1, v2, v3, v4, v5, v6] (.int 0 :: st) u P := zr_I k294_26
theorem k294_27 : xcd 294 27 = oIl 3 28 := rfl
theorem r294_27 : zr 294 27 [v0, v1, v2, .int x3, v4, v5, v6] st u P = zr 294 28 [v0, v1, v2, .int x3, v4, v5, v6] (.int x3 :: st) u P := zr_Il k294_27 rfl
theorem k294_28 : xcd 294 28 = oCalV 11 224 2 31 := rfl
theorem r294_28 : zr 294 28 [v0, v1, v2, v3, v4, v5, v6] (.int y2 :: .int y1 :: .ref b8 :: st) u P = ((xIs u b8 11 ∧ xcat st ≤ 8) ∧ zr 224 0 [.ref b8, .int y1, .int y2] [] u (fun r u2 => zr 294 31 [v0, v1, v2, v3, v4, v5, v6] (r.toList ++ st) u2 P)) := zr_CV k294_28 rfl rfl rfl ⟨Nat.le_of_ble_eq_true rfl, Nat.succ_ne_zero _, by decide⟩ rfl
theorem k294_31 : xcd 294 31 = oIs 5 33 := rfl
theorem r294_31 : zr 294 31 [v0, v1, v2, v3, .int x4, v5, v6] (.int y1 :: st) u P = zr 294 33 [v0, v1, v2, v3, .int x4, .int y1, v6] st u P := zr_Is k294_31 ⟨Nat.le_of_ble_eq_true rfl, rfl⟩
theorem k294_33 : xcd 294 33 = oIl 5 35 := rfl
theorem r294_33 : zr 294 33 [v0, v1, v2, v3, v4, .int x5, v6] st u P = zr 294 35 [v0, v1, v2, v3, v4, .int x5, v6] (.int x5 :: st) u P := zr_Il k294_33 rfl
theorem k294_35 : xcd 294 35 = oIf (fun x => decide (x ≤ 0)) 45 38 := rfl
theorem r294_35 : zr 294 35 [v0, v1, v2, v3, v4, v5, v6] (.int y1 :: st) u P = (if y1 ≤ 0 then zr 294 45 [v0, v1, v2, v3, v4, v5, v6] st u P else zr 294 38 [v0, v1, v2, v3, v4, v5, v6] st u P) := zr_If k294_35
theorem k294_38 : xcd 294 38 = oAl 0 39 := rfl
theorem r294_38 : zr 294 38 [.ref a0, v1, v2, v3, v4, v5, v6] st u P = zr 294 39 [.ref a0, v1, v2, v3, v4, v5, v6] (.ref a0 :: st) u P := zr_Al k294_38 rfl
theorem k294_39 : xcd 294 39 = oIl 5 41 := rfl
theorem r294_39 : zr 294 39 [v0, v1, v2, v3, v4, .int x5, v6] st u P = zr 294 41 [v0, v1, v2, v3, v4, .int x5, v6] (.int x5 :: st) u P := zr_Il k294_39 rfl
theorem k294_41 : xcd 294 41 = oCalV 11 172 1 44 := rfl
theorem r294_41 : zr 294 41 [v0, v1, v2, v3, v4, v5, v6] (.int y1 :: .ref b8 :: st) u P = ((xIs u b8 11 ∧ xcat st ≤ 8) ∧ zr 172 0 [.ref b8, .int y1] [] u (fun r u2 => zr 294 44 [v0, v1, v2, v3, v4, v5, v6] (r.toList ++ st) u2 P)) := zr_CV k294_41 rfl rfl rfl ⟨Nat.le_of_ble_eq_true rfl, Nat.succ_ne_zero _, by decide⟩ rfl
theorem k294_44 : xcd 294 44 = oRi 0 := rfl
theorem r294_44 : zr 294 44 [v0, v1, v2, v3, v4, v5, v6] [.int y1] u P = P (some (.int y1)) u := zr_Ri k294_44
theorem k294_45 : xcd 294 45 = oAl 0 46 := rfl
theorem r294_45 : zr 294 45 [.ref a0, v1, v2, v3, v4, v5, v6] st u P = zr 294 46 [.ref a0, v1, v2, v3, v4, v5, v6] (.ref a0 :: st) u P := zr_Al k294_45 rfl
theorem k294_46 : xcd 294 46 = oGR 11 3 49 := rfl
theorem r294_46 : zr 294 46 [v0, v1, v2, v3, v4, v5, v6] (.ref b1 :: st) u P = (xIs u b1 11 ∧ ∃ b, xR u b1 3 = some b ∧ zr 294 49 [v0, v1, v2, v3, v4, v5, v6] (.ref b :: st) u P) := zr_GR k294_46
theorem k294_49 : xcd 294 49 = oIl 1 50 := rfl
theorem r294_49 : zr 294 49 [v0, .int x1, v2, v3, v4, v5, v6] st u P = zr 294 50 [v0, .int x1, v2, v3, v4, v5, v6] (.int x1 :: st) u P := zr_Il k294_49 rfl
theorem k294_50 : xcd 294 50 = oIl 2 51 := rfl
theorem r294_50 : zr 294 50 [v0, v1, .int x2, v3, v4, v5, v6] st u P = zr 294 51 [v0, v1, .int x2, v3, v4, v5, v6] (.int x2 :: st) u P := zr_Il k294_50 rfl
theorem k294_51 : xcd 294 51 = oCal 202 3 54 := rfl
theorem r294_51 : zr 294 51 [v0, v1, v2, v3, v4, v5, v6] (.int y3 :: .int y2 :: .ref b1 :: st) u P = (xcat st ≤ 8 ∧ zr 202 0 [.ref b1, .int y2, .int y3, .null] [] u (fun r u2 => zr 294 54 [v0, v1, v2, v3, v4, v5, v6] (r.toList ++ st) u2 P)) := zr_CS k294_51 (Nat.le_add_left _ _) rfl rfl ⟨Nat.le_of_ble_eq_true rfl, Nat.succ_ne_zero _, by decide⟩ rfl
theorem k294_54 : xcd 294 54 = oIs 6 56 := rfl
theorem r294_54 : zr 294 54 [v0, v1, v2, v3, v4, .int x5, v6] (.int y1 :: st) u P = zr 294 56 [v0, v1, v2, v3, v4, .int x5, .int y1] st u P := zr_Is k294_54 ⟨Nat.le_of_ble_eq_true rfl, rfl⟩
theorem k294_56 : xcd 294 56 = oIl 4 58 := rfl
theorem r294_56 : zr 294 56 [v0, v1, v2, v3, .int x4, v5, v6] st u P = zr 294 58 [v0, v1, v2, v3, .int x4, v5, v6] (.int x4 :: st) u P := zr_Il k294_56 rfl
theorem k294_58 : xcd 294 58 = oI 0 59 := rfl
theorem r294_58 : zr 294 58 [v0, v1, v2, v3, v4, v5, v6] st u P = zr 294 59 [v0, v1, v2, v3, v4, v5, v6] (.int 0 :: st) u P := zr_I k294_58
theorem k294_59 : xcd 294 59 = oI 2500 62 := rfl
theorem r294_59 : zr 294 59 [v0, v1, v2, v3, v4, v5, v6] st u P = zr 294 62 [v0, v1, v2, v3, v4, v5, v6] (.int 2500 :: st) u P := zr_I k294_59
theorem k294_62 : xcd 294 62 = oCal 175 3 65 := rfl
theorem r294_62 : zr 294 62 [v0, v1, v2, v3, v4, v5, v6] (.int y3 :: .int y2 :: .int y1 :: st) u P = (xcat st ≤ 8 ∧ zr 175 0 [.int y1, .int y2, .int y3] [] u (fun r u2 => zr 294 65 [v0, v1, v2, v3, v4, v5, v6] (r.toList ++ st) u2 P)) := zr_CS k294_62 (Nat.le_add_left _ _) rfl rfl ⟨Nat.le_of_ble_eq_true rfl, Nat.succ_ne_zero _, by decide⟩ rfl
theorem k294_65 : xcd 294 65 = oIf (fun x => decide (x = 0)) 93 68 := rfl
theorem r294_65 : zr 294 65 [v0, v1, v2, v3, v4, v5, v6] (.int y1 :: st) u P = (if y1 = 0 then zr 294 93 [v0, v1, v2, v3, v4, v5, v6] st u P else zr 294 68 [v0, v1, v2, v3, v4, v5, v6] st u P) := zr_If k294_65
theorem k294_68 : xcd 294 68 = oIl 6 70 := rfl
theorem r294_68 : zr 294 68 [v0, v1, v2, v3, v4, v5, .int x6] st u P = zr 294 70 [v0, v1, v2, v3, v4, v5, .int x6] (.int x6 :: st) u P := zr_Il k294_68 rfl
theorem k294_70 : xcd 294 70 = oI (-1) 71 := rfl
theorem r294_70 : zr 294 70 [v0, v1, v2, v3, v4, v5, v6] st u P = zr 294 71 [v0, v1, v2, v3, v4, v5, v6] (.int (-1) :: st) u P := zr_I k294_70
theorem k294_71 : xcd 294 71 = oCmp (fun x y => decide (x = y)) 99 74 := rfl
theorem r294_71 : zr 294 71 [v0, v1, v2, v3, v4, v5, v6] (.int y1 :: .int y2 :: st) u P = (if y2 = y1 then zr 294 99 [v0, v1, v2, v3, v4, v5, v6] st u P else zr 294 74 [v0, v1, v2, v3, v4, v5, v6] st u P) := zr_Cmp k294_71
theorem k294_74 : xcd 294 74 = oIl 3 75 := rfl
theorem r294_74 : zr 294 74 [v0, v1, v2, .int x3, v4, v5, v6] st u P = zr 294 75 [v0, v1, v2, .int x3, v4, v5, v6] (.int x3 :: st) u P := zr_Il k294_74 rfl
theorem k294_75 : xcd 294 75 = oAl 0 76 := rfl
theorem r294_75 : zr 294 75 [.ref a0, v1, v2, v3, v4, v5, v6] st u P = zr 294 76 [.ref a0, v1, v2, v3, v4, v5, v6] (.ref a0 :: st) u P := zr_Al k294_75 rfl
theorem k294_76 : xcd 294 76 = oGR 11 3 79 := rfl
theorem r294_76 : zr 294 76 [v0, v1, v2, v3, v4, v5, v6] (.ref b1 :: st) u P = (xIs u b1 11 ∧ ∃ b, xR u b1 3 = some b ∧ zr 294 79 [v0, v1, v2, v3, v4, v5, v6] (.ref b :: st) u P) := zr_GR k294_76
theorem k294_79 : xcd 294 79 = oI 274 82 := rfl
theorem r294_79 : zr 294 79 [v0, v1, v2, v3, v4, v5, v6] st u P = zr 294 82 [v0, v1, v2, v3, v4, v5, v6] (.int 274 :: st) u P := zr_I k294_79
theorem k294_82 : xcd 294 82 = oI 4 83 := rfl
theorem r294_82 : zr 294 82 [v0, v1, v2, v3, v4, v5, v6] st u P = zr 294 83 [v0, v1, v2, v3, v4, v5, v6] (.int 4 :: st) u P := zr_I k294_82
theorem k294_83 : xcd 294 83 = oIl 6 85 := rfl
theorem r294_83 : zr 294 83 [v0, v1, v2, v3, v4, v5, .int x6] st u P = zr 294 85 [v0, v1, v2, v3, v4, v5, .int x6] (.int x6 :: st) u P := zr_Il k294_83 rfl
theorem k294_85 : xcd 294 85 = oB (fun x y => x * y) 86 := rfl
theorem r294_85 : zr 294 85 [v0, v1, v2, v3, v4, v5, v6] (.int y1 :: .int y2 :: st) u P = zr 294 86 [v0, v1, v2, v3, v4, v5, v6] (.int (y2 * y1) :: st) u P := zr_B k294_85
theorem k294_86 : xcd 294 86 = oB (fun x y => x + y) 87 := rfl
theorem r294_86 : zr 294 86 [v0, v1, v2, v3, v4, v5, v6] (.int y1 :: .int y2 :: st) u P = zr 294 87 [v0, v1, v2, v3, v4, v5, v6] (.int (y2 + y1) :: st) u P := zr_B k294_86
theorem k294_87 : xcd 294 87 = oI 2 88 := rfl
theorem r294_87 : zr 294 87 [v0, v1, v2, v3, v4, v5, v6] st u P = zr 294 88 [v0, v1, v2, v3, v4, v5, v6] (.int 2 :: st) u P := zr_I k294_87
theorem k294_88 : xcd 294 88 = oB (fun x y => x + y) 89 := rfl
theorem r294_88 : zr 294 88 [v0, v1, v2, v3, v4, v5, v6] (.int y1 :: .int y2 :: st) u P = zr 294 89 [v0, v1, v2, v3, v4, v5, v6] (.int (y2 + y1) :: st) u P := zr_B k294_88
theorem k294_89 : xcd 294 89 = oLd 13 90 := rfl
theorem r294_89 : zr 294 89 [v0, v1, v2, v3, v4, v5, v6] (.int y1 :: .ref b1 :: st) u P = ((xIs u b1 13 ∧ xinb y1 (xN u b1)) ∧ zr 294 90 [v0, v1, v2, v3, v4, v5, v6] (.int (xI u b1 (xix y1)) :: st) u P) := zr_Ld k294_89
theorem k294_90 : xcd 294 90 = oCmp (fun x y => decide (y < x)) 99 93 := rfl
theorem r294_90 : zr 294 90 [v0, v1, v2, v3, v4, v5, v6] (.int y1 :: .int y2 :: st) u P = (if y1 < y2 then zr 294 99 [v0, v1, v2, v3, v4, v5, v6] st u P else zr 294 93 [v0, v1, v2, v3, v4, v5, v6] st u P) := zr_Cmp k294_90
theorem k294_93 : xcd 294 93 = oAl 0 94 := rfl
theorem r294_93 : zr 294 93 [.ref a0, v1, v2, v3, v4, v5, v6] st u P = zr 294 94 [.ref a0, v1, v2, v3, v4, v5, v6] (.ref a0 :: st) u P := zr_Al k294_93 rfl
theorem k294_94 : xcd 294 94 = oI 2 95 := rfl
theorem r294_94 : zr 294 94 [v0, v1, v2, v3, v4, v5, v6] st u P = zr 294 95 [v0, v1, v2, v3, v4, v5, v6] (.int 2 :: st) u P := zr_I k294_94
theorem k294_95 : xcd 294 95 = oCalV 11 172 1 98 := rfl
theorem r294_95 : zr 294 95 [v0, v1, v2, v3, v4, v5, v6] (.int y1 :: .ref b8 :: st) u P = ((xIs u b8 11 ∧ xcat st ≤ 8) ∧ zr 172 0 [.ref b8, .int y1] [] u (fun r u2 => zr 294 98 [v0, v1, v2, v3, v4, v5, v6] (r.toList ++ st) u2 P)) := zr_CV k294_95 rfl rfl rfl ⟨Nat.le_of_ble_eq_true rfl, Nat.succ_ne_zero _, by decide⟩ rfl
theorem k294_98 : xcd 294 98 = oRi 0 := rfl
theorem r294_98 : zr 294 98 [v0, v1, v2, v3, v4, v5, v6] [.int y1] u P = P (some (.int y1)) u := zr_Ri k294_98
theorem k294_99 : xcd 294 99 = oAl 0 100 := rfl
theorem r294_99 : zr 294 99 [.ref a0, v1, v2, v3, v4, v5, v6] st u P = zr 294 100 [.ref a0, v1, v2, v3, v4, v5, v6] (.ref a0 :: st) u P := zr_Al k294_99 rfl
theorem k294_100 : xcd 294 100 = oGR 11 3 103 := rfl
theorem r294_100 : zr 294 100 [v0, v1, v2, v3, v4, v5, v6] (.ref b1 :: st) u P = (xIs u b1 11 ∧ ∃ b, xR u b1 3 = some b ∧ zr 294 103 [v0, v1, v2, v3, v4, v5, v6] (.ref b :: st) u P) := zr_GR k294_100
theorem k294_103 : xcd 294 103 = oI 5 104 := rfl
theorem r294_103 : zr 294 103 [v0, v1, v2, v3, v4, v5, v6] st u P = zr 294 104 [v0, v1, v2, v3, v4, v5, v6] (.int 5 :: st) u P := zr_I k294_103
theorem k294_104 : xcd 294 104 = oLd 13 105 := rfl
theorem r294_104 : zr 294 104 [v0, v1, v2, v3, v4, v5, v6] (.int y1 :: .ref b1 :: st) u P = ((xIs u b1 13 ∧ xinb y1 (xN u b1)) ∧ zr 294 105 [v0, v1, v2, v3, v4, v5, v6] (.int (xI u b1 (xix y1)) :: st) u P) := zr_Ld k294_104
theorem k294_105 : xcd 294 105 = oI 20 107 := rfl
theorem r294_105 : zr 294 105 [v0, v1, v2, v3, v4, v5, v6] st u P = zr 294 107 [v0, v1, v2, v3, v4, v5, v6] (.int 20 :: st) u P := zr_I k294_105
theorem k294_107 : xcd 294 107 = oCmp (fun x y => decide (¬ x = y)) 116 110 := rfl
theorem r294_107 : zr 294 107 [v0, v1, v2, v3, v4, v5, v6] (.int y1 :: .int y2 :: st) u P = (if ¬ y2 = y1 then zr 294 116 [v0, v1, v2, v3, v4, v5, v6] st u P else zr 294 110 [v0, v1, v2, v3, v4, v5, v6] st u P) := zr_Cmp k294_107
theorem k294_110 : xcd 294 110 = oAl 0 111 := rfl
theorem r294_110 : zr 294 110 [.ref a0, v1, v2, v3, v4, v5, v6] st u P = zr 294 111 [.ref a0, v1, v2, v3, v4, v5, v6] (.ref a0 :: st) u P := zr_Al k294_110 rfl
theorem k294_111 : xcd 294 111 = oI 3 112 := rfl
theorem r294_111 : zr 294 111 [v0, v1, v2, v3, v4, v5, v6] st u P = zr 294 112 [v0, v1, v2, v3, v4, v5, v6] (.int 3 :: st) u P := zr_I k294_111
theorem k294_112 : xcd 294 112 = oCalV 11 172 1 115 := rfl
theorem r294_112 : zr 294 112 [v0, v1, v2, v3, v4, v5, v6] (.int y1 :: .ref b8 :: st) u P = ((xIs u b8 11 ∧ xcat st ≤ 8) ∧ zr 172 0 [.ref b8, .int y1] [] u (fun r u2 => zr 294 115 [v0, v1, v2, v3, v4, v5, v6] (r.toList ++ st) u2 P)) := zr_CV k294_112 rfl rfl rfl ⟨Nat.le_of_ble_eq_true rfl, Nat.succ_ne_zero _, by decide⟩ rfl
theorem k294_115 : xcd 294 115 = oRi 0 := rfl
theorem r294_115 : zr 294 115 [v0, v1, v2, v3, v4, v5, v6] [.int y1] u P = P (some (.int y1)) u := zr_Ri k294_115
theorem k294_116 : xcd 294 116 = oAl 0 117 := rfl
theorem r294_116 : zr 294 116 [.ref a0, v1, v2, v3, v4, v5, v6] st u P = zr 294 117 [.ref a0, v1, v2, v3, v4, v5, v6] (.ref a0 :: st) u P := zr_Al k294_116 rfl
theorem k294_117 : xcd 294 117 = oGR 11 3 120 := rfl
theorem r294_117 : zr 294 117 [v0, v1, v2, v3, v4, v5, v6] (.ref b1 :: st) u P = (xIs u b1 11 ∧ ∃ b, xR u b1 3 = some b ∧ zr 294 120 [v0, v1, v2, v3, v4, v5, v6] (.ref b :: st) u P) := zr_GR k294_117
theorem k294_120 : xcd 294 120 = oIl 1 121 := rfl
theorem r294_120 : zr 294 120 [v0, .int x1, v2, v3, v4, v5, v6] st u P = zr 294 121 [v0, .int x1, v2, v3, v4, v5, v6] (.int x1 :: st) u P := zr_Il k294_120 rfl
theorem k294_121 : xcd 294 121 = oIl 2 122 := rfl
theorem r294_121 : zr 294 121 [v0, v1, .int x2, v3, v4, v5, v6] st u P = zr 294 122 [v0, v1, .int x2, v3, v4, v5, v6] (.int x2 :: st) u P := zr_Il k294_121 rfl
theorem k294_122 : xcd 294 122 = oIl 3 123 := rfl
theorem r294_122 : zr 294 122 [v0, v1, v2, .int x3, v4, v5, v6] st u P = zr 294 123 [v0, v1, v2, .int x3, v4, v5, v6] (.int x3 :: st) u P := zr_Il k294_122 rfl
theorem k294_123 : xcd 294 123 = oIl 4 125 := rfl
theorem r294_123 : zr 294 123 [v0, v1, v2, v3, .int x4, v5, v6] st u P = zr 294 125 [v0, v1, v2, v3, .int x4, v5, v6] (.int x4 :: st) u P := zr_Il k294_123 rfl
theorem k294_125 : xcd 294 125 = oCal 204 5 128 := rfl
theorem r294_125 : zr 294 125 [v0, v1, v2, v3, v4, v5, v6] (.int y5 :: .int y4 :: .int y3 :: .int y2 :: .ref b1 :: st) u P = (xcat st ≤ 8 ∧ zr 204 0 [.ref b1, .int y2, .int y3, .int y4, .int y5, .null] [] u (fun r u2 => zr 294 128 [v0, v1, v2, v3, v4, v5, v6] (r.toList ++ st) u2 P)) := zr_CS k294_125 (Nat.le_add_left _ _) rfl rfl ⟨Nat.le_of_ble_eq_true rfl, Nat.succ_ne_zero _, by decide⟩ rfl
theorem k294_128 : xcd 294 128 = oAl 0 129 := rfl
theorem r294_128 : zr 294 128 [.ref a0, v1, v2, v3, v4, v5, v6] st u P = zr 294 129 [.ref a0, v1, v2, v3, v4, v5, v6] (.ref a0 :: st) u P := zr_Al k294_128 rfl
theorem k294_129 : xcd 294 129 = oI 3 130 := rfl
theorem r294_129 : zr 294 129 [v0, v1, v2, v3, v4, v5, v6] st u P = zr 294 130 [v0, v1, v2, v3, v4, v5, v6] (.int 3 :: st) u P := zr_I k294_129
theorem k294_130 : xcd 294 130 = oI 0 131 := rfl
theorem r294_130 : zr 294 130 [v0, v1, v2, v3, v4, v5, v6] st u P = zr 294 131 [v0, v1, v2, v3, v4, v5, v6] (.int 0 :: st) u P := zr_I k294_130
theorem k294_131 : xcd 294 131 = oI 0 132 := rfl
theorem r294_131 : zr 294 131 [v0, v1, v2, v3, v4, v5, v6] st u P = zr 294 132 [v0, v1, v2, v3, v4, v5, v6] (.int 0 :: st) u P := zr_I k294_131
theorem k294_132 : xcd 294 132 = oCalV 11 289 3 135 := rfl
theorem r294_132 : zr 294 132 [v0, v1, v2, v3, v4, v5, v6] (.int y3 :: .int y2 :: .int y1 :: .ref b8 :: st) u P = ((xIs u b8 11 ∧ xcat st ≤ 8) ∧ zr 289 0 [.ref b8, .int y1, .int y2, .int y3, .null] [] u (fun r u2 => zr 294 135 [v0, v1, v2, v3, v4, v5, v6] (r.toList ++ st) u2 P)) := zr_CV k294_132 rfl rfl rfl ⟨Nat.le_of_ble_eq_true rfl, Nat.succ_ne_zero _, by decide⟩ rfl
theorem k294_135 : xcd 294 135 = oAl 0 136 := rfl
theorem r294_135 : zr 294 135 [.ref a0, v1, v2, v3, v4, v5, v6] st u P = zr 294 136 [.ref a0, v1, v2, v3, v4, v5, v6] (.ref a0 :: st) u P := zr_Al k294_135 rfl
theorem k294_136 : xcd 294 136 = oAl 0 137 := rfl
theorem r294_136 : zr 294 136 [.ref a0, v1, v2, v3, v4, v5, v6] st u P = zr 294 137 [.ref a0, v1, v2, v3, v4, v5, v6] (.ref a0 :: st) u P := zr_Al k294_136 rfl
theorem k294_137 : xcd 294 137 = oGR 11 3 140 := rfl
theorem r294_137 : zr 294 137 [v0, v1, v2, v3, v4, v5, v6] (.ref b1 :: st) u P = (xIs u b1 11 ∧ ∃ b, xR u b1 3 = some b ∧ zr 294 140 [v0, v1, v2, v3, v4, v5, v6] (.ref b :: st) u P) := zr_GR k294_137
theorem k294_140 : xcd 294 140 = oI 5 141 := rfl
theorem r294_140 : zr 294 140 [v0, v1, v2, v3, v4, v5, v6] st u P = zr 294 141 [v0, v1, v2, v3, v4, v5, v6] (.int 5 :: st) u P := zr_I k294_140
theorem k294_141 : xcd 294 141 = oLd 13 142 := rfl
theorem r294_141 : zr 294 141 [v0, v1, v2, v3, v4, v5, v6] (.int y1 :: .ref b1 :: st) u P = ((xIs u b1 13 ∧ xinb y1 (xN u b1)) ∧ zr 294 142 [v0, v1, v2, v3, v4, v5, v6] (.int (xI u b1 (xix y1)) :: st) u P) := zr_Ld k294_141
theorem k294_142 : xcd 294 142 = oCalV 11 174 1 145 := rfl
theorem r294_142 : zr 294 142 [v0, v1, v2, v3, v4, v5, v6] (.int y1 :: .ref b8 :: st) u P = ((xIs u b8 11 ∧ xcat st ≤ 8) ∧ zr 174 0 [.ref b8, .int y1] [] u (fun r u2 => zr 294 145 [v0, v1, v2, v3, v4, v5, v6] (r.toList ++ st) u2 P)) := zr_CV k294_142 rfl rfl rfl ⟨Nat.le_of_ble_eq_true rfl, Nat.succ_ne_zero _, by decide⟩ rfl
theorem k294_145 : xcd 294 145 = oRi 0 := rfl
theorem r294_145 : zr 294 145 [v0, v1, v2, v3, v4, v5, v6] [.int y1] u P = P (some (.int y1)) u := zr_Ri k294_145
theorem k295_0 : xcd 295 0 = oAl 0 1 := rfl
theorem r295_0 : zr 295 0 [.ref a0] st u P = zr 295 1 [.ref a0] (.ref a0 :: st) u P := zr_Al k295_0 rfl
theorem k295_1 : xcd 295 1 = oI 0 2 := rfl
theorem r295_1 : zr 295 1 [v0] st u P = zr 295 2 [v0] (.int 0 :: st) u P := zr_I k295_1
theorem k295_2 : xcd 295 2 = oPI 11 0 5 := rfl
theorem r295_2 : zr 295 2 [v0] (.int y1 :: .ref b1 :: st) u P = (xIs u b1 11 ∧ zr 295 5 [v0] st (xsI u b1 0 y1) P) := zr_PI k295_2
theorem k295_5 : xcd 295 5 = oAl 0 6 := rfl
theorem r295_5 : zr 295 5 [.ref a0] st u P = zr 295 6 [.ref a0] (.ref a0 :: st) u P := zr_Al k295_5 rfl
theorem k295_6 : xcd 295 6 = oGI 11 7 9 := rfl
theorem r295_6 : zr 295 6 [v0] (.ref b1 :: st) u P = (xIs u b1 11 ∧ zr 295 9 [v0] (.int (xI u b1 7) :: st) u P) := zr_GI k295_6
theorem k295_9 : xcd 295 9 = oIf (fun x => decide (x = 0)) 19 12 := rfl
theorem r295_9 : zr 295 9 [v0] (.int y1 :: st) u P = (if y1 = 0 then zr 295 19 [v0] st u P else zr 295 12 [v0] st u P) := zr_If k295_9
theorem k295_12 : xcd 295 12 = oAl 0 13 := rfl
theorem r295_12 : zr 295 12 [.ref a0] st u P = zr 295 13 [.ref a0] (.ref a0 :: st) u P := zr_Al k295_12 rfl
theorem k295_13 : xcd 295 13 = oGI 11 31 16 := rfl
theorem r295_13 : zr 295 13 [v0] (.ref b1 :: st) u P = (xIs u b1 11 ∧ zr 295 16 [v0] (.int (xI u b1 31) :: st) u P) := zr_GI k295_13
theorem k295_16 : xcd 295 16 = oIf (fun x => decide (¬ x = 0)) 27 19 := rfl
theorem r295_16 : zr 295 16 [v0] (.int y1 :: st) u P = (if ¬ y1 = 0 then zr 295 27 [v0] st u P else zr 295 19 [v0] st u P) := zr_If k295_16
theorem k295_19 : xcd 295 19 = oAl 0 20 := rfl
theorem r295_19 : zr 295 19 [.ref a0] st u P = zr 295 20 [.ref a0] (.ref a0 :: st) u P := zr_Al k295_19 rfl
theorem k295_20 : xcd 295 20 = oI 1 21 := rfl
theorem r295_20 : zr 295 20 [v0] st u P = zr 295 21 [v0] (.int 1 :: st) u P := zr_I k295_20
theorem k295_21 : xcd 295 21 = oCalV 11 172 1 24 := rfl
theorem r295_21 : zr 295 21 [v0] (.int y1 :: .ref b8 :: st) u P = ((xIs u b8 11 ∧ xcat st ≤ 8) ∧ zr 172 0 [.ref b8, .int y1] [] u (fun r u2 => zr 295 24 [v0] (r.toList ++ st) u2 P)) := zr_CV k295_21 rfl rfl rfl ⟨Nat.le_of_ble_eq_true rfl, Nat.succ_ne_zero _, by decide⟩ rfl
theorem k295_24 : xcd 295 24 = oPop 25 := rfl
theorem r295_24 : zr 295 24 [v0] (.int y1 :: st) u P = zr 295 25 [v0] st u P := zr_PopI k295_24
theorem k295_25 : xcd 295 25 = oI 0 26 := rfl
theorem r295_25 : zr 295 25 [v0] st u P = zr 295 26 [v0] (.int 0 :: st) u P := zr_I k295_25
theorem k295_26 : xcd 295 26 = oRz 0 := rfl
theorem r295_26 : zr 295 26 [v0] [.int y1] u P = ((y1 = 0 ∨ y1 = 1) ∧ P (some (.int y1)) u) := zr_Rz k295_26
theorem k295_27 : xcd 295 27 = oAl 0 28 := rfl
theorem r295_27 : zr 295 27 [.ref a0] st u P = zr 295 28 [.ref a0] (.ref a0 :: st) u P := zr_Al k295_27 rfl
theorem k295_28 : xcd 295 28 = oDup 29 := rfl
theorem r295_28 : zr 295 28 [v0] (.ref b1 :: st) u P = zr 295 29 [v0] (.ref b1 :: .ref b1 :: st) u P := zr_DupA k295_28
theorem k295_29 : xcd 295 29 = oGI 11 31 32 := rfl
theorem r295_29 : zr 295 29 [v0] (.ref b1 :: st) u P = (xIs u b1 11 ∧ zr 295 32 [v0] (.int (xI u b1 31) :: st) u P) := zr_GI k295_29
theorem k295_32 : xcd 295 32 = oI 1 33 := rfl
theorem r295_32 : zr 295 32 [v0] st u P = zr 295 33 [v0] (.int 1 :: st) u P := zr_I k295_32
theorem k295_33 : xcd 295 33 = oB (fun x y => x - y) 34 := rfl
theorem r295_33 : zr 295 33 [v0] (.int y1 :: .int y2 :: st) u P = zr 295 34 [v0] (.int (y2 - y1) :: st) u P := zr_B k295_33
theorem k295_34 : xcd 295 34 = oPI 11 31 37 := rfl
theorem r295_34 : zr 295 34 [v0] (.int y1 :: .ref b1 :: st) u P = (xIs u b1 11 ∧ zr 295 37 [v0] st (xsI u b1 31 y1) P) := zr_PI k295_34
theorem k295_37 : xcd 295 37 = oAl 0 38 := rfl
theorem r295_37 : zr 295 37 [.ref a0] st u P = zr 295 38 [.ref a0] (.ref a0 :: st) u P := zr_Al k295_37 rfl
theorem k295_38 : xcd 295 38 = oGR 11 28 41 := rfl
theorem r295_38 : zr 295 38 [v0] (.ref b1 :: st) u P = (xIs u b1 11 ∧ ∃ b, xR u b1 28 = some b ∧ zr 295 41 [v0] (.ref b :: st) u P) := zr_GR k295_38
theorem k295_41 : xcd 295 41 = oAl 0 42 := rfl
theorem r295_41 : zr 295 41 [.ref a0] st u P = zr 295 42 [.ref a0] (.ref a0 :: st) u P := zr_Al k295_41 rfl
theorem k295_42 : xcd 295 42 = oGI 11 31 45 := rfl
theorem r295_42 : zr 295 42 [v0] (.ref b1 :: st) u P = (xIs u b1 11 ∧ zr 295 45 [v0] (.int (xI u b1 31) :: st) u P) := zr_GI k295_42
theorem k295_45 : xcd 295 45 = oLd 13 46 := rfl
theorem r295_45 : zr 295 45 [v0] (.int y1 :: .ref b1 :: st) u P = ((xIs u b1 13 ∧ xinb y1 (xN u b1)) ∧ zr 295 46 [v0] (.int (xI u b1 (xix y1)) :: st) u P) := zr_Ld k295_45
theorem k295_46 : xcd 295 46 = oSw [80, 93, 128, 148, 141] 148 := rfl
theorem r295_46 : zr 295 46 [v0] (.int y1 :: st) u P = zr 295 (if y1 < 0 ∨ 5 ≤ y1 then 148 else [80, 93, 128, 148, 141].getD y1.toNatClampNeg 148) [v0] st u P := zr_Sw k295_46
theorem k295_80 : xcd 295 80 = oAl 0 81 := rfl
theorem r295_80 : zr 295 80 [.ref a0] st u P = zr 295 81 [.ref a0] (.ref a0 :: st) u P := zr_Al k295_80 rfl
theorem k295_81 : xcd 295 81 = oDup 82 := rfl
theorem r295_81 : zr 295 81 [v0] (.ref b1 :: st) u P = zr 295 82 [v0] (.ref b1 :: .ref b1 :: st) u P := zr_DupA k295_81
theorem k295_82 : xcd 295 82 = oGI 11 20 85 := rfl
theorem r295_82 : zr 295 82 [v0] (.ref b1 :: st) u P = (xIs u b1 11 ∧ zr 295 85 [v0] (.int (xI u b1 20) :: st) u P) := zr_GI k295_82
theorem k295_85 : xcd 295 85 = oI 1 86 := rfl
theorem r295_85 : zr 295 85 [v0] st u P = zr 295 86 [v0] (.int 1 :: st) u P := zr_I k295_85
theorem k295_86 : xcd 295 86 = oB (fun x y => x - y) 87 := rfl
theorem r295_86 : zr 295 86 [v0] (.int y1 :: .int y2 :: st) u P = zr 295 87 [v0] (.int (y2 - y1) :: st) u P := zr_B k295_86
theorem k295_87 : xcd 295 87 = oPI 11 20 90 := rfl
theorem r295_87 : zr 295 87 [v0] (.int y1 :: .ref b1 :: st) u P = (xIs u b1 11 ∧ zr 295 90 [v0] st (xsI u b1 20 y1) P) := zr_PI k295_87
theorem k295_90 : xcd 295 90 = oGoto 158 := rfl
theorem r295_90 : zr 295 90 [v0] st u P = zr 295 158 [v0] st u P := zr_Goto k295_90
theorem k295_93 : xcd 295 93 = oAl 0 94 := rfl
theorem r295_93 : zr 295 93 [.ref a0] st u P = zr 295 94 [.ref a0] (.ref a0 :: st) u P := zr_Al k295_93 rfl
theorem k295_94 : xcd 295 94 = oGR 11 19 97 := rfl
theorem r295_94 : zr 295 94 [v0] (.ref b1 :: st) u P = (xIs u b1 11 ∧ ∃ b, xR u b1 19 = some b ∧ zr 295 97 [v0] (.ref b :: st) u P) := zr_GR k295_94
theorem k295_97 : xcd 295 97 = oI 25 99 := rfl
theorem r295_97 : zr 295 97 [v0] st u P = zr 295 99 [v0] (.int 25 :: st) u P := zr_I k295_97
theorem k295_99 : xcd 295 99 = oAl 0 100 := rfl
theorem r295_99 : zr 295 99 [.ref a0] st u P = zr 295 100 [.ref a0] (.ref a0 :: st) u P := zr_Al k295_99 rfl
theorem k295_100 : xcd 295 100 = oGR 11 29 103 := rfl
theorem r295_100 : zr 295 100 [v0] (.ref b1 :: st) u P = (xIs u b1 11 ∧ ∃ b, xR u b1 29 = some b ∧ zr 295 103 [v0] (.ref b :: st) u P) := zr_GR k295_100
theorem k295_103 : xcd 295 103 = oAl 0 104 := rfl
theorem r295_103 : zr 295 103 [.ref a0] st u P = zr 295 104 [.ref a0] (.ref a0 :: st) u P := zr_Al k295_103 rfl
theorem k295_104 : xcd 295 104 = oGI 11 31 107 := rfl
theorem r295_104 : zr 295 104 [v0] (.ref b1 :: st) u P = (xIs u b1 11 ∧ zr 295 107 [v0] (.int (xI u b1 31) :: st) u P) := zr_GI k295_104
theorem k295_107 : xcd 295 107 = oLd 13 108 := rfl
theorem r295_107 : zr 295 107 [v0] (.int y1 :: .ref b1 :: st) u P = ((xIs u b1 13 ∧ xinb y1 (xN u b1)) ∧ zr 295 108 [v0] (.int (xI u b1 (xix y1)) :: st) u P) := zr_Ld k295_107
theorem k295_108 : xcd 295 108 = oB (fun x y => x * y) 109 := rfl
theorem r295_108 : zr 295 108 [v0] (.int y1 :: .int y2 :: st) u P = zr 295 109 [v0] (.int (y2 * y1) :: st) u P := zr_B k295_108
theorem k295_109 : xcd 295 109 = oI 6 111 := rfl
theorem r295_109 : zr 295 109 [v0] st u P = zr 295 111 [v0] (.int 6 :: st) u P := zr_I k295_109
theorem k295_111 : xcd 295 111 = oB (fun x y => x + y) 112 := rfl
theorem r295_111 : zr 295 111 [v0] (.int y1 :: .int y2 :: st) u P = zr 295 112 [v0] (.int (y2 + y1) :: st) u P := zr_B k295_111
theorem k295_112 : xcd 295 112 = oDup2 113 := rfl
theorem r295_112 : zr 295 112 [v0] (.int y1 :: .ref b1 :: st) u P = zr 295 113 [v0] (.int y1 :: .ref b1 :: .int y1 :: .ref b1 :: st) u P := zr_Dup2 k295_112
theorem k295_113 : xcd 295 113 = oLd 13 114 := rfl
theorem r295_113 : zr 295 113 [v0] (.int y1 :: .ref b1 :: st) u P = ((xIs u b1 13 ∧ xinb y1 (xN u b1)) ∧ zr 295 114 [v0] (.int (xI u b1 (xix y1)) :: st) u P) := zr_Ld k295_113
theorem k295_114 : xcd 295 114 = oAl 0 115 := rfl
theorem r295_114 : zr 295 114 [.ref a0] st u P = zr 295 115 [.ref a0] (.ref a0 :: st) u P := zr_Al k295_114 rfl
theorem k295_115 : xcd 295 115 = oGR 11 30 118 := rfl
theorem r295_115 : zr 295 115 [v0] (.ref b1 :: st) u P = (xIs u b1 11 ∧ ∃ b, xR u b1 30 = some b ∧ zr 295 118 [v0] (.ref b :: st) u P) := zr_GR k295_115
theorem k295_118 : xcd 295 118 = oAl 0 119 := rfl
theorem r295_118 : zr 295 118 [.ref a0] st u P = zr 295 119 [.ref a0] (.ref a0 :: st) u P := zr_Al k295_118 rfl
theorem k295_119 : xcd 295 119 = oGI 11 31 122 := rfl
theorem r295_119 : zr 295 119 [v0] (.ref b1 :: st) u P = (xIs u b1 11 ∧ zr 295 122 [v0] (.int (xI u b1 31) :: st) u P) := zr_GI k295_119
theorem k295_122 : xcd 295 122 = oLd 13 123 := rfl
theorem r295_122 : zr 295 122 [v0] (.int y1 :: .ref b1 :: st) u P = ((xIs u b1 13 ∧ xinb y1 (xN u b1)) ∧ zr 295 123 [v0] (.int (xI u b1 (xix y1)) :: st) u P) := zr_Ld k295_122
theorem k295_123 : xcd 295 123 = oB (fun x y => x + y) 124 := rfl
theorem r295_123 : zr 295 123 [v0] (.int y1 :: .int y2 :: st) u P = zr 295 124 [v0] (.int (y2 + y1) :: st) u P := zr_B k295_123
theorem k295_124 : xcd 295 124 = oSt 13 (fun x => x) 125 := rfl
theorem r295_124 : zr 295 124 [v0] (.int y2 :: .int y1 :: .ref b1 :: st) u P = ((xIs u b1 13 ∧ xinb y1 (xN u b1)) ∧ zr 295 125 [v0] st (xsI u b1 (xix y1) y2) P) := zr_St k295_124
theorem k295_125 : xcd 295 125 = oGoto 158 := rfl
theorem r295_125 : zr 295 125 [v0] st u P = zr 295 158 [v0] st u P := zr_Goto k295_125
theorem k295_128 : xcd 295 128 = oAl 0 129 := rfl
theorem r295_128 : zr 295 128 [.ref a0] st u P = zr 295 129 [.ref a0] (.ref a0 :: st) u P := zr_Al k295_128 rfl
theorem k295_129 : xcd 295 129 = oGR 11 3 132 := rfl
theorem r295_129 : zr 295 129 [v0] (.ref b1 :: st) u P = (xIs u b1 11 ∧ ∃ b, xR u b1 3 = some b ∧ zr 295 132 [v0] (.ref b :: st) u P) := zr_GR k295_129
theorem k295_132 : xcd 295 132 = oI 4 133 := rfl
theorem r295_132 : zr 295 132 [v0] st u P = zr 295 133 [v0] (.int 4 :: st) u P := zr_I k295_132
theorem k295_133 : xcd 295 133 = oDup2 134 := rfl
theorem r295_133 : zr 295 133 [v0] (.int y1 :: .ref b1 :: st) u P = zr 295 134 [v0] (.int y1 :: .ref b1 :: .int y1 :: .ref b1 :: st) u P := zr_Dup2 k295_133
theorem k295_134 : xcd 295 134 = oLd 13 135 := rfl
theorem r295_134 : zr 295 134 [v0] (.int y1 :: .ref b1 :: st) u P = ((xIs u b1 13 ∧ xinb y1 (xN u b1)) ∧ zr 295 135 [v0] (.int (xI u b1 (xix y1)) :: st) u P) := zr_Ld k295_134
theorem k295_135 : xcd 295 135 = oI 1 136 := rfl
theorem r295_135 : zr 295 135 [v0] st u P = zr 295 136 [v0] (.int 1 :: st) u P := zr_I k295_135
theorem k295_136 : xcd 295 136 = oB (fun x y => x - y) 137 := rfl
theorem r295_136 : zr 295 136 [v0] (.int y1 :: .int y2 :: st) u P = zr 295 137 [v0] (.int (y2 - y1) :: st) u P := zr_B k295_136
theorem k295_137 : xcd 295 137 = oSt 13 (fun x => x) 138 := rfl
theorem r295_137 : zr 295 137 [v0] (.int y2 :: .int y1 :: .ref b1 :: st) u P = ((xIs u b1 13 ∧ xinb y1 (xN u b1)) ∧ zr 295 138 [v0] st (xsI u b1 (xix y1) y2) P) := zr_St k295_137
theorem k295_138 : xcd 295 138 = oGoto 158 := rfl
theorem r295_138 : zr 295 138 [v0] st u P = zr 295 158 [v0] st u P := zr_Goto k295_138
theorem k295_141 : xcd 295 141 = oAl 0 142 := rfl
theorem r295_141 : zr 295 141 [.ref a0] st u P = zr 295 142 [.ref a0] (.ref a0 :: st) u P := zr_Al k295_141 rfl
theorem k295_142 : xcd 295 142 = oCalV 11 285 0 145 := rfl
theorem r295_142 : zr 295 142 [v0] (.ref b8 :: st) u P = ((xIs u b8 11 ∧ xcat st ≤ 8) ∧ zr 285 0 [.ref b8, .null] [] u (fun r u2 => zr 295 145 [v0] (r.toList ++ st) u2 P)) := zr_CV k295_142 rfl rfl rfl ⟨Nat.le_of_ble_eq_true rfl, Nat.succ_ne_zero _, by decide⟩ rfl
theorem k295_145 : xcd 295 145 = oGoto 158 := rfl
theorem r295_145 : zr 295 145 [v0] st u P = zr 295 158 [v0] st u P := zr_Goto k295_145
theorem k295_148 : xcd 295 148 = oAl 0 149 := rfl
theorem r295_148 : zr 295 148 [.ref a0] st u P = zr 295 149 [.ref a0] (.ref a0 :: st) u P := zr_Al k295_148 rfl
theorem k295_149 : xcd 295 149 = oGR 11 3 152 := rfl
theorem r295_149 : zr 295 149 [v0] (.ref b1 :: st) u P = (xIs u b1 11 ∧ ∃ b, xR u b1 3 = some b ∧ zr 295 152 [v0] (.ref b :: st) u P) := zr_GR k295_149
theorem k295_152 : xcd 295 152 = oI 5 153 := rfl
theorem r295_152 : zr 295 152 [v0] st u P = zr 295 153 [v0] (.int 5 :: st) u P := zr_I k295_152
theorem k295_153 : xcd 295 153 = oDup2 154 := rfl
theorem r295_153 : zr 295 153 [v0] (.int y1 :: .ref b1 :: st) u P = zr 295 154 [v0] (.int y1 :: .ref b1 :: .int y1 :: .ref b1 :: st) u P := zr_Dup2 k295_153
theorem k295_154 : xcd 295 154 = oLd 13 155 := rfl
theorem r295_154 : zr 295 154 [v0] (.int y1 :: .ref b1 :: st) u P = ((xIs u b1 13 ∧ xinb y1 (xN u b1)) ∧ zr 295 155 [v0] (.int (xI u b1 (xix y1)) :: st) u P) := zr_Ld k295_154
theorem k295_155 : xcd 295 155 = oI 1 156 := rfl
theorem r295_155 : zr 295 155 [v0] st u P = zr 295 156 [v0] (.int 1 :: st) u P := zr_I k295_155
theorem k295_156 : xcd 295 156 = oB (fun x y => x - y) 157 := rfl
theorem r295_156 : zr 295 156 [v0] (.int y1 :: .int y2 :: st) u P = zr 295 157 [v0] (.int (y2 - y1) :: st) u P := zr_B k295_156
theorem k295_157 : xcd 295 157 = oSt 13 (fun x => x) 158 := rfl
theorem r295_157 : zr 295 157 [v0] (.int y2 :: .int y1 :: .ref b1 :: st) u P = ((xIs u b1 13 ∧ xinb y1 (xN u b1)) ∧ zr 295 158 [v0] st (xsI u b1 (xix y1) y2) P) := zr_St k295_157
theorem k295_158 : xcd 295 158 = oAl 0 159 := rfl
theorem r295_158 : zr 295 158 [.ref a0] st u P = zr 295 159 [.ref a0] (.ref a0 :: st) u P := zr_Al k295_158 rfl
theorem k295_159 : xcd 295 159 = oI 0 160 := rfl
theorem r295_159 : zr 295 159 [v0] st u P = zr 295 160 [v0] (.int 0 :: st) u P := zr_I k295_159
theorem k295_160 : xcd 295 160 = oCalV 11 174 1 163 := rfl
theorem r295_160 : zr 295 160 [v0] (.int y1 :: .ref b8 :: st) u P = ((xIs u b8 11 ∧ xcat st ≤ 8) ∧ zr 174 0 [.ref b8, .int y1] [] u (fun r u2 => zr 295 163 [v0] (r.toList ++ st) u2 P)) := zr_CV k295_160 rfl rfl rfl ⟨Nat.le_of_ble_eq_true rfl, Nat.succ_ne_zero _, by decide⟩ rfl
theorem k295_163 : xcd 295 163 = oPop 164 := rfl
theorem r295_163 : zr 295 163 [v0] (.int y1 :: st) u P = zr 295 164 [v0] st u P := zr_PopI k295_163
theorem k295_164 : xcd 295 164 = oI 1 165 := rfl
theorem r295_164 : zr 295 164 [v0] st u P = zr 295 165 [v0] (.int 1 :: st) u P := zr_I k295_164
theorem k295_165 : xcd 295 165 = oRz 0 := rfl
theorem r295_165 : zr 295 165 [v0] [.int y1] u P = ((y1 = 0 ∨ y1 = 1) ∧ P (some (.int y1)) u) := zr_Rz k295_165
theorem k296_0 : xcd 296 0 = oI 0 1 := rfl
theorem r296_0 : zr 296 0 [v0, v1, v2, v3] st u P = zr 296 1 [v0, v1, v2, v3] (.int 0 :: st) u P := zr_I k296_0
theorem k296_1 : xcd 296 1 = oIs 2 2 := rfl
theorem r296_1 : zr 296 1 [v0, .int x1, v2, v3] (.int y1 :: st) u P = zr 296 2 [v0, .int x1, .int y1, v3] st u P := zr_Is k296_1 ⟨Nat.le_of_ble_eq_true rfl, rfl⟩
theorem k296_2 : xcd 296 2 = oIl 2 3 := rfl
theorem r296_2 : zr 296 2 [v0, v1, .int x2, v3] st u P = zr 296 3 [v0, v1, .int x2, v3] (.int x2 :: st) u P := zr_Il k296_2 rfl
theorem k296_3 : xcd 296 3 = oAl 0 4 := rfl
theorem r296_3 : zr 296 3 [.ref a0, v1, v2, v3] st u P = zr 296 4 [.ref a0, v1, v2, v3] (.ref a0 :: st) u P := zr_Al k296_3 rfl
theorem k296_4 : xcd 296 4 = oGI 11 20 7 := rfl
theorem r296_4 : zr 296 4 [v0, v1, v2, v3] (.ref b1 :: st) u P = (xIs u b1 11 ∧ zr 296 7 [v0, v1, v2, v3] (.int (xI u b1 20) :: st) u P) := zr_GI k296_4
theorem k296_7 : xcd 296 7 = oCmp (fun x y => decide (y ≤ x)) 48 10 := rfl
theorem r296_7 : zr 296 7 [v0, v1, v2, v3] (.int y1 :: .int y2 :: st) u P = (if y1 ≤ y2 then zr 296 48 [v0, v1, v2, v3] st u P else zr 296 10 [v0, v1, v2, v3] st u P) := zr_Cmp k296_7
theorem k296_10 : xcd 296 10 = oI 0 11 := rfl
theorem r296_10 : zr 296 10 [v0, v1, v2, v3] st u P = zr 296 11 [v0, v1, v2, v3] (.int 0 :: st) u P := zr_I k296_10
theorem k296_11 : xcd 296 11 = oIs 3 12 := rfl
theorem r296_11 : zr 296 11 [v0, v1, .int x2, v3] (.int y1 :: st) u P = zr 296 12 [v0, v1, .int x2, .int y1] st u P := zr_Is k296_11 ⟨Nat.le_of_ble_eq_true rfl, rfl⟩
theorem k296_12 : xcd 296 12 = oIl 3 13 := rfl
theorem r296_12 : zr 296 12 [v0, v1, v2, .int x3] st u P = zr 296 13 [v0, v1, v2, .int x3] (.int x3 :: st) u P := zr_Il k296_12 rfl
theorem k296_13 : xcd 296 13 = oAl 0 14 := rfl
theorem r296_13 : zr 296 13 [.ref a0, v1, v2, v3] st u P = zr 296 14 [.ref a0, v1, v2, v3] (.ref a0 :: st) u P := zr_Al k296_13 rfl
theorem k296_14 : xcd 296 14 = oIl 2 15 := rfl
theorem r296_14 : zr 296 14 [v0, v1, .int x2, v3] st u P = zr 296 15 [v0, v1, .int x2, v3] (.int x2 :: st) u P := zr_Il k296_14 rfl
theorem k296_15 : xcd 296 15 = oI 7 17 := rfl
theorem r296_15 : zr 296 15 [v0, v1, v2, v3] st u P = zr 296 17 [v0, v1, v2, v3] (.int 7 :: st) u P := zr_I k296_15
theorem k296_17 : xcd 296 17 = oCalV 11 262 2 20 := rfl
theorem r296_17 : zr 296 17 [v0, v1, v2, v3] (.int y2 :: .int y1 :: .ref b8 :: st) u P = ((xIs u b8 11 ∧ xcat st ≤ 8) ∧ zr 262 0 [.ref b8, .int y1, .int y2] [] u (fun r u2 => zr 296 20 [v0, v1, v2, v3] (r.toList ++ st) u2 P)) := zr_CV k296_17 rfl rfl rfl ⟨Nat.le_of_ble_eq_true rfl, Nat.succ_ne_zero _, by decide⟩ rfl
theorem k296_20 : xcd 296 20 = oCmp (fun x y => decide (y ≤ x)) 42 23 := rfl
theorem r296_20 : zr 296 20 [v0, v1, v2, v3] (.int y1 :: .int y2 :: st) u P = (if y1 ≤ y2 then zr 296 42 [v0, v1, v2, v3] st u P else zr 296 23 [v0, v1, v2, v3] st u P) := zr_Cmp k296_20
theorem k296_23 : xcd 296 23 = oAl 0 24 := rfl
theorem r296_23 : zr 296 23 [.ref a0, v1, v2, v3] st u P = zr 296 24 [.ref a0, v1, v2, v3] (.ref a0 :: st) u P := zr_Al k296_23 rfl
theorem k296_24 : xcd 296 24 = oIl 2 25 := rfl
theorem r296_24 : zr 296 24 [v0, v1, .int x2, v3] st u P = zr 296 25 [v0, v1, .int x2, v3] (.int x2 :: st) u P := zr_Il k296_24 rfl
theorem k296_25 : xcd 296 25 = oIl 3 26 := rfl
theorem r296_25 : zr 296 25 [v0, v1, v2, .int x3] st u P = zr 296 26 [v0, v1, v2, .int x3] (.int x3 :: st) u P := zr_Il k296_25 rfl
theorem k296_26 : xcd 296 26 = oI 0 27 := rfl
theorem r296_26 : zr 296 26 [v0, v1, v2, v3] st u P = zr 296 27 [v0, v1, v2, v3] (.int 0 :: st) u P := zr_I k296_26
theorem k296_27 : xcd 296 27 = oCalV 11 263 3 30 := rfl
theorem r296_27 : zr 296 27 [v0, v1, v2, v3] (.int y3 :: .int y2 :: .int y1 :: .ref b8 :: st) u P = ((xIs u b8 11 ∧ xcat st ≤ 8) ∧ zr 263 0 [.ref b8, .int y1, .int y2, .int y3] [] u (fun r u2 => zr 296 30 [v0, v1, v2, v3] (r.toList ++ st) u2 P)) := zr_CV k296_27 rfl rfl rfl ⟨Nat.le_of_ble_eq_true rfl, Nat.succ_ne_zero _, by decide⟩ rfl
theorem k296_30 : xcd 296 30 = oIl 1 31 := rfl
theorem r296_30 : zr 296 30 [v0, .int x1, v2, v3] st u P = zr 296 31 [v0, .int x1, v2, v3] (.int x1 :: st) u P := zr_Il k296_30 rfl
theorem k296_31 : xcd 296 31 = oCmp (fun x y => decide (¬ x = y)) 36 34 := rfl
theorem r296_31 : zr 296 31 [v0, v1, v2, v3] (.int y1 :: .int y2 :: st) u P = (if ¬ y2 = y1 then zr 296 36 [v0, v1, v2, v3] st u P else zr 296 34 [v0, v1, v2, v3] st u P) := zr_Cmp k296_31
theorem k296_34 : xcd 296 34 = oI 1 35 := rfl
theorem r296_34 : zr 296 34 [v0, v1, v2, v3] st u P = zr 296 35 [v0, v1, v2, v3] (.int 1 :: st) u P := zr_I k296_34
theorem k296_35 : xcd 296 35 = oRz 0 := rfl
theorem r296_35 : zr 296 35 [v0, v1, v2, v3] [.int y1] u P = ((y1 = 0 ∨ y1 = 1) ∧ P (some (.int y1)) u) := zr_Rz k296_35
theorem k296_36 : xcd 296 36 = oInc 3 1 39 := rfl
theorem r296_36 : zr 296 36 [v0, v1, .int x2, .int x3] st u P = zr 296 39 [v0, v1, .int x2, .int (x3 + 1)] st u P := zr_Inc k296_36 rfl rfl
theorem k296_39 : xcd 296 39 = oGoto 12 := rfl
theorem r296_39 : zr 296 39 [v0, v1, v2, v3] st u P = zr 296 12 [v0, v1, v2, v3] st u P := zr_Goto k296_39
theorem k296_42 : xcd 296 42 = oInc 2 1 45 := rfl
theorem r296_42 : zr 296 42 [v0, .int x1, .int x2, v3] st u P = zr 296 45 [v0, .int x1, .int (x2 + 1), v3] st u P := zr_Inc k296_42 rfl rfl
theorem k296_45 : xcd 296 45 = oGoto 2 := rfl
theorem r296_45 : zr 296 45 [v0, v1, v2, v3] st u P = zr 296 2 [v0, v1, v2, v3] st u P := zr_Goto k296_45
theorem k296_48 : xcd 296 48 = oI 0 49 := rfl
theorem r296_48 : zr 296 48 [v0, v1, v2, v3] st u P = zr 296 49 [v0, v1, v2, v3] (.int 0 :: st) u P := zr_I k296_48
theorem k296_49 : xcd 296 49 = oRz 0 := rfl
theorem r296_49 : zr 296 49 [v0, v1, v2, v3] [.int y1] u P = ((y1 = 0 ∨ y1 = 1) ∧ P (some (.int y1)) u) := zr_Rz k296_49
theorem k297_0 : xcd 297 0 = oAl 0 1 := rfl
theorem r297_0 : zr 297 0 [.ref a0, v1, v2, v3] st u P = zr 297 1 [.ref a0, v1, v2, v3] (.ref a0 :: st) u P := zr_Al k297_0 rfl
theorem k297_1 : xcd 297 1 = oI 0 2 := rfl
theorem r297_1 : zr 297 1 [v0, v1, v2, v3] st u P = zr 297 2 [v0, v1, v2, v3] (.int 0 :: st) u P := zr_I k297_1
theorem k297_2 : xcd 297 2 = oPI 11 0 5 := rfl
theorem r297_2 : zr 297 2 [v0, v1, v2, v3] (.int y1 :: .ref b1 :: st) u P = (xIs u b1 11 ∧ zr 297 5 [v0, v1, v2, v3] st (xsI u b1 0 y1) P) := zr_PI k297_2
theorem k297_5 : xcd 297 5 = oI 0 6 := rfl
theorem r297_5 : zr 297 5 [v0, v1, v2, v3] st u P = zr 297 6 [v0, v1, v2, v3] (.int 0 :: st) u P := zr_I k297_5
theorem k297_6 : xcd 297 6 = oIs 2 7 := rfl
theorem r297_6 : zr 297 6 [v0, .int x1, v2, v3] (.int y1 :: st) u P = zr 297 7 [v0, .int x1, .int y1, v3] st u P := zr_Is k297_6 ⟨Nat.le_of_ble_eq_true rfl, rfl⟩
theorem k297_7 : xcd 297 7 = oI 0 8 := rfl
theorem r297_7 : zr 297 7 [v0, v1, v2, v3] st u P = zr 297 8 [v0, v1, v2, v3] (.int 0 :: st) u P := zr_I k297_7
theorem k297_8 : xcd 297 8 = oIs 3 9 := rfl
theorem r297_8 : zr 297 8 [v0, v1, .int x2, v3] (.int y1 :: st) u P = zr 297 9 [v0, v1, .int x2, .int y1] st u P := zr_Is k297_8 ⟨Nat.le_of_ble_eq_true rfl, rfl⟩
theorem k297_9 : xcd 297 9 = oAl 0 10 := rfl
theorem r297_9 : zr 297 9 [.ref a0, v1, v2, v3] st u P = zr 297 10 [.ref a0, v1, v2, v3] (.ref a0 :: st) u P := zr_Al k297_9 rfl
theorem k297_10 : xcd 297 10 = oGI 11 7 13 := rfl
theorem r297_10 : zr 297 10 [v0, v1, v2, v3] (.ref b1 :: st) u P = (xIs u b1 11 ∧ zr 297 13 [v0, v1, v2, v3] (.int (xI u b1 7) :: st) u P) := zr_GI k297_10
theorem k297_13 : xcd 297 13 = oIf (fun x => decide (x = 0)) 53 16 := rfl
theorem r297_13 : zr 297 13 [v0, v1, v2, v3] (.int y1 :: st) u P = (if y1 = 0 then zr 297 53 [v0, v1, v2, v3] st u P else zr 297 16 [v0, v1, v2, v3] st u P) := zr_If k297_13
theorem k297_16 : xcd 297 16 = oIl 3 17 := rfl
theorem r297_16 : zr 297 16 [v0, v1, v2, .int x3] st u P = zr 297 17 [v0, v1, v2, .int x3] (.int x3 :: st) u P := zr_Il k297_16 rfl
theorem k297_17 : xcd 297 17 = oAl 0 18 := rfl
theorem r297_17 : zr 297 17 [.ref a0, v1, v2, v3] st u P = zr 297 18 [.ref a0, v1, v2, v3] (.ref a0 :: st) u P := zr_Al k297_17 rfl
theorem k297_18 : xcd 297 18 = oGR 11 3 21 := rfl
theorem r297_18 : zr 297 18 [v0, v1, v2, v3] (.ref b1 :: st) u P = (xIs u b1 11 ∧ ∃ b, xR u b1 3 = some b ∧ zr 297 21 [v0, v1, v2, v3] (.ref b :: st) u P) := zr_GR k297_18
theorem k297_21 : xcd 297 21 = oI 3 22 := rfl
theorem r297_21 : zr 297 21 [v0, v1, v2, v3] st u P = zr 297 22 [v0, v1, v2, v3] (.int 3 :: st) u P := zr_I k297_21
theorem k297_22 : xcd 297 22 = oLd 13 23 := rfl
theorem r297_22 : zr 297 22 [v0, v1, v2, v3] (.int y1 :: .ref b1 :: st) u P = ((xIs u b1 13 ∧ xinb y1 (xN u b1)) ∧ zr 297 23 [v0, v1, v2, v3] (.int (xI u b1 (xix y1)) :: st) u P) := zr_Ld k297_22
theorem k297_23 : xcd 297 23 = oCmp (fun x y => decide (y ≤ x)) 53 26 := rfl
theorem r297_23 : zr 297 23 [v0, v1, v2, v3] (.int y1 :: .int y2 :: st) u P = (if y1 ≤ y2 then zr 297 53 [v0, v1, v2, v3] st u P else zr 297 26 [v0, v1, v2, v3] st u P) := zr_Cmp k297_23
theorem k297_26 : xcd 297 26 = oAl 0 27 := rfl
theorem r297_26 : zr 297 26 [.ref a0, v1, v2, v3] st u P = zr 297 27 [.ref a0, v1, v2, v3] (.ref a0 :: st) u P := zr_Al k297_26 rfl
theorem k297_27 : xcd 297 27 = oIl 3 28 := rfl
theorem r297_27 : zr 297 27 [v0, v1, v2, .int x3] st u P = zr 297 28 [v0, v1, v2, .int x3] (.int x3 :: st) u P := zr_Il k297_27 rfl
theorem k297_28 : xcd 297 28 = oCalV 11 296 1 31 := rfl
theorem r297_28 : zr 297 28 [v0, v1, v2, v3] (.int y1 :: .ref b8 :: st) u P = ((xIs u b8 11 ∧ xcat st ≤ 8) ∧ zr 296 0 [.ref b8, .int y1, .null, .null] [] u (fun r u2 => zr 297 31 [v0, v1, v2, v3] (r.toList ++ st) u2 P)) := zr_CV k297_28 rfl rfl rfl ⟨Nat.le_of_ble_eq_true rfl, Nat.succ_ne_zero _, by decide⟩ rfl
theorem k297_31 : xcd 297 31 = oIf (fun x => decide (x = 0)) 37 34 := rfl
theorem r297_31 : zr 297 31 [v0, v1, v2, v3] (.int y1 :: st) u P = (if y1 = 0 then zr 297 37 [v0, v1, v2, v3] st u P else zr 297 34 [v0, v1, v2, v3] st u P) := zr_If k297_31
theorem k297_34 : xcd 297 34 = oGoto 47 := rfl
theorem r297_34 : zr 297 34 [v0, v1, v2, v3] st u P = zr 297 47 [v0, v1, v2, v3] st u P := zr_Goto k297_34
theorem k297_37 : xcd 297 37 = oIl 2 38 := rfl
theorem r297_37 : zr 297 37 [v0, v1, .int x2, v3] st u P = zr 297 38 [v0, v1, .int x2, v3] (.int x2 :: st) u P := zr_Il k297_37 rfl
theorem k297_38 : xcd 297 38 = oIl 1 39 := rfl
theorem r297_38 : zr 297 38 [v0, .int x1, v2, v3] st u P = zr 297 39 [v0, .int x1, v2, v3] (.int x1 :: st) u P := zr_Il k297_38 rfl
theorem k297_39 : xcd 297 39 = oCmp (fun x y => decide (¬ x = y)) 44 42 := rfl
theorem r297_39 : zr 297 39 [v0, v1, v2, v3] (.int y1 :: .int y2 :: st) u P = (if ¬ y2 = y1 then zr 297 44 [v0, v1, v2, v3] st u P else zr 297 42 [v0, v1, v2, v3] st u P) := zr_Cmp k297_39
theorem k297_42 : xcd 297 42 = oIl 3 43 := rfl
theorem r297_42 : zr 297 42 [v0, v1, v2, .int x3] st u P = zr 297 43 [v0, v1, v2, .int x3] (.int x3 :: st) u P := zr_Il k297_42 rfl
theorem k297_43 : xcd 297 43 = oRi 0 := rfl
theorem r297_43 : zr 297 43 [v0, v1, v2, v3] [.int y1] u P = P (some (.int y1)) u := zr_Ri k297_43
theorem k297_44 : xcd 297 44 = oInc 2 1 47 := rfl
theorem r297_44 : zr 297 44 [v0, .int x1, .int x2, v3] st u P = zr 297 47 [v0, .int x1, .int (x2 + 1), v3] st u P := zr_Inc k297_44 rfl rfl
theorem k297_47 : xcd 297 47 = oInc 3 1 50 := rfl
theorem r297_47 : zr 297 47 [v0, v1, .int x2, .int x3] st u P = zr 297 50 [v0, v1, .int x2, .int (x3 + 1)] st u P := zr_Inc k297_47 rfl rfl
theorem k297_50 : xcd 297 50 = oGoto 9 := rfl
theorem r297_50 : zr 297 50 [v0, v1, v2, v3] st u P = zr 297 9 [v0, v1, v2, v3] st u P := zr_Goto k297_50
theorem k297_53 : xcd 297 53 = oAl 0 54 := rfl
theorem r297_53 : zr 297 53 [.ref a0, v1, v2, v3] st u P = zr 297 54 [.ref a0, v1, v2, v3] (.ref a0 :: st) u P := zr_Al k297_53 rfl
theorem k297_54 : xcd 297 54 = oI 1 55 := rfl
theorem r297_54 : zr 297 54 [v0, v1, v2, v3] st u P = zr 297 55 [v0, v1, v2, v3] (.int 1 :: st) u P := zr_I k297_54
theorem k297_55 : xcd 297 55 = oPI 11 0 58 := rfl
theorem r297_55 : zr 297 55 [v0, v1, v2, v3] (.int y1 :: .ref b1 :: st) u P = (xIs u b1 11 ∧ zr 297 58 [v0, v1, v2, v3] st (xsI u b1 0 y1) P) := zr_PI k297_55
theorem k297_58 : xcd 297 58 = oI 0 59 := rfl
theorem r297_58 : zr 297 58 [v0, v1, v2, v3] st u P = zr 297 59 [v0, v1, v2, v3] (.int 0 :: st) u P := zr_I k297_58
theorem k297_59 : xcd 297 59 = oRi 0 := rfl
theorem r297_59 : zr 297 59 [v0, v1, v2, v3] [.int y1] u P = P (some (.int y1)) u := zr_Ri k297_59
theorem k298_0 : xcd 298 0 = oI 0 1 := rfl
theorem r298_0 : zr 298 0 [v0, v1, v2] st u P = zr 298 1 [v0, v1, v2] (.int 0 :: st) u P := zr_I k298_0
theorem k298_1 : xcd 298 1 = oIs 1 2 := rfl
theorem r298_1 : zr 298 1 [.ref a0, v1, v2] (.int y1 :: st) u P = zr 298 2 [.ref a0, .int y1, v2] st u P := zr_Is k298_1 ⟨Nat.le_of_ble_eq_true rfl, rfl⟩
theorem k298_2 : xcd 298 2 = oI 0 3 := rfl
theorem r298_2 : zr 298 2 [v0, v1, v2] st u P = zr 298 3 [v0, v1, v2] (.int 0 :: st) u P := zr_I k298_2
theorem k298_3 : xcd 298 3 = oIs 2 4 := rfl
theorem r298_3 : zr 298 3 [v0, .int x1, v2] (.int y1 :: st) u P = zr 298 4 [v0, .int x1, .int y1] st u P := zr_Is k298_3 ⟨Nat.le_of_ble_eq_true rfl, rfl⟩
theorem k298_4 : xcd 298 4 = oIl 2 5 := rfl
theorem r298_4 : zr 298 4 [v0, v1, .int x2] st u P = zr 298 5 [v0, v1, .int x2] (.int x2 :: st) u P := zr_Il k298_4 rfl
theorem k298_5 : xcd 298 5 = oAl 0 6 := rfl
theorem r298_5 : zr 298 5 [.ref a0, v1, v2] st u P = zr 298 6 [.ref a0, v1, v2] (.ref a0 :: st) u P := zr_Al k298_5 rfl
theorem k298_6 : xcd 298 6 = oGI 11 20 9 := rfl
theorem r298_6 : zr 298 6 [v0, v1, v2] (.ref b1 :: st) u P = (xIs u b1 11 ∧ zr 298 9 [v0, v1, v2] (.int (xI u b1 20) :: st) u P) := zr_GI k298_6
theorem k298_9 : xcd 298 9 = oCmp (fun x y => decide (y ≤ x)) 28 12 := rfl
theorem r298_9 : zr 298 9 [v0, v1, v2] (.int y1 :: .int y2 :: st) u P = (if y1 ≤ y2 then zr 298 28 [v0, v1, v2] st u P else zr 298 12 [v0, v1, v2] st u P) := zr_Cmp k298_9
theorem k298_12 : xcd 298 12 = oIl 1 13 := rfl
theorem r298_12 : zr 298 12 [v0, .int x1, v2] st u P = zr 298 13 [v0, .int x1, v2] (.int x1 :: st) u P := zr_Il k298_12 rfl
theorem k298_13 : xcd 298 13 = oAl 0 14 := rfl
theorem r298_13 : zr 298 13 [.ref a0, v1, v2] st u P = zr 298 14 [.ref a0, v1, v2] (.ref a0 :: st) u P := zr_Al k298_13 rfl
theorem k298_14 : xcd 298 14 = oIl 2 15 := rfl
theorem r298_14 : zr 298 14 [v0, v1, .int x2] st u P = zr 298 15 [v0, v1, .int x2] (.int x2 :: st) u P := zr_Il k298_14 rfl
theorem k298_15 : xcd 298 15 = oI 6 17 := rfl
theorem r298_15 : zr 298 15 [v0, v1, v2] st u P = zr 298 17 [v0, v1, v2] (.int 6 :: st) u P := zr_I k298_15
theorem k298_17 : xcd 298 17 = oCalV 11 262 2 20 := rfl
theorem r298_17 : zr 298 17 [v0, v1, v2] (.int y2 :: .int y1 :: .ref b8 :: st) u P = ((xIs u b8 11 ∧ xcat st ≤ 8) ∧ zr 262 0 [.ref b8, .int y1, .int y2] [] u (fun r u2 => zr 298 20 [v0, v1, v2] (r.toList ++ st) u2 P)) := zr_CV k298_17 rfl rfl rfl ⟨Nat.le_of_ble_eq_true rfl, Nat.succ_ne_zero _, by decide⟩ rfl
theorem k298_20 : xcd 298 20 = oB (fun x y => x + y) 21 := rfl
theorem r298_20 : zr 298 20 [v0, v1, v2] (.int y1 :: .int y2 :: st) u P = zr 298 21 [v0, v1, v2] (.int (y2 + y1) :: st) u P := zr_B k298_20
theorem k298_21 : xcd 298 21 = oIs 1 22 := rfl
theorem r298_21 : zr 298 21 [.ref a0, v1, v2] (.int y1 :: st) u P = zr 298 22 [.ref a0, .int y1, v2] st u P := zr_Is k298_21 ⟨Nat.le_of_ble_eq_true rfl, rfl⟩
theorem k298_22 : xcd 298 22 = oInc 2 1 25 := rfl
theorem r298_22 : zr 298 22 [v0, .int x1, .int x2] st u P = zr 298 25 [v0, .int x1, .int (x2 + 1)] st u P := zr_Inc k298_22 rfl rfl
theorem k298_25 : xcd 298 25 = oGoto 4 := rfl
theorem r298_25 : zr 298 25 [v0, v1, v2] st u P = zr 298 4 [v0, v1, v2] st u P := zr_Goto k298_25
theorem k298_28 : xcd 298 28 = oIl 1 29 := rfl
theorem r298_28 : zr 298 28 [v0, .int x1, v2] st u P = zr 298 29 [v0, .int x1, v2] (.int x1 :: st) u P := zr_Il k298_28 rfl
theorem k298_29 : xcd 298 29 = oRi 0 := rfl
theorem r298_29 : zr 298 29 [v0, v1, v2] [.int y1] u P = P (some (.int y1)) u := zr_Ri k298_29
theorem k299_0 : xcd 299 0 = oAl 0 1 := rfl
theorem r299_0 : zr 299 0 [.ref a0, v1] st u P = zr 299 1 [.ref a0, v1] (.ref a0 :: st) u P := zr_Al k299_0 rfl
theorem k299_1 : xcd 299 1 = oI 0 2 := rfl
theorem r299_1 : zr 299 1 [v0, v1] st u P = zr 299 2 [v0, v1] (.int 0 :: st) u P := zr_I k299_1
theorem k299_2 : xcd 299 2 = oPI 11 0 5 := rfl
theorem r299_2 : zr 299 2 [v0, v1] (.int y1 :: .ref b1 :: st) u P = (xIs u b1 11 ∧ zr 299 5 [v0, v1] st (xsI u b1 0 y1) P) := zr_PI k299_2
theorem k299_5 : xcd 299 5 = oIl 1 6 := rfl
theorem r299_5 : zr 299 5 [v0, .int x1] st u P = zr 299 6 [v0, .int x1] (.int x1 :: st) u P := zr_Il k299_5 rfl
theorem k299_6 : xcd 299 6 = oSw [32, 37, 42] 58 := rfl
theorem r299_6 : zr 299 6 [v0, v1] (.int y1 :: st) u P = zr 299 (if y1 < 0 ∨ 3 ≤ y1 then 58 else [32, 37, 42].getD y1.toNatClampNeg 58) [v0, v1] st u P := zr_Sw k299_6
theorem k299_32 : xcd 299 32 = oAl 0 33 := rfl
theorem r299_32 : zr 299 32 [.ref a0, v1] st u P = zr 299 33 [.ref a0, v1] (.ref a0 :: st) u P := zr_Al k299_32 rfl
theorem k299_33 : xcd 299 33 = oGI 11 9 36 := rfl
theorem r299_33 : zr 299 33 [v0, v1] (.ref b1 :: st) u P = (xIs u b1 11 ∧ zr 299 36 [v0, v1] (.int (xI u b1 9) :: st) u P) := zr_GI k299_33
theorem k299_36 : xcd 299 36 = oRi 0 := rfl
theorem r299_36 : zr 299 36 [v0, v1] [.int y1] u P = P (some (.int y1)) u := zr_Ri k299_36
theorem k299_37 : xcd 299 37 = oAl 0 38 := rfl
theorem r299_37 : zr 299 37 [.ref a0, v1] st u P = zr 299 38 [.ref a0, v1] (.ref a0 :: st) u P := zr_Al k299_37 rfl
theorem k299_38 : xcd 299 38 = oGI 11 31 41 := rfl
theorem r299_38 : zr 299 38 [v0, v1] (.ref b1 :: st) u P = (xIs u b1 11 ∧ zr 299 41 [v0, v1] (.int (xI u b1 31) :: st) u P) := zr_GI k299_38
theorem k299_41 : xcd 299 41 = oRi 0 := rfl
theorem r299_41 : zr 299 41 [v0, v1] [.int y1] u P = P (some (.int y1)) u := zr_Ri k299_41
theorem k299_42 : xcd 299 42 = oAl 0 43 := rfl
theorem r299_42 : zr 299 42 [.ref a0, v1] st u P = zr 299 43 [.ref a0, v1] (.ref a0 :: st) u P := zr_Al k299_42 rfl
theorem k299_43 : xcd 299 43 = oGI 11 7 46 := rfl
theorem r299_43 : zr 299 43 [v0, v1] (.ref b1 :: st) u P = (xIs u b1 11 ∧ zr 299 46 [v0, v1] (.int (xI u b1 7) :: st) u P) := zr_GI k299_43
theorem k299_46 : xcd 299 46 = oIf (fun x => decide (x = 0)) 56 49 := rfl
theorem r299_46 : zr 299 46 [v0, v1] (.int y1 :: st) u P = (if y1 = 0 then zr 299 56 [v0, v1] st u P else zr 299 49 [v0, v1] st u P) := zr_If k299_46
theorem k299_49 : xcd 299 49 = oAl 0 50 := rfl
theorem r299_49 : zr 299 49 [.ref a0, v1] st u P = zr 299 50 [.ref a0, v1] (.ref a0 :: st) u P := zr_Al k299_49 rfl
theorem k299_50 : xcd 299 50 = oCalV 11 298 0 53 := rfl
theorem r299_50 : zr 299 50 [v0, v1] (.ref b8 :: st) u P = ((xIs u b8 11 ∧ xcat st ≤ 8) ∧ zr 298 0 [.ref b8, .null, .null] [] u (fun r u2 => zr 299 53 [v0, v1] (r.toList ++ st) u2 P)) := zr_CV k299_50 rfl rfl rfl ⟨Nat.le_of_ble_eq_true rfl, Nat.succ_ne_zero _, by decide⟩ rfl
theorem k299_53 : xcd 299 53 = oGoto 57 := rfl
theorem r299_53 : zr 299 53 [v0, v1] st u P = zr 299 57 [v0, v1] st u P := zr_Goto k299_53
theorem k299_56 : xcd 299 56 = oI 0 57 := rfl
theorem r299_56 : zr 299 56 [v0, v1] st u P = zr 299 57 [v0, v1] (.int 0 :: st) u P := zr_I k299_56
theorem k299_57 : xcd 299 57 = oRi 0 := rfl
theorem r299_57 : zr 299 57 [v0, v1] [.int y1] u P = P (some (.int y1)) u := zr_Ri k299_57
theorem k299_58 : xcd 299 58 = oI (-1) 59 := rfl
theorem r299_58 : zr 299 58 [v0, v1] st u P = zr 299 59 [v0, v1] (.int (-1) :: st) u P := zr_I k299_58
theorem k299_59 : xcd 299 59 = oRi 0 := rfl
theorem r299_59 : zr 299 59 [v0, v1] [.int y1] u P = P (some (.int y1)) u := zr_Ri k299_59
theorem k300_0 : xcd 300 0 = oAl 0 1 := rfl
theorem r300_0 : zr 300 0 [.ref a0] st u P = zr 300 1 [.ref a0] (.ref a0 :: st) u P := zr_Al k300_0 rfl
theorem k300_1 : xcd 300 1 = oI 0 2 := rfl
theorem r300_1 : zr 300 1 [v0] st u P = zr 300 2 [v0] (.int 0 :: st) u P := zr_I k300_1
theorem k300_2 : xcd 300 2 = oPI 11 0 5 := rfl
theorem r300_2 : zr 300 2 [v0] (.int y1 :: .ref b1 :: st) u P = (xIs u b1 11 ∧ zr 300 5 [v0] st (xsI u b1 0 y1) P) := zr_PI k300_2
theorem k300_5 : xcd 300 5 = oAl 0 6 := rfl
theorem r300_5 : zr 300 5 [.ref a0] st u P = zr 300 6 [.ref a0] (.ref a0 :: st) u P := zr_Al k300_5 rfl
theorem k300_6 : xcd 300 6 = oGI 11 1 9 := rfl
theorem r300_6 : zr 300 6 [v0] (.ref b1 :: st) u P = (xIs u b1 11 ∧ zr 300 9 [v0] (.int (xI u b1 1) :: st) u P) := zr_GI k300_6
theorem k300_9 : xcd 300 9 = oRi 0 := rfl
theorem r300_9 : zr 300 9 [v0] [.int y1] u P = P (some (.int y1)) u := zr_Ri k300_9
end
