/-! rows of X8_begin, X8_step, X8_takeWord, X8_takeWhole, X8_says, X8_isName, X9_begin, X9_addClass, X9_addHoliday, X9_addCap, X9_rateFor, X9_isFree, X9_isUnder, X9_capFor, X9_capTold, X9_nextOfAll, X9_nearer, X10_feed, X10_desk, X10_fault, X10_where, X10_about, X10_above, X10_place, X10_corners, X10_corner, X10_area, X10_inside, X10_onEdge, X10_nextMove, X10_settled, X10_stack, X10_stackAt, X10_nextStack, X10_overlap, X10_points, X10_stacked, X10_rate -/
section
variable {u : xMem} {P : Option Value → xMem → Prop} {st : List Value} {v0 v1 v2 v3 v4 v5 v6 v7 v8 v9 v10 v11 v12 v13 v14 v15 : Value} {x0 x1 x2 x3 x4 x5 x6 x7 x8 x9 x10 x11 x12 x13 x14 x15 : Int32} {a0 a1 a2 a3 a4 a5 a6 a7 a8 a9 a10 a11 a12 a13 a14 a15 : Nat} {j0 j1 j2 j3 j4 j5 j6 j7 j8 j9 j10 j11 j12 j13 j14 j15 : Int64} {y1 y2 y3 y4 y5 y6 y7 y8 : Int32} {b1 b2 b3 b4 b5 b6 b7 b8 : Nat} {w1 w2 w3 w4 : Int64}
theorem k88_0 : xcd 88 0 = oAl 0 1 := rfl
theorem r88_0 : zr 88 0 [.ref a0, v1] st u P = zr 88 1 [.ref a0, v1] (.ref a0 :: st) u P := zr_Al k88_0 rfl
theorem k88_1 : xcd 88 1 = oIl 1 2 := rfl
theorem r88_1 : zr 88 1 [v0, .int x1] st u P = zr 88 2 [v0, .int x1] (.int x1 :: st) u P := zr_Il k88_1 rfl
theorem k88_2 : xcd 88 2 = oPI 8 2 5 := rfl
theorem r88_2 : zr 88 2 [v0, v1] (.int y1 :: .ref b1 :: st) u P = (xIs u b1 8 ∧ zr 88 5 [v0, v1] st (xsI u b1 2 y1) P) := zr_PI k88_2
theorem k88_5 : xcd 88 5 = oAl 0 6 := rfl
theorem r88_5 : zr 88 5 [.ref a0, v1] st u P = zr 88 6 [.ref a0, v1] (.ref a0 :: st) u P := zr_Al k88_5 rfl
theorem k88_6 : xcd 88 6 = oI 0 7 := rfl
theorem r88_6 : zr 88 6 [v0, v1] st u P = zr 88 7 [v0, v1] (.int 0 :: st) u P := zr_I k88_6
theorem k88_7 : xcd 88 7 = oPI 8 4 10 := rfl
theorem r88_7 : zr 88 7 [v0, v1] (.int y1 :: .ref b1 :: st) u P = (xIs u b1 8 ∧ zr 88 10 [v0, v1] st (xsI u b1 4 y1) P) := zr_PI k88_7
theorem k88_10 : xcd 88 10 = oAl 0 11 := rfl
theorem r88_10 : zr 88 10 [.ref a0, v1] st u P = zr 88 11 [.ref a0, v1] (.ref a0 :: st) u P := zr_Al k88_10 rfl
theorem k88_11 : xcd 88 11 = oCalV 8 89 0 14 := rfl
theorem r88_11 : zr 88 11 [v0, v1] (.ref b8 :: st) u P = ((xIs u b8 8 ∧ xcat st ≤ 8) ∧ zr 89 0 [.ref b8] [] u (fun r u2 => zr 88 14 [v0, v1] (r.toList ++ st) u2 P)) := zr_CV k88_11 rfl rfl rfl ⟨Nat.le_of_ble_eq_true rfl, Nat.succ_ne_zero _, by decide⟩ rfl
theorem k88_14 : xcd 88 14 = oRv 0 := rfl
theorem r88_14 : zr 88 14 [v0, v1] [] u P = P none u := zr_Rv k88_14
theorem k89_0 : xcd 89 0 = oAl 0 1 := rfl
theorem r89_0 : zr 89 0 [.ref a0] st u P = zr 89 1 [.ref a0] (.ref a0 :: st) u P := zr_Al k89_0 rfl
theorem k89_1 : xcd 89 1 = oAl 0 2 := rfl
theorem r89_1 : zr 89 1 [.ref a0] st u P = zr 89 2 [.ref a0] (.ref a0 :: st) u P := zr_Al k89_1 rfl
theorem k89_2 : xcd 89 2 = oGI 8 4 5 := rfl
theorem r89_2 : zr 89 2 [v0] (.ref b1 :: st) u P = (xIs u b1 8 ∧ zr 89 5 [v0] (.int (xI u b1 4) :: st) u P) := zr_GI k89_2
theorem k89_5 : xcd 89 5 = oPI 8 3 8 := rfl
theorem r89_5 : zr 89 5 [v0] (.int y1 :: .ref b1 :: st) u P = (xIs u b1 8 ∧ zr 89 8 [v0] st (xsI u b1 3 y1) P) := zr_PI k89_5
theorem k89_8 : xcd 89 8 = oAl 0 9 := rfl
theorem r89_8 : zr 89 8 [.ref a0] st u P = zr 89 9 [.ref a0] (.ref a0 :: st) u P := zr_Al k89_8 rfl
theorem k89_9 : xcd 89 9 = oGI 8 3 12 := rfl
theorem r89_9 : zr 89 9 [v0] (.ref b1 :: st) u P = (xIs u b1 8 ∧ zr 89 12 [v0] (.int (xI u b1 3) :: st) u P) := zr_GI k89_9
theorem k89_12 : xcd 89 12 = oAl 0 13 := rfl
theorem r89_12 : zr 89 12 [.ref a0] st u P = zr 89 13 [.ref a0] (.ref a0 :: st) u P := zr_Al k89_12 rfl
theorem k89_13 : xcd 89 13 = oGI 8 2 16 := rfl
theorem r89_13 : zr 89 13 [v0] (.ref b1 :: st) u P = (xIs u b1 8 ∧ zr 89 16 [v0] (.int (xI u b1 2) :: st) u P) := zr_GI k89_13
theorem k89_16 : xcd 89 16 = oCmp (fun x y => decide (y ≤ x)) 46 19 := rfl
theorem r89_16 : zr 89 16 [v0] (.int y1 :: .int y2 :: st) u P = (if y1 ≤ y2 then zr 89 46 [v0] st u P else zr 89 19 [v0] st u P) := zr_Cmp k89_16
theorem k89_19 : xcd 89 19 = oAl 0 20 := rfl
theorem r89_19 : zr 89 19 [.ref a0] st u P = zr 89 20 [.ref a0] (.ref a0 :: st) u P := zr_Al k89_19 rfl
theorem k89_20 : xcd 89 20 = oGR 8 0 23 := rfl
theorem r89_20 : zr 89 20 [v0] (.ref b1 :: st) u P = (xIs u b1 8 ∧ ∃ b, xR u b1 0 = some b ∧ zr 89 23 [v0] (.ref b :: st) u P) := zr_GR k89_20
theorem k89_23 : xcd 89 23 = oAl 0 24 := rfl
theorem r89_23 : zr 89 23 [.ref a0] st u P = zr 89 24 [.ref a0] (.ref a0 :: st) u P := zr_Al k89_23 rfl
theorem k89_24 : xcd 89 24 = oGI 8 3 27 := rfl
theorem r89_24 : zr 89 24 [v0] (.ref b1 :: st) u P = (xIs u b1 8 ∧ zr 89 27 [v0] (.int (xI u b1 3) :: st) u P) := zr_GI k89_24
theorem k89_27 : xcd 89 27 = oLd 12 28 := rfl
theorem r89_27 : zr 89 27 [v0] (.int y1 :: .ref b1 :: st) u P = ((xIs u b1 12 ∧ xinb y1 (xN u b1)) ∧ zr 89 28 [v0] (.int (xI u b1 (xix y1)) :: st) u P) := zr_Ld k89_27
theorem k89_28 : xcd 89 28 = oI 32 30 := rfl
theorem r89_28 : zr 89 28 [v0] st u P = zr 89 30 [v0] (.int 32 :: st) u P := zr_I k89_28
theorem k89_30 : xcd 89 30 = oCmp (fun x y => decide (¬ x = y)) 46 33 := rfl
theorem r89_30 : zr 89 30 [v0] (.int y1 :: .int y2 :: st) u P = (if ¬ y2 = y1 then zr 89 46 [v0] st u P else zr 89 33 [v0] st u P) := zr_Cmp k89_30
theorem k89_33 : xcd 89 33 = oAl 0 34 := rfl
theorem r89_33 : zr 89 33 [.ref a0] st u P = zr 89 34 [.ref a0] (.ref a0 :: st) u P := zr_Al k89_33 rfl
theorem k89_34 : xcd 89 34 = oDup 35 := rfl
theorem r89_34 : zr 89 34 [v0] (.ref b1 :: st) u P = zr 89 35 [v0] (.ref b1 :: .ref b1 :: st) u P := zr_DupA k89_34
theorem k89_35 : xcd 89 35 = oGI 8 3 38 := rfl
theorem r89_35 : zr 89 35 [v0] (.ref b1 :: st) u P = (xIs u b1 8 ∧ zr 89 38 [v0] (.int (xI u b1 3) :: st) u P) := zr_GI k89_35
theorem k89_38 : xcd 89 38 = oI 1 39 := rfl
theorem r89_38 : zr 89 38 [v0] st u P = zr 89 39 [v0] (.int 1 :: st) u P := zr_I k89_38
theorem k89_39 : xcd 89 39 = oB (fun x y => x + y) 40 := rfl
theorem r89_39 : zr 89 39 [v0] (.int y1 :: .int y2 :: st) u P = zr 89 40 [v0] (.int (y2 + y1) :: st) u P := zr_B k89_39
theorem k89_40 : xcd 89 40 = oPI 8 3 43 := rfl
theorem r89_40 : zr 89 40 [v0] (.int y1 :: .ref b1 :: st) u P = (xIs u b1 8 ∧ zr 89 43 [v0] st (xsI u b1 3 y1) P) := zr_PI k89_40
theorem k89_43 : xcd 89 43 = oGoto 8 := rfl
theorem r89_43 : zr 89 43 [v0] st u P = zr 89 8 [v0] st u P := zr_Goto k89_43
theorem k89_46 : xcd 89 46 = oAl 0 47 := rfl
theorem r89_46 : zr 89 46 [.ref a0] st u P = zr 89 47 [.ref a0] (.ref a0 :: st) u P := zr_Al k89_46 rfl
theorem k89_47 : xcd 89 47 = oAl 0 48 := rfl
theorem r89_47 : zr 89 47 [.ref a0] st u P = zr 89 48 [.ref a0] (.ref a0 :: st) u P := zr_Al k89_47 rfl
theorem k89_48 : xcd 89 48 = oGI 8 3 51 := rfl
theorem r89_48 : zr 89 48 [v0] (.ref b1 :: st) u P = (xIs u b1 8 ∧ zr 89 51 [v0] (.int (xI u b1 3) :: st) u P) := zr_GI k89_48
theorem k89_51 : xcd 89 51 = oPI 8 4 54 := rfl
theorem r89_51 : zr 89 51 [v0] (.int y1 :: .ref b1 :: st) u P = (xIs u b1 8 ∧ zr 89 54 [v0] st (xsI u b1 4 y1) P) := zr_PI k89_51
theorem k89_54 : xcd 89 54 = oAl 0 55 := rfl
theorem r89_54 : zr 89 54 [.ref a0] st u P = zr 89 55 [.ref a0] (.ref a0 :: st) u P := zr_Al k89_54 rfl
theorem k89_55 : xcd 89 55 = oGI 8 3 58 := rfl
theorem r89_55 : zr 89 55 [v0] (.ref b1 :: st) u P = (xIs u b1 8 ∧ zr 89 58 [v0] (.int (xI u b1 3) :: st) u P) := zr_GI k89_55
theorem k89_58 : xcd 89 58 = oAl 0 59 := rfl
theorem r89_58 : zr 89 58 [.ref a0] st u P = zr 89 59 [.ref a0] (.ref a0 :: st) u P := zr_Al k89_58 rfl
theorem k89_59 : xcd 89 59 = oGI 8 2 62 := rfl
theorem r89_59 : zr 89 59 [v0] (.ref b1 :: st) u P = (xIs u b1 8 ∧ zr 89 62 [v0] (.int (xI u b1 2) :: st) u P) := zr_GI k89_59
theorem k89_62 : xcd 89 62 = oCmp (fun x y => decide (x < y)) 73 65 := rfl
theorem r89_62 : zr 89 62 [v0] (.int y1 :: .int y2 :: st) u P = (if y2 < y1 then zr 89 73 [v0] st u P else zr 89 65 [v0] st u P) := zr_Cmp k89_62
theorem k89_65 : xcd 89 65 = oAl 0 66 := rfl
theorem r89_65 : zr 89 65 [.ref a0] st u P = zr 89 66 [.ref a0] (.ref a0 :: st) u P := zr_Al k89_65 rfl
theorem k89_66 : xcd 89 66 = oI 0 67 := rfl
theorem r89_66 : zr 89 66 [v0] st u P = zr 89 67 [v0] (.int 0 :: st) u P := zr_I k89_66
theorem k89_67 : xcd 89 67 = oPI 8 5 70 := rfl
theorem r89_67 : zr 89 67 [v0] (.int y1 :: .ref b1 :: st) u P = (xIs u b1 8 ∧ zr 89 70 [v0] st (xsI u b1 5 y1) P) := zr_PI k89_67
theorem k89_70 : xcd 89 70 = oGoto 180 := rfl
theorem r89_70 : zr 89 70 [v0] st u P = zr 89 180 [v0] st u P := zr_Goto k89_70
theorem k89_73 : xcd 89 73 = oAl 0 74 := rfl
theorem r89_73 : zr 89 73 [.ref a0] st u P = zr 89 74 [.ref a0] (.ref a0 :: st) u P := zr_Al k89_73 rfl
theorem k89_74 : xcd 89 74 = oGR 8 0 77 := rfl
theorem r89_74 : zr 89 74 [v0] (.ref b1 :: st) u P = (xIs u b1 8 ∧ ∃ b, xR u b1 0 = some b ∧ zr 89 77 [v0] (.ref b :: st) u P) := zr_GR k89_74
theorem k89_77 : xcd 89 77 = oAl 0 78 := rfl
theorem r89_77 : zr 89 77 [.ref a0] st u P = zr 89 78 [.ref a0] (.ref a0 :: st) u P := zr_Al k89_77 rfl
theorem k89_78 : xcd 89 78 = oGI 8 3 81 := rfl
theorem r89_78 : zr 89 78 [v0] (.ref b1 :: st) u P = (xIs u b1 8 ∧ zr 89 81 [v0] (.int (xI u b1 3) :: st) u P) := zr_GI k89_78
theorem k89_81 : xcd 89 81 = oLd 12 82 := rfl
theorem r89_81 : zr 89 81 [v0] (.int y1 :: .ref b1 :: st) u P = ((xIs u b1 12 ∧ xinb y1 (xN u b1)) ∧ zr 89 82 [v0] (.int (xI u b1 (xix y1)) :: st) u P) := zr_Ld k89_81
theorem k89_82 : xcd 89 82 = oI 97 84 := rfl
theorem r89_82 : zr 89 82 [v0] st u P = zr 89 84 [v0] (.int 97 :: st) u P := zr_I k89_82
theorem k89_84 : xcd 89 84 = oCmp (fun x y => decide (x < y)) 108 87 := rfl
theorem r89_84 : zr 89 84 [v0] (.int y1 :: .int y2 :: st) u P = (if y2 < y1 then zr 89 108 [v0] st u P else zr 89 87 [v0] st u P) := zr_Cmp k89_84
theorem k89_87 : xcd 89 87 = oAl 0 88 := rfl
theorem r89_87 : zr 89 87 [.ref a0] st u P = zr 89 88 [.ref a0] (.ref a0 :: st) u P := zr_Al k89_87 rfl
theorem k89_88 : xcd 89 88 = oGR 8 0 91 := rfl
theorem r89_88 : zr 89 88 [v0] (.ref b1 :: st) u P = (xIs u b1 8 ∧ ∃ b, xR u b1 0 = some b ∧ zr 89 91 [v0] (.ref b :: st) u P) := zr_GR k89_88
theorem k89_91 : xcd 89 91 = oAl 0 92 := rfl
theorem r89_91 : zr 89 91 [.ref a0] st u P = zr 89 92 [.ref a0] (.ref a0 :: st) u P := zr_Al k89_91 rfl
theorem k89_92 : xcd 89 92 = oGI 8 3 95 := rfl
theorem r89_92 : zr 89 92 [v0] (.ref b1 :: st) u P = (xIs u b1 8 ∧ zr 89 95 [v0] (.int (xI u b1 3) :: st) u P) := zr_GI k89_92
theorem k89_95 : xcd 89 95 = oLd 12 96 := rfl
theorem r89_95 : zr 89 95 [v0] (.int y1 :: .ref b1 :: st) u P = ((xIs u b1 12 ∧ xinb y1 (xN u b1)) ∧ zr 89 96 [v0] (.int (xI u b1 (xix y1)) :: st) u P) := zr_Ld k89_95
theorem k89_96 : xcd 89 96 = oI 122 98 := rfl
theorem r89_96 : zr 89 96 [v0] st u P = zr 89 98 [v0] (.int 122 :: st) u P := zr_I k89_96
theorem k89_98 : xcd 89 98 = oCmp (fun x y => decide (y < x)) 108 101 := rfl
theorem r89_98 : zr 89 98 [v0] (.int y1 :: .int y2 :: st) u P = (if y1 < y2 then zr 89 108 [v0] st u P else zr 89 101 [v0] st u P) := zr_Cmp k89_98
theorem k89_101 : xcd 89 101 = oAl 0 102 := rfl
theorem r89_101 : zr 89 101 [.ref a0] st u P = zr 89 102 [.ref a0] (.ref a0 :: st) u P := zr_Al k89_101 rfl
theorem k89_102 : xcd 89 102 = oCalV 8 90 0 105 := rfl
theorem r89_102 : zr 89 102 [v0] (.ref b8 :: st) u P = ((xIs u b8 8 ∧ xcat st ≤ 8) ∧ zr 90 0 [.ref b8] [] u (fun r u2 => zr 89 105 [v0] (r.toList ++ st) u2 P)) := zr_CV k89_102 rfl rfl rfl ⟨Nat.le_of_ble_eq_true rfl, Nat.succ_ne_zero _, by decide⟩ rfl
theorem k89_105 : xcd 89 105 = oGoto 180 := rfl
theorem r89_105 : zr 89 105 [v0] st u P = zr 89 180 [v0] st u P := zr_Goto k89_105
theorem k89_108 : xcd 89 108 = oAl 0 109 := rfl
theorem r89_108 : zr 89 108 [.ref a0] st u P = zr 89 109 [.ref a0] (.ref a0 :: st) u P := zr_Al k89_108 rfl
theorem k89_109 : xcd 89 109 = oGR 8 0 112 := rfl
theorem r89_109 : zr 89 109 [v0] (.ref b1 :: st) u P = (xIs u b1 8 ∧ ∃ b, xR u b1 0 = some b ∧ zr 89 112 [v0] (.ref b :: st) u P) := zr_GR k89_109
theorem k89_112 : xcd 89 112 = oAl 0 113 := rfl
theorem r89_112 : zr 89 112 [.ref a0] st u P = zr 89 113 [.ref a0] (.ref a0 :: st) u P := zr_Al k89_112 rfl
theorem k89_113 : xcd 89 113 = oGI 8 3 116 := rfl
theorem r89_113 : zr 89 113 [v0] (.ref b1 :: st) u P = (xIs u b1 8 ∧ zr 89 116 [v0] (.int (xI u b1 3) :: st) u P) := zr_GI k89_113
theorem k89_116 : xcd 89 116 = oLd 12 117 := rfl
theorem r89_116 : zr 89 116 [v0] (.int y1 :: .ref b1 :: st) u P = ((xIs u b1 12 ∧ xinb y1 (xN u b1)) ∧ zr 89 117 [v0] (.int (xI u b1 (xix y1)) :: st) u P) := zr_Ld k89_116
theorem k89_117 : xcd 89 117 = oI 48 119 := rfl
theorem r89_117 : zr 89 117 [v0] st u P = zr 89 119 [v0] (.int 48 :: st) u P := zr_I k89_117
theorem k89_119 : xcd 89 119 = oCmp (fun x y => decide (x < y)) 143 122 := rfl
theorem r89_119 : zr 89 119 [v0] (.int y1 :: .int y2 :: st) u P = (if y2 < y1 then zr 89 143 [v0] st u P else zr 89 122 [v0] st u P) := zr_Cmp k89_119
theorem k89_122 : xcd 89 122 = oAl 0 123 := rfl
theorem r89_122 : zr 89 122 [.ref a0] st u P = zr 89 123 [.ref a0] (.ref a0 :: st) u P := zr_Al k89_122 rfl
theorem k89_123 : xcd 89 123 = oGR 8 0 126 := rfl
theorem r89_123 : zr 89 123 [v0] (.ref b1 :: st) u P = (xIs u b1 8 ∧ ∃ b, xR u b1 0 = some b ∧ zr 89 126 [v0] (.ref b :: st) u P) := zr_GR k89_123
theorem k89_126 : xcd 89 126 = oAl 0 127 := rfl
theorem r89_126 : zr 89 126 [.ref a0] st u P = zr 89 127 [.ref a0] (.ref a0 :: st) u P := zr_Al k89_126 rfl
theorem k89_127 : xcd 89 127 = oGI 8 3 130 := rfl
theorem r89_127 : zr 89 127 [v0] (.ref b1 :: st) u P = (xIs u b1 8 ∧ zr 89 130 [v0] (.int (xI u b1 3) :: st) u P) := zr_GI k89_127
theorem k89_130 : xcd 89 130 = oLd 12 131 := rfl
theorem r89_130 : zr 89 130 [v0] (.int y1 :: .ref b1 :: st) u P = ((xIs u b1 12 ∧ xinb y1 (xN u b1)) ∧ zr 89 131 [v0] (.int (xI u b1 (xix y1)) :: st) u P) := zr_Ld k89_130
theorem k89_131 : xcd 89 131 = oI 57 133 := rfl
theorem r89_131 : zr 89 131 [v0] st u P = zr 89 133 [v0] (.int 57 :: st) u P := zr_I k89_131
theorem k89_133 : xcd 89 133 = oCmp (fun x y => decide (y < x)) 143 136 := rfl
theorem r89_133 : zr 89 133 [v0] (.int y1 :: .int y2 :: st) u P = (if y1 < y2 then zr 89 143 [v0] st u P else zr 89 136 [v0] st u P) := zr_Cmp k89_133
theorem k89_136 : xcd 89 136 = oAl 0 137 := rfl
theorem r89_136 : zr 89 136 [.ref a0] st u P = zr 89 137 [.ref a0] (.ref a0 :: st) u P := zr_Al k89_136 rfl
theorem k89_137 : xcd 89 137 = oCalV 8 91 0 140 := rfl
theorem r89_137 : zr 89 137 [v0] (.ref b8 :: st) u P = ((xIs u b8 8 ∧ xcat st ≤ 8) ∧ zr 91 0 [.ref b8] [] u (fun r u2 => zr 89 140 [v0] (r.toList ++ st) u2 P)) := zr_CV k89_137 rfl rfl rfl ⟨Nat.le_of_ble_eq_true rfl, Nat.succ_ne_zero _, by decide⟩ rfl
theorem k89_140 : xcd 89 140 = oGoto 180 := rfl
theorem r89_140 : zr 89 140 [v0] st u P = zr 89 180 [v0] st u P := zr_Goto k89_140
theorem k89_143 : xcd 89 143 = oAl 0 144 := rfl
theorem r89_143 : zr 89 143 [.ref a0] st u P = zr 89 144 [.ref a0] (.ref a0 :: st) u P := zr_Al k89_143 rfl
theorem k89_144 : xcd 89 144 = oGR 8 0 147 := rfl
theorem r89_144 : zr 89 144 [v0] (.ref b1 :: st) u P = (xIs u b1 8 ∧ ∃ b, xR u b1 0 = some b ∧ zr 89 147 [v0] (.ref b :: st) u P) := zr_GR k89_144
theorem k89_147 : xcd 89 147 = oAl 0 148 := rfl
theorem r89_147 : zr 89 147 [.ref a0] st u P = zr 89 148 [.ref a0] (.ref a0 :: st) u P := zr_Al k89_147 rfl
theorem k89_148 : xcd 89 148 = oGI 8 3 151 := rfl
theorem r89_148 : zr 89 148 [v0] (.ref b1 :: st) u P = (xIs u b1 8 ∧ zr 89 151 [v0] (.int (xI u b1 3) :: st) u P) := zr_GI k89_148
theorem k89_151 : xcd 89 151 = oLd 12 152 := rfl
theorem r89_151 : zr 89 151 [v0] (.int y1 :: .ref b1 :: st) u P = ((xIs u b1 12 ∧ xinb y1 (xN u b1)) ∧ zr 89 152 [v0] (.int (xI u b1 (xix y1)) :: st) u P) := zr_Ld k89_151
theorem k89_152 : xcd 89 152 = oI 59 154 := rfl
theorem r89_152 : zr 89 152 [v0] st u P = zr 89 154 [v0] (.int 59 :: st) u P := zr_I k89_152
theorem k89_154 : xcd 89 154 = oCmp (fun x y => decide (¬ x = y)) 175 157 := rfl
theorem r89_154 : zr 89 154 [v0] (.int y1 :: .int y2 :: st) u P = (if ¬ y2 = y1 then zr 89 175 [v0] st u P else zr 89 157 [v0] st u P) := zr_Cmp k89_154
theorem k89_157 : xcd 89 157 = oAl 0 158 := rfl
theorem r89_157 : zr 89 157 [.ref a0] st u P = zr 89 158 [.ref a0] (.ref a0 :: st) u P := zr_Al k89_157 rfl
theorem k89_158 : xcd 89 158 = oI 3 159 := rfl
theorem r89_158 : zr 89 158 [v0] st u P = zr 89 159 [v0] (.int 3 :: st) u P := zr_I k89_158
theorem k89_159 : xcd 89 159 = oPI 8 5 162 := rfl
theorem r89_159 : zr 89 159 [v0] (.int y1 :: .ref b1 :: st) u P = (xIs u b1 8 ∧ zr 89 162 [v0] st (xsI u b1 5 y1) P) := zr_PI k89_159
theorem k89_162 : xcd 89 162 = oAl 0 163 := rfl
theorem r89_162 : zr 89 162 [.ref a0] st u P = zr 89 163 [.ref a0] (.ref a0 :: st) u P := zr_Al k89_162 rfl
theorem k89_163 : xcd 89 163 = oDup 164 := rfl
theorem r89_163 : zr 89 163 [v0] (.ref b1 :: st) u P = zr 89 164 [v0] (.ref b1 :: .ref b1 :: st) u P := zr_DupA k89_163
theorem k89_164 : xcd 89 164 = oGI 8 4 167 := rfl
theorem r89_164 : zr 89 164 [v0] (.ref b1 :: st) u P = (xIs u b1 8 ∧ zr 89 167 [v0] (.int (xI u b1 4) :: st) u P) := zr_GI k89_164
theorem k89_167 : xcd 89 167 = oI 1 168 := rfl
theorem r89_167 : zr 89 167 [v0] st u P = zr 89 168 [v0] (.int 1 :: st) u P := zr_I k89_167
theorem k89_168 : xcd 89 168 = oB (fun x y => x + y) 169 := rfl
theorem r89_168 : zr 89 168 [v0] (.int y1 :: .int y2 :: st) u P = zr 89 169 [v0] (.int (y2 + y1) :: st) u P := zr_B k89_168
theorem k89_169 : xcd 89 169 = oPI 8 4 172 := rfl
theorem r89_169 : zr 89 169 [v0] (.int y1 :: .ref b1 :: st) u P = (xIs u b1 8 ∧ zr 89 172 [v0] st (xsI u b1 4 y1) P) := zr_PI k89_169
theorem k89_172 : xcd 89 172 = oGoto 180 := rfl
theorem r89_172 : zr 89 172 [v0] st u P = zr 89 180 [v0] st u P := zr_Goto k89_172
theorem k89_175 : xcd 89 175 = oAl 0 176 := rfl
theorem r89_175 : zr 89 175 [.ref a0] st u P = zr 89 176 [.ref a0] (.ref a0 :: st) u P := zr_Al k89_175 rfl
theorem k89_176 : xcd 89 176 = oI 4 177 := rfl
theorem r89_176 : zr 89 176 [v0] st u P = zr 89 177 [v0] (.int 4 :: st) u P := zr_I k89_176
theorem k89_177 : xcd 89 177 = oPI 8 5 180 := rfl
theorem r89_177 : zr 89 177 [v0] (.int y1 :: .ref b1 :: st) u P = (xIs u b1 8 ∧ zr 89 180 [v0] st (xsI u b1 5 y1) P) := zr_PI k89_177
theorem k89_180 : xcd 89 180 = oRv 0 := rfl
theorem r89_180 : zr 89 180 [v0] [] u P = P none u := zr_Rv k89_180
theorem k90_0 : xcd 90 0 = oAl 0 1 := rfl
theorem r90_0 : zr 90 0 [.ref a0] st u P = zr 90 1 [.ref a0] (.ref a0 :: st) u P := zr_Al k90_0 rfl
theorem k90_1 : xcd 90 1 = oJ 0 2 := rfl
theorem r90_1 : zr 90 1 [v0] st u P = zr 90 2 [v0] (.long 0 :: st) u P := zr_J k90_1
theorem k90_2 : xcd 90 2 = oPJ 8 6 5 := rfl
theorem r90_2 : zr 90 2 [v0] (.long w1 :: .ref b1 :: st) u P = (xIs u b1 8 ∧ zr 90 5 [v0] st (xsJ u b1 6 w1) P) := zr_PJ k90_2
theorem k90_5 : xcd 90 5 = oAl 0 6 := rfl
theorem r90_5 : zr 90 5 [.ref a0] st u P = zr 90 6 [.ref a0] (.ref a0 :: st) u P := zr_Al k90_5 rfl
theorem k90_6 : xcd 90 6 = oGI 8 4 9 := rfl
theorem r90_6 : zr 90 6 [v0] (.ref b1 :: st) u P = (xIs u b1 8 ∧ zr 90 9 [v0] (.int (xI u b1 4) :: st) u P) := zr_GI k90_6
theorem k90_9 : xcd 90 9 = oAl 0 10 := rfl
theorem r90_9 : zr 90 9 [.ref a0] st u P = zr 90 10 [.ref a0] (.ref a0 :: st) u P := zr_Al k90_9 rfl
theorem k90_10 : xcd 90 10 = oGI 8 2 13 := rfl
theorem r90_10 : zr 90 10 [v0] (.ref b1 :: st) u P = (xIs u b1 8 ∧ zr 90 13 [v0] (.int (xI u b1 2) :: st) u P) := zr_GI k90_10
theorem k90_13 : xcd 90 13 = oCmp (fun x y => decide (y ≤ x)) 85 16 := rfl
theorem r90_13 : zr 90 13 [v0] (.int y1 :: .int y2 :: st) u P = (if y1 ≤ y2 then zr 90 85 [v0] st u P else zr 90 16 [v0] st u P) := zr_Cmp k90_13
theorem k90_16 : xcd 90 16 = oAl 0 17 := rfl
theorem r90_16 : zr 90 16 [.ref a0] st u P = zr 90 17 [.ref a0] (.ref a0 :: st) u P := zr_Al k90_16 rfl
theorem k90_17 : xcd 90 17 = oGR 8 0 20 := rfl
theorem r90_17 : zr 90 17 [v0] (.ref b1 :: st) u P = (xIs u b1 8 ∧ ∃ b, xR u b1 0 = some b ∧ zr 90 20 [v0] (.ref b :: st) u P) := zr_GR k90_17
theorem k90_20 : xcd 90 20 = oAl 0 21 := rfl
theorem r90_20 : zr 90 20 [.ref a0] st u P = zr 90 21 [.ref a0] (.ref a0 :: st) u P := zr_Al k90_20 rfl
theorem k90_21 : xcd 90 21 = oGI 8 4 24 := rfl
theorem r90_21 : zr 90 21 [v0] (.ref b1 :: st) u P = (xIs u b1 8 ∧ zr 90 24 [v0] (.int (xI u b1 4) :: st) u P) := zr_GI k90_21
theorem k90_24 : xcd 90 24 = oLd 12 25 := rfl
theorem r90_24 : zr 90 24 [v0] (.int y1 :: .ref b1 :: st) u P = ((xIs u b1 12 ∧ xinb y1 (xN u b1)) ∧ zr 90 25 [v0] (.int (xI u b1 (xix y1)) :: st) u P) := zr_Ld k90_24
theorem k90_25 : xcd 90 25 = oI 97 27 := rfl
theorem r90_25 : zr 90 25 [v0] st u P = zr 90 27 [v0] (.int 97 :: st) u P := zr_I k90_25
theorem k90_27 : xcd 90 27 = oCmp (fun x y => decide (x < y)) 85 30 := rfl
theorem r90_27 : zr 90 27 [v0] (.int y1 :: .int y2 :: st) u P = (if y2 < y1 then zr 90 85 [v0] st u P else zr 90 30 [v0] st u P) := zr_Cmp k90_27
theorem k90_30 : xcd 90 30 = oAl 0 31 := rfl
theorem r90_30 : zr 90 30 [.ref a0] st u P = zr 90 31 [.ref a0] (.ref a0 :: st) u P := zr_Al k90_30 rfl
theorem k90_31 : xcd 90 31 = oGR 8 0 34 := rfl
theorem r90_31 : zr 90 31 [v0] (.ref b1 :: st) u P = (xIs u b1 8 ∧ ∃ b, xR u b1 0 = some b ∧ zr 90 34 [v0] (.ref b :: st) u P) := zr_GR k90_31
theorem k90_34 : xcd 90 34 = oAl 0 35 := rfl
theorem r90_34 : zr 90 34 [.ref a0] st u P = zr 90 35 [.ref a0] (.ref a0 :: st) u P := zr_Al k90_34 rfl
theorem k90_35 : xcd 90 35 = oGI 8 4 38 := rfl
theorem r90_35 : zr 90 35 [v0] (.ref b1 :: st) u P = (xIs u b1 8 ∧ zr 90 38 [v0] (.int (xI u b1 4) :: st) u P) := zr_GI k90_35
theorem k90_38 : xcd 90 38 = oLd 12 39 := rfl
theorem r90_38 : zr 90 38 [v0] (.int y1 :: .ref b1 :: st) u P = ((xIs u b1 12 ∧ xinb y1 (xN u b1)) ∧ zr 90 39 [v0] (.int (xI u b1 (xix y1)) :: st) u P) := zr_Ld k90_38
theorem k90_39 : xcd 90 39 = oI 122 41 := rfl
theorem r90_39 : zr 90 39 [v0] st u P = zr 90 41 [v0] (.int 122 :: st) u P := zr_I k90_39
theorem k90_41 : xcd 90 41 = oCmp (fun x y => decide (y < x)) 85 44 := rfl
theorem r90_41 : zr 90 41 [v0] (.int y1 :: .int y2 :: st) u P = (if y1 < y2 then zr 90 85 [v0] st u P else zr 90 44 [v0] st u P) := zr_Cmp k90_41
theorem k90_44 : xcd 90 44 = oAl 0 45 := rfl
theorem r90_44 : zr 90 44 [.ref a0] st u P = zr 90 45 [.ref a0] (.ref a0 :: st) u P := zr_Al k90_44 rfl
theorem k90_45 : xcd 90 45 = oAl 0 46 := rfl
theorem r90_45 : zr 90 45 [.ref a0] st u P = zr 90 46 [.ref a0] (.ref a0 :: st) u P := zr_Al k90_45 rfl
theorem k90_46 : xcd 90 46 = oGJ 8 6 49 := rfl
theorem r90_46 : zr 90 46 [v0] (.ref b1 :: st) u P = (xIs u b1 8 ∧ zr 90 49 [v0] (.long (xJ u b1 6) :: st) u P) := zr_GJ k90_46
theorem k90_49 : xcd 90 49 = oJ 32 52 := rfl
theorem r90_49 : zr 90 49 [v0] st u P = zr 90 52 [v0] (.long 32 :: st) u P := zr_J k90_49
theorem k90_52 : xcd 90 52 = oLB (fun x y => x * y) 53 := rfl
theorem r90_52 : zr 90 52 [v0] (.long w1 :: .long w2 :: st) u P = zr 90 53 [v0] (.long (w2 * w1) :: st) u P := zr_LB k90_52
theorem k90_53 : xcd 90 53 = oAl 0 54 := rfl
theorem r90_53 : zr 90 53 [.ref a0] st u P = zr 90 54 [.ref a0] (.ref a0 :: st) u P := zr_Al k90_53 rfl
theorem k90_54 : xcd 90 54 = oGR 8 0 57 := rfl
theorem r90_54 : zr 90 54 [v0] (.ref b1 :: st) u P = (xIs u b1 8 ∧ ∃ b, xR u b1 0 = some b ∧ zr 90 57 [v0] (.ref b :: st) u P) := zr_GR k90_54
theorem k90_57 : xcd 90 57 = oAl 0 58 := rfl
theorem r90_57 : zr 90 57 [.ref a0] st u P = zr 90 58 [.ref a0] (.ref a0 :: st) u P := zr_Al k90_57 rfl
theorem k90_58 : xcd 90 58 = oGI 8 4 61 := rfl
theorem r90_58 : zr 90 58 [v0] (.ref b1 :: st) u P = (xIs u b1 8 ∧ zr 90 61 [v0] (.int (xI u b1 4) :: st) u P) := zr_GI k90_58
theorem k90_61 : xcd 90 61 = oLd 12 62 := rfl
theorem r90_61 : zr 90 61 [v0] (.int y1 :: .ref b1 :: st) u P = ((xIs u b1 12 ∧ xinb y1 (xN u b1)) ∧ zr 90 62 [v0] (.int (xI u b1 (xix y1)) :: st) u P) := zr_Ld k90_61
theorem k90_62 : xcd 90 62 = oI 97 64 := rfl
theorem r90_62 : zr 90 62 [v0] st u P = zr 90 64 [v0] (.int 97 :: st) u P := zr_I k90_62
theorem k90_64 : xcd 90 64 = oB (fun x y => x - y) 65 := rfl
theorem r90_64 : zr 90 64 [v0] (.int y1 :: .int y2 :: st) u P = zr 90 65 [v0] (.int (y2 - y1) :: st) u P := zr_B k90_64
theorem k90_65 : xcd 90 65 = oI 1 66 := rfl
theorem r90_65 : zr 90 65 [v0] st u P = zr 90 66 [v0] (.int 1 :: st) u P := zr_I k90_65
theorem k90_66 : xcd 90 66 = oB (fun x y => x + y) 67 := rfl
theorem r90_66 : zr 90 66 [v0] (.int y1 :: .int y2 :: st) u P = zr 90 67 [v0] (.int (y2 + y1) :: st) u P := zr_B k90_66
theorem k90_67 : xcd 90 67 = oI2l 68 := rfl
theorem r90_67 : zr 90 67 [v0] (.int y1 :: st) u P = zr 90 68 [v0] (.long y1.toInt64 :: st) u P := zr_I2l k90_67
theorem k90_68 : xcd 90 68 = oLB (fun x y => x + y) 69 := rfl
theorem r90_68 : zr 90 68 [v0] (.long w1 :: .long w2 :: st) u P = zr 90 69 [v0] (.long (w2 + w1) :: st) u P := zr_LB k90_68
theorem k90_69 : xcd 90 69 = oPJ 8 6 72 := rfl
theorem r90_69 : zr 90 69 [v0] (.long w1 :: .ref b1 :: st) u P = (xIs u b1 8 ∧ zr 90 72 [v0] st (xsJ u b1 6 w1) P) := zr_PJ k90_69
theorem k90_72 : xcd 90 72 = oAl 0 73 := rfl
theorem r90_72 : zr 90 72 [.ref a0] st u P = zr 90 73 [.ref a0] (.ref a0 :: st) u P := zr_Al k90_72 rfl
theorem k90_73 : xcd 90 73 = oDup 74 := rfl
theorem r90_73 : zr 90 73 [v0] (.ref b1 :: st) u P = zr 90 74 [v0] (.ref b1 :: .ref b1 :: st) u P := zr_DupA k90_73
theorem k90_74 : xcd 90 74 = oGI 8 4 77 := rfl
theorem r90_74 : zr 90 74 [v0] (.ref b1 :: st) u P = (xIs u b1 8 ∧ zr 90 77 [v0] (.int (xI u b1 4) :: st) u P) := zr_GI k90_74
theorem k90_77 : xcd 90 77 = oI 1 78 := rfl
theorem r90_77 : zr 90 77 [v0] st u P = zr 90 78 [v0] (.int 1 :: st) u P := zr_I k90_77
theorem k90_78 : xcd 90 78 = oB (fun x y => x + y) 79 := rfl
theorem r90_78 : zr 90 78 [v0] (.int y1 :: .int y2 :: st) u P = zr 90 79 [v0] (.int (y2 + y1) :: st) u P := zr_B k90_78
theorem k90_79 : xcd 90 79 = oPI 8 4 82 := rfl
theorem r90_79 : zr 90 79 [v0] (.int y1 :: .ref b1 :: st) u P = (xIs u b1 8 ∧ zr 90 82 [v0] st (xsI u b1 4 y1) P) := zr_PI k90_79
theorem k90_82 : xcd 90 82 = oGoto 5 := rfl
theorem r90_82 : zr 90 82 [v0] st u P = zr 90 5 [v0] st u P := zr_Goto k90_82
theorem k90_85 : xcd 90 85 = oAl 0 86 := rfl
theorem r90_85 : zr 90 85 [.ref a0] st u P = zr 90 86 [.ref a0] (.ref a0 :: st) u P := zr_Al k90_85 rfl
theorem k90_86 : xcd 90 86 = oAl 0 87 := rfl
theorem r90_86 : zr 90 86 [.ref a0] st u P = zr 90 87 [.ref a0] (.ref a0 :: st) u P := zr_Al k90_86 rfl
theorem k90_87 : xcd 90 87 = oGI 8 4 90 := rfl
theorem r90_87 : zr 90 87 [v0] (.ref b1 :: st) u P = (xIs u b1 8 ∧ zr 90 90 [v0] (.int (xI u b1 4) :: st) u P) := zr_GI k90_87
theorem k90_90 : xcd 90 90 = oAl 0 91 := rfl
theorem r90_90 : zr 90 90 [.ref a0] st u P = zr 90 91 [.ref a0] (.ref a0 :: st) u P := zr_Al k90_90 rfl
theorem k90_91 : xcd 90 91 = oGI 8 3 94 := rfl
theorem r90_91 : zr 90 91 [v0] (.ref b1 :: st) u P = (xIs u b1 8 ∧ zr 90 94 [v0] (.int (xI u b1 3) :: st) u P) := zr_GI k90_91
theorem k90_94 : xcd 90 94 = oB (fun x y => x - y) 95 := rfl
theorem r90_94 : zr 90 94 [v0] (.int y1 :: .int y2 :: st) u P = zr 90 95 [v0] (.int (y2 - y1) :: st) u P := zr_B k90_94
theorem k90_95 : xcd 90 95 = oI 7 97 := rfl
theorem r90_95 : zr 90 95 [v0] st u P = zr 90 97 [v0] (.int 7 :: st) u P := zr_I k90_95
theorem k90_97 : xcd 90 97 = oCmp (fun x y => decide (y < x)) 104 100 := rfl
theorem r90_97 : zr 90 97 [v0] (.int y1 :: .int y2 :: st) u P = (if y1 < y2 then zr 90 104 [v0] st u P else zr 90 100 [v0] st u P) := zr_Cmp k90_97
theorem k90_100 : xcd 90 100 = oI 1 101 := rfl
theorem r90_100 : zr 90 100 [v0] st u P = zr 90 101 [v0] (.int 1 :: st) u P := zr_I k90_100
theorem k90_101 : xcd 90 101 = oGoto 105 := rfl
theorem r90_101 : zr 90 101 [v0] st u P = zr 90 105 [v0] st u P := zr_Goto k90_101
theorem k90_104 : xcd 90 104 = oI 4 105 := rfl
theorem r90_104 : zr 90 104 [v0] st u P = zr 90 105 [v0] (.int 4 :: st) u P := zr_I k90_104
theorem k90_105 : xcd 90 105 = oPI 8 5 108 := rfl
theorem r90_105 : zr 90 105 [v0] (.int y1 :: .ref b1 :: st) u P = (xIs u b1 8 ∧ zr 90 108 [v0] st (xsI u b1 5 y1) P) := zr_PI k90_105
theorem k90_108 : xcd 90 108 = oRv 0 := rfl
theorem r90_108 : zr 90 108 [v0] [] u P = P none u := zr_Rv k90_108
theorem k91_0 : xcd 91 0 = oAl 0 1 := rfl
theorem r91_0 : zr 91 0 [.ref a0] st u P = zr 91 1 [.ref a0] (.ref a0 :: st) u P := zr_Al k91_0 rfl
theorem k91_1 : xcd 91 1 = oI 0 2 := rfl
theorem r91_1 : zr 91 1 [v0] st u P = zr 91 2 [v0] (.int 0 :: st) u P := zr_I k91_1
theorem k91_2 : xcd 91 2 = oPI 8 7 5 := rfl
theorem r91_2 : zr 91 2 [v0] (.int y1 :: .ref b1 :: st) u P = (xIs u b1 8 ∧ zr 91 5 [v0] st (xsI u b1 7 y1) P) := zr_PI k91_2
theorem k91_5 : xcd 91 5 = oAl 0 6 := rfl
theorem r91_5 : zr 91 5 [.ref a0] st u P = zr 91 6 [.ref a0] (.ref a0 :: st) u P := zr_Al k91_5 rfl
theorem k91_6 : xcd 91 6 = oGI 8 4 9 := rfl
theorem r91_6 : zr 91 6 [v0] (.ref b1 :: st) u P = (xIs u b1 8 ∧ zr 91 9 [v0] (.int (xI u b1 4) :: st) u P) := zr_GI k91_6
theorem k91_9 : xcd 91 9 = oAl 0 10 := rfl
theorem r91_9 : zr 91 9 [.ref a0] st u P = zr 91 10 [.ref a0] (.ref a0 :: st) u P := zr_Al k91_9 rfl
theorem k91_10 : xcd 91 10 = oGI 8 2 13 := rfl
theorem r91_10 : zr 91 10 [v0] (.ref b1 :: st) u P = (xIs u b1 8 ∧ zr 91 13 [v0] (.int (xI u b1 2) :: st) u P) := zr_GI k91_10
theorem k91_13 : xcd 91 13 = oCmp (fun x y => decide (y ≤ x)) 81 16 := rfl
theorem r91_13 : zr 91 13 [v0] (.int y1 :: .int y2 :: st) u P = (if y1 ≤ y2 then zr 91 81 [v0] st u P else zr 91 16 [v0] st u P) := zr_Cmp k91_13
theorem k91_16 : xcd 91 16 = oAl 0 17 := rfl
theorem r91_16 : zr 91 16 [.ref a0] st u P = zr 91 17 [.ref a0] (.ref a0 :: st) u P := zr_Al k91_16 rfl
theorem k91_17 : xcd 91 17 = oGR 8 0 20 := rfl
theorem r91_17 : zr 91 17 [v0] (.ref b1 :: st) u P = (xIs u b1 8 ∧ ∃ b, xR u b1 0 = some b ∧ zr 91 20 [v0] (.ref b :: st) u P) := zr_GR k91_17
theorem k91_20 : xcd 91 20 = oAl 0 21 := rfl
theorem r91_20 : zr 91 20 [.ref a0] st u P = zr 91 21 [.ref a0] (.ref a0 :: st) u P := zr_Al k91_20 rfl
theorem k91_21 : xcd 91 21 = oGI 8 4 24 := rfl
theorem r91_21 : zr 91 21 [v0] (.ref b1 :: st) u P = (xIs u b1 8 ∧ zr 91 24 [v0] (.int (xI u b1 4) :: st) u P) := zr_GI k91_21
theorem k91_24 : xcd 91 24 = oLd 12 25 := rfl
theorem r91_24 : zr 91 24 [v0] (.int y1 :: .ref b1 :: st) u P = ((xIs u b1 12 ∧ xinb y1 (xN u b1)) ∧ zr 91 25 [v0] (.int (xI u b1 (xix y1)) :: st) u P) := zr_Ld k91_24
theorem k91_25 : xcd 91 25 = oI 48 27 := rfl
theorem r91_25 : zr 91 25 [v0] st u P = zr 91 27 [v0] (.int 48 :: st) u P := zr_I k91_25
theorem k91_27 : xcd 91 27 = oCmp (fun x y => decide (x < y)) 81 30 := rfl
theorem r91_27 : zr 91 27 [v0] (.int y1 :: .int y2 :: st) u P = (if y2 < y1 then zr 91 81 [v0] st u P else zr 91 30 [v0] st u P) := zr_Cmp k91_27
theorem k91_30 : xcd 91 30 = oAl 0 31 := rfl
theorem r91_30 : zr 91 30 [.ref a0] st u P = zr 91 31 [.ref a0] (.ref a0 :: st) u P := zr_Al k91_30 rfl
theorem k91_31 : xcd 91 31 = oGR 8 0 34 := rfl
theorem r91_31 : zr 91 31 [v0] (.ref b1 :: st) u P = (xIs u b1 8 ∧ ∃ b, xR u b1 0 = some b ∧ zr 91 34 [v0] (.ref b :: st) u P) := zr_GR k91_31
theorem k91_34 : xcd 91 34 = oAl 0 35 := rfl
theorem r91_34 : zr 91 34 [.ref a0] st u P = zr 91 35 [.ref a0] (.ref a0 :: st) u P := zr_Al k91_34 rfl
theorem k91_35 : xcd 91 35 = oGI 8 4 38 := rfl
theorem r91_35 : zr 91 35 [v0] (.ref b1 :: st) u P = (xIs u b1 8 ∧ zr 91 38 [v0] (.int (xI u b1 4) :: st) u P) := zr_GI k91_35
theorem k91_38 : xcd 91 38 = oLd 12 39 := rfl
theorem r91_38 : zr 91 38 [v0] (.int y1 :: .ref b1 :: st) u P = ((xIs u b1 12 ∧ xinb y1 (xN u b1)) ∧ zr 91 39 [v0] (.int (xI u b1 (xix y1)) :: st) u P) := zr_Ld k91_38
theorem k91_39 : xcd 91 39 = oI 57 41 := rfl
theorem r91_39 : zr 91 39 [v0] st u P = zr 91 41 [v0] (.int 57 :: st) u P := zr_I k91_39
theorem k91_41 : xcd 91 41 = oCmp (fun x y => decide (y < x)) 81 44 := rfl
theorem r91_41 : zr 91 41 [v0] (.int y1 :: .int y2 :: st) u P = (if y1 < y2 then zr 91 81 [v0] st u P else zr 91 44 [v0] st u P) := zr_Cmp k91_41
theorem k91_44 : xcd 91 44 = oAl 0 45 := rfl
theorem r91_44 : zr 91 44 [.ref a0] st u P = zr 91 45 [.ref a0] (.ref a0 :: st) u P := zr_Al k91_44 rfl
theorem k91_45 : xcd 91 45 = oAl 0 46 := rfl
theorem r91_45 : zr 91 45 [.ref a0] st u P = zr 91 46 [.ref a0] (.ref a0 :: st) u P := zr_Al k91_45 rfl
theorem k91_46 : xcd 91 46 = oGI 8 7 49 := rfl
theorem r91_46 : zr 91 46 [v0] (.ref b1 :: st) u P = (xIs u b1 8 ∧ zr 91 49 [v0] (.int (xI u b1 7) :: st) u P) := zr_GI k91_46
theorem k91_49 : xcd 91 49 = oI 10 51 := rfl
theorem r91_49 : zr 91 49 [v0] st u P = zr 91 51 [v0] (.int 10 :: st) u P := zr_I k91_49
theorem k91_51 : xcd 91 51 = oB (fun x y => x * y) 52 := rfl
theorem r91_51 : zr 91 51 [v0] (.int y1 :: .int y2 :: st) u P = zr 91 52 [v0] (.int (y2 * y1) :: st) u P := zr_B k91_51
theorem k91_52 : xcd 91 52 = oAl 0 53 := rfl
theorem r91_52 : zr 91 52 [.ref a0] st u P = zr 91 53 [.ref a0] (.ref a0 :: st) u P := zr_Al k91_52 rfl
theorem k91_53 : xcd 91 53 = oGR 8 0 56 := rfl
theorem r91_53 : zr 91 53 [v0] (.ref b1 :: st) u P = (xIs u b1 8 ∧ ∃ b, xR u b1 0 = some b ∧ zr 91 56 [v0] (.ref b :: st) u P) := zr_GR k91_53
theorem k91_56 : xcd 91 56 = oAl 0 57 := rfl
theorem r91_56 : zr 91 56 [.ref a0] st u P = zr 91 57 [.ref a0] (.ref a0 :: st) u P := zr_Al k91_56 rfl
theorem k91_57 : xcd 91 57 = oGI 8 4 60 := rfl
theorem r91_57 : zr 91 57 [v0] (.ref b1 :: st) u P = (xIs u b1 8 ∧ zr 91 60 [v0] (.int (xI u b1 4) :: st) u P) := zr_GI k91_57
theorem k91_60 : xcd 91 60 = oLd 12 61 := rfl
theorem r91_60 : zr 91 60 [v0] (.int y1 :: .ref b1 :: st) u P = ((xIs u b1 12 ∧ xinb y1 (xN u b1)) ∧ zr 91 61 [v0] (.int (xI u b1 (xix y1)) :: st) u P) := zr_Ld k91_60
theorem k91_61 : xcd 91 61 = oI 48 63 := rfl
theorem r91_61 : zr 91 61 [v0] st u P = zr 91 63 [v0] (.int 48 :: st) u P := zr_I k91_61
theorem k91_63 : xcd 91 63 = oB (fun x y => x - y) 64 := rfl
theorem r91_63 : zr 91 63 [v0] (.int y1 :: .int y2 :: st) u P = zr 91 64 [v0] (.int (y2 - y1) :: st) u P := zr_B k91_63
theorem k91_64 : xcd 91 64 = oB (fun x y => x + y) 65 := rfl
theorem r91_64 : zr 91 64 [v0] (.int y1 :: .int y2 :: st) u P = zr 91 65 [v0] (.int (y2 + y1) :: st) u P := zr_B k91_64
theorem k91_65 : xcd 91 65 = oPI 8 7 68 := rfl
theorem r91_65 : zr 91 65 [v0] (.int y1 :: .ref b1 :: st) u P = (xIs u b1 8 ∧ zr 91 68 [v0] st (xsI u b1 7 y1) P) := zr_PI k91_65
theorem k91_68 : xcd 91 68 = oAl 0 69 := rfl
theorem r91_68 : zr 91 68 [.ref a0] st u P = zr 91 69 [.ref a0] (.ref a0 :: st) u P := zr_Al k91_68 rfl
theorem k91_69 : xcd 91 69 = oDup 70 := rfl
theorem r91_69 : zr 91 69 [v0] (.ref b1 :: st) u P = zr 91 70 [v0] (.ref b1 :: .ref b1 :: st) u P := zr_DupA k91_69
theorem k91_70 : xcd 91 70 = oGI 8 4 73 := rfl
theorem r91_70 : zr 91 70 [v0] (.ref b1 :: st) u P = (xIs u b1 8 ∧ zr 91 73 [v0] (.int (xI u b1 4) :: st) u P) := zr_GI k91_70
theorem k91_73 : xcd 91 73 = oI 1 74 := rfl
theorem r91_73 : zr 91 73 [v0] st u P = zr 91 74 [v0] (.int 1 :: st) u P := zr_I k91_73
theorem k91_74 : xcd 91 74 = oB (fun x y => x + y) 75 := rfl
theorem r91_74 : zr 91 74 [v0] (.int y1 :: .int y2 :: st) u P = zr 91 75 [v0] (.int (y2 + y1) :: st) u P := zr_B k91_74
theorem k91_75 : xcd 91 75 = oPI 8 4 78 := rfl
theorem r91_75 : zr 91 75 [v0] (.int y1 :: .ref b1 :: st) u P = (xIs u b1 8 ∧ zr 91 78 [v0] st (xsI u b1 4 y1) P) := zr_PI k91_75
theorem k91_78 : xcd 91 78 = oGoto 5 := rfl
theorem r91_78 : zr 91 78 [v0] st u P = zr 91 5 [v0] st u P := zr_Goto k91_78
theorem k91_81 : xcd 91 81 = oAl 0 82 := rfl
theorem r91_81 : zr 91 81 [.ref a0] st u P = zr 91 82 [.ref a0] (.ref a0 :: st) u P := zr_Al k91_81 rfl
theorem k91_82 : xcd 91 82 = oAl 0 83 := rfl
theorem r91_82 : zr 91 82 [.ref a0] st u P = zr 91 83 [.ref a0] (.ref a0 :: st) u P := zr_Al k91_82 rfl
theorem k91_83 : xcd 91 83 = oGI 8 4 86 := rfl
theorem r91_83 : zr 91 83 [v0] (.ref b1 :: st) u P = (xIs u b1 8 ∧ zr 91 86 [v0] (.int (xI u b1 4) :: st) u P) := zr_GI k91_83
theorem k91_86 : xcd 91 86 = oAl 0 87 := rfl
theorem r91_86 : zr 91 86 [.ref a0] st u P = zr 91 87 [.ref a0] (.ref a0 :: st) u P := zr_Al k91_86 rfl
theorem k91_87 : xcd 91 87 = oGI 8 3 90 := rfl
theorem r91_87 : zr 91 87 [v0] (.ref b1 :: st) u P = (xIs u b1 8 ∧ zr 91 90 [v0] (.int (xI u b1 3) :: st) u P) := zr_GI k91_87
theorem k91_90 : xcd 91 90 = oB (fun x y => x - y) 91 := rfl
theorem r91_90 : zr 91 90 [v0] (.int y1 :: .int y2 :: st) u P = zr 91 91 [v0] (.int (y2 - y1) :: st) u P := zr_B k91_90
theorem k91_91 : xcd 91 91 = oI 4 92 := rfl
theorem r91_91 : zr 91 91 [v0] st u P = zr 91 92 [v0] (.int 4 :: st) u P := zr_I k91_91
theorem k91_92 : xcd 91 92 = oCmp (fun x y => decide (y < x)) 99 95 := rfl
theorem r91_92 : zr 91 92 [v0] (.int y1 :: .int y2 :: st) u P = (if y1 < y2 then zr 91 99 [v0] st u P else zr 91 95 [v0] st u P) := zr_Cmp k91_92
theorem k91_95 : xcd 91 95 = oI 2 96 := rfl
theorem r91_95 : zr 91 95 [v0] st u P = zr 91 96 [v0] (.int 2 :: st) u P := zr_I k91_95
theorem k91_96 : xcd 91 96 = oGoto 100 := rfl
theorem r91_96 : zr 91 96 [v0] st u P = zr 91 100 [v0] st u P := zr_Goto k91_96
theorem k91_99 : xcd 91 99 = oI 4 100 := rfl
theorem r91_99 : zr 91 99 [v0] st u P = zr 91 100 [v0] (.int 4 :: st) u P := zr_I k91_99
theorem k91_100 : xcd 91 100 = oPI 8 5 103 := rfl
theorem r91_100 : zr 91 100 [v0] (.int y1 :: .ref b1 :: st) u P = (xIs u b1 8 ∧ zr 91 103 [v0] st (xsI u b1 5 y1) P) := zr_PI k91_100
theorem k91_103 : xcd 91 103 = oRv 0 := rfl
theorem r91_103 : zr 91 103 [v0] [] u P = P none u := zr_Rv k91_103
theorem k92_0 : xcd 92 0 = oAl 0 1 := rfl
theorem r92_0 : zr 92 0 [.ref a0, v1, v2] st u P = zr 92 1 [.ref a0, v1, v2] (.ref a0 :: st) u P := zr_Al k92_0 rfl
theorem k92_1 : xcd 92 1 = oGI 8 5 4 := rfl
theorem r92_1 : zr 92 1 [v0, v1, v2] (.ref b1 :: st) u P = (xIs u b1 8 ∧ zr 92 4 [v0, v1, v2] (.int (xI u b1 5) :: st) u P) := zr_GI k92_1
theorem k92_4 : xcd 92 4 = oI 1 5 := rfl
theorem r92_4 : zr 92 4 [v0, v1, v2] st u P = zr 92 5 [v0, v1, v2] (.int 1 :: st) u P := zr_I k92_4
theorem k92_5 : xcd 92 5 = oCmp (fun x y => decide (¬ x = y)) 24 8 := rfl
theorem r92_5 : zr 92 5 [v0, v1, v2] (.int y1 :: .int y2 :: st) u P = (if ¬ y2 = y1 then zr 92 24 [v0, v1, v2] st u P else zr 92 8 [v0, v1, v2] st u P) := zr_Cmp k92_5
theorem k92_8 : xcd 92 8 = oAl 0 9 := rfl
theorem r92_8 : zr 92 8 [.ref a0, v1, v2] st u P = zr 92 9 [.ref a0, v1, v2] (.ref a0 :: st) u P := zr_Al k92_8 rfl
theorem k92_9 : xcd 92 9 = oGI 8 4 12 := rfl
theorem r92_9 : zr 92 9 [v0, v1, v2] (.ref b1 :: st) u P = (xIs u b1 8 ∧ zr 92 12 [v0, v1, v2] (.int (xI u b1 4) :: st) u P) := zr_GI k92_9
theorem k92_12 : xcd 92 12 = oAl 0 13 := rfl
theorem r92_12 : zr 92 12 [.ref a0, v1, v2] st u P = zr 92 13 [.ref a0, v1, v2] (.ref a0 :: st) u P := zr_Al k92_12 rfl
theorem k92_13 : xcd 92 13 = oGI 8 3 16 := rfl
theorem r92_13 : zr 92 13 [v0, v1, v2] (.ref b1 :: st) u P = (xIs u b1 8 ∧ zr 92 16 [v0, v1, v2] (.int (xI u b1 3) :: st) u P) := zr_GI k92_13
theorem k92_16 : xcd 92 16 = oB (fun x y => x - y) 17 := rfl
theorem r92_16 : zr 92 16 [v0, v1, v2] (.int y1 :: .int y2 :: st) u P = zr 92 17 [v0, v1, v2] (.int (y2 - y1) :: st) u P := zr_B k92_16
theorem k92_17 : xcd 92 17 = oAl 1 18 := rfl
theorem r92_17 : zr 92 17 [v0, .ref a1, v2] st u P = zr 92 18 [v0, .ref a1, v2] (.ref a1 :: st) u P := zr_Al k92_17 rfl
theorem k92_18 : xcd 92 18 = oTl 21 := rfl
theorem r92_18 : zr 92 18 [v0, v1, v2] (.ref b1 :: st) u P = (((1000000 ≤ b1 ∧ b1 < 1000000 + xtexts.length) ∧ xcat st ≤ 6) ∧ zr 92 21 [v0, v1, v2] (.int (nI (xtxt (b1 - 1000000)).length) :: st) u P) := zr_Tl k92_18
theorem k92_21 : xcd 92 21 = oCmp (fun x y => decide (x = y)) 26 24 := rfl
theorem r92_21 : zr 92 21 [v0, v1, v2] (.int y1 :: .int y2 :: st) u P = (if y2 = y1 then zr 92 26 [v0, v1, v2] st u P else zr 92 24 [v0, v1, v2] st u P) := zr_Cmp k92_21
theorem k92_24 : xcd 92 24 = oI 0 25 := rfl
theorem r92_24 : zr 92 24 [v0, v1, v2] st u P = zr 92 25 [v0, v1, v2] (.int 0 :: st) u P := zr_I k92_24
theorem k92_25 : xcd 92 25 = oRz 0 := rfl
theorem r92_25 : zr 92 25 [v0, v1, v2] [.int y1] u P = ((y1 = 0 ∨ y1 = 1) ∧ P (some (.int y1)) u) := zr_Rz k92_25
theorem k92_26 : xcd 92 26 = oI 0 27 := rfl
theorem r92_26 : zr 92 26 [v0, v1, v2] st u P = zr 92 27 [v0, v1, v2] (.int 0 :: st) u P := zr_I k92_26
theorem k92_27 : xcd 92 27 = oIs 2 28 := rfl
theorem r92_27 : zr 92 27 [v0, .ref a1, v2] (.int y1 :: st) u P = zr 92 28 [v0, .ref a1, .int y1] st u P := zr_Is k92_27 ⟨Nat.le_of_ble_eq_true rfl, rfl⟩
theorem k92_28 : xcd 92 28 = oIl 2 29 := rfl
theorem r92_28 : zr 92 28 [v0, v1, .int x2] st u P = zr 92 29 [v0, v1, .int x2] (.int x2 :: st) u P := zr_Il k92_28 rfl
theorem k92_29 : xcd 92 29 = oAl 1 30 := rfl
theorem r92_29 : zr 92 29 [v0, .ref a1, v2] st u P = zr 92 30 [v0, .ref a1, v2] (.ref a1 :: st) u P := zr_Al k92_29 rfl
theorem k92_30 : xcd 92 30 = oTl 33 := rfl
theorem r92_30 : zr 92 30 [v0, v1, v2] (.ref b1 :: st) u P = (((1000000 ≤ b1 ∧ b1 < 1000000 + xtexts.length) ∧ xcat st ≤ 6) ∧ zr 92 33 [v0, v1, v2] (.int (nI (xtxt (b1 - 1000000)).length) :: st) u P) := zr_Tl k92_30
theorem k92_33 : xcd 92 33 = oCmp (fun x y => decide (y ≤ x)) 63 36 := rfl
theorem r92_33 : zr 92 33 [v0, v1, v2] (.int y1 :: .int y2 :: st) u P = (if y1 ≤ y2 then zr 92 63 [v0, v1, v2] st u P else zr 92 36 [v0, v1, v2] st u P) := zr_Cmp k92_33
theorem k92_36 : xcd 92 36 = oAl 0 37 := rfl
theorem r92_36 : zr 92 36 [.ref a0, v1, v2] st u P = zr 92 37 [.ref a0, v1, v2] (.ref a0 :: st) u P := zr_Al k92_36 rfl
theorem k92_37 : xcd 92 37 = oGR 8 0 40 := rfl
theorem r92_37 : zr 92 37 [v0, v1, v2] (.ref b1 :: st) u P = (xIs u b1 8 ∧ ∃ b, xR u b1 0 = some b ∧ zr 92 40 [v0, v1, v2] (.ref b :: st) u P) := zr_GR k92_37
theorem k92_40 : xcd 92 40 = oAl 0 41 := rfl
theorem r92_40 : zr 92 40 [.ref a0, v1, v2] st u P = zr 92 41 [.ref a0, v1, v2] (.ref a0 :: st) u P := zr_Al k92_40 rfl
theorem k92_41 : xcd 92 41 = oGI 8 3 44 := rfl
theorem r92_41 : zr 92 41 [v0, v1, v2] (.ref b1 :: st) u P = (xIs u b1 8 ∧ zr 92 44 [v0, v1, v2] (.int (xI u b1 3) :: st) u P) := zr_GI k92_41
theorem k92_44 : xcd 92 44 = oIl 2 45 := rfl
theorem r92_44 : zr 92 44 [v0, v1, .int x2] st u P = zr 92 45 [v0, v1, .int x2] (.int x2 :: st) u P := zr_Il k92_44 rfl
theorem k92_45 : xcd 92 45 = oB (fun x y => x + y) 46 := rfl
theorem r92_45 : zr 92 45 [v0, v1, v2] (.int y1 :: .int y2 :: st) u P = zr 92 46 [v0, v1, v2] (.int (y2 + y1) :: st) u P := zr_B k92_45
theorem k92_46 : xcd 92 46 = oLd 12 47 := rfl
theorem r92_46 : zr 92 46 [v0, v1, v2] (.int y1 :: .ref b1 :: st) u P = ((xIs u b1 12 ∧ xinb y1 (xN u b1)) ∧ zr 92 47 [v0, v1, v2] (.int (xI u b1 (xix y1)) :: st) u P) := zr_Ld k92_46
theorem k92_47 : xcd 92 47 = oAl 1 48 := rfl
theorem r92_47 : zr 92 47 [v0, .ref a1, v2] st u P = zr 92 48 [v0, .ref a1, v2] (.ref a1 :: st) u P := zr_Al k92_47 rfl
theorem k92_48 : xcd 92 48 = oIl 2 49 := rfl
theorem r92_48 : zr 92 48 [v0, v1, .int x2] st u P = zr 92 49 [v0, v1, .int x2] (.int x2 :: st) u P := zr_Il k92_48 rfl
theorem k92_49 : xcd 92 49 = oTc 52 := rfl
theorem r92_49 : zr 92 49 [v0, v1, v2] (.int y1 :: .ref b1 :: st) u P = ((((1000000 ≤ b1 ∧ b1 < 1000000 + xtexts.length) ∧ xcat st ≤ 6) ∧ (0 ≤ y1 ∧ y1.toNatClampNeg < (xtxt (b1 - 1000000)).length)) ∧ zr 92 52 [v0, v1, v2] (.int (nI ((xtxt (b1 - 1000000)).getD y1.toNatClampNeg 0)) :: st) u P) := zr_Tc k92_49
theorem k92_52 : xcd 92 52 = oCmp (fun x y => decide (x = y)) 57 55 := rfl
theorem r92_52 : zr 92 52 [v0, v1, v2] (.int y1 :: .int y2 :: st) u P = (if y2 = y1 then zr 92 57 [v0, v1, v2] st u P else zr 92 55 [v0, v1, v2] st u P) := zr_Cmp k92_52
theorem k92_55 : xcd 92 55 = oI 0 56 := rfl
theorem r92_55 : zr 92 55 [v0, v1, v2] st u P = zr 92 56 [v0, v1, v2] (.int 0 :: st) u P := zr_I k92_55
theorem k92_56 : xcd 92 56 = oRz 0 := rfl
theorem r92_56 : zr 92 56 [v0, v1, v2] [.int y1] u P = ((y1 = 0 ∨ y1 = 1) ∧ P (some (.int y1)) u) := zr_Rz k92_56
theorem k92_57 : xcd 92 57 = oInc 2 1 60 := rfl
theorem r92_57 : zr 92 57 [v0, .ref a1, .int x2] st u P = zr 92 60 [v0, .ref a1, .int (x2 + 1)] st u P := zr_Inc k92_57 rfl rfl
theorem k92_60 : xcd 92 60 = oGoto 28 := rfl
theorem r92_60 : zr 92 60 [v0, v1, v2] st u P = zr 92 28 [v0, v1, v2] st u P := zr_Goto k92_60
theorem k92_63 : xcd 92 63 = oI 1 64 := rfl
theorem r92_63 : zr 92 63 [v0, v1, v2] st u P = zr 92 64 [v0, v1, v2] (.int 1 :: st) u P := zr_I k92_63
theorem k92_64 : xcd 92 64 = oRz 0 := rfl
theorem r92_64 : zr 92 64 [v0, v1, v2] [.int y1] u P = ((y1 = 0 ∨ y1 = 1) ∧ P (some (.int y1)) u) := zr_Rz k92_64
theorem k93_0 : xcd 93 0 = oAl 0 1 := rfl
theorem r93_0 : zr 93 0 [.ref a0] st u P = zr 93 1 [.ref a0] (.ref a0 :: st) u P := zr_Al k93_0 rfl
theorem k93_1 : xcd 93 1 = oGI 8 5 4 := rfl
theorem r93_1 : zr 93 1 [v0] (.ref b1 :: st) u P = (xIs u b1 8 ∧ zr 93 4 [v0] (.int (xI u b1 5) :: st) u P) := zr_GI k93_1
theorem k93_4 : xcd 93 4 = oI 1 5 := rfl
theorem r93_4 : zr 93 4 [v0] st u P = zr 93 5 [v0] (.int 1 :: st) u P := zr_I k93_4
theorem k93_5 : xcd 93 5 = oCmp (fun x y => decide (¬ x = y)) 102 8 := rfl
theorem r93_5 : zr 93 5 [v0] (.int y1 :: .int y2 :: st) u P = (if ¬ y2 = y1 then zr 93 102 [v0] st u P else zr 93 8 [v0] st u P) := zr_Cmp k93_5
theorem k93_8 : xcd 93 8 = oAl 0 9 := rfl
theorem r93_8 : zr 93 8 [.ref a0] st u P = zr 93 9 [.ref a0] (.ref a0 :: st) u P := zr_Al k93_8 rfl
theorem k93_9 : xcd 93 9 = oS 0 11 := rfl
theorem r93_9 : zr 93 9 [v0] st u P = zr 93 11 [v0] (.ref 1000000 :: st) u P := zr_S k93_9
theorem k93_11 : xcd 93 11 = oCalV 8 92 1 14 := rfl
theorem r93_11 : zr 93 11 [v0] (.ref b1 :: .ref b8 :: st) u P = ((xIs u b8 8 ∧ xcat st ≤ 8) ∧ zr 92 0 [.ref b8, .ref b1, .null] [] u (fun r u2 => zr 93 14 [v0] (r.toList ++ st) u2 P)) := zr_CV k93_11 rfl rfl rfl ⟨Nat.le_of_ble_eq_true rfl, Nat.succ_ne_zero _, by decide⟩ rfl
theorem k93_14 : xcd 93 14 = oIf (fun x => decide (¬ x = 0)) 102 17 := rfl
theorem r93_14 : zr 93 14 [v0] (.int y1 :: st) u P = (if ¬ y1 = 0 then zr 93 102 [v0] st u P else zr 93 17 [v0] st u P) := zr_If k93_14
theorem k93_17 : xcd 93 17 = oAl 0 18 := rfl
theorem r93_17 : zr 93 17 [.ref a0] st u P = zr 93 18 [.ref a0] (.ref a0 :: st) u P := zr_Al k93_17 rfl
theorem k93_18 : xcd 93 18 = oS 1 20 := rfl
theorem r93_18 : zr 93 18 [v0] st u P = zr 93 20 [v0] (.ref 1000001 :: st) u P := zr_S k93_18
theorem k93_20 : xcd 93 20 = oCalV 8 92 1 23 := rfl
theorem r93_20 : zr 93 20 [v0] (.ref b1 :: .ref b8 :: st) u P = ((xIs u b8 8 ∧ xcat st ≤ 8) ∧ zr 92 0 [.ref b8, .ref b1, .null] [] u (fun r u2 => zr 93 23 [v0] (r.toList ++ st) u2 P)) := zr_CV k93_20 rfl rfl rfl ⟨Nat.le_of_ble_eq_true rfl, Nat.succ_ne_zero _, by decide⟩ rfl
theorem k93_23 : xcd 93 23 = oIf (fun x => decide (¬ x = 0)) 102 26 := rfl
theorem r93_23 : zr 93 23 [v0] (.int y1 :: st) u P = (if ¬ y1 = 0 then zr 93 102 [v0] st u P else zr 93 26 [v0] st u P) := zr_If k93_23
theorem k93_26 : xcd 93 26 = oAl 0 27 := rfl
theorem r93_26 : zr 93 26 [.ref a0] st u P = zr 93 27 [.ref a0] (.ref a0 :: st) u P := zr_Al k93_26 rfl
theorem k93_27 : xcd 93 27 = oS 2 29 := rfl
theorem r93_27 : zr 93 27 [v0] st u P = zr 93 29 [v0] (.ref 1000002 :: st) u P := zr_S k93_27
theorem k93_29 : xcd 93 29 = oCalV 8 92 1 32 := rfl
theorem r93_29 : zr 93 29 [v0] (.ref b1 :: .ref b8 :: st) u P = ((xIs u b8 8 ∧ xcat st ≤ 8) ∧ zr 92 0 [.ref b8, .ref b1, .null] [] u (fun r u2 => zr 93 32 [v0] (r.toList ++ st) u2 P)) := zr_CV k93_29 rfl rfl rfl ⟨Nat.le_of_ble_eq_true rfl, Nat.succ_ne_zero _, by decide⟩ rfl
theorem k93_32 : xcd 93 32 = oIf (fun x => decide (¬ x = 0)) 102 35 := rfl
theorem r93_32 : zr 93 32 [v0] (.int y1 :: st) u P = (if ¬ y1 = 0 then zr 93 102 [v0] st u P else zr 93 35 [v0] st u P) := zr_If k93_32
theorem k93_35 : xcd 93 35 = oAl 0 36 := rfl
theorem r93_35 : zr 93 35 [.ref a0] st u P = zr 93 36 [.ref a0] (.ref a0 :: st) u P := zr_Al k93_35 rfl
theorem k93_36 : xcd 93 36 = oS 3 38 := rfl
theorem r93_36 : zr 93 36 [v0] st u P = zr 93 38 [v0] (.ref 1000003 :: st) u P := zr_S k93_36
theorem k93_38 : xcd 93 38 = oCalV 8 92 1 41 := rfl
theorem r93_38 : zr 93 38 [v0] (.ref b1 :: .ref b8 :: st) u P = ((xIs u b8 8 ∧ xcat st ≤ 8) ∧ zr 92 0 [.ref b8, .ref b1, .null] [] u (fun r u2 => zr 93 41 [v0] (r.toList ++ st) u2 P)) := zr_CV k93_38 rfl rfl rfl ⟨Nat.le_of_ble_eq_true rfl, Nat.succ_ne_zero _, by decide⟩ rfl
theorem k93_41 : xcd 93 41 = oIf (fun x => decide (¬ x = 0)) 102 44 := rfl
theorem r93_41 : zr 93 41 [v0] (.int y1 :: st) u P = (if ¬ y1 = 0 then zr 93 102 [v0] st u P else zr 93 44 [v0] st u P) := zr_If k93_41
theorem k93_44 : xcd 93 44 = oAl 0 45 := rfl
theorem r93_44 : zr 93 44 [.ref a0] st u P = zr 93 45 [.ref a0] (.ref a0 :: st) u P := zr_Al k93_44 rfl
theorem k93_45 : xcd 93 45 = oS 4 47 := rfl
theorem r93_45 : zr 93 45 [v0] st u P = zr 93 47 [v0] (.ref 1000004 :: st) u P := zr_S k93_45
theorem k93_47 : xcd 93 47 = oCalV 8 92 1 50 := rfl
theorem r93_47 : zr 93 47 [v0] (.ref b1 :: .ref b8 :: st) u P = ((xIs u b8 8 ∧ xcat st ≤ 8) ∧ zr 92 0 [.ref b8, .ref b1, .null] [] u (fun r u2 => zr 93 50 [v0] (r.toList ++ st) u2 P)) := zr_CV k93_47 rfl rfl rfl ⟨Nat.le_of_ble_eq_true rfl, Nat.succ_ne_zero _, by decide⟩ rfl
theorem k93_50 : xcd 93 50 = oIf (fun x => decide (¬ x = 0)) 102 53 := rfl
theorem r93_50 : zr 93 50 [v0] (.int y1 :: st) u P = (if ¬ y1 = 0 then zr 93 102 [v0] st u P else zr 93 53 [v0] st u P) := zr_If k93_50
theorem k93_53 : xcd 93 53 = oAl 0 54 := rfl
theorem r93_53 : zr 93 53 [.ref a0] st u P = zr 93 54 [.ref a0] (.ref a0 :: st) u P := zr_Al k93_53 rfl
theorem k93_54 : xcd 93 54 = oS 5 56 := rfl
theorem r93_54 : zr 93 54 [v0] st u P = zr 93 56 [v0] (.ref 1000005 :: st) u P := zr_S k93_54
theorem k93_56 : xcd 93 56 = oCalV 8 92 1 59 := rfl
theorem r93_56 : zr 93 56 [v0] (.ref b1 :: .ref b8 :: st) u P = ((xIs u b8 8 ∧ xcat st ≤ 8) ∧ zr 92 0 [.ref b8, .ref b1, .null] [] u (fun r u2 => zr 93 59 [v0] (r.toList ++ st) u2 P)) := zr_CV k93_56 rfl rfl rfl ⟨Nat.le_of_ble_eq_true rfl, Nat.succ_ne_zero _, by decide⟩ rfl
theorem k93_59 : xcd 93 59 = oIf (fun x => decide (¬ x = 0)) 102 62 := rfl
theorem r93_59 : zr 93 59 [v0] (.int y1 :: st) u P = (if ¬ y1 = 0 then zr 93 102 [v0] st u P else zr 93 62 [v0] st u P) := zr_If k93_59
theorem k93_62 : xcd 93 62 = oAl 0 63 := rfl
theorem r93_62 : zr 93 62 [.ref a0] st u P = zr 93 63 [.ref a0] (.ref a0 :: st) u P := zr_Al k93_62 rfl
theorem k93_63 : xcd 93 63 = oS 6 65 := rfl
theorem r93_63 : zr 93 63 [v0] st u P = zr 93 65 [v0] (.ref 1000006 :: st) u P := zr_S k93_63
theorem k93_65 : xcd 93 65 = oCalV 8 92 1 68 := rfl
theorem r93_65 : zr 93 65 [v0] (.ref b1 :: .ref b8 :: st) u P = ((xIs u b8 8 ∧ xcat st ≤ 8) ∧ zr 92 0 [.ref b8, .ref b1, .null] [] u (fun r u2 => zr 93 68 [v0] (r.toList ++ st) u2 P)) := zr_CV k93_65 rfl rfl rfl ⟨Nat.le_of_ble_eq_true rfl, Nat.succ_ne_zero _, by decide⟩ rfl
theorem k93_68 : xcd 93 68 = oIf (fun x => decide (¬ x = 0)) 102 71 := rfl
theorem r93_68 : zr 93 68 [v0] (.int y1 :: st) u P = (if ¬ y1 = 0 then zr 93 102 [v0] st u P else zr 93 71 [v0] st u P) := zr_If k93_68
theorem k93_71 : xcd 93 71 = oAl 0 72 := rfl
theorem r93_71 : zr 93 71 [.ref a0] st u P = zr 93 72 [.ref a0] (.ref a0 :: st) u P := zr_Al k93_71 rfl
theorem k93_72 : xcd 93 72 = oS 7 74 := rfl
theorem r93_72 : zr 93 72 [v0] st u P = zr 93 74 [v0] (.ref 1000007 :: st) u P := zr_S k93_72
theorem k93_74 : xcd 93 74 = oCalV 8 92 1 77 := rfl
theorem r93_74 : zr 93 74 [v0] (.ref b1 :: .ref b8 :: st) u P = ((xIs u b8 8 ∧ xcat st ≤ 8) ∧ zr 92 0 [.ref b8, .ref b1, .null] [] u (fun r u2 => zr 93 77 [v0] (r.toList ++ st) u2 P)) := zr_CV k93_74 rfl rfl rfl ⟨Nat.le_of_ble_eq_true rfl, Nat.succ_ne_zero _, by decide⟩ rfl
theorem k93_77 : xcd 93 77 = oIf (fun x => decide (¬ x = 0)) 102 80 := rfl
theorem r93_77 : zr 93 77 [v0] (.int y1 :: st) u P = (if ¬ y1 = 0 then zr 93 102 [v0] st u P else zr 93 80 [v0] st u P) := zr_If k93_77
theorem k93_80 : xcd 93 80 = oAl 0 81 := rfl
theorem r93_80 : zr 93 80 [.ref a0] st u P = zr 93 81 [.ref a0] (.ref a0 :: st) u P := zr_Al k93_80 rfl
theorem k93_81 : xcd 93 81 = oS 8 83 := rfl
theorem r93_81 : zr 93 81 [v0] st u P = zr 93 83 [v0] (.ref 1000008 :: st) u P := zr_S k93_81
theorem k93_83 : xcd 93 83 = oCalV 8 92 1 86 := rfl
theorem r93_83 : zr 93 83 [v0] (.ref b1 :: .ref b8 :: st) u P = ((xIs u b8 8 ∧ xcat st ≤ 8) ∧ zr 92 0 [.ref b8, .ref b1, .null] [] u (fun r u2 => zr 93 86 [v0] (r.toList ++ st) u2 P)) := zr_CV k93_83 rfl rfl rfl ⟨Nat.le_of_ble_eq_true rfl, Nat.succ_ne_zero _, by decide⟩ rfl
theorem k93_86 : xcd 93 86 = oIf (fun x => decide (¬ x = 0)) 102 89 := rfl
theorem r93_86 : zr 93 86 [v0] (.int y1 :: st) u P = (if ¬ y1 = 0 then zr 93 102 [v0] st u P else zr 93 89 [v0] st u P) := zr_If k93_86
theorem k93_89 : xcd 93 89 = oAl 0 90 := rfl
theorem r93_89 : zr 93 89 [.ref a0] st u P = zr 93 90 [.ref a0] (.ref a0 :: st) u P := zr_Al k93_89 rfl
theorem k93_90 : xcd 93 90 = oS 9 92 := rfl
theorem r93_90 : zr 93 90 [v0] st u P = zr 93 92 [v0] (.ref 1000009 :: st) u P := zr_S k93_90
theorem k93_92 : xcd 93 92 = oCalV 8 92 1 95 := rfl
theorem r93_92 : zr 93 92 [v0] (.ref b1 :: .ref b8 :: st) u P = ((xIs u b8 8 ∧ xcat st ≤ 8) ∧ zr 92 0 [.ref b8, .ref b1, .null] [] u (fun r u2 => zr 93 95 [v0] (r.toList ++ st) u2 P)) := zr_CV k93_92 rfl rfl rfl ⟨Nat.le_of_ble_eq_true rfl, Nat.succ_ne_zero _, by decide⟩ rfl
theorem k93_95 : xcd 93 95 = oIf (fun x => decide (¬ x = 0)) 102 98 := rfl
theorem r93_95 : zr 93 95 [v0] (.int y1 :: st) u P = (if ¬ y1 = 0 then zr 93 102 [v0] st u P else zr 93 98 [v0] st u P) := zr_If k93_95
theorem k93_98 : xcd 93 98 = oI 1 99 := rfl
theorem r93_98 : zr 93 98 [v0] st u P = zr 93 99 [v0] (.int 1 :: st) u P := zr_I k93_98
theorem k93_99 : xcd 93 99 = oGoto 103 := rfl
theorem r93_99 : zr 93 99 [v0] st u P = zr 93 103 [v0] st u P := zr_Goto k93_99
theorem k93_102 : xcd 93 102 = oI 0 103 := rfl
theorem r93_102 : zr 93 102 [v0] st u P = zr 93 103 [v0] (.int 0 :: st) u P := zr_I k93_102
theorem k93_103 : xcd 93 103 = oRz 0 := rfl
theorem r93_103 : zr 93 103 [v0] [.int y1] u P = ((y1 = 0 ∨ y1 = 1) ∧ P (some (.int y1)) u) := zr_Rz k93_103
theorem k95_0 : xcd 95 0 = oAl 0 1 := rfl
theorem r95_0 : zr 95 0 [.ref a0] st u P = zr 95 1 [.ref a0] (.ref a0 :: st) u P := zr_Al k95_0 rfl
theorem k95_1 : xcd 95 1 = oI 0 2 := rfl
theorem r95_1 : zr 95 1 [v0] st u P = zr 95 2 [v0] (.int 0 :: st) u P := zr_I k95_1
theorem k95_2 : xcd 95 2 = oPI 9 0 5 := rfl
theorem r95_2 : zr 95 2 [v0] (.int y1 :: .ref b1 :: st) u P = (xIs u b1 9 ∧ zr 95 5 [v0] st (xsI u b1 0 y1) P) := zr_PI k95_2
theorem k95_5 : xcd 95 5 = oAl 0 6 := rfl
theorem r95_5 : zr 95 5 [.ref a0] st u P = zr 95 6 [.ref a0] (.ref a0 :: st) u P := zr_Al k95_5 rfl
theorem k95_6 : xcd 95 6 = oGR 9 2 9 := rfl
theorem r95_6 : zr 95 6 [v0] (.ref b1 :: st) u P = (xIs u b1 9 ∧ ∃ b, xR u b1 2 = some b ∧ zr 95 9 [v0] (.ref b :: st) u P) := zr_GR k95_6
theorem k95_9 : xcd 95 9 = oI 0 10 := rfl
theorem r95_9 : zr 95 9 [v0] st u P = zr 95 10 [v0] (.int 0 :: st) u P := zr_I k95_9
theorem k95_10 : xcd 95 10 = oPI 6 0 13 := rfl
theorem r95_10 : zr 95 10 [v0] (.int y1 :: .ref b1 :: st) u P = (xIs u b1 6 ∧ zr 95 13 [v0] st (xsI u b1 0 y1) P) := zr_PI k95_10
theorem k95_13 : xcd 95 13 = oAl 0 14 := rfl
theorem r95_13 : zr 95 13 [.ref a0] st u P = zr 95 14 [.ref a0] (.ref a0 :: st) u P := zr_Al k95_13 rfl
theorem k95_14 : xcd 95 14 = oI 0 15 := rfl
theorem r95_14 : zr 95 14 [v0] st u P = zr 95 15 [v0] (.int 0 :: st) u P := zr_I k95_14
theorem k95_15 : xcd 95 15 = oPI 9 3 18 := rfl
theorem r95_15 : zr 95 15 [v0] (.int y1 :: .ref b1 :: st) u P = (xIs u b1 9 ∧ zr 95 18 [v0] st (xsI u b1 3 y1) P) := zr_PI k95_15
theorem k95_18 : xcd 95 18 = oAl 0 19 := rfl
theorem r95_18 : zr 95 18 [.ref a0] st u P = zr 95 19 [.ref a0] (.ref a0 :: st) u P := zr_Al k95_18 rfl
theorem k95_19 : xcd 95 19 = oI 0 20 := rfl
theorem r95_19 : zr 95 19 [v0] st u P = zr 95 20 [v0] (.int 0 :: st) u P := zr_I k95_19
theorem k95_20 : xcd 95 20 = oPI 9 9 23 := rfl
theorem r95_20 : zr 95 20 [v0] (.int y1 :: .ref b1 :: st) u P = (xIs u b1 9 ∧ zr 95 23 [v0] st (xsI u b1 9 y1) P) := zr_PI k95_20
theorem k95_23 : xcd 95 23 = oRv 0 := rfl
theorem r95_23 : zr 95 23 [v0] [] u P = P none u := zr_Rv k95_23
theorem k96_0 : xcd 96 0 = oAl 0 1 := rfl
theorem r96_0 : zr 96 0 [.ref a0, v1] st u P = zr 96 1 [.ref a0, v1] (.ref a0 :: st) u P := zr_Al k96_0 rfl
theorem k96_1 : xcd 96 1 = oGR 9 1 4 := rfl
theorem r96_1 : zr 96 1 [v0, v1] (.ref b1 :: st) u P = (xIs u b1 9 ∧ ∃ b, xR u b1 1 = some b ∧ zr 96 4 [v0, v1] (.ref b :: st) u P) := zr_GR k96_1
theorem k96_4 : xcd 96 4 = oAl 0 5 := rfl
theorem r96_4 : zr 96 4 [.ref a0, v1] st u P = zr 96 5 [.ref a0, v1] (.ref a0 :: st) u P := zr_Al k96_4 rfl
theorem k96_5 : xcd 96 5 = oGI 9 0 8 := rfl
theorem r96_5 : zr 96 5 [v0, v1] (.ref b1 :: st) u P = (xIs u b1 9 ∧ zr 96 8 [v0, v1] (.int (xI u b1 0) :: st) u P) := zr_GI k96_5
theorem k96_8 : xcd 96 8 = oIl 1 9 := rfl
theorem r96_8 : zr 96 8 [v0, .int x1] st u P = zr 96 9 [v0, .int x1] (.int x1 :: st) u P := zr_Il k96_8 rfl
theorem k96_9 : xcd 96 9 = oSt 13 (fun x => x) 10 := rfl
theorem r96_9 : zr 96 9 [v0, v1] (.int y2 :: .int y1 :: .ref b1 :: st) u P = ((xIs u b1 13 ∧ xinb y1 (xN u b1)) ∧ zr 96 10 [v0, v1] st (xsI u b1 (xix y1) y2) P) := zr_St k96_9
theorem k96_10 : xcd 96 10 = oAl 0 11 := rfl
theorem r96_10 : zr 96 10 [.ref a0, v1] st u P = zr 96 11 [.ref a0, v1] (.ref a0 :: st) u P := zr_Al k96_10 rfl
theorem k96_11 : xcd 96 11 = oDup 12 := rfl
theorem r96_11 : zr 96 11 [v0, v1] (.ref b1 :: st) u P = zr 96 12 [v0, v1] (.ref b1 :: .ref b1 :: st) u P := zr_DupA k96_11
theorem k96_12 : xcd 96 12 = oGI 9 0 15 := rfl
theorem r96_12 : zr 96 12 [v0, v1] (.ref b1 :: st) u P = (xIs u b1 9 ∧ zr 96 15 [v0, v1] (.int (xI u b1 0) :: st) u P) := zr_GI k96_12
theorem k96_15 : xcd 96 15 = oI 1 16 := rfl
theorem r96_15 : zr 96 15 [v0, v1] st u P = zr 96 16 [v0, v1] (.int 1 :: st) u P := zr_I k96_15
theorem k96_16 : xcd 96 16 = oB (fun x y => x + y) 17 := rfl
theorem r96_16 : zr 96 16 [v0, v1] (.int y1 :: .int y2 :: st) u P = zr 96 17 [v0, v1] (.int (y2 + y1) :: st) u P := zr_B k96_16
theorem k96_17 : xcd 96 17 = oPI 9 0 20 := rfl
theorem r96_17 : zr 96 17 [v0, v1] (.int y1 :: .ref b1 :: st) u P = (xIs u b1 9 ∧ zr 96 20 [v0, v1] st (xsI u b1 0 y1) P) := zr_PI k96_17
theorem k96_20 : xcd 96 20 = oRv 0 := rfl
theorem r96_20 : zr 96 20 [v0, v1] [] u P = P none u := zr_Rv k96_20
theorem k97_0 : xcd 97 0 = oAl 0 1 := rfl
theorem r97_0 : zr 97 0 [.ref a0, v1, v2, v3, v4, v5] st u P = zr 97 1 [.ref a0, v1, v2, v3, v4, v5] (.ref a0 :: st) u P := zr_Al k97_0 rfl
theorem k97_1 : xcd 97 1 = oGR 9 4 4 := rfl
theorem r97_1 : zr 97 1 [v0, v1, v2, v3, v4, v5] (.ref b1 :: st) u P = (xIs u b1 9 ∧ ∃ b, xR u b1 4 = some b ∧ zr 97 4 [v0, v1, v2, v3, v4, v5] (.ref b :: st) u P) := zr_GR k97_1
theorem k97_4 : xcd 97 4 = oAl 0 5 := rfl
theorem r97_4 : zr 97 4 [.ref a0, v1, v2, v3, v4, v5] st u P = zr 97 5 [.ref a0, v1, v2, v3, v4, v5] (.ref a0 :: st) u P := zr_Al k97_4 rfl
theorem k97_5 : xcd 97 5 = oGI 9 3 8 := rfl
theorem r97_5 : zr 97 5 [v0, v1, v2, v3, v4, v5] (.ref b1 :: st) u P = (xIs u b1 9 ∧ zr 97 8 [v0, v1, v2, v3, v4, v5] (.int (xI u b1 3) :: st) u P) := zr_GI k97_5
theorem k97_8 : xcd 97 8 = oIl 1 9 := rfl
theorem r97_8 : zr 97 8 [v0, .int x1, v2, v3, v4, v5] st u P = zr 97 9 [v0, .int x1, v2, v3, v4, v5] (.int x1 :: st) u P := zr_Il k97_8 rfl
theorem k97_9 : xcd 97 9 = oSt 13 (fun x => x) 10 := rfl
theorem r97_9 : zr 97 9 [v0, v1, v2, v3, v4, v5] (.int y2 :: .int y1 :: .ref b1 :: st) u P = ((xIs u b1 13 ∧ xinb y1 (xN u b1)) ∧ zr 97 10 [v0, v1, v2, v3, v4, v5] st (xsI u b1 (xix y1) y2) P) := zr_St k97_9
theorem k97_10 : xcd 97 10 = oAl 0 11 := rfl
theorem r97_10 : zr 97 10 [.ref a0, v1, v2, v3, v4, v5] st u P = zr 97 11 [.ref a0, v1, v2, v3, v4, v5] (.ref a0 :: st) u P := zr_Al k97_10 rfl
theorem k97_11 : xcd 97 11 = oGR 9 5 14 := rfl
theorem r97_11 : zr 97 11 [v0, v1, v2, v3, v4, v5] (.ref b1 :: st) u P = (xIs u b1 9 ∧ ∃ b, xR u b1 5 = some b ∧ zr 97 14 [v0, v1, v2, v3, v4, v5] (.ref b :: st) u P) := zr_GR k97_11
theorem k97_14 : xcd 97 14 = oAl 0 15 := rfl
theorem r97_14 : zr 97 14 [.ref a0, v1, v2, v3, v4, v5] st u P = zr 97 15 [.ref a0, v1, v2, v3, v4, v5] (.ref a0 :: st) u P := zr_Al k97_14 rfl
theorem k97_15 : xcd 97 15 = oGI 9 3 18 := rfl
theorem r97_15 : zr 97 15 [v0, v1, v2, v3, v4, v5] (.ref b1 :: st) u P = (xIs u b1 9 ∧ zr 97 18 [v0, v1, v2, v3, v4, v5] (.int (xI u b1 3) :: st) u P) := zr_GI k97_15
theorem k97_18 : xcd 97 18 = oIl 2 19 := rfl
theorem r97_18 : zr 97 18 [v0, v1, .int x2, v3, v4, v5] st u P = zr 97 19 [v0, v1, .int x2, v3, v4, v5] (.int x2 :: st) u P := zr_Il k97_18 rfl
theorem k97_19 : xcd 97 19 = oSt 13 (fun x => x) 20 := rfl
theorem r97_19 : zr 97 19 [v0, v1, v2, v3, v4, v5] (.int y2 :: .int y1 :: .ref b1 :: st) u P = ((xIs u b1 13 ∧ xinb y1 (xN u b1)) ∧ zr 97 20 [v0, v1, v2, v3, v4, v5] st (xsI u b1 (xix y1) y2) P) := zr_St k97_19
theorem k97_20 : xcd 97 20 = oAl 0 21 := rfl
theorem r97_20 : zr 97 20 [.ref a0, v1, v2, v3, v4, v5] st u P = zr 97 21 [.ref a0, v1, v2, v3, v4, v5] (.ref a0 :: st) u P := zr_Al k97_20 rfl
theorem k97_21 : xcd 97 21 = oGR 9 6 24 := rfl
theorem r97_21 : zr 97 21 [v0, v1, v2, v3, v4, v5] (.ref b1 :: st) u P = (xIs u b1 9 ∧ ∃ b, xR u b1 6 = some b ∧ zr 97 24 [v0, v1, v2, v3, v4, v5] (.ref b :: st) u P) := zr_GR k97_21
theorem k97_24 : xcd 97 24 = oAl 0 25 := rfl
theorem r97_24 : zr 97 24 [.ref a0, v1, v2, v3, v4, v5] st u P = zr 97 25 [.ref a0, v1, v2, v3, v4, v5] (.ref a0 :: st) u P := zr_Al k97_24 rfl
theorem k97_25 : xcd 97 25 = oGI 9 3 28 := rfl
theorem r97_25 : zr 97 25 [v0, v1, v2, v3, v4, v5] (.ref b1 :: st) u P = (xIs u b1 9 ∧ zr 97 28 [v0, v1, v2, v3, v4, v5] (.int (xI u b1 3) :: st) u P) := zr_GI k97_25
theorem k97_28 : xcd 97 28 = oIl 3 29 := rfl
theorem r97_28 : zr 97 28 [v0, v1, v2, .int x3, v4, v5] st u P = zr 97 29 [v0, v1, v2, .int x3, v4, v5] (.int x3 :: st) u P := zr_Il k97_28 rfl
theorem k97_29 : xcd 97 29 = oSt 13 (fun x => x) 30 := rfl
theorem r97_29 : zr 97 29 [v0, v1, v2, v3, v4, v5] (.int y2 :: .int y1 :: .ref b1 :: st) u P = ((xIs u b1 13 ∧ xinb y1 (xN u b1)) ∧ zr 97 30 [v0, v1, v2, v3, v4, v5] st (xsI u b1 (xix y1) y2) P) := zr_St k97_29
theorem k97_30 : xcd 97 30 = oAl 0 31 := rfl
theorem r97_30 : zr 97 30 [.ref a0, v1, v2, v3, v4, v5] st u P = zr 97 31 [.ref a0, v1, v2, v3, v4, v5] (.ref a0 :: st) u P := zr_Al k97_30 rfl
theorem k97_31 : xcd 97 31 = oGR 9 7 34 := rfl
theorem r97_31 : zr 97 31 [v0, v1, v2, v3, v4, v5] (.ref b1 :: st) u P = (xIs u b1 9 ∧ ∃ b, xR u b1 7 = some b ∧ zr 97 34 [v0, v1, v2, v3, v4, v5] (.ref b :: st) u P) := zr_GR k97_31
theorem k97_34 : xcd 97 34 = oAl 0 35 := rfl
theorem r97_34 : zr 97 34 [.ref a0, v1, v2, v3, v4, v5] st u P = zr 97 35 [.ref a0, v1, v2, v3, v4, v5] (.ref a0 :: st) u P := zr_Al k97_34 rfl
theorem k97_35 : xcd 97 35 = oGI 9 3 38 := rfl
theorem r97_35 : zr 97 35 [v0, v1, v2, v3, v4, v5] (.ref b1 :: st) u P = (xIs u b1 9 ∧ zr 97 38 [v0, v1, v2, v3, v4, v5] (.int (xI u b1 3) :: st) u P) := zr_GI k97_35
theorem k97_38 : xcd 97 38 = oIl 4 40 := rfl
theorem r97_38 : zr 97 38 [v0, v1, v2, v3, .int x4, v5] st u P = zr 97 40 [v0, v1, v2, v3, .int x4, v5] (.int x4 :: st) u P := zr_Il k97_38 rfl
theorem k97_40 : xcd 97 40 = oSt 13 (fun x => x) 41 := rfl
theorem r97_40 : zr 97 40 [v0, v1, v2, v3, v4, v5] (.int y2 :: .int y1 :: .ref b1 :: st) u P = ((xIs u b1 13 ∧ xinb y1 (xN u b1)) ∧ zr 97 41 [v0, v1, v2, v3, v4, v5] st (xsI u b1 (xix y1) y2) P) := zr_St k97_40
theorem k97_41 : xcd 97 41 = oAl 0 42 := rfl
theorem r97_41 : zr 97 41 [.ref a0, v1, v2, v3, v4, v5] st u P = zr 97 42 [.ref a0, v1, v2, v3, v4, v5] (.ref a0 :: st) u P := zr_Al k97_41 rfl
theorem k97_42 : xcd 97 42 = oGR 9 8 45 := rfl
theorem r97_42 : zr 97 42 [v0, v1, v2, v3, v4, v5] (.ref b1 :: st) u P = (xIs u b1 9 ∧ ∃ b, xR u b1 8 = some b ∧ zr 97 45 [v0, v1, v2, v3, v4, v5] (.ref b :: st) u P) := zr_GR k97_42
theorem k97_45 : xcd 97 45 = oAl 0 46 := rfl
theorem r97_45 : zr 97 45 [.ref a0, v1, v2, v3, v4, v5] st u P = zr 97 46 [.ref a0, v1, v2, v3, v4, v5] (.ref a0 :: st) u P := zr_Al k97_45 rfl
theorem k97_46 : xcd 97 46 = oGI 9 3 49 := rfl
theorem r97_46 : zr 97 46 [v0, v1, v2, v3, v4, v5] (.ref b1 :: st) u P = (xIs u b1 9 ∧ zr 97 49 [v0, v1, v2, v3, v4, v5] (.int (xI u b1 3) :: st) u P) := zr_GI k97_46
theorem k97_49 : xcd 97 49 = oIl 5 51 := rfl
theorem r97_49 : zr 97 49 [v0, v1, v2, v3, v4, .int x5] st u P = zr 97 51 [v0, v1, v2, v3, v4, .int x5] (.int x5 :: st) u P := zr_Il k97_49 rfl
theorem k97_51 : xcd 97 51 = oSt 13 (fun x => x) 52 := rfl
theorem r97_51 : zr 97 51 [v0, v1, v2, v3, v4, v5] (.int y2 :: .int y1 :: .ref b1 :: st) u P = ((xIs u b1 13 ∧ xinb y1 (xN u b1)) ∧ zr 97 52 [v0, v1, v2, v3, v4, v5] st (xsI u b1 (xix y1) y2) P) := zr_St k97_51
theorem k97_52 : xcd 97 52 = oAl 0 53 := rfl
theorem r97_52 : zr 97 52 [.ref a0, v1, v2, v3, v4, v5] st u P = zr 97 53 [.ref a0, v1, v2, v3, v4, v5] (.ref a0 :: st) u P := zr_Al k97_52 rfl
theorem k97_53 : xcd 97 53 = oDup 54 := rfl
theorem r97_53 : zr 97 53 [v0, v1, v2, v3, v4, v5] (.ref b1 :: st) u P = zr 97 54 [v0, v1, v2, v3, v4, v5] (.ref b1 :: .ref b1 :: st) u P := zr_DupA k97_53
theorem k97_54 : xcd 97 54 = oGI 9 3 57 := rfl
theorem r97_54 : zr 97 54 [v0, v1, v2, v3, v4, v5] (.ref b1 :: st) u P = (xIs u b1 9 ∧ zr 97 57 [v0, v1, v2, v3, v4, v5] (.int (xI u b1 3) :: st) u P) := zr_GI k97_54
theorem k97_57 : xcd 97 57 = oI 1 58 := rfl
theorem r97_57 : zr 97 57 [v0, v1, v2, v3, v4, v5] st u P = zr 97 58 [v0, v1, v2, v3, v4, v5] (.int 1 :: st) u P := zr_I k97_57
theorem k97_58 : xcd 97 58 = oB (fun x y => x + y) 59 := rfl
theorem r97_58 : zr 97 58 [v0, v1, v2, v3, v4, v5] (.int y1 :: .int y2 :: st) u P = zr 97 59 [v0, v1, v2, v3, v4, v5] (.int (y2 + y1) :: st) u P := zr_B k97_58
theorem k97_59 : xcd 97 59 = oPI 9 3 62 := rfl
theorem r97_59 : zr 97 59 [v0, v1, v2, v3, v4, v5] (.int y1 :: .ref b1 :: st) u P = (xIs u b1 9 ∧ zr 97 62 [v0, v1, v2, v3, v4, v5] st (xsI u b1 3 y1) P) := zr_PI k97_59
theorem k97_62 : xcd 97 62 = oRv 0 := rfl
theorem r97_62 : zr 97 62 [v0, v1, v2, v3, v4, v5] [] u P = P none u := zr_Rv k97_62
theorem k98_0 : xcd 98 0 = oAl 0 1 := rfl
theorem r98_0 : zr 98 0 [.ref a0, v1, v2, v3] st u P = zr 98 1 [.ref a0, v1, v2, v3] (.ref a0 :: st) u P := zr_Al k98_0 rfl
theorem k98_1 : xcd 98 1 = oGR 9 10 4 := rfl
theorem r98_1 : zr 98 1 [v0, v1, v2, v3] (.ref b1 :: st) u P = (xIs u b1 9 ∧ ∃ b, xR u b1 10 = some b ∧ zr 98 4 [v0, v1, v2, v3] (.ref b :: st) u P) := zr_GR k98_1
theorem k98_4 : xcd 98 4 = oAl 0 5 := rfl
theorem r98_4 : zr 98 4 [.ref a0, v1, v2, v3] st u P = zr 98 5 [.ref a0, v1, v2, v3] (.ref a0 :: st) u P := zr_Al k98_4 rfl
theorem k98_5 : xcd 98 5 = oGI 9 9 8 := rfl
theorem r98_5 : zr 98 5 [v0, v1, v2, v3] (.ref b1 :: st) u P = (xIs u b1 9 ∧ zr 98 8 [v0, v1, v2, v3] (.int (xI u b1 9) :: st) u P) := zr_GI k98_5
theorem k98_8 : xcd 98 8 = oIl 1 9 := rfl
theorem r98_8 : zr 98 8 [v0, .int x1, v2, v3] st u P = zr 98 9 [v0, .int x1, v2, v3] (.int x1 :: st) u P := zr_Il k98_8 rfl
theorem k98_9 : xcd 98 9 = oSt 13 (fun x => x) 10 := rfl
theorem r98_9 : zr 98 9 [v0, v1, v2, v3] (.int y2 :: .int y1 :: .ref b1 :: st) u P = ((xIs u b1 13 ∧ xinb y1 (xN u b1)) ∧ zr 98 10 [v0, v1, v2, v3] st (xsI u b1 (xix y1) y2) P) := zr_St k98_9
theorem k98_10 : xcd 98 10 = oAl 0 11 := rfl
theorem r98_10 : zr 98 10 [.ref a0, v1, v2, v3] st u P = zr 98 11 [.ref a0, v1, v2, v3] (.ref a0 :: st) u P := zr_Al k98_10 rfl
theorem k98_11 : xcd 98 11 = oGR 9 11 14 := rfl
theorem r98_11 : zr 98 11 [v0, v1, v2, v3] (.ref b1 :: st) u P = (xIs u b1 9 ∧ ∃ b, xR u b1 11 = some b ∧ zr 98 14 [v0, v1, v2, v3] (.ref b :: st) u P) := zr_GR k98_11
theorem k98_14 : xcd 98 14 = oAl 0 15 := rfl
theorem r98_14 : zr 98 14 [.ref a0, v1, v2, v3] st u P = zr 98 15 [.ref a0, v1, v2, v3] (.ref a0 :: st) u P := zr_Al k98_14 rfl
theorem k98_15 : xcd 98 15 = oGI 9 9 18 := rfl
theorem r98_15 : zr 98 15 [v0, v1, v2, v3] (.ref b1 :: st) u P = (xIs u b1 9 ∧ zr 98 18 [v0, v1, v2, v3] (.int (xI u b1 9) :: st) u P) := zr_GI k98_15
theorem k98_18 : xcd 98 18 = oIl 2 19 := rfl
theorem r98_18 : zr 98 18 [v0, v1, .int x2, v3] st u P = zr 98 19 [v0, v1, .int x2, v3] (.int x2 :: st) u P := zr_Il k98_18 rfl
theorem k98_19 : xcd 98 19 = oSt 13 (fun x => x) 20 := rfl
theorem r98_19 : zr 98 19 [v0, v1, v2, v3] (.int y2 :: .int y1 :: .ref b1 :: st) u P = ((xIs u b1 13 ∧ xinb y1 (xN u b1)) ∧ zr 98 20 [v0, v1, v2, v3] st (xsI u b1 (xix y1) y2) P) := zr_St k98_19
theorem k98_20 : xcd 98 20 = oAl 0 21 := rfl
theorem r98_20 : zr 98 20 [.ref a0, v1, v2, v3] st u P = zr 98 21 [.ref a0, v1, v2, v3] (.ref a0 :: st) u P := zr_Al k98_20 rfl
theorem k98_21 : xcd 98 21 = oGR 9 12 24 := rfl
theorem r98_21 : zr 98 21 [v0, v1, v2, v3] (.ref b1 :: st) u P = (xIs u b1 9 ∧ ∃ b, xR u b1 12 = some b ∧ zr 98 24 [v0, v1, v2, v3] (.ref b :: st) u P) := zr_GR k98_21
theorem k98_24 : xcd 98 24 = oAl 0 25 := rfl
theorem r98_24 : zr 98 24 [.ref a0, v1, v2, v3] st u P = zr 98 25 [.ref a0, v1, v2, v3] (.ref a0 :: st) u P := zr_Al k98_24 rfl
theorem k98_25 : xcd 98 25 = oGI 9 9 28 := rfl
theorem r98_25 : zr 98 25 [v0, v1, v2, v3] (.ref b1 :: st) u P = (xIs u b1 9 ∧ zr 98 28 [v0, v1, v2, v3] (.int (xI u b1 9) :: st) u P) := zr_GI k98_25
theorem k98_28 : xcd 98 28 = oIl 3 29 := rfl
theorem r98_28 : zr 98 28 [v0, v1, v2, .int x3] st u P = zr 98 29 [v0, v1, v2, .int x3] (.int x3 :: st) u P := zr_Il k98_28 rfl
theorem k98_29 : xcd 98 29 = oSt 13 (fun x => x) 30 := rfl
theorem r98_29 : zr 98 29 [v0, v1, v2, v3] (.int y2 :: .int y1 :: .ref b1 :: st) u P = ((xIs u b1 13 ∧ xinb y1 (xN u b1)) ∧ zr 98 30 [v0, v1, v2, v3] st (xsI u b1 (xix y1) y2) P) := zr_St k98_29
theorem k98_30 : xcd 98 30 = oAl 0 31 := rfl
theorem r98_30 : zr 98 30 [.ref a0, v1, v2, v3] st u P = zr 98 31 [.ref a0, v1, v2, v3] (.ref a0 :: st) u P := zr_Al k98_30 rfl
theorem k98_31 : xcd 98 31 = oDup 32 := rfl
theorem r98_31 : zr 98 31 [v0, v1, v2, v3] (.ref b1 :: st) u P = zr 98 32 [v0, v1, v2, v3] (.ref b1 :: .ref b1 :: st) u P := zr_DupA k98_31
theorem k98_32 : xcd 98 32 = oGI 9 9 35 := rfl
theorem r98_32 : zr 98 32 [v0, v1, v2, v3] (.ref b1 :: st) u P = (xIs u b1 9 ∧ zr 98 35 [v0, v1, v2, v3] (.int (xI u b1 9) :: st) u P) := zr_GI k98_32
theorem k98_35 : xcd 98 35 = oI 1 36 := rfl
theorem r98_35 : zr 98 35 [v0, v1, v2, v3] st u P = zr 98 36 [v0, v1, v2, v3] (.int 1 :: st) u P := zr_I k98_35
theorem k98_36 : xcd 98 36 = oB (fun x y => x + y) 37 := rfl
theorem r98_36 : zr 98 36 [v0, v1, v2, v3] (.int y1 :: .int y2 :: st) u P = zr 98 37 [v0, v1, v2, v3] (.int (y2 + y1) :: st) u P := zr_B k98_36
theorem k98_37 : xcd 98 37 = oPI 9 9 40 := rfl
theorem r98_37 : zr 98 37 [v0, v1, v2, v3] (.int y1 :: .ref b1 :: st) u P = (xIs u b1 9 ∧ zr 98 40 [v0, v1, v2, v3] st (xsI u b1 9 y1) P) := zr_PI k98_37
theorem k98_40 : xcd 98 40 = oRv 0 := rfl
theorem r98_40 : zr 98 40 [v0, v1, v2, v3] [] u P = P none u := zr_Rv k98_40
theorem k99_0 : xcd 99 0 = oIl 2 1 := rfl
theorem r99_0 : zr 99 0 [v0, v1, .int x2, v3, v4, v5, v6] st u P = zr 99 1 [v0, v1, .int x2, v3, v4, v5, v6] (.int x2 :: st) u P := zr_Il k99_0 rfl
theorem k99_1 : xcd 99 1 = oIs 4 3 := rfl
theorem r99_1 : zr 99 1 [v0, v1, v2, .int x3, v4, v5, v6] (.int y1 :: st) u P = zr 99 3 [v0, v1, v2, .int x3, .int y1, v5, v6] st u P := zr_Is k99_1 ⟨Nat.le_of_ble_eq_true rfl, rfl⟩
theorem k99_3 : xcd 99 3 = oI 0 4 := rfl
theorem r99_3 : zr 99 3 [v0, v1, v2, v3, v4, v5, v6] st u P = zr 99 4 [v0, v1, v2, v3, v4, v5, v6] (.int 0 :: st) u P := zr_I k99_3
theorem k99_4 : xcd 99 4 = oIs 5 6 := rfl
theorem r99_4 : zr 99 4 [v0, v1, v2, v3, .int x4, v5, v6] (.int y1 :: st) u P = zr 99 6 [v0, v1, v2, v3, .int x4, .int y1, v6] st u P := zr_Is k99_4 ⟨Nat.le_of_ble_eq_true rfl, rfl⟩
theorem k99_6 : xcd 99 6 = oIl 5 8 := rfl
theorem r99_6 : zr 99 6 [v0, v1, v2, v3, v4, .int x5, v6] st u P = zr 99 8 [v0, v1, v2, v3, v4, .int x5, v6] (.int x5 :: st) u P := zr_Il k99_6 rfl
theorem k99_8 : xcd 99 8 = oI 6 10 := rfl
theorem r99_8 : zr 99 8 [v0, v1, v2, v3, v4, v5, v6] st u P = zr 99 10 [v0, v1, v2, v3, v4, v5, v6] (.int 6 :: st) u P := zr_I k99_8
theorem k99_10 : xcd 99 10 = oCmp (fun x y => decide (y ≤ x)) 62 13 := rfl
theorem r99_10 : zr 99 10 [v0, v1, v2, v3, v4, v5, v6] (.int y1 :: .int y2 :: st) u P = (if y1 ≤ y2 then zr 99 62 [v0, v1, v2, v3, v4, v5, v6] st u P else zr 99 13 [v0, v1, v2, v3, v4, v5, v6] st u P) := zr_Cmp k99_10
theorem k99_13 : xcd 99 13 = oIl 4 15 := rfl
theorem r99_13 : zr 99 13 [v0, v1, v2, v3, .int x4, v5, v6] st u P = zr 99 15 [v0, v1, v2, v3, .int x4, v5, v6] (.int x4 :: st) u P := zr_Il k99_13 rfl
theorem k99_15 : xcd 99 15 = oIf (fun x => decide (x < 0)) 62 18 := rfl
theorem r99_15 : zr 99 15 [v0, v1, v2, v3, v4, v5, v6] (.int y1 :: st) u P = (if y1 < 0 then zr 99 62 [v0, v1, v2, v3, v4, v5, v6] st u P else zr 99 18 [v0, v1, v2, v3, v4, v5, v6] st u P) := zr_If k99_15
theorem k99_18 : xcd 99 18 = oAl 0 19 := rfl
theorem r99_18 : zr 99 18 [.ref a0, v1, v2, v3, v4, v5, v6] st u P = zr 99 19 [.ref a0, v1, v2, v3, v4, v5, v6] (.ref a0 :: st) u P := zr_Al k99_18 rfl
theorem k99_19 : xcd 99 19 = oGR 9 2 22 := rfl
theorem r99_19 : zr 99 19 [v0, v1, v2, v3, v4, v5, v6] (.ref b1 :: st) u P = (xIs u b1 9 ∧ ∃ b, xR u b1 2 = some b ∧ zr 99 22 [v0, v1, v2, v3, v4, v5, v6] (.ref b :: st) u P) := zr_GR k99_19
theorem k99_22 : xcd 99 22 = oIl 1 23 := rfl
theorem r99_22 : zr 99 22 [v0, .int x1, v2, v3, v4, v5, v6] st u P = zr 99 23 [v0, .int x1, v2, v3, v4, v5, v6] (.int x1 :: st) u P := zr_Il k99_22 rfl
theorem k99_23 : xcd 99 23 = oIl 4 25 := rfl
theorem r99_23 : zr 99 23 [v0, v1, v2, v3, .int x4, v5, v6] st u P = zr 99 25 [v0, v1, v2, v3, .int x4, v5, v6] (.int x4 :: st) u P := zr_Il k99_23 rfl
theorem k99_25 : xcd 99 25 = oIl 3 26 := rfl
theorem r99_25 : zr 99 25 [v0, v1, v2, .int x3, v4, v5, v6] st u P = zr 99 26 [v0, v1, v2, .int x3, v4, v5, v6] (.int x3 :: st) u P := zr_Il k99_25 rfl
theorem k99_26 : xcd 99 26 = oCalV 6 63 3 29 := rfl
theorem r99_26 : zr 99 26 [v0, v1, v2, v3, v4, v5, v6] (.int y3 :: .int y2 :: .int y1 :: .ref b8 :: st) u P = ((xIs u b8 6 ∧ xcat st ≤ 8) ∧ zr 63 0 [.ref b8, .int y1, .int y2, .int y3, .null] [] u (fun r u2 => zr 99 29 [v0, v1, v2, v3, v4, v5, v6] (r.toList ++ st) u2 P)) := zr_CV k99_26 rfl rfl rfl ⟨Nat.le_of_ble_eq_true rfl, Nat.succ_ne_zero _, by decide⟩ rfl
theorem k99_29 : xcd 99 29 = oIs 6 31 := rfl
theorem r99_29 : zr 99 29 [v0, v1, v2, v3, v4, .int x5, v6] (.int y1 :: st) u P = zr 99 31 [v0, v1, v2, v3, v4, .int x5, .int y1] st u P := zr_Is k99_29 ⟨Nat.le_of_ble_eq_true rfl, rfl⟩
theorem k99_31 : xcd 99 31 = oIl 6 33 := rfl
theorem r99_31 : zr 99 31 [v0, v1, v2, v3, v4, v5, .int x6] st u P = zr 99 33 [v0, v1, v2, v3, v4, v5, .int x6] (.int x6 :: st) u P := zr_Il k99_31 rfl
theorem k99_33 : xcd 99 33 = oIf (fun x => decide (x < 0)) 47 36 := rfl
theorem r99_33 : zr 99 33 [v0, v1, v2, v3, v4, v5, v6] (.int y1 :: st) u P = (if y1 < 0 then zr 99 47 [v0, v1, v2, v3, v4, v5, v6] st u P else zr 99 36 [v0, v1, v2, v3, v4, v5, v6] st u P) := zr_If k99_33
theorem k99_36 : xcd 99 36 = oAl 0 37 := rfl
theorem r99_36 : zr 99 36 [.ref a0, v1, v2, v3, v4, v5, v6] st u P = zr 99 37 [.ref a0, v1, v2, v3, v4, v5, v6] (.ref a0 :: st) u P := zr_Al k99_36 rfl
theorem k99_37 : xcd 99 37 = oGR 9 2 40 := rfl
theorem r99_37 : zr 99 37 [v0, v1, v2, v3, v4, v5, v6] (.ref b1 :: st) u P = (xIs u b1 9 ∧ ∃ b, xR u b1 2 = some b ∧ zr 99 40 [v0, v1, v2, v3, v4, v5, v6] (.ref b :: st) u P) := zr_GR k99_37
theorem k99_40 : xcd 99 40 = oGR 6 4 43 := rfl
theorem r99_40 : zr 99 40 [v0, v1, v2, v3, v4, v5, v6] (.ref b1 :: st) u P = (xIs u b1 6 ∧ ∃ b, xR u b1 4 = some b ∧ zr 99 43 [v0, v1, v2, v3, v4, v5, v6] (.ref b :: st) u P) := zr_GR k99_40
theorem k99_43 : xcd 99 43 = oIl 6 45 := rfl
theorem r99_43 : zr 99 43 [v0, v1, v2, v3, v4, v5, .int x6] st u P = zr 99 45 [v0, v1, v2, v3, v4, v5, .int x6] (.int x6 :: st) u P := zr_Il k99_43 rfl
theorem k99_45 : xcd 99 45 = oLd 13 46 := rfl
theorem r99_45 : zr 99 45 [v0, v1, v2, v3, v4, v5, v6] (.int y1 :: .ref b1 :: st) u P = ((xIs u b1 13 ∧ xinb y1 (xN u b1)) ∧ zr 99 46 [v0, v1, v2, v3, v4, v5, v6] (.int (xI u b1 (xix y1)) :: st) u P) := zr_Ld k99_45
theorem k99_46 : xcd 99 46 = oRi 0 := rfl
theorem r99_46 : zr 99 46 [v0, v1, v2, v3, v4, v5, v6] [.int y1] u P = P (some (.int y1)) u := zr_Ri k99_46
theorem k99_47 : xcd 99 47 = oAl 0 48 := rfl
theorem r99_47 : zr 99 47 [.ref a0, v1, v2, v3, v4, v5, v6] st u P = zr 99 48 [.ref a0, v1, v2, v3, v4, v5, v6] (.ref a0 :: st) u P := zr_Al k99_47 rfl
theorem k99_48 : xcd 99 48 = oGR 9 1 51 := rfl
theorem r99_48 : zr 99 48 [v0, v1, v2, v3, v4, v5, v6] (.ref b1 :: st) u P = (xIs u b1 9 ∧ ∃ b, xR u b1 1 = some b ∧ zr 99 51 [v0, v1, v2, v3, v4, v5, v6] (.ref b :: st) u P) := zr_GR k99_48
theorem k99_51 : xcd 99 51 = oIl 4 53 := rfl
theorem r99_51 : zr 99 51 [v0, v1, v2, v3, .int x4, v5, v6] st u P = zr 99 53 [v0, v1, v2, v3, .int x4, v5, v6] (.int x4 :: st) u P := zr_Il k99_51 rfl
theorem k99_53 : xcd 99 53 = oLd 13 54 := rfl
theorem r99_53 : zr 99 53 [v0, v1, v2, v3, v4, v5, v6] (.int y1 :: .ref b1 :: st) u P = ((xIs u b1 13 ∧ xinb y1 (xN u b1)) ∧ zr 99 54 [v0, v1, v2, v3, v4, v5, v6] (.int (xI u b1 (xix y1)) :: st) u P) := zr_Ld k99_53
theorem k99_54 : xcd 99 54 = oIs 4 56 := rfl
theorem r99_54 : zr 99 54 [v0, v1, v2, .int x3, v4, v5, v6] (.int y1 :: st) u P = zr 99 56 [v0, v1, v2, .int x3, .int y1, v5, v6] st u P := zr_Is k99_54 ⟨Nat.le_of_ble_eq_true rfl, rfl⟩
theorem k99_56 : xcd 99 56 = oInc 5 1 59 := rfl
theorem r99_56 : zr 99 56 [v0, v1, v2, v3, .int x4, .int x5, v6] st u P = zr 99 59 [v0, v1, v2, v3, .int x4, .int (x5 + 1), v6] st u P := zr_Inc k99_56 rfl rfl
theorem k99_59 : xcd 99 59 = oGoto 6 := rfl
theorem r99_59 : zr 99 59 [v0, v1, v2, v3, v4, v5, v6] st u P = zr 99 6 [v0, v1, v2, v3, v4, v5, v6] st u P := zr_Goto k99_59
theorem k99_62 : xcd 99 62 = oI 0 63 := rfl
theorem r99_62 : zr 99 62 [v0, v1, v2, v3, v4, v5, v6] st u P = zr 99 63 [v0, v1, v2, v3, v4, v5, v6] (.int 0 :: st) u P := zr_I k99_62
theorem k99_63 : xcd 99 63 = oRi 0 := rfl
theorem r99_63 : zr 99 63 [v0, v1, v2, v3, v4, v5, v6] [.int y1] u P = P (some (.int y1)) u := zr_Ri k99_63
theorem k100_0 : xcd 100 0 = oI 0 1 := rfl
theorem r100_0 : zr 100 0 [v0, v1, v2, v3, v4, v5] st u P = zr 100 1 [v0, v1, v2, v3, v4, v5] (.int 0 :: st) u P := zr_I k100_0
theorem k100_1 : xcd 100 1 = oIs 5 3 := rfl
theorem r100_1 : zr 100 1 [v0, v1, v2, v3, .int x4, v5] (.int y1 :: st) u P = zr 100 3 [v0, v1, v2, v3, .int x4, .int y1] st u P := zr_Is k100_1 ⟨Nat.le_of_ble_eq_true rfl, rfl⟩
theorem k100_3 : xcd 100 3 = oIl 5 5 := rfl
theorem r100_3 : zr 100 3 [v0, v1, v2, v3, v4, .int x5] st u P = zr 100 5 [v0, v1, v2, v3, v4, .int x5] (.int x5 :: st) u P := zr_Il k100_3 rfl
theorem k100_5 : xcd 100 5 = oAl 0 6 := rfl
theorem r100_5 : zr 100 5 [.ref a0, v1, v2, v3, v4, v5] st u P = zr 100 6 [.ref a0, v1, v2, v3, v4, v5] (.ref a0 :: st) u P := zr_Al k100_5 rfl
theorem k100_6 : xcd 100 6 = oGI 9 3 9 := rfl
theorem r100_6 : zr 100 6 [v0, v1, v2, v3, v4, v5] (.ref b1 :: st) u P = (xIs u b1 9 ∧ zr 100 9 [v0, v1, v2, v3, v4, v5] (.int (xI u b1 3) :: st) u P) := zr_GI k100_6
theorem k100_9 : xcd 100 9 = oCmp (fun x y => decide (y ≤ x)) 79 12 := rfl
theorem r100_9 : zr 100 9 [v0, v1, v2, v3, v4, v5] (.int y1 :: .int y2 :: st) u P = (if y1 ≤ y2 then zr 100 79 [v0, v1, v2, v3, v4, v5] st u P else zr 100 12 [v0, v1, v2, v3, v4, v5] st u P) := zr_Cmp k100_9
theorem k100_12 : xcd 100 12 = oAl 0 13 := rfl
theorem r100_12 : zr 100 12 [.ref a0, v1, v2, v3, v4, v5] st u P = zr 100 13 [.ref a0, v1, v2, v3, v4, v5] (.ref a0 :: st) u P := zr_Al k100_12 rfl
theorem k100_13 : xcd 100 13 = oGR 9 4 16 := rfl
theorem r100_13 : zr 100 13 [v0, v1, v2, v3, v4, v5] (.ref b1 :: st) u P = (xIs u b1 9 ∧ ∃ b, xR u b1 4 = some b ∧ zr 100 16 [v0, v1, v2, v3, v4, v5] (.ref b :: st) u P) := zr_GR k100_13
theorem k100_16 : xcd 100 16 = oIl 5 18 := rfl
theorem r100_16 : zr 100 16 [v0, v1, v2, v3, v4, .int x5] st u P = zr 100 18 [v0, v1, v2, v3, v4, .int x5] (.int x5 :: st) u P := zr_Il k100_16 rfl
theorem k100_18 : xcd 100 18 = oLd 13 19 := rfl
theorem r100_18 : zr 100 18 [v0, v1, v2, v3, v4, v5] (.int y1 :: .ref b1 :: st) u P = ((xIs u b1 13 ∧ xinb y1 (xN u b1)) ∧ zr 100 19 [v0, v1, v2, v3, v4, v5] (.int (xI u b1 (xix y1)) :: st) u P) := zr_Ld k100_18
theorem k100_19 : xcd 100 19 = oIl 1 20 := rfl
theorem r100_19 : zr 100 19 [v0, .int x1, v2, v3, v4, v5] st u P = zr 100 20 [v0, .int x1, v2, v3, v4, v5] (.int x1 :: st) u P := zr_Il k100_19 rfl
theorem k100_20 : xcd 100 20 = oCmp (fun x y => decide (¬ x = y)) 73 23 := rfl
theorem r100_20 : zr 100 20 [v0, v1, v2, v3, v4, v5] (.int y1 :: .int y2 :: st) u P = (if ¬ y2 = y1 then zr 100 73 [v0, v1, v2, v3, v4, v5] st u P else zr 100 23 [v0, v1, v2, v3, v4, v5] st u P) := zr_Cmp k100_20
theorem k100_23 : xcd 100 23 = oIl 3 24 := rfl
theorem r100_23 : zr 100 23 [v0, v1, v2, .int x3, v4, v5] st u P = zr 100 24 [v0, v1, v2, .int x3, v4, v5] (.int x3 :: st) u P := zr_Il k100_23 rfl
theorem k100_24 : xcd 100 24 = oAl 0 25 := rfl
theorem r100_24 : zr 100 24 [.ref a0, v1, v2, v3, v4, v5] st u P = zr 100 25 [.ref a0, v1, v2, v3, v4, v5] (.ref a0 :: st) u P := zr_Al k100_24 rfl
theorem k100_25 : xcd 100 25 = oGR 9 6 28 := rfl
theorem r100_25 : zr 100 25 [v0, v1, v2, v3, v4, v5] (.ref b1 :: st) u P = (xIs u b1 9 ∧ ∃ b, xR u b1 6 = some b ∧ zr 100 28 [v0, v1, v2, v3, v4, v5] (.ref b :: st) u P) := zr_GR k100_25
theorem k100_28 : xcd 100 28 = oIl 5 30 := rfl
theorem r100_28 : zr 100 28 [v0, v1, v2, v3, v4, .int x5] st u P = zr 100 30 [v0, v1, v2, v3, v4, .int x5] (.int x5 :: st) u P := zr_Il k100_28 rfl
theorem k100_30 : xcd 100 30 = oLd 13 31 := rfl
theorem r100_30 : zr 100 30 [v0, v1, v2, v3, v4, v5] (.int y1 :: .ref b1 :: st) u P = ((xIs u b1 13 ∧ xinb y1 (xN u b1)) ∧ zr 100 31 [v0, v1, v2, v3, v4, v5] (.int (xI u b1 (xix y1)) :: st) u P) := zr_Ld k100_30
theorem k100_31 : xcd 100 31 = oAl 0 32 := rfl
theorem r100_31 : zr 100 31 [.ref a0, v1, v2, v3, v4, v5] st u P = zr 100 32 [.ref a0, v1, v2, v3, v4, v5] (.ref a0 :: st) u P := zr_Al k100_31 rfl
theorem k100_32 : xcd 100 32 = oGR 9 7 35 := rfl
theorem r100_32 : zr 100 32 [v0, v1, v2, v3, v4, v5] (.ref b1 :: st) u P = (xIs u b1 9 ∧ ∃ b, xR u b1 7 = some b ∧ zr 100 35 [v0, v1, v2, v3, v4, v5] (.ref b :: st) u P) := zr_GR k100_32
theorem k100_35 : xcd 100 35 = oIl 5 37 := rfl
theorem r100_35 : zr 100 35 [v0, v1, v2, v3, v4, .int x5] st u P = zr 100 37 [v0, v1, v2, v3, v4, .int x5] (.int x5 :: st) u P := zr_Il k100_35 rfl
theorem k100_37 : xcd 100 37 = oLd 13 38 := rfl
theorem r100_37 : zr 100 37 [v0, v1, v2, v3, v4, v5] (.int y1 :: .ref b1 :: st) u P = ((xIs u b1 13 ∧ xinb y1 (xN u b1)) ∧ zr 100 38 [v0, v1, v2, v3, v4, v5] (.int (xI u b1 (xix y1)) :: st) u P) := zr_Ld k100_37
theorem k100_38 : xcd 100 38 = oCal 164 3 41 := rfl
theorem r100_38 : zr 100 38 [v0, v1, v2, v3, v4, v5] (.int y3 :: .int y2 :: .int y1 :: st) u P = (xcat st ≤ 8 ∧ zr 164 0 [.int y1, .int y2, .int y3] [] u (fun r u2 => zr 100 41 [v0, v1, v2, v3, v4, v5] (r.toList ++ st) u2 P)) := zr_CS k100_38 (Nat.le_add_left _ _) rfl rfl ⟨Nat.le_of_ble_eq_true rfl, Nat.succ_ne_zero _, by decide⟩ rfl
theorem k100_41 : xcd 100 41 = oIf (fun x => decide (x = 0)) 73 44 := rfl
theorem r100_41 : zr 100 41 [v0, v1, v2, v3, v4, v5] (.int y1 :: st) u P = (if y1 = 0 then zr 100 73 [v0, v1, v2, v3, v4, v5] st u P else zr 100 44 [v0, v1, v2, v3, v4, v5] st u P) := zr_If k100_41
theorem k100_44 : xcd 100 44 = oIl 4 46 := rfl
theorem r100_44 : zr 100 44 [v0, v1, v2, v3, .int x4, v5] st u P = zr 100 46 [v0, v1, v2, v3, .int x4, v5] (.int x4 :: st) u P := zr_Il k100_44 rfl
theorem k100_46 : xcd 100 46 = oAl 0 47 := rfl
theorem r100_46 : zr 100 46 [.ref a0, v1, v2, v3, v4, v5] st u P = zr 100 47 [.ref a0, v1, v2, v3, v4, v5] (.ref a0 :: st) u P := zr_Al k100_46 rfl
theorem k100_47 : xcd 100 47 = oGR 9 8 50 := rfl
theorem r100_47 : zr 100 47 [v0, v1, v2, v3, v4, v5] (.ref b1 :: st) u P = (xIs u b1 9 ∧ ∃ b, xR u b1 8 = some b ∧ zr 100 50 [v0, v1, v2, v3, v4, v5] (.ref b :: st) u P) := zr_GR k100_47
theorem k100_50 : xcd 100 50 = oIl 5 52 := rfl
theorem r100_50 : zr 100 50 [v0, v1, v2, v3, v4, .int x5] st u P = zr 100 52 [v0, v1, v2, v3, v4, .int x5] (.int x5 :: st) u P := zr_Il k100_50 rfl
theorem k100_52 : xcd 100 52 = oLd 13 53 := rfl
theorem r100_52 : zr 100 52 [v0, v1, v2, v3, v4, v5] (.int y1 :: .ref b1 :: st) u P = ((xIs u b1 13 ∧ xinb y1 (xN u b1)) ∧ zr 100 53 [v0, v1, v2, v3, v4, v5] (.int (xI u b1 (xix y1)) :: st) u P) := zr_Ld k100_52
theorem k100_53 : xcd 100 53 = oCmp (fun x y => decide (y < x)) 73 56 := rfl
theorem r100_53 : zr 100 53 [v0, v1, v2, v3, v4, v5] (.int y1 :: .int y2 :: st) u P = (if y1 < y2 then zr 100 73 [v0, v1, v2, v3, v4, v5] st u P else zr 100 56 [v0, v1, v2, v3, v4, v5] st u P) := zr_Cmp k100_53
theorem k100_56 : xcd 100 56 = oAl 0 57 := rfl
theorem r100_56 : zr 100 56 [.ref a0, v1, v2, v3, v4, v5] st u P = zr 100 57 [.ref a0, v1, v2, v3, v4, v5] (.ref a0 :: st) u P := zr_Al k100_56 rfl
theorem k100_57 : xcd 100 57 = oIl 2 58 := rfl
theorem r100_57 : zr 100 57 [v0, v1, .int x2, v3, v4, v5] st u P = zr 100 58 [v0, v1, .int x2, v3, v4, v5] (.int x2 :: st) u P := zr_Il k100_57 rfl
theorem k100_58 : xcd 100 58 = oAl 0 59 := rfl
theorem r100_58 : zr 100 58 [.ref a0, v1, v2, v3, v4, v5] st u P = zr 100 59 [.ref a0, v1, v2, v3, v4, v5] (.ref a0 :: st) u P := zr_Al k100_58 rfl
theorem k100_59 : xcd 100 59 = oGR 9 5 62 := rfl
theorem r100_59 : zr 100 59 [v0, v1, v2, v3, v4, v5] (.ref b1 :: st) u P = (xIs u b1 9 ∧ ∃ b, xR u b1 5 = some b ∧ zr 100 62 [v0, v1, v2, v3, v4, v5] (.ref b :: st) u P) := zr_GR k100_59
theorem k100_62 : xcd 100 62 = oIl 5 64 := rfl
theorem r100_62 : zr 100 62 [v0, v1, v2, v3, v4, .int x5] st u P = zr 100 64 [v0, v1, v2, v3, v4, .int x5] (.int x5 :: st) u P := zr_Il k100_62 rfl
theorem k100_64 : xcd 100 64 = oLd 13 65 := rfl
theorem r100_64 : zr 100 64 [v0, v1, v2, v3, v4, v5] (.int y1 :: .ref b1 :: st) u P = ((xIs u b1 13 ∧ xinb y1 (xN u b1)) ∧ zr 100 65 [v0, v1, v2, v3, v4, v5] (.int (xI u b1 (xix y1)) :: st) u P) := zr_Ld k100_64
theorem k100_65 : xcd 100 65 = oCalV 9 101 2 68 := rfl
theorem r100_65 : zr 100 65 [v0, v1, v2, v3, v4, v5] (.int y2 :: .int y1 :: .ref b8 :: st) u P = ((xIs u b8 9 ∧ xcat st ≤ 8) ∧ zr 101 0 [.ref b8, .int y1, .int y2, .null, .null] [] u (fun r u2 => zr 100 68 [v0, v1, v2, v3, v4, v5] (r.toList ++ st) u2 P)) := zr_CV k100_65 rfl rfl rfl ⟨Nat.le_of_ble_eq_true rfl, Nat.succ_ne_zero _, by decide⟩ rfl
theorem k100_68 : xcd 100 68 = oIf (fun x => decide (x = 0)) 73 71 := rfl
theorem r100_68 : zr 100 68 [v0, v1, v2, v3, v4, v5] (.int y1 :: st) u P = (if y1 = 0 then zr 100 73 [v0, v1, v2, v3, v4, v5] st u P else zr 100 71 [v0, v1, v2, v3, v4, v5] st u P) := zr_If k100_68
theorem k100_71 : xcd 100 71 = oI 1 72 := rfl
theorem r100_71 : zr 100 71 [v0, v1, v2, v3, v4, v5] st u P = zr 100 72 [v0, v1, v2, v3, v4, v5] (.int 1 :: st) u P := zr_I k100_71
theorem k100_72 : xcd 100 72 = oRz 0 := rfl
theorem r100_72 : zr 100 72 [v0, v1, v2, v3, v4, v5] [.int y1] u P = ((y1 = 0 ∨ y1 = 1) ∧ P (some (.int y1)) u) := zr_Rz k100_72
theorem k100_73 : xcd 100 73 = oInc 5 1 76 := rfl
theorem r100_73 : zr 100 73 [v0, v1, v2, v3, .int x4, .int x5] st u P = zr 100 76 [v0, v1, v2, v3, .int x4, .int (x5 + 1)] st u P := zr_Inc k100_73 rfl rfl
theorem k100_76 : xcd 100 76 = oGoto 3 := rfl
theorem r100_76 : zr 100 76 [v0, v1, v2, v3, v4, v5] st u P = zr 100 3 [v0, v1, v2, v3, v4, v5] st u P := zr_Goto k100_76
theorem k100_79 : xcd 100 79 = oI 0 80 := rfl
theorem r100_79 : zr 100 79 [v0, v1, v2, v3, v4, v5] st u P = zr 100 80 [v0, v1, v2, v3, v4, v5] (.int 0 :: st) u P := zr_I k100_79
theorem k100_80 : xcd 100 80 = oRz 0 := rfl
theorem r100_80 : zr 100 80 [v0, v1, v2, v3, v4, v5] [.int y1] u P = ((y1 = 0 ∨ y1 = 1) ∧ P (some (.int y1)) u) := zr_Rz k100_80
theorem k101_0 : xcd 101 0 = oIl 1 1 := rfl
theorem r101_0 : zr 101 0 [v0, .int x1, v2, v3, v4] st u P = zr 101 1 [v0, .int x1, v2, v3, v4] (.int x1 :: st) u P := zr_Il k101_0 rfl
theorem k101_1 : xcd 101 1 = oIs 3 2 := rfl
theorem r101_1 : zr 101 1 [v0, v1, .int x2, v3, v4] (.int y1 :: st) u P = zr 101 2 [v0, v1, .int x2, .int y1, v4] st u P := zr_Is k101_1 ⟨Nat.le_of_ble_eq_true rfl, rfl⟩
theorem k101_2 : xcd 101 2 = oI 0 3 := rfl
theorem r101_2 : zr 101 2 [v0, v1, v2, v3, v4] st u P = zr 101 3 [v0, v1, v2, v3, v4] (.int 0 :: st) u P := zr_I k101_2
theorem k101_3 : xcd 101 3 = oIs 4 5 := rfl
theorem r101_3 : zr 101 3 [v0, v1, v2, .int x3, v4] (.int y1 :: st) u P = zr 101 5 [v0, v1, v2, .int x3, .int y1] st u P := zr_Is k101_3 ⟨Nat.le_of_ble_eq_true rfl, rfl⟩
theorem k101_5 : xcd 101 5 = oIl 4 7 := rfl
theorem r101_5 : zr 101 5 [v0, v1, v2, v3, .int x4] st u P = zr 101 7 [v0, v1, v2, v3, .int x4] (.int x4 :: st) u P := zr_Il k101_5 rfl
theorem k101_7 : xcd 101 7 = oI 6 9 := rfl
theorem r101_7 : zr 101 7 [v0, v1, v2, v3, v4] st u P = zr 101 9 [v0, v1, v2, v3, v4] (.int 6 :: st) u P := zr_I k101_7
theorem k101_9 : xcd 101 9 = oCmp (fun x y => decide (y ≤ x)) 36 12 := rfl
theorem r101_9 : zr 101 9 [v0, v1, v2, v3, v4] (.int y1 :: .int y2 :: st) u P = (if y1 ≤ y2 then zr 101 36 [v0, v1, v2, v3, v4] st u P else zr 101 12 [v0, v1, v2, v3, v4] st u P) := zr_Cmp k101_9
theorem k101_12 : xcd 101 12 = oIl 3 13 := rfl
theorem r101_12 : zr 101 12 [v0, v1, v2, .int x3, v4] st u P = zr 101 13 [v0, v1, v2, .int x3, v4] (.int x3 :: st) u P := zr_Il k101_12 rfl
theorem k101_13 : xcd 101 13 = oIf (fun x => decide (x < 0)) 36 16 := rfl
theorem r101_13 : zr 101 13 [v0, v1, v2, v3, v4] (.int y1 :: st) u P = (if y1 < 0 then zr 101 36 [v0, v1, v2, v3, v4] st u P else zr 101 16 [v0, v1, v2, v3, v4] st u P) := zr_If k101_13
theorem k101_16 : xcd 101 16 = oIl 3 17 := rfl
theorem r101_16 : zr 101 16 [v0, v1, v2, .int x3, v4] st u P = zr 101 17 [v0, v1, v2, .int x3, v4] (.int x3 :: st) u P := zr_Il k101_16 rfl
theorem k101_17 : xcd 101 17 = oIl 2 18 := rfl
theorem r101_17 : zr 101 17 [v0, v1, .int x2, v3, v4] st u P = zr 101 18 [v0, v1, .int x2, v3, v4] (.int x2 :: st) u P := zr_Il k101_17 rfl
theorem k101_18 : xcd 101 18 = oCmp (fun x y => decide (¬ x = y)) 23 21 := rfl
theorem r101_18 : zr 101 18 [v0, v1, v2, v3, v4] (.int y1 :: .int y2 :: st) u P = (if ¬ y2 = y1 then zr 101 23 [v0, v1, v2, v3, v4] st u P else zr 101 21 [v0, v1, v2, v3, v4] st u P) := zr_Cmp k101_18
theorem k101_21 : xcd 101 21 = oI 1 22 := rfl
theorem r101_21 : zr 101 21 [v0, v1, v2, v3, v4] st u P = zr 101 22 [v0, v1, v2, v3, v4] (.int 1 :: st) u P := zr_I k101_21
theorem k101_22 : xcd 101 22 = oRz 0 := rfl
theorem r101_22 : zr 101 22 [v0, v1, v2, v3, v4] [.int y1] u P = ((y1 = 0 ∨ y1 = 1) ∧ P (some (.int y1)) u) := zr_Rz k101_22
theorem k101_23 : xcd 101 23 = oAl 0 24 := rfl
theorem r101_23 : zr 101 23 [.ref a0, v1, v2, v3, v4] st u P = zr 101 24 [.ref a0, v1, v2, v3, v4] (.ref a0 :: st) u P := zr_Al k101_23 rfl
theorem k101_24 : xcd 101 24 = oGR 9 1 27 := rfl
theorem r101_24 : zr 101 24 [v0, v1, v2, v3, v4] (.ref b1 :: st) u P = (xIs u b1 9 ∧ ∃ b, xR u b1 1 = some b ∧ zr 101 27 [v0, v1, v2, v3, v4] (.ref b :: st) u P) := zr_GR k101_24
theorem k101_27 : xcd 101 27 = oIl 3 28 := rfl
theorem r101_27 : zr 101 27 [v0, v1, v2, .int x3, v4] st u P = zr 101 28 [v0, v1, v2, .int x3, v4] (.int x3 :: st) u P := zr_Il k101_27 rfl
theorem k101_28 : xcd 101 28 = oLd 13 29 := rfl
theorem r101_28 : zr 101 28 [v0, v1, v2, v3, v4] (.int y1 :: .ref b1 :: st) u P = ((xIs u b1 13 ∧ xinb y1 (xN u b1)) ∧ zr 101 29 [v0, v1, v2, v3, v4] (.int (xI u b1 (xix y1)) :: st) u P) := zr_Ld k101_28
theorem k101_29 : xcd 101 29 = oIs 3 30 := rfl
theorem r101_29 : zr 101 29 [v0, v1, .int x2, v3, v4] (.int y1 :: st) u P = zr 101 30 [v0, v1, .int x2, .int y1, v4] st u P := zr_Is k101_29 ⟨Nat.le_of_ble_eq_true rfl, rfl⟩
theorem k101_30 : xcd 101 30 = oInc 4 1 33 := rfl
theorem r101_30 : zr 101 30 [v0, v1, v2, .int x3, .int x4] st u P = zr 101 33 [v0, v1, v2, .int x3, .int (x4 + 1)] st u P := zr_Inc k101_30 rfl rfl
theorem k101_33 : xcd 101 33 = oGoto 5 := rfl
theorem r101_33 : zr 101 33 [v0, v1, v2, v3, v4] st u P = zr 101 5 [v0, v1, v2, v3, v4] st u P := zr_Goto k101_33
theorem k101_36 : xcd 101 36 = oI 0 37 := rfl
theorem r101_36 : zr 101 36 [v0, v1, v2, v3, v4] st u P = zr 101 37 [v0, v1, v2, v3, v4] (.int 0 :: st) u P := zr_I k101_36
theorem k101_37 : xcd 101 37 = oRz 0 := rfl
theorem r101_37 : zr 101 37 [v0, v1, v2, v3, v4] [.int y1] u P = ((y1 = 0 ∨ y1 = 1) ∧ P (some (.int y1)) u) := zr_Rz k101_37
theorem k102_0 : xcd 102 0 = oIl 2 1 := rfl
theorem r102_0 : zr 102 0 [v0, v1, .int x2, v3, v4, v5] st u P = zr 102 1 [v0, v1, .int x2, v3, v4, v5] (.int x2 :: st) u P := zr_Il k102_0 rfl
theorem k102_1 : xcd 102 1 = oIs 3 2 := rfl
theorem r102_1 : zr 102 1 [v0, v1, .int x2, v3, v4, v5] (.int y1 :: st) u P = zr 102 2 [v0, v1, .int x2, .int y1, v4, v5] st u P := zr_Is k102_1 ⟨Nat.le_of_ble_eq_true rfl, rfl⟩
theorem k102_2 : xcd 102 2 = oI 0 3 := rfl
theorem r102_2 : zr 102 2 [v0, v1, v2, v3, v4, v5] st u P = zr 102 3 [v0, v1, v2, v3, v4, v5] (.int 0 :: st) u P := zr_I k102_2
theorem k102_3 : xcd 102 3 = oIs 4 5 := rfl
theorem r102_3 : zr 102 3 [v0, v1, v2, .int x3, v4, v5] (.int y1 :: st) u P = zr 102 5 [v0, v1, v2, .int x3, .int y1, v5] st u P := zr_Is k102_3 ⟨Nat.le_of_ble_eq_true rfl, rfl⟩
theorem k102_5 : xcd 102 5 = oIl 4 7 := rfl
theorem r102_5 : zr 102 5 [v0, v1, v2, v3, .int x4, v5] st u P = zr 102 7 [v0, v1, v2, v3, .int x4, v5] (.int x4 :: st) u P := zr_Il k102_5 rfl
theorem k102_7 : xcd 102 7 = oI 6 9 := rfl
theorem r102_7 : zr 102 7 [v0, v1, v2, v3, v4, v5] st u P = zr 102 9 [v0, v1, v2, v3, v4, v5] (.int 6 :: st) u P := zr_I k102_7
theorem k102_9 : xcd 102 9 = oCmp (fun x y => decide (y ≤ x)) 50 12 := rfl
theorem r102_9 : zr 102 9 [v0, v1, v2, v3, v4, v5] (.int y1 :: .int y2 :: st) u P = (if y1 ≤ y2 then zr 102 50 [v0, v1, v2, v3, v4, v5] st u P else zr 102 12 [v0, v1, v2, v3, v4, v5] st u P) := zr_Cmp k102_9
theorem k102_12 : xcd 102 12 = oIl 3 13 := rfl
theorem r102_12 : zr 102 12 [v0, v1, v2, .int x3, v4, v5] st u P = zr 102 13 [v0, v1, v2, .int x3, v4, v5] (.int x3 :: st) u P := zr_Il k102_12 rfl
theorem k102_13 : xcd 102 13 = oIf (fun x => decide (x < 0)) 50 16 := rfl
theorem r102_13 : zr 102 13 [v0, v1, v2, v3, v4, v5] (.int y1 :: st) u P = (if y1 < 0 then zr 102 50 [v0, v1, v2, v3, v4, v5] st u P else zr 102 16 [v0, v1, v2, v3, v4, v5] st u P) := zr_If k102_13
theorem k102_16 : xcd 102 16 = oAl 0 17 := rfl
theorem r102_16 : zr 102 16 [.ref a0, v1, v2, v3, v4, v5] st u P = zr 102 17 [.ref a0, v1, v2, v3, v4, v5] (.ref a0 :: st) u P := zr_Al k102_16 rfl
theorem k102_17 : xcd 102 17 = oIl 1 18 := rfl
theorem r102_17 : zr 102 17 [v0, .int x1, v2, v3, v4, v5] st u P = zr 102 18 [v0, .int x1, v2, v3, v4, v5] (.int x1 :: st) u P := zr_Il k102_17 rfl
theorem k102_18 : xcd 102 18 = oIl 3 19 := rfl
theorem r102_18 : zr 102 18 [v0, v1, v2, .int x3, v4, v5] st u P = zr 102 19 [v0, v1, v2, .int x3, v4, v5] (.int x3 :: st) u P := zr_Il k102_18 rfl
theorem k102_19 : xcd 102 19 = oCalV 9 103 2 22 := rfl
theorem r102_19 : zr 102 19 [v0, v1, v2, v3, v4, v5] (.int y2 :: .int y1 :: .ref b8 :: st) u P = ((xIs u b8 9 ∧ xcat st ≤ 8) ∧ zr 103 0 [.ref b8, .int y1, .int y2, .null] [] u (fun r u2 => zr 102 22 [v0, v1, v2, v3, v4, v5] (r.toList ++ st) u2 P)) := zr_CV k102_19 rfl rfl rfl ⟨Nat.le_of_ble_eq_true rfl, Nat.succ_ne_zero _, by decide⟩ rfl
theorem k102_22 : xcd 102 22 = oIs 5 24 := rfl
theorem r102_22 : zr 102 22 [v0, v1, v2, v3, .int x4, v5] (.int y1 :: st) u P = zr 102 24 [v0, v1, v2, v3, .int x4, .int y1] st u P := zr_Is k102_22 ⟨Nat.le_of_ble_eq_true rfl, rfl⟩
theorem k102_24 : xcd 102 24 = oIl 5 26 := rfl
theorem r102_24 : zr 102 24 [v0, v1, v2, v3, v4, .int x5] st u P = zr 102 26 [v0, v1, v2, v3, v4, .int x5] (.int x5 :: st) u P := zr_Il k102_24 rfl
theorem k102_26 : xcd 102 26 = oIf (fun x => decide (x < 0)) 37 29 := rfl
theorem r102_26 : zr 102 26 [v0, v1, v2, v3, v4, v5] (.int y1 :: st) u P = (if y1 < 0 then zr 102 37 [v0, v1, v2, v3, v4, v5] st u P else zr 102 29 [v0, v1, v2, v3, v4, v5] st u P) := zr_If k102_26
theorem k102_29 : xcd 102 29 = oAl 0 30 := rfl
theorem r102_29 : zr 102 29 [.ref a0, v1, v2, v3, v4, v5] st u P = zr 102 30 [.ref a0, v1, v2, v3, v4, v5] (.ref a0 :: st) u P := zr_Al k102_29 rfl
theorem k102_30 : xcd 102 30 = oGR 9 12 33 := rfl
theorem r102_30 : zr 102 30 [v0, v1, v2, v3, v4, v5] (.ref b1 :: st) u P = (xIs u b1 9 ∧ ∃ b, xR u b1 12 = some b ∧ zr 102 33 [v0, v1, v2, v3, v4, v5] (.ref b :: st) u P) := zr_GR k102_30
theorem k102_33 : xcd 102 33 = oIl 5 35 := rfl
theorem r102_33 : zr 102 33 [v0, v1, v2, v3, v4, .int x5] st u P = zr 102 35 [v0, v1, v2, v3, v4, .int x5] (.int x5 :: st) u P := zr_Il k102_33 rfl
theorem k102_35 : xcd 102 35 = oLd 13 36 := rfl
theorem r102_35 : zr 102 35 [v0, v1, v2, v3, v4, v5] (.int y1 :: .ref b1 :: st) u P = ((xIs u b1 13 ∧ xinb y1 (xN u b1)) ∧ zr 102 36 [v0, v1, v2, v3, v4, v5] (.int (xI u b1 (xix y1)) :: st) u P) := zr_Ld k102_35
theorem k102_36 : xcd 102 36 = oRi 0 := rfl
theorem r102_36 : zr 102 36 [v0, v1, v2, v3, v4, v5] [.int y1] u P = P (some (.int y1)) u := zr_Ri k102_36
theorem k102_37 : xcd 102 37 = oAl 0 38 := rfl
theorem r102_37 : zr 102 37 [.ref a0, v1, v2, v3, v4, v5] st u P = zr 102 38 [.ref a0, v1, v2, v3, v4, v5] (.ref a0 :: st) u P := zr_Al k102_37 rfl
theorem k102_38 : xcd 102 38 = oGR 9 1 41 := rfl
theorem r102_38 : zr 102 38 [v0, v1, v2, v3, v4, v5] (.ref b1 :: st) u P = (xIs u b1 9 ∧ ∃ b, xR u b1 1 = some b ∧ zr 102 41 [v0, v1, v2, v3, v4, v5] (.ref b :: st) u P) := zr_GR k102_38
theorem k102_41 : xcd 102 41 = oIl 3 42 := rfl
theorem r102_41 : zr 102 41 [v0, v1, v2, .int x3, v4, v5] st u P = zr 102 42 [v0, v1, v2, .int x3, v4, v5] (.int x3 :: st) u P := zr_Il k102_41 rfl
theorem k102_42 : xcd 102 42 = oLd 13 43 := rfl
theorem r102_42 : zr 102 42 [v0, v1, v2, v3, v4, v5] (.int y1 :: .ref b1 :: st) u P = ((xIs u b1 13 ∧ xinb y1 (xN u b1)) ∧ zr 102 43 [v0, v1, v2, v3, v4, v5] (.int (xI u b1 (xix y1)) :: st) u P) := zr_Ld k102_42
theorem k102_43 : xcd 102 43 = oIs 3 44 := rfl
theorem r102_43 : zr 102 43 [v0, v1, .int x2, v3, v4, v5] (.int y1 :: st) u P = zr 102 44 [v0, v1, .int x2, .int y1, v4, v5] st u P := zr_Is k102_43 ⟨Nat.le_of_ble_eq_true rfl, rfl⟩
theorem k102_44 : xcd 102 44 = oInc 4 1 47 := rfl
theorem r102_44 : zr 102 44 [v0, v1, v2, .int x3, .int x4, v5] st u P = zr 102 47 [v0, v1, v2, .int x3, .int (x4 + 1), v5] st u P := zr_Inc k102_44 rfl rfl
theorem k102_47 : xcd 102 47 = oGoto 5 := rfl
theorem r102_47 : zr 102 47 [v0, v1, v2, v3, v4, v5] st u P = zr 102 5 [v0, v1, v2, v3, v4, v5] st u P := zr_Goto k102_47
theorem k102_50 : xcd 102 50 = oI (-2) 52 := rfl
theorem r102_50 : zr 102 50 [v0, v1, v2, v3, v4, v5] st u P = zr 102 52 [v0, v1, v2, v3, v4, v5] (.int (-2) :: st) u P := zr_I k102_50
theorem k102_52 : xcd 102 52 = oRi 0 := rfl
theorem r102_52 : zr 102 52 [v0, v1, v2, v3, v4, v5] [.int y1] u P = P (some (.int y1)) u := zr_Ri k102_52
theorem k103_0 : xcd 103 0 = oI 0 1 := rfl
theorem r103_0 : zr 103 0 [v0, v1, v2, v3] st u P = zr 103 1 [v0, v1, v2, v3] (.int 0 :: st) u P := zr_I k103_0
theorem k103_1 : xcd 103 1 = oIs 3 2 := rfl
theorem r103_1 : zr 103 1 [v0, v1, .int x2, v3] (.int y1 :: st) u P = zr 103 2 [v0, v1, .int x2, .int y1] st u P := zr_Is k103_1 ⟨Nat.le_of_ble_eq_true rfl, rfl⟩
theorem k103_2 : xcd 103 2 = oIl 3 3 := rfl
theorem r103_2 : zr 103 2 [v0, v1, v2, .int x3] st u P = zr 103 3 [v0, v1, v2, .int x3] (.int x3 :: st) u P := zr_Il k103_2 rfl
theorem k103_3 : xcd 103 3 = oAl 0 4 := rfl
theorem r103_3 : zr 103 3 [.ref a0, v1, v2, v3] st u P = zr 103 4 [.ref a0, v1, v2, v3] (.ref a0 :: st) u P := zr_Al k103_3 rfl
theorem k103_4 : xcd 103 4 = oGI 9 9 7 := rfl
theorem r103_4 : zr 103 4 [v0, v1, v2, v3] (.ref b1 :: st) u P = (xIs u b1 9 ∧ zr 103 7 [v0, v1, v2, v3] (.int (xI u b1 9) :: st) u P) := zr_GI k103_4
theorem k103_7 : xcd 103 7 = oCmp (fun x y => decide (y ≤ x)) 38 10 := rfl
theorem r103_7 : zr 103 7 [v0, v1, v2, v3] (.int y1 :: .int y2 :: st) u P = (if y1 ≤ y2 then zr 103 38 [v0, v1, v2, v3] st u P else zr 103 10 [v0, v1, v2, v3] st u P) := zr_Cmp k103_7
theorem k103_10 : xcd 103 10 = oAl 0 11 := rfl
theorem r103_10 : zr 103 10 [.ref a0, v1, v2, v3] st u P = zr 103 11 [.ref a0, v1, v2, v3] (.ref a0 :: st) u P := zr_Al k103_10 rfl
theorem k103_11 : xcd 103 11 = oGR 9 10 14 := rfl
theorem r103_11 : zr 103 11 [v0, v1, v2, v3] (.ref b1 :: st) u P = (xIs u b1 9 ∧ ∃ b, xR u b1 10 = some b ∧ zr 103 14 [v0, v1, v2, v3] (.ref b :: st) u P) := zr_GR k103_11
theorem k103_14 : xcd 103 14 = oIl 3 15 := rfl
theorem r103_14 : zr 103 14 [v0, v1, v2, .int x3] st u P = zr 103 15 [v0, v1, v2, .int x3] (.int x3 :: st) u P := zr_Il k103_14 rfl
theorem k103_15 : xcd 103 15 = oLd 13 16 := rfl
theorem r103_15 : zr 103 15 [v0, v1, v2, v3] (.int y1 :: .ref b1 :: st) u P = ((xIs u b1 13 ∧ xinb y1 (xN u b1)) ∧ zr 103 16 [v0, v1, v2, v3] (.int (xI u b1 (xix y1)) :: st) u P) := zr_Ld k103_15
theorem k103_16 : xcd 103 16 = oIl 1 17 := rfl
theorem r103_16 : zr 103 16 [v0, .int x1, v2, v3] st u P = zr 103 17 [v0, .int x1, v2, v3] (.int x1 :: st) u P := zr_Il k103_16 rfl
theorem k103_17 : xcd 103 17 = oCmp (fun x y => decide (¬ x = y)) 32 20 := rfl
theorem r103_17 : zr 103 17 [v0, v1, v2, v3] (.int y1 :: .int y2 :: st) u P = (if ¬ y2 = y1 then zr 103 32 [v0, v1, v2, v3] st u P else zr 103 20 [v0, v1, v2, v3] st u P) := zr_Cmp k103_17
theorem k103_20 : xcd 103 20 = oAl 0 21 := rfl
theorem r103_20 : zr 103 20 [.ref a0, v1, v2, v3] st u P = zr 103 21 [.ref a0, v1, v2, v3] (.ref a0 :: st) u P := zr_Al k103_20 rfl
theorem k103_21 : xcd 103 21 = oGR 9 11 24 := rfl
theorem r103_21 : zr 103 21 [v0, v1, v2, v3] (.ref b1 :: st) u P = (xIs u b1 9 ∧ ∃ b, xR u b1 11 = some b ∧ zr 103 24 [v0, v1, v2, v3] (.ref b :: st) u P) := zr_GR k103_21
theorem k103_24 : xcd 103 24 = oIl 3 25 := rfl
theorem r103_24 : zr 103 24 [v0, v1, v2, .int x3] st u P = zr 103 25 [v0, v1, v2, .int x3] (.int x3 :: st) u P := zr_Il k103_24 rfl
theorem k103_25 : xcd 103 25 = oLd 13 26 := rfl
theorem r103_25 : zr 103 25 [v0, v1, v2, v3] (.int y1 :: .ref b1 :: st) u P = ((xIs u b1 13 ∧ xinb y1 (xN u b1)) ∧ zr 103 26 [v0, v1, v2, v3] (.int (xI u b1 (xix y1)) :: st) u P) := zr_Ld k103_25
theorem k103_26 : xcd 103 26 = oIl 2 27 := rfl
theorem r103_26 : zr 103 26 [v0, v1, .int x2, v3] st u P = zr 103 27 [v0, v1, .int x2, v3] (.int x2 :: st) u P := zr_Il k103_26 rfl
theorem k103_27 : xcd 103 27 = oCmp (fun x y => decide (¬ x = y)) 32 30 := rfl
theorem r103_27 : zr 103 27 [v0, v1, v2, v3] (.int y1 :: .int y2 :: st) u P = (if ¬ y2 = y1 then zr 103 32 [v0, v1, v2, v3] st u P else zr 103 30 [v0, v1, v2, v3] st u P) := zr_Cmp k103_27
theorem k103_30 : xcd 103 30 = oIl 3 31 := rfl
theorem r103_30 : zr 103 30 [v0, v1, v2, .int x3] st u P = zr 103 31 [v0, v1, v2, .int x3] (.int x3 :: st) u P := zr_Il k103_30 rfl
theorem k103_31 : xcd 103 31 = oRi 0 := rfl
theorem r103_31 : zr 103 31 [v0, v1, v2, v3] [.int y1] u P = P (some (.int y1)) u := zr_Ri k103_31
theorem k103_32 : xcd 103 32 = oInc 3 1 35 := rfl
theorem r103_32 : zr 103 32 [v0, v1, .int x2, .int x3] st u P = zr 103 35 [v0, v1, .int x2, .int (x3 + 1)] st u P := zr_Inc k103_32 rfl rfl
theorem k103_35 : xcd 103 35 = oGoto 2 := rfl
theorem r103_35 : zr 103 35 [v0, v1, v2, v3] st u P = zr 103 2 [v0, v1, v2, v3] st u P := zr_Goto k103_35
theorem k103_38 : xcd 103 38 = oI (-1) 39 := rfl
theorem r103_38 : zr 103 38 [v0, v1, v2, v3] st u P = zr 103 39 [v0, v1, v2, v3] (.int (-1) :: st) u P := zr_I k103_38
theorem k103_39 : xcd 103 39 = oRi 0 := rfl
theorem r103_39 : zr 103 39 [v0, v1, v2, v3] [.int y1] u P = P (some (.int y1)) u := zr_Ri k103_39
theorem k104_0 : xcd 104 0 = oI 1000 3 := rfl
theorem r104_0 : zr 104 0 [v0, v1, v2, v3] st u P = zr 104 3 [v0, v1, v2, v3] (.int 1000 :: st) u P := zr_I k104_0
theorem k104_3 : xcd 104 3 = oIs 2 4 := rfl
theorem r104_3 : zr 104 3 [v0, .int x1, v2, v3] (.int y1 :: st) u P = zr 104 4 [v0, .int x1, .int y1, v3] st u P := zr_Is k104_3 ⟨Nat.le_of_ble_eq_true rfl, rfl⟩
theorem k104_4 : xcd 104 4 = oI 0 5 := rfl
theorem r104_4 : zr 104 4 [v0, v1, v2, v3] st u P = zr 104 5 [v0, v1, v2, v3] (.int 0 :: st) u P := zr_I k104_4
theorem k104_5 : xcd 104 5 = oIs 3 6 := rfl
theorem r104_5 : zr 104 5 [v0, v1, .int x2, v3] (.int y1 :: st) u P = zr 104 6 [v0, v1, .int x2, .int y1] st u P := zr_Is k104_5 ⟨Nat.le_of_ble_eq_true rfl, rfl⟩
theorem k104_6 : xcd 104 6 = oIl 3 7 := rfl
theorem r104_6 : zr 104 6 [v0, v1, v2, .int x3] st u P = zr 104 7 [v0, v1, v2, .int x3] (.int x3 :: st) u P := zr_Il k104_6 rfl
theorem k104_7 : xcd 104 7 = oAl 0 8 := rfl
theorem r104_7 : zr 104 7 [.ref a0, v1, v2, v3] st u P = zr 104 8 [.ref a0, v1, v2, v3] (.ref a0 :: st) u P := zr_Al k104_7 rfl
theorem k104_8 : xcd 104 8 = oGR 9 2 11 := rfl
theorem r104_8 : zr 104 8 [v0, v1, v2, v3] (.ref b1 :: st) u P = (xIs u b1 9 ∧ ∃ b, xR u b1 2 = some b ∧ zr 104 11 [v0, v1, v2, v3] (.ref b :: st) u P) := zr_GR k104_8
theorem k104_11 : xcd 104 11 = oGI 6 0 14 := rfl
theorem r104_11 : zr 104 11 [v0, v1, v2, v3] (.ref b1 :: st) u P = (xIs u b1 6 ∧ zr 104 14 [v0, v1, v2, v3] (.int (xI u b1 0) :: st) u P) := zr_GI k104_11
theorem k104_14 : xcd 104 14 = oCmp (fun x y => decide (y ≤ x)) 38 17 := rfl
theorem r104_14 : zr 104 14 [v0, v1, v2, v3] (.int y1 :: .int y2 :: st) u P = (if y1 ≤ y2 then zr 104 38 [v0, v1, v2, v3] st u P else zr 104 17 [v0, v1, v2, v3] st u P) := zr_Cmp k104_14
theorem k104_17 : xcd 104 17 = oIl 2 18 := rfl
theorem r104_17 : zr 104 17 [v0, v1, .int x2, v3] st u P = zr 104 18 [v0, v1, .int x2, v3] (.int x2 :: st) u P := zr_Il k104_17 rfl
theorem k104_18 : xcd 104 18 = oIl 1 19 := rfl
theorem r104_18 : zr 104 18 [v0, .int x1, v2, v3] st u P = zr 104 19 [v0, .int x1, v2, v3] (.int x1 :: st) u P := zr_Il k104_18 rfl
theorem k104_19 : xcd 104 19 = oAl 0 20 := rfl
theorem r104_19 : zr 104 19 [.ref a0, v1, v2, v3] st u P = zr 104 20 [.ref a0, v1, v2, v3] (.ref a0 :: st) u P := zr_Al k104_19 rfl
theorem k104_20 : xcd 104 20 = oGR 9 2 23 := rfl
theorem r104_20 : zr 104 20 [v0, v1, v2, v3] (.ref b1 :: st) u P = (xIs u b1 9 ∧ ∃ b, xR u b1 2 = some b ∧ zr 104 23 [v0, v1, v2, v3] (.ref b :: st) u P) := zr_GR k104_20
theorem k104_23 : xcd 104 23 = oGR 6 3 26 := rfl
theorem r104_23 : zr 104 23 [v0, v1, v2, v3] (.ref b1 :: st) u P = (xIs u b1 6 ∧ ∃ b, xR u b1 3 = some b ∧ zr 104 26 [v0, v1, v2, v3] (.ref b :: st) u P) := zr_GR k104_23
theorem k104_26 : xcd 104 26 = oIl 3 27 := rfl
theorem r104_26 : zr 104 26 [v0, v1, v2, .int x3] st u P = zr 104 27 [v0, v1, v2, .int x3] (.int x3 :: st) u P := zr_Il k104_26 rfl
theorem k104_27 : xcd 104 27 = oLd 13 28 := rfl
theorem r104_27 : zr 104 27 [v0, v1, v2, v3] (.int y1 :: .ref b1 :: st) u P = ((xIs u b1 13 ∧ xinb y1 (xN u b1)) ∧ zr 104 28 [v0, v1, v2, v3] (.int (xI u b1 (xix y1)) :: st) u P) := zr_Ld k104_27
theorem k104_28 : xcd 104 28 = oCal 105 3 31 := rfl
theorem r104_28 : zr 104 28 [v0, v1, v2, v3] (.int y3 :: .int y2 :: .int y1 :: st) u P = (xcat st ≤ 8 ∧ zr 105 0 [.int y1, .int y2, .int y3] [] u (fun r u2 => zr 104 31 [v0, v1, v2, v3] (r.toList ++ st) u2 P)) := zr_CS k104_28 (Nat.le_add_left _ _) rfl rfl ⟨Nat.le_of_ble_eq_true rfl, Nat.succ_ne_zero _, by decide⟩ rfl
theorem k104_31 : xcd 104 31 = oIs 2 32 := rfl
theorem r104_31 : zr 104 31 [v0, .int x1, v2, v3] (.int y1 :: st) u P = zr 104 32 [v0, .int x1, .int y1, v3] st u P := zr_Is k104_31 ⟨Nat.le_of_ble_eq_true rfl, rfl⟩
theorem k104_32 : xcd 104 32 = oInc 3 1 35 := rfl
theorem r104_32 : zr 104 32 [v0, v1, .int x2, .int x3] st u P = zr 104 35 [v0, v1, .int x2, .int (x3 + 1)] st u P := zr_Inc k104_32 rfl rfl
theorem k104_35 : xcd 104 35 = oGoto 6 := rfl
theorem r104_35 : zr 104 35 [v0, v1, v2, v3] st u P = zr 104 6 [v0, v1, v2, v3] st u P := zr_Goto k104_35
theorem k104_38 : xcd 104 38 = oI 0 39 := rfl
theorem r104_38 : zr 104 38 [v0, v1, v2, v3] st u P = zr 104 39 [v0, v1, v2, v3] (.int 0 :: st) u P := zr_I k104_38
theorem k104_39 : xcd 104 39 = oIs 3 40 := rfl
theorem r104_39 : zr 104 39 [v0, v1, .int x2, v3] (.int y1 :: st) u P = zr 104 40 [v0, v1, .int x2, .int y1] st u P := zr_Is k104_39 ⟨Nat.le_of_ble_eq_true rfl, rfl⟩
theorem k104_40 : xcd 104 40 = oIl 3 41 := rfl
theorem r104_40 : zr 104 40 [v0, v1, v2, .int x3] st u P = zr 104 41 [v0, v1, v2, .int x3] (.int x3 :: st) u P := zr_Il k104_40 rfl
theorem k104_41 : xcd 104 41 = oAl 0 42 := rfl
theorem r104_41 : zr 104 41 [.ref a0, v1, v2, v3] st u P = zr 104 42 [.ref a0, v1, v2, v3] (.ref a0 :: st) u P := zr_Al k104_41 rfl
theorem k104_42 : xcd 104 42 = oGI 9 3 45 := rfl
theorem r104_42 : zr 104 42 [v0, v1, v2, v3] (.ref b1 :: st) u P = (xIs u b1 9 ∧ zr 104 45 [v0, v1, v2, v3] (.int (xI u b1 3) :: st) u P) := zr_GI k104_42
theorem k104_45 : xcd 104 45 = oCmp (fun x y => decide (y ≤ x)) 80 48 := rfl
theorem r104_45 : zr 104 45 [v0, v1, v2, v3] (.int y1 :: .int y2 :: st) u P = (if y1 ≤ y2 then zr 104 80 [v0, v1, v2, v3] st u P else zr 104 48 [v0, v1, v2, v3] st u P) := zr_Cmp k104_45
theorem k104_48 : xcd 104 48 = oIl 2 49 := rfl
theorem r104_48 : zr 104 48 [v0, v1, .int x2, v3] st u P = zr 104 49 [v0, v1, .int x2, v3] (.int x2 :: st) u P := zr_Il k104_48 rfl
theorem k104_49 : xcd 104 49 = oIl 1 50 := rfl
theorem r104_49 : zr 104 49 [v0, .int x1, v2, v3] st u P = zr 104 50 [v0, .int x1, v2, v3] (.int x1 :: st) u P := zr_Il k104_49 rfl
theorem k104_50 : xcd 104 50 = oAl 0 51 := rfl
theorem r104_50 : zr 104 50 [.ref a0, v1, v2, v3] st u P = zr 104 51 [.ref a0, v1, v2, v3] (.ref a0 :: st) u P := zr_Al k104_50 rfl
theorem k104_51 : xcd 104 51 = oGR 9 6 54 := rfl
theorem r104_51 : zr 104 51 [v0, v1, v2, v3] (.ref b1 :: st) u P = (xIs u b1 9 ∧ ∃ b, xR u b1 6 = some b ∧ zr 104 54 [v0, v1, v2, v3] (.ref b :: st) u P) := zr_GR k104_51
theorem k104_54 : xcd 104 54 = oIl 3 55 := rfl
theorem r104_54 : zr 104 54 [v0, v1, v2, .int x3] st u P = zr 104 55 [v0, v1, v2, .int x3] (.int x3 :: st) u P := zr_Il k104_54 rfl
theorem k104_55 : xcd 104 55 = oLd 13 56 := rfl
theorem r104_55 : zr 104 55 [v0, v1, v2, v3] (.int y1 :: .ref b1 :: st) u P = ((xIs u b1 13 ∧ xinb y1 (xN u b1)) ∧ zr 104 56 [v0, v1, v2, v3] (.int (xI u b1 (xix y1)) :: st) u P) := zr_Ld k104_55
theorem k104_56 : xcd 104 56 = oCal 105 3 59 := rfl
theorem r104_56 : zr 104 56 [v0, v1, v2, v3] (.int y3 :: .int y2 :: .int y1 :: st) u P = (xcat st ≤ 8 ∧ zr 105 0 [.int y1, .int y2, .int y3] [] u (fun r u2 => zr 104 59 [v0, v1, v2, v3] (r.toList ++ st) u2 P)) := zr_CS k104_56 (Nat.le_add_left _ _) rfl rfl ⟨Nat.le_of_ble_eq_true rfl, Nat.succ_ne_zero _, by decide⟩ rfl
theorem k104_59 : xcd 104 59 = oIs 2 60 := rfl
theorem r104_59 : zr 104 59 [v0, .int x1, v2, v3] (.int y1 :: st) u P = zr 104 60 [v0, .int x1, .int y1, v3] st u P := zr_Is k104_59 ⟨Nat.le_of_ble_eq_true rfl, rfl⟩
theorem k104_60 : xcd 104 60 = oIl 2 61 := rfl
theorem r104_60 : zr 104 60 [v0, v1, .int x2, v3] st u P = zr 104 61 [v0, v1, .int x2, v3] (.int x2 :: st) u P := zr_Il k104_60 rfl
theorem k104_61 : xcd 104 61 = oIl 1 62 := rfl
theorem r104_61 : zr 104 61 [v0, .int x1, v2, v3] st u P = zr 104 62 [v0, .int x1, v2, v3] (.int x1 :: st) u P := zr_Il k104_61 rfl
theorem k104_62 : xcd 104 62 = oAl 0 63 := rfl
theorem r104_62 : zr 104 62 [.ref a0, v1, v2, v3] st u P = zr 104 63 [.ref a0, v1, v2, v3] (.ref a0 :: st) u P := zr_Al k104_62 rfl
theorem k104_63 : xcd 104 63 = oGR 9 7 66 := rfl
theorem r104_63 : zr 104 63 [v0, v1, v2, v3] (.ref b1 :: st) u P = (xIs u b1 9 ∧ ∃ b, xR u b1 7 = some b ∧ zr 104 66 [v0, v1, v2, v3] (.ref b :: st) u P) := zr_GR k104_63
theorem k104_66 : xcd 104 66 = oIl 3 67 := rfl
theorem r104_66 : zr 104 66 [v0, v1, v2, .int x3] st u P = zr 104 67 [v0, v1, v2, .int x3] (.int x3 :: st) u P := zr_Il k104_66 rfl
theorem k104_67 : xcd 104 67 = oLd 13 68 := rfl
theorem r104_67 : zr 104 67 [v0, v1, v2, v3] (.int y1 :: .ref b1 :: st) u P = ((xIs u b1 13 ∧ xinb y1 (xN u b1)) ∧ zr 104 68 [v0, v1, v2, v3] (.int (xI u b1 (xix y1)) :: st) u P) := zr_Ld k104_67
theorem k104_68 : xcd 104 68 = oI 1 69 := rfl
theorem r104_68 : zr 104 68 [v0, v1, v2, v3] st u P = zr 104 69 [v0, v1, v2, v3] (.int 1 :: st) u P := zr_I k104_68
theorem k104_69 : xcd 104 69 = oB (fun x y => x + y) 70 := rfl
theorem r104_69 : zr 104 69 [v0, v1, v2, v3] (.int y1 :: .int y2 :: st) u P = zr 104 70 [v0, v1, v2, v3] (.int (y2 + y1) :: st) u P := zr_B k104_69
theorem k104_70 : xcd 104 70 = oCal 105 3 73 := rfl
theorem r104_70 : zr 104 70 [v0, v1, v2, v3] (.int y3 :: .int y2 :: .int y1 :: st) u P = (xcat st ≤ 8 ∧ zr 105 0 [.int y1, .int y2, .int y3] [] u (fun r u2 => zr 104 73 [v0, v1, v2, v3] (r.toList ++ st) u2 P)) := zr_CS k104_70 (Nat.le_add_left _ _) rfl rfl ⟨Nat.le_of_ble_eq_true rfl, Nat.succ_ne_zero _, by decide⟩ rfl
theorem k104_73 : xcd 104 73 = oIs 2 74 := rfl
theorem r104_73 : zr 104 73 [v0, .int x1, v2, v3] (.int y1 :: st) u P = zr 104 74 [v0, .int x1, .int y1, v3] st u P := zr_Is k104_73 ⟨Nat.le_of_ble_eq_true rfl, rfl⟩
theorem k104_74 : xcd 104 74 = oInc 3 1 77 := rfl
theorem r104_74 : zr 104 74 [v0, v1, .int x2, .int x3] st u P = zr 104 77 [v0, v1, .int x2, .int (x3 + 1)] st u P := zr_Inc k104_74 rfl rfl
theorem k104_77 : xcd 104 77 = oGoto 40 := rfl
theorem r104_77 : zr 104 77 [v0, v1, v2, v3] st u P = zr 104 40 [v0, v1, v2, v3] st u P := zr_Goto k104_77
theorem k104_80 : xcd 104 80 = oIl 2 81 := rfl
theorem r104_80 : zr 104 80 [v0, v1, .int x2, v3] st u P = zr 104 81 [v0, v1, .int x2, v3] (.int x2 :: st) u P := zr_Il k104_80 rfl
theorem k104_81 : xcd 104 81 = oRi 0 := rfl
theorem r104_81 : zr 104 81 [v0, v1, v2, v3] [.int y1] u P = P (some (.int y1)) u := zr_Ri k104_81
theorem k105_0 : xcd 105 0 = oIl 2 1 := rfl
theorem r105_0 : zr 105 0 [v0, v1, .int x2] st u P = zr 105 1 [v0, v1, .int x2] (.int x2 :: st) u P := zr_Il k105_0 rfl
theorem k105_1 : xcd 105 1 = oIl 1 2 := rfl
theorem r105_1 : zr 105 1 [v0, .int x1, v2] st u P = zr 105 2 [v0, .int x1, v2] (.int x1 :: st) u P := zr_Il k105_1 rfl
theorem k105_2 : xcd 105 2 = oCmp (fun x y => decide (x ≤ y)) 14 5 := rfl
theorem r105_2 : zr 105 2 [v0, v1, v2] (.int y1 :: .int y2 :: st) u P = (if y2 ≤ y1 then zr 105 14 [v0, v1, v2] st u P else zr 105 5 [v0, v1, v2] st u P) := zr_Cmp k105_2
theorem k105_5 : xcd 105 5 = oIl 2 6 := rfl
theorem r105_5 : zr 105 5 [v0, v1, .int x2] st u P = zr 105 6 [v0, v1, .int x2] (.int x2 :: st) u P := zr_Il k105_5 rfl
theorem k105_6 : xcd 105 6 = oIl 0 7 := rfl
theorem r105_6 : zr 105 6 [.int x0, v1, v2] st u P = zr 105 7 [.int x0, v1, v2] (.int x0 :: st) u P := zr_Il k105_6 rfl
theorem k105_7 : xcd 105 7 = oCmp (fun x y => decide (y ≤ x)) 14 10 := rfl
theorem r105_7 : zr 105 7 [v0, v1, v2] (.int y1 :: .int y2 :: st) u P = (if y1 ≤ y2 then zr 105 14 [v0, v1, v2] st u P else zr 105 10 [v0, v1, v2] st u P) := zr_Cmp k105_7
theorem k105_10 : xcd 105 10 = oIl 2 11 := rfl
theorem r105_10 : zr 105 10 [v0, v1, .int x2] st u P = zr 105 11 [v0, v1, .int x2] (.int x2 :: st) u P := zr_Il k105_10 rfl
theorem k105_11 : xcd 105 11 = oGoto 15 := rfl
theorem r105_11 : zr 105 11 [v0, v1, v2] st u P = zr 105 15 [v0, v1, v2] st u P := zr_Goto k105_11
theorem k105_14 : xcd 105 14 = oIl 0 15 := rfl
theorem r105_14 : zr 105 14 [.int x0, v1, v2] st u P = zr 105 15 [.int x0, v1, v2] (.int x0 :: st) u P := zr_Il k105_14 rfl
theorem k105_15 : xcd 105 15 = oRi 0 := rfl
theorem r105_15 : zr 105 15 [v0, v1, v2] [.int y1] u P = P (some (.int y1)) u := zr_Ri k105_15
theorem k107_0 : xcd 107 0 = oAl 0 1 := rfl
theorem r107_0 : zr 107 0 [.ref a0, v1, v2, v3, v4, v5, v6] st u P = zr 107 1 [.ref a0, v1, v2, v3, v4, v5, v6] (.ref a0 :: st) u P := zr_Al k107_0 rfl
theorem k107_1 : xcd 107 1 = oGR 10 0 4 := rfl
theorem r107_1 : zr 107 1 [v0, v1, v2, v3, v4, v5, v6] (.ref b1 :: st) u P = (xIs u b1 10 ∧ ∃ b, xR u b1 0 = some b ∧ zr 107 4 [v0, v1, v2, v3, v4, v5, v6] (.ref b :: st) u P) := zr_GR k107_1
theorem k107_4 : xcd 107 4 = oGR 7 0 7 := rfl
theorem r107_4 : zr 107 4 [v0, v1, v2, v3, v4, v5, v6] (.ref b1 :: st) u P = (xIs u b1 7 ∧ ∃ b, xR u b1 0 = some b ∧ zr 107 7 [v0, v1, v2, v3, v4, v5, v6] (.ref b :: st) u P) := zr_GR k107_4
theorem k107_7 : xcd 107 7 = oAs 6 9 := rfl
theorem r107_7 : zr 107 7 [v0, v1, v2, v3, v4, .int x5, v6] (.ref b1 :: st) u P = zr 107 9 [v0, v1, v2, v3, v4, .int x5, .ref b1] st u P := zr_As k107_7 ⟨Nat.le_of_ble_eq_true rfl, rfl⟩
theorem k107_9 : xcd 107 9 = oAl 6 11 := rfl
theorem r107_9 : zr 107 9 [v0, v1, v2, v3, v4, v5, .ref a6] st u P = zr 107 11 [v0, v1, v2, v3, v4, v5, .ref a6] (.ref a6 :: st) u P := zr_Al k107_9 rfl
theorem k107_11 : xcd 107 11 = oGI 8 1 14 := rfl
theorem r107_11 : zr 107 11 [v0, v1, v2, v3, v4, v5, v6] (.ref b1 :: st) u P = (xIs u b1 8 ∧ zr 107 14 [v0, v1, v2, v3, v4, v5, v6] (.int (xI u b1 1) :: st) u P) := zr_GI k107_11
theorem k107_14 : xcd 107 14 = oI 20 16 := rfl
theorem r107_14 : zr 107 14 [v0, v1, v2, v3, v4, v5, v6] st u P = zr 107 16 [v0, v1, v2, v3, v4, v5, v6] (.int 20 :: st) u P := zr_I k107_14
theorem k107_16 : xcd 107 16 = oB (fun x y => x + y) 17 := rfl
theorem r107_16 : zr 107 16 [v0, v1, v2, v3, v4, v5, v6] (.int y1 :: .int y2 :: st) u P = zr 107 17 [v0, v1, v2, v3, v4, v5, v6] (.int (y2 + y1) :: st) u P := zr_B k107_16
theorem k107_17 : xcd 107 17 = oI 1200 20 := rfl
theorem r107_17 : zr 107 17 [v0, v1, v2, v3, v4, v5, v6] st u P = zr 107 20 [v0, v1, v2, v3, v4, v5, v6] (.int 1200 :: st) u P := zr_I k107_17
theorem k107_20 : xcd 107 20 = oCmp (fun x y => decide (x ≤ y)) 25 23 := rfl
theorem r107_20 : zr 107 20 [v0, v1, v2, v3, v4, v5, v6] (.int y1 :: .int y2 :: st) u P = (if y2 ≤ y1 then zr 107 25 [v0, v1, v2, v3, v4, v5, v6] st u P else zr 107 23 [v0, v1, v2, v3, v4, v5, v6] st u P) := zr_Cmp k107_20
theorem k107_23 : xcd 107 23 = oI (-1) 24 := rfl
theorem r107_23 : zr 107 23 [v0, v1, v2, v3, v4, v5, v6] st u P = zr 107 24 [v0, v1, v2, v3, v4, v5, v6] (.int (-1) :: st) u P := zr_I k107_23
theorem k107_24 : xcd 107 24 = oRi 0 := rfl
theorem r107_24 : zr 107 24 [v0, v1, v2, v3, v4, v5, v6] [.int y1] u P = P (some (.int y1)) u := zr_Ri k107_24
theorem k107_25 : xcd 107 25 = oAl 6 27 := rfl
theorem r107_25 : zr 107 25 [v0, v1, v2, v3, v4, v5, .ref a6] st u P = zr 107 27 [v0, v1, v2, v3, v4, v5, .ref a6] (.ref a6 :: st) u P := zr_Al k107_25 rfl
theorem k107_27 : xcd 107 27 = oIl 1 28 := rfl
theorem r107_27 : zr 107 27 [v0, .int x1, v2, v3, v4, v5, v6] st u P = zr 107 28 [v0, .int x1, v2, v3, v4, v5, v6] (.int x1 :: st) u P := zr_Il k107_27 rfl
theorem k107_28 : xcd 107 28 = oCalV 8 87 1 31 := rfl
theorem r107_28 : zr 107 28 [v0, v1, v2, v3, v4, v5, v6] (.int y1 :: .ref b8 :: st) u P = ((xIs u b8 8 ∧ xcat st ≤ 8) ∧ zr 87 0 [.ref b8, .int y1, .null] [] u (fun r u2 => zr 107 31 [v0, v1, v2, v3, v4, v5, v6] (r.toList ++ st) u2 P)) := zr_CV k107_28 rfl rfl rfl ⟨Nat.le_of_ble_eq_true rfl, Nat.succ_ne_zero _, by decide⟩ rfl
theorem k107_31 : xcd 107 31 = oAl 6 33 := rfl
theorem r107_31 : zr 107 31 [v0, v1, v2, v3, v4, v5, .ref a6] st u P = zr 107 33 [v0, v1, v2, v3, v4, v5, .ref a6] (.ref a6 :: st) u P := zr_Al k107_31 rfl
theorem k107_33 : xcd 107 33 = oIl 2 34 := rfl
theorem r107_33 : zr 107 33 [v0, v1, .int x2, v3, v4, v5, v6] st u P = zr 107 34 [v0, v1, .int x2, v3, v4, v5, v6] (.int x2 :: st) u P := zr_Il k107_33 rfl
theorem k107_34 : xcd 107 34 = oCalV 8 87 1 37 := rfl
theorem r107_34 : zr 107 34 [v0, v1, v2, v3, v4, v5, v6] (.int y1 :: .ref b8 :: st) u P = ((xIs u b8 8 ∧ xcat st ≤ 8) ∧ zr 87 0 [.ref b8, .int y1, .null] [] u (fun r u2 => zr 107 37 [v0, v1, v2, v3, v4, v5, v6] (r.toList ++ st) u2 P)) := zr_CV k107_34 rfl rfl rfl ⟨Nat.le_of_ble_eq_true rfl, Nat.succ_ne_zero _, by decide⟩ rfl
theorem k107_37 : xcd 107 37 = oAl 6 39 := rfl
theorem r107_37 : zr 107 37 [v0, v1, v2, v3, v4, v5, .ref a6] st u P = zr 107 39 [v0, v1, v2, v3, v4, v5, .ref a6] (.ref a6 :: st) u P := zr_Al k107_37 rfl
theorem k107_39 : xcd 107 39 = oIl 3 40 := rfl
theorem r107_39 : zr 107 39 [v0, v1, v2, .int x3, v4, v5, v6] st u P = zr 107 40 [v0, v1, v2, .int x3, v4, v5, v6] (.int x3 :: st) u P := zr_Il k107_39 rfl
theorem k107_40 : xcd 107 40 = oCalV 8 87 1 43 := rfl
theorem r107_40 : zr 107 40 [v0, v1, v2, v3, v4, v5, v6] (.int y1 :: .ref b8 :: st) u P = ((xIs u b8 8 ∧ xcat st ≤ 8) ∧ zr 87 0 [.ref b8, .int y1, .null] [] u (fun r u2 => zr 107 43 [v0, v1, v2, v3, v4, v5, v6] (r.toList ++ st) u2 P)) := zr_CV k107_40 rfl rfl rfl ⟨Nat.le_of_ble_eq_true rfl, Nat.succ_ne_zero _, by decide⟩ rfl
theorem k107_43 : xcd 107 43 = oAl 6 45 := rfl
theorem r107_43 : zr 107 43 [v0, v1, v2, v3, v4, v5, .ref a6] st u P = zr 107 45 [v0, v1, v2, v3, v4, v5, .ref a6] (.ref a6 :: st) u P := zr_Al k107_43 rfl
theorem k107_45 : xcd 107 45 = oIl 4 47 := rfl
theorem r107_45 : zr 107 45 [v0, v1, v2, v3, .int x4, v5, v6] st u P = zr 107 47 [v0, v1, v2, v3, .int x4, v5, v6] (.int x4 :: st) u P := zr_Il k107_45 rfl
theorem k107_47 : xcd 107 47 = oCalV 8 87 1 50 := rfl
theorem r107_47 : zr 107 47 [v0, v1, v2, v3, v4, v5, v6] (.int y1 :: .ref b8 :: st) u P = ((xIs u b8 8 ∧ xcat st ≤ 8) ∧ zr 87 0 [.ref b8, .int y1, .null] [] u (fun r u2 => zr 107 50 [v0, v1, v2, v3, v4, v5, v6] (r.toList ++ st) u2 P)) := zr_CV k107_47 rfl rfl rfl ⟨Nat.le_of_ble_eq_true rfl, Nat.succ_ne_zero _, by decide⟩ rfl
theorem k107_50 : xcd 107 50 = oAl 6 52 := rfl
theorem r107_50 : zr 107 50 [v0, v1, v2, v3, v4, v5, .ref a6] st u P = zr 107 52 [v0, v1, v2, v3, v4, v5, .ref a6] (.ref a6 :: st) u P := zr_Al k107_50 rfl
theorem k107_52 : xcd 107 52 = oIl 5 54 := rfl
theorem r107_52 : zr 107 52 [v0, v1, v2, v3, v4, .int x5, v6] st u P = zr 107 54 [v0, v1, v2, v3, v4, .int x5, v6] (.int x5 :: st) u P := zr_Il k107_52 rfl
theorem k107_54 : xcd 107 54 = oCalV 8 87 1 57 := rfl
theorem r107_54 : zr 107 54 [v0, v1, v2, v3, v4, v5, v6] (.int y1 :: .ref b8 :: st) u P = ((xIs u b8 8 ∧ xcat st ≤ 8) ∧ zr 87 0 [.ref b8, .int y1, .null] [] u (fun r u2 => zr 107 57 [v0, v1, v2, v3, v4, v5, v6] (r.toList ++ st) u2 P)) := zr_CV k107_54 rfl rfl rfl ⟨Nat.le_of_ble_eq_true rfl, Nat.succ_ne_zero _, by decide⟩ rfl
theorem k107_57 : xcd 107 57 = oAl 6 59 := rfl
theorem r107_57 : zr 107 57 [v0, v1, v2, v3, v4, v5, .ref a6] st u P = zr 107 59 [v0, v1, v2, v3, v4, v5, .ref a6] (.ref a6 :: st) u P := zr_Al k107_57 rfl
theorem k107_59 : xcd 107 59 = oGI 8 1 62 := rfl
theorem r107_59 : zr 107 59 [v0, v1, v2, v3, v4, v5, v6] (.ref b1 :: st) u P = (xIs u b1 8 ∧ zr 107 62 [v0, v1, v2, v3, v4, v5, v6] (.int (xI u b1 1) :: st) u P) := zr_GI k107_59
theorem k107_62 : xcd 107 62 = oRi 0 := rfl
theorem r107_62 : zr 107 62 [v0, v1, v2, v3, v4, v5, v6] [.int y1] u P = P (some (.int y1)) u := zr_Ri k107_62
theorem k108_0 : xcd 108 0 = oIl 1 1 := rfl
theorem r108_0 : zr 108 0 [v0, .int x1, v2] st u P = zr 108 1 [v0, .int x1, v2] (.int x1 :: st) u P := zr_Il k108_0 rfl
theorem k108_1 : xcd 108 1 = oI 0 2 := rfl
theorem r108_1 : zr 108 1 [v0, v1, v2] st u P = zr 108 2 [v0, v1, v2] (.int 0 :: st) u P := zr_I k108_1
theorem k108_2 : xcd 108 2 = oAl 0 3 := rfl
theorem r108_2 : zr 108 2 [.ref a0, v1, v2] st u P = zr 108 3 [.ref a0, v1, v2] (.ref a0 :: st) u P := zr_Al k108_2 rfl
theorem k108_3 : xcd 108 3 = oGR 10 0 6 := rfl
theorem r108_3 : zr 108 3 [v0, v1, v2] (.ref b1 :: st) u P = (xIs u b1 10 ∧ ∃ b, xR u b1 0 = some b ∧ zr 108 6 [v0, v1, v2] (.ref b :: st) u P) := zr_GR k108_3
theorem k108_6 : xcd 108 6 = oGR 7 0 9 := rfl
theorem r108_6 : zr 108 6 [v0, v1, v2] (.ref b1 :: st) u P = (xIs u b1 7 ∧ ∃ b, xR u b1 0 = some b ∧ zr 108 9 [v0, v1, v2] (.ref b :: st) u P) := zr_GR k108_6
theorem k108_9 : xcd 108 9 = oGI 8 1 12 := rfl
theorem r108_9 : zr 108 9 [v0, v1, v2] (.ref b1 :: st) u P = (xIs u b1 8 ∧ zr 108 12 [v0, v1, v2] (.int (xI u b1 1) :: st) u P) := zr_GI k108_9
theorem k108_12 : xcd 108 12 = oCal 164 3 15 := rfl
theorem r108_12 : zr 108 12 [v0, v1, v2] (.int y3 :: .int y2 :: .int y1 :: st) u P = (xcat st ≤ 8 ∧ zr 164 0 [.int y1, .int y2, .int y3] [] u (fun r u2 => zr 108 15 [v0, v1, v2] (r.toList ++ st) u2 P)) := zr_CS k108_12 (Nat.le_add_left _ _) rfl rfl ⟨Nat.le_of_ble_eq_true rfl, Nat.succ_ne_zero _, by decide⟩ rfl
theorem k108_15 : xcd 108 15 = oIf (fun x => decide (¬ x = 0)) 24 18 := rfl
theorem r108_15 : zr 108 15 [v0, v1, v2] (.int y1 :: st) u P = (if ¬ y1 = 0 then zr 108 24 [v0, v1, v2] st u P else zr 108 18 [v0, v1, v2] st u P) := zr_If k108_15
theorem k108_18 : xcd 108 18 = oAl 0 19 := rfl
theorem r108_18 : zr 108 18 [.ref a0, v1, v2] st u P = zr 108 19 [.ref a0, v1, v2] (.ref a0 :: st) u P := zr_Al k108_18 rfl
theorem k108_19 : xcd 108 19 = oI 2 20 := rfl
theorem r108_19 : zr 108 19 [v0, v1, v2] st u P = zr 108 20 [v0, v1, v2] (.int 2 :: st) u P := zr_I k108_19
theorem k108_20 : xcd 108 20 = oCalV 10 154 1 23 := rfl
theorem r108_20 : zr 108 20 [v0, v1, v2] (.int y1 :: .ref b8 :: st) u P = ((xIs u b8 10 ∧ xcat st ≤ 8) ∧ zr 154 0 [.ref b8, .int y1] [] u (fun r u2 => zr 108 23 [v0, v1, v2] (r.toList ++ st) u2 P)) := zr_CV k108_20 rfl rfl rfl ⟨Nat.le_of_ble_eq_true rfl, Nat.succ_ne_zero _, by decide⟩ rfl
theorem k108_23 : xcd 108 23 = oRi 0 := rfl
theorem r108_23 : zr 108 23 [v0, v1, v2] [.int y1] u P = P (some (.int y1)) u := zr_Ri k108_23
theorem k108_24 : xcd 108 24 = oAl 0 25 := rfl
theorem r108_24 : zr 108 24 [.ref a0, v1, v2] st u P = zr 108 25 [.ref a0, v1, v2] (.ref a0 :: st) u P := zr_Al k108_24 rfl
theorem k108_25 : xcd 108 25 = oGR 10 0 28 := rfl
theorem r108_25 : zr 108 25 [v0, v1, v2] (.ref b1 :: st) u P = (xIs u b1 10 ∧ ∃ b, xR u b1 0 = some b ∧ zr 108 28 [v0, v1, v2] (.ref b :: st) u P) := zr_GR k108_25
theorem k108_28 : xcd 108 28 = oGR 7 0 31 := rfl
theorem r108_28 : zr 108 28 [v0, v1, v2] (.ref b1 :: st) u P = (xIs u b1 7 ∧ ∃ b, xR u b1 0 = some b ∧ zr 108 31 [v0, v1, v2] (.ref b :: st) u P) := zr_GR k108_28
theorem k108_31 : xcd 108 31 = oI 0 32 := rfl
theorem r108_31 : zr 108 31 [v0, v1, v2] st u P = zr 108 32 [v0, v1, v2] (.int 0 :: st) u P := zr_I k108_31
theorem k108_32 : xcd 108 32 = oPI 8 1 35 := rfl
theorem r108_32 : zr 108 32 [v0, v1, v2] (.int y1 :: .ref b1 :: st) u P = (xIs u b1 8 ∧ zr 108 35 [v0, v1, v2] st (xsI u b1 1 y1) P) := zr_PI k108_32
theorem k108_35 : xcd 108 35 = oAl 0 36 := rfl
theorem r108_35 : zr 108 35 [.ref a0, v1, v2] st u P = zr 108 36 [.ref a0, v1, v2] (.ref a0 :: st) u P := zr_Al k108_35 rfl
theorem k108_36 : xcd 108 36 = oGR 10 0 39 := rfl
theorem r108_36 : zr 108 36 [v0, v1, v2] (.ref b1 :: st) u P = (xIs u b1 10 ∧ ∃ b, xR u b1 0 = some b ∧ zr 108 39 [v0, v1, v2] (.ref b :: st) u P) := zr_GR k108_36
theorem k108_39 : xcd 108 39 = oIl 1 40 := rfl
theorem r108_39 : zr 108 39 [v0, .int x1, v2] st u P = zr 108 40 [v0, .int x1, v2] (.int x1 :: st) u P := zr_Il k108_39 rfl
theorem k108_40 : xcd 108 40 = oCalV 7 67 1 43 := rfl
theorem r108_40 : zr 108 40 [v0, v1, v2] (.int y1 :: .ref b8 :: st) u P = ((xIs u b8 7 ∧ xcat st ≤ 8) ∧ zr 67 0 [.ref b8, .int y1, .null] [] u (fun r u2 => zr 108 43 [v0, v1, v2] (r.toList ++ st) u2 P)) := zr_CV k108_40 rfl rfl rfl ⟨Nat.le_of_ble_eq_true rfl, Nat.succ_ne_zero _, by decide⟩ rfl
theorem k108_43 : xcd 108 43 = oIf (fun x => decide (¬ x = 0)) 52 46 := rfl
theorem r108_43 : zr 108 43 [v0, v1, v2] (.int y1 :: st) u P = (if ¬ y1 = 0 then zr 108 52 [v0, v1, v2] st u P else zr 108 46 [v0, v1, v2] st u P) := zr_If k108_43
theorem k108_46 : xcd 108 46 = oAl 0 47 := rfl
theorem r108_46 : zr 108 46 [.ref a0, v1, v2] st u P = zr 108 47 [.ref a0, v1, v2] (.ref a0 :: st) u P := zr_Al k108_46 rfl
theorem k108_47 : xcd 108 47 = oI 4 48 := rfl
theorem r108_47 : zr 108 47 [v0, v1, v2] st u P = zr 108 48 [v0, v1, v2] (.int 4 :: st) u P := zr_I k108_47
theorem k108_48 : xcd 108 48 = oCalV 10 154 1 51 := rfl
theorem r108_48 : zr 108 48 [v0, v1, v2] (.int y1 :: .ref b8 :: st) u P = ((xIs u b8 10 ∧ xcat st ≤ 8) ∧ zr 154 0 [.ref b8, .int y1] [] u (fun r u2 => zr 108 51 [v0, v1, v2] (r.toList ++ st) u2 P)) := zr_CV k108_48 rfl rfl rfl ⟨Nat.le_of_ble_eq_true rfl, Nat.succ_ne_zero _, by decide⟩ rfl
theorem k108_51 : xcd 108 51 = oRi 0 := rfl
theorem r108_51 : zr 108 51 [v0, v1, v2] [.int y1] u P = P (some (.int y1)) u := zr_Ri k108_51
theorem k108_52 : xcd 108 52 = oAl 0 53 := rfl
theorem r108_52 : zr 108 52 [.ref a0, v1, v2] st u P = zr 108 53 [.ref a0, v1, v2] (.ref a0 :: st) u P := zr_Al k108_52 rfl
theorem k108_53 : xcd 108 53 = oGR 10 0 56 := rfl
theorem r108_53 : zr 108 53 [v0, v1, v2] (.ref b1 :: st) u P = (xIs u b1 10 ∧ ∃ b, xR u b1 0 = some b ∧ zr 108 56 [v0, v1, v2] (.ref b :: st) u P) := zr_GR k108_53
theorem k108_56 : xcd 108 56 = oGR 7 3 59 := rfl
theorem r108_56 : zr 108 56 [v0, v1, v2] (.ref b1 :: st) u P = (xIs u b1 7 ∧ ∃ b, xR u b1 3 = some b ∧ zr 108 59 [v0, v1, v2] (.ref b :: st) u P) := zr_GR k108_56
theorem k108_59 : xcd 108 59 = oAs 2 60 := rfl
theorem r108_59 : zr 108 59 [v0, .int x1, v2] (.ref b1 :: st) u P = zr 108 60 [v0, .int x1, .ref b1] st u P := zr_As k108_59 ⟨Nat.le_of_ble_eq_true rfl, rfl⟩
theorem k108_60 : xcd 108 60 = oAl 0 61 := rfl
theorem r108_60 : zr 108 60 [.ref a0, v1, v2] st u P = zr 108 61 [.ref a0, v1, v2] (.ref a0 :: st) u P := zr_Al k108_60 rfl
theorem k108_61 : xcd 108 61 = oGR 10 0 64 := rfl
theorem r108_61 : zr 108 61 [v0, v1, v2] (.ref b1 :: st) u P = (xIs u b1 10 ∧ ∃ b, xR u b1 0 = some b ∧ zr 108 64 [v0, v1, v2] (.ref b :: st) u P) := zr_GR k108_61
theorem k108_64 : xcd 108 64 = oAl 0 65 := rfl
theorem r108_64 : zr 108 64 [.ref a0, v1, v2] st u P = zr 108 65 [.ref a0, v1, v2] (.ref a0 :: st) u P := zr_Al k108_64 rfl
theorem k108_65 : xcd 108 65 = oGR 10 1 68 := rfl
theorem r108_65 : zr 108 65 [v0, v1, v2] (.ref b1 :: st) u P = (xIs u b1 10 ∧ ∃ b, xR u b1 1 = some b ∧ zr 108 68 [v0, v1, v2] (.ref b :: st) u P) := zr_GR k108_65
theorem k108_68 : xcd 108 68 = oPR 7 3 71 := rfl
theorem r108_68 : zr 108 68 [v0, v1, v2] (.ref b2 :: .ref b1 :: st) u P = (xIs u b1 7 ∧ zr 108 71 [v0, v1, v2] st (xsR u b1 3 (some b2)) P) := zr_PR k108_68
theorem k108_71 : xcd 108 71 = oAl 0 72 := rfl
theorem r108_71 : zr 108 71 [.ref a0, v1, v2] st u P = zr 108 72 [.ref a0, v1, v2] (.ref a0 :: st) u P := zr_Al k108_71 rfl
theorem k108_72 : xcd 108 72 = oAl 2 73 := rfl
theorem r108_72 : zr 108 72 [v0, v1, .ref a2] st u P = zr 108 73 [v0, v1, .ref a2] (.ref a2 :: st) u P := zr_Al k108_72 rfl
theorem k108_73 : xcd 108 73 = oPR 10 1 76 := rfl
theorem r108_73 : zr 108 73 [v0, v1, v2] (.ref b2 :: .ref b1 :: st) u P = (xIs u b1 10 ∧ zr 108 76 [v0, v1, v2] st (xsR u b1 1 (some b2)) P) := zr_PR k108_73
theorem k108_76 : xcd 108 76 = oAl 0 77 := rfl
theorem r108_76 : zr 108 76 [.ref a0, v1, v2] st u P = zr 108 77 [.ref a0, v1, v2] (.ref a0 :: st) u P := zr_Al k108_76 rfl
theorem k108_77 : xcd 108 77 = oI 1 78 := rfl
theorem r108_77 : zr 108 77 [v0, v1, v2] st u P = zr 108 78 [v0, v1, v2] (.int 1 :: st) u P := zr_I k108_77
theorem k108_78 : xcd 108 78 = oPZ 10 2 81 := rfl
theorem r108_78 : zr 108 78 [v0, v1, v2] (.int y1 :: .ref b1 :: st) u P = ((xIs u b1 10 ∧ (y1 = 0 ∨ y1 = 1)) ∧ zr 108 81 [v0, v1, v2] st (xsI u b1 2 y1) P) := zr_PZ k108_78
theorem k108_81 : xcd 108 81 = oAl 0 82 := rfl
theorem r108_81 : zr 108 81 [.ref a0, v1, v2] st u P = zr 108 82 [.ref a0, v1, v2] (.ref a0 :: st) u P := zr_Al k108_81 rfl
theorem k108_82 : xcd 108 82 = oGR 10 3 85 := rfl
theorem r108_82 : zr 108 82 [v0, v1, v2] (.ref b1 :: st) u P = (xIs u b1 10 ∧ ∃ b, xR u b1 3 = some b ∧ zr 108 85 [v0, v1, v2] (.ref b :: st) u P) := zr_GR k108_82
theorem k108_85 : xcd 108 85 = oCalV 1 7 0 88 := rfl
theorem r108_85 : zr 108 85 [v0, v1, v2] (.ref b8 :: st) u P = ((xIs u b8 1 ∧ xcat st ≤ 8) ∧ zr 7 0 [.ref b8] [] u (fun r u2 => zr 108 88 [v0, v1, v2] (r.toList ++ st) u2 P)) := zr_CV k108_85 rfl rfl rfl ⟨Nat.le_of_ble_eq_true rfl, Nat.succ_ne_zero _, by decide⟩ rfl
theorem k108_88 : xcd 108 88 = oAl 0 89 := rfl
theorem r108_88 : zr 108 88 [.ref a0, v1, v2] st u P = zr 108 89 [.ref a0, v1, v2] (.ref a0 :: st) u P := zr_Al k108_88 rfl
theorem k108_89 : xcd 108 89 = oGR 10 4 92 := rfl
theorem r108_89 : zr 108 89 [v0, v1, v2] (.ref b1 :: st) u P = (xIs u b1 10 ∧ ∃ b, xR u b1 4 = some b ∧ zr 108 92 [v0, v1, v2] (.ref b :: st) u P) := zr_GR k108_89
theorem k108_92 : xcd 108 92 = oI 0 93 := rfl
theorem r108_92 : zr 108 92 [v0, v1, v2] st u P = zr 108 93 [v0, v1, v2] (.int 0 :: st) u P := zr_I k108_92
theorem k108_93 : xcd 108 93 = oPI 0 0 96 := rfl
theorem r108_93 : zr 108 93 [v0, v1, v2] (.int y1 :: .ref b1 :: st) u P = (xIs u b1 0 ∧ zr 108 96 [v0, v1, v2] st (xsI u b1 0 y1) P) := zr_PI k108_93
theorem k108_96 : xcd 108 96 = oAl 0 97 := rfl
theorem r108_96 : zr 108 96 [.ref a0, v1, v2] st u P = zr 108 97 [.ref a0, v1, v2] (.ref a0 :: st) u P := zr_Al k108_96 rfl
theorem k108_97 : xcd 108 97 = oAl 0 98 := rfl
theorem r108_97 : zr 108 97 [.ref a0, v1, v2] st u P = zr 108 98 [.ref a0, v1, v2] (.ref a0 :: st) u P := zr_Al k108_97 rfl
theorem k108_98 : xcd 108 98 = oGR 10 1 101 := rfl
theorem r108_98 : zr 108 98 [v0, v1, v2] (.ref b1 :: st) u P = (xIs u b1 10 ∧ ∃ b, xR u b1 1 = some b ∧ zr 108 101 [v0, v1, v2] (.ref b :: st) u P) := zr_GR k108_98
theorem k108_101 : xcd 108 101 = oGR 3 0 104 := rfl
theorem r108_101 : zr 108 101 [v0, v1, v2] (.ref b1 :: st) u P = (xIs u b1 3 ∧ ∃ b, xR u b1 0 = some b ∧ zr 108 104 [v0, v1, v2] (.ref b :: st) u P) := zr_GR k108_101
theorem k108_104 : xcd 108 104 = oGI 4 2 107 := rfl
theorem r108_104 : zr 108 104 [v0, v1, v2] (.ref b1 :: st) u P = (xIs u b1 4 ∧ zr 108 107 [v0, v1, v2] (.int (xI u b1 2) :: st) u P) := zr_GI k108_104
theorem k108_107 : xcd 108 107 = oCalV 10 153 1 110 := rfl
theorem r108_107 : zr 108 107 [v0, v1, v2] (.int y1 :: .ref b8 :: st) u P = ((xIs u b8 10 ∧ xcat st ≤ 8) ∧ zr 153 0 [.ref b8, .int y1] [] u (fun r u2 => zr 108 110 [v0, v1, v2] (r.toList ++ st) u2 P)) := zr_CV k108_107 rfl rfl rfl ⟨Nat.le_of_ble_eq_true rfl, Nat.succ_ne_zero _, by decide⟩ rfl
theorem k108_110 : xcd 108 110 = oRi 0 := rfl
theorem r108_110 : zr 108 110 [v0, v1, v2] [.int y1] u P = P (some (.int y1)) u := zr_Ri k108_110
theorem k109_0 : xcd 109 0 = oAl 0 1 := rfl
theorem r109_0 : zr 109 0 [.ref a0] st u P = zr 109 1 [.ref a0] (.ref a0 :: st) u P := zr_Al k109_0 rfl
theorem k109_1 : xcd 109 1 = oGR 10 0 4 := rfl
theorem r109_1 : zr 109 1 [v0] (.ref b1 :: st) u P = (xIs u b1 10 ∧ ∃ b, xR u b1 0 = some b ∧ zr 109 4 [v0] (.ref b :: st) u P) := zr_GR k109_1
theorem k109_4 : xcd 109 4 = oGI 7 5 7 := rfl
theorem r109_4 : zr 109 4 [v0] (.ref b1 :: st) u P = (xIs u b1 7 ∧ zr 109 7 [v0] (.int (xI u b1 5) :: st) u P) := zr_GI k109_4
theorem k109_7 : xcd 109 7 = oRi 0 := rfl
theorem r109_7 : zr 109 7 [v0] [.int y1] u P = P (some (.int y1)) u := zr_Ri k109_7
theorem k110_0 : xcd 110 0 = oAl 0 1 := rfl
theorem r110_0 : zr 110 0 [.ref a0] st u P = zr 110 1 [.ref a0] (.ref a0 :: st) u P := zr_Al k110_0 rfl
theorem k110_1 : xcd 110 1 = oGI 10 6 4 := rfl
theorem r110_1 : zr 110 1 [v0] (.ref b1 :: st) u P = (xIs u b1 10 ∧ zr 110 4 [v0] (.int (xI u b1 6) :: st) u P) := zr_GI k110_1
theorem k110_4 : xcd 110 4 = oI 4 5 := rfl
theorem r110_4 : zr 110 4 [v0] st u P = zr 110 5 [v0] (.int 4 :: st) u P := zr_I k110_4
theorem k110_5 : xcd 110 5 = oCmp (fun x y => decide (¬ x = y)) 18 8 := rfl
theorem r110_5 : zr 110 5 [v0] (.int y1 :: .int y2 :: st) u P = (if ¬ y2 = y1 then zr 110 18 [v0] st u P else zr 110 8 [v0] st u P) := zr_Cmp k110_5
theorem k110_8 : xcd 110 8 = oAl 0 9 := rfl
theorem r110_8 : zr 110 8 [.ref a0] st u P = zr 110 9 [.ref a0] (.ref a0 :: st) u P := zr_Al k110_8 rfl
theorem k110_9 : xcd 110 9 = oGR 10 0 12 := rfl
theorem r110_9 : zr 110 9 [v0] (.ref b1 :: st) u P = (xIs u b1 10 ∧ ∃ b, xR u b1 0 = some b ∧ zr 110 12 [v0] (.ref b :: st) u P) := zr_GR k110_9
theorem k110_12 : xcd 110 12 = oGI 7 6 15 := rfl
theorem r110_12 : zr 110 12 [v0] (.ref b1 :: st) u P = (xIs u b1 7 ∧ zr 110 15 [v0] (.int (xI u b1 6) :: st) u P) := zr_GI k110_12
theorem k110_15 : xcd 110 15 = oGoto 19 := rfl
theorem r110_15 : zr 110 15 [v0] st u P = zr 110 19 [v0] st u P := zr_Goto k110_15
theorem k110_18 : xcd 110 18 = oI (-1) 19 := rfl
theorem r110_18 : zr 110 18 [v0] st u P = zr 110 19 [v0] (.int (-1) :: st) u P := zr_I k110_18
theorem k110_19 : xcd 110 19 = oRi 0 := rfl
theorem r110_19 : zr 110 19 [v0] [.int y1] u P = P (some (.int y1)) u := zr_Ri k110_19
theorem k111_0 : xcd 111 0 = oAl 0 1 := rfl
theorem r111_0 : zr 111 0 [.ref a0, v1] st u P = zr 111 1 [.ref a0, v1] (.ref a0 :: st) u P := zr_Al k111_0 rfl
theorem k111_1 : xcd 111 1 = oGI 10 2 4 := rfl
theorem r111_1 : zr 111 1 [v0, v1] (.ref b1 :: st) u P = (xIs u b1 10 ∧ zr 111 4 [v0, v1] (.int (xI u b1 2) :: st) u P) := zr_GI k111_1
theorem k111_4 : xcd 111 4 = oIf (fun x => decide (x = 0)) 17 7 := rfl
theorem r111_4 : zr 111 4 [v0, v1] (.int y1 :: st) u P = (if y1 = 0 then zr 111 17 [v0, v1] st u P else zr 111 7 [v0, v1] st u P) := zr_If k111_4
theorem k111_7 : xcd 111 7 = oIl 1 8 := rfl
theorem r111_7 : zr 111 7 [v0, .int x1] st u P = zr 111 8 [v0, .int x1] (.int x1 :: st) u P := zr_Il k111_7 rfl
theorem k111_8 : xcd 111 8 = oI 0 9 := rfl
theorem r111_8 : zr 111 8 [v0, v1] st u P = zr 111 9 [v0, v1] (.int 0 :: st) u P := zr_I k111_8
theorem k111_9 : xcd 111 9 = oI 8 11 := rfl
theorem r111_9 : zr 111 9 [v0, v1] st u P = zr 111 11 [v0, v1] (.int 8 :: st) u P := zr_I k111_9
theorem k111_11 : xcd 111 11 = oCal 164 3 14 := rfl
theorem r111_11 : zr 111 11 [v0, v1] (.int y3 :: .int y2 :: .int y1 :: st) u P = (xcat st ≤ 8 ∧ zr 164 0 [.int y1, .int y2, .int y3] [] u (fun r u2 => zr 111 14 [v0, v1] (r.toList ++ st) u2 P)) := zr_CS k111_11 (Nat.le_add_left _ _) rfl rfl ⟨Nat.le_of_ble_eq_true rfl, Nat.succ_ne_zero _, by decide⟩ rfl
theorem k111_14 : xcd 111 14 = oIf (fun x => decide (¬ x = 0)) 23 17 := rfl
theorem r111_14 : zr 111 14 [v0, v1] (.int y1 :: st) u P = (if ¬ y1 = 0 then zr 111 23 [v0, v1] st u P else zr 111 17 [v0, v1] st u P) := zr_If k111_14
theorem k111_17 : xcd 111 17 = oAl 0 18 := rfl
theorem r111_17 : zr 111 17 [.ref a0, v1] st u P = zr 111 18 [.ref a0, v1] (.ref a0 :: st) u P := zr_Al k111_17 rfl
theorem k111_18 : xcd 111 18 = oI 1 19 := rfl
theorem r111_18 : zr 111 18 [v0, v1] st u P = zr 111 19 [v0, v1] (.int 1 :: st) u P := zr_I k111_18
theorem k111_19 : xcd 111 19 = oCalV 10 154 1 22 := rfl
theorem r111_19 : zr 111 19 [v0, v1] (.int y1 :: .ref b8 :: st) u P = ((xIs u b8 10 ∧ xcat st ≤ 8) ∧ zr 154 0 [.ref b8, .int y1] [] u (fun r u2 => zr 111 22 [v0, v1] (r.toList ++ st) u2 P)) := zr_CV k111_19 rfl rfl rfl ⟨Nat.le_of_ble_eq_true rfl, Nat.succ_ne_zero _, by decide⟩ rfl
theorem k111_22 : xcd 111 22 = oRi 0 := rfl
theorem r111_22 : zr 111 22 [v0, v1] [.int y1] u P = P (some (.int y1)) u := zr_Ri k111_22
theorem k111_23 : xcd 111 23 = oAl 0 24 := rfl
theorem r111_23 : zr 111 23 [.ref a0, v1] st u P = zr 111 24 [.ref a0, v1] (.ref a0 :: st) u P := zr_Al k111_23 rfl
theorem k111_24 : xcd 111 24 = oIl 1 25 := rfl
theorem r111_24 : zr 111 24 [v0, .int x1] st u P = zr 111 25 [v0, .int x1] (.int x1 :: st) u P := zr_Il k111_24 rfl
theorem k111_25 : xcd 111 25 = oI 8 27 := rfl
theorem r111_25 : zr 111 25 [v0, v1] st u P = zr 111 27 [v0, v1] (.int 8 :: st) u P := zr_I k111_25
theorem k111_27 : xcd 111 27 = oCmp (fun x y => decide (¬ x = y)) 40 30 := rfl
theorem r111_27 : zr 111 27 [v0, v1] (.int y1 :: .int y2 :: st) u P = (if ¬ y2 = y1 then zr 111 40 [v0, v1] st u P else zr 111 30 [v0, v1] st u P) := zr_Cmp k111_27
theorem k111_30 : xcd 111 30 = oAl 0 31 := rfl
theorem r111_30 : zr 111 30 [.ref a0, v1] st u P = zr 111 31 [.ref a0, v1] (.ref a0 :: st) u P := zr_Al k111_30 rfl
theorem k111_31 : xcd 111 31 = oGR 10 3 34 := rfl
theorem r111_31 : zr 111 31 [v0, v1] (.ref b1 :: st) u P = (xIs u b1 10 ∧ ∃ b, xR u b1 3 = some b ∧ zr 111 34 [v0, v1] (.ref b :: st) u P) := zr_GR k111_31
theorem k111_34 : xcd 111 34 = oGI 1 0 37 := rfl
theorem r111_34 : zr 111 34 [v0, v1] (.ref b1 :: st) u P = (xIs u b1 1 ∧ zr 111 37 [v0, v1] (.int (xI u b1 0) :: st) u P) := zr_GI k111_34
theorem k111_37 : xcd 111 37 = oGoto 48 := rfl
theorem r111_37 : zr 111 37 [v0, v1] st u P = zr 111 48 [v0, v1] st u P := zr_Goto k111_37
theorem k111_40 : xcd 111 40 = oAl 0 41 := rfl
theorem r111_40 : zr 111 40 [.ref a0, v1] st u P = zr 111 41 [.ref a0, v1] (.ref a0 :: st) u P := zr_Al k111_40 rfl
theorem k111_41 : xcd 111 41 = oGR 10 1 44 := rfl
theorem r111_41 : zr 111 41 [v0, v1] (.ref b1 :: st) u P = (xIs u b1 10 ∧ ∃ b, xR u b1 1 = some b ∧ zr 111 44 [v0, v1] (.ref b :: st) u P) := zr_GR k111_41
theorem k111_44 : xcd 111 44 = oIl 1 45 := rfl
theorem r111_44 : zr 111 44 [v0, .int x1] st u P = zr 111 45 [v0, .int x1] (.int x1 :: st) u P := zr_Il k111_44 rfl
theorem k111_45 : xcd 111 45 = oCalV 3 36 1 48 := rfl
theorem r111_45 : zr 111 45 [v0, v1] (.int y1 :: .ref b8 :: st) u P = ((xIs u b8 3 ∧ xcat st ≤ 8) ∧ zr 36 0 [.ref b8, .int y1] [] u (fun r u2 => zr 111 48 [v0, v1] (r.toList ++ st) u2 P)) := zr_CV k111_45 rfl rfl rfl ⟨Nat.le_of_ble_eq_true rfl, Nat.succ_ne_zero _, by decide⟩ rfl
theorem k111_48 : xcd 111 48 = oCalV 10 153 1 51 := rfl
theorem r111_48 : zr 111 48 [v0, v1] (.int y1 :: .ref b8 :: st) u P = ((xIs u b8 10 ∧ xcat st ≤ 8) ∧ zr 153 0 [.ref b8, .int y1] [] u (fun r u2 => zr 111 51 [v0, v1] (r.toList ++ st) u2 P)) := zr_CV k111_48 rfl rfl rfl ⟨Nat.le_of_ble_eq_true rfl, Nat.succ_ne_zero _, by decide⟩ rfl
theorem k111_51 : xcd 111 51 = oRi 0 := rfl
theorem r111_51 : zr 111 51 [v0, v1] [.int y1] u P = P (some (.int y1)) u := zr_Ri k111_51
theorem k112_0 : xcd 112 0 = oAl 0 1 := rfl
theorem r112_0 : zr 112 0 [.ref a0, v1] st u P = zr 112 1 [.ref a0, v1] (.ref a0 :: st) u P := zr_Al k112_0 rfl
theorem k112_1 : xcd 112 1 = oIl 1 2 := rfl
theorem r112_1 : zr 112 1 [v0, .int x1] st u P = zr 112 2 [v0, .int x1] (.int x1 :: st) u P := zr_Il k112_1 rfl
theorem k112_2 : xcd 112 2 = oCalV 10 158 1 5 := rfl
theorem r112_2 : zr 112 2 [v0, v1] (.int y1 :: .ref b8 :: st) u P = ((xIs u b8 10 ∧ xcat st ≤ 8) ∧ zr 158 0 [.ref b8, .int y1] [] u (fun r u2 => zr 112 5 [v0, v1] (r.toList ++ st) u2 P)) := zr_CV k112_2 rfl rfl rfl ⟨Nat.le_of_ble_eq_true rfl, Nat.succ_ne_zero _, by decide⟩ rfl
theorem k112_5 : xcd 112 5 = oIf (fun x => decide (x = 0)) 27 8 := rfl
theorem r112_5 : zr 112 5 [v0, v1] (.int y1 :: st) u P = (if y1 = 0 then zr 112 27 [v0, v1] st u P else zr 112 8 [v0, v1] st u P) := zr_If k112_5
theorem k112_8 : xcd 112 8 = oAl 0 9 := rfl
theorem r112_8 : zr 112 8 [.ref a0, v1] st u P = zr 112 9 [.ref a0, v1] (.ref a0 :: st) u P := zr_Al k112_8 rfl
theorem k112_9 : xcd 112 9 = oAl 0 10 := rfl
theorem r112_9 : zr 112 9 [.ref a0, v1] st u P = zr 112 10 [.ref a0, v1] (.ref a0 :: st) u P := zr_Al k112_9 rfl
theorem k112_10 : xcd 112 10 = oGR 10 1 13 := rfl
theorem r112_10 : zr 112 10 [v0, v1] (.ref b1 :: st) u P = (xIs u b1 10 ∧ ∃ b, xR u b1 1 = some b ∧ zr 112 13 [v0, v1] (.ref b :: st) u P) := zr_GR k112_10
theorem k112_13 : xcd 112 13 = oGR 3 1 16 := rfl
theorem r112_13 : zr 112 13 [v0, v1] (.ref b1 :: st) u P = (xIs u b1 3 ∧ ∃ b, xR u b1 1 = some b ∧ zr 112 16 [v0, v1] (.ref b :: st) u P) := zr_GR k112_13
theorem k112_16 : xcd 112 16 = oGR 9 1 19 := rfl
theorem r112_16 : zr 112 16 [v0, v1] (.ref b1 :: st) u P = (xIs u b1 9 ∧ ∃ b, xR u b1 1 = some b ∧ zr 112 19 [v0, v1] (.ref b :: st) u P) := zr_GR k112_16
theorem k112_19 : xcd 112 19 = oIl 1 20 := rfl
theorem r112_19 : zr 112 19 [v0, .int x1] st u P = zr 112 20 [v0, .int x1] (.int x1 :: st) u P := zr_Il k112_19 rfl
theorem k112_20 : xcd 112 20 = oLd 13 21 := rfl
theorem r112_20 : zr 112 20 [v0, v1] (.int y1 :: .ref b1 :: st) u P = ((xIs u b1 13 ∧ xinb y1 (xN u b1)) ∧ zr 112 21 [v0, v1] (.int (xI u b1 (xix y1)) :: st) u P) := zr_Ld k112_20
theorem k112_21 : xcd 112 21 = oCalV 10 153 1 24 := rfl
theorem r112_21 : zr 112 21 [v0, v1] (.int y1 :: .ref b8 :: st) u P = ((xIs u b8 10 ∧ xcat st ≤ 8) ∧ zr 153 0 [.ref b8, .int y1] [] u (fun r u2 => zr 112 24 [v0, v1] (r.toList ++ st) u2 P)) := zr_CV k112_21 rfl rfl rfl ⟨Nat.le_of_ble_eq_true rfl, Nat.succ_ne_zero _, by decide⟩ rfl
theorem k112_24 : xcd 112 24 = oGoto 32 := rfl
theorem r112_24 : zr 112 24 [v0, v1] st u P = zr 112 32 [v0, v1] st u P := zr_Goto k112_24
theorem k112_27 : xcd 112 27 = oAl 0 28 := rfl
theorem r112_27 : zr 112 27 [.ref a0, v1] st u P = zr 112 28 [.ref a0, v1] (.ref a0 :: st) u P := zr_Al k112_27 rfl
theorem k112_28 : xcd 112 28 = oI 1 29 := rfl
theorem r112_28 : zr 112 28 [v0, v1] st u P = zr 112 29 [v0, v1] (.int 1 :: st) u P := zr_I k112_28
theorem k112_29 : xcd 112 29 = oCalV 10 154 1 32 := rfl
theorem r112_29 : zr 112 29 [v0, v1] (.int y1 :: .ref b8 :: st) u P = ((xIs u b8 10 ∧ xcat st ≤ 8) ∧ zr 154 0 [.ref b8, .int y1] [] u (fun r u2 => zr 112 32 [v0, v1] (r.toList ++ st) u2 P)) := zr_CV k112_29 rfl rfl rfl ⟨Nat.le_of_ble_eq_true rfl, Nat.succ_ne_zero _, by decide⟩ rfl
theorem k112_32 : xcd 112 32 = oRi 0 := rfl
theorem r112_32 : zr 112 32 [v0, v1] [.int y1] u P = P (some (.int y1)) u := zr_Ri k112_32
theorem k113_0 : xcd 113 0 = oAl 0 1 := rfl
theorem r113_0 : zr 113 0 [.ref a0, v1, v2, v3] st u P = zr 113 1 [.ref a0, v1, v2, v3] (.ref a0 :: st) u P := zr_Al k113_0 rfl
theorem k113_1 : xcd 113 1 = oIl 1 2 := rfl
theorem r113_1 : zr 113 1 [v0, .int x1, v2, v3] st u P = zr 113 2 [v0, .int x1, v2, v3] (.int x1 :: st) u P := zr_Il k113_1 rfl
theorem k113_2 : xcd 113 2 = oCalV 10 156 1 5 := rfl
theorem r113_2 : zr 113 2 [v0, v1, v2, v3] (.int y1 :: .ref b8 :: st) u P = ((xIs u b8 10 ∧ xcat st ≤ 8) ∧ zr 156 0 [.ref b8, .int y1] [] u (fun r u2 => zr 113 5 [v0, v1, v2, v3] (r.toList ++ st) u2 P)) := zr_CV k113_2 rfl rfl rfl ⟨Nat.le_of_ble_eq_true rfl, Nat.succ_ne_zero _, by decide⟩ rfl
theorem k113_5 : xcd 113 5 = oIf (fun x => decide (x = 0)) 17 8 := rfl
theorem r113_5 : zr 113 5 [v0, v1, v2, v3] (.int y1 :: st) u P = (if y1 = 0 then zr 113 17 [v0, v1, v2, v3] st u P else zr 113 8 [v0, v1, v2, v3] st u P) := zr_If k113_5
theorem k113_8 : xcd 113 8 = oIl 2 9 := rfl
theorem r113_8 : zr 113 8 [v0, v1, .int x2, v3] st u P = zr 113 9 [v0, v1, .int x2, v3] (.int x2 :: st) u P := zr_Il k113_8 rfl
theorem k113_9 : xcd 113 9 = oI 0 10 := rfl
theorem r113_9 : zr 113 9 [v0, v1, v2, v3] st u P = zr 113 10 [v0, v1, v2, v3] (.int 0 :: st) u P := zr_I k113_9
theorem k113_10 : xcd 113 10 = oI 2 11 := rfl
theorem r113_10 : zr 113 10 [v0, v1, v2, v3] st u P = zr 113 11 [v0, v1, v2, v3] (.int 2 :: st) u P := zr_I k113_10
theorem k113_11 : xcd 113 11 = oCal 164 3 14 := rfl
theorem r113_11 : zr 113 11 [v0, v1, v2, v3] (.int y3 :: .int y2 :: .int y1 :: st) u P = (xcat st ≤ 8 ∧ zr 164 0 [.int y1, .int y2, .int y3] [] u (fun r u2 => zr 113 14 [v0, v1, v2, v3] (r.toList ++ st) u2 P)) := zr_CS k113_11 (Nat.le_add_left _ _) rfl rfl ⟨Nat.le_of_ble_eq_true rfl, Nat.succ_ne_zero _, by decide⟩ rfl
theorem k113_14 : xcd 113 14 = oIf (fun x => decide (¬ x = 0)) 23 17 := rfl
theorem r113_14 : zr 113 14 [v0, v1, v2, v3] (.int y1 :: st) u P = (if ¬ y1 = 0 then zr 113 23 [v0, v1, v2, v3] st u P else zr 113 17 [v0, v1, v2, v3] st u P) := zr_If k113_14
theorem k113_17 : xcd 113 17 = oAl 0 18 := rfl
theorem r113_17 : zr 113 17 [.ref a0, v1, v2, v3] st u P = zr 113 18 [.ref a0, v1, v2, v3] (.ref a0 :: st) u P := zr_Al k113_17 rfl
theorem k113_18 : xcd 113 18 = oI 1 19 := rfl
theorem r113_18 : zr 113 18 [v0, v1, v2, v3] st u P = zr 113 19 [v0, v1, v2, v3] (.int 1 :: st) u P := zr_I k113_18
theorem k113_19 : xcd 113 19 = oCalV 10 154 1 22 := rfl
theorem r113_19 : zr 113 19 [v0, v1, v2, v3] (.int y1 :: .ref b8 :: st) u P = ((xIs u b8 10 ∧ xcat st ≤ 8) ∧ zr 154 0 [.ref b8, .int y1] [] u (fun r u2 => zr 113 22 [v0, v1, v2, v3] (r.toList ++ st) u2 P)) := zr_CV k113_19 rfl rfl rfl ⟨Nat.le_of_ble_eq_true rfl, Nat.succ_ne_zero _, by decide⟩ rfl
theorem k113_22 : xcd 113 22 = oRi 0 := rfl
theorem r113_22 : zr 113 22 [v0, v1, v2, v3] [.int y1] u P = P (some (.int y1)) u := zr_Ri k113_22
theorem k113_23 : xcd 113 23 = oAl 0 24 := rfl
theorem r113_23 : zr 113 23 [.ref a0, v1, v2, v3] st u P = zr 113 24 [.ref a0, v1, v2, v3] (.ref a0 :: st) u P := zr_Al k113_23 rfl
theorem k113_24 : xcd 113 24 = oGR 10 1 27 := rfl
theorem r113_24 : zr 113 24 [v0, v1, v2, v3] (.ref b1 :: st) u P = (xIs u b1 10 ∧ ∃ b, xR u b1 1 = some b ∧ zr 113 27 [v0, v1, v2, v3] (.ref b :: st) u P) := zr_GR k113_24
theorem k113_27 : xcd 113 27 = oGR 3 0 30 := rfl
theorem r113_27 : zr 113 27 [v0, v1, v2, v3] (.ref b1 :: st) u P = (xIs u b1 3 ∧ ∃ b, xR u b1 0 = some b ∧ zr 113 30 [v0, v1, v2, v3] (.ref b :: st) u P) := zr_GR k113_27
theorem k113_30 : xcd 113 30 = oAs 3 31 := rfl
theorem r113_30 : zr 113 30 [v0, v1, .int x2, v3] (.ref b1 :: st) u P = zr 113 31 [v0, v1, .int x2, .ref b1] st u P := zr_As k113_30 ⟨Nat.le_of_ble_eq_true rfl, rfl⟩
theorem k113_31 : xcd 113 31 = oIl 2 32 := rfl
theorem r113_31 : zr 113 31 [v0, v1, .int x2, v3] st u P = zr 113 32 [v0, v1, .int x2, v3] (.int x2 :: st) u P := zr_Il k113_31 rfl
theorem k113_32 : xcd 113 32 = oI 2 33 := rfl
theorem r113_32 : zr 113 32 [v0, v1, v2, v3] st u P = zr 113 33 [v0, v1, v2, v3] (.int 2 :: st) u P := zr_I k113_32
theorem k113_33 : xcd 113 33 = oCmp (fun x y => decide (¬ x = y)) 49 36 := rfl
theorem r113_33 : zr 113 33 [v0, v1, v2, v3] (.int y1 :: .int y2 :: st) u P = (if ¬ y2 = y1 then zr 113 49 [v0, v1, v2, v3] st u P else zr 113 36 [v0, v1, v2, v3] st u P) := zr_Cmp k113_33
theorem k113_36 : xcd 113 36 = oAl 0 37 := rfl
theorem r113_36 : zr 113 36 [.ref a0, v1, v2, v3] st u P = zr 113 37 [.ref a0, v1, v2, v3] (.ref a0 :: st) u P := zr_Al k113_36 rfl
theorem k113_37 : xcd 113 37 = oAl 3 38 := rfl
theorem r113_37 : zr 113 37 [v0, v1, v2, .ref a3] st u P = zr 113 38 [v0, v1, v2, .ref a3] (.ref a3 :: st) u P := zr_Al k113_37 rfl
theorem k113_38 : xcd 113 38 = oGR 4 5 41 := rfl
theorem r113_38 : zr 113 38 [v0, v1, v2, v3] (.ref b1 :: st) u P = (xIs u b1 4 ∧ ∃ b, xR u b1 5 = some b ∧ zr 113 41 [v0, v1, v2, v3] (.ref b :: st) u P) := zr_GR k113_38
theorem k113_41 : xcd 113 41 = oIl 1 42 := rfl
theorem r113_41 : zr 113 41 [v0, .int x1, v2, v3] st u P = zr 113 42 [v0, .int x1, v2, v3] (.int x1 :: st) u P := zr_Il k113_41 rfl
theorem k113_42 : xcd 113 42 = oCalV 2 21 1 45 := rfl
theorem r113_42 : zr 113 42 [v0, v1, v2, v3] (.int y1 :: .ref b8 :: st) u P = ((xIs u b8 2 ∧ xcat st ≤ 8) ∧ zr 21 0 [.ref b8, .int y1, .null, .null] [] u (fun r u2 => zr 113 45 [v0, v1, v2, v3] (r.toList ++ st) u2 P)) := zr_CV k113_42 rfl rfl rfl ⟨Nat.le_of_ble_eq_true rfl, Nat.succ_ne_zero _, by decide⟩ rfl
theorem k113_45 : xcd 113 45 = oCalV 10 153 1 48 := rfl
theorem r113_45 : zr 113 45 [v0, v1, v2, v3] (.int y1 :: .ref b8 :: st) u P = ((xIs u b8 10 ∧ xcat st ≤ 8) ∧ zr 153 0 [.ref b8, .int y1] [] u (fun r u2 => zr 113 48 [v0, v1, v2, v3] (r.toList ++ st) u2 P)) := zr_CV k113_45 rfl rfl rfl ⟨Nat.le_of_ble_eq_true rfl, Nat.succ_ne_zero _, by decide⟩ rfl
theorem k113_48 : xcd 113 48 = oRi 0 := rfl
theorem r113_48 : zr 113 48 [v0, v1, v2, v3] [.int y1] u P = P (some (.int y1)) u := zr_Ri k113_48
theorem k113_49 : xcd 113 49 = oAl 0 50 := rfl
theorem r113_49 : zr 113 49 [.ref a0, v1, v2, v3] st u P = zr 113 50 [.ref a0, v1, v2, v3] (.ref a0 :: st) u P := zr_Al k113_49 rfl
theorem k113_50 : xcd 113 50 = oIl 2 51 := rfl
theorem r113_50 : zr 113 50 [v0, v1, .int x2, v3] st u P = zr 113 51 [v0, v1, .int x2, v3] (.int x2 :: st) u P := zr_Il k113_50 rfl
theorem k113_51 : xcd 113 51 = oIf (fun x => decide (¬ x = 0)) 63 54 := rfl
theorem r113_51 : zr 113 51 [v0, v1, v2, v3] (.int y1 :: st) u P = (if ¬ y1 = 0 then zr 113 63 [v0, v1, v2, v3] st u P else zr 113 54 [v0, v1, v2, v3] st u P) := zr_If k113_51
theorem k113_54 : xcd 113 54 = oAl 3 55 := rfl
theorem r113_54 : zr 113 54 [v0, v1, v2, .ref a3] st u P = zr 113 55 [v0, v1, v2, .ref a3] (.ref a3 :: st) u P := zr_Al k113_54 rfl
theorem k113_55 : xcd 113 55 = oGR 4 3 58 := rfl
theorem r113_55 : zr 113 55 [v0, v1, v2, v3] (.ref b1 :: st) u P = (xIs u b1 4 ∧ ∃ b, xR u b1 3 = some b ∧ zr 113 58 [v0, v1, v2, v3] (.ref b :: st) u P) := zr_GR k113_55
theorem k113_58 : xcd 113 58 = oIl 1 59 := rfl
theorem r113_58 : zr 113 58 [v0, .int x1, v2, v3] st u P = zr 113 59 [v0, .int x1, v2, v3] (.int x1 :: st) u P := zr_Il k113_58 rfl
theorem k113_59 : xcd 113 59 = oLd 13 60 := rfl
theorem r113_59 : zr 113 59 [v0, v1, v2, v3] (.int y1 :: .ref b1 :: st) u P = ((xIs u b1 13 ∧ xinb y1 (xN u b1)) ∧ zr 113 60 [v0, v1, v2, v3] (.int (xI u b1 (xix y1)) :: st) u P) := zr_Ld k113_59
theorem k113_60 : xcd 113 60 = oGoto 72 := rfl
theorem r113_60 : zr 113 60 [v0, v1, v2, v3] st u P = zr 113 72 [v0, v1, v2, v3] st u P := zr_Goto k113_60
theorem k113_63 : xcd 113 63 = oAl 3 64 := rfl
theorem r113_63 : zr 113 63 [v0, v1, v2, .ref a3] st u P = zr 113 64 [v0, v1, v2, .ref a3] (.ref a3 :: st) u P := zr_Al k113_63 rfl
theorem k113_64 : xcd 113 64 = oGR 4 4 67 := rfl
theorem r113_64 : zr 113 64 [v0, v1, v2, v3] (.ref b1 :: st) u P = (xIs u b1 4 ∧ ∃ b, xR u b1 4 = some b ∧ zr 113 67 [v0, v1, v2, v3] (.ref b :: st) u P) := zr_GR k113_64
theorem k113_67 : xcd 113 67 = oIl 1 68 := rfl
theorem r113_67 : zr 113 67 [v0, .int x1, v2, v3] st u P = zr 113 68 [v0, .int x1, v2, v3] (.int x1 :: st) u P := zr_Il k113_67 rfl
theorem k113_68 : xcd 113 68 = oLd 15 69 := rfl
theorem r113_68 : zr 113 68 [v0, v1, v2, v3] (.int y1 :: .ref b1 :: st) u P = ((xIs u b1 15 ∧ xinb y1 (xN u b1)) ∧ zr 113 69 [v0, v1, v2, v3] (.int (xI u b1 (xix y1)) :: st) u P) := zr_Ld k113_68
theorem k113_69 : xcd 113 69 = oCal 165 1 72 := rfl
theorem r113_69 : zr 113 69 [v0, v1, v2, v3] (.int y1 :: st) u P = (xcat st ≤ 8 ∧ zr 165 0 [.int y1] [] u (fun r u2 => zr 113 72 [v0, v1, v2, v3] (r.toList ++ st) u2 P)) := zr_CS k113_69 (Nat.le_add_left _ _) rfl rfl ⟨Nat.le_of_ble_eq_true rfl, Nat.succ_ne_zero _, by decide⟩ rfl
theorem k113_72 : xcd 113 72 = oCalV 10 153 1 75 := rfl
theorem r113_72 : zr 113 72 [v0, v1, v2, v3] (.int y1 :: .ref b8 :: st) u P = ((xIs u b8 10 ∧ xcat st ≤ 8) ∧ zr 153 0 [.ref b8, .int y1] [] u (fun r u2 => zr 113 75 [v0, v1, v2, v3] (r.toList ++ st) u2 P)) := zr_CV k113_72 rfl rfl rfl ⟨Nat.le_of_ble_eq_true rfl, Nat.succ_ne_zero _, by decide⟩ rfl
theorem k113_75 : xcd 113 75 = oRi 0 := rfl
theorem r113_75 : zr 113 75 [v0, v1, v2, v3] [.int y1] u P = P (some (.int y1)) u := zr_Ri k113_75
theorem k114_0 : xcd 114 0 = oAl 0 1 := rfl
theorem r114_0 : zr 114 0 [.ref a0, v1, v2] st u P = zr 114 1 [.ref a0, v1, v2] (.ref a0 :: st) u P := zr_Al k114_0 rfl
theorem k114_1 : xcd 114 1 = oIl 1 2 := rfl
theorem r114_1 : zr 114 1 [v0, .int x1, v2] st u P = zr 114 2 [v0, .int x1, v2] (.int x1 :: st) u P := zr_Il k114_1 rfl
theorem k114_2 : xcd 114 2 = oCalV 10 156 1 5 := rfl
theorem r114_2 : zr 114 2 [v0, v1, v2] (.int y1 :: .ref b8 :: st) u P = ((xIs u b8 10 ∧ xcat st ≤ 8) ∧ zr 156 0 [.ref b8, .int y1] [] u (fun r u2 => zr 114 5 [v0, v1, v2] (r.toList ++ st) u2 P)) := zr_CV k114_2 rfl rfl rfl ⟨Nat.le_of_ble_eq_true rfl, Nat.succ_ne_zero _, by decide⟩ rfl
theorem k114_5 : xcd 114 5 = oIf (fun x => decide (¬ x = 0)) 14 8 := rfl
theorem r114_5 : zr 114 5 [v0, v1, v2] (.int y1 :: st) u P = (if ¬ y1 = 0 then zr 114 14 [v0, v1, v2] st u P else zr 114 8 [v0, v1, v2] st u P) := zr_If k114_5
theorem k114_8 : xcd 114 8 = oAl 0 9 := rfl
theorem r114_8 : zr 114 8 [.ref a0, v1, v2] st u P = zr 114 9 [.ref a0, v1, v2] (.ref a0 :: st) u P := zr_Al k114_8 rfl
theorem k114_9 : xcd 114 9 = oI 1 10 := rfl
theorem r114_9 : zr 114 9 [v0, v1, v2] st u P = zr 114 10 [v0, v1, v2] (.int 1 :: st) u P := zr_I k114_9
theorem k114_10 : xcd 114 10 = oCalV 10 154 1 13 := rfl
theorem r114_10 : zr 114 10 [v0, v1, v2] (.int y1 :: .ref b8 :: st) u P = ((xIs u b8 10 ∧ xcat st ≤ 8) ∧ zr 154 0 [.ref b8, .int y1] [] u (fun r u2 => zr 114 13 [v0, v1, v2] (r.toList ++ st) u2 P)) := zr_CV k114_10 rfl rfl rfl ⟨Nat.le_of_ble_eq_true rfl, Nat.succ_ne_zero _, by decide⟩ rfl
theorem k114_13 : xcd 114 13 = oRi 0 := rfl
theorem r114_13 : zr 114 13 [v0, v1, v2] [.int y1] u P = P (some (.int y1)) u := zr_Ri k114_13
theorem k114_14 : xcd 114 14 = oIl 2 15 := rfl
theorem r114_14 : zr 114 14 [v0, v1, .int x2] st u P = zr 114 15 [v0, v1, .int x2] (.int x2 :: st) u P := zr_Il k114_14 rfl
theorem k114_15 : xcd 114 15 = oCal 163 1 18 := rfl
theorem r114_15 : zr 114 15 [v0, v1, v2] (.int y1 :: st) u P = (xcat st ≤ 8 ∧ zr 163 0 [.int y1] [] u (fun r u2 => zr 114 18 [v0, v1, v2] (r.toList ++ st) u2 P)) := zr_CS k114_15 (Nat.le_add_left _ _) rfl rfl ⟨Nat.le_of_ble_eq_true rfl, Nat.succ_ne_zero _, by decide⟩ rfl
theorem k114_18 : xcd 114 18 = oIf (fun x => decide (¬ x = 0)) 27 21 := rfl
theorem r114_18 : zr 114 18 [v0, v1, v2] (.int y1 :: st) u P = (if ¬ y1 = 0 then zr 114 27 [v0, v1, v2] st u P else zr 114 21 [v0, v1, v2] st u P) := zr_If k114_18
theorem k114_21 : xcd 114 21 = oAl 0 22 := rfl
theorem r114_21 : zr 114 21 [.ref a0, v1, v2] st u P = zr 114 22 [.ref a0, v1, v2] (.ref a0 :: st) u P := zr_Al k114_21 rfl
theorem k114_22 : xcd 114 22 = oI 2 23 := rfl
theorem r114_22 : zr 114 22 [v0, v1, v2] st u P = zr 114 23 [v0, v1, v2] (.int 2 :: st) u P := zr_I k114_22
theorem k114_23 : xcd 114 23 = oCalV 10 154 1 26 := rfl
theorem r114_23 : zr 114 23 [v0, v1, v2] (.int y1 :: .ref b8 :: st) u P = ((xIs u b8 10 ∧ xcat st ≤ 8) ∧ zr 154 0 [.ref b8, .int y1] [] u (fun r u2 => zr 114 26 [v0, v1, v2] (r.toList ++ st) u2 P)) := zr_CV k114_23 rfl rfl rfl ⟨Nat.le_of_ble_eq_true rfl, Nat.succ_ne_zero _, by decide⟩ rfl
theorem k114_26 : xcd 114 26 = oRi 0 := rfl
theorem r114_26 : zr 114 26 [v0, v1, v2] [.int y1] u P = P (some (.int y1)) u := zr_Ri k114_26
theorem k114_27 : xcd 114 27 = oAl 0 28 := rfl
theorem r114_27 : zr 114 27 [.ref a0, v1, v2] st u P = zr 114 28 [.ref a0, v1, v2] (.ref a0 :: st) u P := zr_Al k114_27 rfl
theorem k114_28 : xcd 114 28 = oAl 0 29 := rfl
theorem r114_28 : zr 114 28 [.ref a0, v1, v2] st u P = zr 114 29 [.ref a0, v1, v2] (.ref a0 :: st) u P := zr_Al k114_28 rfl
theorem k114_29 : xcd 114 29 = oGR 10 1 32 := rfl
theorem r114_29 : zr 114 29 [v0, v1, v2] (.ref b1 :: st) u P = (xIs u b1 10 ∧ ∃ b, xR u b1 1 = some b ∧ zr 114 32 [v0, v1, v2] (.ref b :: st) u P) := zr_GR k114_29
theorem k114_32 : xcd 114 32 = oGR 3 0 35 := rfl
theorem r114_32 : zr 114 32 [v0, v1, v2] (.ref b1 :: st) u P = (xIs u b1 3 ∧ ∃ b, xR u b1 0 = some b ∧ zr 114 35 [v0, v1, v2] (.ref b :: st) u P) := zr_GR k114_32
theorem k114_35 : xcd 114 35 = oGR 4 5 38 := rfl
theorem r114_35 : zr 114 35 [v0, v1, v2] (.ref b1 :: st) u P = (xIs u b1 4 ∧ ∃ b, xR u b1 5 = some b ∧ zr 114 38 [v0, v1, v2] (.ref b :: st) u P) := zr_GR k114_35
theorem k114_38 : xcd 114 38 = oIl 1 39 := rfl
theorem r114_38 : zr 114 38 [v0, .int x1, v2] st u P = zr 114 39 [v0, .int x1, v2] (.int x1 :: st) u P := zr_Il k114_38 rfl
theorem k114_39 : xcd 114 39 = oIl 2 40 := rfl
theorem r114_39 : zr 114 39 [v0, v1, .int x2] st u P = zr 114 40 [v0, v1, .int x2] (.int x2 :: st) u P := zr_Il k114_39 rfl
theorem k114_40 : xcd 114 40 = oCalV 2 22 2 43 := rfl
theorem r114_40 : zr 114 40 [v0, v1, v2] (.int y2 :: .int y1 :: .ref b8 :: st) u P = ((xIs u b8 2 ∧ xcat st ≤ 8) ∧ zr 22 0 [.ref b8, .int y1, .int y2, .null] [] u (fun r u2 => zr 114 43 [v0, v1, v2] (r.toList ++ st) u2 P)) := zr_CV k114_40 rfl rfl rfl ⟨Nat.le_of_ble_eq_true rfl, Nat.succ_ne_zero _, by decide⟩ rfl
theorem k114_43 : xcd 114 43 = oCalV 10 153 1 46 := rfl
theorem r114_43 : zr 114 43 [v0, v1, v2] (.int y1 :: .ref b8 :: st) u P = ((xIs u b8 10 ∧ xcat st ≤ 8) ∧ zr 153 0 [.ref b8, .int y1] [] u (fun r u2 => zr 114 46 [v0, v1, v2] (r.toList ++ st) u2 P)) := zr_CV k114_43 rfl rfl rfl ⟨Nat.le_of_ble_eq_true rfl, Nat.succ_ne_zero _, by decide⟩ rfl
theorem k114_46 : xcd 114 46 = oRi 0 := rfl
theorem r114_46 : zr 114 46 [v0, v1, v2] [.int y1] u P = P (some (.int y1)) u := zr_Ri k114_46
theorem k115_0 : xcd 115 0 = oAl 0 1 := rfl
theorem r115_0 : zr 115 0 [.ref a0, v1, v2, v3, v4, v5, v6, v7] st u P = zr 115 1 [.ref a0, v1, v2, v3, v4, v5, v6, v7] (.ref a0 :: st) u P := zr_Al k115_0 rfl
theorem k115_1 : xcd 115 1 = oIl 1 2 := rfl
theorem r115_1 : zr 115 1 [v0, .int x1, v2, v3, v4, v5, v6, v7] st u P = zr 115 2 [v0, .int x1, v2, v3, v4, v5, v6, v7] (.int x1 :: st) u P := zr_Il k115_1 rfl
theorem k115_2 : xcd 115 2 = oCalV 10 156 1 5 := rfl
theorem r115_2 : zr 115 2 [v0, v1, v2, v3, v4, v5, v6, v7] (.int y1 :: .ref b8 :: st) u P = ((xIs u b8 10 ∧ xcat st ≤ 8) ∧ zr 156 0 [.ref b8, .int y1] [] u (fun r u2 => zr 115 5 [v0, v1, v2, v3, v4, v5, v6, v7] (r.toList ++ st) u2 P)) := zr_CV k115_2 rfl rfl rfl ⟨Nat.le_of_ble_eq_true rfl, Nat.succ_ne_zero _, by decide⟩ rfl
theorem k115_5 : xcd 115 5 = oIf (fun x => decide (x = 0)) 18 8 := rfl
theorem r115_5 : zr 115 5 [v0, v1, v2, v3, v4, v5, v6, v7] (.int y1 :: st) u P = (if y1 = 0 then zr 115 18 [v0, v1, v2, v3, v4, v5, v6, v7] st u P else zr 115 8 [v0, v1, v2, v3, v4, v5, v6, v7] st u P) := zr_If k115_5
theorem k115_8 : xcd 115 8 = oIl 4 10 := rfl
theorem r115_8 : zr 115 8 [v0, v1, v2, v3, .int x4, v5, v6, v7] st u P = zr 115 10 [v0, v1, v2, v3, .int x4, v5, v6, v7] (.int x4 :: st) u P := zr_Il k115_8 rfl
theorem k115_10 : xcd 115 10 = oI 0 11 := rfl
theorem r115_10 : zr 115 10 [v0, v1, v2, v3, v4, v5, v6, v7] st u P = zr 115 11 [v0, v1, v2, v3, v4, v5, v6, v7] (.int 0 :: st) u P := zr_I k115_10
theorem k115_11 : xcd 115 11 = oI 1 12 := rfl
theorem r115_11 : zr 115 11 [v0, v1, v2, v3, v4, v5, v6, v7] st u P = zr 115 12 [v0, v1, v2, v3, v4, v5, v6, v7] (.int 1 :: st) u P := zr_I k115_11
theorem k115_12 : xcd 115 12 = oCal 164 3 15 := rfl
theorem r115_12 : zr 115 12 [v0, v1, v2, v3, v4, v5, v6, v7] (.int y3 :: .int y2 :: .int y1 :: st) u P = (xcat st ≤ 8 ∧ zr 164 0 [.int y1, .int y2, .int y3] [] u (fun r u2 => zr 115 15 [v0, v1, v2, v3, v4, v5, v6, v7] (r.toList ++ st) u2 P)) := zr_CS k115_12 (Nat.le_add_left _ _) rfl rfl ⟨Nat.le_of_ble_eq_true rfl, Nat.succ_ne_zero _, by decide⟩ rfl
theorem k115_15 : xcd 115 15 = oIf (fun x => decide (¬ x = 0)) 24 18 := rfl
theorem r115_15 : zr 115 15 [v0, v1, v2, v3, v4, v5, v6, v7] (.int y1 :: st) u P = (if ¬ y1 = 0 then zr 115 24 [v0, v1, v2, v3, v4, v5, v6, v7] st u P else zr 115 18 [v0, v1, v2, v3, v4, v5, v6, v7] st u P) := zr_If k115_15
theorem k115_18 : xcd 115 18 = oAl 0 19 := rfl
theorem r115_18 : zr 115 18 [.ref a0, v1, v2, v3, v4, v5, v6, v7] st u P = zr 115 19 [.ref a0, v1, v2, v3, v4, v5, v6, v7] (.ref a0 :: st) u P := zr_Al k115_18 rfl
theorem k115_19 : xcd 115 19 = oI 1 20 := rfl
theorem r115_19 : zr 115 19 [v0, v1, v2, v3, v4, v5, v6, v7] st u P = zr 115 20 [v0, v1, v2, v3, v4, v5, v6, v7] (.int 1 :: st) u P := zr_I k115_19
theorem k115_20 : xcd 115 20 = oCalV 10 154 1 23 := rfl
theorem r115_20 : zr 115 20 [v0, v1, v2, v3, v4, v5, v6, v7] (.int y1 :: .ref b8 :: st) u P = ((xIs u b8 10 ∧ xcat st ≤ 8) ∧ zr 154 0 [.ref b8, .int y1] [] u (fun r u2 => zr 115 23 [v0, v1, v2, v3, v4, v5, v6, v7] (r.toList ++ st) u2 P)) := zr_CV k115_20 rfl rfl rfl ⟨Nat.le_of_ble_eq_true rfl, Nat.succ_ne_zero _, by decide⟩ rfl
theorem k115_23 : xcd 115 23 = oRi 0 := rfl
theorem r115_23 : zr 115 23 [v0, v1, v2, v3, v4, v5, v6, v7] [.int y1] u P = P (some (.int y1)) u := zr_Ri k115_23
theorem k115_24 : xcd 115 24 = oIl 2 25 := rfl
theorem r115_24 : zr 115 24 [v0, v1, .int x2, v3, v4, v5, v6, v7] st u P = zr 115 25 [v0, v1, .int x2, v3, v4, v5, v6, v7] (.int x2 :: st) u P := zr_Il k115_24 rfl
theorem k115_25 : xcd 115 25 = oCal 163 1 28 := rfl
theorem r115_25 : zr 115 25 [v0, v1, v2, v3, v4, v5, v6, v7] (.int y1 :: st) u P = (xcat st ≤ 8 ∧ zr 163 0 [.int y1] [] u (fun r u2 => zr 115 28 [v0, v1, v2, v3, v4, v5, v6, v7] (r.toList ++ st) u2 P)) := zr_CS k115_25 (Nat.le_add_left _ _) rfl rfl ⟨Nat.le_of_ble_eq_true rfl, Nat.succ_ne_zero _, by decide⟩ rfl
theorem k115_28 : xcd 115 28 = oIf (fun x => decide (¬ x = 0)) 37 31 := rfl
theorem r115_28 : zr 115 28 [v0, v1, v2, v3, v4, v5, v6, v7] (.int y1 :: st) u P = (if ¬ y1 = 0 then zr 115 37 [v0, v1, v2, v3, v4, v5, v6, v7] st u P else zr 115 31 [v0, v1, v2, v3, v4, v5, v6, v7] st u P) := zr_If k115_28
theorem k115_31 : xcd 115 31 = oAl 0 32 := rfl
theorem r115_31 : zr 115 31 [.ref a0, v1, v2, v3, v4, v5, v6, v7] st u P = zr 115 32 [.ref a0, v1, v2, v3, v4, v5, v6, v7] (.ref a0 :: st) u P := zr_Al k115_31 rfl
theorem k115_32 : xcd 115 32 = oI 2 33 := rfl
theorem r115_32 : zr 115 32 [v0, v1, v2, v3, v4, v5, v6, v7] st u P = zr 115 33 [v0, v1, v2, v3, v4, v5, v6, v7] (.int 2 :: st) u P := zr_I k115_32
theorem k115_33 : xcd 115 33 = oCalV 10 154 1 36 := rfl
theorem r115_33 : zr 115 33 [v0, v1, v2, v3, v4, v5, v6, v7] (.int y1 :: .ref b8 :: st) u P = ((xIs u b8 10 ∧ xcat st ≤ 8) ∧ zr 154 0 [.ref b8, .int y1] [] u (fun r u2 => zr 115 36 [v0, v1, v2, v3, v4, v5, v6, v7] (r.toList ++ st) u2 P)) := zr_CV k115_33 rfl rfl rfl ⟨Nat.le_of_ble_eq_true rfl, Nat.succ_ne_zero _, by decide⟩ rfl
theorem k115_36 : xcd 115 36 = oRi 0 := rfl
theorem r115_36 : zr 115 36 [v0, v1, v2, v3, v4, v5, v6, v7] [.int y1] u P = P (some (.int y1)) u := zr_Ri k115_36
theorem k115_37 : xcd 115 37 = oAl 0 38 := rfl
theorem r115_37 : zr 115 37 [.ref a0, v1, v2, v3, v4, v5, v6, v7] st u P = zr 115 38 [.ref a0, v1, v2, v3, v4, v5, v6, v7] (.ref a0 :: st) u P := zr_Al k115_37 rfl
theorem k115_38 : xcd 115 38 = oGR 10 1 41 := rfl
theorem r115_38 : zr 115 38 [v0, v1, v2, v3, v4, v5, v6, v7] (.ref b1 :: st) u P = (xIs u b1 10 ∧ ∃ b, xR u b1 1 = some b ∧ zr 115 41 [v0, v1, v2, v3, v4, v5, v6, v7] (.ref b :: st) u P) := zr_GR k115_38
theorem k115_41 : xcd 115 41 = oGR 3 0 44 := rfl
theorem r115_41 : zr 115 41 [v0, v1, v2, v3, v4, v5, v6, v7] (.ref b1 :: st) u P = (xIs u b1 3 ∧ ∃ b, xR u b1 0 = some b ∧ zr 115 44 [v0, v1, v2, v3, v4, v5, v6, v7] (.ref b :: st) u P) := zr_GR k115_41
theorem k115_44 : xcd 115 44 = oGR 4 5 47 := rfl
theorem r115_44 : zr 115 44 [v0, v1, v2, v3, v4, v5, v6, v7] (.ref b1 :: st) u P = (xIs u b1 4 ∧ ∃ b, xR u b1 5 = some b ∧ zr 115 47 [v0, v1, v2, v3, v4, v5, v6, v7] (.ref b :: st) u P) := zr_GR k115_44
theorem k115_47 : xcd 115 47 = oAs 5 49 := rfl
theorem r115_47 : zr 115 47 [v0, v1, v2, v3, .int x4, v5, v6, v7] (.ref b1 :: st) u P = zr 115 49 [v0, v1, v2, v3, .int x4, .ref b1, v6, v7] st u P := zr_As k115_47 ⟨Nat.le_of_ble_eq_true rfl, rfl⟩
theorem k115_49 : xcd 115 49 = oAl 5 51 := rfl
theorem r115_49 : zr 115 49 [v0, v1, v2, v3, v4, .ref a5, v6, v7] st u P = zr 115 51 [v0, v1, v2, v3, v4, .ref a5, v6, v7] (.ref a5 :: st) u P := zr_Al k115_49 rfl
theorem k115_51 : xcd 115 51 = oIl 1 52 := rfl
theorem r115_51 : zr 115 51 [v0, .int x1, v2, v3, v4, v5, v6, v7] st u P = zr 115 52 [v0, .int x1, v2, v3, v4, v5, v6, v7] (.int x1 :: st) u P := zr_Il k115_51 rfl
theorem k115_52 : xcd 115 52 = oIl 2 53 := rfl
theorem r115_52 : zr 115 52 [v0, v1, .int x2, v3, v4, v5, v6, v7] st u P = zr 115 53 [v0, v1, .int x2, v3, v4, v5, v6, v7] (.int x2 :: st) u P := zr_Il k115_52 rfl
theorem k115_53 : xcd 115 53 = oCalV 2 19 2 56 := rfl
theorem r115_53 : zr 115 53 [v0, v1, v2, v3, v4, v5, v6, v7] (.int y2 :: .int y1 :: .ref b8 :: st) u P = ((xIs u b8 2 ∧ xcat st ≤ 8) ∧ zr 19 0 [.ref b8, .int y1, .int y2, .null] [] u (fun r u2 => zr 115 56 [v0, v1, v2, v3, v4, v5, v6, v7] (r.toList ++ st) u2 P)) := zr_CV k115_53 rfl rfl rfl ⟨Nat.le_of_ble_eq_true rfl, Nat.succ_ne_zero _, by decide⟩ rfl
theorem k115_56 : xcd 115 56 = oIs 6 58 := rfl
theorem r115_56 : zr 115 56 [v0, v1, v2, v3, v4, .ref a5, v6, v7] (.int y1 :: st) u P = zr 115 58 [v0, v1, v2, v3, v4, .ref a5, .int y1, v7] st u P := zr_Is k115_56 ⟨Nat.le_of_ble_eq_true rfl, rfl⟩
theorem k115_58 : xcd 115 58 = oIl 6 60 := rfl
theorem r115_58 : zr 115 58 [v0, v1, v2, v3, v4, v5, .int x6, v7] st u P = zr 115 60 [v0, v1, v2, v3, v4, v5, .int x6, v7] (.int x6 :: st) u P := zr_Il k115_58 rfl
theorem k115_60 : xcd 115 60 = oIf (fun x => decide (x < 0)) 81 63 := rfl
theorem r115_60 : zr 115 60 [v0, v1, v2, v3, v4, v5, v6, v7] (.int y1 :: st) u P = (if y1 < 0 then zr 115 81 [v0, v1, v2, v3, v4, v5, v6, v7] st u P else zr 115 63 [v0, v1, v2, v3, v4, v5, v6, v7] st u P) := zr_If k115_60
theorem k115_63 : xcd 115 63 = oIl 3 64 := rfl
theorem r115_63 : zr 115 63 [v0, v1, v2, .int x3, v4, v5, v6, v7] st u P = zr 115 64 [v0, v1, v2, .int x3, v4, v5, v6, v7] (.int x3 :: st) u P := zr_Il k115_63 rfl
theorem k115_64 : xcd 115 64 = oI 0 65 := rfl
theorem r115_64 : zr 115 64 [v0, v1, v2, v3, v4, v5, v6, v7] st u P = zr 115 65 [v0, v1, v2, v3, v4, v5, v6, v7] (.int 0 :: st) u P := zr_I k115_64
theorem k115_65 : xcd 115 65 = oAl 5 67 := rfl
theorem r115_65 : zr 115 65 [v0, v1, v2, v3, v4, .ref a5, v6, v7] st u P = zr 115 67 [v0, v1, v2, v3, v4, .ref a5, v6, v7] (.ref a5 :: st) u P := zr_Al k115_65 rfl
theorem k115_67 : xcd 115 67 = oGR 2 3 70 := rfl
theorem r115_67 : zr 115 67 [v0, v1, v2, v3, v4, v5, v6, v7] (.ref b1 :: st) u P = (xIs u b1 2 ∧ ∃ b, xR u b1 3 = some b ∧ zr 115 70 [v0, v1, v2, v3, v4, v5, v6, v7] (.ref b :: st) u P) := zr_GR k115_67
theorem k115_70 : xcd 115 70 = oIl 6 72 := rfl
theorem r115_70 : zr 115 70 [v0, v1, v2, v3, v4, v5, .int x6, v7] st u P = zr 115 72 [v0, v1, v2, v3, v4, v5, .int x6, v7] (.int x6 :: st) u P := zr_Il k115_70 rfl
theorem k115_72 : xcd 115 72 = oLd 13 73 := rfl
theorem r115_72 : zr 115 72 [v0, v1, v2, v3, v4, v5, v6, v7] (.int y1 :: .ref b1 :: st) u P = ((xIs u b1 13 ∧ xinb y1 (xN u b1)) ∧ zr 115 73 [v0, v1, v2, v3, v4, v5, v6, v7] (.int (xI u b1 (xix y1)) :: st) u P) := zr_Ld k115_72
theorem k115_73 : xcd 115 73 = oI 1 74 := rfl
theorem r115_73 : zr 115 73 [v0, v1, v2, v3, v4, v5, v6, v7] st u P = zr 115 74 [v0, v1, v2, v3, v4, v5, v6, v7] (.int 1 :: st) u P := zr_I k115_73
theorem k115_74 : xcd 115 74 = oB (fun x y => x - y) 75 := rfl
theorem r115_74 : zr 115 74 [v0, v1, v2, v3, v4, v5, v6, v7] (.int y1 :: .int y2 :: st) u P = zr 115 75 [v0, v1, v2, v3, v4, v5, v6, v7] (.int (y2 - y1) :: st) u P := zr_B k115_74
theorem k115_75 : xcd 115 75 = oCal 164 3 78 := rfl
theorem r115_75 : zr 115 75 [v0, v1, v2, v3, v4, v5, v6, v7] (.int y3 :: .int y2 :: .int y1 :: st) u P = (xcat st ≤ 8 ∧ zr 164 0 [.int y1, .int y2, .int y3] [] u (fun r u2 => zr 115 78 [v0, v1, v2, v3, v4, v5, v6, v7] (r.toList ++ st) u2 P)) := zr_CS k115_75 (Nat.le_add_left _ _) rfl rfl ⟨Nat.le_of_ble_eq_true rfl, Nat.succ_ne_zero _, by decide⟩ rfl
theorem k115_78 : xcd 115 78 = oIf (fun x => decide (¬ x = 0)) 87 81 := rfl
theorem r115_78 : zr 115 78 [v0, v1, v2, v3, v4, v5, v6, v7] (.int y1 :: st) u P = (if ¬ y1 = 0 then zr 115 87 [v0, v1, v2, v3, v4, v5, v6, v7] st u P else zr 115 81 [v0, v1, v2, v3, v4, v5, v6, v7] st u P) := zr_If k115_78
theorem k115_81 : xcd 115 81 = oAl 0 82 := rfl
theorem r115_81 : zr 115 81 [.ref a0, v1, v2, v3, v4, v5, v6, v7] st u P = zr 115 82 [.ref a0, v1, v2, v3, v4, v5, v6, v7] (.ref a0 :: st) u P := zr_Al k115_81 rfl
theorem k115_82 : xcd 115 82 = oI 1 83 := rfl
theorem r115_82 : zr 115 82 [v0, v1, v2, v3, v4, v5, v6, v7] st u P = zr 115 83 [v0, v1, v2, v3, v4, v5, v6, v7] (.int 1 :: st) u P := zr_I k115_82
theorem k115_83 : xcd 115 83 = oCalV 10 154 1 86 := rfl
theorem r115_83 : zr 115 83 [v0, v1, v2, v3, v4, v5, v6, v7] (.int y1 :: .ref b8 :: st) u P = ((xIs u b8 10 ∧ xcat st ≤ 8) ∧ zr 154 0 [.ref b8, .int y1] [] u (fun r u2 => zr 115 86 [v0, v1, v2, v3, v4, v5, v6, v7] (r.toList ++ st) u2 P)) := zr_CV k115_83 rfl rfl rfl ⟨Nat.le_of_ble_eq_true rfl, Nat.succ_ne_zero _, by decide⟩ rfl
theorem k115_86 : xcd 115 86 = oRi 0 := rfl
theorem r115_86 : zr 115 86 [v0, v1, v2, v3, v4, v5, v6, v7] [.int y1] u P = P (some (.int y1)) u := zr_Ri k115_86
theorem k115_87 : xcd 115 87 = oIl 6 89 := rfl
theorem r115_87 : zr 115 87 [v0, v1, v2, v3, v4, v5, .int x6, v7] st u P = zr 115 89 [v0, v1, v2, v3, v4, v5, .int x6, v7] (.int x6 :: st) u P := zr_Il k115_87 rfl
theorem k115_89 : xcd 115 89 = oI 6 91 := rfl
theorem r115_89 : zr 115 89 [v0, v1, v2, v3, v4, v5, v6, v7] st u P = zr 115 91 [v0, v1, v2, v3, v4, v5, v6, v7] (.int 6 :: st) u P := zr_I k115_89
theorem k115_91 : xcd 115 91 = oB (fun x y => x * y) 92 := rfl
theorem r115_91 : zr 115 91 [v0, v1, v2, v3, v4, v5, v6, v7] (.int y1 :: .int y2 :: st) u P = zr 115 92 [v0, v1, v2, v3, v4, v5, v6, v7] (.int (y2 * y1) :: st) u P := zr_B k115_91
theorem k115_92 : xcd 115 92 = oIl 3 93 := rfl
theorem r115_92 : zr 115 92 [v0, v1, v2, .int x3, v4, v5, v6, v7] st u P = zr 115 93 [v0, v1, v2, .int x3, v4, v5, v6, v7] (.int x3 :: st) u P := zr_Il k115_92 rfl
theorem k115_93 : xcd 115 93 = oB (fun x y => x + y) 94 := rfl
theorem r115_93 : zr 115 93 [v0, v1, v2, v3, v4, v5, v6, v7] (.int y1 :: .int y2 :: st) u P = zr 115 94 [v0, v1, v2, v3, v4, v5, v6, v7] (.int (y2 + y1) :: st) u P := zr_B k115_93
theorem k115_94 : xcd 115 94 = oIs 7 96 := rfl
theorem r115_94 : zr 115 94 [v0, v1, v2, v3, v4, v5, .int x6, v7] (.int y1 :: st) u P = zr 115 96 [v0, v1, v2, v3, v4, v5, .int x6, .int y1] st u P := zr_Is k115_94 ⟨Nat.le_of_ble_eq_true rfl, rfl⟩
theorem k115_96 : xcd 115 96 = oAl 0 97 := rfl
theorem r115_96 : zr 115 96 [.ref a0, v1, v2, v3, v4, v5, v6, v7] st u P = zr 115 97 [.ref a0, v1, v2, v3, v4, v5, v6, v7] (.ref a0 :: st) u P := zr_Al k115_96 rfl
theorem k115_97 : xcd 115 97 = oIl 4 99 := rfl
theorem r115_97 : zr 115 97 [v0, v1, v2, v3, .int x4, v5, v6, v7] st u P = zr 115 99 [v0, v1, v2, v3, .int x4, v5, v6, v7] (.int x4 :: st) u P := zr_Il k115_97 rfl
theorem k115_99 : xcd 115 99 = oIf (fun x => decide (¬ x = 0)) 113 102 := rfl
theorem r115_99 : zr 115 99 [v0, v1, v2, v3, v4, v5, v6, v7] (.int y1 :: st) u P = (if ¬ y1 = 0 then zr 115 113 [v0, v1, v2, v3, v4, v5, v6, v7] st u P else zr 115 102 [v0, v1, v2, v3, v4, v5, v6, v7] st u P) := zr_If k115_99
theorem k115_102 : xcd 115 102 = oAl 5 104 := rfl
theorem r115_102 : zr 115 102 [v0, v1, v2, v3, v4, .ref a5, v6, v7] st u P = zr 115 104 [v0, v1, v2, v3, v4, .ref a5, v6, v7] (.ref a5 :: st) u P := zr_Al k115_102 rfl
theorem k115_104 : xcd 115 104 = oGR 2 4 107 := rfl
theorem r115_104 : zr 115 104 [v0, v1, v2, v3, v4, v5, v6, v7] (.ref b1 :: st) u P = (xIs u b1 2 ∧ ∃ b, xR u b1 4 = some b ∧ zr 115 107 [v0, v1, v2, v3, v4, v5, v6, v7] (.ref b :: st) u P) := zr_GR k115_104
theorem k115_107 : xcd 115 107 = oIl 7 109 := rfl
theorem r115_107 : zr 115 107 [v0, v1, v2, v3, v4, v5, v6, .int x7] st u P = zr 115 109 [v0, v1, v2, v3, v4, v5, v6, .int x7] (.int x7 :: st) u P := zr_Il k115_107 rfl
theorem k115_109 : xcd 115 109 = oLd 13 110 := rfl
theorem r115_109 : zr 115 109 [v0, v1, v2, v3, v4, v5, v6, v7] (.int y1 :: .ref b1 :: st) u P = ((xIs u b1 13 ∧ xinb y1 (xN u b1)) ∧ zr 115 110 [v0, v1, v2, v3, v4, v5, v6, v7] (.int (xI u b1 (xix y1)) :: st) u P) := zr_Ld k115_109
theorem k115_110 : xcd 115 110 = oGoto 121 := rfl
theorem r115_110 : zr 115 110 [v0, v1, v2, v3, v4, v5, v6, v7] st u P = zr 115 121 [v0, v1, v2, v3, v4, v5, v6, v7] st u P := zr_Goto k115_110
theorem k115_113 : xcd 115 113 = oAl 5 115 := rfl
theorem r115_113 : zr 115 113 [v0, v1, v2, v3, v4, .ref a5, v6, v7] st u P = zr 115 115 [v0, v1, v2, v3, v4, .ref a5, v6, v7] (.ref a5 :: st) u P := zr_Al k115_113 rfl
theorem k115_115 : xcd 115 115 = oGR 2 5 118 := rfl
theorem r115_115 : zr 115 115 [v0, v1, v2, v3, v4, v5, v6, v7] (.ref b1 :: st) u P = (xIs u b1 2 ∧ ∃ b, xR u b1 5 = some b ∧ zr 115 118 [v0, v1, v2, v3, v4, v5, v6, v7] (.ref b :: st) u P) := zr_GR k115_115
theorem k115_118 : xcd 115 118 = oIl 7 120 := rfl
theorem r115_118 : zr 115 118 [v0, v1, v2, v3, v4, v5, v6, .int x7] st u P = zr 115 120 [v0, v1, v2, v3, v4, v5, v6, .int x7] (.int x7 :: st) u P := zr_Il k115_118 rfl
theorem k115_120 : xcd 115 120 = oLd 13 121 := rfl
theorem r115_120 : zr 115 120 [v0, v1, v2, v3, v4, v5, v6, v7] (.int y1 :: .ref b1 :: st) u P = ((xIs u b1 13 ∧ xinb y1 (xN u b1)) ∧ zr 115 121 [v0, v1, v2, v3, v4, v5, v6, v7] (.int (xI u b1 (xix y1)) :: st) u P) := zr_Ld k115_120
theorem k115_121 : xcd 115 121 = oCalV 10 153 1 124 := rfl
theorem r115_121 : zr 115 121 [v0, v1, v2, v3, v4, v5, v6, v7] (.int y1 :: .ref b8 :: st) u P = ((xIs u b8 10 ∧ xcat st ≤ 8) ∧ zr 153 0 [.ref b8, .int y1] [] u (fun r u2 => zr 115 124 [v0, v1, v2, v3, v4, v5, v6, v7] (r.toList ++ st) u2 P)) := zr_CV k115_121 rfl rfl rfl ⟨Nat.le_of_ble_eq_true rfl, Nat.succ_ne_zero _, by decide⟩ rfl
theorem k115_124 : xcd 115 124 = oRi 0 := rfl
theorem r115_124 : zr 115 124 [v0, v1, v2, v3, v4, v5, v6, v7] [.int y1] u P = P (some (.int y1)) u := zr_Ri k115_124
theorem k116_0 : xcd 116 0 = oAl 0 1 := rfl
theorem r116_0 : zr 116 0 [.ref a0, v1, v2, v3, v4] st u P = zr 116 1 [.ref a0, v1, v2, v3, v4] (.ref a0 :: st) u P := zr_Al k116_0 rfl
theorem k116_1 : xcd 116 1 = oIl 1 2 := rfl
theorem r116_1 : zr 116 1 [v0, .int x1, v2, v3, v4] st u P = zr 116 2 [v0, .int x1, v2, v3, v4] (.int x1 :: st) u P := zr_Il k116_1 rfl
theorem k116_2 : xcd 116 2 = oCalV 10 156 1 5 := rfl
theorem r116_2 : zr 116 2 [v0, v1, v2, v3, v4] (.int y1 :: .ref b8 :: st) u P = ((xIs u b8 10 ∧ xcat st ≤ 8) ∧ zr 156 0 [.ref b8, .int y1] [] u (fun r u2 => zr 116 5 [v0, v1, v2, v3, v4] (r.toList ++ st) u2 P)) := zr_CV k116_2 rfl rfl rfl ⟨Nat.le_of_ble_eq_true rfl, Nat.succ_ne_zero _, by decide⟩ rfl
theorem k116_5 : xcd 116 5 = oIf (fun x => decide (¬ x = 0)) 14 8 := rfl
theorem r116_5 : zr 116 5 [v0, v1, v2, v3, v4] (.int y1 :: st) u P = (if ¬ y1 = 0 then zr 116 14 [v0, v1, v2, v3, v4] st u P else zr 116 8 [v0, v1, v2, v3, v4] st u P) := zr_If k116_5
theorem k116_8 : xcd 116 8 = oAl 0 9 := rfl
theorem r116_8 : zr 116 8 [.ref a0, v1, v2, v3, v4] st u P = zr 116 9 [.ref a0, v1, v2, v3, v4] (.ref a0 :: st) u P := zr_Al k116_8 rfl
theorem k116_9 : xcd 116 9 = oI 1 10 := rfl
theorem r116_9 : zr 116 9 [v0, v1, v2, v3, v4] st u P = zr 116 10 [v0, v1, v2, v3, v4] (.int 1 :: st) u P := zr_I k116_9
theorem k116_10 : xcd 116 10 = oCalV 10 155 1 13 := rfl
theorem r116_10 : zr 116 10 [v0, v1, v2, v3, v4] (.int y1 :: .ref b8 :: st) u P = ((xIs u b8 10 ∧ xcat st ≤ 8) ∧ zr 155 0 [.ref b8, .int y1] [] u (fun r u2 => zr 116 13 [v0, v1, v2, v3, v4] (r.toList ++ st) u2 P)) := zr_CV k116_10 rfl rfl rfl ⟨Nat.le_of_ble_eq_true rfl, Nat.succ_ne_zero _, by decide⟩ rfl
theorem k116_13 : xcd 116 13 = oRi 0 := rfl
theorem r116_13 : zr 116 13 [v0, v1, v2, v3, v4] [.int y1] u P = P (some (.int y1)) u := zr_Ri k116_13
theorem k116_14 : xcd 116 14 = oIl 2 15 := rfl
theorem r116_14 : zr 116 14 [v0, v1, .int x2, v3, v4] st u P = zr 116 15 [v0, v1, .int x2, v3, v4] (.int x2 :: st) u P := zr_Il k116_14 rfl
theorem k116_15 : xcd 116 15 = oCal 163 1 18 := rfl
theorem r116_15 : zr 116 15 [v0, v1, v2, v3, v4] (.int y1 :: st) u P = (xcat st ≤ 8 ∧ zr 163 0 [.int y1] [] u (fun r u2 => zr 116 18 [v0, v1, v2, v3, v4] (r.toList ++ st) u2 P)) := zr_CS k116_15 (Nat.le_add_left _ _) rfl rfl ⟨Nat.le_of_ble_eq_true rfl, Nat.succ_ne_zero _, by decide⟩ rfl
theorem k116_18 : xcd 116 18 = oIf (fun x => decide (¬ x = 0)) 27 21 := rfl
theorem r116_18 : zr 116 18 [v0, v1, v2, v3, v4] (.int y1 :: st) u P = (if ¬ y1 = 0 then zr 116 27 [v0, v1, v2, v3, v4] st u P else zr 116 21 [v0, v1, v2, v3, v4] st u P) := zr_If k116_18
theorem k116_21 : xcd 116 21 = oAl 0 22 := rfl
theorem r116_21 : zr 116 21 [.ref a0, v1, v2, v3, v4] st u P = zr 116 22 [.ref a0, v1, v2, v3, v4] (.ref a0 :: st) u P := zr_Al k116_21 rfl
theorem k116_22 : xcd 116 22 = oI 2 23 := rfl
theorem r116_22 : zr 116 22 [v0, v1, v2, v3, v4] st u P = zr 116 23 [v0, v1, v2, v3, v4] (.int 2 :: st) u P := zr_I k116_22
theorem k116_23 : xcd 116 23 = oCalV 10 155 1 26 := rfl
theorem r116_23 : zr 116 23 [v0, v1, v2, v3, v4] (.int y1 :: .ref b8 :: st) u P = ((xIs u b8 10 ∧ xcat st ≤ 8) ∧ zr 155 0 [.ref b8, .int y1] [] u (fun r u2 => zr 116 26 [v0, v1, v2, v3, v4] (r.toList ++ st) u2 P)) := zr_CV k116_23 rfl rfl rfl ⟨Nat.le_of_ble_eq_true rfl, Nat.succ_ne_zero _, by decide⟩ rfl
theorem k116_26 : xcd 116 26 = oRi 0 := rfl
theorem r116_26 : zr 116 26 [v0, v1, v2, v3, v4] [.int y1] u P = P (some (.int y1)) u := zr_Ri k116_26
theorem k116_27 : xcd 116 27 = oAl 0 28 := rfl
theorem r116_27 : zr 116 27 [.ref a0, v1, v2, v3, v4] st u P = zr 116 28 [.ref a0, v1, v2, v3, v4] (.ref a0 :: st) u P := zr_Al k116_27 rfl
theorem k116_28 : xcd 116 28 = oGR 10 1 31 := rfl
theorem r116_28 : zr 116 28 [v0, v1, v2, v3, v4] (.ref b1 :: st) u P = (xIs u b1 10 ∧ ∃ b, xR u b1 1 = some b ∧ zr 116 31 [v0, v1, v2, v3, v4] (.ref b :: st) u P) := zr_GR k116_28
theorem k116_31 : xcd 116 31 = oGR 3 0 34 := rfl
theorem r116_31 : zr 116 31 [v0, v1, v2, v3, v4] (.ref b1 :: st) u P = (xIs u b1 3 ∧ ∃ b, xR u b1 0 = some b ∧ zr 116 34 [v0, v1, v2, v3, v4] (.ref b :: st) u P) := zr_GR k116_31
theorem k116_34 : xcd 116 34 = oGR 4 5 37 := rfl
theorem r116_34 : zr 116 34 [v0, v1, v2, v3, v4] (.ref b1 :: st) u P = (xIs u b1 4 ∧ ∃ b, xR u b1 5 = some b ∧ zr 116 37 [v0, v1, v2, v3, v4] (.ref b :: st) u P) := zr_GR k116_34
theorem k116_37 : xcd 116 37 = oAs 3 38 := rfl
theorem r116_37 : zr 116 37 [v0, v1, .int x2, v3, v4] (.ref b1 :: st) u P = zr 116 38 [v0, v1, .int x2, .ref b1, v4] st u P := zr_As k116_37 ⟨Nat.le_of_ble_eq_true rfl, rfl⟩
theorem k116_38 : xcd 116 38 = oAl 3 39 := rfl
theorem r116_38 : zr 116 38 [v0, v1, v2, .ref a3, v4] st u P = zr 116 39 [v0, v1, v2, .ref a3, v4] (.ref a3 :: st) u P := zr_Al k116_38 rfl
theorem k116_39 : xcd 116 39 = oIl 1 40 := rfl
theorem r116_39 : zr 116 39 [v0, .int x1, v2, v3, v4] st u P = zr 116 40 [v0, .int x1, v2, v3, v4] (.int x1 :: st) u P := zr_Il k116_39 rfl
theorem k116_40 : xcd 116 40 = oIl 2 41 := rfl
theorem r116_40 : zr 116 40 [v0, v1, .int x2, v3, v4] st u P = zr 116 41 [v0, v1, .int x2, v3, v4] (.int x2 :: st) u P := zr_Il k116_40 rfl
theorem k116_41 : xcd 116 41 = oCalV 2 19 2 44 := rfl
theorem r116_41 : zr 116 41 [v0, v1, v2, v3, v4] (.int y2 :: .int y1 :: .ref b8 :: st) u P = ((xIs u b8 2 ∧ xcat st ≤ 8) ∧ zr 19 0 [.ref b8, .int y1, .int y2, .null] [] u (fun r u2 => zr 116 44 [v0, v1, v2, v3, v4] (r.toList ++ st) u2 P)) := zr_CV k116_41 rfl rfl rfl ⟨Nat.le_of_ble_eq_true rfl, Nat.succ_ne_zero _, by decide⟩ rfl
theorem k116_44 : xcd 116 44 = oIs 4 46 := rfl
theorem r116_44 : zr 116 44 [v0, v1, v2, .ref a3, v4] (.int y1 :: st) u P = zr 116 46 [v0, v1, v2, .ref a3, .int y1] st u P := zr_Is k116_44 ⟨Nat.le_of_ble_eq_true rfl, rfl⟩
theorem k116_46 : xcd 116 46 = oAl 0 47 := rfl
theorem r116_46 : zr 116 46 [.ref a0, v1, v2, v3, v4] st u P = zr 116 47 [.ref a0, v1, v2, v3, v4] (.ref a0 :: st) u P := zr_Al k116_46 rfl
theorem k116_47 : xcd 116 47 = oIl 4 49 := rfl
theorem r116_47 : zr 116 47 [v0, v1, v2, v3, .int x4] st u P = zr 116 49 [v0, v1, v2, v3, .int x4] (.int x4 :: st) u P := zr_Il k116_47 rfl
theorem k116_49 : xcd 116 49 = oIf (fun x => decide (0 ≤ x)) 56 52 := rfl
theorem r116_49 : zr 116 49 [v0, v1, v2, v3, v4] (.int y1 :: st) u P = (if 0 ≤ y1 then zr 116 56 [v0, v1, v2, v3, v4] st u P else zr 116 52 [v0, v1, v2, v3, v4] st u P) := zr_If k116_49
theorem k116_52 : xcd 116 52 = oI 0 53 := rfl
theorem r116_52 : zr 116 52 [v0, v1, v2, v3, v4] st u P = zr 116 53 [v0, v1, v2, v3, v4] (.int 0 :: st) u P := zr_I k116_52
theorem k116_53 : xcd 116 53 = oGoto 62 := rfl
theorem r116_53 : zr 116 53 [v0, v1, v2, v3, v4] st u P = zr 116 62 [v0, v1, v2, v3, v4] st u P := zr_Goto k116_53
theorem k116_56 : xcd 116 56 = oAl 3 57 := rfl
theorem r116_56 : zr 116 56 [v0, v1, v2, .ref a3, v4] st u P = zr 116 57 [v0, v1, v2, .ref a3, v4] (.ref a3 :: st) u P := zr_Al k116_56 rfl
theorem k116_57 : xcd 116 57 = oIl 4 59 := rfl
theorem r116_57 : zr 116 57 [v0, v1, v2, v3, .int x4] st u P = zr 116 59 [v0, v1, v2, v3, .int x4] (.int x4 :: st) u P := zr_Il k116_57 rfl
theorem k116_59 : xcd 116 59 = oCalV 2 25 1 62 := rfl
theorem r116_59 : zr 116 59 [v0, v1, v2, v3, v4] (.int y1 :: .ref b8 :: st) u P = ((xIs u b8 2 ∧ xcat st ≤ 8) ∧ zr 25 0 [.ref b8, .int y1, .null, .null, .null, .null] [] u (fun r u2 => zr 116 62 [v0, v1, v2, v3, v4] (r.toList ++ st) u2 P)) := zr_CV k116_59 rfl rfl rfl ⟨Nat.le_of_ble_eq_true rfl, Nat.succ_ne_zero _, by decide⟩ rfl
theorem k116_62 : xcd 116 62 = oCalV 10 153 1 65 := rfl
theorem r116_62 : zr 116 62 [v0, v1, v2, v3, v4] (.int y1 :: .ref b8 :: st) u P = ((xIs u b8 10 ∧ xcat st ≤ 8) ∧ zr 153 0 [.ref b8, .int y1] [] u (fun r u2 => zr 116 65 [v0, v1, v2, v3, v4] (r.toList ++ st) u2 P)) := zr_CV k116_62 rfl rfl rfl ⟨Nat.le_of_ble_eq_true rfl, Nat.succ_ne_zero _, by decide⟩ rfl
theorem k116_65 : xcd 116 65 = oRi 0 := rfl
theorem r116_65 : zr 116 65 [v0, v1, v2, v3, v4] [.int y1] u P = P (some (.int y1)) u := zr_Ri k116_65
theorem k117_0 : xcd 117 0 = oAl 0 1 := rfl
theorem r117_0 : zr 117 0 [.ref a0, v1, v2, v3, v4, v5] st u P = zr 117 1 [.ref a0, v1, v2, v3, v4, v5] (.ref a0 :: st) u P := zr_Al k117_0 rfl
theorem k117_1 : xcd 117 1 = oIl 1 2 := rfl
theorem r117_1 : zr 117 1 [v0, .int x1, v2, v3, v4, v5] st u P = zr 117 2 [v0, .int x1, v2, v3, v4, v5] (.int x1 :: st) u P := zr_Il k117_1 rfl
theorem k117_2 : xcd 117 2 = oCalV 10 156 1 5 := rfl
theorem r117_2 : zr 117 2 [v0, v1, v2, v3, v4, v5] (.int y1 :: .ref b8 :: st) u P = ((xIs u b8 10 ∧ xcat st ≤ 8) ∧ zr 156 0 [.ref b8, .int y1] [] u (fun r u2 => zr 117 5 [v0, v1, v2, v3, v4, v5] (r.toList ++ st) u2 P)) := zr_CV k117_2 rfl rfl rfl ⟨Nat.le_of_ble_eq_true rfl, Nat.succ_ne_zero _, by decide⟩ rfl
theorem k117_5 : xcd 117 5 = oIf (fun x => decide (¬ x = 0)) 14 8 := rfl
theorem r117_5 : zr 117 5 [v0, v1, v2, v3, v4, v5] (.int y1 :: st) u P = (if ¬ y1 = 0 then zr 117 14 [v0, v1, v2, v3, v4, v5] st u P else zr 117 8 [v0, v1, v2, v3, v4, v5] st u P) := zr_If k117_5
theorem k117_8 : xcd 117 8 = oAl 0 9 := rfl
theorem r117_8 : zr 117 8 [.ref a0, v1, v2, v3, v4, v5] st u P = zr 117 9 [.ref a0, v1, v2, v3, v4, v5] (.ref a0 :: st) u P := zr_Al k117_8 rfl
theorem k117_9 : xcd 117 9 = oI 1 10 := rfl
theorem r117_9 : zr 117 9 [v0, v1, v2, v3, v4, v5] st u P = zr 117 10 [v0, v1, v2, v3, v4, v5] (.int 1 :: st) u P := zr_I k117_9
theorem k117_10 : xcd 117 10 = oCalV 10 154 1 13 := rfl
theorem r117_10 : zr 117 10 [v0, v1, v2, v3, v4, v5] (.int y1 :: .ref b8 :: st) u P = ((xIs u b8 10 ∧ xcat st ≤ 8) ∧ zr 154 0 [.ref b8, .int y1] [] u (fun r u2 => zr 117 13 [v0, v1, v2, v3, v4, v5] (r.toList ++ st) u2 P)) := zr_CV k117_10 rfl rfl rfl ⟨Nat.le_of_ble_eq_true rfl, Nat.succ_ne_zero _, by decide⟩ rfl
theorem k117_13 : xcd 117 13 = oRi 0 := rfl
theorem r117_13 : zr 117 13 [v0, v1, v2, v3, v4, v5] [.int y1] u P = P (some (.int y1)) u := zr_Ri k117_13
theorem k117_14 : xcd 117 14 = oIl 2 15 := rfl
theorem r117_14 : zr 117 14 [v0, v1, .int x2, v3, v4, v5] st u P = zr 117 15 [v0, v1, .int x2, v3, v4, v5] (.int x2 :: st) u P := zr_Il k117_14 rfl
theorem k117_15 : xcd 117 15 = oCal 163 1 18 := rfl
theorem r117_15 : zr 117 15 [v0, v1, v2, v3, v4, v5] (.int y1 :: st) u P = (xcat st ≤ 8 ∧ zr 163 0 [.int y1] [] u (fun r u2 => zr 117 18 [v0, v1, v2, v3, v4, v5] (r.toList ++ st) u2 P)) := zr_CS k117_15 (Nat.le_add_left _ _) rfl rfl ⟨Nat.le_of_ble_eq_true rfl, Nat.succ_ne_zero _, by decide⟩ rfl
theorem k117_18 : xcd 117 18 = oIf (fun x => decide (x = 0)) 31 21 := rfl
theorem r117_18 : zr 117 18 [v0, v1, v2, v3, v4, v5] (.int y1 :: st) u P = (if y1 = 0 then zr 117 31 [v0, v1, v2, v3, v4, v5] st u P else zr 117 21 [v0, v1, v2, v3, v4, v5] st u P) := zr_If k117_18
theorem k117_21 : xcd 117 21 = oAl 0 22 := rfl
theorem r117_21 : zr 117 21 [.ref a0, v1, v2, v3, v4, v5] st u P = zr 117 22 [.ref a0, v1, v2, v3, v4, v5] (.ref a0 :: st) u P := zr_Al k117_21 rfl
theorem k117_22 : xcd 117 22 = oIl 3 23 := rfl
theorem r117_22 : zr 117 22 [v0, v1, v2, .int x3, v4, v5] st u P = zr 117 23 [v0, v1, v2, .int x3, v4, v5] (.int x3 :: st) u P := zr_Il k117_22 rfl
theorem k117_23 : xcd 117 23 = oIl 4 25 := rfl
theorem r117_23 : zr 117 23 [v0, v1, v2, v3, .int x4, v5] st u P = zr 117 25 [v0, v1, v2, v3, .int x4, v5] (.int x4 :: st) u P := zr_Il k117_23 rfl
theorem k117_25 : xcd 117 25 = oCalV 10 161 2 28 := rfl
theorem r117_25 : zr 117 25 [v0, v1, v2, v3, v4, v5] (.int y2 :: .int y1 :: .ref b8 :: st) u P = ((xIs u b8 10 ∧ xcat st ≤ 8) ∧ zr 161 0 [.ref b8, .int y1, .int y2] [] u (fun r u2 => zr 117 28 [v0, v1, v2, v3, v4, v5] (r.toList ++ st) u2 P)) := zr_CV k117_25 rfl rfl rfl ⟨Nat.le_of_ble_eq_true rfl, Nat.succ_ne_zero _, by decide⟩ rfl
theorem k117_28 : xcd 117 28 = oIf (fun x => decide (¬ x = 0)) 37 31 := rfl
theorem r117_28 : zr 117 28 [v0, v1, v2, v3, v4, v5] (.int y1 :: st) u P = (if ¬ y1 = 0 then zr 117 37 [v0, v1, v2, v3, v4, v5] st u P else zr 117 31 [v0, v1, v2, v3, v4, v5] st u P) := zr_If k117_28
theorem k117_31 : xcd 117 31 = oAl 0 32 := rfl
theorem r117_31 : zr 117 31 [.ref a0, v1, v2, v3, v4, v5] st u P = zr 117 32 [.ref a0, v1, v2, v3, v4, v5] (.ref a0 :: st) u P := zr_Al k117_31 rfl
theorem k117_32 : xcd 117 32 = oI 2 33 := rfl
theorem r117_32 : zr 117 32 [v0, v1, v2, v3, v4, v5] st u P = zr 117 33 [v0, v1, v2, v3, v4, v5] (.int 2 :: st) u P := zr_I k117_32
theorem k117_33 : xcd 117 33 = oCalV 10 154 1 36 := rfl
theorem r117_33 : zr 117 33 [v0, v1, v2, v3, v4, v5] (.int y1 :: .ref b8 :: st) u P = ((xIs u b8 10 ∧ xcat st ≤ 8) ∧ zr 154 0 [.ref b8, .int y1] [] u (fun r u2 => zr 117 36 [v0, v1, v2, v3, v4, v5] (r.toList ++ st) u2 P)) := zr_CV k117_33 rfl rfl rfl ⟨Nat.le_of_ble_eq_true rfl, Nat.succ_ne_zero _, by decide⟩ rfl
theorem k117_36 : xcd 117 36 = oRi 0 := rfl
theorem r117_36 : zr 117 36 [v0, v1, v2, v3, v4, v5] [.int y1] u P = P (some (.int y1)) u := zr_Ri k117_36
theorem k117_37 : xcd 117 37 = oAl 0 38 := rfl
theorem r117_37 : zr 117 37 [.ref a0, v1, v2, v3, v4, v5] st u P = zr 117 38 [.ref a0, v1, v2, v3, v4, v5] (.ref a0 :: st) u P := zr_Al k117_37 rfl
theorem k117_38 : xcd 117 38 = oGR 10 1 41 := rfl
theorem r117_38 : zr 117 38 [v0, v1, v2, v3, v4, v5] (.ref b1 :: st) u P = (xIs u b1 10 ∧ ∃ b, xR u b1 1 = some b ∧ zr 117 41 [v0, v1, v2, v3, v4, v5] (.ref b :: st) u P) := zr_GR k117_38
theorem k117_41 : xcd 117 41 = oGR 3 0 44 := rfl
theorem r117_41 : zr 117 41 [v0, v1, v2, v3, v4, v5] (.ref b1 :: st) u P = (xIs u b1 3 ∧ ∃ b, xR u b1 0 = some b ∧ zr 117 44 [v0, v1, v2, v3, v4, v5] (.ref b :: st) u P) := zr_GR k117_41
theorem k117_44 : xcd 117 44 = oGR 4 5 47 := rfl
theorem r117_44 : zr 117 44 [v0, v1, v2, v3, v4, v5] (.ref b1 :: st) u P = (xIs u b1 4 ∧ ∃ b, xR u b1 5 = some b ∧ zr 117 47 [v0, v1, v2, v3, v4, v5] (.ref b :: st) u P) := zr_GR k117_44
theorem k117_47 : xcd 117 47 = oAs 5 49 := rfl
theorem r117_47 : zr 117 47 [v0, v1, v2, v3, .int x4, v5] (.ref b1 :: st) u P = zr 117 49 [v0, v1, v2, v3, .int x4, .ref b1] st u P := zr_As k117_47 ⟨Nat.le_of_ble_eq_true rfl, rfl⟩
theorem k117_49 : xcd 117 49 = oAl 0 50 := rfl
theorem r117_49 : zr 117 49 [.ref a0, v1, v2, v3, v4, v5] st u P = zr 117 50 [.ref a0, v1, v2, v3, v4, v5] (.ref a0 :: st) u P := zr_Al k117_49 rfl
theorem k117_50 : xcd 117 50 = oAl 5 52 := rfl
theorem r117_50 : zr 117 50 [v0, v1, v2, v3, v4, .ref a5] st u P = zr 117 52 [v0, v1, v2, v3, v4, .ref a5] (.ref a5 :: st) u P := zr_Al k117_50 rfl
theorem k117_52 : xcd 117 52 = oAl 5 54 := rfl
theorem r117_52 : zr 117 52 [v0, v1, v2, v3, v4, .ref a5] st u P = zr 117 54 [v0, v1, v2, v3, v4, .ref a5] (.ref a5 :: st) u P := zr_Al k117_52 rfl
theorem k117_54 : xcd 117 54 = oIl 1 55 := rfl
theorem r117_54 : zr 117 54 [v0, .int x1, v2, v3, v4, v5] st u P = zr 117 55 [v0, .int x1, v2, v3, v4, v5] (.int x1 :: st) u P := zr_Il k117_54 rfl
theorem k117_55 : xcd 117 55 = oIl 2 56 := rfl
theorem r117_55 : zr 117 55 [v0, v1, .int x2, v3, v4, v5] st u P = zr 117 56 [v0, v1, .int x2, v3, v4, v5] (.int x2 :: st) u P := zr_Il k117_55 rfl
theorem k117_56 : xcd 117 56 = oCalV 2 19 2 59 := rfl
theorem r117_56 : zr 117 56 [v0, v1, v2, v3, v4, v5] (.int y2 :: .int y1 :: .ref b8 :: st) u P = ((xIs u b8 2 ∧ xcat st ≤ 8) ∧ zr 19 0 [.ref b8, .int y1, .int y2, .null] [] u (fun r u2 => zr 117 59 [v0, v1, v2, v3, v4, v5] (r.toList ++ st) u2 P)) := zr_CV k117_56 rfl rfl rfl ⟨Nat.le_of_ble_eq_true rfl, Nat.succ_ne_zero _, by decide⟩ rfl
theorem k117_59 : xcd 117 59 = oIl 3 60 := rfl
theorem r117_59 : zr 117 59 [v0, v1, v2, .int x3, v4, v5] st u P = zr 117 60 [v0, v1, v2, .int x3, v4, v5] (.int x3 :: st) u P := zr_Il k117_59 rfl
theorem k117_60 : xcd 117 60 = oIl 4 62 := rfl
theorem r117_60 : zr 117 60 [v0, v1, v2, v3, .int x4, v5] st u P = zr 117 62 [v0, v1, v2, v3, .int x4, v5] (.int x4 :: st) u P := zr_Il k117_60 rfl
theorem k117_62 : xcd 117 62 = oCalV 2 26 3 65 := rfl
theorem r117_62 : zr 117 62 [v0, v1, v2, v3, v4, v5] (.int y3 :: .int y2 :: .int y1 :: .ref b8 :: st) u P = ((xIs u b8 2 ∧ xcat st ≤ 8) ∧ zr 26 0 [.ref b8, .int y1, .int y2, .int y3, .null, .null, .null, .null] [] u (fun r u2 => zr 117 65 [v0, v1, v2, v3, v4, v5] (r.toList ++ st) u2 P)) := zr_CV k117_62 rfl rfl rfl ⟨Nat.le_of_ble_eq_true rfl, Nat.succ_ne_zero _, by decide⟩ rfl
theorem k117_65 : xcd 117 65 = oCal 165 1 68 := rfl
theorem r117_65 : zr 117 65 [v0, v1, v2, v3, v4, v5] (.int y1 :: st) u P = (xcat st ≤ 8 ∧ zr 165 0 [.int y1] [] u (fun r u2 => zr 117 68 [v0, v1, v2, v3, v4, v5] (r.toList ++ st) u2 P)) := zr_CS k117_65 (Nat.le_add_left _ _) rfl rfl ⟨Nat.le_of_ble_eq_true rfl, Nat.succ_ne_zero _, by decide⟩ rfl
theorem k117_68 : xcd 117 68 = oCalV 10 153 1 71 := rfl
theorem r117_68 : zr 117 68 [v0, v1, v2, v3, v4, v5] (.int y1 :: .ref b8 :: st) u P = ((xIs u b8 10 ∧ xcat st ≤ 8) ∧ zr 153 0 [.ref b8, .int y1] [] u (fun r u2 => zr 117 71 [v0, v1, v2, v3, v4, v5] (r.toList ++ st) u2 P)) := zr_CV k117_68 rfl rfl rfl ⟨Nat.le_of_ble_eq_true rfl, Nat.succ_ne_zero _, by decide⟩ rfl
theorem k117_71 : xcd 117 71 = oRi 0 := rfl
theorem r117_71 : zr 117 71 [v0, v1, v2, v3, v4, v5] [.int y1] u P = P (some (.int y1)) u := zr_Ri k117_71
theorem k118_0 : xcd 118 0 = oAl 0 1 := rfl
theorem r118_0 : zr 118 0 [.ref a0, v1, v2, v3, v4, v5, v6] st u P = zr 118 1 [.ref a0, v1, v2, v3, v4, v5, v6] (.ref a0 :: st) u P := zr_Al k118_0 rfl
theorem k118_1 : xcd 118 1 = oIl 1 2 := rfl
theorem r118_1 : zr 118 1 [v0, .int x1, v2, v3, v4, v5, v6] st u P = zr 118 2 [v0, .int x1, v2, v3, v4, v5, v6] (.int x1 :: st) u P := zr_Il k118_1 rfl
theorem k118_2 : xcd 118 2 = oCalV 10 156 1 5 := rfl
theorem r118_2 : zr 118 2 [v0, v1, v2, v3, v4, v5, v6] (.int y1 :: .ref b8 :: st) u P = ((xIs u b8 10 ∧ xcat st ≤ 8) ∧ zr 156 0 [.ref b8, .int y1] [] u (fun r u2 => zr 118 5 [v0, v1, v2, v3, v4, v5, v6] (r.toList ++ st) u2 P)) := zr_CV k118_2 rfl rfl rfl ⟨Nat.le_of_ble_eq_true rfl, Nat.succ_ne_zero _, by decide⟩ rfl
theorem k118_5 : xcd 118 5 = oIf (fun x => decide (¬ x = 0)) 14 8 := rfl
theorem r118_5 : zr 118 5 [v0, v1, v2, v3, v4, v5, v6] (.int y1 :: st) u P = (if ¬ y1 = 0 then zr 118 14 [v0, v1, v2, v3, v4, v5, v6] st u P else zr 118 8 [v0, v1, v2, v3, v4, v5, v6] st u P) := zr_If k118_5
theorem k118_8 : xcd 118 8 = oAl 0 9 := rfl
theorem r118_8 : zr 118 8 [.ref a0, v1, v2, v3, v4, v5, v6] st u P = zr 118 9 [.ref a0, v1, v2, v3, v4, v5, v6] (.ref a0 :: st) u P := zr_Al k118_8 rfl
theorem k118_9 : xcd 118 9 = oI 1 10 := rfl
theorem r118_9 : zr 118 9 [v0, v1, v2, v3, v4, v5, v6] st u P = zr 118 10 [v0, v1, v2, v3, v4, v5, v6] (.int 1 :: st) u P := zr_I k118_9
theorem k118_10 : xcd 118 10 = oCalV 10 154 1 13 := rfl
theorem r118_10 : zr 118 10 [v0, v1, v2, v3, v4, v5, v6] (.int y1 :: .ref b8 :: st) u P = ((xIs u b8 10 ∧ xcat st ≤ 8) ∧ zr 154 0 [.ref b8, .int y1] [] u (fun r u2 => zr 118 13 [v0, v1, v2, v3, v4, v5, v6] (r.toList ++ st) u2 P)) := zr_CV k118_10 rfl rfl rfl ⟨Nat.le_of_ble_eq_true rfl, Nat.succ_ne_zero _, by decide⟩ rfl
theorem k118_13 : xcd 118 13 = oRi 0 := rfl
theorem r118_13 : zr 118 13 [v0, v1, v2, v3, v4, v5, v6] [.int y1] u P = P (some (.int y1)) u := zr_Ri k118_13
theorem k118_14 : xcd 118 14 = oIl 2 15 := rfl
theorem r118_14 : zr 118 14 [v0, v1, .int x2, v3, v4, v5, v6] st u P = zr 118 15 [v0, v1, .int x2, v3, v4, v5, v6] (.int x2 :: st) u P := zr_Il k118_14 rfl
theorem k118_15 : xcd 118 15 = oCal 163 1 18 := rfl
theorem r118_15 : zr 118 15 [v0, v1, v2, v3, v4, v5, v6] (.int y1 :: st) u P = (xcat st ≤ 8 ∧ zr 163 0 [.int y1] [] u (fun r u2 => zr 118 18 [v0, v1, v2, v3, v4, v5, v6] (r.toList ++ st) u2 P)) := zr_CS k118_15 (Nat.le_add_left _ _) rfl rfl ⟨Nat.le_of_ble_eq_true rfl, Nat.succ_ne_zero _, by decide⟩ rfl
theorem k118_18 : xcd 118 18 = oIf (fun x => decide (x = 0)) 31 21 := rfl
theorem r118_18 : zr 118 18 [v0, v1, v2, v3, v4, v5, v6] (.int y1 :: st) u P = (if y1 = 0 then zr 118 31 [v0, v1, v2, v3, v4, v5, v6] st u P else zr 118 21 [v0, v1, v2, v3, v4, v5, v6] st u P) := zr_If k118_18
theorem k118_21 : xcd 118 21 = oAl 0 22 := rfl
theorem r118_21 : zr 118 21 [.ref a0, v1, v2, v3, v4, v5, v6] st u P = zr 118 22 [.ref a0, v1, v2, v3, v4, v5, v6] (.ref a0 :: st) u P := zr_Al k118_21 rfl
theorem k118_22 : xcd 118 22 = oIl 3 23 := rfl
theorem r118_22 : zr 118 22 [v0, v1, v2, .int x3, v4, v5, v6] st u P = zr 118 23 [v0, v1, v2, .int x3, v4, v5, v6] (.int x3 :: st) u P := zr_Il k118_22 rfl
theorem k118_23 : xcd 118 23 = oIl 4 25 := rfl
theorem r118_23 : zr 118 23 [v0, v1, v2, v3, .int x4, v5, v6] st u P = zr 118 25 [v0, v1, v2, v3, .int x4, v5, v6] (.int x4 :: st) u P := zr_Il k118_23 rfl
theorem k118_25 : xcd 118 25 = oCalV 10 161 2 28 := rfl
theorem r118_25 : zr 118 25 [v0, v1, v2, v3, v4, v5, v6] (.int y2 :: .int y1 :: .ref b8 :: st) u P = ((xIs u b8 10 ∧ xcat st ≤ 8) ∧ zr 161 0 [.ref b8, .int y1, .int y2] [] u (fun r u2 => zr 118 28 [v0, v1, v2, v3, v4, v5, v6] (r.toList ++ st) u2 P)) := zr_CV k118_25 rfl rfl rfl ⟨Nat.le_of_ble_eq_true rfl, Nat.succ_ne_zero _, by decide⟩ rfl
theorem k118_28 : xcd 118 28 = oIf (fun x => decide (¬ x = 0)) 37 31 := rfl
theorem r118_28 : zr 118 28 [v0, v1, v2, v3, v4, v5, v6] (.int y1 :: st) u P = (if ¬ y1 = 0 then zr 118 37 [v0, v1, v2, v3, v4, v5, v6] st u P else zr 118 31 [v0, v1, v2, v3, v4, v5, v6] st u P) := zr_If k118_28
theorem k118_31 : xcd 118 31 = oAl 0 32 := rfl
theorem r118_31 : zr 118 31 [.ref a0, v1, v2, v3, v4, v5, v6] st u P = zr 118 32 [.ref a0, v1, v2, v3, v4, v5, v6] (.ref a0 :: st) u P := zr_Al k118_31 rfl
theorem k118_32 : xcd 118 32 = oI 2 33 := rfl
theorem r118_32 : zr 118 32 [v0, v1, v2, v3, v4, v5, v6] st u P = zr 118 33 [v0, v1, v2, v3, v4, v5, v6] (.int 2 :: st) u P := zr_I k118_32
theorem k118_33 : xcd 118 33 = oCalV 10 154 1 36 := rfl
theorem r118_33 : zr 118 33 [v0, v1, v2, v3, v4, v5, v6] (.int y1 :: .ref b8 :: st) u P = ((xIs u b8 10 ∧ xcat st ≤ 8) ∧ zr 154 0 [.ref b8, .int y1] [] u (fun r u2 => zr 118 36 [v0, v1, v2, v3, v4, v5, v6] (r.toList ++ st) u2 P)) := zr_CV k118_33 rfl rfl rfl ⟨Nat.le_of_ble_eq_true rfl, Nat.succ_ne_zero _, by decide⟩ rfl
theorem k118_36 : xcd 118 36 = oRi 0 := rfl
theorem r118_36 : zr 118 36 [v0, v1, v2, v3, v4, v5, v6] [.int y1] u P = P (some (.int y1)) u := zr_Ri k118_36
theorem k118_37 : xcd 118 37 = oAl 0 38 := rfl
theorem r118_37 : zr 118 37 [.ref a0, v1, v2, v3, v4, v5, v6] st u P = zr 118 38 [.ref a0, v1, v2, v3, v4, v5, v6] (.ref a0 :: st) u P := zr_Al k118_37 rfl
theorem k118_38 : xcd 118 38 = oGR 10 1 41 := rfl
theorem r118_38 : zr 118 38 [v0, v1, v2, v3, v4, v5, v6] (.ref b1 :: st) u P = (xIs u b1 10 ∧ ∃ b, xR u b1 1 = some b ∧ zr 118 41 [v0, v1, v2, v3, v4, v5, v6] (.ref b :: st) u P) := zr_GR k118_38
theorem k118_41 : xcd 118 41 = oGR 3 0 44 := rfl
theorem r118_41 : zr 118 41 [v0, v1, v2, v3, v4, v5, v6] (.ref b1 :: st) u P = (xIs u b1 3 ∧ ∃ b, xR u b1 0 = some b ∧ zr 118 44 [v0, v1, v2, v3, v4, v5, v6] (.ref b :: st) u P) := zr_GR k118_41
theorem k118_44 : xcd 118 44 = oGR 4 5 47 := rfl
theorem r118_44 : zr 118 44 [v0, v1, v2, v3, v4, v5, v6] (.ref b1 :: st) u P = (xIs u b1 4 ∧ ∃ b, xR u b1 5 = some b ∧ zr 118 47 [v0, v1, v2, v3, v4, v5, v6] (.ref b :: st) u P) := zr_GR k118_44
theorem k118_47 : xcd 118 47 = oAs 5 49 := rfl
theorem r118_47 : zr 118 47 [v0, v1, v2, v3, .int x4, v5, v6] (.ref b1 :: st) u P = zr 118 49 [v0, v1, v2, v3, .int x4, .ref b1, v6] st u P := zr_As k118_47 ⟨Nat.le_of_ble_eq_true rfl, rfl⟩
theorem k118_49 : xcd 118 49 = oAl 5 51 := rfl
theorem r118_49 : zr 118 49 [v0, v1, v2, v3, v4, .ref a5, v6] st u P = zr 118 51 [v0, v1, v2, v3, v4, .ref a5, v6] (.ref a5 :: st) u P := zr_Al k118_49 rfl
theorem k118_51 : xcd 118 51 = oIl 1 52 := rfl
theorem r118_51 : zr 118 51 [v0, .int x1, v2, v3, v4, v5, v6] st u P = zr 118 52 [v0, .int x1, v2, v3, v4, v5, v6] (.int x1 :: st) u P := zr_Il k118_51 rfl
theorem k118_52 : xcd 118 52 = oIl 2 53 := rfl
theorem r118_52 : zr 118 52 [v0, v1, .int x2, v3, v4, v5, v6] st u P = zr 118 53 [v0, v1, .int x2, v3, v4, v5, v6] (.int x2 :: st) u P := zr_Il k118_52 rfl
theorem k118_53 : xcd 118 53 = oCalV 2 19 2 56 := rfl
theorem r118_53 : zr 118 53 [v0, v1, v2, v3, v4, v5, v6] (.int y2 :: .int y1 :: .ref b8 :: st) u P = ((xIs u b8 2 ∧ xcat st ≤ 8) ∧ zr 19 0 [.ref b8, .int y1, .int y2, .null] [] u (fun r u2 => zr 118 56 [v0, v1, v2, v3, v4, v5, v6] (r.toList ++ st) u2 P)) := zr_CV k118_53 rfl rfl rfl ⟨Nat.le_of_ble_eq_true rfl, Nat.succ_ne_zero _, by decide⟩ rfl
theorem k118_56 : xcd 118 56 = oIs 6 58 := rfl
theorem r118_56 : zr 118 56 [v0, v1, v2, v3, v4, .ref a5, v6] (.int y1 :: st) u P = zr 118 58 [v0, v1, v2, v3, v4, .ref a5, .int y1] st u P := zr_Is k118_56 ⟨Nat.le_of_ble_eq_true rfl, rfl⟩
theorem k118_58 : xcd 118 58 = oAl 0 59 := rfl
theorem r118_58 : zr 118 58 [.ref a0, v1, v2, v3, v4, v5, v6] st u P = zr 118 59 [.ref a0, v1, v2, v3, v4, v5, v6] (.ref a0 :: st) u P := zr_Al k118_58 rfl
theorem k118_59 : xcd 118 59 = oIl 6 61 := rfl
theorem r118_59 : zr 118 59 [v0, v1, v2, v3, v4, v5, .int x6] st u P = zr 118 61 [v0, v1, v2, v3, v4, v5, .int x6] (.int x6 :: st) u P := zr_Il k118_59 rfl
theorem k118_61 : xcd 118 61 = oIf (fun x => decide (x < 0)) 81 64 := rfl
theorem r118_61 : zr 118 61 [v0, v1, v2, v3, v4, v5, v6] (.int y1 :: st) u P = (if y1 < 0 then zr 118 81 [v0, v1, v2, v3, v4, v5, v6] st u P else zr 118 64 [v0, v1, v2, v3, v4, v5, v6] st u P) := zr_If k118_61
theorem k118_64 : xcd 118 64 = oAl 5 66 := rfl
theorem r118_64 : zr 118 64 [v0, v1, v2, v3, v4, .ref a5, v6] st u P = zr 118 66 [v0, v1, v2, v3, v4, .ref a5, v6] (.ref a5 :: st) u P := zr_Al k118_64 rfl
theorem k118_66 : xcd 118 66 = oIl 6 68 := rfl
theorem r118_66 : zr 118 66 [v0, v1, v2, v3, v4, v5, .int x6] st u P = zr 118 68 [v0, v1, v2, v3, v4, v5, .int x6] (.int x6 :: st) u P := zr_Il k118_66 rfl
theorem k118_68 : xcd 118 68 = oIl 3 69 := rfl
theorem r118_68 : zr 118 68 [v0, v1, v2, .int x3, v4, v5, v6] st u P = zr 118 69 [v0, v1, v2, .int x3, v4, v5, v6] (.int x3 :: st) u P := zr_Il k118_68 rfl
theorem k118_69 : xcd 118 69 = oIl 4 71 := rfl
theorem r118_69 : zr 118 69 [v0, v1, v2, v3, .int x4, v5, v6] st u P = zr 118 71 [v0, v1, v2, v3, .int x4, v5, v6] (.int x4 :: st) u P := zr_Il k118_69 rfl
theorem k118_71 : xcd 118 71 = oCalV 2 28 3 74 := rfl
theorem r118_71 : zr 118 71 [v0, v1, v2, v3, v4, v5, v6] (.int y3 :: .int y2 :: .int y1 :: .ref b8 :: st) u P = ((xIs u b8 2 ∧ xcat st ≤ 8) ∧ zr 28 0 [.ref b8, .int y1, .int y2, .int y3, .null, .null, .null] [] u (fun r u2 => zr 118 74 [v0, v1, v2, v3, v4, v5, v6] (r.toList ++ st) u2 P)) := zr_CV k118_71 rfl rfl rfl ⟨Nat.le_of_ble_eq_true rfl, Nat.succ_ne_zero _, by decide⟩ rfl
theorem k118_74 : xcd 118 74 = oIf (fun x => decide (x = 0)) 81 77 := rfl
theorem r118_74 : zr 118 74 [v0, v1, v2, v3, v4, v5, v6] (.int y1 :: st) u P = (if y1 = 0 then zr 118 81 [v0, v1, v2, v3, v4, v5, v6] st u P else zr 118 77 [v0, v1, v2, v3, v4, v5, v6] st u P) := zr_If k118_74
theorem k118_77 : xcd 118 77 = oI 1 78 := rfl
theorem r118_77 : zr 118 77 [v0, v1, v2, v3, v4, v5, v6] st u P = zr 118 78 [v0, v1, v2, v3, v4, v5, v6] (.int 1 :: st) u P := zr_I k118_77
theorem k118_78 : xcd 118 78 = oGoto 82 := rfl
theorem r118_78 : zr 118 78 [v0, v1, v2, v3, v4, v5, v6] st u P = zr 118 82 [v0, v1, v2, v3, v4, v5, v6] st u P := zr_Goto k118_78
theorem k118_81 : xcd 118 81 = oI 0 82 := rfl
theorem r118_81 : zr 118 81 [v0, v1, v2, v3, v4, v5, v6] st u P = zr 118 82 [v0, v1, v2, v3, v4, v5, v6] (.int 0 :: st) u P := zr_I k118_81
theorem k118_82 : xcd 118 82 = oCal 165 1 85 := rfl
theorem r118_82 : zr 118 82 [v0, v1, v2, v3, v4, v5, v6] (.int y1 :: st) u P = (xcat st ≤ 8 ∧ zr 165 0 [.int y1] [] u (fun r u2 => zr 118 85 [v0, v1, v2, v3, v4, v5, v6] (r.toList ++ st) u2 P)) := zr_CS k118_82 (Nat.le_add_left _ _) rfl rfl ⟨Nat.le_of_ble_eq_true rfl, Nat.succ_ne_zero _, by decide⟩ rfl
theorem k118_85 : xcd 118 85 = oCalV 10 153 1 88 := rfl
theorem r118_85 : zr 118 85 [v0, v1, v2, v3, v4, v5, v6] (.int y1 :: .ref b8 :: st) u P = ((xIs u b8 10 ∧ xcat st ≤ 8) ∧ zr 153 0 [.ref b8, .int y1] [] u (fun r u2 => zr 118 88 [v0, v1, v2, v3, v4, v5, v6] (r.toList ++ st) u2 P)) := zr_CV k118_85 rfl rfl rfl ⟨Nat.le_of_ble_eq_true rfl, Nat.succ_ne_zero _, by decide⟩ rfl
theorem k118_88 : xcd 118 88 = oRi 0 := rfl
theorem r118_88 : zr 118 88 [v0, v1, v2, v3, v4, v5, v6] [.int y1] u P = P (some (.int y1)) u := zr_Ri k118_88
theorem k119_0 : xcd 119 0 = oAl 0 1 := rfl
theorem r119_0 : zr 119 0 [.ref a0, v1, v2] st u P = zr 119 1 [.ref a0, v1, v2] (.ref a0 :: st) u P := zr_Al k119_0 rfl
theorem k119_1 : xcd 119 1 = oIl 1 2 := rfl
theorem r119_1 : zr 119 1 [v0, .int x1, v2] st u P = zr 119 2 [v0, .int x1, v2] (.int x1 :: st) u P := zr_Il k119_1 rfl
theorem k119_2 : xcd 119 2 = oCalV 10 156 1 5 := rfl
theorem r119_2 : zr 119 2 [v0, v1, v2] (.int y1 :: .ref b8 :: st) u P = ((xIs u b8 10 ∧ xcat st ≤ 8) ∧ zr 156 0 [.ref b8, .int y1] [] u (fun r u2 => zr 119 5 [v0, v1, v2] (r.toList ++ st) u2 P)) := zr_CV k119_2 rfl rfl rfl ⟨Nat.le_of_ble_eq_true rfl, Nat.succ_ne_zero _, by decide⟩ rfl
theorem k119_5 : xcd 119 5 = oIf (fun x => decide (¬ x = 0)) 14 8 := rfl
theorem r119_5 : zr 119 5 [v0, v1, v2] (.int y1 :: st) u P = (if ¬ y1 = 0 then zr 119 14 [v0, v1, v2] st u P else zr 119 8 [v0, v1, v2] st u P) := zr_If k119_5
theorem k119_8 : xcd 119 8 = oAl 0 9 := rfl
theorem r119_8 : zr 119 8 [.ref a0, v1, v2] st u P = zr 119 9 [.ref a0, v1, v2] (.ref a0 :: st) u P := zr_Al k119_8 rfl
theorem k119_9 : xcd 119 9 = oI 1 10 := rfl
theorem r119_9 : zr 119 9 [v0, v1, v2] st u P = zr 119 10 [v0, v1, v2] (.int 1 :: st) u P := zr_I k119_9
theorem k119_10 : xcd 119 10 = oCalV 10 154 1 13 := rfl
theorem r119_10 : zr 119 10 [v0, v1, v2] (.int y1 :: .ref b8 :: st) u P = ((xIs u b8 10 ∧ xcat st ≤ 8) ∧ zr 154 0 [.ref b8, .int y1] [] u (fun r u2 => zr 119 13 [v0, v1, v2] (r.toList ++ st) u2 P)) := zr_CV k119_10 rfl rfl rfl ⟨Nat.le_of_ble_eq_true rfl, Nat.succ_ne_zero _, by decide⟩ rfl
theorem k119_13 : xcd 119 13 = oRi 0 := rfl
theorem r119_13 : zr 119 13 [v0, v1, v2] [.int y1] u P = P (some (.int y1)) u := zr_Ri k119_13
theorem k119_14 : xcd 119 14 = oIl 2 15 := rfl
theorem r119_14 : zr 119 14 [v0, v1, .int x2] st u P = zr 119 15 [v0, v1, .int x2] (.int x2 :: st) u P := zr_Il k119_14 rfl
theorem k119_15 : xcd 119 15 = oCal 163 1 18 := rfl
theorem r119_15 : zr 119 15 [v0, v1, v2] (.int y1 :: st) u P = (xcat st ≤ 8 ∧ zr 163 0 [.int y1] [] u (fun r u2 => zr 119 18 [v0, v1, v2] (r.toList ++ st) u2 P)) := zr_CS k119_15 (Nat.le_add_left _ _) rfl rfl ⟨Nat.le_of_ble_eq_true rfl, Nat.succ_ne_zero _, by decide⟩ rfl
theorem k119_18 : xcd 119 18 = oIf (fun x => decide (¬ x = 0)) 27 21 := rfl
theorem r119_18 : zr 119 18 [v0, v1, v2] (.int y1 :: st) u P = (if ¬ y1 = 0 then zr 119 27 [v0, v1, v2] st u P else zr 119 21 [v0, v1, v2] st u P) := zr_If k119_18
theorem k119_21 : xcd 119 21 = oAl 0 22 := rfl
theorem r119_21 : zr 119 21 [.ref a0, v1, v2] st u P = zr 119 22 [.ref a0, v1, v2] (.ref a0 :: st) u P := zr_Al k119_21 rfl
theorem k119_22 : xcd 119 22 = oI 2 23 := rfl
theorem r119_22 : zr 119 22 [v0, v1, v2] st u P = zr 119 23 [v0, v1, v2] (.int 2 :: st) u P := zr_I k119_22
theorem k119_23 : xcd 119 23 = oCalV 10 154 1 26 := rfl
theorem r119_23 : zr 119 23 [v0, v1, v2] (.int y1 :: .ref b8 :: st) u P = ((xIs u b8 10 ∧ xcat st ≤ 8) ∧ zr 154 0 [.ref b8, .int y1] [] u (fun r u2 => zr 119 26 [v0, v1, v2] (r.toList ++ st) u2 P)) := zr_CV k119_23 rfl rfl rfl ⟨Nat.le_of_ble_eq_true rfl, Nat.succ_ne_zero _, by decide⟩ rfl
theorem k119_26 : xcd 119 26 = oRi 0 := rfl
theorem r119_26 : zr 119 26 [v0, v1, v2] [.int y1] u P = P (some (.int y1)) u := zr_Ri k119_26
theorem k119_27 : xcd 119 27 = oAl 0 28 := rfl
theorem r119_27 : zr 119 27 [.ref a0, v1, v2] st u P = zr 119 28 [.ref a0, v1, v2] (.ref a0 :: st) u P := zr_Al k119_27 rfl
theorem k119_28 : xcd 119 28 = oAl 0 29 := rfl
theorem r119_28 : zr 119 28 [.ref a0, v1, v2] st u P = zr 119 29 [.ref a0, v1, v2] (.ref a0 :: st) u P := zr_Al k119_28 rfl
theorem k119_29 : xcd 119 29 = oGR 10 1 32 := rfl
theorem r119_29 : zr 119 29 [v0, v1, v2] (.ref b1 :: st) u P = (xIs u b1 10 ∧ ∃ b, xR u b1 1 = some b ∧ zr 119 32 [v0, v1, v2] (.ref b :: st) u P) := zr_GR k119_29
theorem k119_32 : xcd 119 32 = oGR 3 0 35 := rfl
theorem r119_32 : zr 119 32 [v0, v1, v2] (.ref b1 :: st) u P = (xIs u b1 3 ∧ ∃ b, xR u b1 0 = some b ∧ zr 119 35 [v0, v1, v2] (.ref b :: st) u P) := zr_GR k119_32
theorem k119_35 : xcd 119 35 = oGR 4 5 38 := rfl
theorem r119_35 : zr 119 35 [v0, v1, v2] (.ref b1 :: st) u P = (xIs u b1 4 ∧ ∃ b, xR u b1 5 = some b ∧ zr 119 38 [v0, v1, v2] (.ref b :: st) u P) := zr_GR k119_35
theorem k119_38 : xcd 119 38 = oIl 1 39 := rfl
theorem r119_38 : zr 119 38 [v0, .int x1, v2] st u P = zr 119 39 [v0, .int x1, v2] (.int x1 :: st) u P := zr_Il k119_38 rfl
theorem k119_39 : xcd 119 39 = oIl 2 40 := rfl
theorem r119_39 : zr 119 39 [v0, v1, .int x2] st u P = zr 119 40 [v0, v1, .int x2] (.int x2 :: st) u P := zr_Il k119_39 rfl
theorem k119_40 : xcd 119 40 = oCalV 2 23 2 43 := rfl
theorem r119_40 : zr 119 40 [v0, v1, v2] (.int y2 :: .int y1 :: .ref b8 :: st) u P = ((xIs u b8 2 ∧ xcat st ≤ 8) ∧ zr 23 0 [.ref b8, .int y1, .int y2, .null] [] u (fun r u2 => zr 119 43 [v0, v1, v2] (r.toList ++ st) u2 P)) := zr_CV k119_40 rfl rfl rfl ⟨Nat.le_of_ble_eq_true rfl, Nat.succ_ne_zero _, by decide⟩ rfl
theorem k119_43 : xcd 119 43 = oCalV 10 153 1 46 := rfl
theorem r119_43 : zr 119 43 [v0, v1, v2] (.int y1 :: .ref b8 :: st) u P = ((xIs u b8 10 ∧ xcat st ≤ 8) ∧ zr 153 0 [.ref b8, .int y1] [] u (fun r u2 => zr 119 46 [v0, v1, v2] (r.toList ++ st) u2 P)) := zr_CV k119_43 rfl rfl rfl ⟨Nat.le_of_ble_eq_true rfl, Nat.succ_ne_zero _, by decide⟩ rfl
theorem k119_46 : xcd 119 46 = oRi 0 := rfl
theorem r119_46 : zr 119 46 [v0, v1, v2] [.int y1] u P = P (some (.int y1)) u := zr_Ri k119_46
theorem k120_0 : xcd 120 0 = oAl 0 1 := rfl
theorem r120_0 : zr 120 0 [.ref a0, v1, v2, v3, v4] st u P = zr 120 1 [.ref a0, v1, v2, v3, v4] (.ref a0 :: st) u P := zr_Al k120_0 rfl
theorem k120_1 : xcd 120 1 = oGI 10 2 4 := rfl
theorem r120_1 : zr 120 1 [v0, v1, v2, v3, v4] (.ref b1 :: st) u P = (xIs u b1 10 ∧ zr 120 4 [v0, v1, v2, v3, v4] (.int (xI u b1 2) :: st) u P) := zr_GI k120_1
theorem k120_4 : xcd 120 4 = oIf (fun x => decide (x = 0)) 27 7 := rfl
theorem r120_4 : zr 120 4 [v0, v1, v2, v3, v4] (.int y1 :: st) u P = (if y1 = 0 then zr 120 27 [v0, v1, v2, v3, v4] st u P else zr 120 7 [v0, v1, v2, v3, v4] st u P) := zr_If k120_4
theorem k120_7 : xcd 120 7 = oIl 1 8 := rfl
theorem r120_7 : zr 120 7 [v0, .int x1, v2, v3, v4] st u P = zr 120 8 [v0, .int x1, v2, v3, v4] (.int x1 :: st) u P := zr_Il k120_7 rfl
theorem k120_8 : xcd 120 8 = oI 0 9 := rfl
theorem r120_8 : zr 120 8 [v0, v1, v2, v3, v4] st u P = zr 120 9 [v0, v1, v2, v3, v4] (.int 0 :: st) u P := zr_I k120_8
theorem k120_9 : xcd 120 9 = oAl 0 10 := rfl
theorem r120_9 : zr 120 9 [.ref a0, v1, v2, v3, v4] st u P = zr 120 10 [.ref a0, v1, v2, v3, v4] (.ref a0 :: st) u P := zr_Al k120_9 rfl
theorem k120_10 : xcd 120 10 = oGR 10 1 13 := rfl
theorem r120_10 : zr 120 10 [v0, v1, v2, v3, v4] (.ref b1 :: st) u P = (xIs u b1 10 ∧ ∃ b, xR u b1 1 = some b ∧ zr 120 13 [v0, v1, v2, v3, v4] (.ref b :: st) u P) := zr_GR k120_10
theorem k120_13 : xcd 120 13 = oGR 3 0 16 := rfl
theorem r120_13 : zr 120 13 [v0, v1, v2, v3, v4] (.ref b1 :: st) u P = (xIs u b1 3 ∧ ∃ b, xR u b1 0 = some b ∧ zr 120 16 [v0, v1, v2, v3, v4] (.ref b :: st) u P) := zr_GR k120_13
theorem k120_16 : xcd 120 16 = oGI 4 1 19 := rfl
theorem r120_16 : zr 120 16 [v0, v1, v2, v3, v4] (.ref b1 :: st) u P = (xIs u b1 4 ∧ zr 120 19 [v0, v1, v2, v3, v4] (.int (xI u b1 1) :: st) u P) := zr_GI k120_16
theorem k120_19 : xcd 120 19 = oI 1 20 := rfl
theorem r120_19 : zr 120 19 [v0, v1, v2, v3, v4] st u P = zr 120 20 [v0, v1, v2, v3, v4] (.int 1 :: st) u P := zr_I k120_19
theorem k120_20 : xcd 120 20 = oB (fun x y => x - y) 21 := rfl
theorem r120_20 : zr 120 20 [v0, v1, v2, v3, v4] (.int y1 :: .int y2 :: st) u P = zr 120 21 [v0, v1, v2, v3, v4] (.int (y2 - y1) :: st) u P := zr_B k120_20
theorem k120_21 : xcd 120 21 = oCal 164 3 24 := rfl
theorem r120_21 : zr 120 21 [v0, v1, v2, v3, v4] (.int y3 :: .int y2 :: .int y1 :: st) u P = (xcat st ≤ 8 ∧ zr 164 0 [.int y1, .int y2, .int y3] [] u (fun r u2 => zr 120 24 [v0, v1, v2, v3, v4] (r.toList ++ st) u2 P)) := zr_CS k120_21 (Nat.le_add_left _ _) rfl rfl ⟨Nat.le_of_ble_eq_true rfl, Nat.succ_ne_zero _, by decide⟩ rfl
theorem k120_24 : xcd 120 24 = oIf (fun x => decide (¬ x = 0)) 33 27 := rfl
theorem r120_24 : zr 120 24 [v0, v1, v2, v3, v4] (.int y1 :: st) u P = (if ¬ y1 = 0 then zr 120 33 [v0, v1, v2, v3, v4] st u P else zr 120 27 [v0, v1, v2, v3, v4] st u P) := zr_If k120_24
theorem k120_27 : xcd 120 27 = oAl 0 28 := rfl
theorem r120_27 : zr 120 27 [.ref a0, v1, v2, v3, v4] st u P = zr 120 28 [.ref a0, v1, v2, v3, v4] (.ref a0 :: st) u P := zr_Al k120_27 rfl
theorem k120_28 : xcd 120 28 = oI 1 29 := rfl
theorem r120_28 : zr 120 28 [v0, v1, v2, v3, v4] st u P = zr 120 29 [v0, v1, v2, v3, v4] (.int 1 :: st) u P := zr_I k120_28
theorem k120_29 : xcd 120 29 = oCalV 10 154 1 32 := rfl
theorem r120_29 : zr 120 29 [v0, v1, v2, v3, v4] (.int y1 :: .ref b8 :: st) u P = ((xIs u b8 10 ∧ xcat st ≤ 8) ∧ zr 154 0 [.ref b8, .int y1] [] u (fun r u2 => zr 120 32 [v0, v1, v2, v3, v4] (r.toList ++ st) u2 P)) := zr_CV k120_29 rfl rfl rfl ⟨Nat.le_of_ble_eq_true rfl, Nat.succ_ne_zero _, by decide⟩ rfl
theorem k120_32 : xcd 120 32 = oRi 0 := rfl
theorem r120_32 : zr 120 32 [v0, v1, v2, v3, v4] [.int y1] u P = P (some (.int y1)) u := zr_Ri k120_32
theorem k120_33 : xcd 120 33 = oIl 2 34 := rfl
theorem r120_33 : zr 120 33 [v0, v1, .int x2, v3, v4] st u P = zr 120 34 [v0, v1, .int x2, v3, v4] (.int x2 :: st) u P := zr_Il k120_33 rfl
theorem k120_34 : xcd 120 34 = oCal 163 1 37 := rfl
theorem r120_34 : zr 120 34 [v0, v1, v2, v3, v4] (.int y1 :: st) u P = (xcat st ≤ 8 ∧ zr 163 0 [.int y1] [] u (fun r u2 => zr 120 37 [v0, v1, v2, v3, v4] (r.toList ++ st) u2 P)) := zr_CS k120_34 (Nat.le_add_left _ _) rfl rfl ⟨Nat.le_of_ble_eq_true rfl, Nat.succ_ne_zero _, by decide⟩ rfl
theorem k120_37 : xcd 120 37 = oIf (fun x => decide (x = 0)) 50 40 := rfl
theorem r120_37 : zr 120 37 [v0, v1, v2, v3, v4] (.int y1 :: st) u P = (if y1 = 0 then zr 120 50 [v0, v1, v2, v3, v4] st u P else zr 120 40 [v0, v1, v2, v3, v4] st u P) := zr_If k120_37
theorem k120_40 : xcd 120 40 = oAl 0 41 := rfl
theorem r120_40 : zr 120 40 [.ref a0, v1, v2, v3, v4] st u P = zr 120 41 [.ref a0, v1, v2, v3, v4] (.ref a0 :: st) u P := zr_Al k120_40 rfl
theorem k120_41 : xcd 120 41 = oIl 3 42 := rfl
theorem r120_41 : zr 120 41 [v0, v1, v2, .int x3, v4] st u P = zr 120 42 [v0, v1, v2, .int x3, v4] (.int x3 :: st) u P := zr_Il k120_41 rfl
theorem k120_42 : xcd 120 42 = oIl 4 44 := rfl
theorem r120_42 : zr 120 42 [v0, v1, v2, v3, .int x4] st u P = zr 120 44 [v0, v1, v2, v3, .int x4] (.int x4 :: st) u P := zr_Il k120_42 rfl
theorem k120_44 : xcd 120 44 = oCalV 10 161 2 47 := rfl
theorem r120_44 : zr 120 44 [v0, v1, v2, v3, v4] (.int y2 :: .int y1 :: .ref b8 :: st) u P = ((xIs u b8 10 ∧ xcat st ≤ 8) ∧ zr 161 0 [.ref b8, .int y1, .int y2] [] u (fun r u2 => zr 120 47 [v0, v1, v2, v3, v4] (r.toList ++ st) u2 P)) := zr_CV k120_44 rfl rfl rfl ⟨Nat.le_of_ble_eq_true rfl, Nat.succ_ne_zero _, by decide⟩ rfl
theorem k120_47 : xcd 120 47 = oIf (fun x => decide (¬ x = 0)) 56 50 := rfl
theorem r120_47 : zr 120 47 [v0, v1, v2, v3, v4] (.int y1 :: st) u P = (if ¬ y1 = 0 then zr 120 56 [v0, v1, v2, v3, v4] st u P else zr 120 50 [v0, v1, v2, v3, v4] st u P) := zr_If k120_47
theorem k120_50 : xcd 120 50 = oAl 0 51 := rfl
theorem r120_50 : zr 120 50 [.ref a0, v1, v2, v3, v4] st u P = zr 120 51 [.ref a0, v1, v2, v3, v4] (.ref a0 :: st) u P := zr_Al k120_50 rfl
theorem k120_51 : xcd 120 51 = oI 2 52 := rfl
theorem r120_51 : zr 120 51 [v0, v1, v2, v3, v4] st u P = zr 120 52 [v0, v1, v2, v3, v4] (.int 2 :: st) u P := zr_I k120_51
theorem k120_52 : xcd 120 52 = oCalV 10 154 1 55 := rfl
theorem r120_52 : zr 120 52 [v0, v1, v2, v3, v4] (.int y1 :: .ref b8 :: st) u P = ((xIs u b8 10 ∧ xcat st ≤ 8) ∧ zr 154 0 [.ref b8, .int y1] [] u (fun r u2 => zr 120 55 [v0, v1, v2, v3, v4] (r.toList ++ st) u2 P)) := zr_CV k120_52 rfl rfl rfl ⟨Nat.le_of_ble_eq_true rfl, Nat.succ_ne_zero _, by decide⟩ rfl
theorem k120_55 : xcd 120 55 = oRi 0 := rfl
theorem r120_55 : zr 120 55 [v0, v1, v2, v3, v4] [.int y1] u P = P (some (.int y1)) u := zr_Ri k120_55
theorem k120_56 : xcd 120 56 = oAl 0 57 := rfl
theorem r120_56 : zr 120 56 [.ref a0, v1, v2, v3, v4] st u P = zr 120 57 [.ref a0, v1, v2, v3, v4] (.ref a0 :: st) u P := zr_Al k120_56 rfl
theorem k120_57 : xcd 120 57 = oGR 10 1 60 := rfl
theorem r120_57 : zr 120 57 [v0, v1, v2, v3, v4] (.ref b1 :: st) u P = (xIs u b1 10 ∧ ∃ b, xR u b1 1 = some b ∧ zr 120 60 [v0, v1, v2, v3, v4] (.ref b :: st) u P) := zr_GR k120_57
theorem k120_60 : xcd 120 60 = oGR 3 0 63 := rfl
theorem r120_60 : zr 120 60 [v0, v1, v2, v3, v4] (.ref b1 :: st) u P = (xIs u b1 3 ∧ ∃ b, xR u b1 0 = some b ∧ zr 120 63 [v0, v1, v2, v3, v4] (.ref b :: st) u P) := zr_GR k120_60
theorem k120_63 : xcd 120 63 = oIl 2 64 := rfl
theorem r120_63 : zr 120 63 [v0, v1, .int x2, v3, v4] st u P = zr 120 64 [v0, v1, .int x2, v3, v4] (.int x2 :: st) u P := zr_Il k120_63 rfl
theorem k120_64 : xcd 120 64 = oCalV 4 45 1 67 := rfl
theorem r120_64 : zr 120 64 [v0, v1, v2, v3, v4] (.int y1 :: .ref b8 :: st) u P = ((xIs u b8 4 ∧ xcat st ≤ 8) ∧ zr 45 0 [.ref b8, .int y1, .null] [] u (fun r u2 => zr 120 67 [v0, v1, v2, v3, v4] (r.toList ++ st) u2 P)) := zr_CV k120_64 rfl rfl rfl ⟨Nat.le_of_ble_eq_true rfl, Nat.succ_ne_zero _, by decide⟩ rfl
theorem k120_67 : xcd 120 67 = oAl 0 68 := rfl
theorem r120_67 : zr 120 67 [.ref a0, v1, v2, v3, v4] st u P = zr 120 68 [.ref a0, v1, v2, v3, v4] (.ref a0 :: st) u P := zr_Al k120_67 rfl
theorem k120_68 : xcd 120 68 = oAl 0 69 := rfl
theorem r120_68 : zr 120 68 [.ref a0, v1, v2, v3, v4] st u P = zr 120 69 [.ref a0, v1, v2, v3, v4] (.ref a0 :: st) u P := zr_Al k120_68 rfl
theorem k120_69 : xcd 120 69 = oGR 10 1 72 := rfl
theorem r120_69 : zr 120 69 [v0, v1, v2, v3, v4] (.ref b1 :: st) u P = (xIs u b1 10 ∧ ∃ b, xR u b1 1 = some b ∧ zr 120 72 [v0, v1, v2, v3, v4] (.ref b :: st) u P) := zr_GR k120_69
theorem k120_72 : xcd 120 72 = oGR 3 0 75 := rfl
theorem r120_72 : zr 120 72 [v0, v1, v2, v3, v4] (.ref b1 :: st) u P = (xIs u b1 3 ∧ ∃ b, xR u b1 0 = some b ∧ zr 120 75 [v0, v1, v2, v3, v4] (.ref b :: st) u P) := zr_GR k120_72
theorem k120_75 : xcd 120 75 = oIl 1 76 := rfl
theorem r120_75 : zr 120 75 [v0, .int x1, v2, v3, v4] st u P = zr 120 76 [v0, .int x1, v2, v3, v4] (.int x1 :: st) u P := zr_Il k120_75 rfl
theorem k120_76 : xcd 120 76 = oIl 3 77 := rfl
theorem r120_76 : zr 120 76 [v0, v1, v2, .int x3, v4] st u P = zr 120 77 [v0, v1, v2, .int x3, v4] (.int x3 :: st) u P := zr_Il k120_76 rfl
theorem k120_77 : xcd 120 77 = oIl 4 79 := rfl
theorem r120_77 : zr 120 77 [v0, v1, v2, v3, .int x4] st u P = zr 120 79 [v0, v1, v2, v3, .int x4] (.int x4 :: st) u P := zr_Il k120_77 rfl
theorem k120_79 : xcd 120 79 = oCalV 4 46 3 82 := rfl
theorem r120_79 : zr 120 79 [v0, v1, v2, v3, v4] (.int y3 :: .int y2 :: .int y1 :: .ref b8 :: st) u P = ((xIs u b8 4 ∧ xcat st ≤ 8) ∧ zr 46 0 [.ref b8, .int y1, .int y2, .int y3, .null] [] u (fun r u2 => zr 120 82 [v0, v1, v2, v3, v4] (r.toList ++ st) u2 P)) := zr_CV k120_79 rfl rfl rfl ⟨Nat.le_of_ble_eq_true rfl, Nat.succ_ne_zero _, by decide⟩ rfl
theorem k120_82 : xcd 120 82 = oCalV 10 153 1 85 := rfl
theorem r120_82 : zr 120 82 [v0, v1, v2, v3, v4] (.int y1 :: .ref b8 :: st) u P = ((xIs u b8 10 ∧ xcat st ≤ 8) ∧ zr 153 0 [.ref b8, .int y1] [] u (fun r u2 => zr 120 85 [v0, v1, v2, v3, v4] (r.toList ++ st) u2 P)) := zr_CV k120_82 rfl rfl rfl ⟨Nat.le_of_ble_eq_true rfl, Nat.succ_ne_zero _, by decide⟩ rfl
theorem k120_85 : xcd 120 85 = oRi 0 := rfl
theorem r120_85 : zr 120 85 [v0, v1, v2, v3, v4] [.int y1] u P = P (some (.int y1)) u := zr_Ri k120_85
theorem k121_0 : xcd 121 0 = oAl 0 1 := rfl
theorem r121_0 : zr 121 0 [.ref a0, v1, v2, v3] st u P = zr 121 1 [.ref a0, v1, v2, v3] (.ref a0 :: st) u P := zr_Al k121_0 rfl
theorem k121_1 : xcd 121 1 = oGI 10 2 4 := rfl
theorem r121_1 : zr 121 1 [v0, v1, v2, v3] (.ref b1 :: st) u P = (xIs u b1 10 ∧ zr 121 4 [v0, v1, v2, v3] (.int (xI u b1 2) :: st) u P) := zr_GI k121_1
theorem k121_4 : xcd 121 4 = oIf (fun x => decide (¬ x = 0)) 13 7 := rfl
theorem r121_4 : zr 121 4 [v0, v1, v2, v3] (.int y1 :: st) u P = (if ¬ y1 = 0 then zr 121 13 [v0, v1, v2, v3] st u P else zr 121 7 [v0, v1, v2, v3] st u P) := zr_If k121_4
theorem k121_7 : xcd 121 7 = oAl 0 8 := rfl
theorem r121_7 : zr 121 7 [.ref a0, v1, v2, v3] st u P = zr 121 8 [.ref a0, v1, v2, v3] (.ref a0 :: st) u P := zr_Al k121_7 rfl
theorem k121_8 : xcd 121 8 = oI 1 9 := rfl
theorem r121_8 : zr 121 8 [v0, v1, v2, v3] st u P = zr 121 9 [v0, v1, v2, v3] (.int 1 :: st) u P := zr_I k121_8
theorem k121_9 : xcd 121 9 = oCalV 10 154 1 12 := rfl
theorem r121_9 : zr 121 9 [v0, v1, v2, v3] (.int y1 :: .ref b8 :: st) u P = ((xIs u b8 10 ∧ xcat st ≤ 8) ∧ zr 154 0 [.ref b8, .int y1] [] u (fun r u2 => zr 121 12 [v0, v1, v2, v3] (r.toList ++ st) u2 P)) := zr_CV k121_9 rfl rfl rfl ⟨Nat.le_of_ble_eq_true rfl, Nat.succ_ne_zero _, by decide⟩ rfl
theorem k121_12 : xcd 121 12 = oRi 0 := rfl
theorem r121_12 : zr 121 12 [v0, v1, v2, v3] [.int y1] u P = P (some (.int y1)) u := zr_Ri k121_12
theorem k121_13 : xcd 121 13 = oIl 1 14 := rfl
theorem r121_13 : zr 121 13 [v0, .int x1, v2, v3] st u P = zr 121 14 [v0, .int x1, v2, v3] (.int x1 :: st) u P := zr_Il k121_13 rfl
theorem k121_14 : xcd 121 14 = oCal 163 1 17 := rfl
theorem r121_14 : zr 121 14 [v0, v1, v2, v3] (.int y1 :: st) u P = (xcat st ≤ 8 ∧ zr 163 0 [.int y1] [] u (fun r u2 => zr 121 17 [v0, v1, v2, v3] (r.toList ++ st) u2 P)) := zr_CS k121_14 (Nat.le_add_left _ _) rfl rfl ⟨Nat.le_of_ble_eq_true rfl, Nat.succ_ne_zero _, by decide⟩ rfl
theorem k121_17 : xcd 121 17 = oIf (fun x => decide (x = 0)) 29 20 := rfl
theorem r121_17 : zr 121 17 [v0, v1, v2, v3] (.int y1 :: st) u P = (if y1 = 0 then zr 121 29 [v0, v1, v2, v3] st u P else zr 121 20 [v0, v1, v2, v3] st u P) := zr_If k121_17
theorem k121_20 : xcd 121 20 = oAl 0 21 := rfl
theorem r121_20 : zr 121 20 [.ref a0, v1, v2, v3] st u P = zr 121 21 [.ref a0, v1, v2, v3] (.ref a0 :: st) u P := zr_Al k121_20 rfl
theorem k121_21 : xcd 121 21 = oIl 2 22 := rfl
theorem r121_21 : zr 121 21 [v0, v1, .int x2, v3] st u P = zr 121 22 [v0, v1, .int x2, v3] (.int x2 :: st) u P := zr_Il k121_21 rfl
theorem k121_22 : xcd 121 22 = oIl 3 23 := rfl
theorem r121_22 : zr 121 22 [v0, v1, v2, .int x3] st u P = zr 121 23 [v0, v1, v2, .int x3] (.int x3 :: st) u P := zr_Il k121_22 rfl
theorem k121_23 : xcd 121 23 = oCalV 10 161 2 26 := rfl
theorem r121_23 : zr 121 23 [v0, v1, v2, v3] (.int y2 :: .int y1 :: .ref b8 :: st) u P = ((xIs u b8 10 ∧ xcat st ≤ 8) ∧ zr 161 0 [.ref b8, .int y1, .int y2] [] u (fun r u2 => zr 121 26 [v0, v1, v2, v3] (r.toList ++ st) u2 P)) := zr_CV k121_23 rfl rfl rfl ⟨Nat.le_of_ble_eq_true rfl, Nat.succ_ne_zero _, by decide⟩ rfl
theorem k121_26 : xcd 121 26 = oIf (fun x => decide (¬ x = 0)) 35 29 := rfl
theorem r121_26 : zr 121 26 [v0, v1, v2, v3] (.int y1 :: st) u P = (if ¬ y1 = 0 then zr 121 35 [v0, v1, v2, v3] st u P else zr 121 29 [v0, v1, v2, v3] st u P) := zr_If k121_26
theorem k121_29 : xcd 121 29 = oAl 0 30 := rfl
theorem r121_29 : zr 121 29 [.ref a0, v1, v2, v3] st u P = zr 121 30 [.ref a0, v1, v2, v3] (.ref a0 :: st) u P := zr_Al k121_29 rfl
theorem k121_30 : xcd 121 30 = oI 2 31 := rfl
theorem r121_30 : zr 121 30 [v0, v1, v2, v3] st u P = zr 121 31 [v0, v1, v2, v3] (.int 2 :: st) u P := zr_I k121_30
theorem k121_31 : xcd 121 31 = oCalV 10 154 1 34 := rfl
theorem r121_31 : zr 121 31 [v0, v1, v2, v3] (.int y1 :: .ref b8 :: st) u P = ((xIs u b8 10 ∧ xcat st ≤ 8) ∧ zr 154 0 [.ref b8, .int y1] [] u (fun r u2 => zr 121 34 [v0, v1, v2, v3] (r.toList ++ st) u2 P)) := zr_CV k121_31 rfl rfl rfl ⟨Nat.le_of_ble_eq_true rfl, Nat.succ_ne_zero _, by decide⟩ rfl
theorem k121_34 : xcd 121 34 = oRi 0 := rfl
theorem r121_34 : zr 121 34 [v0, v1, v2, v3] [.int y1] u P = P (some (.int y1)) u := zr_Ri k121_34
theorem k121_35 : xcd 121 35 = oAl 0 36 := rfl
theorem r121_35 : zr 121 35 [.ref a0, v1, v2, v3] st u P = zr 121 36 [.ref a0, v1, v2, v3] (.ref a0 :: st) u P := zr_Al k121_35 rfl
theorem k121_36 : xcd 121 36 = oGR 10 1 39 := rfl
theorem r121_36 : zr 121 36 [v0, v1, v2, v3] (.ref b1 :: st) u P = (xIs u b1 10 ∧ ∃ b, xR u b1 1 = some b ∧ zr 121 39 [v0, v1, v2, v3] (.ref b :: st) u P) := zr_GR k121_36
theorem k121_39 : xcd 121 39 = oGR 3 0 42 := rfl
theorem r121_39 : zr 121 39 [v0, v1, v2, v3] (.ref b1 :: st) u P = (xIs u b1 3 ∧ ∃ b, xR u b1 0 = some b ∧ zr 121 42 [v0, v1, v2, v3] (.ref b :: st) u P) := zr_GR k121_39
theorem k121_42 : xcd 121 42 = oIl 1 43 := rfl
theorem r121_42 : zr 121 42 [v0, .int x1, v2, v3] st u P = zr 121 43 [v0, .int x1, v2, v3] (.int x1 :: st) u P := zr_Il k121_42 rfl
theorem k121_43 : xcd 121 43 = oCalV 4 45 1 46 := rfl
theorem r121_43 : zr 121 43 [v0, v1, v2, v3] (.int y1 :: .ref b8 :: st) u P = ((xIs u b8 4 ∧ xcat st ≤ 8) ∧ zr 45 0 [.ref b8, .int y1, .null] [] u (fun r u2 => zr 121 46 [v0, v1, v2, v3] (r.toList ++ st) u2 P)) := zr_CV k121_43 rfl rfl rfl ⟨Nat.le_of_ble_eq_true rfl, Nat.succ_ne_zero _, by decide⟩ rfl
theorem k121_46 : xcd 121 46 = oAl 0 47 := rfl
theorem r121_46 : zr 121 46 [.ref a0, v1, v2, v3] st u P = zr 121 47 [.ref a0, v1, v2, v3] (.ref a0 :: st) u P := zr_Al k121_46 rfl
theorem k121_47 : xcd 121 47 = oGR 10 1 50 := rfl
theorem r121_47 : zr 121 47 [v0, v1, v2, v3] (.ref b1 :: st) u P = (xIs u b1 10 ∧ ∃ b, xR u b1 1 = some b ∧ zr 121 50 [v0, v1, v2, v3] (.ref b :: st) u P) := zr_GR k121_47
theorem k121_50 : xcd 121 50 = oGR 3 0 53 := rfl
theorem r121_50 : zr 121 50 [v0, v1, v2, v3] (.ref b1 :: st) u P = (xIs u b1 3 ∧ ∃ b, xR u b1 0 = some b ∧ zr 121 53 [v0, v1, v2, v3] (.ref b :: st) u P) := zr_GR k121_50
theorem k121_53 : xcd 121 53 = oIl 2 54 := rfl
theorem r121_53 : zr 121 53 [v0, v1, .int x2, v3] st u P = zr 121 54 [v0, v1, .int x2, v3] (.int x2 :: st) u P := zr_Il k121_53 rfl
theorem k121_54 : xcd 121 54 = oIl 3 55 := rfl
theorem r121_54 : zr 121 54 [v0, v1, v2, .int x3] st u P = zr 121 55 [v0, v1, v2, .int x3] (.int x3 :: st) u P := zr_Il k121_54 rfl
theorem k121_55 : xcd 121 55 = oCalV 4 47 2 58 := rfl
theorem r121_55 : zr 121 55 [v0, v1, v2, v3] (.int y2 :: .int y1 :: .ref b8 :: st) u P = ((xIs u b8 4 ∧ xcat st ≤ 8) ∧ zr 47 0 [.ref b8, .int y1, .int y2, .null, .null] [] u (fun r u2 => zr 121 58 [v0, v1, v2, v3] (r.toList ++ st) u2 P)) := zr_CV k121_55 rfl rfl rfl ⟨Nat.le_of_ble_eq_true rfl, Nat.succ_ne_zero _, by decide⟩ rfl
theorem k121_58 : xcd 121 58 = oAl 0 59 := rfl
theorem r121_58 : zr 121 58 [.ref a0, v1, v2, v3] st u P = zr 121 59 [.ref a0, v1, v2, v3] (.ref a0 :: st) u P := zr_Al k121_58 rfl
theorem k121_59 : xcd 121 59 = oAl 0 60 := rfl
theorem r121_59 : zr 121 59 [.ref a0, v1, v2, v3] st u P = zr 121 60 [.ref a0, v1, v2, v3] (.ref a0 :: st) u P := zr_Al k121_59 rfl
theorem k121_60 : xcd 121 60 = oGR 10 1 63 := rfl
theorem r121_60 : zr 121 60 [v0, v1, v2, v3] (.ref b1 :: st) u P = (xIs u b1 10 ∧ ∃ b, xR u b1 1 = some b ∧ zr 121 63 [v0, v1, v2, v3] (.ref b :: st) u P) := zr_GR k121_60
theorem k121_63 : xcd 121 63 = oGR 3 0 66 := rfl
theorem r121_63 : zr 121 63 [v0, v1, v2, v3] (.ref b1 :: st) u P = (xIs u b1 3 ∧ ∃ b, xR u b1 0 = some b ∧ zr 121 66 [v0, v1, v2, v3] (.ref b :: st) u P) := zr_GR k121_63
theorem k121_66 : xcd 121 66 = oGI 4 8 69 := rfl
theorem r121_66 : zr 121 66 [v0, v1, v2, v3] (.ref b1 :: st) u P = (xIs u b1 4 ∧ zr 121 69 [v0, v1, v2, v3] (.int (xI u b1 8) :: st) u P) := zr_GI k121_66
theorem k121_69 : xcd 121 69 = oCalV 10 153 1 72 := rfl
theorem r121_69 : zr 121 69 [v0, v1, v2, v3] (.int y1 :: .ref b8 :: st) u P = ((xIs u b8 10 ∧ xcat st ≤ 8) ∧ zr 153 0 [.ref b8, .int y1] [] u (fun r u2 => zr 121 72 [v0, v1, v2, v3] (r.toList ++ st) u2 P)) := zr_CV k121_69 rfl rfl rfl ⟨Nat.le_of_ble_eq_true rfl, Nat.succ_ne_zero _, by decide⟩ rfl
theorem k121_72 : xcd 121 72 = oRi 0 := rfl
theorem r121_72 : zr 121 72 [v0, v1, v2, v3] [.int y1] u P = P (some (.int y1)) u := zr_Ri k121_72
theorem k122_0 : xcd 122 0 = oAl 0 1 := rfl
theorem r122_0 : zr 122 0 [.ref a0, v1, v2, v3, v4, v5] st u P = zr 122 1 [.ref a0, v1, v2, v3, v4, v5] (.ref a0 :: st) u P := zr_Al k122_0 rfl
theorem k122_1 : xcd 122 1 = oGI 10 2 4 := rfl
theorem r122_1 : zr 122 1 [v0, v1, v2, v3, v4, v5] (.ref b1 :: st) u P = (xIs u b1 10 ∧ zr 122 4 [v0, v1, v2, v3, v4, v5] (.int (xI u b1 2) :: st) u P) := zr_GI k122_1
theorem k122_4 : xcd 122 4 = oIf (fun x => decide (¬ x = 0)) 13 7 := rfl
theorem r122_4 : zr 122 4 [v0, v1, v2, v3, v4, v5] (.int y1 :: st) u P = (if ¬ y1 = 0 then zr 122 13 [v0, v1, v2, v3, v4, v5] st u P else zr 122 7 [v0, v1, v2, v3, v4, v5] st u P) := zr_If k122_4
theorem k122_7 : xcd 122 7 = oAl 0 8 := rfl
theorem r122_7 : zr 122 7 [.ref a0, v1, v2, v3, v4, v5] st u P = zr 122 8 [.ref a0, v1, v2, v3, v4, v5] (.ref a0 :: st) u P := zr_Al k122_7 rfl
theorem k122_8 : xcd 122 8 = oI 1 9 := rfl
theorem r122_8 : zr 122 8 [v0, v1, v2, v3, v4, v5] st u P = zr 122 9 [v0, v1, v2, v3, v4, v5] (.int 1 :: st) u P := zr_I k122_8
theorem k122_9 : xcd 122 9 = oCalV 10 154 1 12 := rfl
theorem r122_9 : zr 122 9 [v0, v1, v2, v3, v4, v5] (.int y1 :: .ref b8 :: st) u P = ((xIs u b8 10 ∧ xcat st ≤ 8) ∧ zr 154 0 [.ref b8, .int y1] [] u (fun r u2 => zr 122 12 [v0, v1, v2, v3, v4, v5] (r.toList ++ st) u2 P)) := zr_CV k122_9 rfl rfl rfl ⟨Nat.le_of_ble_eq_true rfl, Nat.succ_ne_zero _, by decide⟩ rfl
theorem k122_12 : xcd 122 12 = oRi 0 := rfl
theorem r122_12 : zr 122 12 [v0, v1, v2, v3, v4, v5] [.int y1] u P = P (some (.int y1)) u := zr_Ri k122_12
theorem k122_13 : xcd 122 13 = oIl 1 14 := rfl
theorem r122_13 : zr 122 13 [v0, .int x1, v2, v3, v4, v5] st u P = zr 122 14 [v0, .int x1, v2, v3, v4, v5] (.int x1 :: st) u P := zr_Il k122_13 rfl
theorem k122_14 : xcd 122 14 = oCal 163 1 17 := rfl
theorem r122_14 : zr 122 14 [v0, v1, v2, v3, v4, v5] (.int y1 :: st) u P = (xcat st ≤ 8 ∧ zr 163 0 [.int y1] [] u (fun r u2 => zr 122 17 [v0, v1, v2, v3, v4, v5] (r.toList ++ st) u2 P)) := zr_CS k122_14 (Nat.le_add_left _ _) rfl rfl ⟨Nat.le_of_ble_eq_true rfl, Nat.succ_ne_zero _, by decide⟩ rfl
theorem k122_17 : xcd 122 17 = oIf (fun x => decide (x = 0)) 29 20 := rfl
theorem r122_17 : zr 122 17 [v0, v1, v2, v3, v4, v5] (.int y1 :: st) u P = (if y1 = 0 then zr 122 29 [v0, v1, v2, v3, v4, v5] st u P else zr 122 20 [v0, v1, v2, v3, v4, v5] st u P) := zr_If k122_17
theorem k122_20 : xcd 122 20 = oAl 0 21 := rfl
theorem r122_20 : zr 122 20 [.ref a0, v1, v2, v3, v4, v5] st u P = zr 122 21 [.ref a0, v1, v2, v3, v4, v5] (.ref a0 :: st) u P := zr_Al k122_20 rfl
theorem k122_21 : xcd 122 21 = oIl 2 22 := rfl
theorem r122_21 : zr 122 21 [v0, v1, .int x2, v3, v4, v5] st u P = zr 122 22 [v0, v1, .int x2, v3, v4, v5] (.int x2 :: st) u P := zr_Il k122_21 rfl
theorem k122_22 : xcd 122 22 = oIl 3 23 := rfl
theorem r122_22 : zr 122 22 [v0, v1, v2, .int x3, v4, v5] st u P = zr 122 23 [v0, v1, v2, .int x3, v4, v5] (.int x3 :: st) u P := zr_Il k122_22 rfl
theorem k122_23 : xcd 122 23 = oCalV 10 161 2 26 := rfl
theorem r122_23 : zr 122 23 [v0, v1, v2, v3, v4, v5] (.int y2 :: .int y1 :: .ref b8 :: st) u P = ((xIs u b8 10 ∧ xcat st ≤ 8) ∧ zr 161 0 [.ref b8, .int y1, .int y2] [] u (fun r u2 => zr 122 26 [v0, v1, v2, v3, v4, v5] (r.toList ++ st) u2 P)) := zr_CV k122_23 rfl rfl rfl ⟨Nat.le_of_ble_eq_true rfl, Nat.succ_ne_zero _, by decide⟩ rfl
theorem k122_26 : xcd 122 26 = oIf (fun x => decide (¬ x = 0)) 35 29 := rfl
theorem r122_26 : zr 122 26 [v0, v1, v2, v3, v4, v5] (.int y1 :: st) u P = (if ¬ y1 = 0 then zr 122 35 [v0, v1, v2, v3, v4, v5] st u P else zr 122 29 [v0, v1, v2, v3, v4, v5] st u P) := zr_If k122_26
theorem k122_29 : xcd 122 29 = oAl 0 30 := rfl
theorem r122_29 : zr 122 29 [.ref a0, v1, v2, v3, v4, v5] st u P = zr 122 30 [.ref a0, v1, v2, v3, v4, v5] (.ref a0 :: st) u P := zr_Al k122_29 rfl
theorem k122_30 : xcd 122 30 = oI 2 31 := rfl
theorem r122_30 : zr 122 30 [v0, v1, v2, v3, v4, v5] st u P = zr 122 31 [v0, v1, v2, v3, v4, v5] (.int 2 :: st) u P := zr_I k122_30
theorem k122_31 : xcd 122 31 = oCalV 10 154 1 34 := rfl
theorem r122_31 : zr 122 31 [v0, v1, v2, v3, v4, v5] (.int y1 :: .ref b8 :: st) u P = ((xIs u b8 10 ∧ xcat st ≤ 8) ∧ zr 154 0 [.ref b8, .int y1] [] u (fun r u2 => zr 122 34 [v0, v1, v2, v3, v4, v5] (r.toList ++ st) u2 P)) := zr_CV k122_31 rfl rfl rfl ⟨Nat.le_of_ble_eq_true rfl, Nat.succ_ne_zero _, by decide⟩ rfl
theorem k122_34 : xcd 122 34 = oRi 0 := rfl
theorem r122_34 : zr 122 34 [v0, v1, v2, v3, v4, v5] [.int y1] u P = P (some (.int y1)) u := zr_Ri k122_34
theorem k122_35 : xcd 122 35 = oAl 0 36 := rfl
theorem r122_35 : zr 122 35 [.ref a0, v1, v2, v3, v4, v5] st u P = zr 122 36 [.ref a0, v1, v2, v3, v4, v5] (.ref a0 :: st) u P := zr_Al k122_35 rfl
theorem k122_36 : xcd 122 36 = oGR 10 1 39 := rfl
theorem r122_36 : zr 122 36 [v0, v1, v2, v3, v4, v5] (.ref b1 :: st) u P = (xIs u b1 10 ∧ ∃ b, xR u b1 1 = some b ∧ zr 122 39 [v0, v1, v2, v3, v4, v5] (.ref b :: st) u P) := zr_GR k122_36
theorem k122_39 : xcd 122 39 = oGR 3 0 42 := rfl
theorem r122_39 : zr 122 39 [v0, v1, v2, v3, v4, v5] (.ref b1 :: st) u P = (xIs u b1 3 ∧ ∃ b, xR u b1 0 = some b ∧ zr 122 42 [v0, v1, v2, v3, v4, v5] (.ref b :: st) u P) := zr_GR k122_39
theorem k122_42 : xcd 122 42 = oAs 5 44 := rfl
theorem r122_42 : zr 122 42 [v0, v1, v2, v3, .int x4, v5] (.ref b1 :: st) u P = zr 122 44 [v0, v1, v2, v3, .int x4, .ref b1] st u P := zr_As k122_42 ⟨Nat.le_of_ble_eq_true rfl, rfl⟩
theorem k122_44 : xcd 122 44 = oAl 5 46 := rfl
theorem r122_44 : zr 122 44 [v0, v1, v2, v3, v4, .ref a5] st u P = zr 122 46 [v0, v1, v2, v3, v4, .ref a5] (.ref a5 :: st) u P := zr_Al k122_44 rfl
theorem k122_46 : xcd 122 46 = oIl 1 47 := rfl
theorem r122_46 : zr 122 46 [v0, .int x1, v2, v3, v4, v5] st u P = zr 122 47 [v0, .int x1, v2, v3, v4, v5] (.int x1 :: st) u P := zr_Il k122_46 rfl
theorem k122_47 : xcd 122 47 = oCalV 4 45 1 50 := rfl
theorem r122_47 : zr 122 47 [v0, v1, v2, v3, v4, v5] (.int y1 :: .ref b8 :: st) u P = ((xIs u b8 4 ∧ xcat st ≤ 8) ∧ zr 45 0 [.ref b8, .int y1, .null] [] u (fun r u2 => zr 122 50 [v0, v1, v2, v3, v4, v5] (r.toList ++ st) u2 P)) := zr_CV k122_47 rfl rfl rfl ⟨Nat.le_of_ble_eq_true rfl, Nat.succ_ne_zero _, by decide⟩ rfl
theorem k122_50 : xcd 122 50 = oAl 5 52 := rfl
theorem r122_50 : zr 122 50 [v0, v1, v2, v3, v4, .ref a5] st u P = zr 122 52 [v0, v1, v2, v3, v4, .ref a5] (.ref a5 :: st) u P := zr_Al k122_50 rfl
theorem k122_52 : xcd 122 52 = oIl 2 53 := rfl
theorem r122_52 : zr 122 52 [v0, v1, .int x2, v3, v4, v5] st u P = zr 122 53 [v0, v1, .int x2, v3, v4, v5] (.int x2 :: st) u P := zr_Il k122_52 rfl
theorem k122_53 : xcd 122 53 = oIl 3 54 := rfl
theorem r122_53 : zr 122 53 [v0, v1, v2, .int x3, v4, v5] st u P = zr 122 54 [v0, v1, v2, .int x3, v4, v5] (.int x3 :: st) u P := zr_Il k122_53 rfl
theorem k122_54 : xcd 122 54 = oCalV 4 47 2 57 := rfl
theorem r122_54 : zr 122 54 [v0, v1, v2, v3, v4, v5] (.int y2 :: .int y1 :: .ref b8 :: st) u P = ((xIs u b8 4 ∧ xcat st ≤ 8) ∧ zr 47 0 [.ref b8, .int y1, .int y2, .null, .null] [] u (fun r u2 => zr 122 57 [v0, v1, v2, v3, v4, v5] (r.toList ++ st) u2 P)) := zr_CV k122_54 rfl rfl rfl ⟨Nat.le_of_ble_eq_true rfl, Nat.succ_ne_zero _, by decide⟩ rfl
theorem k122_57 : xcd 122 57 = oIl 4 59 := rfl
theorem r122_57 : zr 122 57 [v0, v1, v2, v3, .int x4, v5] st u P = zr 122 59 [v0, v1, v2, v3, .int x4, v5] (.int x4 :: st) u P := zr_Il k122_57 rfl
theorem k122_59 : xcd 122 59 = oI 0 60 := rfl
theorem r122_59 : zr 122 59 [v0, v1, v2, v3, v4, v5] st u P = zr 122 60 [v0, v1, v2, v3, v4, v5] (.int 0 :: st) u P := zr_I k122_59
theorem k122_60 : xcd 122 60 = oAl 5 62 := rfl
theorem r122_60 : zr 122 60 [v0, v1, v2, v3, v4, .ref a5] st u P = zr 122 62 [v0, v1, v2, v3, v4, .ref a5] (.ref a5 :: st) u P := zr_Al k122_60 rfl
theorem k122_62 : xcd 122 62 = oGI 4 8 65 := rfl
theorem r122_62 : zr 122 62 [v0, v1, v2, v3, v4, v5] (.ref b1 :: st) u P = (xIs u b1 4 ∧ zr 122 65 [v0, v1, v2, v3, v4, v5] (.int (xI u b1 8) :: st) u P) := zr_GI k122_62
theorem k122_65 : xcd 122 65 = oI 1 66 := rfl
theorem r122_65 : zr 122 65 [v0, v1, v2, v3, v4, v5] st u P = zr 122 66 [v0, v1, v2, v3, v4, v5] (.int 1 :: st) u P := zr_I k122_65
theorem k122_66 : xcd 122 66 = oB (fun x y => x - y) 67 := rfl
theorem r122_66 : zr 122 66 [v0, v1, v2, v3, v4, v5] (.int y1 :: .int y2 :: st) u P = zr 122 67 [v0, v1, v2, v3, v4, v5] (.int (y2 - y1) :: st) u P := zr_B k122_66
theorem k122_67 : xcd 122 67 = oCal 164 3 70 := rfl
theorem r122_67 : zr 122 67 [v0, v1, v2, v3, v4, v5] (.int y3 :: .int y2 :: .int y1 :: st) u P = (xcat st ≤ 8 ∧ zr 164 0 [.int y1, .int y2, .int y3] [] u (fun r u2 => zr 122 70 [v0, v1, v2, v3, v4, v5] (r.toList ++ st) u2 P)) := zr_CS k122_67 (Nat.le_add_left _ _) rfl rfl ⟨Nat.le_of_ble_eq_true rfl, Nat.succ_ne_zero _, by decide⟩ rfl
theorem k122_70 : xcd 122 70 = oIf (fun x => decide (x = 0)) 88 73 := rfl
theorem r122_70 : zr 122 70 [v0, v1, v2, v3, v4, v5] (.int y1 :: st) u P = (if y1 = 0 then zr 122 88 [v0, v1, v2, v3, v4, v5] st u P else zr 122 73 [v0, v1, v2, v3, v4, v5] st u P) := zr_If k122_70
theorem k122_73 : xcd 122 73 = oAl 0 74 := rfl
theorem r122_73 : zr 122 73 [.ref a0, v1, v2, v3, v4, v5] st u P = zr 122 74 [.ref a0, v1, v2, v3, v4, v5] (.ref a0 :: st) u P := zr_Al k122_73 rfl
theorem k122_74 : xcd 122 74 = oAl 5 76 := rfl
theorem r122_74 : zr 122 74 [v0, v1, v2, v3, v4, .ref a5] st u P = zr 122 76 [v0, v1, v2, v3, v4, .ref a5] (.ref a5 :: st) u P := zr_Al k122_74 rfl
theorem k122_76 : xcd 122 76 = oGR 4 7 79 := rfl
theorem r122_76 : zr 122 76 [v0, v1, v2, v3, v4, v5] (.ref b1 :: st) u P = (xIs u b1 4 ∧ ∃ b, xR u b1 7 = some b ∧ zr 122 79 [v0, v1, v2, v3, v4, v5] (.ref b :: st) u P) := zr_GR k122_76
theorem k122_79 : xcd 122 79 = oIl 4 81 := rfl
theorem r122_79 : zr 122 79 [v0, v1, v2, v3, .int x4, v5] st u P = zr 122 81 [v0, v1, v2, v3, .int x4, v5] (.int x4 :: st) u P := zr_Il k122_79 rfl
theorem k122_81 : xcd 122 81 = oLd 13 82 := rfl
theorem r122_81 : zr 122 81 [v0, v1, v2, v3, v4, v5] (.int y1 :: .ref b1 :: st) u P = ((xIs u b1 13 ∧ xinb y1 (xN u b1)) ∧ zr 122 82 [v0, v1, v2, v3, v4, v5] (.int (xI u b1 (xix y1)) :: st) u P) := zr_Ld k122_81
theorem k122_82 : xcd 122 82 = oCalV 10 153 1 85 := rfl
theorem r122_82 : zr 122 82 [v0, v1, v2, v3, v4, v5] (.int y1 :: .ref b8 :: st) u P = ((xIs u b8 10 ∧ xcat st ≤ 8) ∧ zr 153 0 [.ref b8, .int y1] [] u (fun r u2 => zr 122 85 [v0, v1, v2, v3, v4, v5] (r.toList ++ st) u2 P)) := zr_CV k122_82 rfl rfl rfl ⟨Nat.le_of_ble_eq_true rfl, Nat.succ_ne_zero _, by decide⟩ rfl
theorem k122_85 : xcd 122 85 = oGoto 93 := rfl
theorem r122_85 : zr 122 85 [v0, v1, v2, v3, v4, v5] st u P = zr 122 93 [v0, v1, v2, v3, v4, v5] st u P := zr_Goto k122_85
theorem k122_88 : xcd 122 88 = oAl 0 89 := rfl
theorem r122_88 : zr 122 88 [.ref a0, v1, v2, v3, v4, v5] st u P = zr 122 89 [.ref a0, v1, v2, v3, v4, v5] (.ref a0 :: st) u P := zr_Al k122_88 rfl
theorem k122_89 : xcd 122 89 = oI 1 90 := rfl
theorem r122_89 : zr 122 89 [v0, v1, v2, v3, v4, v5] st u P = zr 122 90 [v0, v1, v2, v3, v4, v5] (.int 1 :: st) u P := zr_I k122_89
theorem k122_90 : xcd 122 90 = oCalV 10 154 1 93 := rfl
theorem r122_90 : zr 122 90 [v0, v1, v2, v3, v4, v5] (.int y1 :: .ref b8 :: st) u P = ((xIs u b8 10 ∧ xcat st ≤ 8) ∧ zr 154 0 [.ref b8, .int y1] [] u (fun r u2 => zr 122 93 [v0, v1, v2, v3, v4, v5] (r.toList ++ st) u2 P)) := zr_CV k122_90 rfl rfl rfl ⟨Nat.le_of_ble_eq_true rfl, Nat.succ_ne_zero _, by decide⟩ rfl
theorem k122_93 : xcd 122 93 = oRi 0 := rfl
theorem r122_93 : zr 122 93 [v0, v1, v2, v3, v4, v5] [.int y1] u P = P (some (.int y1)) u := zr_Ri k122_93
theorem k123_0 : xcd 123 0 = oAl 0 1 := rfl
theorem r123_0 : zr 123 0 [.ref a0, v1, v2, v3] st u P = zr 123 1 [.ref a0, v1, v2, v3] (.ref a0 :: st) u P := zr_Al k123_0 rfl
theorem k123_1 : xcd 123 1 = oGI 10 2 4 := rfl
theorem r123_1 : zr 123 1 [v0, v1, v2, v3] (.ref b1 :: st) u P = (xIs u b1 10 ∧ zr 123 4 [v0, v1, v2, v3] (.int (xI u b1 2) :: st) u P) := zr_GI k123_1
theorem k123_4 : xcd 123 4 = oIf (fun x => decide (¬ x = 0)) 13 7 := rfl
theorem r123_4 : zr 123 4 [v0, v1, v2, v3] (.int y1 :: st) u P = (if ¬ y1 = 0 then zr 123 13 [v0, v1, v2, v3] st u P else zr 123 7 [v0, v1, v2, v3] st u P) := zr_If k123_4
theorem k123_7 : xcd 123 7 = oAl 0 8 := rfl
theorem r123_7 : zr 123 7 [.ref a0, v1, v2, v3] st u P = zr 123 8 [.ref a0, v1, v2, v3] (.ref a0 :: st) u P := zr_Al k123_7 rfl
theorem k123_8 : xcd 123 8 = oI 1 9 := rfl
theorem r123_8 : zr 123 8 [v0, v1, v2, v3] st u P = zr 123 9 [v0, v1, v2, v3] (.int 1 :: st) u P := zr_I k123_8
theorem k123_9 : xcd 123 9 = oCalV 10 154 1 12 := rfl
theorem r123_9 : zr 123 9 [v0, v1, v2, v3] (.int y1 :: .ref b8 :: st) u P = ((xIs u b8 10 ∧ xcat st ≤ 8) ∧ zr 154 0 [.ref b8, .int y1] [] u (fun r u2 => zr 123 12 [v0, v1, v2, v3] (r.toList ++ st) u2 P)) := zr_CV k123_9 rfl rfl rfl ⟨Nat.le_of_ble_eq_true rfl, Nat.succ_ne_zero _, by decide⟩ rfl
theorem k123_12 : xcd 123 12 = oRi 0 := rfl
theorem r123_12 : zr 123 12 [v0, v1, v2, v3] [.int y1] u P = P (some (.int y1)) u := zr_Ri k123_12
theorem k123_13 : xcd 123 13 = oIl 1 14 := rfl
theorem r123_13 : zr 123 13 [v0, .int x1, v2, v3] st u P = zr 123 14 [v0, .int x1, v2, v3] (.int x1 :: st) u P := zr_Il k123_13 rfl
theorem k123_14 : xcd 123 14 = oCal 163 1 17 := rfl
theorem r123_14 : zr 123 14 [v0, v1, v2, v3] (.int y1 :: st) u P = (xcat st ≤ 8 ∧ zr 163 0 [.int y1] [] u (fun r u2 => zr 123 17 [v0, v1, v2, v3] (r.toList ++ st) u2 P)) := zr_CS k123_14 (Nat.le_add_left _ _) rfl rfl ⟨Nat.le_of_ble_eq_true rfl, Nat.succ_ne_zero _, by decide⟩ rfl
theorem k123_17 : xcd 123 17 = oIf (fun x => decide (x = 0)) 29 20 := rfl
theorem r123_17 : zr 123 17 [v0, v1, v2, v3] (.int y1 :: st) u P = (if y1 = 0 then zr 123 29 [v0, v1, v2, v3] st u P else zr 123 20 [v0, v1, v2, v3] st u P) := zr_If k123_17
theorem k123_20 : xcd 123 20 = oAl 0 21 := rfl
theorem r123_20 : zr 123 20 [.ref a0, v1, v2, v3] st u P = zr 123 21 [.ref a0, v1, v2, v3] (.ref a0 :: st) u P := zr_Al k123_20 rfl
theorem k123_21 : xcd 123 21 = oIl 2 22 := rfl
theorem r123_21 : zr 123 21 [v0, v1, .int x2, v3] st u P = zr 123 22 [v0, v1, .int x2, v3] (.int x2 :: st) u P := zr_Il k123_21 rfl
theorem k123_22 : xcd 123 22 = oIl 3 23 := rfl
theorem r123_22 : zr 123 22 [v0, v1, v2, .int x3] st u P = zr 123 23 [v0, v1, v2, .int x3] (.int x3 :: st) u P := zr_Il k123_22 rfl
theorem k123_23 : xcd 123 23 = oCalV 10 161 2 26 := rfl
theorem r123_23 : zr 123 23 [v0, v1, v2, v3] (.int y2 :: .int y1 :: .ref b8 :: st) u P = ((xIs u b8 10 ∧ xcat st ≤ 8) ∧ zr 161 0 [.ref b8, .int y1, .int y2] [] u (fun r u2 => zr 123 26 [v0, v1, v2, v3] (r.toList ++ st) u2 P)) := zr_CV k123_23 rfl rfl rfl ⟨Nat.le_of_ble_eq_true rfl, Nat.succ_ne_zero _, by decide⟩ rfl
theorem k123_26 : xcd 123 26 = oIf (fun x => decide (¬ x = 0)) 35 29 := rfl
theorem r123_26 : zr 123 26 [v0, v1, v2, v3] (.int y1 :: st) u P = (if ¬ y1 = 0 then zr 123 35 [v0, v1, v2, v3] st u P else zr 123 29 [v0, v1, v2, v3] st u P) := zr_If k123_26
theorem k123_29 : xcd 123 29 = oAl 0 30 := rfl
theorem r123_29 : zr 123 29 [.ref a0, v1, v2, v3] st u P = zr 123 30 [.ref a0, v1, v2, v3] (.ref a0 :: st) u P := zr_Al k123_29 rfl
theorem k123_30 : xcd 123 30 = oI 2 31 := rfl
theorem r123_30 : zr 123 30 [v0, v1, v2, v3] st u P = zr 123 31 [v0, v1, v2, v3] (.int 2 :: st) u P := zr_I k123_30
theorem k123_31 : xcd 123 31 = oCalV 10 154 1 34 := rfl
theorem r123_31 : zr 123 31 [v0, v1, v2, v3] (.int y1 :: .ref b8 :: st) u P = ((xIs u b8 10 ∧ xcat st ≤ 8) ∧ zr 154 0 [.ref b8, .int y1] [] u (fun r u2 => zr 123 34 [v0, v1, v2, v3] (r.toList ++ st) u2 P)) := zr_CV k123_31 rfl rfl rfl ⟨Nat.le_of_ble_eq_true rfl, Nat.succ_ne_zero _, by decide⟩ rfl
theorem k123_34 : xcd 123 34 = oRi 0 := rfl
theorem r123_34 : zr 123 34 [v0, v1, v2, v3] [.int y1] u P = P (some (.int y1)) u := zr_Ri k123_34
theorem k123_35 : xcd 123 35 = oAl 0 36 := rfl
theorem r123_35 : zr 123 35 [.ref a0, v1, v2, v3] st u P = zr 123 36 [.ref a0, v1, v2, v3] (.ref a0 :: st) u P := zr_Al k123_35 rfl
theorem k123_36 : xcd 123 36 = oAl 0 37 := rfl
theorem r123_36 : zr 123 36 [.ref a0, v1, v2, v3] st u P = zr 123 37 [.ref a0, v1, v2, v3] (.ref a0 :: st) u P := zr_Al k123_36 rfl
theorem k123_37 : xcd 123 37 = oGR 10 1 40 := rfl
theorem r123_37 : zr 123 37 [v0, v1, v2, v3] (.ref b1 :: st) u P = (xIs u b1 10 ∧ ∃ b, xR u b1 1 = some b ∧ zr 123 40 [v0, v1, v2, v3] (.ref b :: st) u P) := zr_GR k123_37
theorem k123_40 : xcd 123 40 = oGR 3 0 43 := rfl
theorem r123_40 : zr 123 40 [v0, v1, v2, v3] (.ref b1 :: st) u P = (xIs u b1 3 ∧ ∃ b, xR u b1 0 = some b ∧ zr 123 43 [v0, v1, v2, v3] (.ref b :: st) u P) := zr_GR k123_40
theorem k123_43 : xcd 123 43 = oIl 1 44 := rfl
theorem r123_43 : zr 123 43 [v0, .int x1, v2, v3] st u P = zr 123 44 [v0, .int x1, v2, v3] (.int x1 :: st) u P := zr_Il k123_43 rfl
theorem k123_44 : xcd 123 44 = oIl 2 45 := rfl
theorem r123_44 : zr 123 44 [v0, v1, .int x2, v3] st u P = zr 123 45 [v0, v1, .int x2, v3] (.int x2 :: st) u P := zr_Il k123_44 rfl
theorem k123_45 : xcd 123 45 = oIl 3 46 := rfl
theorem r123_45 : zr 123 45 [v0, v1, v2, .int x3] st u P = zr 123 46 [v0, v1, v2, .int x3] (.int x3 :: st) u P := zr_Il k123_45 rfl
theorem k123_46 : xcd 123 46 = oCalV 4 49 3 49 := rfl
theorem r123_46 : zr 123 46 [v0, v1, v2, v3] (.int y3 :: .int y2 :: .int y1 :: .ref b8 :: st) u P = ((xIs u b8 4 ∧ xcat st ≤ 8) ∧ zr 49 0 [.ref b8, .int y1, .int y2, .int y3, .null, .null, .null] [] u (fun r u2 => zr 123 49 [v0, v1, v2, v3] (r.toList ++ st) u2 P)) := zr_CV k123_46 rfl rfl rfl ⟨Nat.le_of_ble_eq_true rfl, Nat.succ_ne_zero _, by decide⟩ rfl
theorem k123_49 : xcd 123 49 = oCalV 10 153 1 52 := rfl
theorem r123_49 : zr 123 49 [v0, v1, v2, v3] (.int y1 :: .ref b8 :: st) u P = ((xIs u b8 10 ∧ xcat st ≤ 8) ∧ zr 153 0 [.ref b8, .int y1] [] u (fun r u2 => zr 123 52 [v0, v1, v2, v3] (r.toList ++ st) u2 P)) := zr_CV k123_49 rfl rfl rfl ⟨Nat.le_of_ble_eq_true rfl, Nat.succ_ne_zero _, by decide⟩ rfl
theorem k123_52 : xcd 123 52 = oRi 0 := rfl
theorem r123_52 : zr 123 52 [v0, v1, v2, v3] [.int y1] u P = P (some (.int y1)) u := zr_Ri k123_52
theorem k124_0 : xcd 124 0 = oAl 0 1 := rfl
theorem r124_0 : zr 124 0 [.ref a0, v1, v2, v3] st u P = zr 124 1 [.ref a0, v1, v2, v3] (.ref a0 :: st) u P := zr_Al k124_0 rfl
theorem k124_1 : xcd 124 1 = oIl 1 2 := rfl
theorem r124_1 : zr 124 1 [v0, .int x1, v2, v3] st u P = zr 124 2 [v0, .int x1, v2, v3] (.int x1 :: st) u P := zr_Il k124_1 rfl
theorem k124_2 : xcd 124 2 = oCalV 10 156 1 5 := rfl
theorem r124_2 : zr 124 2 [v0, v1, v2, v3] (.int y1 :: .ref b8 :: st) u P = ((xIs u b8 10 ∧ xcat st ≤ 8) ∧ zr 156 0 [.ref b8, .int y1] [] u (fun r u2 => zr 124 5 [v0, v1, v2, v3] (r.toList ++ st) u2 P)) := zr_CV k124_2 rfl rfl rfl ⟨Nat.le_of_ble_eq_true rfl, Nat.succ_ne_zero _, by decide⟩ rfl
theorem k124_5 : xcd 124 5 = oIf (fun x => decide (x = 0)) 21 8 := rfl
theorem r124_5 : zr 124 5 [v0, v1, v2, v3] (.int y1 :: st) u P = (if y1 = 0 then zr 124 21 [v0, v1, v2, v3] st u P else zr 124 8 [v0, v1, v2, v3] st u P) := zr_If k124_5
theorem k124_8 : xcd 124 8 = oAl 0 9 := rfl
theorem r124_8 : zr 124 8 [.ref a0, v1, v2, v3] st u P = zr 124 9 [.ref a0, v1, v2, v3] (.ref a0 :: st) u P := zr_Al k124_8 rfl
theorem k124_9 : xcd 124 9 = oIl 2 10 := rfl
theorem r124_9 : zr 124 9 [v0, v1, .int x2, v3] st u P = zr 124 10 [v0, v1, .int x2, v3] (.int x2 :: st) u P := zr_Il k124_9 rfl
theorem k124_10 : xcd 124 10 = oCalV 10 156 1 13 := rfl
theorem r124_10 : zr 124 10 [v0, v1, v2, v3] (.int y1 :: .ref b8 :: st) u P = ((xIs u b8 10 ∧ xcat st ≤ 8) ∧ zr 156 0 [.ref b8, .int y1] [] u (fun r u2 => zr 124 13 [v0, v1, v2, v3] (r.toList ++ st) u2 P)) := zr_CV k124_10 rfl rfl rfl ⟨Nat.le_of_ble_eq_true rfl, Nat.succ_ne_zero _, by decide⟩ rfl
theorem k124_13 : xcd 124 13 = oIf (fun x => decide (x = 0)) 21 16 := rfl
theorem r124_13 : zr 124 13 [v0, v1, v2, v3] (.int y1 :: st) u P = (if y1 = 0 then zr 124 21 [v0, v1, v2, v3] st u P else zr 124 16 [v0, v1, v2, v3] st u P) := zr_If k124_13
theorem k124_16 : xcd 124 16 = oIl 1 17 := rfl
theorem r124_16 : zr 124 16 [v0, .int x1, v2, v3] st u P = zr 124 17 [v0, .int x1, v2, v3] (.int x1 :: st) u P := zr_Il k124_16 rfl
theorem k124_17 : xcd 124 17 = oIl 2 18 := rfl
theorem r124_17 : zr 124 17 [v0, v1, .int x2, v3] st u P = zr 124 18 [v0, v1, .int x2, v3] (.int x2 :: st) u P := zr_Il k124_17 rfl
theorem k124_18 : xcd 124 18 = oCmp (fun x y => decide (¬ x = y)) 27 21 := rfl
theorem r124_18 : zr 124 18 [v0, v1, v2, v3] (.int y1 :: .int y2 :: st) u P = (if ¬ y2 = y1 then zr 124 27 [v0, v1, v2, v3] st u P else zr 124 21 [v0, v1, v2, v3] st u P) := zr_Cmp k124_18
theorem k124_21 : xcd 124 21 = oAl 0 22 := rfl
theorem r124_21 : zr 124 21 [.ref a0, v1, v2, v3] st u P = zr 124 22 [.ref a0, v1, v2, v3] (.ref a0 :: st) u P := zr_Al k124_21 rfl
theorem k124_22 : xcd 124 22 = oI 1 23 := rfl
theorem r124_22 : zr 124 22 [v0, v1, v2, v3] st u P = zr 124 23 [v0, v1, v2, v3] (.int 1 :: st) u P := zr_I k124_22
theorem k124_23 : xcd 124 23 = oCalV 10 154 1 26 := rfl
theorem r124_23 : zr 124 23 [v0, v1, v2, v3] (.int y1 :: .ref b8 :: st) u P = ((xIs u b8 10 ∧ xcat st ≤ 8) ∧ zr 154 0 [.ref b8, .int y1] [] u (fun r u2 => zr 124 26 [v0, v1, v2, v3] (r.toList ++ st) u2 P)) := zr_CV k124_23 rfl rfl rfl ⟨Nat.le_of_ble_eq_true rfl, Nat.succ_ne_zero _, by decide⟩ rfl
theorem k124_26 : xcd 124 26 = oRi 0 := rfl
theorem r124_26 : zr 124 26 [v0, v1, v2, v3] [.int y1] u P = P (some (.int y1)) u := zr_Ri k124_26
theorem k124_27 : xcd 124 27 = oAl 0 28 := rfl
theorem r124_27 : zr 124 27 [.ref a0, v1, v2, v3] st u P = zr 124 28 [.ref a0, v1, v2, v3] (.ref a0 :: st) u P := zr_Al k124_27 rfl
theorem k124_28 : xcd 124 28 = oGR 10 1 31 := rfl
theorem r124_28 : zr 124 28 [v0, v1, v2, v3] (.ref b1 :: st) u P = (xIs u b1 10 ∧ ∃ b, xR u b1 1 = some b ∧ zr 124 31 [v0, v1, v2, v3] (.ref b :: st) u P) := zr_GR k124_28
theorem k124_31 : xcd 124 31 = oGR 3 0 34 := rfl
theorem r124_31 : zr 124 31 [v0, v1, v2, v3] (.ref b1 :: st) u P = (xIs u b1 3 ∧ ∃ b, xR u b1 0 = some b ∧ zr 124 34 [v0, v1, v2, v3] (.ref b :: st) u P) := zr_GR k124_31
theorem k124_34 : xcd 124 34 = oGR 4 3 37 := rfl
theorem r124_34 : zr 124 34 [v0, v1, v2, v3] (.ref b1 :: st) u P = (xIs u b1 4 ∧ ∃ b, xR u b1 3 = some b ∧ zr 124 37 [v0, v1, v2, v3] (.ref b :: st) u P) := zr_GR k124_34
theorem k124_37 : xcd 124 37 = oIl 1 38 := rfl
theorem r124_37 : zr 124 37 [v0, .int x1, v2, v3] st u P = zr 124 38 [v0, .int x1, v2, v3] (.int x1 :: st) u P := zr_Il k124_37 rfl
theorem k124_38 : xcd 124 38 = oLd 13 39 := rfl
theorem r124_38 : zr 124 38 [v0, v1, v2, v3] (.int y1 :: .ref b1 :: st) u P = ((xIs u b1 13 ∧ xinb y1 (xN u b1)) ∧ zr 124 39 [v0, v1, v2, v3] (.int (xI u b1 (xix y1)) :: st) u P) := zr_Ld k124_38
theorem k124_39 : xcd 124 39 = oAl 0 40 := rfl
theorem r124_39 : zr 124 39 [.ref a0, v1, v2, v3] st u P = zr 124 40 [.ref a0, v1, v2, v3] (.ref a0 :: st) u P := zr_Al k124_39 rfl
theorem k124_40 : xcd 124 40 = oGR 10 1 43 := rfl
theorem r124_40 : zr 124 40 [v0, v1, v2, v3] (.ref b1 :: st) u P = (xIs u b1 10 ∧ ∃ b, xR u b1 1 = some b ∧ zr 124 43 [v0, v1, v2, v3] (.ref b :: st) u P) := zr_GR k124_40
theorem k124_43 : xcd 124 43 = oGR 3 0 46 := rfl
theorem r124_43 : zr 124 43 [v0, v1, v2, v3] (.ref b1 :: st) u P = (xIs u b1 3 ∧ ∃ b, xR u b1 0 = some b ∧ zr 124 46 [v0, v1, v2, v3] (.ref b :: st) u P) := zr_GR k124_43
theorem k124_46 : xcd 124 46 = oGR 4 3 49 := rfl
theorem r124_46 : zr 124 46 [v0, v1, v2, v3] (.ref b1 :: st) u P = (xIs u b1 4 ∧ ∃ b, xR u b1 3 = some b ∧ zr 124 49 [v0, v1, v2, v3] (.ref b :: st) u P) := zr_GR k124_46
theorem k124_49 : xcd 124 49 = oIl 2 50 := rfl
theorem r124_49 : zr 124 49 [v0, v1, .int x2, v3] st u P = zr 124 50 [v0, v1, .int x2, v3] (.int x2 :: st) u P := zr_Il k124_49 rfl
theorem k124_50 : xcd 124 50 = oLd 13 51 := rfl
theorem r124_50 : zr 124 50 [v0, v1, v2, v3] (.int y1 :: .ref b1 :: st) u P = ((xIs u b1 13 ∧ xinb y1 (xN u b1)) ∧ zr 124 51 [v0, v1, v2, v3] (.int (xI u b1 (xix y1)) :: st) u P) := zr_Ld k124_50
theorem k124_51 : xcd 124 51 = oCmp (fun x y => decide (x = y)) 60 54 := rfl
theorem r124_51 : zr 124 51 [v0, v1, v2, v3] (.int y1 :: .int y2 :: st) u P = (if y2 = y1 then zr 124 60 [v0, v1, v2, v3] st u P else zr 124 54 [v0, v1, v2, v3] st u P) := zr_Cmp k124_51
theorem k124_54 : xcd 124 54 = oAl 0 55 := rfl
theorem r124_54 : zr 124 54 [.ref a0, v1, v2, v3] st u P = zr 124 55 [.ref a0, v1, v2, v3] (.ref a0 :: st) u P := zr_Al k124_54 rfl
theorem k124_55 : xcd 124 55 = oI 5 56 := rfl
theorem r124_55 : zr 124 55 [v0, v1, v2, v3] st u P = zr 124 56 [v0, v1, v2, v3] (.int 5 :: st) u P := zr_I k124_55
theorem k124_56 : xcd 124 56 = oCalV 10 154 1 59 := rfl
theorem r124_56 : zr 124 56 [v0, v1, v2, v3] (.int y1 :: .ref b8 :: st) u P = ((xIs u b8 10 ∧ xcat st ≤ 8) ∧ zr 154 0 [.ref b8, .int y1] [] u (fun r u2 => zr 124 59 [v0, v1, v2, v3] (r.toList ++ st) u2 P)) := zr_CV k124_56 rfl rfl rfl ⟨Nat.le_of_ble_eq_true rfl, Nat.succ_ne_zero _, by decide⟩ rfl
theorem k124_59 : xcd 124 59 = oRi 0 := rfl
theorem r124_59 : zr 124 59 [v0, v1, v2, v3] [.int y1] u P = P (some (.int y1)) u := zr_Ri k124_59
theorem k124_60 : xcd 124 60 = oIl 3 61 := rfl
theorem r124_60 : zr 124 60 [v0, v1, v2, .int x3] st u P = zr 124 61 [v0, v1, v2, .int x3] (.int x3 :: st) u P := zr_Il k124_60 rfl
theorem k124_61 : xcd 124 61 = oCal 163 1 64 := rfl
theorem r124_61 : zr 124 61 [v0, v1, v2, v3] (.int y1 :: st) u P = (xcat st ≤ 8 ∧ zr 163 0 [.int y1] [] u (fun r u2 => zr 124 64 [v0, v1, v2, v3] (r.toList ++ st) u2 P)) := zr_CS k124_61 (Nat.le_add_left _ _) rfl rfl ⟨Nat.le_of_ble_eq_true rfl, Nat.succ_ne_zero _, by decide⟩ rfl
theorem k124_64 : xcd 124 64 = oIf (fun x => decide (¬ x = 0)) 73 67 := rfl
theorem r124_64 : zr 124 64 [v0, v1, v2, v3] (.int y1 :: st) u P = (if ¬ y1 = 0 then zr 124 73 [v0, v1, v2, v3] st u P else zr 124 67 [v0, v1, v2, v3] st u P) := zr_If k124_64
theorem k124_67 : xcd 124 67 = oAl 0 68 := rfl
theorem r124_67 : zr 124 67 [.ref a0, v1, v2, v3] st u P = zr 124 68 [.ref a0, v1, v2, v3] (.ref a0 :: st) u P := zr_Al k124_67 rfl
theorem k124_68 : xcd 124 68 = oI 2 69 := rfl
theorem r124_68 : zr 124 68 [v0, v1, v2, v3] st u P = zr 124 69 [v0, v1, v2, v3] (.int 2 :: st) u P := zr_I k124_68
theorem k124_69 : xcd 124 69 = oCalV 10 154 1 72 := rfl
theorem r124_69 : zr 124 69 [v0, v1, v2, v3] (.int y1 :: .ref b8 :: st) u P = ((xIs u b8 10 ∧ xcat st ≤ 8) ∧ zr 154 0 [.ref b8, .int y1] [] u (fun r u2 => zr 124 72 [v0, v1, v2, v3] (r.toList ++ st) u2 P)) := zr_CV k124_69 rfl rfl rfl ⟨Nat.le_of_ble_eq_true rfl, Nat.succ_ne_zero _, by decide⟩ rfl
theorem k124_72 : xcd 124 72 = oRi 0 := rfl
theorem r124_72 : zr 124 72 [v0, v1, v2, v3] [.int y1] u P = P (some (.int y1)) u := zr_Ri k124_72
theorem k124_73 : xcd 124 73 = oAl 0 74 := rfl
theorem r124_73 : zr 124 73 [.ref a0, v1, v2, v3] st u P = zr 124 74 [.ref a0, v1, v2, v3] (.ref a0 :: st) u P := zr_Al k124_73 rfl
theorem k124_74 : xcd 124 74 = oGR 10 1 77 := rfl
theorem r124_74 : zr 124 74 [v0, v1, v2, v3] (.ref b1 :: st) u P = (xIs u b1 10 ∧ ∃ b, xR u b1 1 = some b ∧ zr 124 77 [v0, v1, v2, v3] (.ref b :: st) u P) := zr_GR k124_74
theorem k124_77 : xcd 124 77 = oGR 3 0 80 := rfl
theorem r124_77 : zr 124 77 [v0, v1, v2, v3] (.ref b1 :: st) u P = (xIs u b1 3 ∧ ∃ b, xR u b1 0 = some b ∧ zr 124 80 [v0, v1, v2, v3] (.ref b :: st) u P) := zr_GR k124_77
theorem k124_80 : xcd 124 80 = oIl 3 81 := rfl
theorem r124_80 : zr 124 80 [v0, v1, v2, .int x3] st u P = zr 124 81 [v0, v1, v2, .int x3] (.int x3 :: st) u P := zr_Il k124_80 rfl
theorem k124_81 : xcd 124 81 = oCalV 4 45 1 84 := rfl
theorem r124_81 : zr 124 81 [v0, v1, v2, v3] (.int y1 :: .ref b8 :: st) u P = ((xIs u b8 4 ∧ xcat st ≤ 8) ∧ zr 45 0 [.ref b8, .int y1, .null] [] u (fun r u2 => zr 124 84 [v0, v1, v2, v3] (r.toList ++ st) u2 P)) := zr_CV k124_81 rfl rfl rfl ⟨Nat.le_of_ble_eq_true rfl, Nat.succ_ne_zero _, by decide⟩ rfl
theorem k124_84 : xcd 124 84 = oAl 0 85 := rfl
theorem r124_84 : zr 124 84 [.ref a0, v1, v2, v3] st u P = zr 124 85 [.ref a0, v1, v2, v3] (.ref a0 :: st) u P := zr_Al k124_84 rfl
theorem k124_85 : xcd 124 85 = oAl 0 86 := rfl
theorem r124_85 : zr 124 85 [.ref a0, v1, v2, v3] st u P = zr 124 86 [.ref a0, v1, v2, v3] (.ref a0 :: st) u P := zr_Al k124_85 rfl
theorem k124_86 : xcd 124 86 = oGR 10 1 89 := rfl
theorem r124_86 : zr 124 86 [v0, v1, v2, v3] (.ref b1 :: st) u P = (xIs u b1 10 ∧ ∃ b, xR u b1 1 = some b ∧ zr 124 89 [v0, v1, v2, v3] (.ref b :: st) u P) := zr_GR k124_86
theorem k124_89 : xcd 124 89 = oGR 3 0 92 := rfl
theorem r124_89 : zr 124 89 [v0, v1, v2, v3] (.ref b1 :: st) u P = (xIs u b1 3 ∧ ∃ b, xR u b1 0 = some b ∧ zr 124 92 [v0, v1, v2, v3] (.ref b :: st) u P) := zr_GR k124_89
theorem k124_92 : xcd 124 92 = oIl 1 93 := rfl
theorem r124_92 : zr 124 92 [v0, .int x1, v2, v3] st u P = zr 124 93 [v0, .int x1, v2, v3] (.int x1 :: st) u P := zr_Il k124_92 rfl
theorem k124_93 : xcd 124 93 = oIl 2 94 := rfl
theorem r124_93 : zr 124 93 [v0, v1, .int x2, v3] st u P = zr 124 94 [v0, v1, .int x2, v3] (.int x2 :: st) u P := zr_Il k124_93 rfl
theorem k124_94 : xcd 124 94 = oCalV 4 50 2 97 := rfl
theorem r124_94 : zr 124 94 [v0, v1, v2, v3] (.int y2 :: .int y1 :: .ref b8 :: st) u P = ((xIs u b8 4 ∧ xcat st ≤ 8) ∧ zr 50 0 [.ref b8, .int y1, .int y2, .null, .null, .null] [] u (fun r u2 => zr 124 97 [v0, v1, v2, v3] (r.toList ++ st) u2 P)) := zr_CV k124_94 rfl rfl rfl ⟨Nat.le_of_ble_eq_true rfl, Nat.succ_ne_zero _, by decide⟩ rfl
theorem k124_97 : xcd 124 97 = oCalV 10 153 1 100 := rfl
theorem r124_97 : zr 124 97 [v0, v1, v2, v3] (.int y1 :: .ref b8 :: st) u P = ((xIs u b8 10 ∧ xcat st ≤ 8) ∧ zr 153 0 [.ref b8, .int y1] [] u (fun r u2 => zr 124 100 [v0, v1, v2, v3] (r.toList ++ st) u2 P)) := zr_CV k124_97 rfl rfl rfl ⟨Nat.le_of_ble_eq_true rfl, Nat.succ_ne_zero _, by decide⟩ rfl
theorem k124_100 : xcd 124 100 = oRi 0 := rfl
theorem r124_100 : zr 124 100 [v0, v1, v2, v3] [.int y1] u P = P (some (.int y1)) u := zr_Ri k124_100
theorem k125_0 : xcd 125 0 = oAl 0 1 := rfl
theorem r125_0 : zr 125 0 [.ref a0, v1, v2] st u P = zr 125 1 [.ref a0, v1, v2] (.ref a0 :: st) u P := zr_Al k125_0 rfl
theorem k125_1 : xcd 125 1 = oIl 1 2 := rfl
theorem r125_1 : zr 125 1 [v0, .int x1, v2] st u P = zr 125 2 [v0, .int x1, v2] (.int x1 :: st) u P := zr_Il k125_1 rfl
theorem k125_2 : xcd 125 2 = oCalV 10 156 1 5 := rfl
theorem r125_2 : zr 125 2 [v0, v1, v2] (.int y1 :: .ref b8 :: st) u P = ((xIs u b8 10 ∧ xcat st ≤ 8) ∧ zr 156 0 [.ref b8, .int y1] [] u (fun r u2 => zr 125 5 [v0, v1, v2] (r.toList ++ st) u2 P)) := zr_CV k125_2 rfl rfl rfl ⟨Nat.le_of_ble_eq_true rfl, Nat.succ_ne_zero _, by decide⟩ rfl
theorem k125_5 : xcd 125 5 = oIf (fun x => decide (¬ x = 0)) 14 8 := rfl
theorem r125_5 : zr 125 5 [v0, v1, v2] (.int y1 :: st) u P = (if ¬ y1 = 0 then zr 125 14 [v0, v1, v2] st u P else zr 125 8 [v0, v1, v2] st u P) := zr_If k125_5
theorem k125_8 : xcd 125 8 = oAl 0 9 := rfl
theorem r125_8 : zr 125 8 [.ref a0, v1, v2] st u P = zr 125 9 [.ref a0, v1, v2] (.ref a0 :: st) u P := zr_Al k125_8 rfl
theorem k125_9 : xcd 125 9 = oI 1 10 := rfl
theorem r125_9 : zr 125 9 [v0, v1, v2] st u P = zr 125 10 [v0, v1, v2] (.int 1 :: st) u P := zr_I k125_9
theorem k125_10 : xcd 125 10 = oCalV 10 154 1 13 := rfl
theorem r125_10 : zr 125 10 [v0, v1, v2] (.int y1 :: .ref b8 :: st) u P = ((xIs u b8 10 ∧ xcat st ≤ 8) ∧ zr 154 0 [.ref b8, .int y1] [] u (fun r u2 => zr 125 13 [v0, v1, v2] (r.toList ++ st) u2 P)) := zr_CV k125_10 rfl rfl rfl ⟨Nat.le_of_ble_eq_true rfl, Nat.succ_ne_zero _, by decide⟩ rfl
theorem k125_13 : xcd 125 13 = oRi 0 := rfl
theorem r125_13 : zr 125 13 [v0, v1, v2] [.int y1] u P = P (some (.int y1)) u := zr_Ri k125_13
theorem k125_14 : xcd 125 14 = oIl 2 15 := rfl
theorem r125_14 : zr 125 14 [v0, v1, .int x2] st u P = zr 125 15 [v0, v1, .int x2] (.int x2 :: st) u P := zr_Il k125_14 rfl
theorem k125_15 : xcd 125 15 = oCal 163 1 18 := rfl
theorem r125_15 : zr 125 15 [v0, v1, v2] (.int y1 :: st) u P = (xcat st ≤ 8 ∧ zr 163 0 [.int y1] [] u (fun r u2 => zr 125 18 [v0, v1, v2] (r.toList ++ st) u2 P)) := zr_CS k125_15 (Nat.le_add_left _ _) rfl rfl ⟨Nat.le_of_ble_eq_true rfl, Nat.succ_ne_zero _, by decide⟩ rfl
theorem k125_18 : xcd 125 18 = oIf (fun x => decide (¬ x = 0)) 27 21 := rfl
theorem r125_18 : zr 125 18 [v0, v1, v2] (.int y1 :: st) u P = (if ¬ y1 = 0 then zr 125 27 [v0, v1, v2] st u P else zr 125 21 [v0, v1, v2] st u P) := zr_If k125_18
theorem k125_21 : xcd 125 21 = oAl 0 22 := rfl
theorem r125_21 : zr 125 21 [.ref a0, v1, v2] st u P = zr 125 22 [.ref a0, v1, v2] (.ref a0 :: st) u P := zr_Al k125_21 rfl
theorem k125_22 : xcd 125 22 = oI 2 23 := rfl
theorem r125_22 : zr 125 22 [v0, v1, v2] st u P = zr 125 23 [v0, v1, v2] (.int 2 :: st) u P := zr_I k125_22
theorem k125_23 : xcd 125 23 = oCalV 10 154 1 26 := rfl
theorem r125_23 : zr 125 23 [v0, v1, v2] (.int y1 :: .ref b8 :: st) u P = ((xIs u b8 10 ∧ xcat st ≤ 8) ∧ zr 154 0 [.ref b8, .int y1] [] u (fun r u2 => zr 125 26 [v0, v1, v2] (r.toList ++ st) u2 P)) := zr_CV k125_23 rfl rfl rfl ⟨Nat.le_of_ble_eq_true rfl, Nat.succ_ne_zero _, by decide⟩ rfl
theorem k125_26 : xcd 125 26 = oRi 0 := rfl
theorem r125_26 : zr 125 26 [v0, v1, v2] [.int y1] u P = P (some (.int y1)) u := zr_Ri k125_26
theorem k125_27 : xcd 125 27 = oAl 0 28 := rfl
theorem r125_27 : zr 125 27 [.ref a0, v1, v2] st u P = zr 125 28 [.ref a0, v1, v2] (.ref a0 :: st) u P := zr_Al k125_27 rfl
theorem k125_28 : xcd 125 28 = oGR 10 1 31 := rfl
theorem r125_28 : zr 125 28 [v0, v1, v2] (.ref b1 :: st) u P = (xIs u b1 10 ∧ ∃ b, xR u b1 1 = some b ∧ zr 125 31 [v0, v1, v2] (.ref b :: st) u P) := zr_GR k125_28
theorem k125_31 : xcd 125 31 = oGR 3 0 34 := rfl
theorem r125_31 : zr 125 31 [v0, v1, v2] (.ref b1 :: st) u P = (xIs u b1 3 ∧ ∃ b, xR u b1 0 = some b ∧ zr 125 34 [v0, v1, v2] (.ref b :: st) u P) := zr_GR k125_31
theorem k125_34 : xcd 125 34 = oIl 2 35 := rfl
theorem r125_34 : zr 125 34 [v0, v1, .int x2] st u P = zr 125 35 [v0, v1, .int x2] (.int x2 :: st) u P := zr_Il k125_34 rfl
theorem k125_35 : xcd 125 35 = oCalV 4 45 1 38 := rfl
theorem r125_35 : zr 125 35 [v0, v1, v2] (.int y1 :: .ref b8 :: st) u P = ((xIs u b8 4 ∧ xcat st ≤ 8) ∧ zr 45 0 [.ref b8, .int y1, .null] [] u (fun r u2 => zr 125 38 [v0, v1, v2] (r.toList ++ st) u2 P)) := zr_CV k125_35 rfl rfl rfl ⟨Nat.le_of_ble_eq_true rfl, Nat.succ_ne_zero _, by decide⟩ rfl
theorem k125_38 : xcd 125 38 = oAl 0 39 := rfl
theorem r125_38 : zr 125 38 [.ref a0, v1, v2] st u P = zr 125 39 [.ref a0, v1, v2] (.ref a0 :: st) u P := zr_Al k125_38 rfl
theorem k125_39 : xcd 125 39 = oAl 0 40 := rfl
theorem r125_39 : zr 125 39 [.ref a0, v1, v2] st u P = zr 125 40 [.ref a0, v1, v2] (.ref a0 :: st) u P := zr_Al k125_39 rfl
theorem k125_40 : xcd 125 40 = oGR 10 1 43 := rfl
theorem r125_40 : zr 125 40 [v0, v1, v2] (.ref b1 :: st) u P = (xIs u b1 10 ∧ ∃ b, xR u b1 1 = some b ∧ zr 125 43 [v0, v1, v2] (.ref b :: st) u P) := zr_GR k125_40
theorem k125_43 : xcd 125 43 = oGR 3 0 46 := rfl
theorem r125_43 : zr 125 43 [v0, v1, v2] (.ref b1 :: st) u P = (xIs u b1 3 ∧ ∃ b, xR u b1 0 = some b ∧ zr 125 46 [v0, v1, v2] (.ref b :: st) u P) := zr_GR k125_43
theorem k125_46 : xcd 125 46 = oIl 1 47 := rfl
theorem r125_46 : zr 125 46 [v0, .int x1, v2] st u P = zr 125 47 [v0, .int x1, v2] (.int x1 :: st) u P := zr_Il k125_46 rfl
theorem k125_47 : xcd 125 47 = oCalV 4 51 1 50 := rfl
theorem r125_47 : zr 125 47 [v0, v1, v2] (.int y1 :: .ref b8 :: st) u P = ((xIs u b8 4 ∧ xcat st ≤ 8) ∧ zr 51 0 [.ref b8, .int y1, .null, .null, .null] [] u (fun r u2 => zr 125 50 [v0, v1, v2] (r.toList ++ st) u2 P)) := zr_CV k125_47 rfl rfl rfl ⟨Nat.le_of_ble_eq_true rfl, Nat.succ_ne_zero _, by decide⟩ rfl
theorem k125_50 : xcd 125 50 = oCalV 10 153 1 53 := rfl
theorem r125_50 : zr 125 50 [v0, v1, v2] (.int y1 :: .ref b8 :: st) u P = ((xIs u b8 10 ∧ xcat st ≤ 8) ∧ zr 153 0 [.ref b8, .int y1] [] u (fun r u2 => zr 125 53 [v0, v1, v2] (r.toList ++ st) u2 P)) := zr_CV k125_50 rfl rfl rfl ⟨Nat.le_of_ble_eq_true rfl, Nat.succ_ne_zero _, by decide⟩ rfl
theorem k125_53 : xcd 125 53 = oRi 0 := rfl
theorem r125_53 : zr 125 53 [v0, v1, v2] [.int y1] u P = P (some (.int y1)) u := zr_Ri k125_53
theorem k126_0 : xcd 126 0 = oAl 0 1 := rfl
theorem r126_0 : zr 126 0 [.ref a0, v1, v2] st u P = zr 126 1 [.ref a0, v1, v2] (.ref a0 :: st) u P := zr_Al k126_0 rfl
theorem k126_1 : xcd 126 1 = oGI 10 2 4 := rfl
theorem r126_1 : zr 126 1 [v0, v1, v2] (.ref b1 :: st) u P = (xIs u b1 10 ∧ zr 126 4 [v0, v1, v2] (.int (xI u b1 2) :: st) u P) := zr_GI k126_1
theorem k126_4 : xcd 126 4 = oIf (fun x => decide (¬ x = 0)) 13 7 := rfl
theorem r126_4 : zr 126 4 [v0, v1, v2] (.int y1 :: st) u P = (if ¬ y1 = 0 then zr 126 13 [v0, v1, v2] st u P else zr 126 7 [v0, v1, v2] st u P) := zr_If k126_4
theorem k126_7 : xcd 126 7 = oAl 0 8 := rfl
theorem r126_7 : zr 126 7 [.ref a0, v1, v2] st u P = zr 126 8 [.ref a0, v1, v2] (.ref a0 :: st) u P := zr_Al k126_7 rfl
theorem k126_8 : xcd 126 8 = oI 1 9 := rfl
theorem r126_8 : zr 126 8 [v0, v1, v2] st u P = zr 126 9 [v0, v1, v2] (.int 1 :: st) u P := zr_I k126_8
theorem k126_9 : xcd 126 9 = oCalV 10 154 1 12 := rfl
theorem r126_9 : zr 126 9 [v0, v1, v2] (.int y1 :: .ref b8 :: st) u P = ((xIs u b8 10 ∧ xcat st ≤ 8) ∧ zr 154 0 [.ref b8, .int y1] [] u (fun r u2 => zr 126 12 [v0, v1, v2] (r.toList ++ st) u2 P)) := zr_CV k126_9 rfl rfl rfl ⟨Nat.le_of_ble_eq_true rfl, Nat.succ_ne_zero _, by decide⟩ rfl
theorem k126_12 : xcd 126 12 = oRi 0 := rfl
theorem r126_12 : zr 126 12 [v0, v1, v2] [.int y1] u P = P (some (.int y1)) u := zr_Ri k126_12
theorem k126_13 : xcd 126 13 = oIl 1 14 := rfl
theorem r126_13 : zr 126 13 [v0, .int x1, v2] st u P = zr 126 14 [v0, .int x1, v2] (.int x1 :: st) u P := zr_Il k126_13 rfl
theorem k126_14 : xcd 126 14 = oI 0 15 := rfl
theorem r126_14 : zr 126 14 [v0, v1, v2] st u P = zr 126 15 [v0, v1, v2] (.int 0 :: st) u P := zr_I k126_14
theorem k126_15 : xcd 126 15 = oI 4 16 := rfl
theorem r126_15 : zr 126 15 [v0, v1, v2] st u P = zr 126 16 [v0, v1, v2] (.int 4 :: st) u P := zr_I k126_15
theorem k126_16 : xcd 126 16 = oCal 164 3 19 := rfl
theorem r126_16 : zr 126 16 [v0, v1, v2] (.int y3 :: .int y2 :: .int y1 :: st) u P = (xcat st ≤ 8 ∧ zr 164 0 [.int y1, .int y2, .int y3] [] u (fun r u2 => zr 126 19 [v0, v1, v2] (r.toList ++ st) u2 P)) := zr_CS k126_16 (Nat.le_add_left _ _) rfl rfl ⟨Nat.le_of_ble_eq_true rfl, Nat.succ_ne_zero _, by decide⟩ rfl
theorem k126_19 : xcd 126 19 = oIf (fun x => decide (x = 0)) 29 22 := rfl
theorem r126_19 : zr 126 19 [v0, v1, v2] (.int y1 :: st) u P = (if y1 = 0 then zr 126 29 [v0, v1, v2] st u P else zr 126 22 [v0, v1, v2] st u P) := zr_If k126_19
theorem k126_22 : xcd 126 22 = oIl 2 23 := rfl
theorem r126_22 : zr 126 22 [v0, v1, .int x2] st u P = zr 126 23 [v0, v1, .int x2] (.int x2 :: st) u P := zr_Il k126_22 rfl
theorem k126_23 : xcd 126 23 = oCal 163 1 26 := rfl
theorem r126_23 : zr 126 23 [v0, v1, v2] (.int y1 :: st) u P = (xcat st ≤ 8 ∧ zr 163 0 [.int y1] [] u (fun r u2 => zr 126 26 [v0, v1, v2] (r.toList ++ st) u2 P)) := zr_CS k126_23 (Nat.le_add_left _ _) rfl rfl ⟨Nat.le_of_ble_eq_true rfl, Nat.succ_ne_zero _, by decide⟩ rfl
theorem k126_26 : xcd 126 26 = oIf (fun x => decide (¬ x = 0)) 35 29 := rfl
theorem r126_26 : zr 126 26 [v0, v1, v2] (.int y1 :: st) u P = (if ¬ y1 = 0 then zr 126 35 [v0, v1, v2] st u P else zr 126 29 [v0, v1, v2] st u P) := zr_If k126_26
theorem k126_29 : xcd 126 29 = oAl 0 30 := rfl
theorem r126_29 : zr 126 29 [.ref a0, v1, v2] st u P = zr 126 30 [.ref a0, v1, v2] (.ref a0 :: st) u P := zr_Al k126_29 rfl
theorem k126_30 : xcd 126 30 = oI 2 31 := rfl
theorem r126_30 : zr 126 30 [v0, v1, v2] st u P = zr 126 31 [v0, v1, v2] (.int 2 :: st) u P := zr_I k126_30
theorem k126_31 : xcd 126 31 = oCalV 10 154 1 34 := rfl
theorem r126_31 : zr 126 31 [v0, v1, v2] (.int y1 :: .ref b8 :: st) u P = ((xIs u b8 10 ∧ xcat st ≤ 8) ∧ zr 154 0 [.ref b8, .int y1] [] u (fun r u2 => zr 126 34 [v0, v1, v2] (r.toList ++ st) u2 P)) := zr_CV k126_31 rfl rfl rfl ⟨Nat.le_of_ble_eq_true rfl, Nat.succ_ne_zero _, by decide⟩ rfl
theorem k126_34 : xcd 126 34 = oRi 0 := rfl
theorem r126_34 : zr 126 34 [v0, v1, v2] [.int y1] u P = P (some (.int y1)) u := zr_Ri k126_34
theorem k126_35 : xcd 126 35 = oAl 0 36 := rfl
theorem r126_35 : zr 126 35 [.ref a0, v1, v2] st u P = zr 126 36 [.ref a0, v1, v2] (.ref a0 :: st) u P := zr_Al k126_35 rfl
theorem k126_36 : xcd 126 36 = oGR 10 1 39 := rfl
theorem r126_36 : zr 126 36 [v0, v1, v2] (.ref b1 :: st) u P = (xIs u b1 10 ∧ ∃ b, xR u b1 1 = some b ∧ zr 126 39 [v0, v1, v2] (.ref b :: st) u P) := zr_GR k126_36
theorem k126_39 : xcd 126 39 = oGR 3 0 42 := rfl
theorem r126_39 : zr 126 39 [v0, v1, v2] (.ref b1 :: st) u P = (xIs u b1 3 ∧ ∃ b, xR u b1 0 = some b ∧ zr 126 42 [v0, v1, v2] (.ref b :: st) u P) := zr_GR k126_39
theorem k126_42 : xcd 126 42 = oIl 2 43 := rfl
theorem r126_42 : zr 126 42 [v0, v1, .int x2] st u P = zr 126 43 [v0, v1, .int x2] (.int x2 :: st) u P := zr_Il k126_42 rfl
theorem k126_43 : xcd 126 43 = oCalV 4 45 1 46 := rfl
theorem r126_43 : zr 126 43 [v0, v1, v2] (.int y1 :: .ref b8 :: st) u P = ((xIs u b8 4 ∧ xcat st ≤ 8) ∧ zr 45 0 [.ref b8, .int y1, .null] [] u (fun r u2 => zr 126 46 [v0, v1, v2] (r.toList ++ st) u2 P)) := zr_CV k126_43 rfl rfl rfl ⟨Nat.le_of_ble_eq_true rfl, Nat.succ_ne_zero _, by decide⟩ rfl
theorem k126_46 : xcd 126 46 = oAl 0 47 := rfl
theorem r126_46 : zr 126 46 [.ref a0, v1, v2] st u P = zr 126 47 [.ref a0, v1, v2] (.ref a0 :: st) u P := zr_Al k126_46 rfl
theorem k126_47 : xcd 126 47 = oAl 0 48 := rfl
theorem r126_47 : zr 126 47 [.ref a0, v1, v2] st u P = zr 126 48 [.ref a0, v1, v2] (.ref a0 :: st) u P := zr_Al k126_47 rfl
theorem k126_48 : xcd 126 48 = oGR 10 1 51 := rfl
theorem r126_48 : zr 126 48 [v0, v1, v2] (.ref b1 :: st) u P = (xIs u b1 10 ∧ ∃ b, xR u b1 1 = some b ∧ zr 126 51 [v0, v1, v2] (.ref b :: st) u P) := zr_GR k126_48
theorem k126_51 : xcd 126 51 = oGR 3 0 54 := rfl
theorem r126_51 : zr 126 51 [v0, v1, v2] (.ref b1 :: st) u P = (xIs u b1 3 ∧ ∃ b, xR u b1 0 = some b ∧ zr 126 54 [v0, v1, v2] (.ref b :: st) u P) := zr_GR k126_51
theorem k126_54 : xcd 126 54 = oIl 1 55 := rfl
theorem r126_54 : zr 126 54 [v0, .int x1, v2] st u P = zr 126 55 [v0, .int x1, v2] (.int x1 :: st) u P := zr_Il k126_54 rfl
theorem k126_55 : xcd 126 55 = oCalV 4 52 1 58 := rfl
theorem r126_55 : zr 126 55 [v0, v1, v2] (.int y1 :: .ref b8 :: st) u P = ((xIs u b8 4 ∧ xcat st ≤ 8) ∧ zr 52 0 [.ref b8, .int y1, .null, .null, .null] [] u (fun r u2 => zr 126 58 [v0, v1, v2] (r.toList ++ st) u2 P)) := zr_CV k126_55 rfl rfl rfl ⟨Nat.le_of_ble_eq_true rfl, Nat.succ_ne_zero _, by decide⟩ rfl
theorem k126_58 : xcd 126 58 = oCalV 10 153 1 61 := rfl
theorem r126_58 : zr 126 58 [v0, v1, v2] (.int y1 :: .ref b8 :: st) u P = ((xIs u b8 10 ∧ xcat st ≤ 8) ∧ zr 153 0 [.ref b8, .int y1] [] u (fun r u2 => zr 126 61 [v0, v1, v2] (r.toList ++ st) u2 P)) := zr_CV k126_58 rfl rfl rfl ⟨Nat.le_of_ble_eq_true rfl, Nat.succ_ne_zero _, by decide⟩ rfl
theorem k126_61 : xcd 126 61 = oRi 0 := rfl
theorem r126_61 : zr 126 61 [v0, v1, v2] [.int y1] u P = P (some (.int y1)) u := zr_Ri k126_61
theorem k127_0 : xcd 127 0 = oAl 0 1 := rfl
theorem r127_0 : zr 127 0 [.ref a0, v1, v2, v3] st u P = zr 127 1 [.ref a0, v1, v2, v3] (.ref a0 :: st) u P := zr_Al k127_0 rfl
theorem k127_1 : xcd 127 1 = oIl 1 2 := rfl
theorem r127_1 : zr 127 1 [v0, .int x1, v2, v3] st u P = zr 127 2 [v0, .int x1, v2, v3] (.int x1 :: st) u P := zr_Il k127_1 rfl
theorem k127_2 : xcd 127 2 = oCalV 10 156 1 5 := rfl
theorem r127_2 : zr 127 2 [v0, v1, v2, v3] (.int y1 :: .ref b8 :: st) u P = ((xIs u b8 10 ∧ xcat st ≤ 8) ∧ zr 156 0 [.ref b8, .int y1] [] u (fun r u2 => zr 127 5 [v0, v1, v2, v3] (r.toList ++ st) u2 P)) := zr_CV k127_2 rfl rfl rfl ⟨Nat.le_of_ble_eq_true rfl, Nat.succ_ne_zero _, by decide⟩ rfl
theorem k127_5 : xcd 127 5 = oIf (fun x => decide (x = 0)) 16 8 := rfl
theorem r127_5 : zr 127 5 [v0, v1, v2, v3] (.int y1 :: st) u P = (if y1 = 0 then zr 127 16 [v0, v1, v2, v3] st u P else zr 127 8 [v0, v1, v2, v3] st u P) := zr_If k127_5
theorem k127_8 : xcd 127 8 = oAl 0 9 := rfl
theorem r127_8 : zr 127 8 [.ref a0, v1, v2, v3] st u P = zr 127 9 [.ref a0, v1, v2, v3] (.ref a0 :: st) u P := zr_Al k127_8 rfl
theorem k127_9 : xcd 127 9 = oIl 2 10 := rfl
theorem r127_9 : zr 127 9 [v0, v1, .int x2, v3] st u P = zr 127 10 [v0, v1, .int x2, v3] (.int x2 :: st) u P := zr_Il k127_9 rfl
theorem k127_10 : xcd 127 10 = oCalV 10 158 1 13 := rfl
theorem r127_10 : zr 127 10 [v0, v1, v2, v3] (.int y1 :: .ref b8 :: st) u P = ((xIs u b8 10 ∧ xcat st ≤ 8) ∧ zr 158 0 [.ref b8, .int y1] [] u (fun r u2 => zr 127 13 [v0, v1, v2, v3] (r.toList ++ st) u2 P)) := zr_CV k127_10 rfl rfl rfl ⟨Nat.le_of_ble_eq_true rfl, Nat.succ_ne_zero _, by decide⟩ rfl
theorem k127_13 : xcd 127 13 = oIf (fun x => decide (¬ x = 0)) 22 16 := rfl
theorem r127_13 : zr 127 13 [v0, v1, v2, v3] (.int y1 :: st) u P = (if ¬ y1 = 0 then zr 127 22 [v0, v1, v2, v3] st u P else zr 127 16 [v0, v1, v2, v3] st u P) := zr_If k127_13
theorem k127_16 : xcd 127 16 = oAl 0 17 := rfl
theorem r127_16 : zr 127 16 [.ref a0, v1, v2, v3] st u P = zr 127 17 [.ref a0, v1, v2, v3] (.ref a0 :: st) u P := zr_Al k127_16 rfl
theorem k127_17 : xcd 127 17 = oI 1 18 := rfl
theorem r127_17 : zr 127 17 [v0, v1, v2, v3] st u P = zr 127 18 [v0, v1, v2, v3] (.int 1 :: st) u P := zr_I k127_17
theorem k127_18 : xcd 127 18 = oCalV 10 154 1 21 := rfl
theorem r127_18 : zr 127 18 [v0, v1, v2, v3] (.int y1 :: .ref b8 :: st) u P = ((xIs u b8 10 ∧ xcat st ≤ 8) ∧ zr 154 0 [.ref b8, .int y1] [] u (fun r u2 => zr 127 21 [v0, v1, v2, v3] (r.toList ++ st) u2 P)) := zr_CV k127_18 rfl rfl rfl ⟨Nat.le_of_ble_eq_true rfl, Nat.succ_ne_zero _, by decide⟩ rfl
theorem k127_21 : xcd 127 21 = oRi 0 := rfl
theorem r127_21 : zr 127 21 [v0, v1, v2, v3] [.int y1] u P = P (some (.int y1)) u := zr_Ri k127_21
theorem k127_22 : xcd 127 22 = oIl 3 23 := rfl
theorem r127_22 : zr 127 22 [v0, v1, v2, .int x3] st u P = zr 127 23 [v0, v1, v2, .int x3] (.int x3 :: st) u P := zr_Il k127_22 rfl
theorem k127_23 : xcd 127 23 = oCal 163 1 26 := rfl
theorem r127_23 : zr 127 23 [v0, v1, v2, v3] (.int y1 :: st) u P = (xcat st ≤ 8 ∧ zr 163 0 [.int y1] [] u (fun r u2 => zr 127 26 [v0, v1, v2, v3] (r.toList ++ st) u2 P)) := zr_CS k127_23 (Nat.le_add_left _ _) rfl rfl ⟨Nat.le_of_ble_eq_true rfl, Nat.succ_ne_zero _, by decide⟩ rfl
theorem k127_26 : xcd 127 26 = oIf (fun x => decide (¬ x = 0)) 35 29 := rfl
theorem r127_26 : zr 127 26 [v0, v1, v2, v3] (.int y1 :: st) u P = (if ¬ y1 = 0 then zr 127 35 [v0, v1, v2, v3] st u P else zr 127 29 [v0, v1, v2, v3] st u P) := zr_If k127_26
theorem k127_29 : xcd 127 29 = oAl 0 30 := rfl
theorem r127_29 : zr 127 29 [.ref a0, v1, v2, v3] st u P = zr 127 30 [.ref a0, v1, v2, v3] (.ref a0 :: st) u P := zr_Al k127_29 rfl
theorem k127_30 : xcd 127 30 = oI 2 31 := rfl
theorem r127_30 : zr 127 30 [v0, v1, v2, v3] st u P = zr 127 31 [v0, v1, v2, v3] (.int 2 :: st) u P := zr_I k127_30
theorem k127_31 : xcd 127 31 = oCalV 10 154 1 34 := rfl
theorem r127_31 : zr 127 31 [v0, v1, v2, v3] (.int y1 :: .ref b8 :: st) u P = ((xIs u b8 10 ∧ xcat st ≤ 8) ∧ zr 154 0 [.ref b8, .int y1] [] u (fun r u2 => zr 127 34 [v0, v1, v2, v3] (r.toList ++ st) u2 P)) := zr_CV k127_31 rfl rfl rfl ⟨Nat.le_of_ble_eq_true rfl, Nat.succ_ne_zero _, by decide⟩ rfl
theorem k127_34 : xcd 127 34 = oRi 0 := rfl
theorem r127_34 : zr 127 34 [v0, v1, v2, v3] [.int y1] u P = P (some (.int y1)) u := zr_Ri k127_34
theorem k127_35 : xcd 127 35 = oAl 0 36 := rfl
theorem r127_35 : zr 127 35 [.ref a0, v1, v2, v3] st u P = zr 127 36 [.ref a0, v1, v2, v3] (.ref a0 :: st) u P := zr_Al k127_35 rfl
theorem k127_36 : xcd 127 36 = oAl 0 37 := rfl
theorem r127_36 : zr 127 36 [.ref a0, v1, v2, v3] st u P = zr 127 37 [.ref a0, v1, v2, v3] (.ref a0 :: st) u P := zr_Al k127_36 rfl
theorem k127_37 : xcd 127 37 = oGR 10 1 40 := rfl
theorem r127_37 : zr 127 37 [v0, v1, v2, v3] (.ref b1 :: st) u P = (xIs u b1 10 ∧ ∃ b, xR u b1 1 = some b ∧ zr 127 40 [v0, v1, v2, v3] (.ref b :: st) u P) := zr_GR k127_37
theorem k127_40 : xcd 127 40 = oGR 3 1 43 := rfl
theorem r127_40 : zr 127 40 [v0, v1, v2, v3] (.ref b1 :: st) u P = (xIs u b1 3 ∧ ∃ b, xR u b1 1 = some b ∧ zr 127 43 [v0, v1, v2, v3] (.ref b :: st) u P) := zr_GR k127_40
theorem k127_43 : xcd 127 43 = oIl 1 44 := rfl
theorem r127_43 : zr 127 43 [v0, .int x1, v2, v3] st u P = zr 127 44 [v0, .int x1, v2, v3] (.int x1 :: st) u P := zr_Il k127_43 rfl
theorem k127_44 : xcd 127 44 = oIl 2 45 := rfl
theorem r127_44 : zr 127 44 [v0, v1, .int x2, v3] st u P = zr 127 45 [v0, v1, .int x2, v3] (.int x2 :: st) u P := zr_Il k127_44 rfl
theorem k127_45 : xcd 127 45 = oIl 3 46 := rfl
theorem r127_45 : zr 127 45 [v0, v1, v2, .int x3] st u P = zr 127 46 [v0, v1, v2, .int x3] (.int x3 :: st) u P := zr_Il k127_45 rfl
theorem k127_46 : xcd 127 46 = oCalV 9 99 3 49 := rfl
theorem r127_46 : zr 127 46 [v0, v1, v2, v3] (.int y3 :: .int y2 :: .int y1 :: .ref b8 :: st) u P = ((xIs u b8 9 ∧ xcat st ≤ 8) ∧ zr 99 0 [.ref b8, .int y1, .int y2, .int y3, .null, .null, .null] [] u (fun r u2 => zr 127 49 [v0, v1, v2, v3] (r.toList ++ st) u2 P)) := zr_CV k127_46 rfl rfl rfl ⟨Nat.le_of_ble_eq_true rfl, Nat.succ_ne_zero _, by decide⟩ rfl
theorem k127_49 : xcd 127 49 = oCalV 10 153 1 52 := rfl
theorem r127_49 : zr 127 49 [v0, v1, v2, v3] (.int y1 :: .ref b8 :: st) u P = ((xIs u b8 10 ∧ xcat st ≤ 8) ∧ zr 153 0 [.ref b8, .int y1] [] u (fun r u2 => zr 127 52 [v0, v1, v2, v3] (r.toList ++ st) u2 P)) := zr_CV k127_49 rfl rfl rfl ⟨Nat.le_of_ble_eq_true rfl, Nat.succ_ne_zero _, by decide⟩ rfl
theorem k127_52 : xcd 127 52 = oRi 0 := rfl
theorem r127_52 : zr 127 52 [v0, v1, v2, v3] [.int y1] u P = P (some (.int y1)) u := zr_Ri k127_52
end
