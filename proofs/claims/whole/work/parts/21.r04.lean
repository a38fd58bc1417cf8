/-! rows of X11_nextWhole, X11_nextSign, X11_flaw, X11_isWord, X11_takes, X11_readWhole, X11_readPart, X11_isName, X11_find, X11_classHere, X11_placeHere, X11_readFresh, X11_known, X11_readKnown, X11_readAll, X11_readLine, X11_readDesk, X11_begins, X11_readClass, X11_readPlace, X11_boundAt, X11_latestBound, X11_readBound, X11_latestRate, X11_readRate, X11_addsRate, X11_readHoliday, X11_capIn, X11_readCap, X11_feed, X11_desk, X11_fault, X11_where, X11_about, X11_isClass, X11_isPlace, X11_above, X11_place -/
section
variable {u : xMem} {P : Option Value → xMem → Prop} {st : List Value} {v0 v1 v2 v3 v4 v5 v6 v7 v8 v9 v10 v11 v12 v13 v14 v15 : Value} {x0 x1 x2 x3 x4 x5 x6 x7 x8 x9 x10 x11 x12 x13 x14 x15 : Int32} {a0 a1 a2 a3 a4 a5 a6 a7 a8 a9 a10 a11 a12 a13 a14 a15 : Nat} {j0 j1 j2 j3 j4 j5 j6 j7 j8 j9 j10 j11 j12 j13 j14 j15 : Int64} {y1 y2 y3 y4 y5 y6 y7 y8 : Int32} {b1 b2 b3 b4 b5 b6 b7 b8 : Nat} {w1 w2 w3 w4 : Int64}
theorem k179_0 : xcd 179 0 = oAl 0 1 := rfl
theorem r179_0 : zr 179 0 [.ref a0] st u P = zr 179 1 [.ref a0] (.ref a0 :: st) u P := zr_Al k179_0 rfl
theorem k179_1 : xcd 179 1 = oI 0 2 := rfl
theorem r179_1 : zr 179 1 [v0] st u P = zr 179 2 [v0] (.int 0 :: st) u P := zr_I k179_1
theorem k179_2 : xcd 179 2 = oPI 11 14 5 := rfl
theorem r179_2 : zr 179 2 [v0] (.int y1 :: .ref b1 :: st) u P = (xIs u b1 11 ∧ zr 179 5 [v0] st (xsI u b1 14 y1) P) := zr_PI k179_2
theorem k179_5 : xcd 179 5 = oAl 0 6 := rfl
theorem r179_5 : zr 179 5 [.ref a0] st u P = zr 179 6 [.ref a0] (.ref a0 :: st) u P := zr_Al k179_5 rfl
theorem k179_6 : xcd 179 6 = oAl 0 7 := rfl
theorem r179_6 : zr 179 6 [.ref a0] st u P = zr 179 7 [.ref a0] (.ref a0 :: st) u P := zr_Al k179_6 rfl
theorem k179_7 : xcd 179 7 = oGI 11 11 10 := rfl
theorem r179_7 : zr 179 7 [v0] (.ref b1 :: st) u P = (xIs u b1 11 ∧ zr 179 10 [v0] (.int (xI u b1 11) :: st) u P) := zr_GI k179_7
theorem k179_10 : xcd 179 10 = oCalV 11 176 1 13 := rfl
theorem r179_10 : zr 179 10 [v0] (.int y1 :: .ref b8 :: st) u P = ((xIs u b8 11 ∧ xcat st ≤ 8) ∧ zr 176 0 [.ref b8, .int y1] [] u (fun r u2 => zr 179 13 [v0] (r.toList ++ st) u2 P)) := zr_CV k179_10 rfl rfl rfl ⟨Nat.le_of_ble_eq_true rfl, Nat.succ_ne_zero _, by decide⟩ rfl
theorem k179_13 : xcd 179 13 = oI 48 15 := rfl
theorem r179_13 : zr 179 13 [v0] st u P = zr 179 15 [v0] (.int 48 :: st) u P := zr_I k179_13
theorem k179_15 : xcd 179 15 = oI 57 17 := rfl
theorem r179_15 : zr 179 15 [v0] st u P = zr 179 17 [v0] (.int 57 :: st) u P := zr_I k179_15
theorem k179_17 : xcd 179 17 = oCal 175 3 20 := rfl
theorem r179_17 : zr 179 17 [v0] (.int y3 :: .int y2 :: .int y1 :: st) u P = (xcat st ≤ 8 ∧ zr 175 0 [.int y1, .int y2, .int y3] [] u (fun r u2 => zr 179 20 [v0] (r.toList ++ st) u2 P)) := zr_CS k179_17 (Nat.le_add_left _ _) rfl rfl ⟨Nat.le_of_ble_eq_true rfl, Nat.succ_ne_zero _, by decide⟩ rfl
theorem k179_20 : xcd 179 20 = oIf (fun x => decide (x = 0)) 72 23 := rfl
theorem r179_20 : zr 179 20 [v0] (.int y1 :: st) u P = (if y1 = 0 then zr 179 72 [v0] st u P else zr 179 23 [v0] st u P) := zr_If k179_20
theorem k179_23 : xcd 179 23 = oAl 0 24 := rfl
theorem r179_23 : zr 179 23 [.ref a0] st u P = zr 179 24 [.ref a0] (.ref a0 :: st) u P := zr_Al k179_23 rfl
theorem k179_24 : xcd 179 24 = oGI 11 11 27 := rfl
theorem r179_24 : zr 179 24 [v0] (.ref b1 :: st) u P = (xIs u b1 11 ∧ zr 179 27 [v0] (.int (xI u b1 11) :: st) u P) := zr_GI k179_24
theorem k179_27 : xcd 179 27 = oAl 0 28 := rfl
theorem r179_27 : zr 179 27 [.ref a0] st u P = zr 179 28 [.ref a0] (.ref a0 :: st) u P := zr_Al k179_27 rfl
theorem k179_28 : xcd 179 28 = oGI 11 13 31 := rfl
theorem r179_28 : zr 179 28 [v0] (.ref b1 :: st) u P = (xIs u b1 11 ∧ zr 179 31 [v0] (.int (xI u b1 13) :: st) u P) := zr_GI k179_28
theorem k179_31 : xcd 179 31 = oB (fun x y => x - y) 32 := rfl
theorem r179_31 : zr 179 31 [v0] (.int y1 :: .int y2 :: st) u P = zr 179 32 [v0] (.int (y2 - y1) :: st) u P := zr_B k179_31
theorem k179_32 : xcd 179 32 = oI 4 33 := rfl
theorem r179_32 : zr 179 32 [v0] st u P = zr 179 33 [v0] (.int 4 :: st) u P := zr_I k179_32
theorem k179_33 : xcd 179 33 = oCmp (fun x y => decide (y ≤ x)) 59 36 := rfl
theorem r179_33 : zr 179 33 [v0] (.int y1 :: .int y2 :: st) u P = (if y1 ≤ y2 then zr 179 59 [v0] st u P else zr 179 36 [v0] st u P) := zr_Cmp k179_33
theorem k179_36 : xcd 179 36 = oAl 0 37 := rfl
theorem r179_36 : zr 179 36 [.ref a0] st u P = zr 179 37 [.ref a0] (.ref a0 :: st) u P := zr_Al k179_36 rfl
theorem k179_37 : xcd 179 37 = oI 10 39 := rfl
theorem r179_37 : zr 179 37 [v0] st u P = zr 179 39 [v0] (.int 10 :: st) u P := zr_I k179_37
theorem k179_39 : xcd 179 39 = oAl 0 40 := rfl
theorem r179_39 : zr 179 39 [.ref a0] st u P = zr 179 40 [.ref a0] (.ref a0 :: st) u P := zr_Al k179_39 rfl
theorem k179_40 : xcd 179 40 = oGI 11 14 43 := rfl
theorem r179_40 : zr 179 40 [v0] (.ref b1 :: st) u P = (xIs u b1 11 ∧ zr 179 43 [v0] (.int (xI u b1 14) :: st) u P) := zr_GI k179_40
theorem k179_43 : xcd 179 43 = oB (fun x y => x * y) 44 := rfl
theorem r179_43 : zr 179 43 [v0] (.int y1 :: .int y2 :: st) u P = zr 179 44 [v0] (.int (y2 * y1) :: st) u P := zr_B k179_43
theorem k179_44 : xcd 179 44 = oAl 0 45 := rfl
theorem r179_44 : zr 179 44 [.ref a0] st u P = zr 179 45 [.ref a0] (.ref a0 :: st) u P := zr_Al k179_44 rfl
theorem k179_45 : xcd 179 45 = oAl 0 46 := rfl
theorem r179_45 : zr 179 45 [.ref a0] st u P = zr 179 46 [.ref a0] (.ref a0 :: st) u P := zr_Al k179_45 rfl
theorem k179_46 : xcd 179 46 = oGI 11 11 49 := rfl
theorem r179_46 : zr 179 46 [v0] (.ref b1 :: st) u P = (xIs u b1 11 ∧ zr 179 49 [v0] (.int (xI u b1 11) :: st) u P) := zr_GI k179_46
theorem k179_49 : xcd 179 49 = oCalV 11 176 1 52 := rfl
theorem r179_49 : zr 179 49 [v0] (.int y1 :: .ref b8 :: st) u P = ((xIs u b8 11 ∧ xcat st ≤ 8) ∧ zr 176 0 [.ref b8, .int y1] [] u (fun r u2 => zr 179 52 [v0] (r.toList ++ st) u2 P)) := zr_CV k179_49 rfl rfl rfl ⟨Nat.le_of_ble_eq_true rfl, Nat.succ_ne_zero _, by decide⟩ rfl
theorem k179_52 : xcd 179 52 = oB (fun x y => x + y) 53 := rfl
theorem r179_52 : zr 179 52 [v0] (.int y1 :: .int y2 :: st) u P = zr 179 53 [v0] (.int (y2 + y1) :: st) u P := zr_B k179_52
theorem k179_53 : xcd 179 53 = oI 48 55 := rfl
theorem r179_53 : zr 179 53 [v0] st u P = zr 179 55 [v0] (.int 48 :: st) u P := zr_I k179_53
theorem k179_55 : xcd 179 55 = oB (fun x y => x - y) 56 := rfl
theorem r179_55 : zr 179 55 [v0] (.int y1 :: .int y2 :: st) u P = zr 179 56 [v0] (.int (y2 - y1) :: st) u P := zr_B k179_55
theorem k179_56 : xcd 179 56 = oPI 11 14 59 := rfl
theorem r179_56 : zr 179 56 [v0] (.int y1 :: .ref b1 :: st) u P = (xIs u b1 11 ∧ zr 179 59 [v0] st (xsI u b1 14 y1) P) := zr_PI k179_56
theorem k179_59 : xcd 179 59 = oAl 0 60 := rfl
theorem r179_59 : zr 179 59 [.ref a0] st u P = zr 179 60 [.ref a0] (.ref a0 :: st) u P := zr_Al k179_59 rfl
theorem k179_60 : xcd 179 60 = oDup 61 := rfl
theorem r179_60 : zr 179 60 [v0] (.ref b1 :: st) u P = zr 179 61 [v0] (.ref b1 :: .ref b1 :: st) u P := zr_DupA k179_60
theorem k179_61 : xcd 179 61 = oGI 11 11 64 := rfl
theorem r179_61 : zr 179 61 [v0] (.ref b1 :: st) u P = (xIs u b1 11 ∧ zr 179 64 [v0] (.int (xI u b1 11) :: st) u P) := zr_GI k179_61
theorem k179_64 : xcd 179 64 = oI 1 65 := rfl
theorem r179_64 : zr 179 64 [v0] st u P = zr 179 65 [v0] (.int 1 :: st) u P := zr_I k179_64
theorem k179_65 : xcd 179 65 = oB (fun x y => x + y) 66 := rfl
theorem r179_65 : zr 179 65 [v0] (.int y1 :: .int y2 :: st) u P = zr 179 66 [v0] (.int (y2 + y1) :: st) u P := zr_B k179_65
theorem k179_66 : xcd 179 66 = oPI 11 11 69 := rfl
theorem r179_66 : zr 179 66 [v0] (.int y1 :: .ref b1 :: st) u P = (xIs u b1 11 ∧ zr 179 69 [v0] st (xsI u b1 11 y1) P) := zr_PI k179_66
theorem k179_69 : xcd 179 69 = oGoto 5 := rfl
theorem r179_69 : zr 179 69 [v0] st u P = zr 179 5 [v0] st u P := zr_Goto k179_69
theorem k179_72 : xcd 179 72 = oAl 0 73 := rfl
theorem r179_72 : zr 179 72 [.ref a0] st u P = zr 179 73 [.ref a0] (.ref a0 :: st) u P := zr_Al k179_72 rfl
theorem k179_73 : xcd 179 73 = oAl 0 74 := rfl
theorem r179_73 : zr 179 73 [.ref a0] st u P = zr 179 74 [.ref a0] (.ref a0 :: st) u P := zr_Al k179_73 rfl
theorem k179_74 : xcd 179 74 = oGI 11 11 77 := rfl
theorem r179_74 : zr 179 74 [v0] (.ref b1 :: st) u P = (xIs u b1 11 ∧ zr 179 77 [v0] (.int (xI u b1 11) :: st) u P) := zr_GI k179_74
theorem k179_77 : xcd 179 77 = oAl 0 78 := rfl
theorem r179_77 : zr 179 77 [.ref a0] st u P = zr 179 78 [.ref a0] (.ref a0 :: st) u P := zr_Al k179_77 rfl
theorem k179_78 : xcd 179 78 = oGI 11 13 81 := rfl
theorem r179_78 : zr 179 78 [v0] (.ref b1 :: st) u P = (xIs u b1 11 ∧ zr 179 81 [v0] (.int (xI u b1 13) :: st) u P) := zr_GI k179_78
theorem k179_81 : xcd 179 81 = oB (fun x y => x - y) 82 := rfl
theorem r179_81 : zr 179 81 [v0] (.int y1 :: .int y2 :: st) u P = zr 179 82 [v0] (.int (y2 - y1) :: st) u P := zr_B k179_81
theorem k179_82 : xcd 179 82 = oI 4 83 := rfl
theorem r179_82 : zr 179 82 [v0] st u P = zr 179 83 [v0] (.int 4 :: st) u P := zr_I k179_82
theorem k179_83 : xcd 179 83 = oCmp (fun x y => decide (x ≤ y)) 90 86 := rfl
theorem r179_83 : zr 179 83 [v0] (.int y1 :: .int y2 :: st) u P = (if y2 ≤ y1 then zr 179 90 [v0] st u P else zr 179 86 [v0] st u P) := zr_Cmp k179_83
theorem k179_86 : xcd 179 86 = oI 0 87 := rfl
theorem r179_86 : zr 179 86 [v0] st u P = zr 179 87 [v0] (.int 0 :: st) u P := zr_I k179_86
theorem k179_87 : xcd 179 87 = oGoto 91 := rfl
theorem r179_87 : zr 179 87 [v0] st u P = zr 179 91 [v0] st u P := zr_Goto k179_87
theorem k179_90 : xcd 179 90 = oI 3 91 := rfl
theorem r179_90 : zr 179 90 [v0] st u P = zr 179 91 [v0] (.int 3 :: st) u P := zr_I k179_90
theorem k179_91 : xcd 179 91 = oPI 11 12 94 := rfl
theorem r179_91 : zr 179 91 [v0] (.int y1 :: .ref b1 :: st) u P = (xIs u b1 11 ∧ zr 179 94 [v0] st (xsI u b1 12 y1) P) := zr_PI k179_91
theorem k179_94 : xcd 179 94 = oRv 0 := rfl
theorem r179_94 : zr 179 94 [v0] [] u P = P none u := zr_Rv k179_94
theorem k180_0 : xcd 180 0 = oAl 0 1 := rfl
theorem r180_0 : zr 180 0 [.ref a0, v1] st u P = zr 180 1 [.ref a0, v1] (.ref a0 :: st) u P := zr_Al k180_0 rfl
theorem k180_1 : xcd 180 1 = oIl 1 2 := rfl
theorem r180_1 : zr 180 1 [v0, .int x1] st u P = zr 180 2 [v0, .int x1] (.int x1 :: st) u P := zr_Il k180_1 rfl
theorem k180_2 : xcd 180 2 = oI 59 4 := rfl
theorem r180_2 : zr 180 2 [v0, v1] st u P = zr 180 4 [v0, v1] (.int 59 :: st) u P := zr_I k180_2
theorem k180_4 : xcd 180 4 = oCmp (fun x y => decide (¬ x = y)) 11 7 := rfl
theorem r180_4 : zr 180 4 [v0, v1] (.int y1 :: .int y2 :: st) u P = (if ¬ y2 = y1 then zr 180 11 [v0, v1] st u P else zr 180 7 [v0, v1] st u P) := zr_Cmp k180_4
theorem k180_7 : xcd 180 7 = oI 4 8 := rfl
theorem r180_7 : zr 180 7 [v0, v1] st u P = zr 180 8 [v0, v1] (.int 4 :: st) u P := zr_I k180_7
theorem k180_8 : xcd 180 8 = oGoto 12 := rfl
theorem r180_8 : zr 180 8 [v0, v1] st u P = zr 180 12 [v0, v1] st u P := zr_Goto k180_8
theorem k180_11 : xcd 180 11 = oI 0 12 := rfl
theorem r180_11 : zr 180 11 [v0, v1] st u P = zr 180 12 [v0, v1] (.int 0 :: st) u P := zr_I k180_11
theorem k180_12 : xcd 180 12 = oPI 11 12 15 := rfl
theorem r180_12 : zr 180 12 [v0, v1] (.int y1 :: .ref b1 :: st) u P = (xIs u b1 11 ∧ zr 180 15 [v0, v1] st (xsI u b1 12 y1) P) := zr_PI k180_12
theorem k180_15 : xcd 180 15 = oIl 1 16 := rfl
theorem r180_15 : zr 180 15 [v0, .int x1] st u P = zr 180 16 [v0, .int x1] (.int x1 :: st) u P := zr_Il k180_15 rfl
theorem k180_16 : xcd 180 16 = oI 59 18 := rfl
theorem r180_16 : zr 180 16 [v0, v1] st u P = zr 180 18 [v0, v1] (.int 59 :: st) u P := zr_I k180_16
theorem k180_18 : xcd 180 18 = oCmp (fun x y => decide (¬ x = y)) 31 21 := rfl
theorem r180_18 : zr 180 18 [v0, v1] (.int y1 :: .int y2 :: st) u P = (if ¬ y2 = y1 then zr 180 31 [v0, v1] st u P else zr 180 21 [v0, v1] st u P) := zr_Cmp k180_18
theorem k180_21 : xcd 180 21 = oAl 0 22 := rfl
theorem r180_21 : zr 180 21 [.ref a0, v1] st u P = zr 180 22 [.ref a0, v1] (.ref a0 :: st) u P := zr_Al k180_21 rfl
theorem k180_22 : xcd 180 22 = oDup 23 := rfl
theorem r180_22 : zr 180 22 [v0, v1] (.ref b1 :: st) u P = zr 180 23 [v0, v1] (.ref b1 :: .ref b1 :: st) u P := zr_DupA k180_22
theorem k180_23 : xcd 180 23 = oGI 11 11 26 := rfl
theorem r180_23 : zr 180 23 [v0, v1] (.ref b1 :: st) u P = (xIs u b1 11 ∧ zr 180 26 [v0, v1] (.int (xI u b1 11) :: st) u P) := zr_GI k180_23
theorem k180_26 : xcd 180 26 = oI 1 27 := rfl
theorem r180_26 : zr 180 26 [v0, v1] st u P = zr 180 27 [v0, v1] (.int 1 :: st) u P := zr_I k180_26
theorem k180_27 : xcd 180 27 = oB (fun x y => x + y) 28 := rfl
theorem r180_27 : zr 180 27 [v0, v1] (.int y1 :: .int y2 :: st) u P = zr 180 28 [v0, v1] (.int (y2 + y1) :: st) u P := zr_B k180_27
theorem k180_28 : xcd 180 28 = oPI 11 11 31 := rfl
theorem r180_28 : zr 180 28 [v0, v1] (.int y1 :: .ref b1 :: st) u P = (xIs u b1 11 ∧ zr 180 31 [v0, v1] st (xsI u b1 11 y1) P) := zr_PI k180_28
theorem k180_31 : xcd 180 31 = oRv 0 := rfl
theorem r180_31 : zr 180 31 [v0, v1] [] u P = P none u := zr_Rv k180_31
theorem k181_0 : xcd 181 0 = oAl 0 1 := rfl
theorem r181_0 : zr 181 0 [.ref a0, v1] st u P = zr 181 1 [.ref a0, v1] (.ref a0 :: st) u P := zr_Al k181_0 rfl
theorem k181_1 : xcd 181 1 = oGI 11 15 4 := rfl
theorem r181_1 : zr 181 1 [v0, v1] (.ref b1 :: st) u P = (xIs u b1 11 ∧ zr 181 4 [v0, v1] (.int (xI u b1 15) :: st) u P) := zr_GI k181_1
theorem k181_4 : xcd 181 4 = oIf (fun x => decide (¬ x = 0)) 12 7 := rfl
theorem r181_4 : zr 181 4 [v0, v1] (.int y1 :: st) u P = (if ¬ y1 = 0 then zr 181 12 [v0, v1] st u P else zr 181 7 [v0, v1] st u P) := zr_If k181_4
theorem k181_7 : xcd 181 7 = oAl 0 8 := rfl
theorem r181_7 : zr 181 7 [.ref a0, v1] st u P = zr 181 8 [.ref a0, v1] (.ref a0 :: st) u P := zr_Al k181_7 rfl
theorem k181_8 : xcd 181 8 = oIl 1 9 := rfl
theorem r181_8 : zr 181 8 [v0, .int x1] st u P = zr 181 9 [v0, .int x1] (.int x1 :: st) u P := zr_Il k181_8 rfl
theorem k181_9 : xcd 181 9 = oPI 11 15 12 := rfl
theorem r181_9 : zr 181 9 [v0, v1] (.int y1 :: .ref b1 :: st) u P = (xIs u b1 11 ∧ zr 181 12 [v0, v1] st (xsI u b1 15 y1) P) := zr_PI k181_9
theorem k181_12 : xcd 181 12 = oAl 0 13 := rfl
theorem r181_12 : zr 181 12 [.ref a0, v1] st u P = zr 181 13 [.ref a0, v1] (.ref a0 :: st) u P := zr_Al k181_12 rfl
theorem k181_13 : xcd 181 13 = oI 0 14 := rfl
theorem r181_13 : zr 181 13 [v0, v1] st u P = zr 181 14 [v0, v1] (.int 0 :: st) u P := zr_I k181_13
theorem k181_14 : xcd 181 14 = oPI 11 12 17 := rfl
theorem r181_14 : zr 181 14 [v0, v1] (.int y1 :: .ref b1 :: st) u P = (xIs u b1 11 ∧ zr 181 17 [v0, v1] st (xsI u b1 12 y1) P) := zr_PI k181_14
theorem k181_17 : xcd 181 17 = oRv 0 := rfl
theorem r181_17 : zr 181 17 [v0, v1] [] u P = P none u := zr_Rv k181_17
theorem k182_0 : xcd 182 0 = oJ 0 1 := rfl
theorem r182_0 : zr 182 0 [v0, v1, v2, v3, v4] st u P = zr 182 1 [v0, v1, v2, v3, v4] (.long 0 :: st) u P := zr_J k182_0
theorem k182_1 : xcd 182 1 = oJs 2 2 := rfl
theorem r182_1 : zr 182 1 [v0, .ref a1, v2, v3, v4] (.long w1 :: st) u P = zr 182 2 [v0, .ref a1, .long w1, .null, v4] st u P := zr_Js k182_1 ⟨Nat.le_of_ble_eq_true rfl, rfl⟩
theorem k182_2 : xcd 182 2 = oI 0 3 := rfl
theorem r182_2 : zr 182 2 [v0, v1, v2, v3, v4] st u P = zr 182 3 [v0, v1, v2, v3, v4] (.int 0 :: st) u P := zr_I k182_2
theorem k182_3 : xcd 182 3 = oIs 4 5 := rfl
theorem r182_3 : zr 182 3 [v0, v1, v2, .null, v4] (.int y1 :: st) u P = zr 182 5 [v0, v1, v2, .null, .int y1] st u P := zr_Is k182_3 ⟨Nat.le_of_ble_eq_true rfl, rfl⟩
theorem k182_5 : xcd 182 5 = oIl 4 7 := rfl
theorem r182_5 : zr 182 5 [v0, v1, v2, v3, .int x4] st u P = zr 182 7 [v0, v1, v2, v3, .int x4] (.int x4 :: st) u P := zr_Il k182_5 rfl
theorem k182_7 : xcd 182 7 = oAl 1 8 := rfl
theorem r182_7 : zr 182 7 [v0, .ref a1, v2, v3, v4] st u P = zr 182 8 [v0, .ref a1, v2, v3, v4] (.ref a1 :: st) u P := zr_Al k182_7 rfl
theorem k182_8 : xcd 182 8 = oTl 11 := rfl
theorem r182_8 : zr 182 8 [v0, v1, v2, v3, v4] (.ref b1 :: st) u P = (((1000000 ≤ b1 ∧ b1 < 1000000 + xtexts.length) ∧ xcat st ≤ 6) ∧ zr 182 11 [v0, v1, v2, v3, v4] (.int (nI (xtxt (b1 - 1000000)).length) :: st) u P) := zr_Tl k182_8
theorem k182_11 : xcd 182 11 = oCmp (fun x y => decide (y ≤ x)) 33 14 := rfl
theorem r182_11 : zr 182 11 [v0, v1, v2, v3, v4] (.int y1 :: .int y2 :: st) u P = (if y1 ≤ y2 then zr 182 33 [v0, v1, v2, v3, v4] st u P else zr 182 14 [v0, v1, v2, v3, v4] st u P) := zr_Cmp k182_11
theorem k182_14 : xcd 182 14 = oJl 2 15 := rfl
theorem r182_14 : zr 182 14 [v0, v1, .long j2, v3, v4] st u P = zr 182 15 [v0, v1, .long j2, v3, v4] (.long j2 :: st) u P := zr_Jl k182_14 rfl
theorem k182_15 : xcd 182 15 = oI 8 17 := rfl
theorem r182_15 : zr 182 15 [v0, v1, v2, v3, v4] st u P = zr 182 17 [v0, v1, v2, v3, v4] (.int 8 :: st) u P := zr_I k182_15
theorem k182_17 : xcd 182 17 = oLshl 18 := rfl
theorem r182_17 : zr 182 17 [v0, v1, v2, v3, v4] (.int y1 :: .long w1 :: st) u P = zr 182 18 [v0, v1, v2, v3, v4] (.long (w1 <<< (y1.toInt64 &&& 63)) :: st) u P := zr_Lshl k182_17
theorem k182_18 : xcd 182 18 = oAl 1 19 := rfl
theorem r182_18 : zr 182 18 [v0, .ref a1, v2, v3, v4] st u P = zr 182 19 [v0, .ref a1, v2, v3, v4] (.ref a1 :: st) u P := zr_Al k182_18 rfl
theorem k182_19 : xcd 182 19 = oIl 4 21 := rfl
theorem r182_19 : zr 182 19 [v0, v1, v2, v3, .int x4] st u P = zr 182 21 [v0, v1, v2, v3, .int x4] (.int x4 :: st) u P := zr_Il k182_19 rfl
theorem k182_21 : xcd 182 21 = oTc 24 := rfl
theorem r182_21 : zr 182 21 [v0, v1, v2, v3, v4] (.int y1 :: .ref b1 :: st) u P = ((((1000000 ≤ b1 ∧ b1 < 1000000 + xtexts.length) ∧ xcat st ≤ 6) ∧ (0 ≤ y1 ∧ y1.toNatClampNeg < (xtxt (b1 - 1000000)).length)) ∧ zr 182 24 [v0, v1, v2, v3, v4] (.int (nI ((xtxt (b1 - 1000000)).getD y1.toNatClampNeg 0)) :: st) u P) := zr_Tc k182_21
theorem k182_24 : xcd 182 24 = oI2l 25 := rfl
theorem r182_24 : zr 182 24 [v0, v1, v2, v3, v4] (.int y1 :: st) u P = zr 182 25 [v0, v1, v2, v3, v4] (.long y1.toInt64 :: st) u P := zr_I2l k182_24
theorem k182_25 : xcd 182 25 = oLB (fun x y => x ||| y) 26 := rfl
theorem r182_25 : zr 182 25 [v0, v1, v2, v3, v4] (.long w1 :: .long w2 :: st) u P = zr 182 26 [v0, v1, v2, v3, v4] (.long (w2 ||| w1) :: st) u P := zr_LB k182_25
theorem k182_26 : xcd 182 26 = oJs 2 27 := rfl
theorem r182_26 : zr 182 26 [v0, .ref a1, v2, v3, v4] (.long w1 :: st) u P = zr 182 27 [v0, .ref a1, .long w1, .null, v4] st u P := zr_Js k182_26 ⟨Nat.le_of_ble_eq_true rfl, rfl⟩
theorem k182_27 : xcd 182 27 = oInc 4 1 30 := rfl
theorem r182_27 : zr 182 27 [v0, v1, v2, .null, .int x4] st u P = zr 182 30 [v0, v1, v2, .null, .int (x4 + 1)] st u P := zr_Inc k182_27 rfl rfl
theorem k182_30 : xcd 182 30 = oGoto 5 := rfl
theorem r182_30 : zr 182 30 [v0, v1, v2, v3, v4] st u P = zr 182 5 [v0, v1, v2, v3, v4] st u P := zr_Goto k182_30
theorem k182_33 : xcd 182 33 = oAl 0 34 := rfl
theorem r182_33 : zr 182 33 [.ref a0, v1, v2, v3, v4] st u P = zr 182 34 [.ref a0, v1, v2, v3, v4] (.ref a0 :: st) u P := zr_Al k182_33 rfl
theorem k182_34 : xcd 182 34 = oGI 11 12 37 := rfl
theorem r182_34 : zr 182 34 [v0, v1, v2, v3, v4] (.ref b1 :: st) u P = (xIs u b1 11 ∧ zr 182 37 [v0, v1, v2, v3, v4] (.int (xI u b1 12) :: st) u P) := zr_GI k182_34
theorem k182_37 : xcd 182 37 = oI 2 38 := rfl
theorem r182_37 : zr 182 37 [v0, v1, v2, v3, v4] st u P = zr 182 38 [v0, v1, v2, v3, v4] (.int 2 :: st) u P := zr_I k182_37
theorem k182_38 : xcd 182 38 = oCmp (fun x y => decide (¬ x = y)) 54 41 := rfl
theorem r182_38 : zr 182 38 [v0, v1, v2, v3, v4] (.int y1 :: .int y2 :: st) u P = (if ¬ y2 = y1 then zr 182 54 [v0, v1, v2, v3, v4] st u P else zr 182 41 [v0, v1, v2, v3, v4] st u P) := zr_Cmp k182_38
theorem k182_41 : xcd 182 41 = oAl 0 42 := rfl
theorem r182_41 : zr 182 41 [.ref a0, v1, v2, v3, v4] st u P = zr 182 42 [.ref a0, v1, v2, v3, v4] (.ref a0 :: st) u P := zr_Al k182_41 rfl
theorem k182_42 : xcd 182 42 = oGJ 11 16 45 := rfl
theorem r182_42 : zr 182 42 [v0, v1, v2, v3, v4] (.ref b1 :: st) u P = (xIs u b1 11 ∧ zr 182 45 [v0, v1, v2, v3, v4] (.long (xJ u b1 16) :: st) u P) := zr_GJ k182_42
theorem k182_45 : xcd 182 45 = oJl 2 46 := rfl
theorem r182_45 : zr 182 45 [v0, v1, .long j2, v3, v4] st u P = zr 182 46 [v0, v1, .long j2, v3, v4] (.long j2 :: st) u P := zr_Jl k182_45 rfl
theorem k182_46 : xcd 182 46 = oLcmp 47 := rfl
theorem r182_46 : zr 182 46 [v0, v1, v2, v3, v4] (.long w1 :: .long w2 :: st) u P = zr 182 47 [v0, v1, v2, v3, v4] (.int (lg_cmp w2 w1) :: st) u P := zr_Lcmp k182_46
theorem k182_47 : xcd 182 47 = oIf (fun x => decide (¬ x = 0)) 54 50 := rfl
theorem r182_47 : zr 182 47 [v0, v1, v2, v3, v4] (.int y1 :: st) u P = (if ¬ y1 = 0 then zr 182 54 [v0, v1, v2, v3, v4] st u P else zr 182 50 [v0, v1, v2, v3, v4] st u P) := zr_If k182_47
theorem k182_50 : xcd 182 50 = oI 1 51 := rfl
theorem r182_50 : zr 182 50 [v0, v1, v2, v3, v4] st u P = zr 182 51 [v0, v1, v2, v3, v4] (.int 1 :: st) u P := zr_I k182_50
theorem k182_51 : xcd 182 51 = oGoto 55 := rfl
theorem r182_51 : zr 182 51 [v0, v1, v2, v3, v4] st u P = zr 182 55 [v0, v1, v2, v3, v4] st u P := zr_Goto k182_51
theorem k182_54 : xcd 182 54 = oI 0 55 := rfl
theorem r182_54 : zr 182 54 [v0, v1, v2, v3, v4] st u P = zr 182 55 [v0, v1, v2, v3, v4] (.int 0 :: st) u P := zr_I k182_54
theorem k182_55 : xcd 182 55 = oRz 0 := rfl
theorem r182_55 : zr 182 55 [v0, v1, v2, v3, v4] [.int y1] u P = ((y1 = 0 ∨ y1 = 1) ∧ P (some (.int y1)) u) := zr_Rz k182_55
theorem k183_0 : xcd 183 0 = oAl 0 1 := rfl
theorem r183_0 : zr 183 0 [.ref a0, v1, v2] st u P = zr 183 1 [.ref a0, v1, v2] (.ref a0 :: st) u P := zr_Al k183_0 rfl
theorem k183_1 : xcd 183 1 = oAl 1 2 := rfl
theorem r183_1 : zr 183 1 [v0, .ref a1, v2] st u P = zr 183 2 [v0, .ref a1, v2] (.ref a1 :: st) u P := zr_Al k183_1 rfl
theorem k183_2 : xcd 183 2 = oCalV 11 182 1 5 := rfl
theorem r183_2 : zr 183 2 [v0, v1, v2] (.ref b1 :: .ref b8 :: st) u P = ((xIs u b8 11 ∧ xcat st ≤ 8) ∧ zr 182 0 [.ref b8, .ref b1, .null, .null, .null] [] u (fun r u2 => zr 183 5 [v0, v1, v2] (r.toList ++ st) u2 P)) := zr_CV k183_2 rfl rfl rfl ⟨Nat.le_of_ble_eq_true rfl, Nat.succ_ne_zero _, by decide⟩ rfl
theorem k183_5 : xcd 183 5 = oIs 2 6 := rfl
theorem r183_5 : zr 183 5 [v0, .ref a1, v2] (.int y1 :: st) u P = zr 183 6 [v0, .ref a1, .int y1] st u P := zr_Is k183_5 ⟨Nat.le_of_ble_eq_true rfl, rfl⟩
theorem k183_6 : xcd 183 6 = oIl 2 7 := rfl
theorem r183_6 : zr 183 6 [v0, v1, .int x2] st u P = zr 183 7 [v0, v1, .int x2] (.int x2 :: st) u P := zr_Il k183_6 rfl
theorem k183_7 : xcd 183 7 = oIf (fun x => decide (x = 0)) 14 10 := rfl
theorem r183_7 : zr 183 7 [v0, v1, v2] (.int y1 :: st) u P = (if y1 = 0 then zr 183 14 [v0, v1, v2] st u P else zr 183 10 [v0, v1, v2] st u P) := zr_If k183_7
theorem k183_10 : xcd 183 10 = oAl 0 11 := rfl
theorem r183_10 : zr 183 10 [.ref a0, v1, v2] st u P = zr 183 11 [.ref a0, v1, v2] (.ref a0 :: st) u P := zr_Al k183_10 rfl
theorem k183_11 : xcd 183 11 = oCalV 11 177 0 14 := rfl
theorem r183_11 : zr 183 11 [v0, v1, v2] (.ref b8 :: st) u P = ((xIs u b8 11 ∧ xcat st ≤ 8) ∧ zr 177 0 [.ref b8, .null] [] u (fun r u2 => zr 183 14 [v0, v1, v2] (r.toList ++ st) u2 P)) := zr_CV k183_11 rfl rfl rfl ⟨Nat.le_of_ble_eq_true rfl, Nat.succ_ne_zero _, by decide⟩ rfl
theorem k183_14 : xcd 183 14 = oIl 2 15 := rfl
theorem r183_14 : zr 183 14 [v0, v1, .int x2] st u P = zr 183 15 [v0, v1, .int x2] (.int x2 :: st) u P := zr_Il k183_14 rfl
theorem k183_15 : xcd 183 15 = oRz 0 := rfl
theorem r183_15 : zr 183 15 [v0, v1, v2] [.int y1] u P = ((y1 = 0 ∨ y1 = 1) ∧ P (some (.int y1)) u) := zr_Rz k183_15
theorem k184_0 : xcd 184 0 = oAl 0 1 := rfl
theorem r184_0 : zr 184 0 [.ref a0, v1, v2, v3] st u P = zr 184 1 [.ref a0, v1, v2, v3] (.ref a0 :: st) u P := zr_Al k184_0 rfl
theorem k184_1 : xcd 184 1 = oGI 11 12 4 := rfl
theorem r184_1 : zr 184 1 [v0, v1, v2, v3] (.ref b1 :: st) u P = (xIs u b1 11 ∧ zr 184 4 [v0, v1, v2, v3] (.int (xI u b1 12) :: st) u P) := zr_GI k184_1
theorem k184_4 : xcd 184 4 = oI 3 5 := rfl
theorem r184_4 : zr 184 4 [v0, v1, v2, v3] st u P = zr 184 5 [v0, v1, v2, v3] (.int 3 :: st) u P := zr_I k184_4
theorem k184_5 : xcd 184 5 = oCmp (fun x y => decide (x = y)) 16 8 := rfl
theorem r184_5 : zr 184 5 [v0, v1, v2, v3] (.int y1 :: .int y2 :: st) u P = (if y2 = y1 then zr 184 16 [v0, v1, v2, v3] st u P else zr 184 8 [v0, v1, v2, v3] st u P) := zr_Cmp k184_5
theorem k184_8 : xcd 184 8 = oAl 0 9 := rfl
theorem r184_8 : zr 184 8 [.ref a0, v1, v2, v3] st u P = zr 184 9 [.ref a0, v1, v2, v3] (.ref a0 :: st) u P := zr_Al k184_8 rfl
theorem k184_9 : xcd 184 9 = oI 1 10 := rfl
theorem r184_9 : zr 184 9 [v0, v1, v2, v3] st u P = zr 184 10 [v0, v1, v2, v3] (.int 1 :: st) u P := zr_I k184_9
theorem k184_10 : xcd 184 10 = oCalV 11 181 1 13 := rfl
theorem r184_10 : zr 184 10 [v0, v1, v2, v3] (.int y1 :: .ref b8 :: st) u P = ((xIs u b8 11 ∧ xcat st ≤ 8) ∧ zr 181 0 [.ref b8, .int y1] [] u (fun r u2 => zr 184 13 [v0, v1, v2, v3] (r.toList ++ st) u2 P)) := zr_CV k184_10 rfl rfl rfl ⟨Nat.le_of_ble_eq_true rfl, Nat.succ_ne_zero _, by decide⟩ rfl
theorem k184_13 : xcd 184 13 = oGoto 33 := rfl
theorem r184_13 : zr 184 13 [v0, v1, v2, v3] st u P = zr 184 33 [v0, v1, v2, v3] st u P := zr_Goto k184_13
theorem k184_16 : xcd 184 16 = oAl 0 17 := rfl
theorem r184_16 : zr 184 16 [.ref a0, v1, v2, v3] st u P = zr 184 17 [.ref a0, v1, v2, v3] (.ref a0 :: st) u P := zr_Al k184_16 rfl
theorem k184_17 : xcd 184 17 = oGI 11 14 20 := rfl
theorem r184_17 : zr 184 17 [v0, v1, v2, v3] (.ref b1 :: st) u P = (xIs u b1 11 ∧ zr 184 20 [v0, v1, v2, v3] (.int (xI u b1 14) :: st) u P) := zr_GI k184_17
theorem k184_20 : xcd 184 20 = oIl 1 21 := rfl
theorem r184_20 : zr 184 20 [v0, .int x1, v2, v3] st u P = zr 184 21 [v0, .int x1, v2, v3] (.int x1 :: st) u P := zr_Il k184_20 rfl
theorem k184_21 : xcd 184 21 = oIl 2 22 := rfl
theorem r184_21 : zr 184 21 [v0, v1, .int x2, v3] st u P = zr 184 22 [v0, v1, .int x2, v3] (.int x2 :: st) u P := zr_Il k184_21 rfl
theorem k184_22 : xcd 184 22 = oCal 175 3 25 := rfl
theorem r184_22 : zr 184 22 [v0, v1, v2, v3] (.int y3 :: .int y2 :: .int y1 :: st) u P = (xcat st ≤ 8 ∧ zr 175 0 [.int y1, .int y2, .int y3] [] u (fun r u2 => zr 184 25 [v0, v1, v2, v3] (r.toList ++ st) u2 P)) := zr_CS k184_22 (Nat.le_add_left _ _) rfl rfl ⟨Nat.le_of_ble_eq_true rfl, Nat.succ_ne_zero _, by decide⟩ rfl
theorem k184_25 : xcd 184 25 = oIf (fun x => decide (¬ x = 0)) 33 28 := rfl
theorem r184_25 : zr 184 25 [v0, v1, v2, v3] (.int y1 :: st) u P = (if ¬ y1 = 0 then zr 184 33 [v0, v1, v2, v3] st u P else zr 184 28 [v0, v1, v2, v3] st u P) := zr_If k184_25
theorem k184_28 : xcd 184 28 = oAl 0 29 := rfl
theorem r184_28 : zr 184 28 [.ref a0, v1, v2, v3] st u P = zr 184 29 [.ref a0, v1, v2, v3] (.ref a0 :: st) u P := zr_Al k184_28 rfl
theorem k184_29 : xcd 184 29 = oI 4 30 := rfl
theorem r184_29 : zr 184 29 [v0, v1, v2, v3] st u P = zr 184 30 [v0, v1, v2, v3] (.int 4 :: st) u P := zr_I k184_29
theorem k184_30 : xcd 184 30 = oCalV 11 181 1 33 := rfl
theorem r184_30 : zr 184 30 [v0, v1, v2, v3] (.int y1 :: .ref b8 :: st) u P = ((xIs u b8 11 ∧ xcat st ≤ 8) ∧ zr 181 0 [.ref b8, .int y1] [] u (fun r u2 => zr 184 33 [v0, v1, v2, v3] (r.toList ++ st) u2 P)) := zr_CV k184_30 rfl rfl rfl ⟨Nat.le_of_ble_eq_true rfl, Nat.succ_ne_zero _, by decide⟩ rfl
theorem k184_33 : xcd 184 33 = oAl 0 34 := rfl
theorem r184_33 : zr 184 33 [.ref a0, v1, v2, v3] st u P = zr 184 34 [.ref a0, v1, v2, v3] (.ref a0 :: st) u P := zr_Al k184_33 rfl
theorem k184_34 : xcd 184 34 = oGI 11 14 37 := rfl
theorem r184_34 : zr 184 34 [v0, v1, v2, v3] (.ref b1 :: st) u P = (xIs u b1 11 ∧ zr 184 37 [v0, v1, v2, v3] (.int (xI u b1 14) :: st) u P) := zr_GI k184_34
theorem k184_37 : xcd 184 37 = oIs 3 38 := rfl
theorem r184_37 : zr 184 37 [v0, v1, .int x2, v3] (.int y1 :: st) u P = zr 184 38 [v0, v1, .int x2, .int y1] st u P := zr_Is k184_37 ⟨Nat.le_of_ble_eq_true rfl, rfl⟩
theorem k184_38 : xcd 184 38 = oAl 0 39 := rfl
theorem r184_38 : zr 184 38 [.ref a0, v1, v2, v3] st u P = zr 184 39 [.ref a0, v1, v2, v3] (.ref a0 :: st) u P := zr_Al k184_38 rfl
theorem k184_39 : xcd 184 39 = oCalV 11 177 0 42 := rfl
theorem r184_39 : zr 184 39 [v0, v1, v2, v3] (.ref b8 :: st) u P = ((xIs u b8 11 ∧ xcat st ≤ 8) ∧ zr 177 0 [.ref b8, .null] [] u (fun r u2 => zr 184 42 [v0, v1, v2, v3] (r.toList ++ st) u2 P)) := zr_CV k184_39 rfl rfl rfl ⟨Nat.le_of_ble_eq_true rfl, Nat.succ_ne_zero _, by decide⟩ rfl
theorem k184_42 : xcd 184 42 = oAl 0 43 := rfl
theorem r184_42 : zr 184 42 [.ref a0, v1, v2, v3] st u P = zr 184 43 [.ref a0, v1, v2, v3] (.ref a0 :: st) u P := zr_Al k184_42 rfl
theorem k184_43 : xcd 184 43 = oGI 11 15 46 := rfl
theorem r184_43 : zr 184 43 [v0, v1, v2, v3] (.ref b1 :: st) u P = (xIs u b1 11 ∧ zr 184 46 [v0, v1, v2, v3] (.int (xI u b1 15) :: st) u P) := zr_GI k184_43
theorem k184_46 : xcd 184 46 = oIf (fun x => decide (x ≤ 0)) 53 49 := rfl
theorem r184_46 : zr 184 46 [v0, v1, v2, v3] (.int y1 :: st) u P = (if y1 ≤ 0 then zr 184 53 [v0, v1, v2, v3] st u P else zr 184 49 [v0, v1, v2, v3] st u P) := zr_If k184_46
theorem k184_49 : xcd 184 49 = oIl 1 50 := rfl
theorem r184_49 : zr 184 49 [v0, .int x1, v2, v3] st u P = zr 184 50 [v0, .int x1, v2, v3] (.int x1 :: st) u P := zr_Il k184_49 rfl
theorem k184_50 : xcd 184 50 = oGoto 54 := rfl
theorem r184_50 : zr 184 50 [v0, v1, v2, v3] st u P = zr 184 54 [v0, v1, v2, v3] st u P := zr_Goto k184_50
theorem k184_53 : xcd 184 53 = oIl 3 54 := rfl
theorem r184_53 : zr 184 53 [v0, v1, v2, .int x3] st u P = zr 184 54 [v0, v1, v2, .int x3] (.int x3 :: st) u P := zr_Il k184_53 rfl
theorem k184_54 : xcd 184 54 = oRi 0 := rfl
theorem r184_54 : zr 184 54 [v0, v1, v2, v3] [.int y1] u P = P (some (.int y1)) u := zr_Ri k184_54
theorem k185_0 : xcd 185 0 = oAl 0 1 := rfl
theorem r185_0 : zr 185 0 [.ref a0, v1, v2, v3] st u P = zr 185 1 [.ref a0, v1, v2, v3] (.ref a0 :: st) u P := zr_Al k185_0 rfl
theorem k185_1 : xcd 185 1 = oAl 1 2 := rfl
theorem r185_1 : zr 185 1 [v0, .ref a1, v2, v3] st u P = zr 185 2 [v0, .ref a1, v2, v3] (.ref a1 :: st) u P := zr_Al k185_1 rfl
theorem k185_2 : xcd 185 2 = oCalV 11 183 1 5 := rfl
theorem r185_2 : zr 185 2 [v0, v1, v2, v3] (.ref b1 :: .ref b8 :: st) u P = ((xIs u b8 11 ∧ xcat st ≤ 8) ∧ zr 183 0 [.ref b8, .ref b1, .null] [] u (fun r u2 => zr 185 5 [v0, v1, v2, v3] (r.toList ++ st) u2 P)) := zr_CV k185_2 rfl rfl rfl ⟨Nat.le_of_ble_eq_true rfl, Nat.succ_ne_zero _, by decide⟩ rfl
theorem k185_5 : xcd 185 5 = oIf (fun x => decide (¬ x = 0)) 13 8 := rfl
theorem r185_5 : zr 185 5 [v0, v1, v2, v3] (.int y1 :: st) u P = (if ¬ y1 = 0 then zr 185 13 [v0, v1, v2, v3] st u P else zr 185 8 [v0, v1, v2, v3] st u P) := zr_If k185_5
theorem k185_8 : xcd 185 8 = oAl 0 9 := rfl
theorem r185_8 : zr 185 8 [.ref a0, v1, v2, v3] st u P = zr 185 9 [.ref a0, v1, v2, v3] (.ref a0 :: st) u P := zr_Al k185_8 rfl
theorem k185_9 : xcd 185 9 = oI 1 10 := rfl
theorem r185_9 : zr 185 9 [v0, v1, v2, v3] st u P = zr 185 10 [v0, v1, v2, v3] (.int 1 :: st) u P := zr_I k185_9
theorem k185_10 : xcd 185 10 = oCalV 11 181 1 13 := rfl
theorem r185_10 : zr 185 10 [v0, v1, v2, v3] (.int y1 :: .ref b8 :: st) u P = ((xIs u b8 11 ∧ xcat st ≤ 8) ∧ zr 181 0 [.ref b8, .int y1] [] u (fun r u2 => zr 185 13 [v0, v1, v2, v3] (r.toList ++ st) u2 P)) := zr_CV k185_10 rfl rfl rfl ⟨Nat.le_of_ble_eq_true rfl, Nat.succ_ne_zero _, by decide⟩ rfl
theorem k185_13 : xcd 185 13 = oAl 0 14 := rfl
theorem r185_13 : zr 185 13 [.ref a0, v1, v2, v3] st u P = zr 185 14 [.ref a0, v1, v2, v3] (.ref a0 :: st) u P := zr_Al k185_13 rfl
theorem k185_14 : xcd 185 14 = oIl 2 15 := rfl
theorem r185_14 : zr 185 14 [v0, v1, .int x2, v3] st u P = zr 185 15 [v0, v1, .int x2, v3] (.int x2 :: st) u P := zr_Il k185_14 rfl
theorem k185_15 : xcd 185 15 = oIl 3 16 := rfl
theorem r185_15 : zr 185 15 [v0, v1, v2, .int x3] st u P = zr 185 16 [v0, v1, v2, .int x3] (.int x3 :: st) u P := zr_Il k185_15 rfl
theorem k185_16 : xcd 185 16 = oCalV 11 184 2 19 := rfl
theorem r185_16 : zr 185 16 [v0, v1, v2, v3] (.int y2 :: .int y1 :: .ref b8 :: st) u P = ((xIs u b8 11 ∧ xcat st ≤ 8) ∧ zr 184 0 [.ref b8, .int y1, .int y2, .null] [] u (fun r u2 => zr 185 19 [v0, v1, v2, v3] (r.toList ++ st) u2 P)) := zr_CV k185_16 rfl rfl rfl ⟨Nat.le_of_ble_eq_true rfl, Nat.succ_ne_zero _, by decide⟩ rfl
theorem k185_19 : xcd 185 19 = oRi 0 := rfl
theorem r185_19 : zr 185 19 [v0, v1, v2, v3] [.int y1] u P = P (some (.int y1)) u := zr_Ri k185_19
theorem k186_0 : xcd 186 0 = oAl 0 1 := rfl
theorem r186_0 : zr 186 0 [.ref a0] st u P = zr 186 1 [.ref a0] (.ref a0 :: st) u P := zr_Al k186_0 rfl
theorem k186_1 : xcd 186 1 = oGI 11 12 4 := rfl
theorem r186_1 : zr 186 1 [v0] (.ref b1 :: st) u P = (xIs u b1 11 ∧ zr 186 4 [v0] (.int (xI u b1 12) :: st) u P) := zr_GI k186_1
theorem k186_4 : xcd 186 4 = oI 2 5 := rfl
theorem r186_4 : zr 186 4 [v0] st u P = zr 186 5 [v0] (.int 2 :: st) u P := zr_I k186_4
theorem k186_5 : xcd 186 5 = oCmp (fun x y => decide (¬ x = y)) 102 8 := rfl
theorem r186_5 : zr 186 5 [v0] (.int y1 :: .int y2 :: st) u P = (if ¬ y2 = y1 then zr 186 102 [v0] st u P else zr 186 8 [v0] st u P) := zr_Cmp k186_5
theorem k186_8 : xcd 186 8 = oAl 0 9 := rfl
theorem r186_8 : zr 186 8 [.ref a0] st u P = zr 186 9 [.ref a0] (.ref a0 :: st) u P := zr_Al k186_8 rfl
theorem k186_9 : xcd 186 9 = oS 0 11 := rfl
theorem r186_9 : zr 186 9 [v0] st u P = zr 186 11 [v0] (.ref 1000000 :: st) u P := zr_S k186_9
theorem k186_11 : xcd 186 11 = oCalV 11 182 1 14 := rfl
theorem r186_11 : zr 186 11 [v0] (.ref b1 :: .ref b8 :: st) u P = ((xIs u b8 11 ∧ xcat st ≤ 8) ∧ zr 182 0 [.ref b8, .ref b1, .null, .null, .null] [] u (fun r u2 => zr 186 14 [v0] (r.toList ++ st) u2 P)) := zr_CV k186_11 rfl rfl rfl ⟨Nat.le_of_ble_eq_true rfl, Nat.succ_ne_zero _, by decide⟩ rfl
theorem k186_14 : xcd 186 14 = oIf (fun x => decide (¬ x = 0)) 102 17 := rfl
theorem r186_14 : zr 186 14 [v0] (.int y1 :: st) u P = (if ¬ y1 = 0 then zr 186 102 [v0] st u P else zr 186 17 [v0] st u P) := zr_If k186_14
theorem k186_17 : xcd 186 17 = oAl 0 18 := rfl
theorem r186_17 : zr 186 17 [.ref a0] st u P = zr 186 18 [.ref a0] (.ref a0 :: st) u P := zr_Al k186_17 rfl
theorem k186_18 : xcd 186 18 = oS 1 20 := rfl
theorem r186_18 : zr 186 18 [v0] st u P = zr 186 20 [v0] (.ref 1000001 :: st) u P := zr_S k186_18
theorem k186_20 : xcd 186 20 = oCalV 11 182 1 23 := rfl
theorem r186_20 : zr 186 20 [v0] (.ref b1 :: .ref b8 :: st) u P = ((xIs u b8 11 ∧ xcat st ≤ 8) ∧ zr 182 0 [.ref b8, .ref b1, .null, .null, .null] [] u (fun r u2 => zr 186 23 [v0] (r.toList ++ st) u2 P)) := zr_CV k186_20 rfl rfl rfl ⟨Nat.le_of_ble_eq_true rfl, Nat.succ_ne_zero _, by decide⟩ rfl
theorem k186_23 : xcd 186 23 = oIf (fun x => decide (¬ x = 0)) 102 26 := rfl
theorem r186_23 : zr 186 23 [v0] (.int y1 :: st) u P = (if ¬ y1 = 0 then zr 186 102 [v0] st u P else zr 186 26 [v0] st u P) := zr_If k186_23
theorem k186_26 : xcd 186 26 = oAl 0 27 := rfl
theorem r186_26 : zr 186 26 [.ref a0] st u P = zr 186 27 [.ref a0] (.ref a0 :: st) u P := zr_Al k186_26 rfl
theorem k186_27 : xcd 186 27 = oS 2 29 := rfl
theorem r186_27 : zr 186 27 [v0] st u P = zr 186 29 [v0] (.ref 1000002 :: st) u P := zr_S k186_27
theorem k186_29 : xcd 186 29 = oCalV 11 182 1 32 := rfl
theorem r186_29 : zr 186 29 [v0] (.ref b1 :: .ref b8 :: st) u P = ((xIs u b8 11 ∧ xcat st ≤ 8) ∧ zr 182 0 [.ref b8, .ref b1, .null, .null, .null] [] u (fun r u2 => zr 186 32 [v0] (r.toList ++ st) u2 P)) := zr_CV k186_29 rfl rfl rfl ⟨Nat.le_of_ble_eq_true rfl, Nat.succ_ne_zero _, by decide⟩ rfl
theorem k186_32 : xcd 186 32 = oIf (fun x => decide (¬ x = 0)) 102 35 := rfl
theorem r186_32 : zr 186 32 [v0] (.int y1 :: st) u P = (if ¬ y1 = 0 then zr 186 102 [v0] st u P else zr 186 35 [v0] st u P) := zr_If k186_32
theorem k186_35 : xcd 186 35 = oAl 0 36 := rfl
theorem r186_35 : zr 186 35 [.ref a0] st u P = zr 186 36 [.ref a0] (.ref a0 :: st) u P := zr_Al k186_35 rfl
theorem k186_36 : xcd 186 36 = oS 3 38 := rfl
theorem r186_36 : zr 186 36 [v0] st u P = zr 186 38 [v0] (.ref 1000003 :: st) u P := zr_S k186_36
theorem k186_38 : xcd 186 38 = oCalV 11 182 1 41 := rfl
theorem r186_38 : zr 186 38 [v0] (.ref b1 :: .ref b8 :: st) u P = ((xIs u b8 11 ∧ xcat st ≤ 8) ∧ zr 182 0 [.ref b8, .ref b1, .null, .null, .null] [] u (fun r u2 => zr 186 41 [v0] (r.toList ++ st) u2 P)) := zr_CV k186_38 rfl rfl rfl ⟨Nat.le_of_ble_eq_true rfl, Nat.succ_ne_zero _, by decide⟩ rfl
theorem k186_41 : xcd 186 41 = oIf (fun x => decide (¬ x = 0)) 102 44 := rfl
theorem r186_41 : zr 186 41 [v0] (.int y1 :: st) u P = (if ¬ y1 = 0 then zr 186 102 [v0] st u P else zr 186 44 [v0] st u P) := zr_If k186_41
theorem k186_44 : xcd 186 44 = oAl 0 45 := rfl
theorem r186_44 : zr 186 44 [.ref a0] st u P = zr 186 45 [.ref a0] (.ref a0 :: st) u P := zr_Al k186_44 rfl
theorem k186_45 : xcd 186 45 = oS 4 47 := rfl
theorem r186_45 : zr 186 45 [v0] st u P = zr 186 47 [v0] (.ref 1000004 :: st) u P := zr_S k186_45
theorem k186_47 : xcd 186 47 = oCalV 11 182 1 50 := rfl
theorem r186_47 : zr 186 47 [v0] (.ref b1 :: .ref b8 :: st) u P = ((xIs u b8 11 ∧ xcat st ≤ 8) ∧ zr 182 0 [.ref b8, .ref b1, .null, .null, .null] [] u (fun r u2 => zr 186 50 [v0] (r.toList ++ st) u2 P)) := zr_CV k186_47 rfl rfl rfl ⟨Nat.le_of_ble_eq_true rfl, Nat.succ_ne_zero _, by decide⟩ rfl
theorem k186_50 : xcd 186 50 = oIf (fun x => decide (¬ x = 0)) 102 53 := rfl
theorem r186_50 : zr 186 50 [v0] (.int y1 :: st) u P = (if ¬ y1 = 0 then zr 186 102 [v0] st u P else zr 186 53 [v0] st u P) := zr_If k186_50
theorem k186_53 : xcd 186 53 = oAl 0 54 := rfl
theorem r186_53 : zr 186 53 [.ref a0] st u P = zr 186 54 [.ref a0] (.ref a0 :: st) u P := zr_Al k186_53 rfl
theorem k186_54 : xcd 186 54 = oS 5 56 := rfl
theorem r186_54 : zr 186 54 [v0] st u P = zr 186 56 [v0] (.ref 1000005 :: st) u P := zr_S k186_54
theorem k186_56 : xcd 186 56 = oCalV 11 182 1 59 := rfl
theorem r186_56 : zr 186 56 [v0] (.ref b1 :: .ref b8 :: st) u P = ((xIs u b8 11 ∧ xcat st ≤ 8) ∧ zr 182 0 [.ref b8, .ref b1, .null, .null, .null] [] u (fun r u2 => zr 186 59 [v0] (r.toList ++ st) u2 P)) := zr_CV k186_56 rfl rfl rfl ⟨Nat.le_of_ble_eq_true rfl, Nat.succ_ne_zero _, by decide⟩ rfl
theorem k186_59 : xcd 186 59 = oIf (fun x => decide (¬ x = 0)) 102 62 := rfl
theorem r186_59 : zr 186 59 [v0] (.int y1 :: st) u P = (if ¬ y1 = 0 then zr 186 102 [v0] st u P else zr 186 62 [v0] st u P) := zr_If k186_59
theorem k186_62 : xcd 186 62 = oAl 0 63 := rfl
theorem r186_62 : zr 186 62 [.ref a0] st u P = zr 186 63 [.ref a0] (.ref a0 :: st) u P := zr_Al k186_62 rfl
theorem k186_63 : xcd 186 63 = oS 6 65 := rfl
theorem r186_63 : zr 186 63 [v0] st u P = zr 186 65 [v0] (.ref 1000006 :: st) u P := zr_S k186_63
theorem k186_65 : xcd 186 65 = oCalV 11 182 1 68 := rfl
theorem r186_65 : zr 186 65 [v0] (.ref b1 :: .ref b8 :: st) u P = ((xIs u b8 11 ∧ xcat st ≤ 8) ∧ zr 182 0 [.ref b8, .ref b1, .null, .null, .null] [] u (fun r u2 => zr 186 68 [v0] (r.toList ++ st) u2 P)) := zr_CV k186_65 rfl rfl rfl ⟨Nat.le_of_ble_eq_true rfl, Nat.succ_ne_zero _, by decide⟩ rfl
theorem k186_68 : xcd 186 68 = oIf (fun x => decide (¬ x = 0)) 102 71 := rfl
theorem r186_68 : zr 186 68 [v0] (.int y1 :: st) u P = (if ¬ y1 = 0 then zr 186 102 [v0] st u P else zr 186 71 [v0] st u P) := zr_If k186_68
theorem k186_71 : xcd 186 71 = oAl 0 72 := rfl
theorem r186_71 : zr 186 71 [.ref a0] st u P = zr 186 72 [.ref a0] (.ref a0 :: st) u P := zr_Al k186_71 rfl
theorem k186_72 : xcd 186 72 = oS 7 74 := rfl
theorem r186_72 : zr 186 72 [v0] st u P = zr 186 74 [v0] (.ref 1000007 :: st) u P := zr_S k186_72
theorem k186_74 : xcd 186 74 = oCalV 11 182 1 77 := rfl
theorem r186_74 : zr 186 74 [v0] (.ref b1 :: .ref b8 :: st) u P = ((xIs u b8 11 ∧ xcat st ≤ 8) ∧ zr 182 0 [.ref b8, .ref b1, .null, .null, .null] [] u (fun r u2 => zr 186 77 [v0] (r.toList ++ st) u2 P)) := zr_CV k186_74 rfl rfl rfl ⟨Nat.le_of_ble_eq_true rfl, Nat.succ_ne_zero _, by decide⟩ rfl
theorem k186_77 : xcd 186 77 = oIf (fun x => decide (¬ x = 0)) 102 80 := rfl
theorem r186_77 : zr 186 77 [v0] (.int y1 :: st) u P = (if ¬ y1 = 0 then zr 186 102 [v0] st u P else zr 186 80 [v0] st u P) := zr_If k186_77
theorem k186_80 : xcd 186 80 = oAl 0 81 := rfl
theorem r186_80 : zr 186 80 [.ref a0] st u P = zr 186 81 [.ref a0] (.ref a0 :: st) u P := zr_Al k186_80 rfl
theorem k186_81 : xcd 186 81 = oS 8 83 := rfl
theorem r186_81 : zr 186 81 [v0] st u P = zr 186 83 [v0] (.ref 1000008 :: st) u P := zr_S k186_81
theorem k186_83 : xcd 186 83 = oCalV 11 182 1 86 := rfl
theorem r186_83 : zr 186 83 [v0] (.ref b1 :: .ref b8 :: st) u P = ((xIs u b8 11 ∧ xcat st ≤ 8) ∧ zr 182 0 [.ref b8, .ref b1, .null, .null, .null] [] u (fun r u2 => zr 186 86 [v0] (r.toList ++ st) u2 P)) := zr_CV k186_83 rfl rfl rfl ⟨Nat.le_of_ble_eq_true rfl, Nat.succ_ne_zero _, by decide⟩ rfl
theorem k186_86 : xcd 186 86 = oIf (fun x => decide (¬ x = 0)) 102 89 := rfl
theorem r186_86 : zr 186 86 [v0] (.int y1 :: st) u P = (if ¬ y1 = 0 then zr 186 102 [v0] st u P else zr 186 89 [v0] st u P) := zr_If k186_86
theorem k186_89 : xcd 186 89 = oAl 0 90 := rfl
theorem r186_89 : zr 186 89 [.ref a0] st u P = zr 186 90 [.ref a0] (.ref a0 :: st) u P := zr_Al k186_89 rfl
theorem k186_90 : xcd 186 90 = oS 9 92 := rfl
theorem r186_90 : zr 186 90 [v0] st u P = zr 186 92 [v0] (.ref 1000009 :: st) u P := zr_S k186_90
theorem k186_92 : xcd 186 92 = oCalV 11 182 1 95 := rfl
theorem r186_92 : zr 186 92 [v0] (.ref b1 :: .ref b8 :: st) u P = ((xIs u b8 11 ∧ xcat st ≤ 8) ∧ zr 182 0 [.ref b8, .ref b1, .null, .null, .null] [] u (fun r u2 => zr 186 95 [v0] (r.toList ++ st) u2 P)) := zr_CV k186_92 rfl rfl rfl ⟨Nat.le_of_ble_eq_true rfl, Nat.succ_ne_zero _, by decide⟩ rfl
theorem k186_95 : xcd 186 95 = oIf (fun x => decide (¬ x = 0)) 102 98 := rfl
theorem r186_95 : zr 186 95 [v0] (.int y1 :: st) u P = (if ¬ y1 = 0 then zr 186 102 [v0] st u P else zr 186 98 [v0] st u P) := zr_If k186_95
theorem k186_98 : xcd 186 98 = oI 1 99 := rfl
theorem r186_98 : zr 186 98 [v0] st u P = zr 186 99 [v0] (.int 1 :: st) u P := zr_I k186_98
theorem k186_99 : xcd 186 99 = oGoto 103 := rfl
theorem r186_99 : zr 186 99 [v0] st u P = zr 186 103 [v0] st u P := zr_Goto k186_99
theorem k186_102 : xcd 186 102 = oI 0 103 := rfl
theorem r186_102 : zr 186 102 [v0] st u P = zr 186 103 [v0] (.int 0 :: st) u P := zr_I k186_102
theorem k186_103 : xcd 186 103 = oRz 0 := rfl
theorem r186_103 : zr 186 103 [v0] [.int y1] u P = ((y1 = 0 ∨ y1 = 1) ∧ P (some (.int y1)) u) := zr_Rz k186_103
theorem k187_0 : xcd 187 0 = oI 0 1 := rfl
theorem r187_0 : zr 187 0 [v0, v1, v2, v3] st u P = zr 187 1 [v0, v1, v2, v3] (.int 0 :: st) u P := zr_I k187_0
theorem k187_1 : xcd 187 1 = oIs 3 2 := rfl
theorem r187_1 : zr 187 1 [v0, v1, .int x2, v3] (.int y1 :: st) u P = zr 187 2 [v0, v1, .int x2, .int y1] st u P := zr_Is k187_1 ⟨Nat.le_of_ble_eq_true rfl, rfl⟩
theorem k187_2 : xcd 187 2 = oIl 3 3 := rfl
theorem r187_2 : zr 187 2 [v0, v1, v2, .int x3] st u P = zr 187 3 [v0, v1, v2, .int x3] (.int x3 :: st) u P := zr_Il k187_2 rfl
theorem k187_3 : xcd 187 3 = oIl 2 4 := rfl
theorem r187_3 : zr 187 3 [v0, v1, .int x2, v3] st u P = zr 187 4 [v0, v1, .int x2, v3] (.int x2 :: st) u P := zr_Il k187_3 rfl
theorem k187_4 : xcd 187 4 = oCmp (fun x y => decide (y ≤ x)) 26 7 := rfl
theorem r187_4 : zr 187 4 [v0, v1, v2, v3] (.int y1 :: .int y2 :: st) u P = (if y1 ≤ y2 then zr 187 26 [v0, v1, v2, v3] st u P else zr 187 7 [v0, v1, v2, v3] st u P) := zr_Cmp k187_4
theorem k187_7 : xcd 187 7 = oAl 1 8 := rfl
theorem r187_7 : zr 187 7 [v0, .ref a1, v2, v3] st u P = zr 187 8 [v0, .ref a1, v2, v3] (.ref a1 :: st) u P := zr_Al k187_7 rfl
theorem k187_8 : xcd 187 8 = oIl 3 9 := rfl
theorem r187_8 : zr 187 8 [v0, v1, v2, .int x3] st u P = zr 187 9 [v0, v1, v2, .int x3] (.int x3 :: st) u P := zr_Il k187_8 rfl
theorem k187_9 : xcd 187 9 = oLdJ 10 := rfl
theorem r187_9 : zr 187 9 [v0, v1, v2, v3] (.int y1 :: .ref b1 :: st) u P = ((xIs u b1 14 ∧ xinb y1 (xN u b1)) ∧ zr 187 10 [v0, v1, v2, v3] (.long (xJ u b1 (xix y1)) :: st) u P) := zr_LdJ k187_9
theorem k187_10 : xcd 187 10 = oAl 0 11 := rfl
theorem r187_10 : zr 187 10 [.ref a0, v1, v2, v3] st u P = zr 187 11 [.ref a0, v1, v2, v3] (.ref a0 :: st) u P := zr_Al k187_10 rfl
theorem k187_11 : xcd 187 11 = oGJ 11 16 14 := rfl
theorem r187_11 : zr 187 11 [v0, v1, v2, v3] (.ref b1 :: st) u P = (xIs u b1 11 ∧ zr 187 14 [v0, v1, v2, v3] (.long (xJ u b1 16) :: st) u P) := zr_GJ k187_11
theorem k187_14 : xcd 187 14 = oLcmp 15 := rfl
theorem r187_14 : zr 187 14 [v0, v1, v2, v3] (.long w1 :: .long w2 :: st) u P = zr 187 15 [v0, v1, v2, v3] (.int (lg_cmp w2 w1) :: st) u P := zr_Lcmp k187_14
theorem k187_15 : xcd 187 15 = oIf (fun x => decide (¬ x = 0)) 20 18 := rfl
theorem r187_15 : zr 187 15 [v0, v1, v2, v3] (.int y1 :: st) u P = (if ¬ y1 = 0 then zr 187 20 [v0, v1, v2, v3] st u P else zr 187 18 [v0, v1, v2, v3] st u P) := zr_If k187_15
theorem k187_18 : xcd 187 18 = oIl 3 19 := rfl
theorem r187_18 : zr 187 18 [v0, v1, v2, .int x3] st u P = zr 187 19 [v0, v1, v2, .int x3] (.int x3 :: st) u P := zr_Il k187_18 rfl
theorem k187_19 : xcd 187 19 = oRi 0 := rfl
theorem r187_19 : zr 187 19 [v0, v1, v2, v3] [.int y1] u P = P (some (.int y1)) u := zr_Ri k187_19
theorem k187_20 : xcd 187 20 = oInc 3 1 23 := rfl
theorem r187_20 : zr 187 20 [v0, v1, .int x2, .int x3] st u P = zr 187 23 [v0, v1, .int x2, .int (x3 + 1)] st u P := zr_Inc k187_20 rfl rfl
theorem k187_23 : xcd 187 23 = oGoto 2 := rfl
theorem r187_23 : zr 187 23 [v0, v1, v2, v3] st u P = zr 187 2 [v0, v1, v2, v3] st u P := zr_Goto k187_23
theorem k187_26 : xcd 187 26 = oI (-1) 27 := rfl
theorem r187_26 : zr 187 26 [v0, v1, v2, v3] st u P = zr 187 27 [v0, v1, v2, v3] (.int (-1) :: st) u P := zr_I k187_26
theorem k187_27 : xcd 187 27 = oRi 0 := rfl
theorem r187_27 : zr 187 27 [v0, v1, v2, v3] [.int y1] u P = P (some (.int y1)) u := zr_Ri k187_27
theorem k188_0 : xcd 188 0 = oAl 0 1 := rfl
theorem r188_0 : zr 188 0 [.ref a0] st u P = zr 188 1 [.ref a0] (.ref a0 :: st) u P := zr_Al k188_0 rfl
theorem k188_1 : xcd 188 1 = oAl 0 2 := rfl
theorem r188_1 : zr 188 1 [.ref a0] st u P = zr 188 2 [.ref a0] (.ref a0 :: st) u P := zr_Al k188_1 rfl
theorem k188_2 : xcd 188 2 = oGR 11 5 5 := rfl
theorem r188_2 : zr 188 2 [v0] (.ref b1 :: st) u P = (xIs u b1 11 ∧ ∃ b, xR u b1 5 = some b ∧ zr 188 5 [v0] (.ref b :: st) u P) := zr_GR k188_2
theorem k188_5 : xcd 188 5 = oAl 0 6 := rfl
theorem r188_5 : zr 188 5 [.ref a0] st u P = zr 188 6 [.ref a0] (.ref a0 :: st) u P := zr_Al k188_5 rfl
theorem k188_6 : xcd 188 6 = oGR 11 4 9 := rfl
theorem r188_6 : zr 188 6 [v0] (.ref b1 :: st) u P = (xIs u b1 11 ∧ ∃ b, xR u b1 4 = some b ∧ zr 188 9 [v0] (.ref b :: st) u P) := zr_GR k188_6
theorem k188_9 : xcd 188 9 = oI 2 10 := rfl
theorem r188_9 : zr 188 9 [v0] st u P = zr 188 10 [v0] (.int 2 :: st) u P := zr_I k188_9
theorem k188_10 : xcd 188 10 = oLd 13 11 := rfl
theorem r188_10 : zr 188 10 [v0] (.int y1 :: .ref b1 :: st) u P = ((xIs u b1 13 ∧ xinb y1 (xN u b1)) ∧ zr 188 11 [v0] (.int (xI u b1 (xix y1)) :: st) u P) := zr_Ld k188_10
theorem k188_11 : xcd 188 11 = oCalV 11 187 2 14 := rfl
theorem r188_11 : zr 188 11 [v0] (.int y2 :: .ref b1 :: .ref b8 :: st) u P = ((xIs u b8 11 ∧ xcat st ≤ 8) ∧ zr 187 0 [.ref b8, .ref b1, .int y2, .null] [] u (fun r u2 => zr 188 14 [v0] (r.toList ++ st) u2 P)) := zr_CV k188_11 rfl rfl rfl ⟨Nat.le_of_ble_eq_true rfl, Nat.succ_ne_zero _, by decide⟩ rfl
theorem k188_14 : xcd 188 14 = oRi 0 := rfl
theorem r188_14 : zr 188 14 [v0] [.int y1] u P = P (some (.int y1)) u := zr_Ri k188_14
theorem k189_0 : xcd 189 0 = oAl 0 1 := rfl
theorem r189_0 : zr 189 0 [.ref a0] st u P = zr 189 1 [.ref a0] (.ref a0 :: st) u P := zr_Al k189_0 rfl
theorem k189_1 : xcd 189 1 = oAl 0 2 := rfl
theorem r189_1 : zr 189 1 [.ref a0] st u P = zr 189 2 [.ref a0] (.ref a0 :: st) u P := zr_Al k189_1 rfl
theorem k189_2 : xcd 189 2 = oGR 11 6 5 := rfl
theorem r189_2 : zr 189 2 [v0] (.ref b1 :: st) u P = (xIs u b1 11 ∧ ∃ b, xR u b1 6 = some b ∧ zr 189 5 [v0] (.ref b :: st) u P) := zr_GR k189_2
theorem k189_5 : xcd 189 5 = oAl 0 6 := rfl
theorem r189_5 : zr 189 5 [.ref a0] st u P = zr 189 6 [.ref a0] (.ref a0 :: st) u P := zr_Al k189_5 rfl
theorem k189_6 : xcd 189 6 = oGR 11 4 9 := rfl
theorem r189_6 : zr 189 6 [v0] (.ref b1 :: st) u P = (xIs u b1 11 ∧ ∃ b, xR u b1 4 = some b ∧ zr 189 9 [v0] (.ref b :: st) u P) := zr_GR k189_6
theorem k189_9 : xcd 189 9 = oI 3 10 := rfl
theorem r189_9 : zr 189 9 [v0] st u P = zr 189 10 [v0] (.int 3 :: st) u P := zr_I k189_9
theorem k189_10 : xcd 189 10 = oLd 13 11 := rfl
theorem r189_10 : zr 189 10 [v0] (.int y1 :: .ref b1 :: st) u P = ((xIs u b1 13 ∧ xinb y1 (xN u b1)) ∧ zr 189 11 [v0] (.int (xI u b1 (xix y1)) :: st) u P) := zr_Ld k189_10
theorem k189_11 : xcd 189 11 = oCalV 11 187 2 14 := rfl
theorem r189_11 : zr 189 11 [v0] (.int y2 :: .ref b1 :: .ref b8 :: st) u P = ((xIs u b8 11 ∧ xcat st ≤ 8) ∧ zr 187 0 [.ref b8, .ref b1, .int y2, .null] [] u (fun r u2 => zr 189 14 [v0] (r.toList ++ st) u2 P)) := zr_CV k189_11 rfl rfl rfl ⟨Nat.le_of_ble_eq_true rfl, Nat.succ_ne_zero _, by decide⟩ rfl
theorem k189_14 : xcd 189 14 = oRi 0 := rfl
theorem r189_14 : zr 189 14 [v0] [.int y1] u P = P (some (.int y1)) u := zr_Ri k189_14
theorem k190_0 : xcd 190 0 = oAl 0 1 := rfl
theorem r190_0 : zr 190 0 [.ref a0, v1, v2] st u P = zr 190 1 [.ref a0, v1, v2] (.ref a0 :: st) u P := zr_Al k190_0 rfl
theorem k190_1 : xcd 190 1 = oCalV 11 186 0 4 := rfl
theorem r190_1 : zr 190 1 [v0, v1, v2] (.ref b8 :: st) u P = ((xIs u b8 11 ∧ xcat st ≤ 8) ∧ zr 186 0 [.ref b8] [] u (fun r u2 => zr 190 4 [v0, v1, v2] (r.toList ++ st) u2 P)) := zr_CV k190_1 rfl rfl rfl ⟨Nat.le_of_ble_eq_true rfl, Nat.succ_ne_zero _, by decide⟩ rfl
theorem k190_4 : xcd 190 4 = oIf (fun x => decide (¬ x = 0)) 12 7 := rfl
theorem r190_4 : zr 190 4 [v0, v1, v2] (.int y1 :: st) u P = (if ¬ y1 = 0 then zr 190 12 [v0, v1, v2] st u P else zr 190 7 [v0, v1, v2] st u P) := zr_If k190_4
theorem k190_7 : xcd 190 7 = oAl 0 8 := rfl
theorem r190_7 : zr 190 7 [.ref a0, v1, v2] st u P = zr 190 8 [.ref a0, v1, v2] (.ref a0 :: st) u P := zr_Al k190_7 rfl
theorem k190_8 : xcd 190 8 = oI 1 9 := rfl
theorem r190_8 : zr 190 8 [v0, v1, v2] st u P = zr 190 9 [v0, v1, v2] (.int 1 :: st) u P := zr_I k190_8
theorem k190_9 : xcd 190 9 = oCalV 11 181 1 12 := rfl
theorem r190_9 : zr 190 9 [v0, v1, v2] (.int y1 :: .ref b8 :: st) u P = ((xIs u b8 11 ∧ xcat st ≤ 8) ∧ zr 181 0 [.ref b8, .int y1] [] u (fun r u2 => zr 190 12 [v0, v1, v2] (r.toList ++ st) u2 P)) := zr_CV k190_9 rfl rfl rfl ⟨Nat.le_of_ble_eq_true rfl, Nat.succ_ne_zero _, by decide⟩ rfl
theorem k190_12 : xcd 190 12 = oAl 0 13 := rfl
theorem r190_12 : zr 190 12 [.ref a0, v1, v2] st u P = zr 190 13 [.ref a0, v1, v2] (.ref a0 :: st) u P := zr_Al k190_12 rfl
theorem k190_13 : xcd 190 13 = oGI 11 15 16 := rfl
theorem r190_13 : zr 190 13 [v0, v1, v2] (.ref b1 :: st) u P = (xIs u b1 11 ∧ zr 190 16 [v0, v1, v2] (.int (xI u b1 15) :: st) u P) := zr_GI k190_13
theorem k190_16 : xcd 190 16 = oIf (fun x => decide (¬ x = 0)) 38 19 := rfl
theorem r190_16 : zr 190 16 [v0, v1, v2] (.int y1 :: st) u P = (if ¬ y1 = 0 then zr 190 38 [v0, v1, v2] st u P else zr 190 19 [v0, v1, v2] st u P) := zr_If k190_16
theorem k190_19 : xcd 190 19 = oAl 0 20 := rfl
theorem r190_19 : zr 190 19 [.ref a0, v1, v2] st u P = zr 190 20 [.ref a0, v1, v2] (.ref a0 :: st) u P := zr_Al k190_19 rfl
theorem k190_20 : xcd 190 20 = oCalV 11 188 0 23 := rfl
theorem r190_20 : zr 190 20 [v0, v1, v2] (.ref b8 :: st) u P = ((xIs u b8 11 ∧ xcat st ≤ 8) ∧ zr 188 0 [.ref b8] [] u (fun r u2 => zr 190 23 [v0, v1, v2] (r.toList ++ st) u2 P)) := zr_CV k190_20 rfl rfl rfl ⟨Nat.le_of_ble_eq_true rfl, Nat.succ_ne_zero _, by decide⟩ rfl
theorem k190_23 : xcd 190 23 = oIf (fun x => decide (0 ≤ x)) 33 26 := rfl
theorem r190_23 : zr 190 23 [v0, v1, v2] (.int y1 :: st) u P = (if 0 ≤ y1 then zr 190 33 [v0, v1, v2] st u P else zr 190 26 [v0, v1, v2] st u P) := zr_If k190_23
theorem k190_26 : xcd 190 26 = oAl 0 27 := rfl
theorem r190_26 : zr 190 26 [.ref a0, v1, v2] st u P = zr 190 27 [.ref a0, v1, v2] (.ref a0 :: st) u P := zr_Al k190_26 rfl
theorem k190_27 : xcd 190 27 = oCalV 11 189 0 30 := rfl
theorem r190_27 : zr 190 27 [v0, v1, v2] (.ref b8 :: st) u P = ((xIs u b8 11 ∧ xcat st ≤ 8) ∧ zr 189 0 [.ref b8] [] u (fun r u2 => zr 190 30 [v0, v1, v2] (r.toList ++ st) u2 P)) := zr_CV k190_27 rfl rfl rfl ⟨Nat.le_of_ble_eq_true rfl, Nat.succ_ne_zero _, by decide⟩ rfl
theorem k190_30 : xcd 190 30 = oIf (fun x => decide (x < 0)) 38 33 := rfl
theorem r190_30 : zr 190 30 [v0, v1, v2] (.int y1 :: st) u P = (if y1 < 0 then zr 190 38 [v0, v1, v2] st u P else zr 190 33 [v0, v1, v2] st u P) := zr_If k190_30
theorem k190_33 : xcd 190 33 = oAl 0 34 := rfl
theorem r190_33 : zr 190 33 [.ref a0, v1, v2] st u P = zr 190 34 [.ref a0, v1, v2] (.ref a0 :: st) u P := zr_Al k190_33 rfl
theorem k190_34 : xcd 190 34 = oI 3 35 := rfl
theorem r190_34 : zr 190 34 [v0, v1, v2] st u P = zr 190 35 [v0, v1, v2] (.int 3 :: st) u P := zr_I k190_34
theorem k190_35 : xcd 190 35 = oCalV 11 181 1 38 := rfl
theorem r190_35 : zr 190 35 [v0, v1, v2] (.int y1 :: .ref b8 :: st) u P = ((xIs u b8 11 ∧ xcat st ≤ 8) ∧ zr 181 0 [.ref b8, .int y1] [] u (fun r u2 => zr 190 38 [v0, v1, v2] (r.toList ++ st) u2 P)) := zr_CV k190_35 rfl rfl rfl ⟨Nat.le_of_ble_eq_true rfl, Nat.succ_ne_zero _, by decide⟩ rfl
theorem k190_38 : xcd 190 38 = oAl 0 39 := rfl
theorem r190_38 : zr 190 38 [.ref a0, v1, v2] st u P = zr 190 39 [.ref a0, v1, v2] (.ref a0 :: st) u P := zr_Al k190_38 rfl
theorem k190_39 : xcd 190 39 = oGJ 11 16 42 := rfl
theorem r190_39 : zr 190 39 [v0, v1, v2] (.ref b1 :: st) u P = (xIs u b1 11 ∧ zr 190 42 [v0, v1, v2] (.long (xJ u b1 16) :: st) u P) := zr_GJ k190_39
theorem k190_42 : xcd 190 42 = oJs 1 43 := rfl
theorem r190_42 : zr 190 42 [.ref a0, v1, v2] (.long w1 :: st) u P = zr 190 43 [.ref a0, .long w1, .null] st u P := zr_Js k190_42 ⟨Nat.le_of_ble_eq_true rfl, rfl⟩
theorem k190_43 : xcd 190 43 = oAl 0 44 := rfl
theorem r190_43 : zr 190 43 [.ref a0, v1, v2] st u P = zr 190 44 [.ref a0, v1, v2] (.ref a0 :: st) u P := zr_Al k190_43 rfl
theorem k190_44 : xcd 190 44 = oCalV 11 177 0 47 := rfl
theorem r190_44 : zr 190 44 [v0, v1, v2] (.ref b8 :: st) u P = ((xIs u b8 11 ∧ xcat st ≤ 8) ∧ zr 177 0 [.ref b8, .null] [] u (fun r u2 => zr 190 47 [v0, v1, v2] (r.toList ++ st) u2 P)) := zr_CV k190_44 rfl rfl rfl ⟨Nat.le_of_ble_eq_true rfl, Nat.succ_ne_zero _, by decide⟩ rfl
theorem k190_47 : xcd 190 47 = oJl 1 48 := rfl
theorem r190_47 : zr 190 47 [v0, .long j1, v2] st u P = zr 190 48 [v0, .long j1, v2] (.long j1 :: st) u P := zr_Jl k190_47 rfl
theorem k190_48 : xcd 190 48 = oRj 0 := rfl
theorem r190_48 : zr 190 48 [v0, v1, v2] [.long w1] u P = P (some (.long w1)) u := zr_Rj k190_48
theorem k191_0 : xcd 191 0 = oAl 0 1 := rfl
theorem r191_0 : zr 191 0 [.ref a0, v1, v2] st u P = zr 191 1 [.ref a0, v1, v2] (.ref a0 :: st) u P := zr_Al k191_0 rfl
theorem k191_1 : xcd 191 1 = oCalV 11 186 0 4 := rfl
theorem r191_1 : zr 191 1 [v0, v1, v2] (.ref b8 :: st) u P = ((xIs u b8 11 ∧ xcat st ≤ 8) ∧ zr 186 0 [.ref b8] [] u (fun r u2 => zr 191 4 [v0, v1, v2] (r.toList ++ st) u2 P)) := zr_CV k191_1 rfl rfl rfl ⟨Nat.le_of_ble_eq_true rfl, Nat.succ_ne_zero _, by decide⟩ rfl
theorem k191_4 : xcd 191 4 = oIf (fun x => decide (¬ x = 0)) 12 7 := rfl
theorem r191_4 : zr 191 4 [v0, v1, v2] (.int y1 :: st) u P = (if ¬ y1 = 0 then zr 191 12 [v0, v1, v2] st u P else zr 191 7 [v0, v1, v2] st u P) := zr_If k191_4
theorem k191_7 : xcd 191 7 = oAl 0 8 := rfl
theorem r191_7 : zr 191 7 [.ref a0, v1, v2] st u P = zr 191 8 [.ref a0, v1, v2] (.ref a0 :: st) u P := zr_Al k191_7 rfl
theorem k191_8 : xcd 191 8 = oI 1 9 := rfl
theorem r191_8 : zr 191 8 [v0, v1, v2] st u P = zr 191 9 [v0, v1, v2] (.int 1 :: st) u P := zr_I k191_8
theorem k191_9 : xcd 191 9 = oCalV 11 181 1 12 := rfl
theorem r191_9 : zr 191 9 [v0, v1, v2] (.int y1 :: .ref b8 :: st) u P = ((xIs u b8 11 ∧ xcat st ≤ 8) ∧ zr 181 0 [.ref b8, .int y1] [] u (fun r u2 => zr 191 12 [v0, v1, v2] (r.toList ++ st) u2 P)) := zr_CV k191_9 rfl rfl rfl ⟨Nat.le_of_ble_eq_true rfl, Nat.succ_ne_zero _, by decide⟩ rfl
theorem k191_12 : xcd 191 12 = oAl 0 13 := rfl
theorem r191_12 : zr 191 12 [.ref a0, v1, v2] st u P = zr 191 13 [.ref a0, v1, v2] (.ref a0 :: st) u P := zr_Al k191_12 rfl
theorem k191_13 : xcd 191 13 = oGI 11 15 16 := rfl
theorem r191_13 : zr 191 13 [v0, v1, v2] (.ref b1 :: st) u P = (xIs u b1 11 ∧ zr 191 16 [v0, v1, v2] (.int (xI u b1 15) :: st) u P) := zr_GI k191_13
theorem k191_16 : xcd 191 16 = oIf (fun x => decide (x ≤ 0)) 23 19 := rfl
theorem r191_16 : zr 191 16 [v0, v1, v2] (.int y1 :: st) u P = (if y1 ≤ 0 then zr 191 23 [v0, v1, v2] st u P else zr 191 19 [v0, v1, v2] st u P) := zr_If k191_16
theorem k191_19 : xcd 191 19 = oI (-1) 20 := rfl
theorem r191_19 : zr 191 19 [v0, v1, v2] st u P = zr 191 20 [v0, v1, v2] (.int (-1) :: st) u P := zr_I k191_19
theorem k191_20 : xcd 191 20 = oGoto 38 := rfl
theorem r191_20 : zr 191 20 [v0, v1, v2] st u P = zr 191 38 [v0, v1, v2] st u P := zr_Goto k191_20
theorem k191_23 : xcd 191 23 = oIl 1 24 := rfl
theorem r191_23 : zr 191 23 [v0, .int x1, v2] st u P = zr 191 24 [v0, .int x1, v2] (.int x1 :: st) u P := zr_Il k191_23 rfl
theorem k191_24 : xcd 191 24 = oIf (fun x => decide (x = 0)) 34 27 := rfl
theorem r191_24 : zr 191 24 [v0, v1, v2] (.int y1 :: st) u P = (if y1 = 0 then zr 191 34 [v0, v1, v2] st u P else zr 191 27 [v0, v1, v2] st u P) := zr_If k191_24
theorem k191_27 : xcd 191 27 = oAl 0 28 := rfl
theorem r191_27 : zr 191 27 [.ref a0, v1, v2] st u P = zr 191 28 [.ref a0, v1, v2] (.ref a0 :: st) u P := zr_Al k191_27 rfl
theorem k191_28 : xcd 191 28 = oCalV 11 188 0 31 := rfl
theorem r191_28 : zr 191 28 [v0, v1, v2] (.ref b8 :: st) u P = ((xIs u b8 11 ∧ xcat st ≤ 8) ∧ zr 188 0 [.ref b8] [] u (fun r u2 => zr 191 31 [v0, v1, v2] (r.toList ++ st) u2 P)) := zr_CV k191_28 rfl rfl rfl ⟨Nat.le_of_ble_eq_true rfl, Nat.succ_ne_zero _, by decide⟩ rfl
theorem k191_31 : xcd 191 31 = oGoto 38 := rfl
theorem r191_31 : zr 191 31 [v0, v1, v2] st u P = zr 191 38 [v0, v1, v2] st u P := zr_Goto k191_31
theorem k191_34 : xcd 191 34 = oAl 0 35 := rfl
theorem r191_34 : zr 191 34 [.ref a0, v1, v2] st u P = zr 191 35 [.ref a0, v1, v2] (.ref a0 :: st) u P := zr_Al k191_34 rfl
theorem k191_35 : xcd 191 35 = oCalV 11 189 0 38 := rfl
theorem r191_35 : zr 191 35 [v0, v1, v2] (.ref b8 :: st) u P = ((xIs u b8 11 ∧ xcat st ≤ 8) ∧ zr 189 0 [.ref b8] [] u (fun r u2 => zr 191 38 [v0, v1, v2] (r.toList ++ st) u2 P)) := zr_CV k191_35 rfl rfl rfl ⟨Nat.le_of_ble_eq_true rfl, Nat.succ_ne_zero _, by decide⟩ rfl
theorem k191_38 : xcd 191 38 = oIs 2 39 := rfl
theorem r191_38 : zr 191 38 [v0, .int x1, v2] (.int y1 :: st) u P = zr 191 39 [v0, .int x1, .int y1] st u P := zr_Is k191_38 ⟨Nat.le_of_ble_eq_true rfl, rfl⟩
theorem k191_39 : xcd 191 39 = oIl 2 40 := rfl
theorem r191_39 : zr 191 39 [v0, v1, .int x2] st u P = zr 191 40 [v0, v1, .int x2] (.int x2 :: st) u P := zr_Il k191_39 rfl
theorem k191_40 : xcd 191 40 = oI (-1) 41 := rfl
theorem r191_40 : zr 191 40 [v0, v1, v2] st u P = zr 191 41 [v0, v1, v2] (.int (-1) :: st) u P := zr_I k191_40
theorem k191_41 : xcd 191 41 = oCmp (fun x y => decide (¬ x = y)) 49 44 := rfl
theorem r191_41 : zr 191 41 [v0, v1, v2] (.int y1 :: .int y2 :: st) u P = (if ¬ y2 = y1 then zr 191 49 [v0, v1, v2] st u P else zr 191 44 [v0, v1, v2] st u P) := zr_Cmp k191_41
theorem k191_44 : xcd 191 44 = oAl 0 45 := rfl
theorem r191_44 : zr 191 44 [.ref a0, v1, v2] st u P = zr 191 45 [.ref a0, v1, v2] (.ref a0 :: st) u P := zr_Al k191_44 rfl
theorem k191_45 : xcd 191 45 = oI 2 46 := rfl
theorem r191_45 : zr 191 45 [v0, v1, v2] st u P = zr 191 46 [v0, v1, v2] (.int 2 :: st) u P := zr_I k191_45
theorem k191_46 : xcd 191 46 = oCalV 11 181 1 49 := rfl
theorem r191_46 : zr 191 46 [v0, v1, v2] (.int y1 :: .ref b8 :: st) u P = ((xIs u b8 11 ∧ xcat st ≤ 8) ∧ zr 181 0 [.ref b8, .int y1] [] u (fun r u2 => zr 191 49 [v0, v1, v2] (r.toList ++ st) u2 P)) := zr_CV k191_46 rfl rfl rfl ⟨Nat.le_of_ble_eq_true rfl, Nat.succ_ne_zero _, by decide⟩ rfl
theorem k191_49 : xcd 191 49 = oAl 0 50 := rfl
theorem r191_49 : zr 191 49 [.ref a0, v1, v2] st u P = zr 191 50 [.ref a0, v1, v2] (.ref a0 :: st) u P := zr_Al k191_49 rfl
theorem k191_50 : xcd 191 50 = oGI 11 15 53 := rfl
theorem r191_50 : zr 191 50 [v0, v1, v2] (.ref b1 :: st) u P = (xIs u b1 11 ∧ zr 191 53 [v0, v1, v2] (.int (xI u b1 15) :: st) u P) := zr_GI k191_50
theorem k191_53 : xcd 191 53 = oIf (fun x => decide (x ≤ 0)) 60 56 := rfl
theorem r191_53 : zr 191 53 [v0, v1, v2] (.int y1 :: st) u P = (if y1 ≤ 0 then zr 191 60 [v0, v1, v2] st u P else zr 191 56 [v0, v1, v2] st u P) := zr_If k191_53
theorem k191_56 : xcd 191 56 = oI 0 57 := rfl
theorem r191_56 : zr 191 56 [v0, v1, v2] st u P = zr 191 57 [v0, v1, v2] (.int 0 :: st) u P := zr_I k191_56
theorem k191_57 : xcd 191 57 = oGoto 61 := rfl
theorem r191_57 : zr 191 57 [v0, v1, v2] st u P = zr 191 61 [v0, v1, v2] st u P := zr_Goto k191_57
theorem k191_60 : xcd 191 60 = oIl 2 61 := rfl
theorem r191_60 : zr 191 60 [v0, v1, .int x2] st u P = zr 191 61 [v0, v1, .int x2] (.int x2 :: st) u P := zr_Il k191_60 rfl
theorem k191_61 : xcd 191 61 = oRi 0 := rfl
theorem r191_61 : zr 191 61 [v0, v1, v2] [.int y1] u P = P (some (.int y1)) u := zr_Ri k191_61
theorem k192_0 : xcd 192 0 = oAl 0 1 := rfl
theorem r192_0 : zr 192 0 [.ref a0, v1, v2] st u P = zr 192 1 [.ref a0, v1, v2] (.ref a0 :: st) u P := zr_Al k192_0 rfl
theorem k192_1 : xcd 192 1 = oIl 1 2 := rfl
theorem r192_1 : zr 192 1 [v0, .int x1, v2] st u P = zr 192 2 [v0, .int x1, v2] (.int x1 :: st) u P := zr_Il k192_1 rfl
theorem k192_2 : xcd 192 2 = oCalV 11 191 1 5 := rfl
theorem r192_2 : zr 192 2 [v0, v1, v2] (.int y1 :: .ref b8 :: st) u P = ((xIs u b8 11 ∧ xcat st ≤ 8) ∧ zr 191 0 [.ref b8, .int y1, .null] [] u (fun r u2 => zr 192 5 [v0, v1, v2] (r.toList ++ st) u2 P)) := zr_CV k192_2 rfl rfl rfl ⟨Nat.le_of_ble_eq_true rfl, Nat.succ_ne_zero _, by decide⟩ rfl
theorem k192_5 : xcd 192 5 = oIs 2 6 := rfl
theorem r192_5 : zr 192 5 [v0, .int x1, v2] (.int y1 :: st) u P = zr 192 6 [v0, .int x1, .int y1] st u P := zr_Is k192_5 ⟨Nat.le_of_ble_eq_true rfl, rfl⟩
theorem k192_6 : xcd 192 6 = oAl 0 7 := rfl
theorem r192_6 : zr 192 6 [.ref a0, v1, v2] st u P = zr 192 7 [.ref a0, v1, v2] (.ref a0 :: st) u P := zr_Al k192_6 rfl
theorem k192_7 : xcd 192 7 = oCalV 11 177 0 10 := rfl
theorem r192_7 : zr 192 7 [v0, v1, v2] (.ref b8 :: st) u P = ((xIs u b8 11 ∧ xcat st ≤ 8) ∧ zr 177 0 [.ref b8, .null] [] u (fun r u2 => zr 192 10 [v0, v1, v2] (r.toList ++ st) u2 P)) := zr_CV k192_7 rfl rfl rfl ⟨Nat.le_of_ble_eq_true rfl, Nat.succ_ne_zero _, by decide⟩ rfl
theorem k192_10 : xcd 192 10 = oIl 2 11 := rfl
theorem r192_10 : zr 192 10 [v0, v1, .int x2] st u P = zr 192 11 [v0, v1, .int x2] (.int x2 :: st) u P := zr_Il k192_10 rfl
theorem k192_11 : xcd 192 11 = oRi 0 := rfl
theorem r192_11 : zr 192 11 [v0, v1, v2] [.int y1] u P = P (some (.int y1)) u := zr_Ri k192_11
theorem k193_0 : xcd 193 0 = oI 0 1 := rfl
theorem r193_0 : zr 193 0 [v0, v1] st u P = zr 193 1 [v0, v1] (.int 0 :: st) u P := zr_I k193_0
theorem k193_1 : xcd 193 1 = oIs 1 2 := rfl
theorem r193_1 : zr 193 1 [.ref a0, v1] (.int y1 :: st) u P = zr 193 2 [.ref a0, .int y1] st u P := zr_Is k193_1 ⟨Nat.le_of_ble_eq_true rfl, rfl⟩
theorem k193_2 : xcd 193 2 = oIl 1 3 := rfl
theorem r193_2 : zr 193 2 [v0, .int x1] st u P = zr 193 3 [v0, .int x1] (.int x1 :: st) u P := zr_Il k193_2 rfl
theorem k193_3 : xcd 193 3 = oI 402 6 := rfl
theorem r193_3 : zr 193 3 [v0, v1] st u P = zr 193 6 [v0, v1] (.int 402 :: st) u P := zr_I k193_3
theorem k193_6 : xcd 193 6 = oCmp (fun x y => decide (y ≤ x)) 22 9 := rfl
theorem r193_6 : zr 193 6 [v0, v1] (.int y1 :: .int y2 :: st) u P = (if y1 ≤ y2 then zr 193 22 [v0, v1] st u P else zr 193 9 [v0, v1] st u P) := zr_Cmp k193_6
theorem k193_9 : xcd 193 9 = oAl 0 10 := rfl
theorem r193_9 : zr 193 9 [.ref a0, v1] st u P = zr 193 10 [.ref a0, v1] (.ref a0 :: st) u P := zr_Al k193_9 rfl
theorem k193_10 : xcd 193 10 = oGR 11 4 13 := rfl
theorem r193_10 : zr 193 10 [v0, v1] (.ref b1 :: st) u P = (xIs u b1 11 ∧ ∃ b, xR u b1 4 = some b ∧ zr 193 13 [v0, v1] (.ref b :: st) u P) := zr_GR k193_10
theorem k193_13 : xcd 193 13 = oIl 1 14 := rfl
theorem r193_13 : zr 193 13 [v0, .int x1] st u P = zr 193 14 [v0, .int x1] (.int x1 :: st) u P := zr_Il k193_13 rfl
theorem k193_14 : xcd 193 14 = oI 0 15 := rfl
theorem r193_14 : zr 193 14 [v0, v1] st u P = zr 193 15 [v0, v1] (.int 0 :: st) u P := zr_I k193_14
theorem k193_15 : xcd 193 15 = oSt 13 (fun x => x) 16 := rfl
theorem r193_15 : zr 193 15 [v0, v1] (.int y2 :: .int y1 :: .ref b1 :: st) u P = ((xIs u b1 13 ∧ xinb y1 (xN u b1)) ∧ zr 193 16 [v0, v1] st (xsI u b1 (xix y1) y2) P) := zr_St k193_15
theorem k193_16 : xcd 193 16 = oInc 1 1 19 := rfl
theorem r193_16 : zr 193 16 [.ref a0, .int x1] st u P = zr 193 19 [.ref a0, .int (x1 + 1)] st u P := zr_Inc k193_16 rfl rfl
theorem k193_19 : xcd 193 19 = oGoto 2 := rfl
theorem r193_19 : zr 193 19 [v0, v1] st u P = zr 193 2 [v0, v1] st u P := zr_Goto k193_19
theorem k193_22 : xcd 193 22 = oAl 0 23 := rfl
theorem r193_22 : zr 193 22 [.ref a0, v1] st u P = zr 193 23 [.ref a0, v1] (.ref a0 :: st) u P := zr_Al k193_22 rfl
theorem k193_23 : xcd 193 23 = oCalV 11 177 0 26 := rfl
theorem r193_23 : zr 193 23 [v0, v1] (.ref b8 :: st) u P = ((xIs u b8 11 ∧ xcat st ≤ 8) ∧ zr 177 0 [.ref b8, .null] [] u (fun r u2 => zr 193 26 [v0, v1] (r.toList ++ st) u2 P)) := zr_CV k193_23 rfl rfl rfl ⟨Nat.le_of_ble_eq_true rfl, Nat.succ_ne_zero _, by decide⟩ rfl
theorem k193_26 : xcd 193 26 = oAl 0 27 := rfl
theorem r193_26 : zr 193 26 [.ref a0, v1] st u P = zr 193 27 [.ref a0, v1] (.ref a0 :: st) u P := zr_Al k193_26 rfl
theorem k193_27 : xcd 193 27 = oCalV 11 194 0 30 := rfl
theorem r193_27 : zr 193 27 [v0, v1] (.ref b8 :: st) u P = ((xIs u b8 11 ∧ xcat st ≤ 8) ∧ zr 194 0 [.ref b8] [] u (fun r u2 => zr 193 30 [v0, v1] (r.toList ++ st) u2 P)) := zr_CV k193_27 rfl rfl rfl ⟨Nat.le_of_ble_eq_true rfl, Nat.succ_ne_zero _, by decide⟩ rfl
theorem k193_30 : xcd 193 30 = oAl 0 31 := rfl
theorem r193_30 : zr 193 30 [.ref a0, v1] st u P = zr 193 31 [.ref a0, v1] (.ref a0 :: st) u P := zr_Al k193_30 rfl
theorem k193_31 : xcd 193 31 = oGI 11 12 34 := rfl
theorem r193_31 : zr 193 31 [v0, v1] (.ref b1 :: st) u P = (xIs u b1 11 ∧ zr 193 34 [v0, v1] (.int (xI u b1 12) :: st) u P) := zr_GI k193_31
theorem k193_34 : xcd 193 34 = oI 4 35 := rfl
theorem r193_34 : zr 193 34 [v0, v1] st u P = zr 193 35 [v0, v1] (.int 4 :: st) u P := zr_I k193_34
theorem k193_35 : xcd 193 35 = oCmp (fun x y => decide (¬ x = y)) 49 38 := rfl
theorem r193_35 : zr 193 35 [v0, v1] (.int y1 :: .int y2 :: st) u P = (if ¬ y2 = y1 then zr 193 49 [v0, v1] st u P else zr 193 38 [v0, v1] st u P) := zr_Cmp k193_35
theorem k193_38 : xcd 193 38 = oAl 0 39 := rfl
theorem r193_38 : zr 193 38 [.ref a0, v1] st u P = zr 193 39 [.ref a0, v1] (.ref a0 :: st) u P := zr_Al k193_38 rfl
theorem k193_39 : xcd 193 39 = oCalV 11 177 0 42 := rfl
theorem r193_39 : zr 193 39 [v0, v1] (.ref b8 :: st) u P = ((xIs u b8 11 ∧ xcat st ≤ 8) ∧ zr 177 0 [.ref b8, .null] [] u (fun r u2 => zr 193 42 [v0, v1] (r.toList ++ st) u2 P)) := zr_CV k193_39 rfl rfl rfl ⟨Nat.le_of_ble_eq_true rfl, Nat.succ_ne_zero _, by decide⟩ rfl
theorem k193_42 : xcd 193 42 = oAl 0 43 := rfl
theorem r193_42 : zr 193 42 [.ref a0, v1] st u P = zr 193 43 [.ref a0, v1] (.ref a0 :: st) u P := zr_Al k193_42 rfl
theorem k193_43 : xcd 193 43 = oCalV 11 194 0 46 := rfl
theorem r193_43 : zr 193 43 [v0, v1] (.ref b8 :: st) u P = ((xIs u b8 11 ∧ xcat st ≤ 8) ∧ zr 194 0 [.ref b8] [] u (fun r u2 => zr 193 46 [v0, v1] (r.toList ++ st) u2 P)) := zr_CV k193_43 rfl rfl rfl ⟨Nat.le_of_ble_eq_true rfl, Nat.succ_ne_zero _, by decide⟩ rfl
theorem k193_46 : xcd 193 46 = oGoto 30 := rfl
theorem r193_46 : zr 193 46 [v0, v1] st u P = zr 193 30 [v0, v1] st u P := zr_Goto k193_46
theorem k193_49 : xcd 193 49 = oAl 0 50 := rfl
theorem r193_49 : zr 193 49 [.ref a0, v1] st u P = zr 193 50 [.ref a0, v1] (.ref a0 :: st) u P := zr_Al k193_49 rfl
theorem k193_50 : xcd 193 50 = oGI 11 12 53 := rfl
theorem r193_50 : zr 193 50 [v0, v1] (.ref b1 :: st) u P = (xIs u b1 11 ∧ zr 193 53 [v0, v1] (.int (xI u b1 12) :: st) u P) := zr_GI k193_50
theorem k193_53 : xcd 193 53 = oI 1 54 := rfl
theorem r193_53 : zr 193 53 [v0, v1] st u P = zr 193 54 [v0, v1] (.int 1 :: st) u P := zr_I k193_53
theorem k193_54 : xcd 193 54 = oCmp (fun x y => decide (x = y)) 62 57 := rfl
theorem r193_54 : zr 193 54 [v0, v1] (.int y1 :: .int y2 :: st) u P = (if y2 = y1 then zr 193 62 [v0, v1] st u P else zr 193 57 [v0, v1] st u P) := zr_Cmp k193_54
theorem k193_57 : xcd 193 57 = oAl 0 58 := rfl
theorem r193_57 : zr 193 57 [.ref a0, v1] st u P = zr 193 58 [.ref a0, v1] (.ref a0 :: st) u P := zr_Al k193_57 rfl
theorem k193_58 : xcd 193 58 = oI 1 59 := rfl
theorem r193_58 : zr 193 58 [v0, v1] st u P = zr 193 59 [v0, v1] (.int 1 :: st) u P := zr_I k193_58
theorem k193_59 : xcd 193 59 = oCalV 11 181 1 62 := rfl
theorem r193_59 : zr 193 59 [v0, v1] (.int y1 :: .ref b8 :: st) u P = ((xIs u b8 11 ∧ xcat st ≤ 8) ∧ zr 181 0 [.ref b8, .int y1] [] u (fun r u2 => zr 193 62 [v0, v1] (r.toList ++ st) u2 P)) := zr_CV k193_59 rfl rfl rfl ⟨Nat.le_of_ble_eq_true rfl, Nat.succ_ne_zero _, by decide⟩ rfl
theorem k193_62 : xcd 193 62 = oAl 0 63 := rfl
theorem r193_62 : zr 193 62 [.ref a0, v1] st u P = zr 193 63 [.ref a0, v1] (.ref a0 :: st) u P := zr_Al k193_62 rfl
theorem k193_63 : xcd 193 63 = oGI 11 15 66 := rfl
theorem r193_63 : zr 193 63 [v0, v1] (.ref b1 :: st) u P = (xIs u b1 11 ∧ zr 193 66 [v0, v1] (.int (xI u b1 15) :: st) u P) := zr_GI k193_63
theorem k193_66 : xcd 193 66 = oIf (fun x => decide (¬ x = 0)) 102 69 := rfl
theorem r193_66 : zr 193 66 [v0, v1] (.int y1 :: st) u P = (if ¬ y1 = 0 then zr 193 102 [v0, v1] st u P else zr 193 69 [v0, v1] st u P) := zr_If k193_66
theorem k193_69 : xcd 193 69 = oAl 0 70 := rfl
theorem r193_69 : zr 193 69 [.ref a0, v1] st u P = zr 193 70 [.ref a0, v1] (.ref a0 :: st) u P := zr_Al k193_69 rfl
theorem k193_70 : xcd 193 70 = oGR 11 4 73 := rfl
theorem r193_70 : zr 193 70 [v0, v1] (.ref b1 :: st) u P = (xIs u b1 11 ∧ ∃ b, xR u b1 4 = some b ∧ zr 193 73 [v0, v1] (.ref b :: st) u P) := zr_GR k193_70
theorem k193_73 : xcd 193 73 = oI 0 74 := rfl
theorem r193_73 : zr 193 73 [v0, v1] st u P = zr 193 74 [v0, v1] (.int 0 :: st) u P := zr_I k193_73
theorem k193_74 : xcd 193 74 = oLd 13 75 := rfl
theorem r193_74 : zr 193 74 [v0, v1] (.int y1 :: .ref b1 :: st) u P = ((xIs u b1 13 ∧ xinb y1 (xN u b1)) ∧ zr 193 75 [v0, v1] (.int (xI u b1 (xix y1)) :: st) u P) := zr_Ld k193_74
theorem k193_75 : xcd 193 75 = oIf (fun x => decide (x = 0)) 96 78 := rfl
theorem r193_75 : zr 193 75 [v0, v1] (.int y1 :: st) u P = (if y1 = 0 then zr 193 96 [v0, v1] st u P else zr 193 78 [v0, v1] st u P) := zr_If k193_75
theorem k193_78 : xcd 193 78 = oAl 0 79 := rfl
theorem r193_78 : zr 193 78 [.ref a0, v1] st u P = zr 193 79 [.ref a0, v1] (.ref a0 :: st) u P := zr_Al k193_78 rfl
theorem k193_79 : xcd 193 79 = oGR 11 4 82 := rfl
theorem r193_79 : zr 193 79 [v0, v1] (.ref b1 :: st) u P = (xIs u b1 11 ∧ ∃ b, xR u b1 4 = some b ∧ zr 193 82 [v0, v1] (.ref b :: st) u P) := zr_GR k193_79
theorem k193_82 : xcd 193 82 = oI 2 83 := rfl
theorem r193_82 : zr 193 82 [v0, v1] st u P = zr 193 83 [v0, v1] (.int 2 :: st) u P := zr_I k193_82
theorem k193_83 : xcd 193 83 = oLd 13 84 := rfl
theorem r193_83 : zr 193 83 [v0, v1] (.int y1 :: .ref b1 :: st) u P = ((xIs u b1 13 ∧ xinb y1 (xN u b1)) ∧ zr 193 84 [v0, v1] (.int (xI u b1 (xix y1)) :: st) u P) := zr_Ld k193_83
theorem k193_84 : xcd 193 84 = oIf (fun x => decide (x = 0)) 96 87 := rfl
theorem r193_84 : zr 193 84 [v0, v1] (.int y1 :: st) u P = (if y1 = 0 then zr 193 96 [v0, v1] st u P else zr 193 87 [v0, v1] st u P) := zr_If k193_84
theorem k193_87 : xcd 193 87 = oAl 0 88 := rfl
theorem r193_87 : zr 193 87 [.ref a0, v1] st u P = zr 193 88 [.ref a0, v1] (.ref a0 :: st) u P := zr_Al k193_87 rfl
theorem k193_88 : xcd 193 88 = oGR 11 4 91 := rfl
theorem r193_88 : zr 193 88 [v0, v1] (.ref b1 :: st) u P = (xIs u b1 11 ∧ ∃ b, xR u b1 4 = some b ∧ zr 193 91 [v0, v1] (.ref b :: st) u P) := zr_GR k193_88
theorem k193_91 : xcd 193 91 = oI 3 92 := rfl
theorem r193_91 : zr 193 91 [v0, v1] st u P = zr 193 92 [v0, v1] (.int 3 :: st) u P := zr_I k193_91
theorem k193_92 : xcd 193 92 = oLd 13 93 := rfl
theorem r193_92 : zr 193 92 [v0, v1] (.int y1 :: .ref b1 :: st) u P = ((xIs u b1 13 ∧ xinb y1 (xN u b1)) ∧ zr 193 93 [v0, v1] (.int (xI u b1 (xix y1)) :: st) u P) := zr_Ld k193_92
theorem k193_93 : xcd 193 93 = oIf (fun x => decide (¬ x = 0)) 102 96 := rfl
theorem r193_93 : zr 193 93 [v0, v1] (.int y1 :: st) u P = (if ¬ y1 = 0 then zr 193 102 [v0, v1] st u P else zr 193 96 [v0, v1] st u P) := zr_If k193_93
theorem k193_96 : xcd 193 96 = oAl 0 97 := rfl
theorem r193_96 : zr 193 96 [.ref a0, v1] st u P = zr 193 97 [.ref a0, v1] (.ref a0 :: st) u P := zr_Al k193_96 rfl
theorem k193_97 : xcd 193 97 = oI 6 99 := rfl
theorem r193_97 : zr 193 97 [v0, v1] st u P = zr 193 99 [v0, v1] (.int 6 :: st) u P := zr_I k193_97
theorem k193_99 : xcd 193 99 = oCalV 11 181 1 102 := rfl
theorem r193_99 : zr 193 99 [v0, v1] (.int y1 :: .ref b8 :: st) u P = ((xIs u b8 11 ∧ xcat st ≤ 8) ∧ zr 181 0 [.ref b8, .int y1] [] u (fun r u2 => zr 193 102 [v0, v1] (r.toList ++ st) u2 P)) := zr_CV k193_99 rfl rfl rfl ⟨Nat.le_of_ble_eq_true rfl, Nat.succ_ne_zero _, by decide⟩ rfl
theorem k193_102 : xcd 193 102 = oRv 0 := rfl
theorem r193_102 : zr 193 102 [v0, v1] [] u P = P none u := zr_Rv k193_102
theorem k194_0 : xcd 194 0 = oAl 0 1 := rfl
theorem r194_0 : zr 194 0 [.ref a0] st u P = zr 194 1 [.ref a0] (.ref a0 :: st) u P := zr_Al k194_0 rfl
theorem k194_1 : xcd 194 1 = oS 0 3 := rfl
theorem r194_1 : zr 194 1 [v0] st u P = zr 194 3 [v0] (.ref 1000000 :: st) u P := zr_S k194_1
theorem k194_3 : xcd 194 3 = oCalV 11 182 1 6 := rfl
theorem r194_3 : zr 194 3 [v0] (.ref b1 :: .ref b8 :: st) u P = ((xIs u b8 11 ∧ xcat st ≤ 8) ∧ zr 182 0 [.ref b8, .ref b1, .null, .null, .null] [] u (fun r u2 => zr 194 6 [v0] (r.toList ++ st) u2 P)) := zr_CV k194_3 rfl rfl rfl ⟨Nat.le_of_ble_eq_true rfl, Nat.succ_ne_zero _, by decide⟩ rfl
theorem k194_6 : xcd 194 6 = oIf (fun x => decide (x = 0)) 16 9 := rfl
theorem r194_6 : zr 194 6 [v0] (.int y1 :: st) u P = (if y1 = 0 then zr 194 16 [v0] st u P else zr 194 9 [v0] st u P) := zr_If k194_6
theorem k194_9 : xcd 194 9 = oAl 0 10 := rfl
theorem r194_9 : zr 194 9 [.ref a0] st u P = zr 194 10 [.ref a0] (.ref a0 :: st) u P := zr_Al k194_9 rfl
theorem k194_10 : xcd 194 10 = oCalV 11 195 0 13 := rfl
theorem r194_10 : zr 194 10 [v0] (.ref b8 :: st) u P = ((xIs u b8 11 ∧ xcat st ≤ 8) ∧ zr 195 0 [.ref b8, .null, .null] [] u (fun r u2 => zr 194 13 [v0] (r.toList ++ st) u2 P)) := zr_CV k194_10 rfl rfl rfl ⟨Nat.le_of_ble_eq_true rfl, Nat.succ_ne_zero _, by decide⟩ rfl
theorem k194_13 : xcd 194 13 = oGoto 117 := rfl
theorem r194_13 : zr 194 13 [v0] st u P = zr 194 117 [v0] st u P := zr_Goto k194_13
theorem k194_16 : xcd 194 16 = oAl 0 17 := rfl
theorem r194_16 : zr 194 16 [.ref a0] st u P = zr 194 17 [.ref a0] (.ref a0 :: st) u P := zr_Al k194_16 rfl
theorem k194_17 : xcd 194 17 = oS 1 19 := rfl
theorem r194_17 : zr 194 17 [v0] st u P = zr 194 19 [v0] (.ref 1000001 :: st) u P := zr_S k194_17
theorem k194_19 : xcd 194 19 = oCalV 11 182 1 22 := rfl
theorem r194_19 : zr 194 19 [v0] (.ref b1 :: .ref b8 :: st) u P = ((xIs u b8 11 ∧ xcat st ≤ 8) ∧ zr 182 0 [.ref b8, .ref b1, .null, .null, .null] [] u (fun r u2 => zr 194 22 [v0] (r.toList ++ st) u2 P)) := zr_CV k194_19 rfl rfl rfl ⟨Nat.le_of_ble_eq_true rfl, Nat.succ_ne_zero _, by decide⟩ rfl
theorem k194_22 : xcd 194 22 = oIf (fun x => decide (x = 0)) 32 25 := rfl
theorem r194_22 : zr 194 22 [v0] (.int y1 :: st) u P = (if y1 = 0 then zr 194 32 [v0] st u P else zr 194 25 [v0] st u P) := zr_If k194_22
theorem k194_25 : xcd 194 25 = oAl 0 26 := rfl
theorem r194_25 : zr 194 25 [.ref a0] st u P = zr 194 26 [.ref a0] (.ref a0 :: st) u P := zr_Al k194_25 rfl
theorem k194_26 : xcd 194 26 = oCalV 11 197 0 29 := rfl
theorem r194_26 : zr 194 26 [v0] (.ref b8 :: st) u P = ((xIs u b8 11 ∧ xcat st ≤ 8) ∧ zr 197 0 [.ref b8, .null, .null, .null] [] u (fun r u2 => zr 194 29 [v0] (r.toList ++ st) u2 P)) := zr_CV k194_26 rfl rfl rfl ⟨Nat.le_of_ble_eq_true rfl, Nat.succ_ne_zero _, by decide⟩ rfl
theorem k194_29 : xcd 194 29 = oGoto 117 := rfl
theorem r194_29 : zr 194 29 [v0] st u P = zr 194 117 [v0] st u P := zr_Goto k194_29
theorem k194_32 : xcd 194 32 = oAl 0 33 := rfl
theorem r194_32 : zr 194 32 [.ref a0] st u P = zr 194 33 [.ref a0] (.ref a0 :: st) u P := zr_Al k194_32 rfl
theorem k194_33 : xcd 194 33 = oS 2 35 := rfl
theorem r194_33 : zr 194 33 [v0] st u P = zr 194 35 [v0] (.ref 1000002 :: st) u P := zr_S k194_33
theorem k194_35 : xcd 194 35 = oCalV 11 182 1 38 := rfl
theorem r194_35 : zr 194 35 [v0] (.ref b1 :: .ref b8 :: st) u P = ((xIs u b8 11 ∧ xcat st ≤ 8) ∧ zr 182 0 [.ref b8, .ref b1, .null, .null, .null] [] u (fun r u2 => zr 194 38 [v0] (r.toList ++ st) u2 P)) := zr_CV k194_35 rfl rfl rfl ⟨Nat.le_of_ble_eq_true rfl, Nat.succ_ne_zero _, by decide⟩ rfl
theorem k194_38 : xcd 194 38 = oIf (fun x => decide (x = 0)) 48 41 := rfl
theorem r194_38 : zr 194 38 [v0] (.int y1 :: st) u P = (if y1 = 0 then zr 194 48 [v0] st u P else zr 194 41 [v0] st u P) := zr_If k194_38
theorem k194_41 : xcd 194 41 = oAl 0 42 := rfl
theorem r194_41 : zr 194 41 [.ref a0] st u P = zr 194 42 [.ref a0] (.ref a0 :: st) u P := zr_Al k194_41 rfl
theorem k194_42 : xcd 194 42 = oCalV 11 198 0 45 := rfl
theorem r194_42 : zr 194 42 [v0] (.ref b8 :: st) u P = ((xIs u b8 11 ∧ xcat st ≤ 8) ∧ zr 198 0 [.ref b8, .null, .null, .null, .null, .null] [] u (fun r u2 => zr 194 45 [v0] (r.toList ++ st) u2 P)) := zr_CV k194_42 rfl rfl rfl ⟨Nat.le_of_ble_eq_true rfl, Nat.succ_ne_zero _, by decide⟩ rfl
theorem k194_45 : xcd 194 45 = oGoto 117 := rfl
theorem r194_45 : zr 194 45 [v0] st u P = zr 194 117 [v0] st u P := zr_Goto k194_45
theorem k194_48 : xcd 194 48 = oAl 0 49 := rfl
theorem r194_48 : zr 194 48 [.ref a0] st u P = zr 194 49 [.ref a0] (.ref a0 :: st) u P := zr_Al k194_48 rfl
theorem k194_49 : xcd 194 49 = oS 3 51 := rfl
theorem r194_49 : zr 194 49 [v0] st u P = zr 194 51 [v0] (.ref 1000003 :: st) u P := zr_S k194_49
theorem k194_51 : xcd 194 51 = oCalV 11 182 1 54 := rfl
theorem r194_51 : zr 194 51 [v0] (.ref b1 :: .ref b8 :: st) u P = ((xIs u b8 11 ∧ xcat st ≤ 8) ∧ zr 182 0 [.ref b8, .ref b1, .null, .null, .null] [] u (fun r u2 => zr 194 54 [v0] (r.toList ++ st) u2 P)) := zr_CV k194_51 rfl rfl rfl ⟨Nat.le_of_ble_eq_true rfl, Nat.succ_ne_zero _, by decide⟩ rfl
theorem k194_54 : xcd 194 54 = oIf (fun x => decide (x = 0)) 64 57 := rfl
theorem r194_54 : zr 194 54 [v0] (.int y1 :: st) u P = (if y1 = 0 then zr 194 64 [v0] st u P else zr 194 57 [v0] st u P) := zr_If k194_54
theorem k194_57 : xcd 194 57 = oAl 0 58 := rfl
theorem r194_57 : zr 194 57 [.ref a0] st u P = zr 194 58 [.ref a0] (.ref a0 :: st) u P := zr_Al k194_57 rfl
theorem k194_58 : xcd 194 58 = oCalV 11 201 0 61 := rfl
theorem r194_58 : zr 194 58 [v0] (.ref b8 :: st) u P = ((xIs u b8 11 ∧ xcat st ≤ 8) ∧ zr 201 0 [.ref b8, .null, .null, .null, .null, .null, .null] [] u (fun r u2 => zr 194 61 [v0] (r.toList ++ st) u2 P)) := zr_CV k194_58 rfl rfl rfl ⟨Nat.le_of_ble_eq_true rfl, Nat.succ_ne_zero _, by decide⟩ rfl
theorem k194_61 : xcd 194 61 = oGoto 117 := rfl
theorem r194_61 : zr 194 61 [v0] st u P = zr 194 117 [v0] st u P := zr_Goto k194_61
theorem k194_64 : xcd 194 64 = oAl 0 65 := rfl
theorem r194_64 : zr 194 64 [.ref a0] st u P = zr 194 65 [.ref a0] (.ref a0 :: st) u P := zr_Al k194_64 rfl
theorem k194_65 : xcd 194 65 = oS 4 67 := rfl
theorem r194_65 : zr 194 65 [v0] st u P = zr 194 67 [v0] (.ref 1000004 :: st) u P := zr_S k194_65
theorem k194_67 : xcd 194 67 = oCalV 11 182 1 70 := rfl
theorem r194_67 : zr 194 67 [v0] (.ref b1 :: .ref b8 :: st) u P = ((xIs u b8 11 ∧ xcat st ≤ 8) ∧ zr 182 0 [.ref b8, .ref b1, .null, .null, .null] [] u (fun r u2 => zr 194 70 [v0] (r.toList ++ st) u2 P)) := zr_CV k194_67 rfl rfl rfl ⟨Nat.le_of_ble_eq_true rfl, Nat.succ_ne_zero _, by decide⟩ rfl
theorem k194_70 : xcd 194 70 = oIf (fun x => decide (x = 0)) 80 73 := rfl
theorem r194_70 : zr 194 70 [v0] (.int y1 :: st) u P = (if y1 = 0 then zr 194 80 [v0] st u P else zr 194 73 [v0] st u P) := zr_If k194_70
theorem k194_73 : xcd 194 73 = oAl 0 74 := rfl
theorem r194_73 : zr 194 73 [.ref a0] st u P = zr 194 74 [.ref a0] (.ref a0 :: st) u P := zr_Al k194_73 rfl
theorem k194_74 : xcd 194 74 = oCalV 11 203 0 77 := rfl
theorem r194_74 : zr 194 74 [v0] (.ref b8 :: st) u P = ((xIs u b8 11 ∧ xcat st ≤ 8) ∧ zr 203 0 [.ref b8, .null, .null, .null, .null, .null] [] u (fun r u2 => zr 194 77 [v0] (r.toList ++ st) u2 P)) := zr_CV k194_74 rfl rfl rfl ⟨Nat.le_of_ble_eq_true rfl, Nat.succ_ne_zero _, by decide⟩ rfl
theorem k194_77 : xcd 194 77 = oGoto 117 := rfl
theorem r194_77 : zr 194 77 [v0] st u P = zr 194 117 [v0] st u P := zr_Goto k194_77
theorem k194_80 : xcd 194 80 = oAl 0 81 := rfl
theorem r194_80 : zr 194 80 [.ref a0] st u P = zr 194 81 [.ref a0] (.ref a0 :: st) u P := zr_Al k194_80 rfl
theorem k194_81 : xcd 194 81 = oS 5 83 := rfl
theorem r194_81 : zr 194 81 [v0] st u P = zr 194 83 [v0] (.ref 1000005 :: st) u P := zr_S k194_81
theorem k194_83 : xcd 194 83 = oCalV 11 182 1 86 := rfl
theorem r194_83 : zr 194 83 [v0] (.ref b1 :: .ref b8 :: st) u P = ((xIs u b8 11 ∧ xcat st ≤ 8) ∧ zr 182 0 [.ref b8, .ref b1, .null, .null, .null] [] u (fun r u2 => zr 194 86 [v0] (r.toList ++ st) u2 P)) := zr_CV k194_83 rfl rfl rfl ⟨Nat.le_of_ble_eq_true rfl, Nat.succ_ne_zero _, by decide⟩ rfl
theorem k194_86 : xcd 194 86 = oIf (fun x => decide (x = 0)) 96 89 := rfl
theorem r194_86 : zr 194 86 [v0] (.int y1 :: st) u P = (if y1 = 0 then zr 194 96 [v0] st u P else zr 194 89 [v0] st u P) := zr_If k194_86
theorem k194_89 : xcd 194 89 = oAl 0 90 := rfl
theorem r194_89 : zr 194 89 [.ref a0] st u P = zr 194 90 [.ref a0] (.ref a0 :: st) u P := zr_Al k194_89 rfl
theorem k194_90 : xcd 194 90 = oCalV 11 205 0 93 := rfl
theorem r194_90 : zr 194 90 [v0] (.ref b8 :: st) u P = ((xIs u b8 11 ∧ xcat st ≤ 8) ∧ zr 205 0 [.ref b8, .null, .null, .null, .null, .null, .null] [] u (fun r u2 => zr 194 93 [v0] (r.toList ++ st) u2 P)) := zr_CV k194_90 rfl rfl rfl ⟨Nat.le_of_ble_eq_true rfl, Nat.succ_ne_zero _, by decide⟩ rfl
theorem k194_93 : xcd 194 93 = oGoto 117 := rfl
theorem r194_93 : zr 194 93 [v0] st u P = zr 194 117 [v0] st u P := zr_Goto k194_93
theorem k194_96 : xcd 194 96 = oAl 0 97 := rfl
theorem r194_96 : zr 194 96 [.ref a0] st u P = zr 194 97 [.ref a0] (.ref a0 :: st) u P := zr_Al k194_96 rfl
theorem k194_97 : xcd 194 97 = oS 6 99 := rfl
theorem r194_97 : zr 194 97 [v0] st u P = zr 194 99 [v0] (.ref 1000006 :: st) u P := zr_S k194_97
theorem k194_99 : xcd 194 99 = oCalV 11 182 1 102 := rfl
theorem r194_99 : zr 194 99 [v0] (.ref b1 :: .ref b8 :: st) u P = ((xIs u b8 11 ∧ xcat st ≤ 8) ∧ zr 182 0 [.ref b8, .ref b1, .null, .null, .null] [] u (fun r u2 => zr 194 102 [v0] (r.toList ++ st) u2 P)) := zr_CV k194_99 rfl rfl rfl ⟨Nat.le_of_ble_eq_true rfl, Nat.succ_ne_zero _, by decide⟩ rfl
theorem k194_102 : xcd 194 102 = oIf (fun x => decide (x = 0)) 112 105 := rfl
theorem r194_102 : zr 194 102 [v0] (.int y1 :: st) u P = (if y1 = 0 then zr 194 112 [v0] st u P else zr 194 105 [v0] st u P) := zr_If k194_102
theorem k194_105 : xcd 194 105 = oAl 0 106 := rfl
theorem r194_105 : zr 194 105 [.ref a0] st u P = zr 194 106 [.ref a0] (.ref a0 :: st) u P := zr_Al k194_105 rfl
theorem k194_106 : xcd 194 106 = oCalV 11 207 0 109 := rfl
theorem r194_106 : zr 194 106 [v0] (.ref b8 :: st) u P = ((xIs u b8 11 ∧ xcat st ≤ 8) ∧ zr 207 0 [.ref b8, .null, .null, .null, .null] [] u (fun r u2 => zr 194 109 [v0] (r.toList ++ st) u2 P)) := zr_CV k194_106 rfl rfl rfl ⟨Nat.le_of_ble_eq_true rfl, Nat.succ_ne_zero _, by decide⟩ rfl
theorem k194_109 : xcd 194 109 = oGoto 117 := rfl
theorem r194_109 : zr 194 109 [v0] st u P = zr 194 117 [v0] st u P := zr_Goto k194_109
theorem k194_112 : xcd 194 112 = oAl 0 113 := rfl
theorem r194_112 : zr 194 112 [.ref a0] st u P = zr 194 113 [.ref a0] (.ref a0 :: st) u P := zr_Al k194_112 rfl
theorem k194_113 : xcd 194 113 = oI 1 114 := rfl
theorem r194_113 : zr 194 113 [v0] st u P = zr 194 114 [v0] (.int 1 :: st) u P := zr_I k194_113
theorem k194_114 : xcd 194 114 = oCalV 11 181 1 117 := rfl
theorem r194_114 : zr 194 114 [v0] (.int y1 :: .ref b8 :: st) u P = ((xIs u b8 11 ∧ xcat st ≤ 8) ∧ zr 181 0 [.ref b8, .int y1] [] u (fun r u2 => zr 194 117 [v0] (r.toList ++ st) u2 P)) := zr_CV k194_114 rfl rfl rfl ⟨Nat.le_of_ble_eq_true rfl, Nat.succ_ne_zero _, by decide⟩ rfl
theorem k194_117 : xcd 194 117 = oRv 0 := rfl
theorem r194_117 : zr 194 117 [v0] [] u P = P none u := zr_Rv k194_117
theorem k195_0 : xcd 195 0 = oAl 0 1 := rfl
theorem r195_0 : zr 195 0 [.ref a0, v1, v2] st u P = zr 195 1 [.ref a0, v1, v2] (.ref a0 :: st) u P := zr_Al k195_0 rfl
theorem k195_1 : xcd 195 1 = oGR 11 4 4 := rfl
theorem r195_1 : zr 195 1 [v0, v1, v2] (.ref b1 :: st) u P = (xIs u b1 11 ∧ ∃ b, xR u b1 4 = some b ∧ zr 195 4 [v0, v1, v2] (.ref b :: st) u P) := zr_GR k195_1
theorem k195_4 : xcd 195 4 = oI 0 5 := rfl
theorem r195_4 : zr 195 4 [v0, v1, v2] st u P = zr 195 5 [v0, v1, v2] (.int 0 :: st) u P := zr_I k195_4
theorem k195_5 : xcd 195 5 = oLd 13 6 := rfl
theorem r195_5 : zr 195 5 [v0, v1, v2] (.int y1 :: .ref b1 :: st) u P = ((xIs u b1 13 ∧ xinb y1 (xN u b1)) ∧ zr 195 6 [v0, v1, v2] (.int (xI u b1 (xix y1)) :: st) u P) := zr_Ld k195_5
theorem k195_6 : xcd 195 6 = oIf (fun x => decide (x ≤ 0)) 14 9 := rfl
theorem r195_6 : zr 195 6 [v0, v1, v2] (.int y1 :: st) u P = (if y1 ≤ 0 then zr 195 14 [v0, v1, v2] st u P else zr 195 9 [v0, v1, v2] st u P) := zr_If k195_6
theorem k195_9 : xcd 195 9 = oAl 0 10 := rfl
theorem r195_9 : zr 195 9 [.ref a0, v1, v2] st u P = zr 195 10 [.ref a0, v1, v2] (.ref a0 :: st) u P := zr_Al k195_9 rfl
theorem k195_10 : xcd 195 10 = oI 3 11 := rfl
theorem r195_10 : zr 195 10 [v0, v1, v2] st u P = zr 195 11 [v0, v1, v2] (.int 3 :: st) u P := zr_I k195_10
theorem k195_11 : xcd 195 11 = oCalV 11 181 1 14 := rfl
theorem r195_11 : zr 195 11 [v0, v1, v2] (.int y1 :: .ref b8 :: st) u P = ((xIs u b8 11 ∧ xcat st ≤ 8) ∧ zr 181 0 [.ref b8, .int y1] [] u (fun r u2 => zr 195 14 [v0, v1, v2] (r.toList ++ st) u2 P)) := zr_CV k195_11 rfl rfl rfl ⟨Nat.le_of_ble_eq_true rfl, Nat.succ_ne_zero _, by decide⟩ rfl
theorem k195_14 : xcd 195 14 = oAl 0 15 := rfl
theorem r195_14 : zr 195 14 [.ref a0, v1, v2] st u P = zr 195 15 [.ref a0, v1, v2] (.ref a0 :: st) u P := zr_Al k195_14 rfl
theorem k195_15 : xcd 195 15 = oCalV 11 177 0 18 := rfl
theorem r195_15 : zr 195 15 [v0, v1, v2] (.ref b8 :: st) u P = ((xIs u b8 11 ∧ xcat st ≤ 8) ∧ zr 177 0 [.ref b8, .null] [] u (fun r u2 => zr 195 18 [v0, v1, v2] (r.toList ++ st) u2 P)) := zr_CV k195_15 rfl rfl rfl ⟨Nat.le_of_ble_eq_true rfl, Nat.succ_ne_zero _, by decide⟩ rfl
theorem k195_18 : xcd 195 18 = oAl 0 19 := rfl
theorem r195_18 : zr 195 18 [.ref a0, v1, v2] st u P = zr 195 19 [.ref a0, v1, v2] (.ref a0 :: st) u P := zr_Al k195_18 rfl
theorem k195_19 : xcd 195 19 = oS 10 21 := rfl
theorem r195_19 : zr 195 19 [v0, v1, v2] st u P = zr 195 21 [v0, v1, v2] (.ref 1000010 :: st) u P := zr_S k195_19
theorem k195_21 : xcd 195 21 = oI 2 22 := rfl
theorem r195_21 : zr 195 21 [v0, v1, v2] st u P = zr 195 22 [v0, v1, v2] (.int 2 :: st) u P := zr_I k195_21
theorem k195_22 : xcd 195 22 = oI 40 24 := rfl
theorem r195_22 : zr 195 22 [v0, v1, v2] st u P = zr 195 24 [v0, v1, v2] (.int 40 :: st) u P := zr_I k195_22
theorem k195_24 : xcd 195 24 = oCalV 11 185 3 27 := rfl
theorem r195_24 : zr 195 24 [v0, v1, v2] (.int y3 :: .int y2 :: .ref b1 :: .ref b8 :: st) u P = ((xIs u b8 11 ∧ xcat st ≤ 8) ∧ zr 185 0 [.ref b8, .ref b1, .int y2, .int y3] [] u (fun r u2 => zr 195 27 [v0, v1, v2] (r.toList ++ st) u2 P)) := zr_CV k195_24 rfl rfl rfl ⟨Nat.le_of_ble_eq_true rfl, Nat.succ_ne_zero _, by decide⟩ rfl
theorem k195_27 : xcd 195 27 = oIs 1 28 := rfl
theorem r195_27 : zr 195 27 [.ref a0, v1, v2] (.int y1 :: st) u P = zr 195 28 [.ref a0, .int y1, v2] st u P := zr_Is k195_27 ⟨Nat.le_of_ble_eq_true rfl, rfl⟩
theorem k195_28 : xcd 195 28 = oAl 0 29 := rfl
theorem r195_28 : zr 195 28 [.ref a0, v1, v2] st u P = zr 195 29 [.ref a0, v1, v2] (.ref a0 :: st) u P := zr_Al k195_28 rfl
theorem k195_29 : xcd 195 29 = oS 11 31 := rfl
theorem r195_29 : zr 195 29 [v0, v1, v2] st u P = zr 195 31 [v0, v1, v2] (.ref 1000011 :: st) u P := zr_S k195_29
theorem k195_31 : xcd 195 31 = oI 1 32 := rfl
theorem r195_31 : zr 195 31 [v0, v1, v2] st u P = zr 195 32 [v0, v1, v2] (.int 1 :: st) u P := zr_I k195_31
theorem k195_32 : xcd 195 32 = oI 4 33 := rfl
theorem r195_32 : zr 195 32 [v0, v1, v2] st u P = zr 195 33 [v0, v1, v2] (.int 4 :: st) u P := zr_I k195_32
theorem k195_33 : xcd 195 33 = oCalV 11 185 3 36 := rfl
theorem r195_33 : zr 195 33 [v0, v1, v2] (.int y3 :: .int y2 :: .ref b1 :: .ref b8 :: st) u P = ((xIs u b8 11 ∧ xcat st ≤ 8) ∧ zr 185 0 [.ref b8, .ref b1, .int y2, .int y3] [] u (fun r u2 => zr 195 36 [v0, v1, v2] (r.toList ++ st) u2 P)) := zr_CV k195_33 rfl rfl rfl ⟨Nat.le_of_ble_eq_true rfl, Nat.succ_ne_zero _, by decide⟩ rfl
theorem k195_36 : xcd 195 36 = oIs 2 37 := rfl
theorem r195_36 : zr 195 36 [v0, .int x1, v2] (.int y1 :: st) u P = zr 195 37 [v0, .int x1, .int y1] st u P := zr_Is k195_36 ⟨Nat.le_of_ble_eq_true rfl, rfl⟩
theorem k195_37 : xcd 195 37 = oAl 0 38 := rfl
theorem r195_37 : zr 195 37 [.ref a0, v1, v2] st u P = zr 195 38 [.ref a0, v1, v2] (.ref a0 :: st) u P := zr_Al k195_37 rfl
theorem k195_38 : xcd 195 38 = oGI 11 15 41 := rfl
theorem r195_38 : zr 195 38 [v0, v1, v2] (.ref b1 :: st) u P = (xIs u b1 11 ∧ zr 195 41 [v0, v1, v2] (.int (xI u b1 15) :: st) u P) := zr_GI k195_38
theorem k195_41 : xcd 195 41 = oIf (fun x => decide (x ≤ 0)) 45 44 := rfl
theorem r195_41 : zr 195 41 [v0, v1, v2] (.int y1 :: st) u P = (if y1 ≤ 0 then zr 195 45 [v0, v1, v2] st u P else zr 195 44 [v0, v1, v2] st u P) := zr_If k195_41
theorem k195_44 : xcd 195 44 = oRv 0 := rfl
theorem r195_44 : zr 195 44 [v0, v1, v2] [] u P = P none u := zr_Rv k195_44
theorem k195_45 : xcd 195 45 = oAl 0 46 := rfl
theorem r195_45 : zr 195 45 [.ref a0, v1, v2] st u P = zr 195 46 [.ref a0, v1, v2] (.ref a0 :: st) u P := zr_Al k195_45 rfl
theorem k195_46 : xcd 195 46 = oGR 11 4 49 := rfl
theorem r195_46 : zr 195 46 [v0, v1, v2] (.ref b1 :: st) u P = (xIs u b1 11 ∧ ∃ b, xR u b1 4 = some b ∧ zr 195 49 [v0, v1, v2] (.ref b :: st) u P) := zr_GR k195_46
theorem k195_49 : xcd 195 49 = oI 0 50 := rfl
theorem r195_49 : zr 195 49 [v0, v1, v2] st u P = zr 195 50 [v0, v1, v2] (.int 0 :: st) u P := zr_I k195_49
theorem k195_50 : xcd 195 50 = oIl 1 51 := rfl
theorem r195_50 : zr 195 50 [v0, .int x1, v2] st u P = zr 195 51 [v0, .int x1, v2] (.int x1 :: st) u P := zr_Il k195_50 rfl
theorem k195_51 : xcd 195 51 = oSt 13 (fun x => x) 52 := rfl
theorem r195_51 : zr 195 51 [v0, v1, v2] (.int y2 :: .int y1 :: .ref b1 :: st) u P = ((xIs u b1 13 ∧ xinb y1 (xN u b1)) ∧ zr 195 52 [v0, v1, v2] st (xsI u b1 (xix y1) y2) P) := zr_St k195_51
theorem k195_52 : xcd 195 52 = oAl 0 53 := rfl
theorem r195_52 : zr 195 52 [.ref a0, v1, v2] st u P = zr 195 53 [.ref a0, v1, v2] (.ref a0 :: st) u P := zr_Al k195_52 rfl
theorem k195_53 : xcd 195 53 = oGR 11 4 56 := rfl
theorem r195_53 : zr 195 53 [v0, v1, v2] (.ref b1 :: st) u P = (xIs u b1 11 ∧ ∃ b, xR u b1 4 = some b ∧ zr 195 56 [v0, v1, v2] (.ref b :: st) u P) := zr_GR k195_53
theorem k195_56 : xcd 195 56 = oI 1 57 := rfl
theorem r195_56 : zr 195 56 [v0, v1, v2] st u P = zr 195 57 [v0, v1, v2] (.int 1 :: st) u P := zr_I k195_56
theorem k195_57 : xcd 195 57 = oIl 2 58 := rfl
theorem r195_57 : zr 195 57 [v0, v1, .int x2] st u P = zr 195 58 [v0, v1, .int x2] (.int x2 :: st) u P := zr_Il k195_57 rfl
theorem k195_58 : xcd 195 58 = oSt 13 (fun x => x) 59 := rfl
theorem r195_58 : zr 195 58 [v0, v1, v2] (.int y2 :: .int y1 :: .ref b1 :: st) u P = ((xIs u b1 13 ∧ xinb y1 (xN u b1)) ∧ zr 195 59 [v0, v1, v2] st (xsI u b1 (xix y1) y2) P) := zr_St k195_58
theorem k195_59 : xcd 195 59 = oRv 0 := rfl
theorem r195_59 : zr 195 59 [v0, v1, v2] [] u P = P none u := zr_Rv k195_59
theorem k196_0 : xcd 196 0 = oAl 0 1 := rfl
theorem r196_0 : zr 196 0 [.ref a0, v1, v2] st u P = zr 196 1 [.ref a0, v1, v2] (.ref a0 :: st) u P := zr_Al k196_0 rfl
theorem k196_1 : xcd 196 1 = oGR 11 4 4 := rfl
theorem r196_1 : zr 196 1 [v0, v1, v2] (.ref b1 :: st) u P = (xIs u b1 11 ∧ ∃ b, xR u b1 4 = some b ∧ zr 196 4 [v0, v1, v2] (.ref b :: st) u P) := zr_GR k196_1
theorem k196_4 : xcd 196 4 = oIl 1 5 := rfl
theorem r196_4 : zr 196 4 [v0, .int x1, v2] st u P = zr 196 5 [v0, .int x1, v2] (.int x1 :: st) u P := zr_Il k196_4 rfl
theorem k196_5 : xcd 196 5 = oLd 13 6 := rfl
theorem r196_5 : zr 196 5 [v0, v1, v2] (.int y1 :: .ref b1 :: st) u P = ((xIs u b1 13 ∧ xinb y1 (xN u b1)) ∧ zr 196 6 [v0, v1, v2] (.int (xI u b1 (xix y1)) :: st) u P) := zr_Ld k196_5
theorem k196_6 : xcd 196 6 = oIl 2 7 := rfl
theorem r196_6 : zr 196 6 [v0, v1, .int x2] st u P = zr 196 7 [v0, v1, .int x2] (.int x2 :: st) u P := zr_Il k196_6 rfl
theorem k196_7 : xcd 196 7 = oCmp (fun x y => decide (¬ x = y)) 15 10 := rfl
theorem r196_7 : zr 196 7 [v0, v1, v2] (.int y1 :: .int y2 :: st) u P = (if ¬ y2 = y1 then zr 196 15 [v0, v1, v2] st u P else zr 196 10 [v0, v1, v2] st u P) := zr_Cmp k196_7
theorem k196_10 : xcd 196 10 = oAl 0 11 := rfl
theorem r196_10 : zr 196 10 [.ref a0, v1, v2] st u P = zr 196 11 [.ref a0, v1, v2] (.ref a0 :: st) u P := zr_Al k196_10 rfl
theorem k196_11 : xcd 196 11 = oI 5 12 := rfl
theorem r196_11 : zr 196 11 [v0, v1, v2] st u P = zr 196 12 [v0, v1, v2] (.int 5 :: st) u P := zr_I k196_11
theorem k196_12 : xcd 196 12 = oCalV 11 181 1 15 := rfl
theorem r196_12 : zr 196 12 [v0, v1, v2] (.int y1 :: .ref b8 :: st) u P = ((xIs u b8 11 ∧ xcat st ≤ 8) ∧ zr 181 0 [.ref b8, .int y1] [] u (fun r u2 => zr 196 15 [v0, v1, v2] (r.toList ++ st) u2 P)) := zr_CV k196_12 rfl rfl rfl ⟨Nat.le_of_ble_eq_true rfl, Nat.succ_ne_zero _, by decide⟩ rfl
theorem k196_15 : xcd 196 15 = oAl 0 16 := rfl
theorem r196_15 : zr 196 15 [.ref a0, v1, v2] st u P = zr 196 16 [.ref a0, v1, v2] (.ref a0 :: st) u P := zr_Al k196_15 rfl
theorem k196_16 : xcd 196 16 = oGR 11 4 19 := rfl
theorem r196_16 : zr 196 16 [v0, v1, v2] (.ref b1 :: st) u P = (xIs u b1 11 ∧ ∃ b, xR u b1 4 = some b ∧ zr 196 19 [v0, v1, v2] (.ref b :: st) u P) := zr_GR k196_16
theorem k196_19 : xcd 196 19 = oI 0 20 := rfl
theorem r196_19 : zr 196 19 [v0, v1, v2] st u P = zr 196 20 [v0, v1, v2] (.int 0 :: st) u P := zr_I k196_19
theorem k196_20 : xcd 196 20 = oLd 13 21 := rfl
theorem r196_20 : zr 196 20 [v0, v1, v2] (.int y1 :: .ref b1 :: st) u P = ((xIs u b1 13 ∧ xinb y1 (xN u b1)) ∧ zr 196 21 [v0, v1, v2] (.int (xI u b1 (xix y1)) :: st) u P) := zr_Ld k196_20
theorem k196_21 : xcd 196 21 = oIf (fun x => decide (¬ x = 0)) 30 24 := rfl
theorem r196_21 : zr 196 21 [v0, v1, v2] (.int y1 :: st) u P = (if ¬ y1 = 0 then zr 196 30 [v0, v1, v2] st u P else zr 196 24 [v0, v1, v2] st u P) := zr_If k196_21
theorem k196_24 : xcd 196 24 = oAl 0 25 := rfl
theorem r196_24 : zr 196 24 [.ref a0, v1, v2] st u P = zr 196 25 [.ref a0, v1, v2] (.ref a0 :: st) u P := zr_Al k196_24 rfl
theorem k196_25 : xcd 196 25 = oI 6 27 := rfl
theorem r196_25 : zr 196 25 [v0, v1, v2] st u P = zr 196 27 [v0, v1, v2] (.int 6 :: st) u P := zr_I k196_25
theorem k196_27 : xcd 196 27 = oCalV 11 181 1 30 := rfl
theorem r196_27 : zr 196 27 [v0, v1, v2] (.int y1 :: .ref b8 :: st) u P = ((xIs u b8 11 ∧ xcat st ≤ 8) ∧ zr 181 0 [.ref b8, .int y1] [] u (fun r u2 => zr 196 30 [v0, v1, v2] (r.toList ++ st) u2 P)) := zr_CV k196_27 rfl rfl rfl ⟨Nat.le_of_ble_eq_true rfl, Nat.succ_ne_zero _, by decide⟩ rfl
theorem k196_30 : xcd 196 30 = oAl 0 31 := rfl
theorem r196_30 : zr 196 30 [.ref a0, v1, v2] st u P = zr 196 31 [.ref a0, v1, v2] (.ref a0 :: st) u P := zr_Al k196_30 rfl
theorem k196_31 : xcd 196 31 = oCalV 11 177 0 34 := rfl
theorem r196_31 : zr 196 31 [v0, v1, v2] (.ref b8 :: st) u P = ((xIs u b8 11 ∧ xcat st ≤ 8) ∧ zr 177 0 [.ref b8, .null] [] u (fun r u2 => zr 196 34 [v0, v1, v2] (r.toList ++ st) u2 P)) := zr_CV k196_31 rfl rfl rfl ⟨Nat.le_of_ble_eq_true rfl, Nat.succ_ne_zero _, by decide⟩ rfl
theorem k196_34 : xcd 196 34 = oRv 0 := rfl
theorem r196_34 : zr 196 34 [v0, v1, v2] [] u P = P none u := zr_Rv k196_34
theorem k197_0 : xcd 197 0 = oAl 0 1 := rfl
theorem r197_0 : zr 197 0 [.ref a0, v1, v2, v3] st u P = zr 197 1 [.ref a0, v1, v2, v3] (.ref a0 :: st) u P := zr_Al k197_0 rfl
theorem k197_1 : xcd 197 1 = oI 2 2 := rfl
theorem r197_1 : zr 197 1 [v0, v1, v2, v3] st u P = zr 197 2 [v0, v1, v2, v3] (.int 2 :: st) u P := zr_I k197_1
theorem k197_2 : xcd 197 2 = oI 6 4 := rfl
theorem r197_2 : zr 197 2 [v0, v1, v2, v3] st u P = zr 197 4 [v0, v1, v2, v3] (.int 6 :: st) u P := zr_I k197_2
theorem k197_4 : xcd 197 4 = oCalV 11 196 2 7 := rfl
theorem r197_4 : zr 197 4 [v0, v1, v2, v3] (.int y2 :: .int y1 :: .ref b8 :: st) u P = ((xIs u b8 11 ∧ xcat st ≤ 8) ∧ zr 196 0 [.ref b8, .int y1, .int y2] [] u (fun r u2 => zr 197 7 [v0, v1, v2, v3] (r.toList ++ st) u2 P)) := zr_CV k197_4 rfl rfl rfl ⟨Nat.le_of_ble_eq_true rfl, Nat.succ_ne_zero _, by decide⟩ rfl
theorem k197_7 : xcd 197 7 = oAl 0 8 := rfl
theorem r197_7 : zr 197 7 [.ref a0, v1, v2, v3] st u P = zr 197 8 [.ref a0, v1, v2, v3] (.ref a0 :: st) u P := zr_Al k197_7 rfl
theorem k197_8 : xcd 197 8 = oCalV 11 190 0 11 := rfl
theorem r197_8 : zr 197 8 [v0, v1, v2, v3] (.ref b8 :: st) u P = ((xIs u b8 11 ∧ xcat st ≤ 8) ∧ zr 190 0 [.ref b8, .null, .null] [] u (fun r u2 => zr 197 11 [v0, v1, v2, v3] (r.toList ++ st) u2 P)) := zr_CV k197_8 rfl rfl rfl ⟨Nat.le_of_ble_eq_true rfl, Nat.succ_ne_zero _, by decide⟩ rfl
theorem k197_11 : xcd 197 11 = oJs 1 12 := rfl
theorem r197_11 : zr 197 11 [.ref a0, v1, v2, v3] (.long w1 :: st) u P = zr 197 12 [.ref a0, .long w1, .null, v3] st u P := zr_Js k197_11 ⟨Nat.le_of_ble_eq_true rfl, rfl⟩
theorem k197_12 : xcd 197 12 = oAl 0 13 := rfl
theorem r197_12 : zr 197 12 [.ref a0, v1, v2, v3] st u P = zr 197 13 [.ref a0, v1, v2, v3] (.ref a0 :: st) u P := zr_Al k197_12 rfl
theorem k197_13 : xcd 197 13 = oS 7 15 := rfl
theorem r197_13 : zr 197 13 [v0, v1, v2, v3] st u P = zr 197 15 [v0, v1, v2, v3] (.ref 1000007 :: st) u P := zr_S k197_13
theorem k197_15 : xcd 197 15 = oCalV 11 183 1 18 := rfl
theorem r197_15 : zr 197 15 [v0, v1, v2, v3] (.ref b1 :: .ref b8 :: st) u P = ((xIs u b8 11 ∧ xcat st ≤ 8) ∧ zr 183 0 [.ref b8, .ref b1, .null] [] u (fun r u2 => zr 197 18 [v0, v1, v2, v3] (r.toList ++ st) u2 P)) := zr_CV k197_15 rfl rfl rfl ⟨Nat.le_of_ble_eq_true rfl, Nat.succ_ne_zero _, by decide⟩ rfl
theorem k197_18 : xcd 197 18 = oIf (fun x => decide (x = 0)) 29 21 := rfl
theorem r197_18 : zr 197 18 [v0, v1, v2, v3] (.int y1 :: st) u P = (if y1 = 0 then zr 197 29 [v0, v1, v2, v3] st u P else zr 197 21 [v0, v1, v2, v3] st u P) := zr_If k197_18
theorem k197_21 : xcd 197 21 = oAl 0 22 := rfl
theorem r197_21 : zr 197 21 [.ref a0, v1, v2, v3] st u P = zr 197 22 [.ref a0, v1, v2, v3] (.ref a0 :: st) u P := zr_Al k197_21 rfl
theorem k197_22 : xcd 197 22 = oI 1 23 := rfl
theorem r197_22 : zr 197 22 [v0, v1, v2, v3] st u P = zr 197 23 [v0, v1, v2, v3] (.int 1 :: st) u P := zr_I k197_22
theorem k197_23 : xcd 197 23 = oCalV 11 192 1 26 := rfl
theorem r197_23 : zr 197 23 [v0, v1, v2, v3] (.int y1 :: .ref b8 :: st) u P = ((xIs u b8 11 ∧ xcat st ≤ 8) ∧ zr 192 0 [.ref b8, .int y1, .null] [] u (fun r u2 => zr 197 26 [v0, v1, v2, v3] (r.toList ++ st) u2 P)) := zr_CV k197_23 rfl rfl rfl ⟨Nat.le_of_ble_eq_true rfl, Nat.succ_ne_zero _, by decide⟩ rfl
theorem k197_26 : xcd 197 26 = oGoto 31 := rfl
theorem r197_26 : zr 197 26 [v0, v1, v2, v3] st u P = zr 197 31 [v0, v1, v2, v3] st u P := zr_Goto k197_26
theorem k197_29 : xcd 197 29 = oI (-2) 31 := rfl
theorem r197_29 : zr 197 29 [v0, v1, v2, v3] st u P = zr 197 31 [v0, v1, v2, v3] (.int (-2) :: st) u P := zr_I k197_29
theorem k197_31 : xcd 197 31 = oIs 3 32 := rfl
theorem r197_31 : zr 197 31 [v0, v1, .null, v3] (.int y1 :: st) u P = zr 197 32 [v0, v1, .null, .int y1] st u P := zr_Is k197_31 ⟨Nat.le_of_ble_eq_true rfl, rfl⟩
theorem k197_32 : xcd 197 32 = oAl 0 33 := rfl
theorem r197_32 : zr 197 32 [.ref a0, v1, v2, v3] st u P = zr 197 33 [.ref a0, v1, v2, v3] (.ref a0 :: st) u P := zr_Al k197_32 rfl
theorem k197_33 : xcd 197 33 = oGI 11 15 36 := rfl
theorem r197_33 : zr 197 33 [v0, v1, v2, v3] (.ref b1 :: st) u P = (xIs u b1 11 ∧ zr 197 36 [v0, v1, v2, v3] (.int (xI u b1 15) :: st) u P) := zr_GI k197_33
theorem k197_36 : xcd 197 36 = oIf (fun x => decide (x ≤ 0)) 40 39 := rfl
theorem r197_36 : zr 197 36 [v0, v1, v2, v3] (.int y1 :: st) u P = (if y1 ≤ 0 then zr 197 40 [v0, v1, v2, v3] st u P else zr 197 39 [v0, v1, v2, v3] st u P) := zr_If k197_36
theorem k197_39 : xcd 197 39 = oRv 0 := rfl
theorem r197_39 : zr 197 39 [v0, v1, v2, v3] [] u P = P none u := zr_Rv k197_39
theorem k197_40 : xcd 197 40 = oAl 0 41 := rfl
theorem r197_40 : zr 197 40 [.ref a0, v1, v2, v3] st u P = zr 197 41 [.ref a0, v1, v2, v3] (.ref a0 :: st) u P := zr_Al k197_40 rfl
theorem k197_41 : xcd 197 41 = oGR 11 5 44 := rfl
theorem r197_41 : zr 197 41 [v0, v1, v2, v3] (.ref b1 :: st) u P = (xIs u b1 11 ∧ ∃ b, xR u b1 5 = some b ∧ zr 197 44 [v0, v1, v2, v3] (.ref b :: st) u P) := zr_GR k197_41
theorem k197_44 : xcd 197 44 = oAl 0 45 := rfl
theorem r197_44 : zr 197 44 [.ref a0, v1, v2, v3] st u P = zr 197 45 [.ref a0, v1, v2, v3] (.ref a0 :: st) u P := zr_Al k197_44 rfl
theorem k197_45 : xcd 197 45 = oGR 11 4 48 := rfl
theorem r197_45 : zr 197 45 [v0, v1, v2, v3] (.ref b1 :: st) u P = (xIs u b1 11 ∧ ∃ b, xR u b1 4 = some b ∧ zr 197 48 [v0, v1, v2, v3] (.ref b :: st) u P) := zr_GR k197_45
theorem k197_48 : xcd 197 48 = oI 2 49 := rfl
theorem r197_48 : zr 197 48 [v0, v1, v2, v3] st u P = zr 197 49 [v0, v1, v2, v3] (.int 2 :: st) u P := zr_I k197_48
theorem k197_49 : xcd 197 49 = oLd 13 50 := rfl
theorem r197_49 : zr 197 49 [v0, v1, v2, v3] (.int y1 :: .ref b1 :: st) u P = ((xIs u b1 13 ∧ xinb y1 (xN u b1)) ∧ zr 197 50 [v0, v1, v2, v3] (.int (xI u b1 (xix y1)) :: st) u P) := zr_Ld k197_49
theorem k197_50 : xcd 197 50 = oJl 1 51 := rfl
theorem r197_50 : zr 197 50 [v0, .long j1, v2, v3] st u P = zr 197 51 [v0, .long j1, v2, v3] (.long j1 :: st) u P := zr_Jl k197_50 rfl
theorem k197_51 : xcd 197 51 = oStJ 52 := rfl
theorem r197_51 : zr 197 51 [v0, v1, v2, v3] (.long w1 :: .int y1 :: .ref b1 :: st) u P = ((xIs u b1 14 ∧ xinb y1 (xN u b1)) ∧ zr 197 52 [v0, v1, v2, v3] st (xsJ u b1 (xix y1) w1) P) := zr_StJ k197_51
theorem k197_52 : xcd 197 52 = oAl 0 53 := rfl
theorem r197_52 : zr 197 52 [.ref a0, v1, v2, v3] st u P = zr 197 53 [.ref a0, v1, v2, v3] (.ref a0 :: st) u P := zr_Al k197_52 rfl
theorem k197_53 : xcd 197 53 = oGR 11 4 56 := rfl
theorem r197_53 : zr 197 53 [v0, v1, v2, v3] (.ref b1 :: st) u P = (xIs u b1 11 ∧ ∃ b, xR u b1 4 = some b ∧ zr 197 56 [v0, v1, v2, v3] (.ref b :: st) u P) := zr_GR k197_53
theorem k197_56 : xcd 197 56 = oI 8 58 := rfl
theorem r197_56 : zr 197 56 [v0, v1, v2, v3] st u P = zr 197 58 [v0, v1, v2, v3] (.int 8 :: st) u P := zr_I k197_56
theorem k197_58 : xcd 197 58 = oAl 0 59 := rfl
theorem r197_58 : zr 197 58 [.ref a0, v1, v2, v3] st u P = zr 197 59 [.ref a0, v1, v2, v3] (.ref a0 :: st) u P := zr_Al k197_58 rfl
theorem k197_59 : xcd 197 59 = oGR 11 4 62 := rfl
theorem r197_59 : zr 197 59 [v0, v1, v2, v3] (.ref b1 :: st) u P = (xIs u b1 11 ∧ ∃ b, xR u b1 4 = some b ∧ zr 197 62 [v0, v1, v2, v3] (.ref b :: st) u P) := zr_GR k197_59
theorem k197_62 : xcd 197 62 = oI 2 63 := rfl
theorem r197_62 : zr 197 62 [v0, v1, v2, v3] st u P = zr 197 63 [v0, v1, v2, v3] (.int 2 :: st) u P := zr_I k197_62
theorem k197_63 : xcd 197 63 = oLd 13 64 := rfl
theorem r197_63 : zr 197 63 [v0, v1, v2, v3] (.int y1 :: .ref b1 :: st) u P = ((xIs u b1 13 ∧ xinb y1 (xN u b1)) ∧ zr 197 64 [v0, v1, v2, v3] (.int (xI u b1 (xix y1)) :: st) u P) := zr_Ld k197_63
theorem k197_64 : xcd 197 64 = oB (fun x y => x + y) 65 := rfl
theorem r197_64 : zr 197 64 [v0, v1, v2, v3] (.int y1 :: .int y2 :: st) u P = zr 197 65 [v0, v1, v2, v3] (.int (y2 + y1) :: st) u P := zr_B k197_64
theorem k197_65 : xcd 197 65 = oIl 3 66 := rfl
theorem r197_65 : zr 197 65 [v0, v1, v2, .int x3] st u P = zr 197 66 [v0, v1, v2, .int x3] (.int x3 :: st) u P := zr_Il k197_65 rfl
theorem k197_66 : xcd 197 66 = oSt 13 (fun x => x) 67 := rfl
theorem r197_66 : zr 197 66 [v0, v1, v2, v3] (.int y2 :: .int y1 :: .ref b1 :: st) u P = ((xIs u b1 13 ∧ xinb y1 (xN u b1)) ∧ zr 197 67 [v0, v1, v2, v3] st (xsI u b1 (xix y1) y2) P) := zr_St k197_66
theorem k197_67 : xcd 197 67 = oAl 0 68 := rfl
theorem r197_67 : zr 197 67 [.ref a0, v1, v2, v3] st u P = zr 197 68 [.ref a0, v1, v2, v3] (.ref a0 :: st) u P := zr_Al k197_67 rfl
theorem k197_68 : xcd 197 68 = oGR 11 4 71 := rfl
theorem r197_68 : zr 197 68 [v0, v1, v2, v3] (.ref b1 :: st) u P = (xIs u b1 11 ∧ ∃ b, xR u b1 4 = some b ∧ zr 197 71 [v0, v1, v2, v3] (.ref b :: st) u P) := zr_GR k197_68
theorem k197_71 : xcd 197 71 = oI 2 72 := rfl
theorem r197_71 : zr 197 71 [v0, v1, v2, v3] st u P = zr 197 72 [v0, v1, v2, v3] (.int 2 :: st) u P := zr_I k197_71
theorem k197_72 : xcd 197 72 = oDup2 73 := rfl
theorem r197_72 : zr 197 72 [v0, v1, v2, v3] (.int y1 :: .ref b1 :: st) u P = zr 197 73 [v0, v1, v2, v3] (.int y1 :: .ref b1 :: .int y1 :: .ref b1 :: st) u P := zr_Dup2 k197_72
theorem k197_73 : xcd 197 73 = oLd 13 74 := rfl
theorem r197_73 : zr 197 73 [v0, v1, v2, v3] (.int y1 :: .ref b1 :: st) u P = ((xIs u b1 13 ∧ xinb y1 (xN u b1)) ∧ zr 197 74 [v0, v1, v2, v3] (.int (xI u b1 (xix y1)) :: st) u P) := zr_Ld k197_73
theorem k197_74 : xcd 197 74 = oI 1 75 := rfl
theorem r197_74 : zr 197 74 [v0, v1, v2, v3] st u P = zr 197 75 [v0, v1, v2, v3] (.int 1 :: st) u P := zr_I k197_74
theorem k197_75 : xcd 197 75 = oB (fun x y => x + y) 76 := rfl
theorem r197_75 : zr 197 75 [v0, v1, v2, v3] (.int y1 :: .int y2 :: st) u P = zr 197 76 [v0, v1, v2, v3] (.int (y2 + y1) :: st) u P := zr_B k197_75
theorem k197_76 : xcd 197 76 = oSt 13 (fun x => x) 77 := rfl
theorem r197_76 : zr 197 76 [v0, v1, v2, v3] (.int y2 :: .int y1 :: .ref b1 :: st) u P = ((xIs u b1 13 ∧ xinb y1 (xN u b1)) ∧ zr 197 77 [v0, v1, v2, v3] st (xsI u b1 (xix y1) y2) P) := zr_St k197_76
theorem k197_77 : xcd 197 77 = oRv 0 := rfl
theorem r197_77 : zr 197 77 [v0, v1, v2, v3] [] u P = P none u := zr_Rv k197_77
theorem k198_0 : xcd 198 0 = oAl 0 1 := rfl
theorem r198_0 : zr 198 0 [.ref a0, v1, v2, v3, v4, v5] st u P = zr 198 1 [.ref a0, v1, v2, v3, v4, v5] (.ref a0 :: st) u P := zr_Al k198_0 rfl
theorem k198_1 : xcd 198 1 = oI 3 2 := rfl
theorem r198_1 : zr 198 1 [v0, v1, v2, v3, v4, v5] st u P = zr 198 2 [v0, v1, v2, v3, v4, v5] (.int 3 :: st) u P := zr_I k198_1
theorem k198_2 : xcd 198 2 = oI 10 4 := rfl
theorem r198_2 : zr 198 2 [v0, v1, v2, v3, v4, v5] st u P = zr 198 4 [v0, v1, v2, v3, v4, v5] (.int 10 :: st) u P := zr_I k198_2
theorem k198_4 : xcd 198 4 = oCalV 11 196 2 7 := rfl
theorem r198_4 : zr 198 4 [v0, v1, v2, v3, v4, v5] (.int y2 :: .int y1 :: .ref b8 :: st) u P = ((xIs u b8 11 ∧ xcat st ≤ 8) ∧ zr 196 0 [.ref b8, .int y1, .int y2] [] u (fun r u2 => zr 198 7 [v0, v1, v2, v3, v4, v5] (r.toList ++ st) u2 P)) := zr_CV k198_4 rfl rfl rfl ⟨Nat.le_of_ble_eq_true rfl, Nat.succ_ne_zero _, by decide⟩ rfl
theorem k198_7 : xcd 198 7 = oAl 0 8 := rfl
theorem r198_7 : zr 198 7 [.ref a0, v1, v2, v3, v4, v5] st u P = zr 198 8 [.ref a0, v1, v2, v3, v4, v5] (.ref a0 :: st) u P := zr_Al k198_7 rfl
theorem k198_8 : xcd 198 8 = oCalV 11 190 0 11 := rfl
theorem r198_8 : zr 198 8 [v0, v1, v2, v3, v4, v5] (.ref b8 :: st) u P = ((xIs u b8 11 ∧ xcat st ≤ 8) ∧ zr 190 0 [.ref b8, .null, .null] [] u (fun r u2 => zr 198 11 [v0, v1, v2, v3, v4, v5] (r.toList ++ st) u2 P)) := zr_CV k198_8 rfl rfl rfl ⟨Nat.le_of_ble_eq_true rfl, Nat.succ_ne_zero _, by decide⟩ rfl
theorem k198_11 : xcd 198 11 = oJs 1 12 := rfl
theorem r198_11 : zr 198 11 [.ref a0, v1, v2, v3, v4, v5] (.long w1 :: st) u P = zr 198 12 [.ref a0, .long w1, .null, v3, v4, v5] st u P := zr_Js k198_11 ⟨Nat.le_of_ble_eq_true rfl, rfl⟩
theorem k198_12 : xcd 198 12 = oAl 0 13 := rfl
theorem r198_12 : zr 198 12 [.ref a0, v1, v2, v3, v4, v5] st u P = zr 198 13 [.ref a0, v1, v2, v3, v4, v5] (.ref a0 :: st) u P := zr_Al k198_12 rfl
theorem k198_13 : xcd 198 13 = oS 12 15 := rfl
theorem r198_13 : zr 198 13 [v0, v1, v2, v3, v4, v5] st u P = zr 198 15 [v0, v1, v2, v3, v4, v5] (.ref 1000012 :: st) u P := zr_S k198_13
theorem k198_15 : xcd 198 15 = oI 0 16 := rfl
theorem r198_15 : zr 198 15 [v0, v1, v2, v3, v4, v5] st u P = zr 198 16 [v0, v1, v2, v3, v4, v5] (.int 0 :: st) u P := zr_I k198_15
theorem k198_16 : xcd 198 16 = oAl 0 17 := rfl
theorem r198_16 : zr 198 16 [.ref a0, v1, v2, v3, v4, v5] st u P = zr 198 17 [.ref a0, v1, v2, v3, v4, v5] (.ref a0 :: st) u P := zr_Al k198_16 rfl
theorem k198_17 : xcd 198 17 = oGR 11 4 20 := rfl
theorem r198_17 : zr 198 17 [v0, v1, v2, v3, v4, v5] (.ref b1 :: st) u P = (xIs u b1 11 ∧ ∃ b, xR u b1 4 = some b ∧ zr 198 20 [v0, v1, v2, v3, v4, v5] (.ref b :: st) u P) := zr_GR k198_17
theorem k198_20 : xcd 198 20 = oI 1 21 := rfl
theorem r198_20 : zr 198 20 [v0, v1, v2, v3, v4, v5] st u P = zr 198 21 [v0, v1, v2, v3, v4, v5] (.int 1 :: st) u P := zr_I k198_20
theorem k198_21 : xcd 198 21 = oLd 13 22 := rfl
theorem r198_21 : zr 198 21 [v0, v1, v2, v3, v4, v5] (.int y1 :: .ref b1 :: st) u P = ((xIs u b1 13 ∧ xinb y1 (xN u b1)) ∧ zr 198 22 [v0, v1, v2, v3, v4, v5] (.int (xI u b1 (xix y1)) :: st) u P) := zr_Ld k198_21
theorem k198_22 : xcd 198 22 = oI 1 23 := rfl
theorem r198_22 : zr 198 22 [v0, v1, v2, v3, v4, v5] st u P = zr 198 23 [v0, v1, v2, v3, v4, v5] (.int 1 :: st) u P := zr_I k198_22
theorem k198_23 : xcd 198 23 = oB (fun x y => x - y) 24 := rfl
theorem r198_23 : zr 198 23 [v0, v1, v2, v3, v4, v5] (.int y1 :: .int y2 :: st) u P = zr 198 24 [v0, v1, v2, v3, v4, v5] (.int (y2 - y1) :: st) u P := zr_B k198_23
theorem k198_24 : xcd 198 24 = oCalV 11 185 3 27 := rfl
theorem r198_24 : zr 198 24 [v0, v1, v2, v3, v4, v5] (.int y3 :: .int y2 :: .ref b1 :: .ref b8 :: st) u P = ((xIs u b8 11 ∧ xcat st ≤ 8) ∧ zr 185 0 [.ref b8, .ref b1, .int y2, .int y3] [] u (fun r u2 => zr 198 27 [v0, v1, v2, v3, v4, v5] (r.toList ++ st) u2 P)) := zr_CV k198_24 rfl rfl rfl ⟨Nat.le_of_ble_eq_true rfl, Nat.succ_ne_zero _, by decide⟩ rfl
theorem k198_27 : xcd 198 27 = oIs 3 28 := rfl
theorem r198_27 : zr 198 27 [v0, v1, .null, v3, v4, v5] (.int y1 :: st) u P = zr 198 28 [v0, v1, .null, .int y1, v4, v5] st u P := zr_Is k198_27 ⟨Nat.le_of_ble_eq_true rfl, rfl⟩
theorem k198_28 : xcd 198 28 = oAl 0 29 := rfl
theorem r198_28 : zr 198 28 [.ref a0, v1, v2, v3, v4, v5] st u P = zr 198 29 [.ref a0, v1, v2, v3, v4, v5] (.ref a0 :: st) u P := zr_Al k198_28 rfl
theorem k198_29 : xcd 198 29 = oS 8 31 := rfl
theorem r198_29 : zr 198 29 [v0, v1, v2, v3, v4, v5] st u P = zr 198 31 [v0, v1, v2, v3, v4, v5] (.ref 1000008 :: st) u P := zr_S k198_29
theorem k198_31 : xcd 198 31 = oCalV 11 183 1 34 := rfl
theorem r198_31 : zr 198 31 [v0, v1, v2, v3, v4, v5] (.ref b1 :: .ref b8 :: st) u P = ((xIs u b8 11 ∧ xcat st ≤ 8) ∧ zr 183 0 [.ref b8, .ref b1, .null] [] u (fun r u2 => zr 198 34 [v0, v1, v2, v3, v4, v5] (r.toList ++ st) u2 P)) := zr_CV k198_31 rfl rfl rfl ⟨Nat.le_of_ble_eq_true rfl, Nat.succ_ne_zero _, by decide⟩ rfl
theorem k198_34 : xcd 198 34 = oIs 4 36 := rfl
theorem r198_34 : zr 198 34 [v0, v1, v2, .int x3, v4, v5] (.int y1 :: st) u P = zr 198 36 [v0, v1, v2, .int x3, .int y1, v5] st u P := zr_Is k198_34 ⟨Nat.le_of_ble_eq_true rfl, rfl⟩
theorem k198_36 : xcd 198 36 = oAl 0 37 := rfl
theorem r198_36 : zr 198 36 [.ref a0, v1, v2, v3, v4, v5] st u P = zr 198 37 [.ref a0, v1, v2, v3, v4, v5] (.ref a0 :: st) u P := zr_Al k198_36 rfl
theorem k198_37 : xcd 198 37 = oGI 11 15 40 := rfl
theorem r198_37 : zr 198 37 [v0, v1, v2, v3, v4, v5] (.ref b1 :: st) u P = (xIs u b1 11 ∧ zr 198 40 [v0, v1, v2, v3, v4, v5] (.int (xI u b1 15) :: st) u P) := zr_GI k198_37
theorem k198_40 : xcd 198 40 = oIf (fun x => decide (x ≤ 0)) 44 43 := rfl
theorem r198_40 : zr 198 40 [v0, v1, v2, v3, v4, v5] (.int y1 :: st) u P = (if y1 ≤ 0 then zr 198 44 [v0, v1, v2, v3, v4, v5] st u P else zr 198 43 [v0, v1, v2, v3, v4, v5] st u P) := zr_If k198_40
theorem k198_43 : xcd 198 43 = oRv 0 := rfl
theorem r198_43 : zr 198 43 [v0, v1, v2, v3, v4, v5] [] u P = P none u := zr_Rv k198_43
theorem k198_44 : xcd 198 44 = oAl 0 45 := rfl
theorem r198_44 : zr 198 44 [.ref a0, v1, v2, v3, v4, v5] st u P = zr 198 45 [.ref a0, v1, v2, v3, v4, v5] (.ref a0 :: st) u P := zr_Al k198_44 rfl
theorem k198_45 : xcd 198 45 = oGR 11 4 48 := rfl
theorem r198_45 : zr 198 45 [v0, v1, v2, v3, v4, v5] (.ref b1 :: st) u P = (xIs u b1 11 ∧ ∃ b, xR u b1 4 = some b ∧ zr 198 48 [v0, v1, v2, v3, v4, v5] (.ref b :: st) u P) := zr_GR k198_45
theorem k198_48 : xcd 198 48 = oI 3 49 := rfl
theorem r198_48 : zr 198 48 [v0, v1, v2, v3, v4, v5] st u P = zr 198 49 [v0, v1, v2, v3, v4, v5] (.int 3 :: st) u P := zr_I k198_48
theorem k198_49 : xcd 198 49 = oLd 13 50 := rfl
theorem r198_49 : zr 198 49 [v0, v1, v2, v3, v4, v5] (.int y1 :: .ref b1 :: st) u P = ((xIs u b1 13 ∧ xinb y1 (xN u b1)) ∧ zr 198 50 [v0, v1, v2, v3, v4, v5] (.int (xI u b1 (xix y1)) :: st) u P) := zr_Ld k198_49
theorem k198_50 : xcd 198 50 = oIs 5 52 := rfl
theorem r198_50 : zr 198 50 [v0, v1, v2, v3, .int x4, v5] (.int y1 :: st) u P = zr 198 52 [v0, v1, v2, v3, .int x4, .int y1] st u P := zr_Is k198_50 ⟨Nat.le_of_ble_eq_true rfl, rfl⟩
theorem k198_52 : xcd 198 52 = oAl 0 53 := rfl
theorem r198_52 : zr 198 52 [.ref a0, v1, v2, v3, v4, v5] st u P = zr 198 53 [.ref a0, v1, v2, v3, v4, v5] (.ref a0 :: st) u P := zr_Al k198_52 rfl
theorem k198_53 : xcd 198 53 = oGR 11 6 56 := rfl
theorem r198_53 : zr 198 53 [v0, v1, v2, v3, v4, v5] (.ref b1 :: st) u P = (xIs u b1 11 ∧ ∃ b, xR u b1 6 = some b ∧ zr 198 56 [v0, v1, v2, v3, v4, v5] (.ref b :: st) u P) := zr_GR k198_53
theorem k198_56 : xcd 198 56 = oIl 5 58 := rfl
theorem r198_56 : zr 198 56 [v0, v1, v2, v3, v4, .int x5] st u P = zr 198 58 [v0, v1, v2, v3, v4, .int x5] (.int x5 :: st) u P := zr_Il k198_56 rfl
theorem k198_58 : xcd 198 58 = oJl 1 59 := rfl
theorem r198_58 : zr 198 58 [v0, .long j1, v2, v3, v4, v5] st u P = zr 198 59 [v0, .long j1, v2, v3, v4, v5] (.long j1 :: st) u P := zr_Jl k198_58 rfl
theorem k198_59 : xcd 198 59 = oStJ 60 := rfl
theorem r198_59 : zr 198 59 [v0, v1, v2, v3, v4, v5] (.long w1 :: .int y1 :: .ref b1 :: st) u P = ((xIs u b1 14 ∧ xinb y1 (xN u b1)) ∧ zr 198 60 [v0, v1, v2, v3, v4, v5] st (xsJ u b1 (xix y1) w1) P) := zr_StJ k198_59
theorem k198_60 : xcd 198 60 = oAl 0 61 := rfl
theorem r198_60 : zr 198 60 [.ref a0, v1, v2, v3, v4, v5] st u P = zr 198 61 [.ref a0, v1, v2, v3, v4, v5] (.ref a0 :: st) u P := zr_Al k198_60 rfl
theorem k198_61 : xcd 198 61 = oGR 11 4 64 := rfl
theorem r198_61 : zr 198 61 [v0, v1, v2, v3, v4, v5] (.ref b1 :: st) u P = (xIs u b1 11 ∧ ∃ b, xR u b1 4 = some b ∧ zr 198 64 [v0, v1, v2, v3, v4, v5] (.ref b :: st) u P) := zr_GR k198_61
theorem k198_64 : xcd 198 64 = oI 14 66 := rfl
theorem r198_64 : zr 198 64 [v0, v1, v2, v3, v4, v5] st u P = zr 198 66 [v0, v1, v2, v3, v4, v5] (.int 14 :: st) u P := zr_I k198_64
theorem k198_66 : xcd 198 66 = oIl 5 68 := rfl
theorem r198_66 : zr 198 66 [v0, v1, v2, v3, v4, .int x5] st u P = zr 198 68 [v0, v1, v2, v3, v4, .int x5] (.int x5 :: st) u P := zr_Il k198_66 rfl
theorem k198_68 : xcd 198 68 = oB (fun x y => x + y) 69 := rfl
theorem r198_68 : zr 198 68 [v0, v1, v2, v3, v4, v5] (.int y1 :: .int y2 :: st) u P = zr 198 69 [v0, v1, v2, v3, v4, v5] (.int (y2 + y1) :: st) u P := zr_B k198_68
theorem k198_69 : xcd 198 69 = oIl 3 70 := rfl
theorem r198_69 : zr 198 69 [v0, v1, v2, .int x3, v4, v5] st u P = zr 198 70 [v0, v1, v2, .int x3, v4, v5] (.int x3 :: st) u P := zr_Il k198_69 rfl
theorem k198_70 : xcd 198 70 = oSt 13 (fun x => x) 71 := rfl
theorem r198_70 : zr 198 70 [v0, v1, v2, v3, v4, v5] (.int y2 :: .int y1 :: .ref b1 :: st) u P = ((xIs u b1 13 ∧ xinb y1 (xN u b1)) ∧ zr 198 71 [v0, v1, v2, v3, v4, v5] st (xsI u b1 (xix y1) y2) P) := zr_St k198_70
theorem k198_71 : xcd 198 71 = oAl 0 72 := rfl
theorem r198_71 : zr 198 71 [.ref a0, v1, v2, v3, v4, v5] st u P = zr 198 72 [.ref a0, v1, v2, v3, v4, v5] (.ref a0 :: st) u P := zr_Al k198_71 rfl
theorem k198_72 : xcd 198 72 = oGR 11 4 75 := rfl
theorem r198_72 : zr 198 72 [v0, v1, v2, v3, v4, v5] (.ref b1 :: st) u P = (xIs u b1 11 ∧ ∃ b, xR u b1 4 = some b ∧ zr 198 75 [v0, v1, v2, v3, v4, v5] (.ref b :: st) u P) := zr_GR k198_72
theorem k198_75 : xcd 198 75 = oI 24 77 := rfl
theorem r198_75 : zr 198 75 [v0, v1, v2, v3, v4, v5] st u P = zr 198 77 [v0, v1, v2, v3, v4, v5] (.int 24 :: st) u P := zr_I k198_75
theorem k198_77 : xcd 198 77 = oIl 5 79 := rfl
theorem r198_77 : zr 198 77 [v0, v1, v2, v3, v4, .int x5] st u P = zr 198 79 [v0, v1, v2, v3, v4, .int x5] (.int x5 :: st) u P := zr_Il k198_77 rfl
theorem k198_79 : xcd 198 79 = oB (fun x y => x + y) 80 := rfl
theorem r198_79 : zr 198 79 [v0, v1, v2, v3, v4, v5] (.int y1 :: .int y2 :: st) u P = zr 198 80 [v0, v1, v2, v3, v4, v5] (.int (y2 + y1) :: st) u P := zr_B k198_79
theorem k198_80 : xcd 198 80 = oIl 4 82 := rfl
theorem r198_80 : zr 198 80 [v0, v1, v2, v3, .int x4, v5] st u P = zr 198 82 [v0, v1, v2, v3, .int x4, v5] (.int x4 :: st) u P := zr_Il k198_80 rfl
theorem k198_82 : xcd 198 82 = oIf (fun x => decide (x = 0)) 89 85 := rfl
theorem r198_82 : zr 198 82 [v0, v1, v2, v3, v4, v5] (.int y1 :: st) u P = (if y1 = 0 then zr 198 89 [v0, v1, v2, v3, v4, v5] st u P else zr 198 85 [v0, v1, v2, v3, v4, v5] st u P) := zr_If k198_82
theorem k198_85 : xcd 198 85 = oI 1 86 := rfl
theorem r198_85 : zr 198 85 [v0, v1, v2, v3, v4, v5] st u P = zr 198 86 [v0, v1, v2, v3, v4, v5] (.int 1 :: st) u P := zr_I k198_85
theorem k198_86 : xcd 198 86 = oGoto 90 := rfl
theorem r198_86 : zr 198 86 [v0, v1, v2, v3, v4, v5] st u P = zr 198 90 [v0, v1, v2, v3, v4, v5] st u P := zr_Goto k198_86
theorem k198_89 : xcd 198 89 = oI 0 90 := rfl
theorem r198_89 : zr 198 89 [v0, v1, v2, v3, v4, v5] st u P = zr 198 90 [v0, v1, v2, v3, v4, v5] (.int 0 :: st) u P := zr_I k198_89
theorem k198_90 : xcd 198 90 = oSt 13 (fun x => x) 91 := rfl
theorem r198_90 : zr 198 90 [v0, v1, v2, v3, v4, v5] (.int y2 :: .int y1 :: .ref b1 :: st) u P = ((xIs u b1 13 ∧ xinb y1 (xN u b1)) ∧ zr 198 91 [v0, v1, v2, v3, v4, v5] st (xsI u b1 (xix y1) y2) P) := zr_St k198_90
theorem k198_91 : xcd 198 91 = oAl 0 92 := rfl
theorem r198_91 : zr 198 91 [.ref a0, v1, v2, v3, v4, v5] st u P = zr 198 92 [.ref a0, v1, v2, v3, v4, v5] (.ref a0 :: st) u P := zr_Al k198_91 rfl
theorem k198_92 : xcd 198 92 = oGR 11 4 95 := rfl
theorem r198_92 : zr 198 92 [v0, v1, v2, v3, v4, v5] (.ref b1 :: st) u P = (xIs u b1 11 ∧ ∃ b, xR u b1 4 = some b ∧ zr 198 95 [v0, v1, v2, v3, v4, v5] (.ref b :: st) u P) := zr_GR k198_92
theorem k198_95 : xcd 198 95 = oI 3 96 := rfl
theorem r198_95 : zr 198 95 [v0, v1, v2, v3, v4, v5] st u P = zr 198 96 [v0, v1, v2, v3, v4, v5] (.int 3 :: st) u P := zr_I k198_95
theorem k198_96 : xcd 198 96 = oDup2 97 := rfl
theorem r198_96 : zr 198 96 [v0, v1, v2, v3, v4, v5] (.int y1 :: .ref b1 :: st) u P = zr 198 97 [v0, v1, v2, v3, v4, v5] (.int y1 :: .ref b1 :: .int y1 :: .ref b1 :: st) u P := zr_Dup2 k198_96
theorem k198_97 : xcd 198 97 = oLd 13 98 := rfl
theorem r198_97 : zr 198 97 [v0, v1, v2, v3, v4, v5] (.int y1 :: .ref b1 :: st) u P = ((xIs u b1 13 ∧ xinb y1 (xN u b1)) ∧ zr 198 98 [v0, v1, v2, v3, v4, v5] (.int (xI u b1 (xix y1)) :: st) u P) := zr_Ld k198_97
theorem k198_98 : xcd 198 98 = oI 1 99 := rfl
theorem r198_98 : zr 198 98 [v0, v1, v2, v3, v4, v5] st u P = zr 198 99 [v0, v1, v2, v3, v4, v5] (.int 1 :: st) u P := zr_I k198_98
theorem k198_99 : xcd 198 99 = oB (fun x y => x + y) 100 := rfl
theorem r198_99 : zr 198 99 [v0, v1, v2, v3, v4, v5] (.int y1 :: .int y2 :: st) u P = zr 198 100 [v0, v1, v2, v3, v4, v5] (.int (y2 + y1) :: st) u P := zr_B k198_99
theorem k198_100 : xcd 198 100 = oSt 13 (fun x => x) 101 := rfl
theorem r198_100 : zr 198 100 [v0, v1, v2, v3, v4, v5] (.int y2 :: .int y1 :: .ref b1 :: st) u P = ((xIs u b1 13 ∧ xinb y1 (xN u b1)) ∧ zr 198 101 [v0, v1, v2, v3, v4, v5] st (xsI u b1 (xix y1) y2) P) := zr_St k198_100
theorem k198_101 : xcd 198 101 = oRv 0 := rfl
theorem r198_101 : zr 198 101 [v0, v1, v2, v3, v4, v5] [] u P = P none u := zr_Rv k198_101
theorem k199_0 : xcd 199 0 = oI 34 2 := rfl
theorem r199_0 : zr 199 0 [v0] st u P = zr 199 2 [v0] (.int 34 :: st) u P := zr_I k199_0
theorem k199_2 : xcd 199 2 = oI 15 4 := rfl
theorem r199_2 : zr 199 2 [v0] st u P = zr 199 4 [v0] (.int 15 :: st) u P := zr_I k199_2
theorem k199_4 : xcd 199 4 = oIl 0 5 := rfl
theorem r199_4 : zr 199 4 [.int x0] st u P = zr 199 5 [.int x0] (.int x0 :: st) u P := zr_Il k199_4 rfl
theorem k199_5 : xcd 199 5 = oB (fun x y => x * y) 6 := rfl
theorem r199_5 : zr 199 5 [v0] (.int y1 :: .int y2 :: st) u P = zr 199 6 [v0] (.int (y2 * y1) :: st) u P := zr_B k199_5
theorem k199_6 : xcd 199 6 = oB (fun x y => x + y) 7 := rfl
theorem r199_6 : zr 199 6 [v0] (.int y1 :: .int y2 :: st) u P = zr 199 7 [v0] (.int (y2 + y1) :: st) u P := zr_B k199_6
theorem k199_7 : xcd 199 7 = oRi 0 := rfl
theorem r199_7 : zr 199 7 [v0] [.int y1] u P = P (some (.int y1)) u := zr_Ri k199_7
theorem k200_0 : xcd 200 0 = oAl 0 1 := rfl
theorem r200_0 : zr 200 0 [.ref a0, v1, v2] st u P = zr 200 1 [.ref a0, v1, v2] (.ref a0 :: st) u P := zr_Al k200_0 rfl
theorem k200_1 : xcd 200 1 = oI 4 2 := rfl
theorem r200_1 : zr 200 1 [v0, v1, v2] st u P = zr 200 2 [v0, v1, v2] (.int 4 :: st) u P := zr_I k200_1
theorem k200_2 : xcd 200 2 = oLd 13 3 := rfl
theorem r200_2 : zr 200 2 [v0, v1, v2] (.int y1 :: .ref b1 :: st) u P = ((xIs u b1 13 ∧ xinb y1 (xN u b1)) ∧ zr 200 3 [v0, v1, v2] (.int (xI u b1 (xix y1)) :: st) u P) := zr_Ld k200_2
theorem k200_3 : xcd 200 3 = oI 1 4 := rfl
theorem r200_3 : zr 200 3 [v0, v1, v2] st u P = zr 200 4 [v0, v1, v2] (.int 1 :: st) u P := zr_I k200_3
theorem k200_4 : xcd 200 4 = oB (fun x y => x - y) 5 := rfl
theorem r200_4 : zr 200 4 [v0, v1, v2] (.int y1 :: .int y2 :: st) u P = zr 200 5 [v0, v1, v2] (.int (y2 - y1) :: st) u P := zr_B k200_4
theorem k200_5 : xcd 200 5 = oIs 2 6 := rfl
theorem r200_5 : zr 200 5 [v0, .int x1, v2] (.int y1 :: st) u P = zr 200 6 [v0, .int x1, .int y1] st u P := zr_Is k200_5 ⟨Nat.le_of_ble_eq_true rfl, rfl⟩
theorem k200_6 : xcd 200 6 = oIl 2 7 := rfl
theorem r200_6 : zr 200 6 [v0, v1, .int x2] st u P = zr 200 7 [v0, v1, .int x2] (.int x2 :: st) u P := zr_Il k200_6 rfl
theorem k200_7 : xcd 200 7 = oIf (fun x => decide (x < 0)) 28 10 := rfl
theorem r200_7 : zr 200 7 [v0, v1, v2] (.int y1 :: st) u P = (if y1 < 0 then zr 200 28 [v0, v1, v2] st u P else zr 200 10 [v0, v1, v2] st u P) := zr_If k200_7
theorem k200_10 : xcd 200 10 = oAl 0 11 := rfl
theorem r200_10 : zr 200 10 [.ref a0, v1, v2] st u P = zr 200 11 [.ref a0, v1, v2] (.ref a0 :: st) u P := zr_Al k200_10 rfl
theorem k200_11 : xcd 200 11 = oIl 2 12 := rfl
theorem r200_11 : zr 200 11 [v0, v1, .int x2] st u P = zr 200 12 [v0, v1, .int x2] (.int x2 :: st) u P := zr_Il k200_11 rfl
theorem k200_12 : xcd 200 12 = oCal 199 1 15 := rfl
theorem r200_12 : zr 200 12 [v0, v1, v2] (.int y1 :: st) u P = (xcat st ≤ 8 ∧ zr 199 0 [.int y1] [] u (fun r u2 => zr 200 15 [v0, v1, v2] (r.toList ++ st) u2 P)) := zr_CS k200_12 (Nat.le_add_left _ _) rfl rfl ⟨Nat.le_of_ble_eq_true rfl, Nat.succ_ne_zero _, by decide⟩ rfl
theorem k200_15 : xcd 200 15 = oLd 13 16 := rfl
theorem r200_15 : zr 200 15 [v0, v1, v2] (.int y1 :: .ref b1 :: st) u P = ((xIs u b1 13 ∧ xinb y1 (xN u b1)) ∧ zr 200 16 [v0, v1, v2] (.int (xI u b1 (xix y1)) :: st) u P) := zr_Ld k200_15
theorem k200_16 : xcd 200 16 = oIl 1 17 := rfl
theorem r200_16 : zr 200 16 [v0, .int x1, v2] st u P = zr 200 17 [v0, .int x1, v2] (.int x1 :: st) u P := zr_Il k200_16 rfl
theorem k200_17 : xcd 200 17 = oCmp (fun x y => decide (¬ x = y)) 22 20 := rfl
theorem r200_17 : zr 200 17 [v0, v1, v2] (.int y1 :: .int y2 :: st) u P = (if ¬ y2 = y1 then zr 200 22 [v0, v1, v2] st u P else zr 200 20 [v0, v1, v2] st u P) := zr_Cmp k200_17
theorem k200_20 : xcd 200 20 = oIl 2 21 := rfl
theorem r200_20 : zr 200 20 [v0, v1, .int x2] st u P = zr 200 21 [v0, v1, .int x2] (.int x2 :: st) u P := zr_Il k200_20 rfl
theorem k200_21 : xcd 200 21 = oRi 0 := rfl
theorem r200_21 : zr 200 21 [v0, v1, v2] [.int y1] u P = P (some (.int y1)) u := zr_Ri k200_21
theorem k200_22 : xcd 200 22 = oInc 2 (-1) 25 := rfl
theorem r200_22 : zr 200 22 [v0, .int x1, .int x2] st u P = zr 200 25 [v0, .int x1, .int (x2 + (-1))] st u P := zr_Inc k200_22 rfl rfl
theorem k200_25 : xcd 200 25 = oGoto 6 := rfl
theorem r200_25 : zr 200 25 [v0, v1, v2] st u P = zr 200 6 [v0, v1, v2] st u P := zr_Goto k200_25
theorem k200_28 : xcd 200 28 = oI (-1) 29 := rfl
theorem r200_28 : zr 200 28 [v0, v1, v2] st u P = zr 200 29 [v0, v1, v2] (.int (-1) :: st) u P := zr_I k200_28
theorem k200_29 : xcd 200 29 = oRi 0 := rfl
theorem r200_29 : zr 200 29 [v0, v1, v2] [.int y1] u P = P (some (.int y1)) u := zr_Ri k200_29
theorem k201_0 : xcd 201 0 = oAl 0 1 := rfl
theorem r201_0 : zr 201 0 [.ref a0, v1, v2, v3, v4, v5, v6] st u P = zr 201 1 [.ref a0, v1, v2, v3, v4, v5, v6] (.ref a0 :: st) u P := zr_Al k201_0 rfl
theorem k201_1 : xcd 201 1 = oI 4 2 := rfl
theorem r201_1 : zr 201 1 [v0, v1, v2, v3, v4, v5, v6] st u P = zr 201 2 [v0, v1, v2, v3, v4, v5, v6] (.int 4 :: st) u P := zr_I k201_1
theorem k201_2 : xcd 201 2 = oI 16 4 := rfl
theorem r201_2 : zr 201 2 [v0, v1, v2, v3, v4, v5, v6] st u P = zr 201 4 [v0, v1, v2, v3, v4, v5, v6] (.int 16 :: st) u P := zr_I k201_2
theorem k201_4 : xcd 201 4 = oCalV 11 196 2 7 := rfl
theorem r201_4 : zr 201 4 [v0, v1, v2, v3, v4, v5, v6] (.int y2 :: .int y1 :: .ref b8 :: st) u P = ((xIs u b8 11 ∧ xcat st ≤ 8) ∧ zr 196 0 [.ref b8, .int y1, .int y2] [] u (fun r u2 => zr 201 7 [v0, v1, v2, v3, v4, v5, v6] (r.toList ++ st) u2 P)) := zr_CV k201_4 rfl rfl rfl ⟨Nat.le_of_ble_eq_true rfl, Nat.succ_ne_zero _, by decide⟩ rfl
theorem k201_7 : xcd 201 7 = oAl 0 8 := rfl
theorem r201_7 : zr 201 7 [.ref a0, v1, v2, v3, v4, v5, v6] st u P = zr 201 8 [.ref a0, v1, v2, v3, v4, v5, v6] (.ref a0 :: st) u P := zr_Al k201_7 rfl
theorem k201_8 : xcd 201 8 = oI 0 9 := rfl
theorem r201_8 : zr 201 8 [v0, v1, v2, v3, v4, v5, v6] st u P = zr 201 9 [v0, v1, v2, v3, v4, v5, v6] (.int 0 :: st) u P := zr_I k201_8
theorem k201_9 : xcd 201 9 = oCalV 11 192 1 12 := rfl
theorem r201_9 : zr 201 9 [v0, v1, v2, v3, v4, v5, v6] (.int y1 :: .ref b8 :: st) u P = ((xIs u b8 11 ∧ xcat st ≤ 8) ∧ zr 192 0 [.ref b8, .int y1, .null] [] u (fun r u2 => zr 201 12 [v0, v1, v2, v3, v4, v5, v6] (r.toList ++ st) u2 P)) := zr_CV k201_9 rfl rfl rfl ⟨Nat.le_of_ble_eq_true rfl, Nat.succ_ne_zero _, by decide⟩ rfl
theorem k201_12 : xcd 201 12 = oIs 1 13 := rfl
theorem r201_12 : zr 201 12 [.ref a0, v1, v2, v3, v4, v5, v6] (.int y1 :: st) u P = zr 201 13 [.ref a0, .int y1, v2, v3, v4, v5, v6] st u P := zr_Is k201_12 ⟨Nat.le_of_ble_eq_true rfl, rfl⟩
theorem k201_13 : xcd 201 13 = oAl 0 14 := rfl
theorem r201_13 : zr 201 13 [.ref a0, v1, v2, v3, v4, v5, v6] st u P = zr 201 14 [.ref a0, v1, v2, v3, v4, v5, v6] (.ref a0 :: st) u P := zr_Al k201_13 rfl
theorem k201_14 : xcd 201 14 = oGR 11 4 17 := rfl
theorem r201_14 : zr 201 14 [v0, v1, v2, v3, v4, v5, v6] (.ref b1 :: st) u P = (xIs u b1 11 ∧ ∃ b, xR u b1 4 = some b ∧ zr 201 17 [v0, v1, v2, v3, v4, v5, v6] (.ref b :: st) u P) := zr_GR k201_14
theorem k201_17 : xcd 201 17 = oIl 1 18 := rfl
theorem r201_17 : zr 201 17 [v0, .int x1, v2, v3, v4, v5, v6] st u P = zr 201 18 [v0, .int x1, v2, v3, v4, v5, v6] (.int x1 :: st) u P := zr_Il k201_17 rfl
theorem k201_18 : xcd 201 18 = oCal 200 2 21 := rfl
theorem r201_18 : zr 201 18 [v0, v1, v2, v3, v4, v5, v6] (.int y2 :: .ref b1 :: st) u P = (xcat st ≤ 8 ∧ zr 200 0 [.ref b1, .int y2, .null] [] u (fun r u2 => zr 201 21 [v0, v1, v2, v3, v4, v5, v6] (r.toList ++ st) u2 P)) := zr_CS k201_18 (Nat.le_add_left _ _) rfl rfl ⟨Nat.le_of_ble_eq_true rfl, Nat.succ_ne_zero _, by decide⟩ rfl
theorem k201_21 : xcd 201 21 = oIs 2 22 := rfl
theorem r201_21 : zr 201 21 [v0, .int x1, v2, v3, v4, v5, v6] (.int y1 :: st) u P = zr 201 22 [v0, .int x1, .int y1, v3, v4, v5, v6] st u P := zr_Is k201_21 ⟨Nat.le_of_ble_eq_true rfl, rfl⟩
theorem k201_22 : xcd 201 22 = oAl 0 23 := rfl
theorem r201_22 : zr 201 22 [.ref a0, v1, v2, v3, v4, v5, v6] st u P = zr 201 23 [.ref a0, v1, v2, v3, v4, v5, v6] (.ref a0 :: st) u P := zr_Al k201_22 rfl
theorem k201_23 : xcd 201 23 = oIl 2 24 := rfl
theorem r201_23 : zr 201 23 [v0, v1, .int x2, v3, v4, v5, v6] st u P = zr 201 24 [v0, v1, .int x2, v3, v4, v5, v6] (.int x2 :: st) u P := zr_Il k201_23 rfl
theorem k201_24 : xcd 201 24 = oI (-1) 25 := rfl
theorem r201_24 : zr 201 24 [v0, v1, v2, v3, v4, v5, v6] st u P = zr 201 25 [v0, v1, v2, v3, v4, v5, v6] (.int (-1) :: st) u P := zr_I k201_24
theorem k201_25 : xcd 201 25 = oCmp (fun x y => decide (¬ x = y)) 32 28 := rfl
theorem r201_25 : zr 201 25 [v0, v1, v2, v3, v4, v5, v6] (.int y1 :: .int y2 :: st) u P = (if ¬ y2 = y1 then zr 201 32 [v0, v1, v2, v3, v4, v5, v6] st u P else zr 201 28 [v0, v1, v2, v3, v4, v5, v6] st u P) := zr_Cmp k201_25
theorem k201_28 : xcd 201 28 = oI 0 29 := rfl
theorem r201_28 : zr 201 28 [v0, v1, v2, v3, v4, v5, v6] st u P = zr 201 29 [v0, v1, v2, v3, v4, v5, v6] (.int 0 :: st) u P := zr_I k201_28
theorem k201_29 : xcd 201 29 = oGoto 45 := rfl
theorem r201_29 : zr 201 29 [v0, v1, v2, v3, v4, v5, v6] st u P = zr 201 45 [v0, v1, v2, v3, v4, v5, v6] st u P := zr_Goto k201_29
theorem k201_32 : xcd 201 32 = oAl 0 33 := rfl
theorem r201_32 : zr 201 32 [.ref a0, v1, v2, v3, v4, v5, v6] st u P = zr 201 33 [.ref a0, v1, v2, v3, v4, v5, v6] (.ref a0 :: st) u P := zr_Al k201_32 rfl
theorem k201_33 : xcd 201 33 = oGR 11 4 36 := rfl
theorem r201_33 : zr 201 33 [v0, v1, v2, v3, v4, v5, v6] (.ref b1 :: st) u P = (xIs u b1 11 ∧ ∃ b, xR u b1 4 = some b ∧ zr 201 36 [v0, v1, v2, v3, v4, v5, v6] (.ref b :: st) u P) := zr_GR k201_33
theorem k201_36 : xcd 201 36 = oIl 2 37 := rfl
theorem r201_36 : zr 201 36 [v0, v1, .int x2, v3, v4, v5, v6] st u P = zr 201 37 [v0, v1, .int x2, v3, v4, v5, v6] (.int x2 :: st) u P := zr_Il k201_36 rfl
theorem k201_37 : xcd 201 37 = oCal 199 1 40 := rfl
theorem r201_37 : zr 201 37 [v0, v1, v2, v3, v4, v5, v6] (.int y1 :: st) u P = (xcat st ≤ 8 ∧ zr 199 0 [.int y1] [] u (fun r u2 => zr 201 40 [v0, v1, v2, v3, v4, v5, v6] (r.toList ++ st) u2 P)) := zr_CS k201_37 (Nat.le_add_left _ _) rfl rfl ⟨Nat.le_of_ble_eq_true rfl, Nat.succ_ne_zero _, by decide⟩ rfl
theorem k201_40 : xcd 201 40 = oI 1 41 := rfl
theorem r201_40 : zr 201 40 [v0, v1, v2, v3, v4, v5, v6] st u P = zr 201 41 [v0, v1, v2, v3, v4, v5, v6] (.int 1 :: st) u P := zr_I k201_40
theorem k201_41 : xcd 201 41 = oB (fun x y => x + y) 42 := rfl
theorem r201_41 : zr 201 41 [v0, v1, v2, v3, v4, v5, v6] (.int y1 :: .int y2 :: st) u P = zr 201 42 [v0, v1, v2, v3, v4, v5, v6] (.int (y2 + y1) :: st) u P := zr_B k201_41
theorem k201_42 : xcd 201 42 = oLd 13 43 := rfl
theorem r201_42 : zr 201 42 [v0, v1, v2, v3, v4, v5, v6] (.int y1 :: .ref b1 :: st) u P = ((xIs u b1 13 ∧ xinb y1 (xN u b1)) ∧ zr 201 43 [v0, v1, v2, v3, v4, v5, v6] (.int (xI u b1 (xix y1)) :: st) u P) := zr_Ld k201_42
theorem k201_43 : xcd 201 43 = oI 1 44 := rfl
theorem r201_43 : zr 201 43 [v0, v1, v2, v3, v4, v5, v6] st u P = zr 201 44 [v0, v1, v2, v3, v4, v5, v6] (.int 1 :: st) u P := zr_I k201_43
theorem k201_44 : xcd 201 44 = oB (fun x y => x + y) 45 := rfl
theorem r201_44 : zr 201 44 [v0, v1, v2, v3, v4, v5, v6] (.int y1 :: .int y2 :: st) u P = zr 201 45 [v0, v1, v2, v3, v4, v5, v6] (.int (y2 + y1) :: st) u P := zr_B k201_44
theorem k201_45 : xcd 201 45 = oI 999 48 := rfl
theorem r201_45 : zr 201 45 [v0, v1, v2, v3, v4, v5, v6] st u P = zr 201 48 [v0, v1, v2, v3, v4, v5, v6] (.int 999 :: st) u P := zr_I k201_45
theorem k201_48 : xcd 201 48 = oCalV 11 184 2 51 := rfl
theorem r201_48 : zr 201 48 [v0, v1, v2, v3, v4, v5, v6] (.int y2 :: .int y1 :: .ref b8 :: st) u P = ((xIs u b8 11 ∧ xcat st ≤ 8) ∧ zr 184 0 [.ref b8, .int y1, .int y2, .null] [] u (fun r u2 => zr 201 51 [v0, v1, v2, v3, v4, v5, v6] (r.toList ++ st) u2 P)) := zr_CV k201_48 rfl rfl rfl ⟨Nat.le_of_ble_eq_true rfl, Nat.succ_ne_zero _, by decide⟩ rfl
theorem k201_51 : xcd 201 51 = oIs 3 52 := rfl
theorem r201_51 : zr 201 51 [v0, v1, .int x2, v3, v4, v5, v6] (.int y1 :: st) u P = zr 201 52 [v0, v1, .int x2, .int y1, v4, v5, v6] st u P := zr_Is k201_51 ⟨Nat.le_of_ble_eq_true rfl, rfl⟩
theorem k201_52 : xcd 201 52 = oAl 0 53 := rfl
theorem r201_52 : zr 201 52 [.ref a0, v1, v2, v3, v4, v5, v6] st u P = zr 201 53 [.ref a0, v1, v2, v3, v4, v5, v6] (.ref a0 :: st) u P := zr_Al k201_52 rfl
theorem k201_53 : xcd 201 53 = oGR 11 4 56 := rfl
theorem r201_53 : zr 201 53 [v0, v1, v2, v3, v4, v5, v6] (.ref b1 :: st) u P = (xIs u b1 11 ∧ ∃ b, xR u b1 4 = some b ∧ zr 201 56 [v0, v1, v2, v3, v4, v5, v6] (.ref b :: st) u P) := zr_GR k201_53
theorem k201_56 : xcd 201 56 = oI 4 57 := rfl
theorem r201_56 : zr 201 56 [v0, v1, v2, v3, v4, v5, v6] st u P = zr 201 57 [v0, v1, v2, v3, v4, v5, v6] (.int 4 :: st) u P := zr_I k201_56
theorem k201_57 : xcd 201 57 = oLd 13 58 := rfl
theorem r201_57 : zr 201 57 [v0, v1, v2, v3, v4, v5, v6] (.int y1 :: .ref b1 :: st) u P = ((xIs u b1 13 ∧ xinb y1 (xN u b1)) ∧ zr 201 58 [v0, v1, v2, v3, v4, v5, v6] (.int (xI u b1 (xix y1)) :: st) u P) := zr_Ld k201_57
theorem k201_58 : xcd 201 58 = oCal 199 1 61 := rfl
theorem r201_58 : zr 201 58 [v0, v1, v2, v3, v4, v5, v6] (.int y1 :: st) u P = (xcat st ≤ 8 ∧ zr 199 0 [.int y1] [] u (fun r u2 => zr 201 61 [v0, v1, v2, v3, v4, v5, v6] (r.toList ++ st) u2 P)) := zr_CS k201_58 (Nat.le_add_left _ _) rfl rfl ⟨Nat.le_of_ble_eq_true rfl, Nat.succ_ne_zero _, by decide⟩ rfl
theorem k201_61 : xcd 201 61 = oIs 4 63 := rfl
theorem r201_61 : zr 201 61 [v0, v1, v2, .int x3, v4, v5, v6] (.int y1 :: st) u P = zr 201 63 [v0, v1, v2, .int x3, .int y1, v5, v6] st u P := zr_Is k201_61 ⟨Nat.le_of_ble_eq_true rfl, rfl⟩
theorem k201_63 : xcd 201 63 = oI 0 64 := rfl
theorem r201_63 : zr 201 63 [v0, v1, v2, v3, v4, v5, v6] st u P = zr 201 64 [v0, v1, v2, v3, v4, v5, v6] (.int 0 :: st) u P := zr_I k201_63
theorem k201_64 : xcd 201 64 = oIs 5 66 := rfl
theorem r201_64 : zr 201 64 [v0, v1, v2, v3, .int x4, v5, v6] (.int y1 :: st) u P = zr 201 66 [v0, v1, v2, v3, .int x4, .int y1, v6] st u P := zr_Is k201_64 ⟨Nat.le_of_ble_eq_true rfl, rfl⟩
theorem k201_66 : xcd 201 66 = oAl 0 67 := rfl
theorem r201_66 : zr 201 66 [.ref a0, v1, v2, v3, v4, v5, v6] st u P = zr 201 67 [.ref a0, v1, v2, v3, v4, v5, v6] (.ref a0 :: st) u P := zr_Al k201_66 rfl
theorem k201_67 : xcd 201 67 = oS 9 69 := rfl
theorem r201_67 : zr 201 67 [v0, v1, v2, v3, v4, v5, v6] st u P = zr 201 69 [v0, v1, v2, v3, v4, v5, v6] (.ref 1000009 :: st) u P := zr_S k201_67
theorem k201_69 : xcd 201 69 = oCalV 11 183 1 72 := rfl
theorem r201_69 : zr 201 69 [v0, v1, v2, v3, v4, v5, v6] (.ref b1 :: .ref b8 :: st) u P = ((xIs u b8 11 ∧ xcat st ≤ 8) ∧ zr 183 0 [.ref b8, .ref b1, .null] [] u (fun r u2 => zr 201 72 [v0, v1, v2, v3, v4, v5, v6] (r.toList ++ st) u2 P)) := zr_CV k201_69 rfl rfl rfl ⟨Nat.le_of_ble_eq_true rfl, Nat.succ_ne_zero _, by decide⟩ rfl
theorem k201_72 : xcd 201 72 = oIs 6 74 := rfl
theorem r201_72 : zr 201 72 [v0, v1, v2, v3, v4, .int x5, v6] (.int y1 :: st) u P = zr 201 74 [v0, v1, v2, v3, v4, .int x5, .int y1] st u P := zr_Is k201_72 ⟨Nat.le_of_ble_eq_true rfl, rfl⟩
theorem k201_74 : xcd 201 74 = oAl 0 75 := rfl
theorem r201_74 : zr 201 74 [.ref a0, v1, v2, v3, v4, v5, v6] st u P = zr 201 75 [.ref a0, v1, v2, v3, v4, v5, v6] (.ref a0 :: st) u P := zr_Al k201_74 rfl
theorem k201_75 : xcd 201 75 = oGI 11 15 78 := rfl
theorem r201_75 : zr 201 75 [v0, v1, v2, v3, v4, v5, v6] (.ref b1 :: st) u P = (xIs u b1 11 ∧ zr 201 78 [v0, v1, v2, v3, v4, v5, v6] (.int (xI u b1 15) :: st) u P) := zr_GI k201_75
theorem k201_78 : xcd 201 78 = oIf (fun x => decide (¬ x = 0)) 163 81 := rfl
theorem r201_78 : zr 201 78 [v0, v1, v2, v3, v4, v5, v6] (.int y1 :: st) u P = (if ¬ y1 = 0 then zr 201 163 [v0, v1, v2, v3, v4, v5, v6] st u P else zr 201 81 [v0, v1, v2, v3, v4, v5, v6] st u P) := zr_If k201_78
theorem k201_81 : xcd 201 81 = oIl 6 83 := rfl
theorem r201_81 : zr 201 81 [v0, v1, v2, v3, v4, v5, .int x6] st u P = zr 201 83 [v0, v1, v2, v3, v4, v5, .int x6] (.int x6 :: st) u P := zr_Il k201_81 rfl
theorem k201_83 : xcd 201 83 = oIf (fun x => decide (¬ x = 0)) 163 86 := rfl
theorem r201_83 : zr 201 83 [v0, v1, v2, v3, v4, v5, v6] (.int y1 :: st) u P = (if ¬ y1 = 0 then zr 201 163 [v0, v1, v2, v3, v4, v5, v6] st u P else zr 201 86 [v0, v1, v2, v3, v4, v5, v6] st u P) := zr_If k201_83
theorem k201_86 : xcd 201 86 = oIl 5 88 := rfl
theorem r201_86 : zr 201 86 [v0, v1, v2, v3, v4, .int x5, v6] st u P = zr 201 88 [v0, v1, v2, v3, v4, .int x5, v6] (.int x5 :: st) u P := zr_Il k201_86 rfl
theorem k201_88 : xcd 201 88 = oI 3 89 := rfl
theorem r201_88 : zr 201 88 [v0, v1, v2, v3, v4, v5, v6] st u P = zr 201 89 [v0, v1, v2, v3, v4, v5, v6] (.int 3 :: st) u P := zr_I k201_88
theorem k201_89 : xcd 201 89 = oCmp (fun x y => decide (x < y)) 107 92 := rfl
theorem r201_89 : zr 201 89 [v0, v1, v2, v3, v4, v5, v6] (.int y1 :: .int y2 :: st) u P = (if y2 < y1 then zr 201 107 [v0, v1, v2, v3, v4, v5, v6] st u P else zr 201 92 [v0, v1, v2, v3, v4, v5, v6] st u P) := zr_Cmp k201_89
theorem k201_92 : xcd 201 92 = oIl 5 94 := rfl
theorem r201_92 : zr 201 92 [v0, v1, v2, v3, v4, .int x5, v6] st u P = zr 201 94 [v0, v1, v2, v3, v4, .int x5, v6] (.int x5 :: st) u P := zr_Il k201_92 rfl
theorem k201_94 : xcd 201 94 = oI 6 96 := rfl
theorem r201_94 : zr 201 94 [v0, v1, v2, v3, v4, v5, v6] st u P = zr 201 96 [v0, v1, v2, v3, v4, v5, v6] (.int 6 :: st) u P := zr_I k201_94
theorem k201_96 : xcd 201 96 = oCmp (fun x y => decide (y ≤ x)) 163 99 := rfl
theorem r201_96 : zr 201 96 [v0, v1, v2, v3, v4, v5, v6] (.int y1 :: .int y2 :: st) u P = (if y1 ≤ y2 then zr 201 163 [v0, v1, v2, v3, v4, v5, v6] st u P else zr 201 99 [v0, v1, v2, v3, v4, v5, v6] st u P) := zr_Cmp k201_96
theorem k201_99 : xcd 201 99 = oAl 0 100 := rfl
theorem r201_99 : zr 201 99 [.ref a0, v1, v2, v3, v4, v5, v6] st u P = zr 201 100 [.ref a0, v1, v2, v3, v4, v5, v6] (.ref a0 :: st) u P := zr_Al k201_99 rfl
theorem k201_100 : xcd 201 100 = oGI 11 12 103 := rfl
theorem r201_100 : zr 201 100 [v0, v1, v2, v3, v4, v5, v6] (.ref b1 :: st) u P = (xIs u b1 11 ∧ zr 201 103 [v0, v1, v2, v3, v4, v5, v6] (.int (xI u b1 12) :: st) u P) := zr_GI k201_100
theorem k201_103 : xcd 201 103 = oI 3 104 := rfl
theorem r201_103 : zr 201 103 [v0, v1, v2, v3, v4, v5, v6] st u P = zr 201 104 [v0, v1, v2, v3, v4, v5, v6] (.int 3 :: st) u P := zr_I k201_103
theorem k201_104 : xcd 201 104 = oCmp (fun x y => decide (¬ x = y)) 163 107 := rfl
theorem r201_104 : zr 201 104 [v0, v1, v2, v3, v4, v5, v6] (.int y1 :: .int y2 :: st) u P = (if ¬ y2 = y1 then zr 201 163 [v0, v1, v2, v3, v4, v5, v6] st u P else zr 201 107 [v0, v1, v2, v3, v4, v5, v6] st u P) := zr_Cmp k201_104
theorem k201_107 : xcd 201 107 = oAl 0 108 := rfl
theorem r201_107 : zr 201 107 [.ref a0, v1, v2, v3, v4, v5, v6] st u P = zr 201 108 [.ref a0, v1, v2, v3, v4, v5, v6] (.ref a0 :: st) u P := zr_Al k201_107 rfl
theorem k201_108 : xcd 201 108 = oGR 11 4 111 := rfl
theorem r201_108 : zr 201 108 [v0, v1, v2, v3, v4, v5, v6] (.ref b1 :: st) u P = (xIs u b1 11 ∧ ∃ b, xR u b1 4 = some b ∧ zr 201 111 [v0, v1, v2, v3, v4, v5, v6] (.ref b :: st) u P) := zr_GR k201_108
theorem k201_111 : xcd 201 111 = oIl 4 113 := rfl
theorem r201_111 : zr 201 111 [v0, v1, v2, v3, .int x4, v5, v6] st u P = zr 201 113 [v0, v1, v2, v3, .int x4, v5, v6] (.int x4 :: st) u P := zr_Il k201_111 rfl
theorem k201_113 : xcd 201 113 = oI 3 114 := rfl
theorem r201_113 : zr 201 113 [v0, v1, v2, v3, v4, v5, v6] st u P = zr 201 114 [v0, v1, v2, v3, v4, v5, v6] (.int 3 :: st) u P := zr_I k201_113
theorem k201_114 : xcd 201 114 = oB (fun x y => x + y) 115 := rfl
theorem r201_114 : zr 201 114 [v0, v1, v2, v3, v4, v5, v6] (.int y1 :: .int y2 :: st) u P = zr 201 115 [v0, v1, v2, v3, v4, v5, v6] (.int (y2 + y1) :: st) u P := zr_B k201_114
theorem k201_115 : xcd 201 115 = oI 2 116 := rfl
theorem r201_115 : zr 201 115 [v0, v1, v2, v3, v4, v5, v6] st u P = zr 201 116 [v0, v1, v2, v3, v4, v5, v6] (.int 2 :: st) u P := zr_I k201_115
theorem k201_116 : xcd 201 116 = oIl 5 118 := rfl
theorem r201_116 : zr 201 116 [v0, v1, v2, v3, v4, .int x5, v6] st u P = zr 201 118 [v0, v1, v2, v3, v4, .int x5, v6] (.int x5 :: st) u P := zr_Il k201_116 rfl
theorem k201_118 : xcd 201 118 = oB (fun x y => x * y) 119 := rfl
theorem r201_118 : zr 201 118 [v0, v1, v2, v3, v4, v5, v6] (.int y1 :: .int y2 :: st) u P = zr 201 119 [v0, v1, v2, v3, v4, v5, v6] (.int (y2 * y1) :: st) u P := zr_B k201_118
theorem k201_119 : xcd 201 119 = oB (fun x y => x + y) 120 := rfl
theorem r201_119 : zr 201 119 [v0, v1, v2, v3, v4, v5, v6] (.int y1 :: .int y2 :: st) u P = zr 201 120 [v0, v1, v2, v3, v4, v5, v6] (.int (y2 + y1) :: st) u P := zr_B k201_119
theorem k201_120 : xcd 201 120 = oAl 0 121 := rfl
theorem r201_120 : zr 201 120 [.ref a0, v1, v2, v3, v4, v5, v6] st u P = zr 201 121 [.ref a0, v1, v2, v3, v4, v5, v6] (.ref a0 :: st) u P := zr_Al k201_120 rfl
theorem k201_121 : xcd 201 121 = oI 0 122 := rfl
theorem r201_121 : zr 201 121 [v0, v1, v2, v3, v4, v5, v6] st u P = zr 201 122 [v0, v1, v2, v3, v4, v5, v6] (.int 0 :: st) u P := zr_I k201_121
theorem k201_122 : xcd 201 122 = oAl 0 123 := rfl
theorem r201_122 : zr 201 122 [.ref a0, v1, v2, v3, v4, v5, v6] st u P = zr 201 123 [.ref a0, v1, v2, v3, v4, v5, v6] (.ref a0 :: st) u P := zr_Al k201_122 rfl
theorem k201_123 : xcd 201 123 = oGR 11 4 126 := rfl
theorem r201_123 : zr 201 123 [v0, v1, v2, v3, v4, v5, v6] (.ref b1 :: st) u P = (xIs u b1 11 ∧ ∃ b, xR u b1 4 = some b ∧ zr 201 126 [v0, v1, v2, v3, v4, v5, v6] (.ref b :: st) u P) := zr_GR k201_123
theorem k201_126 : xcd 201 126 = oI 0 127 := rfl
theorem r201_126 : zr 201 126 [v0, v1, v2, v3, v4, v5, v6] st u P = zr 201 127 [v0, v1, v2, v3, v4, v5, v6] (.int 0 :: st) u P := zr_I k201_126
theorem k201_127 : xcd 201 127 = oLd 13 128 := rfl
theorem r201_127 : zr 201 127 [v0, v1, v2, v3, v4, v5, v6] (.int y1 :: .ref b1 :: st) u P = ((xIs u b1 13 ∧ xinb y1 (xN u b1)) ∧ zr 201 128 [v0, v1, v2, v3, v4, v5, v6] (.int (xI u b1 (xix y1)) :: st) u P) := zr_Ld k201_127
theorem k201_128 : xcd 201 128 = oCalV 11 184 2 131 := rfl
theorem r201_128 : zr 201 128 [v0, v1, v2, v3, v4, v5, v6] (.int y2 :: .int y1 :: .ref b8 :: st) u P = ((xIs u b8 11 ∧ xcat st ≤ 8) ∧ zr 184 0 [.ref b8, .int y1, .int y2, .null] [] u (fun r u2 => zr 201 131 [v0, v1, v2, v3, v4, v5, v6] (r.toList ++ st) u2 P)) := zr_CV k201_128 rfl rfl rfl ⟨Nat.le_of_ble_eq_true rfl, Nat.succ_ne_zero _, by decide⟩ rfl
theorem k201_131 : xcd 201 131 = oSt 13 (fun x => x) 132 := rfl
theorem r201_131 : zr 201 131 [v0, v1, v2, v3, v4, v5, v6] (.int y2 :: .int y1 :: .ref b1 :: st) u P = ((xIs u b1 13 ∧ xinb y1 (xN u b1)) ∧ zr 201 132 [v0, v1, v2, v3, v4, v5, v6] st (xsI u b1 (xix y1) y2) P) := zr_St k201_131
theorem k201_132 : xcd 201 132 = oAl 0 133 := rfl
theorem r201_132 : zr 201 132 [.ref a0, v1, v2, v3, v4, v5, v6] st u P = zr 201 133 [.ref a0, v1, v2, v3, v4, v5, v6] (.ref a0 :: st) u P := zr_Al k201_132 rfl
theorem k201_133 : xcd 201 133 = oGR 11 4 136 := rfl
theorem r201_133 : zr 201 133 [v0, v1, v2, v3, v4, v5, v6] (.ref b1 :: st) u P = (xIs u b1 11 ∧ ∃ b, xR u b1 4 = some b ∧ zr 201 136 [v0, v1, v2, v3, v4, v5, v6] (.ref b :: st) u P) := zr_GR k201_133
theorem k201_136 : xcd 201 136 = oIl 4 138 := rfl
theorem r201_136 : zr 201 136 [v0, v1, v2, v3, .int x4, v5, v6] st u P = zr 201 138 [v0, v1, v2, v3, .int x4, v5, v6] (.int x4 :: st) u P := zr_Il k201_136 rfl
theorem k201_138 : xcd 201 138 = oI 4 139 := rfl
theorem r201_138 : zr 201 138 [v0, v1, v2, v3, v4, v5, v6] st u P = zr 201 139 [v0, v1, v2, v3, v4, v5, v6] (.int 4 :: st) u P := zr_I k201_138
theorem k201_139 : xcd 201 139 = oB (fun x y => x + y) 140 := rfl
theorem r201_139 : zr 201 139 [v0, v1, v2, v3, v4, v5, v6] (.int y1 :: .int y2 :: st) u P = zr 201 140 [v0, v1, v2, v3, v4, v5, v6] (.int (y2 + y1) :: st) u P := zr_B k201_139
theorem k201_140 : xcd 201 140 = oI 2 141 := rfl
theorem r201_140 : zr 201 140 [v0, v1, v2, v3, v4, v5, v6] st u P = zr 201 141 [v0, v1, v2, v3, v4, v5, v6] (.int 2 :: st) u P := zr_I k201_140
theorem k201_141 : xcd 201 141 = oIl 5 143 := rfl
theorem r201_141 : zr 201 141 [v0, v1, v2, v3, v4, .int x5, v6] st u P = zr 201 143 [v0, v1, v2, v3, v4, .int x5, v6] (.int x5 :: st) u P := zr_Il k201_141 rfl
theorem k201_143 : xcd 201 143 = oB (fun x y => x * y) 144 := rfl
theorem r201_143 : zr 201 143 [v0, v1, v2, v3, v4, v5, v6] (.int y1 :: .int y2 :: st) u P = zr 201 144 [v0, v1, v2, v3, v4, v5, v6] (.int (y2 * y1) :: st) u P := zr_B k201_143
theorem k201_144 : xcd 201 144 = oB (fun x y => x + y) 145 := rfl
theorem r201_144 : zr 201 144 [v0, v1, v2, v3, v4, v5, v6] (.int y1 :: .int y2 :: st) u P = zr 201 145 [v0, v1, v2, v3, v4, v5, v6] (.int (y2 + y1) :: st) u P := zr_B k201_144
theorem k201_145 : xcd 201 145 = oAl 0 146 := rfl
theorem r201_145 : zr 201 145 [.ref a0, v1, v2, v3, v4, v5, v6] st u P = zr 201 146 [.ref a0, v1, v2, v3, v4, v5, v6] (.ref a0 :: st) u P := zr_Al k201_145 rfl
theorem k201_146 : xcd 201 146 = oI 0 147 := rfl
theorem r201_146 : zr 201 146 [v0, v1, v2, v3, v4, v5, v6] st u P = zr 201 147 [v0, v1, v2, v3, v4, v5, v6] (.int 0 :: st) u P := zr_I k201_146
theorem k201_147 : xcd 201 147 = oAl 0 148 := rfl
theorem r201_147 : zr 201 147 [.ref a0, v1, v2, v3, v4, v5, v6] st u P = zr 201 148 [.ref a0, v1, v2, v3, v4, v5, v6] (.ref a0 :: st) u P := zr_Al k201_147 rfl
theorem k201_148 : xcd 201 148 = oGR 11 4 151 := rfl
theorem r201_148 : zr 201 148 [v0, v1, v2, v3, v4, v5, v6] (.ref b1 :: st) u P = (xIs u b1 11 ∧ ∃ b, xR u b1 4 = some b ∧ zr 201 151 [v0, v1, v2, v3, v4, v5, v6] (.ref b :: st) u P) := zr_GR k201_148
theorem k201_151 : xcd 201 151 = oI 0 152 := rfl
theorem r201_151 : zr 201 151 [v0, v1, v2, v3, v4, v5, v6] st u P = zr 201 152 [v0, v1, v2, v3, v4, v5, v6] (.int 0 :: st) u P := zr_I k201_151
theorem k201_152 : xcd 201 152 = oLd 13 153 := rfl
theorem r201_152 : zr 201 152 [v0, v1, v2, v3, v4, v5, v6] (.int y1 :: .ref b1 :: st) u P = ((xIs u b1 13 ∧ xinb y1 (xN u b1)) ∧ zr 201 153 [v0, v1, v2, v3, v4, v5, v6] (.int (xI u b1 (xix y1)) :: st) u P) := zr_Ld k201_152
theorem k201_153 : xcd 201 153 = oCalV 11 184 2 156 := rfl
theorem r201_153 : zr 201 153 [v0, v1, v2, v3, v4, v5, v6] (.int y2 :: .int y1 :: .ref b8 :: st) u P = ((xIs u b8 11 ∧ xcat st ≤ 8) ∧ zr 184 0 [.ref b8, .int y1, .int y2, .null] [] u (fun r u2 => zr 201 156 [v0, v1, v2, v3, v4, v5, v6] (r.toList ++ st) u2 P)) := zr_CV k201_153 rfl rfl rfl ⟨Nat.le_of_ble_eq_true rfl, Nat.succ_ne_zero _, by decide⟩ rfl
theorem k201_156 : xcd 201 156 = oSt 13 (fun x => x) 157 := rfl
theorem r201_156 : zr 201 156 [v0, v1, v2, v3, v4, v5, v6] (.int y2 :: .int y1 :: .ref b1 :: st) u P = ((xIs u b1 13 ∧ xinb y1 (xN u b1)) ∧ zr 201 157 [v0, v1, v2, v3, v4, v5, v6] st (xsI u b1 (xix y1) y2) P) := zr_St k201_156
theorem k201_157 : xcd 201 157 = oInc 5 1 160 := rfl
theorem r201_157 : zr 201 157 [v0, v1, v2, v3, .int x4, .int x5, v6] st u P = zr 201 160 [v0, v1, v2, v3, .int x4, .int (x5 + 1), v6] st u P := zr_Inc k201_157 rfl rfl
theorem k201_160 : xcd 201 160 = oGoto 74 := rfl
theorem r201_160 : zr 201 160 [v0, v1, v2, v3, v4, v5, v6] st u P = zr 201 74 [v0, v1, v2, v3, v4, v5, v6] st u P := zr_Goto k201_160
theorem k201_163 : xcd 201 163 = oAl 0 164 := rfl
theorem r201_163 : zr 201 163 [.ref a0, v1, v2, v3, v4, v5, v6] st u P = zr 201 164 [.ref a0, v1, v2, v3, v4, v5, v6] (.ref a0 :: st) u P := zr_Al k201_163 rfl
theorem k201_164 : xcd 201 164 = oGI 11 15 167 := rfl
theorem r201_164 : zr 201 164 [v0, v1, v2, v3, v4, v5, v6] (.ref b1 :: st) u P = (xIs u b1 11 ∧ zr 201 167 [v0, v1, v2, v3, v4, v5, v6] (.int (xI u b1 15) :: st) u P) := zr_GI k201_164
theorem k201_167 : xcd 201 167 = oIf (fun x => decide (x ≤ 0)) 171 170 := rfl
theorem r201_167 : zr 201 167 [v0, v1, v2, v3, v4, v5, v6] (.int y1 :: st) u P = (if y1 ≤ 0 then zr 201 171 [v0, v1, v2, v3, v4, v5, v6] st u P else zr 201 170 [v0, v1, v2, v3, v4, v5, v6] st u P) := zr_If k201_167
theorem k201_170 : xcd 201 170 = oRv 0 := rfl
theorem r201_170 : zr 201 170 [v0, v1, v2, v3, v4, v5, v6] [] u P = P none u := zr_Rv k201_170
theorem k201_171 : xcd 201 171 = oAl 0 172 := rfl
theorem r201_171 : zr 201 171 [.ref a0, v1, v2, v3, v4, v5, v6] st u P = zr 201 172 [.ref a0, v1, v2, v3, v4, v5, v6] (.ref a0 :: st) u P := zr_Al k201_171 rfl
theorem k201_172 : xcd 201 172 = oGR 11 4 175 := rfl
theorem r201_172 : zr 201 172 [v0, v1, v2, v3, v4, v5, v6] (.ref b1 :: st) u P = (xIs u b1 11 ∧ ∃ b, xR u b1 4 = some b ∧ zr 201 175 [v0, v1, v2, v3, v4, v5, v6] (.ref b :: st) u P) := zr_GR k201_172
theorem k201_175 : xcd 201 175 = oIl 4 177 := rfl
theorem r201_175 : zr 201 175 [v0, v1, v2, v3, .int x4, v5, v6] st u P = zr 201 177 [v0, v1, v2, v3, .int x4, v5, v6] (.int x4 :: st) u P := zr_Il k201_175 rfl
theorem k201_177 : xcd 201 177 = oIl 1 178 := rfl
theorem r201_177 : zr 201 177 [v0, .int x1, v2, v3, v4, v5, v6] st u P = zr 201 178 [v0, .int x1, v2, v3, v4, v5, v6] (.int x1 :: st) u P := zr_Il k201_177 rfl
theorem k201_178 : xcd 201 178 = oSt 13 (fun x => x) 179 := rfl
theorem r201_178 : zr 201 178 [v0, v1, v2, v3, v4, v5, v6] (.int y2 :: .int y1 :: .ref b1 :: st) u P = ((xIs u b1 13 ∧ xinb y1 (xN u b1)) ∧ zr 201 179 [v0, v1, v2, v3, v4, v5, v6] st (xsI u b1 (xix y1) y2) P) := zr_St k201_178
theorem k201_179 : xcd 201 179 = oAl 0 180 := rfl
theorem r201_179 : zr 201 179 [.ref a0, v1, v2, v3, v4, v5, v6] st u P = zr 201 180 [.ref a0, v1, v2, v3, v4, v5, v6] (.ref a0 :: st) u P := zr_Al k201_179 rfl
theorem k201_180 : xcd 201 180 = oGR 11 4 183 := rfl
theorem r201_180 : zr 201 180 [v0, v1, v2, v3, v4, v5, v6] (.ref b1 :: st) u P = (xIs u b1 11 ∧ ∃ b, xR u b1 4 = some b ∧ zr 201 183 [v0, v1, v2, v3, v4, v5, v6] (.ref b :: st) u P) := zr_GR k201_180
theorem k201_183 : xcd 201 183 = oIl 4 185 := rfl
theorem r201_183 : zr 201 183 [v0, v1, v2, v3, .int x4, v5, v6] st u P = zr 201 185 [v0, v1, v2, v3, .int x4, v5, v6] (.int x4 :: st) u P := zr_Il k201_183 rfl
theorem k201_185 : xcd 201 185 = oI 1 186 := rfl
theorem r201_185 : zr 201 185 [v0, v1, v2, v3, v4, v5, v6] st u P = zr 201 186 [v0, v1, v2, v3, v4, v5, v6] (.int 1 :: st) u P := zr_I k201_185
theorem k201_186 : xcd 201 186 = oB (fun x y => x + y) 187 := rfl
theorem r201_186 : zr 201 186 [v0, v1, v2, v3, v4, v5, v6] (.int y1 :: .int y2 :: st) u P = zr 201 187 [v0, v1, v2, v3, v4, v5, v6] (.int (y2 + y1) :: st) u P := zr_B k201_186
theorem k201_187 : xcd 201 187 = oIl 3 188 := rfl
theorem r201_187 : zr 201 187 [v0, v1, v2, .int x3, v4, v5, v6] st u P = zr 201 188 [v0, v1, v2, .int x3, v4, v5, v6] (.int x3 :: st) u P := zr_Il k201_187 rfl
theorem k201_188 : xcd 201 188 = oSt 13 (fun x => x) 189 := rfl
theorem r201_188 : zr 201 188 [v0, v1, v2, v3, v4, v5, v6] (.int y2 :: .int y1 :: .ref b1 :: st) u P = ((xIs u b1 13 ∧ xinb y1 (xN u b1)) ∧ zr 201 189 [v0, v1, v2, v3, v4, v5, v6] st (xsI u b1 (xix y1) y2) P) := zr_St k201_188
theorem k201_189 : xcd 201 189 = oAl 0 190 := rfl
theorem r201_189 : zr 201 189 [.ref a0, v1, v2, v3, v4, v5, v6] st u P = zr 201 190 [.ref a0, v1, v2, v3, v4, v5, v6] (.ref a0 :: st) u P := zr_Al k201_189 rfl
theorem k201_190 : xcd 201 190 = oGR 11 4 193 := rfl
theorem r201_190 : zr 201 190 [v0, v1, v2, v3, v4, v5, v6] (.ref b1 :: st) u P = (xIs u b1 11 ∧ ∃ b, xR u b1 4 = some b ∧ zr 201 193 [v0, v1, v2, v3, v4, v5, v6] (.ref b :: st) u P) := zr_GR k201_190
theorem k201_193 : xcd 201 193 = oIl 4 195 := rfl
theorem r201_193 : zr 201 193 [v0, v1, v2, v3, .int x4, v5, v6] st u P = zr 201 195 [v0, v1, v2, v3, .int x4, v5, v6] (.int x4 :: st) u P := zr_Il k201_193 rfl
theorem k201_195 : xcd 201 195 = oI 2 196 := rfl
theorem r201_195 : zr 201 195 [v0, v1, v2, v3, v4, v5, v6] st u P = zr 201 196 [v0, v1, v2, v3, v4, v5, v6] (.int 2 :: st) u P := zr_I k201_195
theorem k201_196 : xcd 201 196 = oB (fun x y => x + y) 197 := rfl
theorem r201_196 : zr 201 196 [v0, v1, v2, v3, v4, v5, v6] (.int y1 :: .int y2 :: st) u P = zr 201 197 [v0, v1, v2, v3, v4, v5, v6] (.int (y2 + y1) :: st) u P := zr_B k201_196
theorem k201_197 : xcd 201 197 = oIl 5 199 := rfl
theorem r201_197 : zr 201 197 [v0, v1, v2, v3, v4, .int x5, v6] st u P = zr 201 199 [v0, v1, v2, v3, v4, .int x5, v6] (.int x5 :: st) u P := zr_Il k201_197 rfl
theorem k201_199 : xcd 201 199 = oSt 13 (fun x => x) 200 := rfl
theorem r201_199 : zr 201 199 [v0, v1, v2, v3, v4, v5, v6] (.int y2 :: .int y1 :: .ref b1 :: st) u P = ((xIs u b1 13 ∧ xinb y1 (xN u b1)) ∧ zr 201 200 [v0, v1, v2, v3, v4, v5, v6] st (xsI u b1 (xix y1) y2) P) := zr_St k201_199
theorem k201_200 : xcd 201 200 = oAl 0 201 := rfl
theorem r201_200 : zr 201 200 [.ref a0, v1, v2, v3, v4, v5, v6] st u P = zr 201 201 [.ref a0, v1, v2, v3, v4, v5, v6] (.ref a0 :: st) u P := zr_Al k201_200 rfl
theorem k201_201 : xcd 201 201 = oGR 11 4 204 := rfl
theorem r201_201 : zr 201 201 [v0, v1, v2, v3, v4, v5, v6] (.ref b1 :: st) u P = (xIs u b1 11 ∧ ∃ b, xR u b1 4 = some b ∧ zr 201 204 [v0, v1, v2, v3, v4, v5, v6] (.ref b :: st) u P) := zr_GR k201_201
theorem k201_204 : xcd 201 204 = oI 4 205 := rfl
theorem r201_204 : zr 201 204 [v0, v1, v2, v3, v4, v5, v6] st u P = zr 201 205 [v0, v1, v2, v3, v4, v5, v6] (.int 4 :: st) u P := zr_I k201_204
theorem k201_205 : xcd 201 205 = oDup2 206 := rfl
theorem r201_205 : zr 201 205 [v0, v1, v2, v3, v4, v5, v6] (.int y1 :: .ref b1 :: st) u P = zr 201 206 [v0, v1, v2, v3, v4, v5, v6] (.int y1 :: .ref b1 :: .int y1 :: .ref b1 :: st) u P := zr_Dup2 k201_205
theorem k201_206 : xcd 201 206 = oLd 13 207 := rfl
theorem r201_206 : zr 201 206 [v0, v1, v2, v3, v4, v5, v6] (.int y1 :: .ref b1 :: st) u P = ((xIs u b1 13 ∧ xinb y1 (xN u b1)) ∧ zr 201 207 [v0, v1, v2, v3, v4, v5, v6] (.int (xI u b1 (xix y1)) :: st) u P) := zr_Ld k201_206
theorem k201_207 : xcd 201 207 = oI 1 208 := rfl
theorem r201_207 : zr 201 207 [v0, v1, v2, v3, v4, v5, v6] st u P = zr 201 208 [v0, v1, v2, v3, v4, v5, v6] (.int 1 :: st) u P := zr_I k201_207
theorem k201_208 : xcd 201 208 = oB (fun x y => x + y) 209 := rfl
theorem r201_208 : zr 201 208 [v0, v1, v2, v3, v4, v5, v6] (.int y1 :: .int y2 :: st) u P = zr 201 209 [v0, v1, v2, v3, v4, v5, v6] (.int (y2 + y1) :: st) u P := zr_B k201_208
theorem k201_209 : xcd 201 209 = oSt 13 (fun x => x) 210 := rfl
theorem r201_209 : zr 201 209 [v0, v1, v2, v3, v4, v5, v6] (.int y2 :: .int y1 :: .ref b1 :: st) u P = ((xIs u b1 13 ∧ xinb y1 (xN u b1)) ∧ zr 201 210 [v0, v1, v2, v3, v4, v5, v6] st (xsI u b1 (xix y1) y2) P) := zr_St k201_209
theorem k201_210 : xcd 201 210 = oRv 0 := rfl
theorem r201_210 : zr 201 210 [v0, v1, v2, v3, v4, v5, v6] [] u P = P none u := zr_Rv k201_210
theorem k202_0 : xcd 202 0 = oAl 0 1 := rfl
theorem r202_0 : zr 202 0 [.ref a0, v1, v2, v3] st u P = zr 202 1 [.ref a0, v1, v2, v3] (.ref a0 :: st) u P := zr_Al k202_0 rfl
theorem k202_1 : xcd 202 1 = oI 5 2 := rfl
theorem r202_1 : zr 202 1 [v0, v1, v2, v3] st u P = zr 202 2 [v0, v1, v2, v3] (.int 5 :: st) u P := zr_I k202_1
theorem k202_2 : xcd 202 2 = oLd 13 3 := rfl
theorem r202_2 : zr 202 2 [v0, v1, v2, v3] (.int y1 :: .ref b1 :: st) u P = ((xIs u b1 13 ∧ xinb y1 (xN u b1)) ∧ zr 202 3 [v0, v1, v2, v3] (.int (xI u b1 (xix y1)) :: st) u P) := zr_Ld k202_2
theorem k202_3 : xcd 202 3 = oI 1 4 := rfl
theorem r202_3 : zr 202 3 [v0, v1, v2, v3] st u P = zr 202 4 [v0, v1, v2, v3] (.int 1 :: st) u P := zr_I k202_3
theorem k202_4 : xcd 202 4 = oB (fun x y => x - y) 5 := rfl
theorem r202_4 : zr 202 4 [v0, v1, v2, v3] (.int y1 :: .int y2 :: st) u P = zr 202 5 [v0, v1, v2, v3] (.int (y2 - y1) :: st) u P := zr_B k202_4
theorem k202_5 : xcd 202 5 = oIs 3 6 := rfl
theorem r202_5 : zr 202 5 [v0, v1, .int x2, v3] (.int y1 :: st) u P = zr 202 6 [v0, v1, .int x2, .int y1] st u P := zr_Is k202_5 ⟨Nat.le_of_ble_eq_true rfl, rfl⟩
theorem k202_6 : xcd 202 6 = oIl 3 7 := rfl
theorem r202_6 : zr 202 6 [v0, v1, v2, .int x3] st u P = zr 202 7 [v0, v1, v2, .int x3] (.int x3 :: st) u P := zr_Il k202_6 rfl
theorem k202_7 : xcd 202 7 = oIf (fun x => decide (x < 0)) 46 10 := rfl
theorem r202_7 : zr 202 7 [v0, v1, v2, v3] (.int y1 :: st) u P = (if y1 < 0 then zr 202 46 [v0, v1, v2, v3] st u P else zr 202 10 [v0, v1, v2, v3] st u P) := zr_If k202_7
theorem k202_10 : xcd 202 10 = oAl 0 11 := rfl
theorem r202_10 : zr 202 10 [.ref a0, v1, v2, v3] st u P = zr 202 11 [.ref a0, v1, v2, v3] (.ref a0 :: st) u P := zr_Al k202_10 rfl
theorem k202_11 : xcd 202 11 = oI 274 14 := rfl
theorem r202_11 : zr 202 11 [v0, v1, v2, v3] st u P = zr 202 14 [v0, v1, v2, v3] (.int 274 :: st) u P := zr_I k202_11
theorem k202_14 : xcd 202 14 = oI 4 15 := rfl
theorem r202_14 : zr 202 14 [v0, v1, v2, v3] st u P = zr 202 15 [v0, v1, v2, v3] (.int 4 :: st) u P := zr_I k202_14
theorem k202_15 : xcd 202 15 = oIl 3 16 := rfl
theorem r202_15 : zr 202 15 [v0, v1, v2, .int x3] st u P = zr 202 16 [v0, v1, v2, .int x3] (.int x3 :: st) u P := zr_Il k202_15 rfl
theorem k202_16 : xcd 202 16 = oB (fun x y => x * y) 17 := rfl
theorem r202_16 : zr 202 16 [v0, v1, v2, v3] (.int y1 :: .int y2 :: st) u P = zr 202 17 [v0, v1, v2, v3] (.int (y2 * y1) :: st) u P := zr_B k202_16
theorem k202_17 : xcd 202 17 = oB (fun x y => x + y) 18 := rfl
theorem r202_17 : zr 202 17 [v0, v1, v2, v3] (.int y1 :: .int y2 :: st) u P = zr 202 18 [v0, v1, v2, v3] (.int (y2 + y1) :: st) u P := zr_B k202_17
theorem k202_18 : xcd 202 18 = oLd 13 19 := rfl
theorem r202_18 : zr 202 18 [v0, v1, v2, v3] (.int y1 :: .ref b1 :: st) u P = ((xIs u b1 13 ∧ xinb y1 (xN u b1)) ∧ zr 202 19 [v0, v1, v2, v3] (.int (xI u b1 (xix y1)) :: st) u P) := zr_Ld k202_18
theorem k202_19 : xcd 202 19 = oIl 1 20 := rfl
theorem r202_19 : zr 202 19 [v0, .int x1, v2, v3] st u P = zr 202 20 [v0, .int x1, v2, v3] (.int x1 :: st) u P := zr_Il k202_19 rfl
theorem k202_20 : xcd 202 20 = oCmp (fun x y => decide (¬ x = y)) 40 23 := rfl
theorem r202_20 : zr 202 20 [v0, v1, v2, v3] (.int y1 :: .int y2 :: st) u P = (if ¬ y2 = y1 then zr 202 40 [v0, v1, v2, v3] st u P else zr 202 23 [v0, v1, v2, v3] st u P) := zr_Cmp k202_20
theorem k202_23 : xcd 202 23 = oAl 0 24 := rfl
theorem r202_23 : zr 202 23 [.ref a0, v1, v2, v3] st u P = zr 202 24 [.ref a0, v1, v2, v3] (.ref a0 :: st) u P := zr_Al k202_23 rfl
theorem k202_24 : xcd 202 24 = oI 274 27 := rfl
theorem r202_24 : zr 202 24 [v0, v1, v2, v3] st u P = zr 202 27 [v0, v1, v2, v3] (.int 274 :: st) u P := zr_I k202_24
theorem k202_27 : xcd 202 27 = oI 4 28 := rfl
theorem r202_27 : zr 202 27 [v0, v1, v2, v3] st u P = zr 202 28 [v0, v1, v2, v3] (.int 4 :: st) u P := zr_I k202_27
theorem k202_28 : xcd 202 28 = oIl 3 29 := rfl
theorem r202_28 : zr 202 28 [v0, v1, v2, .int x3] st u P = zr 202 29 [v0, v1, v2, .int x3] (.int x3 :: st) u P := zr_Il k202_28 rfl
theorem k202_29 : xcd 202 29 = oB (fun x y => x * y) 30 := rfl
theorem r202_29 : zr 202 29 [v0, v1, v2, v3] (.int y1 :: .int y2 :: st) u P = zr 202 30 [v0, v1, v2, v3] (.int (y2 * y1) :: st) u P := zr_B k202_29
theorem k202_30 : xcd 202 30 = oB (fun x y => x + y) 31 := rfl
theorem r202_30 : zr 202 30 [v0, v1, v2, v3] (.int y1 :: .int y2 :: st) u P = zr 202 31 [v0, v1, v2, v3] (.int (y2 + y1) :: st) u P := zr_B k202_30
theorem k202_31 : xcd 202 31 = oI 1 32 := rfl
theorem r202_31 : zr 202 31 [v0, v1, v2, v3] st u P = zr 202 32 [v0, v1, v2, v3] (.int 1 :: st) u P := zr_I k202_31
theorem k202_32 : xcd 202 32 = oB (fun x y => x + y) 33 := rfl
theorem r202_32 : zr 202 32 [v0, v1, v2, v3] (.int y1 :: .int y2 :: st) u P = zr 202 33 [v0, v1, v2, v3] (.int (y2 + y1) :: st) u P := zr_B k202_32
theorem k202_33 : xcd 202 33 = oLd 13 34 := rfl
theorem r202_33 : zr 202 33 [v0, v1, v2, v3] (.int y1 :: .ref b1 :: st) u P = ((xIs u b1 13 ∧ xinb y1 (xN u b1)) ∧ zr 202 34 [v0, v1, v2, v3] (.int (xI u b1 (xix y1)) :: st) u P) := zr_Ld k202_33
theorem k202_34 : xcd 202 34 = oIl 2 35 := rfl
theorem r202_34 : zr 202 34 [v0, v1, .int x2, v3] st u P = zr 202 35 [v0, v1, .int x2, v3] (.int x2 :: st) u P := zr_Il k202_34 rfl
theorem k202_35 : xcd 202 35 = oCmp (fun x y => decide (¬ x = y)) 40 38 := rfl
theorem r202_35 : zr 202 35 [v0, v1, v2, v3] (.int y1 :: .int y2 :: st) u P = (if ¬ y2 = y1 then zr 202 40 [v0, v1, v2, v3] st u P else zr 202 38 [v0, v1, v2, v3] st u P) := zr_Cmp k202_35
theorem k202_38 : xcd 202 38 = oIl 3 39 := rfl
theorem r202_38 : zr 202 38 [v0, v1, v2, .int x3] st u P = zr 202 39 [v0, v1, v2, .int x3] (.int x3 :: st) u P := zr_Il k202_38 rfl
theorem k202_39 : xcd 202 39 = oRi 0 := rfl
theorem r202_39 : zr 202 39 [v0, v1, v2, v3] [.int y1] u P = P (some (.int y1)) u := zr_Ri k202_39
theorem k202_40 : xcd 202 40 = oInc 3 (-1) 43 := rfl
theorem r202_40 : zr 202 40 [v0, v1, .int x2, .int x3] st u P = zr 202 43 [v0, v1, .int x2, .int (x3 + (-1))] st u P := zr_Inc k202_40 rfl rfl
theorem k202_43 : xcd 202 43 = oGoto 6 := rfl
theorem r202_43 : zr 202 43 [v0, v1, v2, v3] st u P = zr 202 6 [v0, v1, v2, v3] st u P := zr_Goto k202_43
theorem k202_46 : xcd 202 46 = oI (-1) 47 := rfl
theorem r202_46 : zr 202 46 [v0, v1, v2, v3] st u P = zr 202 47 [v0, v1, v2, v3] (.int (-1) :: st) u P := zr_I k202_46
theorem k202_47 : xcd 202 47 = oRi 0 := rfl
theorem r202_47 : zr 202 47 [v0, v1, v2, v3] [.int y1] u P = P (some (.int y1)) u := zr_Ri k202_47
theorem k203_0 : xcd 203 0 = oAl 0 1 := rfl
theorem r203_0 : zr 203 0 [.ref a0, v1, v2, v3, v4, v5] st u P = zr 203 1 [.ref a0, v1, v2, v3, v4, v5] (.ref a0 :: st) u P := zr_Al k203_0 rfl
theorem k203_1 : xcd 203 1 = oI 5 2 := rfl
theorem r203_1 : zr 203 1 [v0, v1, v2, v3, v4, v5] st u P = zr 203 2 [v0, v1, v2, v3, v4, v5] (.int 5 :: st) u P := zr_I k203_1
theorem k203_2 : xcd 203 2 = oI 20 4 := rfl
theorem r203_2 : zr 203 2 [v0, v1, v2, v3, v4, v5] st u P = zr 203 4 [v0, v1, v2, v3, v4, v5] (.int 20 :: st) u P := zr_I k203_2
theorem k203_4 : xcd 203 4 = oCalV 11 196 2 7 := rfl
theorem r203_4 : zr 203 4 [v0, v1, v2, v3, v4, v5] (.int y2 :: .int y1 :: .ref b8 :: st) u P = ((xIs u b8 11 ∧ xcat st ≤ 8) ∧ zr 196 0 [.ref b8, .int y1, .int y2] [] u (fun r u2 => zr 203 7 [v0, v1, v2, v3, v4, v5] (r.toList ++ st) u2 P)) := zr_CV k203_4 rfl rfl rfl ⟨Nat.le_of_ble_eq_true rfl, Nat.succ_ne_zero _, by decide⟩ rfl
theorem k203_7 : xcd 203 7 = oAl 0 8 := rfl
theorem r203_7 : zr 203 7 [.ref a0, v1, v2, v3, v4, v5] st u P = zr 203 8 [.ref a0, v1, v2, v3, v4, v5] (.ref a0 :: st) u P := zr_Al k203_7 rfl
theorem k203_8 : xcd 203 8 = oI 0 9 := rfl
theorem r203_8 : zr 203 8 [v0, v1, v2, v3, v4, v5] st u P = zr 203 9 [v0, v1, v2, v3, v4, v5] (.int 0 :: st) u P := zr_I k203_8
theorem k203_9 : xcd 203 9 = oCalV 11 192 1 12 := rfl
theorem r203_9 : zr 203 9 [v0, v1, v2, v3, v4, v5] (.int y1 :: .ref b8 :: st) u P = ((xIs u b8 11 ∧ xcat st ≤ 8) ∧ zr 192 0 [.ref b8, .int y1, .null] [] u (fun r u2 => zr 203 12 [v0, v1, v2, v3, v4, v5] (r.toList ++ st) u2 P)) := zr_CV k203_9 rfl rfl rfl ⟨Nat.le_of_ble_eq_true rfl, Nat.succ_ne_zero _, by decide⟩ rfl
theorem k203_12 : xcd 203 12 = oIs 1 13 := rfl
theorem r203_12 : zr 203 12 [.ref a0, v1, v2, v3, v4, v5] (.int y1 :: st) u P = zr 203 13 [.ref a0, .int y1, v2, v3, v4, v5] st u P := zr_Is k203_12 ⟨Nat.le_of_ble_eq_true rfl, rfl⟩
theorem k203_13 : xcd 203 13 = oAl 0 14 := rfl
theorem r203_13 : zr 203 13 [.ref a0, v1, v2, v3, v4, v5] st u P = zr 203 14 [.ref a0, v1, v2, v3, v4, v5] (.ref a0 :: st) u P := zr_Al k203_13 rfl
theorem k203_14 : xcd 203 14 = oI 1 15 := rfl
theorem r203_14 : zr 203 14 [v0, v1, v2, v3, v4, v5] st u P = zr 203 15 [v0, v1, v2, v3, v4, v5] (.int 1 :: st) u P := zr_I k203_14
theorem k203_15 : xcd 203 15 = oCalV 11 192 1 18 := rfl
theorem r203_15 : zr 203 15 [v0, v1, v2, v3, v4, v5] (.int y1 :: .ref b8 :: st) u P = ((xIs u b8 11 ∧ xcat st ≤ 8) ∧ zr 192 0 [.ref b8, .int y1, .null] [] u (fun r u2 => zr 203 18 [v0, v1, v2, v3, v4, v5] (r.toList ++ st) u2 P)) := zr_CV k203_15 rfl rfl rfl ⟨Nat.le_of_ble_eq_true rfl, Nat.succ_ne_zero _, by decide⟩ rfl
theorem k203_18 : xcd 203 18 = oIs 2 19 := rfl
theorem r203_18 : zr 203 18 [v0, .int x1, v2, v3, v4, v5] (.int y1 :: st) u P = zr 203 19 [v0, .int x1, .int y1, v3, v4, v5] st u P := zr_Is k203_18 ⟨Nat.le_of_ble_eq_true rfl, rfl⟩
theorem k203_19 : xcd 203 19 = oAl 0 20 := rfl
theorem r203_19 : zr 203 19 [.ref a0, v1, v2, v3, v4, v5] st u P = zr 203 20 [.ref a0, v1, v2, v3, v4, v5] (.ref a0 :: st) u P := zr_Al k203_19 rfl
theorem k203_20 : xcd 203 20 = oGI 11 15 23 := rfl
theorem r203_20 : zr 203 20 [v0, v1, v2, v3, v4, v5] (.ref b1 :: st) u P = (xIs u b1 11 ∧ zr 203 23 [v0, v1, v2, v3, v4, v5] (.int (xI u b1 15) :: st) u P) := zr_GI k203_20
theorem k203_23 : xcd 203 23 = oIf (fun x => decide (x ≤ 0)) 30 26 := rfl
theorem r203_23 : zr 203 23 [v0, v1, v2, v3, v4, v5] (.int y1 :: st) u P = (if y1 ≤ 0 then zr 203 30 [v0, v1, v2, v3, v4, v5] st u P else zr 203 26 [v0, v1, v2, v3, v4, v5] st u P) := zr_If k203_23
theorem k203_26 : xcd 203 26 = oI (-1) 27 := rfl
theorem r203_26 : zr 203 26 [v0, v1, v2, v3, v4, v5] st u P = zr 203 27 [v0, v1, v2, v3, v4, v5] (.int (-1) :: st) u P := zr_I k203_26
theorem k203_27 : xcd 203 27 = oGoto 39 := rfl
theorem r203_27 : zr 203 27 [v0, v1, v2, v3, v4, v5] st u P = zr 203 39 [v0, v1, v2, v3, v4, v5] st u P := zr_Goto k203_27
theorem k203_30 : xcd 203 30 = oAl 0 31 := rfl
theorem r203_30 : zr 203 30 [.ref a0, v1, v2, v3, v4, v5] st u P = zr 203 31 [.ref a0, v1, v2, v3, v4, v5] (.ref a0 :: st) u P := zr_Al k203_30 rfl
theorem k203_31 : xcd 203 31 = oGR 11 4 34 := rfl
theorem r203_31 : zr 203 31 [v0, v1, v2, v3, v4, v5] (.ref b1 :: st) u P = (xIs u b1 11 ∧ ∃ b, xR u b1 4 = some b ∧ zr 203 34 [v0, v1, v2, v3, v4, v5] (.ref b :: st) u P) := zr_GR k203_31
theorem k203_34 : xcd 203 34 = oIl 1 35 := rfl
theorem r203_34 : zr 203 34 [v0, .int x1, v2, v3, v4, v5] st u P = zr 203 35 [v0, .int x1, v2, v3, v4, v5] (.int x1 :: st) u P := zr_Il k203_34 rfl
theorem k203_35 : xcd 203 35 = oIl 2 36 := rfl
theorem r203_35 : zr 203 35 [v0, v1, .int x2, v3, v4, v5] st u P = zr 203 36 [v0, v1, .int x2, v3, v4, v5] (.int x2 :: st) u P := zr_Il k203_35 rfl
theorem k203_36 : xcd 203 36 = oCal 202 3 39 := rfl
theorem r203_36 : zr 203 36 [v0, v1, v2, v3, v4, v5] (.int y3 :: .int y2 :: .ref b1 :: st) u P = (xcat st ≤ 8 ∧ zr 202 0 [.ref b1, .int y2, .int y3, .null] [] u (fun r u2 => zr 203 39 [v0, v1, v2, v3, v4, v5] (r.toList ++ st) u2 P)) := zr_CS k203_36 (Nat.le_add_left _ _) rfl rfl ⟨Nat.le_of_ble_eq_true rfl, Nat.succ_ne_zero _, by decide⟩ rfl
theorem k203_39 : xcd 203 39 = oIs 3 40 := rfl
theorem r203_39 : zr 203 39 [v0, v1, .int x2, v3, v4, v5] (.int y1 :: st) u P = zr 203 40 [v0, v1, .int x2, .int y1, v4, v5] st u P := zr_Is k203_39 ⟨Nat.le_of_ble_eq_true rfl, rfl⟩
theorem k203_40 : xcd 203 40 = oAl 0 41 := rfl
theorem r203_40 : zr 203 40 [.ref a0, v1, v2, v3, v4, v5] st u P = zr 203 41 [.ref a0, v1, v2, v3, v4, v5] (.ref a0 :: st) u P := zr_Al k203_40 rfl
theorem k203_41 : xcd 203 41 = oIl 3 42 := rfl
theorem r203_41 : zr 203 41 [v0, v1, v2, .int x3, v4, v5] st u P = zr 203 42 [v0, v1, v2, .int x3, v4, v5] (.int x3 :: st) u P := zr_Il k203_41 rfl
theorem k203_42 : xcd 203 42 = oI (-1) 43 := rfl
theorem r203_42 : zr 203 42 [v0, v1, v2, v3, v4, v5] st u P = zr 203 43 [v0, v1, v2, v3, v4, v5] (.int (-1) :: st) u P := zr_I k203_42
theorem k203_43 : xcd 203 43 = oCmp (fun x y => decide (¬ x = y)) 50 46 := rfl
theorem r203_43 : zr 203 43 [v0, v1, v2, v3, v4, v5] (.int y1 :: .int y2 :: st) u P = (if ¬ y2 = y1 then zr 203 50 [v0, v1, v2, v3, v4, v5] st u P else zr 203 46 [v0, v1, v2, v3, v4, v5] st u P) := zr_Cmp k203_43
theorem k203_46 : xcd 203 46 = oI 0 47 := rfl
theorem r203_46 : zr 203 46 [v0, v1, v2, v3, v4, v5] st u P = zr 203 47 [v0, v1, v2, v3, v4, v5] (.int 0 :: st) u P := zr_I k203_46
theorem k203_47 : xcd 203 47 = oGoto 66 := rfl
theorem r203_47 : zr 203 47 [v0, v1, v2, v3, v4, v5] st u P = zr 203 66 [v0, v1, v2, v3, v4, v5] st u P := zr_Goto k203_47
theorem k203_50 : xcd 203 50 = oAl 0 51 := rfl
theorem r203_50 : zr 203 50 [.ref a0, v1, v2, v3, v4, v5] st u P = zr 203 51 [.ref a0, v1, v2, v3, v4, v5] (.ref a0 :: st) u P := zr_Al k203_50 rfl
theorem k203_51 : xcd 203 51 = oGR 11 4 54 := rfl
theorem r203_51 : zr 203 51 [v0, v1, v2, v3, v4, v5] (.ref b1 :: st) u P = (xIs u b1 11 ∧ ∃ b, xR u b1 4 = some b ∧ zr 203 54 [v0, v1, v2, v3, v4, v5] (.ref b :: st) u P) := zr_GR k203_51
theorem k203_54 : xcd 203 54 = oI 274 57 := rfl
theorem r203_54 : zr 203 54 [v0, v1, v2, v3, v4, v5] st u P = zr 203 57 [v0, v1, v2, v3, v4, v5] (.int 274 :: st) u P := zr_I k203_54
theorem k203_57 : xcd 203 57 = oI 4 58 := rfl
theorem r203_57 : zr 203 57 [v0, v1, v2, v3, v4, v5] st u P = zr 203 58 [v0, v1, v2, v3, v4, v5] (.int 4 :: st) u P := zr_I k203_57
theorem k203_58 : xcd 203 58 = oIl 3 59 := rfl
theorem r203_58 : zr 203 58 [v0, v1, v2, .int x3, v4, v5] st u P = zr 203 59 [v0, v1, v2, .int x3, v4, v5] (.int x3 :: st) u P := zr_Il k203_58 rfl
theorem k203_59 : xcd 203 59 = oB (fun x y => x * y) 60 := rfl
theorem r203_59 : zr 203 59 [v0, v1, v2, v3, v4, v5] (.int y1 :: .int y2 :: st) u P = zr 203 60 [v0, v1, v2, v3, v4, v5] (.int (y2 * y1) :: st) u P := zr_B k203_59
theorem k203_60 : xcd 203 60 = oB (fun x y => x + y) 61 := rfl
theorem r203_60 : zr 203 60 [v0, v1, v2, v3, v4, v5] (.int y1 :: .int y2 :: st) u P = zr 203 61 [v0, v1, v2, v3, v4, v5] (.int (y2 + y1) :: st) u P := zr_B k203_60
theorem k203_61 : xcd 203 61 = oI 2 62 := rfl
theorem r203_61 : zr 203 61 [v0, v1, v2, v3, v4, v5] st u P = zr 203 62 [v0, v1, v2, v3, v4, v5] (.int 2 :: st) u P := zr_I k203_61
theorem k203_62 : xcd 203 62 = oB (fun x y => x + y) 63 := rfl
theorem r203_62 : zr 203 62 [v0, v1, v2, v3, v4, v5] (.int y1 :: .int y2 :: st) u P = zr 203 63 [v0, v1, v2, v3, v4, v5] (.int (y2 + y1) :: st) u P := zr_B k203_62
theorem k203_63 : xcd 203 63 = oLd 13 64 := rfl
theorem r203_63 : zr 203 63 [v0, v1, v2, v3, v4, v5] (.int y1 :: .ref b1 :: st) u P = ((xIs u b1 13 ∧ xinb y1 (xN u b1)) ∧ zr 203 64 [v0, v1, v2, v3, v4, v5] (.int (xI u b1 (xix y1)) :: st) u P) := zr_Ld k203_63
theorem k203_64 : xcd 203 64 = oI 1 65 := rfl
theorem r203_64 : zr 203 64 [v0, v1, v2, v3, v4, v5] st u P = zr 203 65 [v0, v1, v2, v3, v4, v5] (.int 1 :: st) u P := zr_I k203_64
theorem k203_65 : xcd 203 65 = oB (fun x y => x + y) 66 := rfl
theorem r203_65 : zr 203 65 [v0, v1, v2, v3, v4, v5] (.int y1 :: .int y2 :: st) u P = zr 203 66 [v0, v1, v2, v3, v4, v5] (.int (y2 + y1) :: st) u P := zr_B k203_65
theorem k203_66 : xcd 203 66 = oI 999 69 := rfl
theorem r203_66 : zr 203 66 [v0, v1, v2, v3, v4, v5] st u P = zr 203 69 [v0, v1, v2, v3, v4, v5] (.int 999 :: st) u P := zr_I k203_66
theorem k203_69 : xcd 203 69 = oCalV 11 184 2 72 := rfl
theorem r203_69 : zr 203 69 [v0, v1, v2, v3, v4, v5] (.int y2 :: .int y1 :: .ref b8 :: st) u P = ((xIs u b8 11 ∧ xcat st ≤ 8) ∧ zr 184 0 [.ref b8, .int y1, .int y2, .null] [] u (fun r u2 => zr 203 72 [v0, v1, v2, v3, v4, v5] (r.toList ++ st) u2 P)) := zr_CV k203_69 rfl rfl rfl ⟨Nat.le_of_ble_eq_true rfl, Nat.succ_ne_zero _, by decide⟩ rfl
theorem k203_72 : xcd 203 72 = oIs 4 74 := rfl
theorem r203_72 : zr 203 72 [v0, v1, v2, .int x3, v4, v5] (.int y1 :: st) u P = zr 203 74 [v0, v1, v2, .int x3, .int y1, v5] st u P := zr_Is k203_72 ⟨Nat.le_of_ble_eq_true rfl, rfl⟩
theorem k203_74 : xcd 203 74 = oAl 0 75 := rfl
theorem r203_74 : zr 203 74 [.ref a0, v1, v2, v3, v4, v5] st u P = zr 203 75 [.ref a0, v1, v2, v3, v4, v5] (.ref a0 :: st) u P := zr_Al k203_74 rfl
theorem k203_75 : xcd 203 75 = oI 0 76 := rfl
theorem r203_75 : zr 203 75 [v0, v1, v2, v3, v4, v5] st u P = zr 203 76 [v0, v1, v2, v3, v4, v5] (.int 0 :: st) u P := zr_I k203_75
theorem k203_76 : xcd 203 76 = oI 2500 79 := rfl
theorem r203_76 : zr 203 76 [v0, v1, v2, v3, v4, v5] st u P = zr 203 79 [v0, v1, v2, v3, v4, v5] (.int 2500 :: st) u P := zr_I k203_76
theorem k203_79 : xcd 203 79 = oCalV 11 184 2 82 := rfl
theorem r203_79 : zr 203 79 [v0, v1, v2, v3, v4, v5] (.int y2 :: .int y1 :: .ref b8 :: st) u P = ((xIs u b8 11 ∧ xcat st ≤ 8) ∧ zr 184 0 [.ref b8, .int y1, .int y2, .null] [] u (fun r u2 => zr 203 82 [v0, v1, v2, v3, v4, v5] (r.toList ++ st) u2 P)) := zr_CV k203_79 rfl rfl rfl ⟨Nat.le_of_ble_eq_true rfl, Nat.succ_ne_zero _, by decide⟩ rfl
theorem k203_82 : xcd 203 82 = oIs 5 84 := rfl
theorem r203_82 : zr 203 82 [v0, v1, v2, v3, .int x4, v5] (.int y1 :: st) u P = zr 203 84 [v0, v1, v2, v3, .int x4, .int y1] st u P := zr_Is k203_82 ⟨Nat.le_of_ble_eq_true rfl, rfl⟩
theorem k203_84 : xcd 203 84 = oAl 0 85 := rfl
theorem r203_84 : zr 203 84 [.ref a0, v1, v2, v3, v4, v5] st u P = zr 203 85 [.ref a0, v1, v2, v3, v4, v5] (.ref a0 :: st) u P := zr_Al k203_84 rfl
theorem k203_85 : xcd 203 85 = oGI 11 15 88 := rfl
theorem r203_85 : zr 203 85 [v0, v1, v2, v3, v4, v5] (.ref b1 :: st) u P = (xIs u b1 11 ∧ zr 203 88 [v0, v1, v2, v3, v4, v5] (.int (xI u b1 15) :: st) u P) := zr_GI k203_85
theorem k203_88 : xcd 203 88 = oIf (fun x => decide (¬ x = 0)) 104 91 := rfl
theorem r203_88 : zr 203 88 [v0, v1, v2, v3, v4, v5] (.int y1 :: st) u P = (if ¬ y1 = 0 then zr 203 104 [v0, v1, v2, v3, v4, v5] st u P else zr 203 91 [v0, v1, v2, v3, v4, v5] st u P) := zr_If k203_88
theorem k203_91 : xcd 203 91 = oAl 0 92 := rfl
theorem r203_91 : zr 203 91 [.ref a0, v1, v2, v3, v4, v5] st u P = zr 203 92 [.ref a0, v1, v2, v3, v4, v5] (.ref a0 :: st) u P := zr_Al k203_91 rfl
theorem k203_92 : xcd 203 92 = oGR 11 4 95 := rfl
theorem r203_92 : zr 203 92 [v0, v1, v2, v3, v4, v5] (.ref b1 :: st) u P = (xIs u b1 11 ∧ ∃ b, xR u b1 4 = some b ∧ zr 203 95 [v0, v1, v2, v3, v4, v5] (.ref b :: st) u P) := zr_GR k203_92
theorem k203_95 : xcd 203 95 = oIl 1 96 := rfl
theorem r203_95 : zr 203 95 [v0, .int x1, v2, v3, v4, v5] st u P = zr 203 96 [v0, .int x1, v2, v3, v4, v5] (.int x1 :: st) u P := zr_Il k203_95 rfl
theorem k203_96 : xcd 203 96 = oIl 2 97 := rfl
theorem r203_96 : zr 203 96 [v0, v1, .int x2, v3, v4, v5] st u P = zr 203 97 [v0, v1, .int x2, v3, v4, v5] (.int x2 :: st) u P := zr_Il k203_96 rfl
theorem k203_97 : xcd 203 97 = oIl 4 99 := rfl
theorem r203_97 : zr 203 97 [v0, v1, v2, v3, .int x4, v5] st u P = zr 203 99 [v0, v1, v2, v3, .int x4, v5] (.int x4 :: st) u P := zr_Il k203_97 rfl
theorem k203_99 : xcd 203 99 = oIl 5 101 := rfl
theorem r203_99 : zr 203 99 [v0, v1, v2, v3, v4, .int x5] st u P = zr 203 101 [v0, v1, v2, v3, v4, .int x5] (.int x5 :: st) u P := zr_Il k203_99 rfl
theorem k203_101 : xcd 203 101 = oCal 204 5 104 := rfl
theorem r203_101 : zr 203 101 [v0, v1, v2, v3, v4, v5] (.int y5 :: .int y4 :: .int y3 :: .int y2 :: .ref b1 :: st) u P = (xcat st ≤ 8 ∧ zr 204 0 [.ref b1, .int y2, .int y3, .int y4, .int y5, .null] [] u (fun r u2 => zr 203 104 [v0, v1, v2, v3, v4, v5] (r.toList ++ st) u2 P)) := zr_CS k203_101 (Nat.le_add_left _ _) rfl rfl ⟨Nat.le_of_ble_eq_true rfl, Nat.succ_ne_zero _, by decide⟩ rfl
theorem k203_104 : xcd 203 104 = oRv 0 := rfl
theorem r203_104 : zr 203 104 [v0, v1, v2, v3, v4, v5] [] u P = P none u := zr_Rv k203_104
theorem k204_0 : xcd 204 0 = oI 274 3 := rfl
theorem r204_0 : zr 204 0 [v0, v1, v2, v3, v4, v5] st u P = zr 204 3 [v0, v1, v2, v3, v4, v5] (.int 274 :: st) u P := zr_I k204_0
theorem k204_3 : xcd 204 3 = oI 4 4 := rfl
theorem r204_3 : zr 204 3 [v0, v1, v2, v3, v4, v5] st u P = zr 204 4 [v0, v1, v2, v3, v4, v5] (.int 4 :: st) u P := zr_I k204_3
theorem k204_4 : xcd 204 4 = oAl 0 5 := rfl
theorem r204_4 : zr 204 4 [.ref a0, v1, v2, v3, v4, v5] st u P = zr 204 5 [.ref a0, v1, v2, v3, v4, v5] (.ref a0 :: st) u P := zr_Al k204_4 rfl
theorem k204_5 : xcd 204 5 = oI 5 6 := rfl
theorem r204_5 : zr 204 5 [v0, v1, v2, v3, v4, v5] st u P = zr 204 6 [v0, v1, v2, v3, v4, v5] (.int 5 :: st) u P := zr_I k204_5
theorem k204_6 : xcd 204 6 = oLd 13 7 := rfl
theorem r204_6 : zr 204 6 [v0, v1, v2, v3, v4, v5] (.int y1 :: .ref b1 :: st) u P = ((xIs u b1 13 ∧ xinb y1 (xN u b1)) ∧ zr 204 7 [v0, v1, v2, v3, v4, v5] (.int (xI u b1 (xix y1)) :: st) u P) := zr_Ld k204_6
theorem k204_7 : xcd 204 7 = oB (fun x y => x * y) 8 := rfl
theorem r204_7 : zr 204 7 [v0, v1, v2, v3, v4, v5] (.int y1 :: .int y2 :: st) u P = zr 204 8 [v0, v1, v2, v3, v4, v5] (.int (y2 * y1) :: st) u P := zr_B k204_7
theorem k204_8 : xcd 204 8 = oB (fun x y => x + y) 9 := rfl
theorem r204_8 : zr 204 8 [v0, v1, v2, v3, v4, v5] (.int y1 :: .int y2 :: st) u P = zr 204 9 [v0, v1, v2, v3, v4, v5] (.int (y2 + y1) :: st) u P := zr_B k204_8
theorem k204_9 : xcd 204 9 = oIs 5 11 := rfl
theorem r204_9 : zr 204 9 [v0, v1, v2, v3, .int x4, v5] (.int y1 :: st) u P = zr 204 11 [v0, v1, v2, v3, .int x4, .int y1] st u P := zr_Is k204_9 ⟨Nat.le_of_ble_eq_true rfl, rfl⟩
theorem k204_11 : xcd 204 11 = oAl 0 12 := rfl
theorem r204_11 : zr 204 11 [.ref a0, v1, v2, v3, v4, v5] st u P = zr 204 12 [.ref a0, v1, v2, v3, v4, v5] (.ref a0 :: st) u P := zr_Al k204_11 rfl
theorem k204_12 : xcd 204 12 = oIl 5 14 := rfl
theorem r204_12 : zr 204 12 [v0, v1, v2, v3, v4, .int x5] st u P = zr 204 14 [v0, v1, v2, v3, v4, .int x5] (.int x5 :: st) u P := zr_Il k204_12 rfl
theorem k204_14 : xcd 204 14 = oIl 1 15 := rfl
theorem r204_14 : zr 204 14 [v0, .int x1, v2, v3, v4, v5] st u P = zr 204 15 [v0, .int x1, v2, v3, v4, v5] (.int x1 :: st) u P := zr_Il k204_14 rfl
theorem k204_15 : xcd 204 15 = oSt 13 (fun x => x) 16 := rfl
theorem r204_15 : zr 204 15 [v0, v1, v2, v3, v4, v5] (.int y2 :: .int y1 :: .ref b1 :: st) u P = ((xIs u b1 13 ∧ xinb y1 (xN u b1)) ∧ zr 204 16 [v0, v1, v2, v3, v4, v5] st (xsI u b1 (xix y1) y2) P) := zr_St k204_15
theorem k204_16 : xcd 204 16 = oAl 0 17 := rfl
theorem r204_16 : zr 204 16 [.ref a0, v1, v2, v3, v4, v5] st u P = zr 204 17 [.ref a0, v1, v2, v3, v4, v5] (.ref a0 :: st) u P := zr_Al k204_16 rfl
theorem k204_17 : xcd 204 17 = oIl 5 19 := rfl
theorem r204_17 : zr 204 17 [v0, v1, v2, v3, v4, .int x5] st u P = zr 204 19 [v0, v1, v2, v3, v4, .int x5] (.int x5 :: st) u P := zr_Il k204_17 rfl
theorem k204_19 : xcd 204 19 = oI 1 20 := rfl
theorem r204_19 : zr 204 19 [v0, v1, v2, v3, v4, v5] st u P = zr 204 20 [v0, v1, v2, v3, v4, v5] (.int 1 :: st) u P := zr_I k204_19
theorem k204_20 : xcd 204 20 = oB (fun x y => x + y) 21 := rfl
theorem r204_20 : zr 204 20 [v0, v1, v2, v3, v4, v5] (.int y1 :: .int y2 :: st) u P = zr 204 21 [v0, v1, v2, v3, v4, v5] (.int (y2 + y1) :: st) u P := zr_B k204_20
theorem k204_21 : xcd 204 21 = oIl 2 22 := rfl
theorem r204_21 : zr 204 21 [v0, v1, .int x2, v3, v4, v5] st u P = zr 204 22 [v0, v1, .int x2, v3, v4, v5] (.int x2 :: st) u P := zr_Il k204_21 rfl
theorem k204_22 : xcd 204 22 = oSt 13 (fun x => x) 23 := rfl
theorem r204_22 : zr 204 22 [v0, v1, v2, v3, v4, v5] (.int y2 :: .int y1 :: .ref b1 :: st) u P = ((xIs u b1 13 ∧ xinb y1 (xN u b1)) ∧ zr 204 23 [v0, v1, v2, v3, v4, v5] st (xsI u b1 (xix y1) y2) P) := zr_St k204_22
theorem k204_23 : xcd 204 23 = oAl 0 24 := rfl
theorem r204_23 : zr 204 23 [.ref a0, v1, v2, v3, v4, v5] st u P = zr 204 24 [.ref a0, v1, v2, v3, v4, v5] (.ref a0 :: st) u P := zr_Al k204_23 rfl
theorem k204_24 : xcd 204 24 = oIl 5 26 := rfl
theorem r204_24 : zr 204 24 [v0, v1, v2, v3, v4, .int x5] st u P = zr 204 26 [v0, v1, v2, v3, v4, .int x5] (.int x5 :: st) u P := zr_Il k204_24 rfl
theorem k204_26 : xcd 204 26 = oI 2 27 := rfl
theorem r204_26 : zr 204 26 [v0, v1, v2, v3, v4, v5] st u P = zr 204 27 [v0, v1, v2, v3, v4, v5] (.int 2 :: st) u P := zr_I k204_26
theorem k204_27 : xcd 204 27 = oB (fun x y => x + y) 28 := rfl
theorem r204_27 : zr 204 27 [v0, v1, v2, v3, v4, v5] (.int y1 :: .int y2 :: st) u P = zr 204 28 [v0, v1, v2, v3, v4, v5] (.int (y2 + y1) :: st) u P := zr_B k204_27
theorem k204_28 : xcd 204 28 = oIl 3 29 := rfl
theorem r204_28 : zr 204 28 [v0, v1, v2, .int x3, v4, v5] st u P = zr 204 29 [v0, v1, v2, .int x3, v4, v5] (.int x3 :: st) u P := zr_Il k204_28 rfl
theorem k204_29 : xcd 204 29 = oSt 13 (fun x => x) 30 := rfl
theorem r204_29 : zr 204 29 [v0, v1, v2, v3, v4, v5] (.int y2 :: .int y1 :: .ref b1 :: st) u P = ((xIs u b1 13 ∧ xinb y1 (xN u b1)) ∧ zr 204 30 [v0, v1, v2, v3, v4, v5] st (xsI u b1 (xix y1) y2) P) := zr_St k204_29
theorem k204_30 : xcd 204 30 = oAl 0 31 := rfl
theorem r204_30 : zr 204 30 [.ref a0, v1, v2, v3, v4, v5] st u P = zr 204 31 [.ref a0, v1, v2, v3, v4, v5] (.ref a0 :: st) u P := zr_Al k204_30 rfl
theorem k204_31 : xcd 204 31 = oIl 5 33 := rfl
theorem r204_31 : zr 204 31 [v0, v1, v2, v3, v4, .int x5] st u P = zr 204 33 [v0, v1, v2, v3, v4, .int x5] (.int x5 :: st) u P := zr_Il k204_31 rfl
theorem k204_33 : xcd 204 33 = oI 3 34 := rfl
theorem r204_33 : zr 204 33 [v0, v1, v2, v3, v4, v5] st u P = zr 204 34 [v0, v1, v2, v3, v4, v5] (.int 3 :: st) u P := zr_I k204_33
theorem k204_34 : xcd 204 34 = oB (fun x y => x + y) 35 := rfl
theorem r204_34 : zr 204 34 [v0, v1, v2, v3, v4, v5] (.int y1 :: .int y2 :: st) u P = zr 204 35 [v0, v1, v2, v3, v4, v5] (.int (y2 + y1) :: st) u P := zr_B k204_34
theorem k204_35 : xcd 204 35 = oIl 4 37 := rfl
theorem r204_35 : zr 204 35 [v0, v1, v2, v3, .int x4, v5] st u P = zr 204 37 [v0, v1, v2, v3, .int x4, v5] (.int x4 :: st) u P := zr_Il k204_35 rfl
theorem k204_37 : xcd 204 37 = oSt 13 (fun x => x) 38 := rfl
theorem r204_37 : zr 204 37 [v0, v1, v2, v3, v4, v5] (.int y2 :: .int y1 :: .ref b1 :: st) u P = ((xIs u b1 13 ∧ xinb y1 (xN u b1)) ∧ zr 204 38 [v0, v1, v2, v3, v4, v5] st (xsI u b1 (xix y1) y2) P) := zr_St k204_37
theorem k204_38 : xcd 204 38 = oAl 0 39 := rfl
theorem r204_38 : zr 204 38 [.ref a0, v1, v2, v3, v4, v5] st u P = zr 204 39 [.ref a0, v1, v2, v3, v4, v5] (.ref a0 :: st) u P := zr_Al k204_38 rfl
theorem k204_39 : xcd 204 39 = oI 5 40 := rfl
theorem r204_39 : zr 204 39 [v0, v1, v2, v3, v4, v5] st u P = zr 204 40 [v0, v1, v2, v3, v4, v5] (.int 5 :: st) u P := zr_I k204_39
theorem k204_40 : xcd 204 40 = oDup2 41 := rfl
theorem r204_40 : zr 204 40 [v0, v1, v2, v3, v4, v5] (.int y1 :: .ref b1 :: st) u P = zr 204 41 [v0, v1, v2, v3, v4, v5] (.int y1 :: .ref b1 :: .int y1 :: .ref b1 :: st) u P := zr_Dup2 k204_40
theorem k204_41 : xcd 204 41 = oLd 13 42 := rfl
theorem r204_41 : zr 204 41 [v0, v1, v2, v3, v4, v5] (.int y1 :: .ref b1 :: st) u P = ((xIs u b1 13 ∧ xinb y1 (xN u b1)) ∧ zr 204 42 [v0, v1, v2, v3, v4, v5] (.int (xI u b1 (xix y1)) :: st) u P) := zr_Ld k204_41
theorem k204_42 : xcd 204 42 = oI 1 43 := rfl
theorem r204_42 : zr 204 42 [v0, v1, v2, v3, v4, v5] st u P = zr 204 43 [v0, v1, v2, v3, v4, v5] (.int 1 :: st) u P := zr_I k204_42
theorem k204_43 : xcd 204 43 = oB (fun x y => x + y) 44 := rfl
theorem r204_43 : zr 204 43 [v0, v1, v2, v3, v4, v5] (.int y1 :: .int y2 :: st) u P = zr 204 44 [v0, v1, v2, v3, v4, v5] (.int (y2 + y1) :: st) u P := zr_B k204_43
theorem k204_44 : xcd 204 44 = oSt 13 (fun x => x) 45 := rfl
theorem r204_44 : zr 204 44 [v0, v1, v2, v3, v4, v5] (.int y2 :: .int y1 :: .ref b1 :: st) u P = ((xIs u b1 13 ∧ xinb y1 (xN u b1)) ∧ zr 204 45 [v0, v1, v2, v3, v4, v5] st (xsI u b1 (xix y1) y2) P) := zr_St k204_44
theorem k204_45 : xcd 204 45 = oRv 0 := rfl
theorem r204_45 : zr 204 45 [v0, v1, v2, v3, v4, v5] [] u P = P none u := zr_Rv k204_45
theorem k205_0 : xcd 205 0 = oAl 0 1 := rfl
theorem r205_0 : zr 205 0 [.ref a0, v1, v2, v3, v4, v5, v6] st u P = zr 205 1 [.ref a0, v1, v2, v3, v4, v5, v6] (.ref a0 :: st) u P := zr_Al k205_0 rfl
theorem k205_1 : xcd 205 1 = oI 6 3 := rfl
theorem r205_1 : zr 205 1 [v0, v1, v2, v3, v4, v5, v6] st u P = zr 205 3 [v0, v1, v2, v3, v4, v5, v6] (.int 6 :: st) u P := zr_I k205_1
theorem k205_3 : xcd 205 3 = oI 6 5 := rfl
theorem r205_3 : zr 205 3 [v0, v1, v2, v3, v4, v5, v6] st u P = zr 205 5 [v0, v1, v2, v3, v4, v5, v6] (.int 6 :: st) u P := zr_I k205_3
theorem k205_5 : xcd 205 5 = oCalV 11 196 2 8 := rfl
theorem r205_5 : zr 205 5 [v0, v1, v2, v3, v4, v5, v6] (.int y2 :: .int y1 :: .ref b8 :: st) u P = ((xIs u b8 11 ∧ xcat st ≤ 8) ∧ zr 196 0 [.ref b8, .int y1, .int y2] [] u (fun r u2 => zr 205 8 [v0, v1, v2, v3, v4, v5, v6] (r.toList ++ st) u2 P)) := zr_CV k205_5 rfl rfl rfl ⟨Nat.le_of_ble_eq_true rfl, Nat.succ_ne_zero _, by decide⟩ rfl
theorem k205_8 : xcd 205 8 = oAl 0 9 := rfl
theorem r205_8 : zr 205 8 [.ref a0, v1, v2, v3, v4, v5, v6] st u P = zr 205 9 [.ref a0, v1, v2, v3, v4, v5, v6] (.ref a0 :: st) u P := zr_Al k205_8 rfl
theorem k205_9 : xcd 205 9 = oI 0 10 := rfl
theorem r205_9 : zr 205 9 [v0, v1, v2, v3, v4, v5, v6] st u P = zr 205 10 [v0, v1, v2, v3, v4, v5, v6] (.int 0 :: st) u P := zr_I k205_9
theorem k205_10 : xcd 205 10 = oCalV 11 192 1 13 := rfl
theorem r205_10 : zr 205 10 [v0, v1, v2, v3, v4, v5, v6] (.int y1 :: .ref b8 :: st) u P = ((xIs u b8 11 ∧ xcat st ≤ 8) ∧ zr 192 0 [.ref b8, .int y1, .null] [] u (fun r u2 => zr 205 13 [v0, v1, v2, v3, v4, v5, v6] (r.toList ++ st) u2 P)) := zr_CV k205_10 rfl rfl rfl ⟨Nat.le_of_ble_eq_true rfl, Nat.succ_ne_zero _, by decide⟩ rfl
theorem k205_13 : xcd 205 13 = oIs 1 14 := rfl
theorem r205_13 : zr 205 13 [.ref a0, v1, v2, v3, v4, v5, v6] (.int y1 :: st) u P = zr 205 14 [.ref a0, .int y1, v2, v3, v4, v5, v6] st u P := zr_Is k205_13 ⟨Nat.le_of_ble_eq_true rfl, rfl⟩
theorem k205_14 : xcd 205 14 = oAl 0 15 := rfl
theorem r205_14 : zr 205 14 [.ref a0, v1, v2, v3, v4, v5, v6] st u P = zr 205 15 [.ref a0, v1, v2, v3, v4, v5, v6] (.ref a0 :: st) u P := zr_Al k205_14 rfl
theorem k205_15 : xcd 205 15 = oI 1 16 := rfl
theorem r205_15 : zr 205 15 [v0, v1, v2, v3, v4, v5, v6] st u P = zr 205 16 [v0, v1, v2, v3, v4, v5, v6] (.int 1 :: st) u P := zr_I k205_15
theorem k205_16 : xcd 205 16 = oCalV 11 192 1 19 := rfl
theorem r205_16 : zr 205 16 [v0, v1, v2, v3, v4, v5, v6] (.int y1 :: .ref b8 :: st) u P = ((xIs u b8 11 ∧ xcat st ≤ 8) ∧ zr 192 0 [.ref b8, .int y1, .null] [] u (fun r u2 => zr 205 19 [v0, v1, v2, v3, v4, v5, v6] (r.toList ++ st) u2 P)) := zr_CV k205_16 rfl rfl rfl ⟨Nat.le_of_ble_eq_true rfl, Nat.succ_ne_zero _, by decide⟩ rfl
theorem k205_19 : xcd 205 19 = oIs 2 20 := rfl
theorem r205_19 : zr 205 19 [v0, .int x1, v2, v3, v4, v5, v6] (.int y1 :: st) u P = zr 205 20 [v0, .int x1, .int y1, v3, v4, v5, v6] st u P := zr_Is k205_19 ⟨Nat.le_of_ble_eq_true rfl, rfl⟩
theorem k205_20 : xcd 205 20 = oAl 0 21 := rfl
theorem r205_20 : zr 205 20 [.ref a0, v1, v2, v3, v4, v5, v6] st u P = zr 205 21 [.ref a0, v1, v2, v3, v4, v5, v6] (.ref a0 :: st) u P := zr_Al k205_20 rfl
theorem k205_21 : xcd 205 21 = oI 0 22 := rfl
theorem r205_21 : zr 205 21 [v0, v1, v2, v3, v4, v5, v6] st u P = zr 205 22 [v0, v1, v2, v3, v4, v5, v6] (.int 0 :: st) u P := zr_I k205_21
theorem k205_22 : xcd 205 22 = oI 999 25 := rfl
theorem r205_22 : zr 205 22 [v0, v1, v2, v3, v4, v5, v6] st u P = zr 205 25 [v0, v1, v2, v3, v4, v5, v6] (.int 999 :: st) u P := zr_I k205_22
theorem k205_25 : xcd 205 25 = oCalV 11 184 2 28 := rfl
theorem r205_25 : zr 205 25 [v0, v1, v2, v3, v4, v5, v6] (.int y2 :: .int y1 :: .ref b8 :: st) u P = ((xIs u b8 11 ∧ xcat st ≤ 8) ∧ zr 184 0 [.ref b8, .int y1, .int y2, .null] [] u (fun r u2 => zr 205 28 [v0, v1, v2, v3, v4, v5, v6] (r.toList ++ st) u2 P)) := zr_CV k205_25 rfl rfl rfl ⟨Nat.le_of_ble_eq_true rfl, Nat.succ_ne_zero _, by decide⟩ rfl
theorem k205_28 : xcd 205 28 = oIs 3 29 := rfl
theorem r205_28 : zr 205 28 [v0, v1, .int x2, v3, v4, v5, v6] (.int y1 :: st) u P = zr 205 29 [v0, v1, .int x2, .int y1, v4, v5, v6] st u P := zr_Is k205_28 ⟨Nat.le_of_ble_eq_true rfl, rfl⟩
theorem k205_29 : xcd 205 29 = oAl 0 30 := rfl
theorem r205_29 : zr 205 29 [.ref a0, v1, v2, v3, v4, v5, v6] st u P = zr 205 30 [.ref a0, v1, v2, v3, v4, v5, v6] (.ref a0 :: st) u P := zr_Al k205_29 rfl
theorem k205_30 : xcd 205 30 = oIl 3 31 := rfl
theorem r205_30 : zr 205 30 [v0, v1, v2, .int x3, v4, v5, v6] st u P = zr 205 31 [v0, v1, v2, .int x3, v4, v5, v6] (.int x3 :: st) u P := zr_Il k205_30 rfl
theorem k205_31 : xcd 205 31 = oI 999 34 := rfl
theorem r205_31 : zr 205 31 [v0, v1, v2, v3, v4, v5, v6] st u P = zr 205 34 [v0, v1, v2, v3, v4, v5, v6] (.int 999 :: st) u P := zr_I k205_31
theorem k205_34 : xcd 205 34 = oCalV 11 184 2 37 := rfl
theorem r205_34 : zr 205 34 [v0, v1, v2, v3, v4, v5, v6] (.int y2 :: .int y1 :: .ref b8 :: st) u P = ((xIs u b8 11 ∧ xcat st ≤ 8) ∧ zr 184 0 [.ref b8, .int y1, .int y2, .null] [] u (fun r u2 => zr 205 37 [v0, v1, v2, v3, v4, v5, v6] (r.toList ++ st) u2 P)) := zr_CV k205_34 rfl rfl rfl ⟨Nat.le_of_ble_eq_true rfl, Nat.succ_ne_zero _, by decide⟩ rfl
theorem k205_37 : xcd 205 37 = oIs 4 39 := rfl
theorem r205_37 : zr 205 37 [v0, v1, v2, .int x3, v4, v5, v6] (.int y1 :: st) u P = zr 205 39 [v0, v1, v2, .int x3, .int y1, v5, v6] st u P := zr_Is k205_37 ⟨Nat.le_of_ble_eq_true rfl, rfl⟩
theorem k205_39 : xcd 205 39 = oAl 0 40 := rfl
theorem r205_39 : zr 205 39 [.ref a0, v1, v2, v3, v4, v5, v6] st u P = zr 205 40 [.ref a0, v1, v2, v3, v4, v5, v6] (.ref a0 :: st) u P := zr_Al k205_39 rfl
theorem k205_40 : xcd 205 40 = oS 13 42 := rfl
theorem r205_40 : zr 205 40 [v0, v1, v2, v3, v4, v5, v6] st u P = zr 205 42 [v0, v1, v2, v3, v4, v5, v6] (.ref 1000013 :: st) u P := zr_S k205_40
theorem k205_42 : xcd 205 42 = oI 1 43 := rfl
theorem r205_42 : zr 205 42 [v0, v1, v2, v3, v4, v5, v6] st u P = zr 205 43 [v0, v1, v2, v3, v4, v5, v6] (.int 1 :: st) u P := zr_I k205_42
theorem k205_43 : xcd 205 43 = oI 9999 46 := rfl
theorem r205_43 : zr 205 43 [v0, v1, v2, v3, v4, v5, v6] st u P = zr 205 46 [v0, v1, v2, v3, v4, v5, v6] (.int 9999 :: st) u P := zr_I k205_43
theorem k205_46 : xcd 205 46 = oCalV 11 185 3 49 := rfl
theorem r205_46 : zr 205 46 [v0, v1, v2, v3, v4, v5, v6] (.int y3 :: .int y2 :: .ref b1 :: .ref b8 :: st) u P = ((xIs u b8 11 ∧ xcat st ≤ 8) ∧ zr 185 0 [.ref b8, .ref b1, .int y2, .int y3] [] u (fun r u2 => zr 205 49 [v0, v1, v2, v3, v4, v5, v6] (r.toList ++ st) u2 P)) := zr_CV k205_46 rfl rfl rfl ⟨Nat.le_of_ble_eq_true rfl, Nat.succ_ne_zero _, by decide⟩ rfl
theorem k205_49 : xcd 205 49 = oIs 5 51 := rfl
theorem r205_49 : zr 205 49 [v0, v1, v2, v3, .int x4, v5, v6] (.int y1 :: st) u P = zr 205 51 [v0, v1, v2, v3, .int x4, .int y1, v6] st u P := zr_Is k205_49 ⟨Nat.le_of_ble_eq_true rfl, rfl⟩
theorem k205_51 : xcd 205 51 = oAl 0 52 := rfl
theorem r205_51 : zr 205 51 [.ref a0, v1, v2, v3, v4, v5, v6] st u P = zr 205 52 [.ref a0, v1, v2, v3, v4, v5, v6] (.ref a0 :: st) u P := zr_Al k205_51 rfl
theorem k205_52 : xcd 205 52 = oGI 11 15 55 := rfl
theorem r205_52 : zr 205 52 [v0, v1, v2, v3, v4, v5, v6] (.ref b1 :: st) u P = (xIs u b1 11 ∧ zr 205 55 [v0, v1, v2, v3, v4, v5, v6] (.int (xI u b1 15) :: st) u P) := zr_GI k205_52
theorem k205_55 : xcd 205 55 = oIf (fun x => decide (x ≤ 0)) 59 58 := rfl
theorem r205_55 : zr 205 55 [v0, v1, v2, v3, v4, v5, v6] (.int y1 :: st) u P = (if y1 ≤ 0 then zr 205 59 [v0, v1, v2, v3, v4, v5, v6] st u P else zr 205 58 [v0, v1, v2, v3, v4, v5, v6] st u P) := zr_If k205_55
theorem k205_58 : xcd 205 58 = oRv 0 := rfl
theorem r205_58 : zr 205 58 [v0, v1, v2, v3, v4, v5, v6] [] u P = P none u := zr_Rv k205_58
theorem k205_59 : xcd 205 59 = oI 354 62 := rfl
theorem r205_59 : zr 205 59 [v0, v1, v2, v3, v4, v5, v6] st u P = zr 205 62 [v0, v1, v2, v3, v4, v5, v6] (.int 354 :: st) u P := zr_I k205_59
theorem k205_62 : xcd 205 62 = oI 5 63 := rfl
theorem r205_62 : zr 205 62 [v0, v1, v2, v3, v4, v5, v6] st u P = zr 205 63 [v0, v1, v2, v3, v4, v5, v6] (.int 5 :: st) u P := zr_I k205_62
theorem k205_63 : xcd 205 63 = oAl 0 64 := rfl
theorem r205_63 : zr 205 63 [.ref a0, v1, v2, v3, v4, v5, v6] st u P = zr 205 64 [.ref a0, v1, v2, v3, v4, v5, v6] (.ref a0 :: st) u P := zr_Al k205_63 rfl
theorem k205_64 : xcd 205 64 = oGR 11 4 67 := rfl
theorem r205_64 : zr 205 64 [v0, v1, v2, v3, v4, v5, v6] (.ref b1 :: st) u P = (xIs u b1 11 ∧ ∃ b, xR u b1 4 = some b ∧ zr 205 67 [v0, v1, v2, v3, v4, v5, v6] (.ref b :: st) u P) := zr_GR k205_64
theorem k205_67 : xcd 205 67 = oI 6 69 := rfl
theorem r205_67 : zr 205 67 [v0, v1, v2, v3, v4, v5, v6] st u P = zr 205 69 [v0, v1, v2, v3, v4, v5, v6] (.int 6 :: st) u P := zr_I k205_67
theorem k205_69 : xcd 205 69 = oLd 13 70 := rfl
theorem r205_69 : zr 205 69 [v0, v1, v2, v3, v4, v5, v6] (.int y1 :: .ref b1 :: st) u P = ((xIs u b1 13 ∧ xinb y1 (xN u b1)) ∧ zr 205 70 [v0, v1, v2, v3, v4, v5, v6] (.int (xI u b1 (xix y1)) :: st) u P) := zr_Ld k205_69
theorem k205_70 : xcd 205 70 = oB (fun x y => x * y) 71 := rfl
theorem r205_70 : zr 205 70 [v0, v1, v2, v3, v4, v5, v6] (.int y1 :: .int y2 :: st) u P = zr 205 71 [v0, v1, v2, v3, v4, v5, v6] (.int (y2 * y1) :: st) u P := zr_B k205_70
theorem k205_71 : xcd 205 71 = oB (fun x y => x + y) 72 := rfl
theorem r205_71 : zr 205 71 [v0, v1, v2, v3, v4, v5, v6] (.int y1 :: .int y2 :: st) u P = zr 205 72 [v0, v1, v2, v3, v4, v5, v6] (.int (y2 + y1) :: st) u P := zr_B k205_71
theorem k205_72 : xcd 205 72 = oIs 6 74 := rfl
theorem r205_72 : zr 205 72 [v0, v1, v2, v3, v4, .int x5, v6] (.int y1 :: st) u P = zr 205 74 [v0, v1, v2, v3, v4, .int x5, .int y1] st u P := zr_Is k205_72 ⟨Nat.le_of_ble_eq_true rfl, rfl⟩
theorem k205_74 : xcd 205 74 = oAl 0 75 := rfl
theorem r205_74 : zr 205 74 [.ref a0, v1, v2, v3, v4, v5, v6] st u P = zr 205 75 [.ref a0, v1, v2, v3, v4, v5, v6] (.ref a0 :: st) u P := zr_Al k205_74 rfl
theorem k205_75 : xcd 205 75 = oGR 11 4 78 := rfl
theorem r205_75 : zr 205 75 [v0, v1, v2, v3, v4, v5, v6] (.ref b1 :: st) u P = (xIs u b1 11 ∧ ∃ b, xR u b1 4 = some b ∧ zr 205 78 [v0, v1, v2, v3, v4, v5, v6] (.ref b :: st) u P) := zr_GR k205_75
theorem k205_78 : xcd 205 78 = oIl 6 80 := rfl
theorem r205_78 : zr 205 78 [v0, v1, v2, v3, v4, v5, .int x6] st u P = zr 205 80 [v0, v1, v2, v3, v4, v5, .int x6] (.int x6 :: st) u P := zr_Il k205_78 rfl
theorem k205_80 : xcd 205 80 = oIl 1 81 := rfl
theorem r205_80 : zr 205 80 [v0, .int x1, v2, v3, v4, v5, v6] st u P = zr 205 81 [v0, .int x1, v2, v3, v4, v5, v6] (.int x1 :: st) u P := zr_Il k205_80 rfl
theorem k205_81 : xcd 205 81 = oSt 13 (fun x => x) 82 := rfl
theorem r205_81 : zr 205 81 [v0, v1, v2, v3, v4, v5, v6] (.int y2 :: .int y1 :: .ref b1 :: st) u P = ((xIs u b1 13 ∧ xinb y1 (xN u b1)) ∧ zr 205 82 [v0, v1, v2, v3, v4, v5, v6] st (xsI u b1 (xix y1) y2) P) := zr_St k205_81
theorem k205_82 : xcd 205 82 = oAl 0 83 := rfl
theorem r205_82 : zr 205 82 [.ref a0, v1, v2, v3, v4, v5, v6] st u P = zr 205 83 [.ref a0, v1, v2, v3, v4, v5, v6] (.ref a0 :: st) u P := zr_Al k205_82 rfl
theorem k205_83 : xcd 205 83 = oGR 11 4 86 := rfl
theorem r205_83 : zr 205 83 [v0, v1, v2, v3, v4, v5, v6] (.ref b1 :: st) u P = (xIs u b1 11 ∧ ∃ b, xR u b1 4 = some b ∧ zr 205 86 [v0, v1, v2, v3, v4, v5, v6] (.ref b :: st) u P) := zr_GR k205_83
theorem k205_86 : xcd 205 86 = oIl 6 88 := rfl
theorem r205_86 : zr 205 86 [v0, v1, v2, v3, v4, v5, .int x6] st u P = zr 205 88 [v0, v1, v2, v3, v4, v5, .int x6] (.int x6 :: st) u P := zr_Il k205_86 rfl
theorem k205_88 : xcd 205 88 = oI 1 89 := rfl
theorem r205_88 : zr 205 88 [v0, v1, v2, v3, v4, v5, v6] st u P = zr 205 89 [v0, v1, v2, v3, v4, v5, v6] (.int 1 :: st) u P := zr_I k205_88
theorem k205_89 : xcd 205 89 = oB (fun x y => x + y) 90 := rfl
theorem r205_89 : zr 205 89 [v0, v1, v2, v3, v4, v5, v6] (.int y1 :: .int y2 :: st) u P = zr 205 90 [v0, v1, v2, v3, v4, v5, v6] (.int (y2 + y1) :: st) u P := zr_B k205_89
theorem k205_90 : xcd 205 90 = oIl 2 91 := rfl
theorem r205_90 : zr 205 90 [v0, v1, .int x2, v3, v4, v5, v6] st u P = zr 205 91 [v0, v1, .int x2, v3, v4, v5, v6] (.int x2 :: st) u P := zr_Il k205_90 rfl
theorem k205_91 : xcd 205 91 = oSt 13 (fun x => x) 92 := rfl
theorem r205_91 : zr 205 91 [v0, v1, v2, v3, v4, v5, v6] (.int y2 :: .int y1 :: .ref b1 :: st) u P = ((xIs u b1 13 ∧ xinb y1 (xN u b1)) ∧ zr 205 92 [v0, v1, v2, v3, v4, v5, v6] st (xsI u b1 (xix y1) y2) P) := zr_St k205_91
theorem k205_92 : xcd 205 92 = oAl 0 93 := rfl
theorem r205_92 : zr 205 92 [.ref a0, v1, v2, v3, v4, v5, v6] st u P = zr 205 93 [.ref a0, v1, v2, v3, v4, v5, v6] (.ref a0 :: st) u P := zr_Al k205_92 rfl
theorem k205_93 : xcd 205 93 = oGR 11 4 96 := rfl
theorem r205_93 : zr 205 93 [v0, v1, v2, v3, v4, v5, v6] (.ref b1 :: st) u P = (xIs u b1 11 ∧ ∃ b, xR u b1 4 = some b ∧ zr 205 96 [v0, v1, v2, v3, v4, v5, v6] (.ref b :: st) u P) := zr_GR k205_93
theorem k205_96 : xcd 205 96 = oIl 6 98 := rfl
theorem r205_96 : zr 205 96 [v0, v1, v2, v3, v4, v5, .int x6] st u P = zr 205 98 [v0, v1, v2, v3, v4, v5, .int x6] (.int x6 :: st) u P := zr_Il k205_96 rfl
theorem k205_98 : xcd 205 98 = oI 2 99 := rfl
theorem r205_98 : zr 205 98 [v0, v1, v2, v3, v4, v5, v6] st u P = zr 205 99 [v0, v1, v2, v3, v4, v5, v6] (.int 2 :: st) u P := zr_I k205_98
theorem k205_99 : xcd 205 99 = oB (fun x y => x + y) 100 := rfl
theorem r205_99 : zr 205 99 [v0, v1, v2, v3, v4, v5, v6] (.int y1 :: .int y2 :: st) u P = zr 205 100 [v0, v1, v2, v3, v4, v5, v6] (.int (y2 + y1) :: st) u P := zr_B k205_99
theorem k205_100 : xcd 205 100 = oIl 3 101 := rfl
theorem r205_100 : zr 205 100 [v0, v1, v2, .int x3, v4, v5, v6] st u P = zr 205 101 [v0, v1, v2, .int x3, v4, v5, v6] (.int x3 :: st) u P := zr_Il k205_100 rfl
theorem k205_101 : xcd 205 101 = oSt 13 (fun x => x) 102 := rfl
theorem r205_101 : zr 205 101 [v0, v1, v2, v3, v4, v5, v6] (.int y2 :: .int y1 :: .ref b1 :: st) u P = ((xIs u b1 13 ∧ xinb y1 (xN u b1)) ∧ zr 205 102 [v0, v1, v2, v3, v4, v5, v6] st (xsI u b1 (xix y1) y2) P) := zr_St k205_101
theorem k205_102 : xcd 205 102 = oAl 0 103 := rfl
theorem r205_102 : zr 205 102 [.ref a0, v1, v2, v3, v4, v5, v6] st u P = zr 205 103 [.ref a0, v1, v2, v3, v4, v5, v6] (.ref a0 :: st) u P := zr_Al k205_102 rfl
theorem k205_103 : xcd 205 103 = oGR 11 4 106 := rfl
theorem r205_103 : zr 205 103 [v0, v1, v2, v3, v4, v5, v6] (.ref b1 :: st) u P = (xIs u b1 11 ∧ ∃ b, xR u b1 4 = some b ∧ zr 205 106 [v0, v1, v2, v3, v4, v5, v6] (.ref b :: st) u P) := zr_GR k205_103
theorem k205_106 : xcd 205 106 = oIl 6 108 := rfl
theorem r205_106 : zr 205 106 [v0, v1, v2, v3, v4, v5, .int x6] st u P = zr 205 108 [v0, v1, v2, v3, v4, v5, .int x6] (.int x6 :: st) u P := zr_Il k205_106 rfl
theorem k205_108 : xcd 205 108 = oI 3 109 := rfl
theorem r205_108 : zr 205 108 [v0, v1, v2, v3, v4, v5, v6] st u P = zr 205 109 [v0, v1, v2, v3, v4, v5, v6] (.int 3 :: st) u P := zr_I k205_108
theorem k205_109 : xcd 205 109 = oB (fun x y => x + y) 110 := rfl
theorem r205_109 : zr 205 109 [v0, v1, v2, v3, v4, v5, v6] (.int y1 :: .int y2 :: st) u P = zr 205 110 [v0, v1, v2, v3, v4, v5, v6] (.int (y2 + y1) :: st) u P := zr_B k205_109
theorem k205_110 : xcd 205 110 = oIl 4 112 := rfl
theorem r205_110 : zr 205 110 [v0, v1, v2, v3, .int x4, v5, v6] st u P = zr 205 112 [v0, v1, v2, v3, .int x4, v5, v6] (.int x4 :: st) u P := zr_Il k205_110 rfl
theorem k205_112 : xcd 205 112 = oSt 13 (fun x => x) 113 := rfl
theorem r205_112 : zr 205 112 [v0, v1, v2, v3, v4, v5, v6] (.int y2 :: .int y1 :: .ref b1 :: st) u P = ((xIs u b1 13 ∧ xinb y1 (xN u b1)) ∧ zr 205 113 [v0, v1, v2, v3, v4, v5, v6] st (xsI u b1 (xix y1) y2) P) := zr_St k205_112
theorem k205_113 : xcd 205 113 = oAl 0 114 := rfl
theorem r205_113 : zr 205 113 [.ref a0, v1, v2, v3, v4, v5, v6] st u P = zr 205 114 [.ref a0, v1, v2, v3, v4, v5, v6] (.ref a0 :: st) u P := zr_Al k205_113 rfl
theorem k205_114 : xcd 205 114 = oGR 11 4 117 := rfl
theorem r205_114 : zr 205 114 [v0, v1, v2, v3, v4, v5, v6] (.ref b1 :: st) u P = (xIs u b1 11 ∧ ∃ b, xR u b1 4 = some b ∧ zr 205 117 [v0, v1, v2, v3, v4, v5, v6] (.ref b :: st) u P) := zr_GR k205_114
theorem k205_117 : xcd 205 117 = oIl 6 119 := rfl
theorem r205_117 : zr 205 117 [v0, v1, v2, v3, v4, v5, .int x6] st u P = zr 205 119 [v0, v1, v2, v3, v4, v5, .int x6] (.int x6 :: st) u P := zr_Il k205_117 rfl
theorem k205_119 : xcd 205 119 = oI 4 120 := rfl
theorem r205_119 : zr 205 119 [v0, v1, v2, v3, v4, v5, v6] st u P = zr 205 120 [v0, v1, v2, v3, v4, v5, v6] (.int 4 :: st) u P := zr_I k205_119
theorem k205_120 : xcd 205 120 = oB (fun x y => x + y) 121 := rfl
theorem r205_120 : zr 205 120 [v0, v1, v2, v3, v4, v5, v6] (.int y1 :: .int y2 :: st) u P = zr 205 121 [v0, v1, v2, v3, v4, v5, v6] (.int (y2 + y1) :: st) u P := zr_B k205_120
theorem k205_121 : xcd 205 121 = oIl 5 123 := rfl
theorem r205_121 : zr 205 121 [v0, v1, v2, v3, v4, .int x5, v6] st u P = zr 205 123 [v0, v1, v2, v3, v4, .int x5, v6] (.int x5 :: st) u P := zr_Il k205_121 rfl
theorem k205_123 : xcd 205 123 = oSt 13 (fun x => x) 124 := rfl
theorem r205_123 : zr 205 123 [v0, v1, v2, v3, v4, v5, v6] (.int y2 :: .int y1 :: .ref b1 :: st) u P = ((xIs u b1 13 ∧ xinb y1 (xN u b1)) ∧ zr 205 124 [v0, v1, v2, v3, v4, v5, v6] st (xsI u b1 (xix y1) y2) P) := zr_St k205_123
theorem k205_124 : xcd 205 124 = oAl 0 125 := rfl
theorem r205_124 : zr 205 124 [.ref a0, v1, v2, v3, v4, v5, v6] st u P = zr 205 125 [.ref a0, v1, v2, v3, v4, v5, v6] (.ref a0 :: st) u P := zr_Al k205_124 rfl
theorem k205_125 : xcd 205 125 = oGR 11 4 128 := rfl
theorem r205_125 : zr 205 125 [v0, v1, v2, v3, v4, v5, v6] (.ref b1 :: st) u P = (xIs u b1 11 ∧ ∃ b, xR u b1 4 = some b ∧ zr 205 128 [v0, v1, v2, v3, v4, v5, v6] (.ref b :: st) u P) := zr_GR k205_125
theorem k205_128 : xcd 205 128 = oI 6 130 := rfl
theorem r205_128 : zr 205 128 [v0, v1, v2, v3, v4, v5, v6] st u P = zr 205 130 [v0, v1, v2, v3, v4, v5, v6] (.int 6 :: st) u P := zr_I k205_128
theorem k205_130 : xcd 205 130 = oDup2 131 := rfl
theorem r205_130 : zr 205 130 [v0, v1, v2, v3, v4, v5, v6] (.int y1 :: .ref b1 :: st) u P = zr 205 131 [v0, v1, v2, v3, v4, v5, v6] (.int y1 :: .ref b1 :: .int y1 :: .ref b1 :: st) u P := zr_Dup2 k205_130
theorem k205_131 : xcd 205 131 = oLd 13 132 := rfl
theorem r205_131 : zr 205 131 [v0, v1, v2, v3, v4, v5, v6] (.int y1 :: .ref b1 :: st) u P = ((xIs u b1 13 ∧ xinb y1 (xN u b1)) ∧ zr 205 132 [v0, v1, v2, v3, v4, v5, v6] (.int (xI u b1 (xix y1)) :: st) u P) := zr_Ld k205_131
theorem k205_132 : xcd 205 132 = oI 1 133 := rfl
theorem r205_132 : zr 205 132 [v0, v1, v2, v3, v4, v5, v6] st u P = zr 205 133 [v0, v1, v2, v3, v4, v5, v6] (.int 1 :: st) u P := zr_I k205_132
theorem k205_133 : xcd 205 133 = oB (fun x y => x + y) 134 := rfl
theorem r205_133 : zr 205 133 [v0, v1, v2, v3, v4, v5, v6] (.int y1 :: .int y2 :: st) u P = zr 205 134 [v0, v1, v2, v3, v4, v5, v6] (.int (y2 + y1) :: st) u P := zr_B k205_133
theorem k205_134 : xcd 205 134 = oSt 13 (fun x => x) 135 := rfl
theorem r205_134 : zr 205 134 [v0, v1, v2, v3, v4, v5, v6] (.int y2 :: .int y1 :: .ref b1 :: st) u P = ((xIs u b1 13 ∧ xinb y1 (xN u b1)) ∧ zr 205 135 [v0, v1, v2, v3, v4, v5, v6] st (xsI u b1 (xix y1) y2) P) := zr_St k205_134
theorem k205_135 : xcd 205 135 = oRv 0 := rfl
theorem r205_135 : zr 205 135 [v0, v1, v2, v3, v4, v5, v6] [] u P = P none u := zr_Rv k205_135
theorem k206_0 : xcd 206 0 = oI 0 1 := rfl
theorem r206_0 : zr 206 0 [v0, v1, v2, v3] st u P = zr 206 1 [v0, v1, v2, v3] (.int 0 :: st) u P := zr_I k206_0
theorem k206_1 : xcd 206 1 = oIs 3 2 := rfl
theorem r206_1 : zr 206 1 [v0, v1, .int x2, v3] (.int y1 :: st) u P = zr 206 2 [v0, v1, .int x2, .int y1] st u P := zr_Is k206_1 ⟨Nat.le_of_ble_eq_true rfl, rfl⟩
theorem k206_2 : xcd 206 2 = oIl 3 3 := rfl
theorem r206_2 : zr 206 2 [v0, v1, v2, .int x3] st u P = zr 206 3 [v0, v1, v2, .int x3] (.int x3 :: st) u P := zr_Il k206_2 rfl
theorem k206_3 : xcd 206 3 = oAl 0 4 := rfl
theorem r206_3 : zr 206 3 [.ref a0, v1, v2, v3] st u P = zr 206 4 [.ref a0, v1, v2, v3] (.ref a0 :: st) u P := zr_Al k206_3 rfl
theorem k206_4 : xcd 206 4 = oI 7 6 := rfl
theorem r206_4 : zr 206 4 [v0, v1, v2, v3] st u P = zr 206 6 [v0, v1, v2, v3] (.int 7 :: st) u P := zr_I k206_4
theorem k206_6 : xcd 206 6 = oLd 13 7 := rfl
theorem r206_6 : zr 206 6 [v0, v1, v2, v3] (.int y1 :: .ref b1 :: st) u P = ((xIs u b1 13 ∧ xinb y1 (xN u b1)) ∧ zr 206 7 [v0, v1, v2, v3] (.int (xI u b1 (xix y1)) :: st) u P) := zr_Ld k206_6
theorem k206_7 : xcd 206 7 = oCmp (fun x y => decide (y ≤ x)) 56 10 := rfl
theorem r206_7 : zr 206 7 [v0, v1, v2, v3] (.int y1 :: .int y2 :: st) u P = (if y1 ≤ y2 then zr 206 56 [v0, v1, v2, v3] st u P else zr 206 10 [v0, v1, v2, v3] st u P) := zr_Cmp k206_7
theorem k206_10 : xcd 206 10 = oAl 0 11 := rfl
theorem r206_10 : zr 206 10 [.ref a0, v1, v2, v3] st u P = zr 206 11 [.ref a0, v1, v2, v3] (.ref a0 :: st) u P := zr_Al k206_10 rfl
theorem k206_11 : xcd 206 11 = oI 384 14 := rfl
theorem r206_11 : zr 206 11 [v0, v1, v2, v3] st u P = zr 206 14 [v0, v1, v2, v3] (.int 384 :: st) u P := zr_I k206_11
theorem k206_14 : xcd 206 14 = oI 3 15 := rfl
theorem r206_14 : zr 206 14 [v0, v1, v2, v3] st u P = zr 206 15 [v0, v1, v2, v3] (.int 3 :: st) u P := zr_I k206_14
theorem k206_15 : xcd 206 15 = oIl 3 16 := rfl
theorem r206_15 : zr 206 15 [v0, v1, v2, .int x3] st u P = zr 206 16 [v0, v1, v2, .int x3] (.int x3 :: st) u P := zr_Il k206_15 rfl
theorem k206_16 : xcd 206 16 = oB (fun x y => x * y) 17 := rfl
theorem r206_16 : zr 206 16 [v0, v1, v2, v3] (.int y1 :: .int y2 :: st) u P = zr 206 17 [v0, v1, v2, v3] (.int (y2 * y1) :: st) u P := zr_B k206_16
theorem k206_17 : xcd 206 17 = oB (fun x y => x + y) 18 := rfl
theorem r206_17 : zr 206 17 [v0, v1, v2, v3] (.int y1 :: .int y2 :: st) u P = zr 206 18 [v0, v1, v2, v3] (.int (y2 + y1) :: st) u P := zr_B k206_17
theorem k206_18 : xcd 206 18 = oLd 13 19 := rfl
theorem r206_18 : zr 206 18 [v0, v1, v2, v3] (.int y1 :: .ref b1 :: st) u P = ((xIs u b1 13 ∧ xinb y1 (xN u b1)) ∧ zr 206 19 [v0, v1, v2, v3] (.int (xI u b1 (xix y1)) :: st) u P) := zr_Ld k206_18
theorem k206_19 : xcd 206 19 = oIl 1 20 := rfl
theorem r206_19 : zr 206 19 [v0, .int x1, v2, v3] st u P = zr 206 20 [v0, .int x1, v2, v3] (.int x1 :: st) u P := zr_Il k206_19 rfl
theorem k206_20 : xcd 206 20 = oCmp (fun x y => decide (¬ x = y)) 50 23 := rfl
theorem r206_20 : zr 206 20 [v0, v1, v2, v3] (.int y1 :: .int y2 :: st) u P = (if ¬ y2 = y1 then zr 206 50 [v0, v1, v2, v3] st u P else zr 206 23 [v0, v1, v2, v3] st u P) := zr_Cmp k206_20
theorem k206_23 : xcd 206 23 = oAl 0 24 := rfl
theorem r206_23 : zr 206 23 [.ref a0, v1, v2, v3] st u P = zr 206 24 [.ref a0, v1, v2, v3] (.ref a0 :: st) u P := zr_Al k206_23 rfl
theorem k206_24 : xcd 206 24 = oI 384 27 := rfl
theorem r206_24 : zr 206 24 [v0, v1, v2, v3] st u P = zr 206 27 [v0, v1, v2, v3] (.int 384 :: st) u P := zr_I k206_24
theorem k206_27 : xcd 206 27 = oI 3 28 := rfl
theorem r206_27 : zr 206 27 [v0, v1, v2, v3] st u P = zr 206 28 [v0, v1, v2, v3] (.int 3 :: st) u P := zr_I k206_27
theorem k206_28 : xcd 206 28 = oIl 3 29 := rfl
theorem r206_28 : zr 206 28 [v0, v1, v2, .int x3] st u P = zr 206 29 [v0, v1, v2, .int x3] (.int x3 :: st) u P := zr_Il k206_28 rfl
theorem k206_29 : xcd 206 29 = oB (fun x y => x * y) 30 := rfl
theorem r206_29 : zr 206 29 [v0, v1, v2, v3] (.int y1 :: .int y2 :: st) u P = zr 206 30 [v0, v1, v2, v3] (.int (y2 * y1) :: st) u P := zr_B k206_29
theorem k206_30 : xcd 206 30 = oB (fun x y => x + y) 31 := rfl
theorem r206_30 : zr 206 30 [v0, v1, v2, v3] (.int y1 :: .int y2 :: st) u P = zr 206 31 [v0, v1, v2, v3] (.int (y2 + y1) :: st) u P := zr_B k206_30
theorem k206_31 : xcd 206 31 = oI 1 32 := rfl
theorem r206_31 : zr 206 31 [v0, v1, v2, v3] st u P = zr 206 32 [v0, v1, v2, v3] (.int 1 :: st) u P := zr_I k206_31
theorem k206_32 : xcd 206 32 = oB (fun x y => x + y) 33 := rfl
theorem r206_32 : zr 206 32 [v0, v1, v2, v3] (.int y1 :: .int y2 :: st) u P = zr 206 33 [v0, v1, v2, v3] (.int (y2 + y1) :: st) u P := zr_B k206_32
theorem k206_33 : xcd 206 33 = oLd 13 34 := rfl
theorem r206_33 : zr 206 33 [v0, v1, v2, v3] (.int y1 :: .ref b1 :: st) u P = ((xIs u b1 13 ∧ xinb y1 (xN u b1)) ∧ zr 206 34 [v0, v1, v2, v3] (.int (xI u b1 (xix y1)) :: st) u P) := zr_Ld k206_33
theorem k206_34 : xcd 206 34 = oIl 2 35 := rfl
theorem r206_34 : zr 206 34 [v0, v1, .int x2, v3] st u P = zr 206 35 [v0, v1, .int x2, v3] (.int x2 :: st) u P := zr_Il k206_34 rfl
theorem k206_35 : xcd 206 35 = oCmp (fun x y => decide (¬ x = y)) 50 38 := rfl
theorem r206_35 : zr 206 35 [v0, v1, v2, v3] (.int y1 :: .int y2 :: st) u P = (if ¬ y2 = y1 then zr 206 50 [v0, v1, v2, v3] st u P else zr 206 38 [v0, v1, v2, v3] st u P) := zr_Cmp k206_35
theorem k206_38 : xcd 206 38 = oAl 0 39 := rfl
theorem r206_38 : zr 206 38 [.ref a0, v1, v2, v3] st u P = zr 206 39 [.ref a0, v1, v2, v3] (.ref a0 :: st) u P := zr_Al k206_38 rfl
theorem k206_39 : xcd 206 39 = oI 384 42 := rfl
theorem r206_39 : zr 206 39 [v0, v1, v2, v3] st u P = zr 206 42 [v0, v1, v2, v3] (.int 384 :: st) u P := zr_I k206_39
theorem k206_42 : xcd 206 42 = oI 3 43 := rfl
theorem r206_42 : zr 206 42 [v0, v1, v2, v3] st u P = zr 206 43 [v0, v1, v2, v3] (.int 3 :: st) u P := zr_I k206_42
theorem k206_43 : xcd 206 43 = oIl 3 44 := rfl
theorem r206_43 : zr 206 43 [v0, v1, v2, .int x3] st u P = zr 206 44 [v0, v1, v2, .int x3] (.int x3 :: st) u P := zr_Il k206_43 rfl
theorem k206_44 : xcd 206 44 = oB (fun x y => x * y) 45 := rfl
theorem r206_44 : zr 206 44 [v0, v1, v2, v3] (.int y1 :: .int y2 :: st) u P = zr 206 45 [v0, v1, v2, v3] (.int (y2 * y1) :: st) u P := zr_B k206_44
theorem k206_45 : xcd 206 45 = oB (fun x y => x + y) 46 := rfl
theorem r206_45 : zr 206 45 [v0, v1, v2, v3] (.int y1 :: .int y2 :: st) u P = zr 206 46 [v0, v1, v2, v3] (.int (y2 + y1) :: st) u P := zr_B k206_45
theorem k206_46 : xcd 206 46 = oI 2 47 := rfl
theorem r206_46 : zr 206 46 [v0, v1, v2, v3] st u P = zr 206 47 [v0, v1, v2, v3] (.int 2 :: st) u P := zr_I k206_46
theorem k206_47 : xcd 206 47 = oB (fun x y => x + y) 48 := rfl
theorem r206_47 : zr 206 47 [v0, v1, v2, v3] (.int y1 :: .int y2 :: st) u P = zr 206 48 [v0, v1, v2, v3] (.int (y2 + y1) :: st) u P := zr_B k206_47
theorem k206_48 : xcd 206 48 = oLd 13 49 := rfl
theorem r206_48 : zr 206 48 [v0, v1, v2, v3] (.int y1 :: .ref b1 :: st) u P = ((xIs u b1 13 ∧ xinb y1 (xN u b1)) ∧ zr 206 49 [v0, v1, v2, v3] (.int (xI u b1 (xix y1)) :: st) u P) := zr_Ld k206_48
theorem k206_49 : xcd 206 49 = oRi 0 := rfl
theorem r206_49 : zr 206 49 [v0, v1, v2, v3] [.int y1] u P = P (some (.int y1)) u := zr_Ri k206_49
theorem k206_50 : xcd 206 50 = oInc 3 1 53 := rfl
theorem r206_50 : zr 206 50 [v0, v1, .int x2, .int x3] st u P = zr 206 53 [v0, v1, .int x2, .int (x3 + 1)] st u P := zr_Inc k206_50 rfl rfl
theorem k206_53 : xcd 206 53 = oGoto 2 := rfl
theorem r206_53 : zr 206 53 [v0, v1, v2, v3] st u P = zr 206 2 [v0, v1, v2, v3] st u P := zr_Goto k206_53
theorem k206_56 : xcd 206 56 = oI (-2) 58 := rfl
theorem r206_56 : zr 206 56 [v0, v1, v2, v3] st u P = zr 206 58 [v0, v1, v2, v3] (.int (-2) :: st) u P := zr_I k206_56
theorem k206_58 : xcd 206 58 = oRi 0 := rfl
theorem r206_58 : zr 206 58 [v0, v1, v2, v3] [.int y1] u P = P (some (.int y1)) u := zr_Ri k206_58
theorem k207_0 : xcd 207 0 = oAl 0 1 := rfl
theorem r207_0 : zr 207 0 [.ref a0, v1, v2, v3, v4] st u P = zr 207 1 [.ref a0, v1, v2, v3, v4] (.ref a0 :: st) u P := zr_Al k207_0 rfl
theorem k207_1 : xcd 207 1 = oI 7 3 := rfl
theorem r207_1 : zr 207 1 [v0, v1, v2, v3, v4] st u P = zr 207 3 [v0, v1, v2, v3, v4] (.int 7 :: st) u P := zr_I k207_1
theorem k207_3 : xcd 207 3 = oI 6 5 := rfl
theorem r207_3 : zr 207 3 [v0, v1, v2, v3, v4] st u P = zr 207 5 [v0, v1, v2, v3, v4] (.int 6 :: st) u P := zr_I k207_3
theorem k207_5 : xcd 207 5 = oCalV 11 196 2 8 := rfl
theorem r207_5 : zr 207 5 [v0, v1, v2, v3, v4] (.int y2 :: .int y1 :: .ref b8 :: st) u P = ((xIs u b8 11 ∧ xcat st ≤ 8) ∧ zr 196 0 [.ref b8, .int y1, .int y2] [] u (fun r u2 => zr 207 8 [v0, v1, v2, v3, v4] (r.toList ++ st) u2 P)) := zr_CV k207_5 rfl rfl rfl ⟨Nat.le_of_ble_eq_true rfl, Nat.succ_ne_zero _, by decide⟩ rfl
theorem k207_8 : xcd 207 8 = oAl 0 9 := rfl
theorem r207_8 : zr 207 8 [.ref a0, v1, v2, v3, v4] st u P = zr 207 9 [.ref a0, v1, v2, v3, v4] (.ref a0 :: st) u P := zr_Al k207_8 rfl
theorem k207_9 : xcd 207 9 = oI 0 10 := rfl
theorem r207_9 : zr 207 9 [v0, v1, v2, v3, v4] st u P = zr 207 10 [v0, v1, v2, v3, v4] (.int 0 :: st) u P := zr_I k207_9
theorem k207_10 : xcd 207 10 = oCalV 11 192 1 13 := rfl
theorem r207_10 : zr 207 10 [v0, v1, v2, v3, v4] (.int y1 :: .ref b8 :: st) u P = ((xIs u b8 11 ∧ xcat st ≤ 8) ∧ zr 192 0 [.ref b8, .int y1, .null] [] u (fun r u2 => zr 207 13 [v0, v1, v2, v3, v4] (r.toList ++ st) u2 P)) := zr_CV k207_10 rfl rfl rfl ⟨Nat.le_of_ble_eq_true rfl, Nat.succ_ne_zero _, by decide⟩ rfl
theorem k207_13 : xcd 207 13 = oIs 1 14 := rfl
theorem r207_13 : zr 207 13 [.ref a0, v1, v2, v3, v4] (.int y1 :: st) u P = zr 207 14 [.ref a0, .int y1, v2, v3, v4] st u P := zr_Is k207_13 ⟨Nat.le_of_ble_eq_true rfl, rfl⟩
theorem k207_14 : xcd 207 14 = oAl 0 15 := rfl
theorem r207_14 : zr 207 14 [.ref a0, v1, v2, v3, v4] st u P = zr 207 15 [.ref a0, v1, v2, v3, v4] (.ref a0 :: st) u P := zr_Al k207_14 rfl
theorem k207_15 : xcd 207 15 = oI 1 16 := rfl
theorem r207_15 : zr 207 15 [v0, v1, v2, v3, v4] st u P = zr 207 16 [v0, v1, v2, v3, v4] (.int 1 :: st) u P := zr_I k207_15
theorem k207_16 : xcd 207 16 = oCalV 11 191 1 19 := rfl
theorem r207_16 : zr 207 16 [v0, v1, v2, v3, v4] (.int y1 :: .ref b8 :: st) u P = ((xIs u b8 11 ∧ xcat st ≤ 8) ∧ zr 191 0 [.ref b8, .int y1, .null] [] u (fun r u2 => zr 207 19 [v0, v1, v2, v3, v4] (r.toList ++ st) u2 P)) := zr_CV k207_16 rfl rfl rfl ⟨Nat.le_of_ble_eq_true rfl, Nat.succ_ne_zero _, by decide⟩ rfl
theorem k207_19 : xcd 207 19 = oIs 2 20 := rfl
theorem r207_19 : zr 207 19 [v0, .int x1, v2, v3, v4] (.int y1 :: st) u P = zr 207 20 [v0, .int x1, .int y1, v3, v4] st u P := zr_Is k207_19 ⟨Nat.le_of_ble_eq_true rfl, rfl⟩
theorem k207_20 : xcd 207 20 = oAl 0 21 := rfl
theorem r207_20 : zr 207 20 [.ref a0, v1, v2, v3, v4] st u P = zr 207 21 [.ref a0, v1, v2, v3, v4] (.ref a0 :: st) u P := zr_Al k207_20 rfl
theorem k207_21 : xcd 207 21 = oGI 11 15 24 := rfl
theorem r207_21 : zr 207 21 [v0, v1, v2, v3, v4] (.ref b1 :: st) u P = (xIs u b1 11 ∧ zr 207 24 [v0, v1, v2, v3, v4] (.int (xI u b1 15) :: st) u P) := zr_GI k207_21
theorem k207_24 : xcd 207 24 = oIf (fun x => decide (¬ x = 0)) 46 27 := rfl
theorem r207_24 : zr 207 24 [v0, v1, v2, v3, v4] (.int y1 :: st) u P = (if ¬ y1 = 0 then zr 207 46 [v0, v1, v2, v3, v4] st u P else zr 207 27 [v0, v1, v2, v3, v4] st u P) := zr_If k207_24
theorem k207_27 : xcd 207 27 = oAl 0 28 := rfl
theorem r207_27 : zr 207 27 [.ref a0, v1, v2, v3, v4] st u P = zr 207 28 [.ref a0, v1, v2, v3, v4] (.ref a0 :: st) u P := zr_Al k207_27 rfl
theorem k207_28 : xcd 207 28 = oGR 11 4 31 := rfl
theorem r207_28 : zr 207 28 [v0, v1, v2, v3, v4] (.ref b1 :: st) u P = (xIs u b1 11 ∧ ∃ b, xR u b1 4 = some b ∧ zr 207 31 [v0, v1, v2, v3, v4] (.ref b :: st) u P) := zr_GR k207_28
theorem k207_31 : xcd 207 31 = oIl 1 32 := rfl
theorem r207_31 : zr 207 31 [v0, .int x1, v2, v3, v4] st u P = zr 207 32 [v0, .int x1, v2, v3, v4] (.int x1 :: st) u P := zr_Il k207_31 rfl
theorem k207_32 : xcd 207 32 = oIl 2 33 := rfl
theorem r207_32 : zr 207 32 [v0, v1, .int x2, v3, v4] st u P = zr 207 33 [v0, v1, .int x2, v3, v4] (.int x2 :: st) u P := zr_Il k207_32 rfl
theorem k207_33 : xcd 207 33 = oCal 206 3 36 := rfl
theorem r207_33 : zr 207 33 [v0, v1, v2, v3, v4] (.int y3 :: .int y2 :: .ref b1 :: st) u P = (xcat st ≤ 8 ∧ zr 206 0 [.ref b1, .int y2, .int y3, .null] [] u (fun r u2 => zr 207 36 [v0, v1, v2, v3, v4] (r.toList ++ st) u2 P)) := zr_CS k207_33 (Nat.le_add_left _ _) rfl rfl ⟨Nat.le_of_ble_eq_true rfl, Nat.succ_ne_zero _, by decide⟩ rfl
theorem k207_36 : xcd 207 36 = oI (-2) 38 := rfl
theorem r207_36 : zr 207 36 [v0, v1, v2, v3, v4] st u P = zr 207 38 [v0, v1, v2, v3, v4] (.int (-2) :: st) u P := zr_I k207_36
theorem k207_38 : xcd 207 38 = oCmp (fun x y => decide (x = y)) 46 41 := rfl
theorem r207_38 : zr 207 38 [v0, v1, v2, v3, v4] (.int y1 :: .int y2 :: st) u P = (if y2 = y1 then zr 207 46 [v0, v1, v2, v3, v4] st u P else zr 207 41 [v0, v1, v2, v3, v4] st u P) := zr_Cmp k207_38
theorem k207_41 : xcd 207 41 = oAl 0 42 := rfl
theorem r207_41 : zr 207 41 [.ref a0, v1, v2, v3, v4] st u P = zr 207 42 [.ref a0, v1, v2, v3, v4] (.ref a0 :: st) u P := zr_Al k207_41 rfl
theorem k207_42 : xcd 207 42 = oI 3 43 := rfl
theorem r207_42 : zr 207 42 [v0, v1, v2, v3, v4] st u P = zr 207 43 [v0, v1, v2, v3, v4] (.int 3 :: st) u P := zr_I k207_42
theorem k207_43 : xcd 207 43 = oCalV 11 181 1 46 := rfl
theorem r207_43 : zr 207 43 [v0, v1, v2, v3, v4] (.int y1 :: .ref b8 :: st) u P = ((xIs u b8 11 ∧ xcat st ≤ 8) ∧ zr 181 0 [.ref b8, .int y1] [] u (fun r u2 => zr 207 46 [v0, v1, v2, v3, v4] (r.toList ++ st) u2 P)) := zr_CV k207_43 rfl rfl rfl ⟨Nat.le_of_ble_eq_true rfl, Nat.succ_ne_zero _, by decide⟩ rfl
theorem k207_46 : xcd 207 46 = oAl 0 47 := rfl
theorem r207_46 : zr 207 46 [.ref a0, v1, v2, v3, v4] st u P = zr 207 47 [.ref a0, v1, v2, v3, v4] (.ref a0 :: st) u P := zr_Al k207_46 rfl
theorem k207_47 : xcd 207 47 = oCalV 11 177 0 50 := rfl
theorem r207_47 : zr 207 47 [v0, v1, v2, v3, v4] (.ref b8 :: st) u P = ((xIs u b8 11 ∧ xcat st ≤ 8) ∧ zr 177 0 [.ref b8, .null] [] u (fun r u2 => zr 207 50 [v0, v1, v2, v3, v4] (r.toList ++ st) u2 P)) := zr_CV k207_47 rfl rfl rfl ⟨Nat.le_of_ble_eq_true rfl, Nat.succ_ne_zero _, by decide⟩ rfl
theorem k207_50 : xcd 207 50 = oAl 0 51 := rfl
theorem r207_50 : zr 207 50 [.ref a0, v1, v2, v3, v4] st u P = zr 207 51 [.ref a0, v1, v2, v3, v4] (.ref a0 :: st) u P := zr_Al k207_50 rfl
theorem k207_51 : xcd 207 51 = oI 1 52 := rfl
theorem r207_51 : zr 207 51 [v0, v1, v2, v3, v4] st u P = zr 207 52 [v0, v1, v2, v3, v4] (.int 1 :: st) u P := zr_I k207_51
theorem k207_52 : xcd 207 52 = oI 9999 55 := rfl
theorem r207_52 : zr 207 52 [v0, v1, v2, v3, v4] st u P = zr 207 55 [v0, v1, v2, v3, v4] (.int 9999 :: st) u P := zr_I k207_52
theorem k207_55 : xcd 207 55 = oCalV 11 184 2 58 := rfl
theorem r207_55 : zr 207 55 [v0, v1, v2, v3, v4] (.int y2 :: .int y1 :: .ref b8 :: st) u P = ((xIs u b8 11 ∧ xcat st ≤ 8) ∧ zr 184 0 [.ref b8, .int y1, .int y2, .null] [] u (fun r u2 => zr 207 58 [v0, v1, v2, v3, v4] (r.toList ++ st) u2 P)) := zr_CV k207_55 rfl rfl rfl ⟨Nat.le_of_ble_eq_true rfl, Nat.succ_ne_zero _, by decide⟩ rfl
theorem k207_58 : xcd 207 58 = oIs 3 59 := rfl
theorem r207_58 : zr 207 58 [v0, v1, .int x2, v3, v4] (.int y1 :: st) u P = zr 207 59 [v0, v1, .int x2, .int y1, v4] st u P := zr_Is k207_58 ⟨Nat.le_of_ble_eq_true rfl, rfl⟩
theorem k207_59 : xcd 207 59 = oAl 0 60 := rfl
theorem r207_59 : zr 207 59 [.ref a0, v1, v2, v3, v4] st u P = zr 207 60 [.ref a0, v1, v2, v3, v4] (.ref a0 :: st) u P := zr_Al k207_59 rfl
theorem k207_60 : xcd 207 60 = oGI 11 15 63 := rfl
theorem r207_60 : zr 207 60 [v0, v1, v2, v3, v4] (.ref b1 :: st) u P = (xIs u b1 11 ∧ zr 207 63 [v0, v1, v2, v3, v4] (.int (xI u b1 15) :: st) u P) := zr_GI k207_60
theorem k207_63 : xcd 207 63 = oIf (fun x => decide (x ≤ 0)) 67 66 := rfl
theorem r207_63 : zr 207 63 [v0, v1, v2, v3, v4] (.int y1 :: st) u P = (if y1 ≤ 0 then zr 207 67 [v0, v1, v2, v3, v4] st u P else zr 207 66 [v0, v1, v2, v3, v4] st u P) := zr_If k207_63
theorem k207_66 : xcd 207 66 = oRv 0 := rfl
theorem r207_66 : zr 207 66 [v0, v1, v2, v3, v4] [] u P = P none u := zr_Rv k207_66
theorem k207_67 : xcd 207 67 = oI 384 70 := rfl
theorem r207_67 : zr 207 67 [v0, v1, v2, v3, v4] st u P = zr 207 70 [v0, v1, v2, v3, v4] (.int 384 :: st) u P := zr_I k207_67
theorem k207_70 : xcd 207 70 = oI 3 71 := rfl
theorem r207_70 : zr 207 70 [v0, v1, v2, v3, v4] st u P = zr 207 71 [v0, v1, v2, v3, v4] (.int 3 :: st) u P := zr_I k207_70
theorem k207_71 : xcd 207 71 = oAl 0 72 := rfl
theorem r207_71 : zr 207 71 [.ref a0, v1, v2, v3, v4] st u P = zr 207 72 [.ref a0, v1, v2, v3, v4] (.ref a0 :: st) u P := zr_Al k207_71 rfl
theorem k207_72 : xcd 207 72 = oGR 11 4 75 := rfl
theorem r207_72 : zr 207 72 [v0, v1, v2, v3, v4] (.ref b1 :: st) u P = (xIs u b1 11 ∧ ∃ b, xR u b1 4 = some b ∧ zr 207 75 [v0, v1, v2, v3, v4] (.ref b :: st) u P) := zr_GR k207_72
theorem k207_75 : xcd 207 75 = oI 7 77 := rfl
theorem r207_75 : zr 207 75 [v0, v1, v2, v3, v4] st u P = zr 207 77 [v0, v1, v2, v3, v4] (.int 7 :: st) u P := zr_I k207_75
theorem k207_77 : xcd 207 77 = oLd 13 78 := rfl
theorem r207_77 : zr 207 77 [v0, v1, v2, v3, v4] (.int y1 :: .ref b1 :: st) u P = ((xIs u b1 13 ∧ xinb y1 (xN u b1)) ∧ zr 207 78 [v0, v1, v2, v3, v4] (.int (xI u b1 (xix y1)) :: st) u P) := zr_Ld k207_77
theorem k207_78 : xcd 207 78 = oB (fun x y => x * y) 79 := rfl
theorem r207_78 : zr 207 78 [v0, v1, v2, v3, v4] (.int y1 :: .int y2 :: st) u P = zr 207 79 [v0, v1, v2, v3, v4] (.int (y2 * y1) :: st) u P := zr_B k207_78
theorem k207_79 : xcd 207 79 = oB (fun x y => x + y) 80 := rfl
theorem r207_79 : zr 207 79 [v0, v1, v2, v3, v4] (.int y1 :: .int y2 :: st) u P = zr 207 80 [v0, v1, v2, v3, v4] (.int (y2 + y1) :: st) u P := zr_B k207_79
theorem k207_80 : xcd 207 80 = oIs 4 82 := rfl
theorem r207_80 : zr 207 80 [v0, v1, v2, .int x3, v4] (.int y1 :: st) u P = zr 207 82 [v0, v1, v2, .int x3, .int y1] st u P := zr_Is k207_80 ⟨Nat.le_of_ble_eq_true rfl, rfl⟩
theorem k207_82 : xcd 207 82 = oAl 0 83 := rfl
theorem r207_82 : zr 207 82 [.ref a0, v1, v2, v3, v4] st u P = zr 207 83 [.ref a0, v1, v2, v3, v4] (.ref a0 :: st) u P := zr_Al k207_82 rfl
theorem k207_83 : xcd 207 83 = oGR 11 4 86 := rfl
theorem r207_83 : zr 207 83 [v0, v1, v2, v3, v4] (.ref b1 :: st) u P = (xIs u b1 11 ∧ ∃ b, xR u b1 4 = some b ∧ zr 207 86 [v0, v1, v2, v3, v4] (.ref b :: st) u P) := zr_GR k207_83
theorem k207_86 : xcd 207 86 = oIl 4 88 := rfl
theorem r207_86 : zr 207 86 [v0, v1, v2, v3, .int x4] st u P = zr 207 88 [v0, v1, v2, v3, .int x4] (.int x4 :: st) u P := zr_Il k207_86 rfl
theorem k207_88 : xcd 207 88 = oIl 1 89 := rfl
theorem r207_88 : zr 207 88 [v0, .int x1, v2, v3, v4] st u P = zr 207 89 [v0, .int x1, v2, v3, v4] (.int x1 :: st) u P := zr_Il k207_88 rfl
theorem k207_89 : xcd 207 89 = oSt 13 (fun x => x) 90 := rfl
theorem r207_89 : zr 207 89 [v0, v1, v2, v3, v4] (.int y2 :: .int y1 :: .ref b1 :: st) u P = ((xIs u b1 13 ∧ xinb y1 (xN u b1)) ∧ zr 207 90 [v0, v1, v2, v3, v4] st (xsI u b1 (xix y1) y2) P) := zr_St k207_89
theorem k207_90 : xcd 207 90 = oAl 0 91 := rfl
theorem r207_90 : zr 207 90 [.ref a0, v1, v2, v3, v4] st u P = zr 207 91 [.ref a0, v1, v2, v3, v4] (.ref a0 :: st) u P := zr_Al k207_90 rfl
theorem k207_91 : xcd 207 91 = oGR 11 4 94 := rfl
theorem r207_91 : zr 207 91 [v0, v1, v2, v3, v4] (.ref b1 :: st) u P = (xIs u b1 11 ∧ ∃ b, xR u b1 4 = some b ∧ zr 207 94 [v0, v1, v2, v3, v4] (.ref b :: st) u P) := zr_GR k207_91
theorem k207_94 : xcd 207 94 = oIl 4 96 := rfl
theorem r207_94 : zr 207 94 [v0, v1, v2, v3, .int x4] st u P = zr 207 96 [v0, v1, v2, v3, .int x4] (.int x4 :: st) u P := zr_Il k207_94 rfl
theorem k207_96 : xcd 207 96 = oI 1 97 := rfl
theorem r207_96 : zr 207 96 [v0, v1, v2, v3, v4] st u P = zr 207 97 [v0, v1, v2, v3, v4] (.int 1 :: st) u P := zr_I k207_96
theorem k207_97 : xcd 207 97 = oB (fun x y => x + y) 98 := rfl
theorem r207_97 : zr 207 97 [v0, v1, v2, v3, v4] (.int y1 :: .int y2 :: st) u P = zr 207 98 [v0, v1, v2, v3, v4] (.int (y2 + y1) :: st) u P := zr_B k207_97
theorem k207_98 : xcd 207 98 = oIl 2 99 := rfl
theorem r207_98 : zr 207 98 [v0, v1, .int x2, v3, v4] st u P = zr 207 99 [v0, v1, .int x2, v3, v4] (.int x2 :: st) u P := zr_Il k207_98 rfl
theorem k207_99 : xcd 207 99 = oSt 13 (fun x => x) 100 := rfl
theorem r207_99 : zr 207 99 [v0, v1, v2, v3, v4] (.int y2 :: .int y1 :: .ref b1 :: st) u P = ((xIs u b1 13 ∧ xinb y1 (xN u b1)) ∧ zr 207 100 [v0, v1, v2, v3, v4] st (xsI u b1 (xix y1) y2) P) := zr_St k207_99
theorem k207_100 : xcd 207 100 = oAl 0 101 := rfl
theorem r207_100 : zr 207 100 [.ref a0, v1, v2, v3, v4] st u P = zr 207 101 [.ref a0, v1, v2, v3, v4] (.ref a0 :: st) u P := zr_Al k207_100 rfl
theorem k207_101 : xcd 207 101 = oGR 11 4 104 := rfl
theorem r207_101 : zr 207 101 [v0, v1, v2, v3, v4] (.ref b1 :: st) u P = (xIs u b1 11 ∧ ∃ b, xR u b1 4 = some b ∧ zr 207 104 [v0, v1, v2, v3, v4] (.ref b :: st) u P) := zr_GR k207_101
theorem k207_104 : xcd 207 104 = oIl 4 106 := rfl
theorem r207_104 : zr 207 104 [v0, v1, v2, v3, .int x4] st u P = zr 207 106 [v0, v1, v2, v3, .int x4] (.int x4 :: st) u P := zr_Il k207_104 rfl
theorem k207_106 : xcd 207 106 = oI 2 107 := rfl
theorem r207_106 : zr 207 106 [v0, v1, v2, v3, v4] st u P = zr 207 107 [v0, v1, v2, v3, v4] (.int 2 :: st) u P := zr_I k207_106
theorem k207_107 : xcd 207 107 = oB (fun x y => x + y) 108 := rfl
theorem r207_107 : zr 207 107 [v0, v1, v2, v3, v4] (.int y1 :: .int y2 :: st) u P = zr 207 108 [v0, v1, v2, v3, v4] (.int (y2 + y1) :: st) u P := zr_B k207_107
theorem k207_108 : xcd 207 108 = oIl 3 109 := rfl
theorem r207_108 : zr 207 108 [v0, v1, v2, .int x3, v4] st u P = zr 207 109 [v0, v1, v2, .int x3, v4] (.int x3 :: st) u P := zr_Il k207_108 rfl
theorem k207_109 : xcd 207 109 = oSt 13 (fun x => x) 110 := rfl
theorem r207_109 : zr 207 109 [v0, v1, v2, v3, v4] (.int y2 :: .int y1 :: .ref b1 :: st) u P = ((xIs u b1 13 ∧ xinb y1 (xN u b1)) ∧ zr 207 110 [v0, v1, v2, v3, v4] st (xsI u b1 (xix y1) y2) P) := zr_St k207_109
theorem k207_110 : xcd 207 110 = oAl 0 111 := rfl
theorem r207_110 : zr 207 110 [.ref a0, v1, v2, v3, v4] st u P = zr 207 111 [.ref a0, v1, v2, v3, v4] (.ref a0 :: st) u P := zr_Al k207_110 rfl
theorem k207_111 : xcd 207 111 = oGR 11 4 114 := rfl
theorem r207_111 : zr 207 111 [v0, v1, v2, v3, v4] (.ref b1 :: st) u P = (xIs u b1 11 ∧ ∃ b, xR u b1 4 = some b ∧ zr 207 114 [v0, v1, v2, v3, v4] (.ref b :: st) u P) := zr_GR k207_111
theorem k207_114 : xcd 207 114 = oI 7 116 := rfl
theorem r207_114 : zr 207 114 [v0, v1, v2, v3, v4] st u P = zr 207 116 [v0, v1, v2, v3, v4] (.int 7 :: st) u P := zr_I k207_114
theorem k207_116 : xcd 207 116 = oDup2 117 := rfl
theorem r207_116 : zr 207 116 [v0, v1, v2, v3, v4] (.int y1 :: .ref b1 :: st) u P = zr 207 117 [v0, v1, v2, v3, v4] (.int y1 :: .ref b1 :: .int y1 :: .ref b1 :: st) u P := zr_Dup2 k207_116
theorem k207_117 : xcd 207 117 = oLd 13 118 := rfl
theorem r207_117 : zr 207 117 [v0, v1, v2, v3, v4] (.int y1 :: .ref b1 :: st) u P = ((xIs u b1 13 ∧ xinb y1 (xN u b1)) ∧ zr 207 118 [v0, v1, v2, v3, v4] (.int (xI u b1 (xix y1)) :: st) u P) := zr_Ld k207_117
theorem k207_118 : xcd 207 118 = oI 1 119 := rfl
theorem r207_118 : zr 207 118 [v0, v1, v2, v3, v4] st u P = zr 207 119 [v0, v1, v2, v3, v4] (.int 1 :: st) u P := zr_I k207_118
theorem k207_119 : xcd 207 119 = oB (fun x y => x + y) 120 := rfl
theorem r207_119 : zr 207 119 [v0, v1, v2, v3, v4] (.int y1 :: .int y2 :: st) u P = zr 207 120 [v0, v1, v2, v3, v4] (.int (y2 + y1) :: st) u P := zr_B k207_119
theorem k207_120 : xcd 207 120 = oSt 13 (fun x => x) 121 := rfl
theorem r207_120 : zr 207 120 [v0, v1, v2, v3, v4] (.int y2 :: .int y1 :: .ref b1 :: st) u P = ((xIs u b1 13 ∧ xinb y1 (xN u b1)) ∧ zr 207 121 [v0, v1, v2, v3, v4] st (xsI u b1 (xix y1) y2) P) := zr_St k207_120
theorem k207_121 : xcd 207 121 = oRv 0 := rfl
theorem r207_121 : zr 207 121 [v0, v1, v2, v3, v4] [] u P = P none u := zr_Rv k207_121
theorem k208_0 : xcd 208 0 = oAl 0 1 := rfl
theorem r208_0 : zr 208 0 [.ref a0, v1, v2, v3, v4, v5, v6, v7] st u P = zr 208 1 [.ref a0, v1, v2, v3, v4, v5, v6, v7] (.ref a0 :: st) u P := zr_Al k208_0 rfl
theorem k208_1 : xcd 208 1 = oI 0 2 := rfl
theorem r208_1 : zr 208 1 [v0, v1, v2, v3, v4, v5, v6, v7] st u P = zr 208 2 [v0, v1, v2, v3, v4, v5, v6, v7] (.int 0 :: st) u P := zr_I k208_1
theorem k208_2 : xcd 208 2 = oPI 11 0 5 := rfl
theorem r208_2 : zr 208 2 [v0, v1, v2, v3, v4, v5, v6, v7] (.int y1 :: .ref b1 :: st) u P = (xIs u b1 11 ∧ zr 208 5 [v0, v1, v2, v3, v4, v5, v6, v7] st (xsI u b1 0 y1) P) := zr_PI k208_2
theorem k208_5 : xcd 208 5 = oAl 0 6 := rfl
theorem r208_5 : zr 208 5 [.ref a0, v1, v2, v3, v4, v5, v6, v7] st u P = zr 208 6 [.ref a0, v1, v2, v3, v4, v5, v6, v7] (.ref a0 :: st) u P := zr_Al k208_5 rfl
theorem k208_6 : xcd 208 6 = oGI 11 9 9 := rfl
theorem r208_6 : zr 208 6 [v0, v1, v2, v3, v4, v5, v6, v7] (.ref b1 :: st) u P = (xIs u b1 11 ∧ zr 208 9 [v0, v1, v2, v3, v4, v5, v6, v7] (.int (xI u b1 9) :: st) u P) := zr_GI k208_6
theorem k208_9 : xcd 208 9 = oI 20 11 := rfl
theorem r208_9 : zr 208 9 [v0, v1, v2, v3, v4, v5, v6, v7] st u P = zr 208 11 [v0, v1, v2, v3, v4, v5, v6, v7] (.int 20 :: st) u P := zr_I k208_9
theorem k208_11 : xcd 208 11 = oB (fun x y => x + y) 12 := rfl
theorem r208_11 : zr 208 11 [v0, v1, v2, v3, v4, v5, v6, v7] (.int y1 :: .int y2 :: st) u P = zr 208 12 [v0, v1, v2, v3, v4, v5, v6, v7] (.int (y2 + y1) :: st) u P := zr_B k208_11
theorem k208_12 : xcd 208 12 = oI 1200 15 := rfl
theorem r208_12 : zr 208 12 [v0, v1, v2, v3, v4, v5, v6, v7] st u P = zr 208 15 [v0, v1, v2, v3, v4, v5, v6, v7] (.int 1200 :: st) u P := zr_I k208_12
theorem k208_15 : xcd 208 15 = oCmp (fun x y => decide (x ≤ y)) 20 18 := rfl
theorem r208_15 : zr 208 15 [v0, v1, v2, v3, v4, v5, v6, v7] (.int y1 :: .int y2 :: st) u P = (if y2 ≤ y1 then zr 208 20 [v0, v1, v2, v3, v4, v5, v6, v7] st u P else zr 208 18 [v0, v1, v2, v3, v4, v5, v6, v7] st u P) := zr_Cmp k208_15
theorem k208_18 : xcd 208 18 = oI (-1) 19 := rfl
theorem r208_18 : zr 208 18 [v0, v1, v2, v3, v4, v5, v6, v7] st u P = zr 208 19 [v0, v1, v2, v3, v4, v5, v6, v7] (.int (-1) :: st) u P := zr_I k208_18
theorem k208_19 : xcd 208 19 = oRi 0 := rfl
theorem r208_19 : zr 208 19 [v0, v1, v2, v3, v4, v5, v6, v7] [.int y1] u P = P (some (.int y1)) u := zr_Ri k208_19
theorem k208_20 : xcd 208 20 = oI 0 21 := rfl
theorem r208_20 : zr 208 20 [v0, v1, v2, v3, v4, v5, v6, v7] st u P = zr 208 21 [v0, v1, v2, v3, v4, v5, v6, v7] (.int 0 :: st) u P := zr_I k208_20
theorem k208_21 : xcd 208 21 = oIs 6 23 := rfl
theorem r208_21 : zr 208 21 [v0, v1, v2, v3, v4, .int x5, v6, v7] (.int y1 :: st) u P = zr 208 23 [v0, v1, v2, v3, v4, .int x5, .int y1, v7] st u P := zr_Is k208_21 ⟨Nat.le_of_ble_eq_true rfl, rfl⟩
theorem k208_23 : xcd 208 23 = oIl 6 25 := rfl
theorem r208_23 : zr 208 23 [v0, v1, v2, v3, v4, v5, .int x6, v7] st u P = zr 208 25 [v0, v1, v2, v3, v4, v5, .int x6, v7] (.int x6 :: st) u P := zr_Il k208_23 rfl
theorem k208_25 : xcd 208 25 = oI 20 27 := rfl
theorem r208_25 : zr 208 25 [v0, v1, v2, v3, v4, v5, v6, v7] st u P = zr 208 27 [v0, v1, v2, v3, v4, v5, v6, v7] (.int 20 :: st) u P := zr_I k208_25
theorem k208_27 : xcd 208 27 = oCmp (fun x y => decide (y ≤ x)) 117 30 := rfl
theorem r208_27 : zr 208 27 [v0, v1, v2, v3, v4, v5, v6, v7] (.int y1 :: .int y2 :: st) u P = (if y1 ≤ y2 then zr 208 117 [v0, v1, v2, v3, v4, v5, v6, v7] st u P else zr 208 30 [v0, v1, v2, v3, v4, v5, v6, v7] st u P) := zr_Cmp k208_27
theorem k208_30 : xcd 208 30 = oIl 6 32 := rfl
theorem r208_30 : zr 208 30 [v0, v1, v2, v3, v4, v5, .int x6, v7] st u P = zr 208 32 [v0, v1, v2, v3, v4, v5, .int x6, v7] (.int x6 :: st) u P := zr_Il k208_30 rfl
theorem k208_32 : xcd 208 32 = oI 4 33 := rfl
theorem r208_32 : zr 208 32 [v0, v1, v2, v3, v4, v5, v6, v7] st u P = zr 208 33 [v0, v1, v2, v3, v4, v5, v6, v7] (.int 4 :: st) u P := zr_I k208_32
theorem k208_33 : xcd 208 33 = oCmp (fun x y => decide (y ≤ x)) 40 36 := rfl
theorem r208_33 : zr 208 33 [v0, v1, v2, v3, v4, v5, v6, v7] (.int y1 :: .int y2 :: st) u P = (if y1 ≤ y2 then zr 208 40 [v0, v1, v2, v3, v4, v5, v6, v7] st u P else zr 208 36 [v0, v1, v2, v3, v4, v5, v6, v7] st u P) := zr_Cmp k208_33
theorem k208_36 : xcd 208 36 = oIl 1 37 := rfl
theorem r208_36 : zr 208 36 [v0, .int x1, v2, v3, v4, v5, v6, v7] st u P = zr 208 37 [v0, .int x1, v2, v3, v4, v5, v6, v7] (.int x1 :: st) u P := zr_Il k208_36 rfl
theorem k208_37 : xcd 208 37 = oGoto 76 := rfl
theorem r208_37 : zr 208 37 [v0, v1, v2, v3, v4, v5, v6, v7] st u P = zr 208 76 [v0, v1, v2, v3, v4, v5, v6, v7] st u P := zr_Goto k208_37
theorem k208_40 : xcd 208 40 = oIl 6 42 := rfl
theorem r208_40 : zr 208 40 [v0, v1, v2, v3, v4, v5, .int x6, v7] st u P = zr 208 42 [v0, v1, v2, v3, v4, v5, .int x6, v7] (.int x6 :: st) u P := zr_Il k208_40 rfl
theorem k208_42 : xcd 208 42 = oI 8 44 := rfl
theorem r208_42 : zr 208 42 [v0, v1, v2, v3, v4, v5, v6, v7] st u P = zr 208 44 [v0, v1, v2, v3, v4, v5, v6, v7] (.int 8 :: st) u P := zr_I k208_42
theorem k208_44 : xcd 208 44 = oCmp (fun x y => decide (y ≤ x)) 51 47 := rfl
theorem r208_44 : zr 208 44 [v0, v1, v2, v3, v4, v5, v6, v7] (.int y1 :: .int y2 :: st) u P = (if y1 ≤ y2 then zr 208 51 [v0, v1, v2, v3, v4, v5, v6, v7] st u P else zr 208 47 [v0, v1, v2, v3, v4, v5, v6, v7] st u P) := zr_Cmp k208_44
theorem k208_47 : xcd 208 47 = oIl 2 48 := rfl
theorem r208_47 : zr 208 47 [v0, v1, .int x2, v3, v4, v5, v6, v7] st u P = zr 208 48 [v0, v1, .int x2, v3, v4, v5, v6, v7] (.int x2 :: st) u P := zr_Il k208_47 rfl
theorem k208_48 : xcd 208 48 = oGoto 76 := rfl
theorem r208_48 : zr 208 48 [v0, v1, v2, v3, v4, v5, v6, v7] st u P = zr 208 76 [v0, v1, v2, v3, v4, v5, v6, v7] st u P := zr_Goto k208_48
theorem k208_51 : xcd 208 51 = oIl 6 53 := rfl
theorem r208_51 : zr 208 51 [v0, v1, v2, v3, v4, v5, .int x6, v7] st u P = zr 208 53 [v0, v1, v2, v3, v4, v5, .int x6, v7] (.int x6 :: st) u P := zr_Il k208_51 rfl
theorem k208_53 : xcd 208 53 = oI 12 55 := rfl
theorem r208_53 : zr 208 53 [v0, v1, v2, v3, v4, v5, v6, v7] st u P = zr 208 55 [v0, v1, v2, v3, v4, v5, v6, v7] (.int 12 :: st) u P := zr_I k208_53
theorem k208_55 : xcd 208 55 = oCmp (fun x y => decide (y ≤ x)) 62 58 := rfl
theorem r208_55 : zr 208 55 [v0, v1, v2, v3, v4, v5, v6, v7] (.int y1 :: .int y2 :: st) u P = (if y1 ≤ y2 then zr 208 62 [v0, v1, v2, v3, v4, v5, v6, v7] st u P else zr 208 58 [v0, v1, v2, v3, v4, v5, v6, v7] st u P) := zr_Cmp k208_55
theorem k208_58 : xcd 208 58 = oIl 3 59 := rfl
theorem r208_58 : zr 208 58 [v0, v1, v2, .int x3, v4, v5, v6, v7] st u P = zr 208 59 [v0, v1, v2, .int x3, v4, v5, v6, v7] (.int x3 :: st) u P := zr_Il k208_58 rfl
theorem k208_59 : xcd 208 59 = oGoto 76 := rfl
theorem r208_59 : zr 208 59 [v0, v1, v2, v3, v4, v5, v6, v7] st u P = zr 208 76 [v0, v1, v2, v3, v4, v5, v6, v7] st u P := zr_Goto k208_59
theorem k208_62 : xcd 208 62 = oIl 6 64 := rfl
theorem r208_62 : zr 208 62 [v0, v1, v2, v3, v4, v5, .int x6, v7] st u P = zr 208 64 [v0, v1, v2, v3, v4, v5, .int x6, v7] (.int x6 :: st) u P := zr_Il k208_62 rfl
theorem k208_64 : xcd 208 64 = oI 16 66 := rfl
theorem r208_64 : zr 208 64 [v0, v1, v2, v3, v4, v5, v6, v7] st u P = zr 208 66 [v0, v1, v2, v3, v4, v5, v6, v7] (.int 16 :: st) u P := zr_I k208_64
theorem k208_66 : xcd 208 66 = oCmp (fun x y => decide (y ≤ x)) 74 69 := rfl
theorem r208_66 : zr 208 66 [v0, v1, v2, v3, v4, v5, v6, v7] (.int y1 :: .int y2 :: st) u P = (if y1 ≤ y2 then zr 208 74 [v0, v1, v2, v3, v4, v5, v6, v7] st u P else zr 208 69 [v0, v1, v2, v3, v4, v5, v6, v7] st u P) := zr_Cmp k208_66
theorem k208_69 : xcd 208 69 = oIl 4 71 := rfl
theorem r208_69 : zr 208 69 [v0, v1, v2, v3, .int x4, v5, v6, v7] st u P = zr 208 71 [v0, v1, v2, v3, .int x4, v5, v6, v7] (.int x4 :: st) u P := zr_Il k208_69 rfl
theorem k208_71 : xcd 208 71 = oGoto 76 := rfl
theorem r208_71 : zr 208 71 [v0, v1, v2, v3, v4, v5, v6, v7] st u P = zr 208 76 [v0, v1, v2, v3, v4, v5, v6, v7] st u P := zr_Goto k208_71
theorem k208_74 : xcd 208 74 = oIl 5 76 := rfl
theorem r208_74 : zr 208 74 [v0, v1, v2, v3, v4, .int x5, v6, v7] st u P = zr 208 76 [v0, v1, v2, v3, v4, .int x5, v6, v7] (.int x5 :: st) u P := zr_Il k208_74 rfl
theorem k208_76 : xcd 208 76 = oIs 7 78 := rfl
theorem r208_76 : zr 208 76 [v0, v1, v2, v3, v4, v5, .int x6, v7] (.int y1 :: st) u P = zr 208 78 [v0, v1, v2, v3, v4, v5, .int x6, .int y1] st u P := zr_Is k208_76 ⟨Nat.le_of_ble_eq_true rfl, rfl⟩
theorem k208_78 : xcd 208 78 = oAl 0 79 := rfl
theorem r208_78 : zr 208 78 [.ref a0, v1, v2, v3, v4, v5, v6, v7] st u P = zr 208 79 [.ref a0, v1, v2, v3, v4, v5, v6, v7] (.ref a0 :: st) u P := zr_Al k208_78 rfl
theorem k208_79 : xcd 208 79 = oGR 11 8 82 := rfl
theorem r208_79 : zr 208 79 [v0, v1, v2, v3, v4, v5, v6, v7] (.ref b1 :: st) u P = (xIs u b1 11 ∧ ∃ b, xR u b1 8 = some b ∧ zr 208 82 [v0, v1, v2, v3, v4, v5, v6, v7] (.ref b :: st) u P) := zr_GR k208_79
theorem k208_82 : xcd 208 82 = oAl 0 83 := rfl
theorem r208_82 : zr 208 82 [.ref a0, v1, v2, v3, v4, v5, v6, v7] st u P = zr 208 83 [.ref a0, v1, v2, v3, v4, v5, v6, v7] (.ref a0 :: st) u P := zr_Al k208_82 rfl
theorem k208_83 : xcd 208 83 = oGI 11 9 86 := rfl
theorem r208_83 : zr 208 83 [v0, v1, v2, v3, v4, v5, v6, v7] (.ref b1 :: st) u P = (xIs u b1 11 ∧ zr 208 86 [v0, v1, v2, v3, v4, v5, v6, v7] (.int (xI u b1 9) :: st) u P) := zr_GI k208_83
theorem k208_86 : xcd 208 86 = oIl 7 88 := rfl
theorem r208_86 : zr 208 86 [v0, v1, v2, v3, v4, v5, v6, .int x7] st u P = zr 208 88 [v0, v1, v2, v3, v4, v5, v6, .int x7] (.int x7 :: st) u P := zr_Il k208_86 rfl
theorem k208_88 : xcd 208 88 = oI 24 90 := rfl
theorem r208_88 : zr 208 88 [v0, v1, v2, v3, v4, v5, v6, v7] st u P = zr 208 90 [v0, v1, v2, v3, v4, v5, v6, v7] (.int 24 :: st) u P := zr_I k208_88
theorem k208_90 : xcd 208 90 = oI 8 92 := rfl
theorem r208_90 : zr 208 90 [v0, v1, v2, v3, v4, v5, v6, v7] st u P = zr 208 92 [v0, v1, v2, v3, v4, v5, v6, v7] (.int 8 :: st) u P := zr_I k208_90
theorem k208_92 : xcd 208 92 = oIl 6 94 := rfl
theorem r208_92 : zr 208 92 [v0, v1, v2, v3, v4, v5, .int x6, v7] st u P = zr 208 94 [v0, v1, v2, v3, v4, v5, .int x6, v7] (.int x6 :: st) u P := zr_Il k208_92 rfl
theorem k208_94 : xcd 208 94 = oI 4 95 := rfl
theorem r208_94 : zr 208 94 [v0, v1, v2, v3, v4, v5, v6, v7] st u P = zr 208 95 [v0, v1, v2, v3, v4, v5, v6, v7] (.int 4 :: st) u P := zr_I k208_94
theorem k208_95 : xcd 208 95 = oRem 96 := rfl
theorem r208_95 : zr 208 95 [v0, v1, v2, v3, v4, v5, v6, v7] (.int y1 :: .int y2 :: st) u P = (¬ y1 = 0 ∧ zr 208 96 [v0, v1, v2, v3, v4, v5, v6, v7] (.int (y2 - y2 / y1 * y1) :: st) u P) := zr_Rem k208_95
theorem k208_96 : xcd 208 96 = oB (fun x y => x * y) 97 := rfl
theorem r208_96 : zr 208 96 [v0, v1, v2, v3, v4, v5, v6, v7] (.int y1 :: .int y2 :: st) u P = zr 208 97 [v0, v1, v2, v3, v4, v5, v6, v7] (.int (y2 * y1) :: st) u P := zr_B k208_96
theorem k208_97 : xcd 208 97 = oB (fun x y => x - y) 98 := rfl
theorem r208_97 : zr 208 97 [v0, v1, v2, v3, v4, v5, v6, v7] (.int y1 :: .int y2 :: st) u P = zr 208 98 [v0, v1, v2, v3, v4, v5, v6, v7] (.int (y2 - y1) :: st) u P := zr_B k208_97
theorem k208_98 : xcd 208 98 = oB (fun x y => x >>> (y &&& 31)) 99 := rfl
theorem r208_98 : zr 208 98 [v0, v1, v2, v3, v4, v5, v6, v7] (.int y1 :: .int y2 :: st) u P = zr 208 99 [v0, v1, v2, v3, v4, v5, v6, v7] (.int (y2 >>> (y1 &&& 31)) :: st) u P := zr_B k208_98
theorem k208_99 : xcd 208 99 = oI2b 100 := rfl
theorem r208_99 : zr 208 99 [v0, v1, v2, v3, v4, v5, v6, v7] (.int y1 :: st) u P = zr 208 100 [v0, v1, v2, v3, v4, v5, v6, v7] (.int y1.toInt8.toInt32 :: st) u P := zr_I2b k208_99
theorem k208_100 : xcd 208 100 = oSt 12 (fun x => vp_nar .byte x) 101 := rfl
theorem r208_100 : zr 208 100 [v0, v1, v2, v3, v4, v5, v6, v7] (.int y2 :: .int y1 :: .ref b1 :: st) u P = ((xIs u b1 12 ∧ xinb y1 (xN u b1)) ∧ zr 208 101 [v0, v1, v2, v3, v4, v5, v6, v7] st (xsI u b1 (xix y1) (vp_nar .byte y2)) P) := zr_St k208_100
theorem k208_101 : xcd 208 101 = oAl 0 102 := rfl
theorem r208_101 : zr 208 101 [.ref a0, v1, v2, v3, v4, v5, v6, v7] st u P = zr 208 102 [.ref a0, v1, v2, v3, v4, v5, v6, v7] (.ref a0 :: st) u P := zr_Al k208_101 rfl
theorem k208_102 : xcd 208 102 = oDup 103 := rfl
theorem r208_102 : zr 208 102 [v0, v1, v2, v3, v4, v5, v6, v7] (.ref b1 :: st) u P = zr 208 103 [v0, v1, v2, v3, v4, v5, v6, v7] (.ref b1 :: .ref b1 :: st) u P := zr_DupA k208_102
theorem k208_103 : xcd 208 103 = oGI 11 9 106 := rfl
theorem r208_103 : zr 208 103 [v0, v1, v2, v3, v4, v5, v6, v7] (.ref b1 :: st) u P = (xIs u b1 11 ∧ zr 208 106 [v0, v1, v2, v3, v4, v5, v6, v7] (.int (xI u b1 9) :: st) u P) := zr_GI k208_103
theorem k208_106 : xcd 208 106 = oI 1 107 := rfl
theorem r208_106 : zr 208 106 [v0, v1, v2, v3, v4, v5, v6, v7] st u P = zr 208 107 [v0, v1, v2, v3, v4, v5, v6, v7] (.int 1 :: st) u P := zr_I k208_106
theorem k208_107 : xcd 208 107 = oB (fun x y => x + y) 108 := rfl
theorem r208_107 : zr 208 107 [v0, v1, v2, v3, v4, v5, v6, v7] (.int y1 :: .int y2 :: st) u P = zr 208 108 [v0, v1, v2, v3, v4, v5, v6, v7] (.int (y2 + y1) :: st) u P := zr_B k208_107
theorem k208_108 : xcd 208 108 = oPI 11 9 111 := rfl
theorem r208_108 : zr 208 108 [v0, v1, v2, v3, v4, v5, v6, v7] (.int y1 :: .ref b1 :: st) u P = (xIs u b1 11 ∧ zr 208 111 [v0, v1, v2, v3, v4, v5, v6, v7] st (xsI u b1 9 y1) P) := zr_PI k208_108
theorem k208_111 : xcd 208 111 = oInc 6 1 114 := rfl
theorem r208_111 : zr 208 111 [v0, v1, v2, v3, v4, .int x5, .int x6, v7] st u P = zr 208 114 [v0, v1, v2, v3, v4, .int x5, .int (x6 + 1), v7] st u P := zr_Inc k208_111 rfl rfl
theorem k208_114 : xcd 208 114 = oGoto 23 := rfl
theorem r208_114 : zr 208 114 [v0, v1, v2, v3, v4, v5, v6, v7] st u P = zr 208 23 [v0, v1, v2, v3, v4, v5, v6, v7] st u P := zr_Goto k208_114
theorem k208_117 : xcd 208 117 = oAl 0 118 := rfl
theorem r208_117 : zr 208 117 [.ref a0, v1, v2, v3, v4, v5, v6, v7] st u P = zr 208 118 [.ref a0, v1, v2, v3, v4, v5, v6, v7] (.ref a0 :: st) u P := zr_Al k208_117 rfl
theorem k208_118 : xcd 208 118 = oGI 11 9 121 := rfl
theorem r208_118 : zr 208 118 [v0, v1, v2, v3, v4, v5, v6, v7] (.ref b1 :: st) u P = (xIs u b1 11 ∧ zr 208 121 [v0, v1, v2, v3, v4, v5, v6, v7] (.int (xI u b1 9) :: st) u P) := zr_GI k208_118
theorem k208_121 : xcd 208 121 = oRi 0 := rfl
theorem r208_121 : zr 208 121 [v0, v1, v2, v3, v4, v5, v6, v7] [.int y1] u P = P (some (.int y1)) u := zr_Ri k208_121
theorem k209_0 : xcd 209 0 = oAl 0 1 := rfl
theorem r209_0 : zr 209 0 [.ref a0, v1, v2] st u P = zr 209 1 [.ref a0, v1, v2] (.ref a0 :: st) u P := zr_Al k209_0 rfl
theorem k209_1 : xcd 209 1 = oI 0 2 := rfl
theorem r209_1 : zr 209 1 [v0, v1, v2] st u P = zr 209 2 [v0, v1, v2] (.int 0 :: st) u P := zr_I k209_1
theorem k209_2 : xcd 209 2 = oPI 11 0 5 := rfl
theorem r209_2 : zr 209 2 [v0, v1, v2] (.int y1 :: .ref b1 :: st) u P = (xIs u b1 11 ∧ zr 209 5 [v0, v1, v2] st (xsI u b1 0 y1) P) := zr_PI k209_2
theorem k209_5 : xcd 209 5 = oIl 1 6 := rfl
theorem r209_5 : zr 209 5 [v0, .int x1, v2] st u P = zr 209 6 [v0, .int x1, v2] (.int x1 :: st) u P := zr_Il k209_5 rfl
theorem k209_6 : xcd 209 6 = oIf (fun x => decide (x < 0)) 17 9 := rfl
theorem r209_6 : zr 209 6 [v0, v1, v2] (.int y1 :: st) u P = (if y1 < 0 then zr 209 17 [v0, v1, v2] st u P else zr 209 9 [v0, v1, v2] st u P) := zr_If k209_6
theorem k209_9 : xcd 209 9 = oIl 1 10 := rfl
theorem r209_9 : zr 209 9 [v0, .int x1, v2] st u P = zr 209 10 [v0, .int x1, v2] (.int x1 :: st) u P := zr_Il k209_9 rfl
theorem k209_10 : xcd 209 10 = oAl 0 11 := rfl
theorem r209_10 : zr 209 10 [.ref a0, v1, v2] st u P = zr 209 11 [.ref a0, v1, v2] (.ref a0 :: st) u P := zr_Al k209_10 rfl
theorem k209_11 : xcd 209 11 = oGI 11 9 14 := rfl
theorem r209_11 : zr 209 11 [v0, v1, v2] (.ref b1 :: st) u P = (xIs u b1 11 ∧ zr 209 14 [v0, v1, v2] (.int (xI u b1 9) :: st) u P) := zr_GI k209_11
theorem k209_14 : xcd 209 14 = oCmp (fun x y => decide (x ≤ y)) 23 17 := rfl
theorem r209_14 : zr 209 14 [v0, v1, v2] (.int y1 :: .int y2 :: st) u P = (if y2 ≤ y1 then zr 209 23 [v0, v1, v2] st u P else zr 209 17 [v0, v1, v2] st u P) := zr_Cmp k209_14
theorem k209_17 : xcd 209 17 = oAl 0 18 := rfl
theorem r209_17 : zr 209 17 [.ref a0, v1, v2] st u P = zr 209 18 [.ref a0, v1, v2] (.ref a0 :: st) u P := zr_Al k209_17 rfl
theorem k209_18 : xcd 209 18 = oI 2 19 := rfl
theorem r209_18 : zr 209 18 [v0, v1, v2] st u P = zr 209 19 [v0, v1, v2] (.int 2 :: st) u P := zr_I k209_18
theorem k209_19 : xcd 209 19 = oCalV 11 172 1 22 := rfl
theorem r209_19 : zr 209 19 [v0, v1, v2] (.int y1 :: .ref b8 :: st) u P = ((xIs u b8 11 ∧ xcat st ≤ 8) ∧ zr 172 0 [.ref b8, .int y1] [] u (fun r u2 => zr 209 22 [v0, v1, v2] (r.toList ++ st) u2 P)) := zr_CV k209_19 rfl rfl rfl ⟨Nat.le_of_ble_eq_true rfl, Nat.succ_ne_zero _, by decide⟩ rfl
theorem k209_22 : xcd 209 22 = oRi 0 := rfl
theorem r209_22 : zr 209 22 [v0, v1, v2] [.int y1] u P = P (some (.int y1)) u := zr_Ri k209_22
theorem k209_23 : xcd 209 23 = oAl 0 24 := rfl
theorem r209_23 : zr 209 23 [.ref a0, v1, v2] st u P = zr 209 24 [.ref a0, v1, v2] (.ref a0 :: st) u P := zr_Al k209_23 rfl
theorem k209_24 : xcd 209 24 = oIl 1 25 := rfl
theorem r209_24 : zr 209 24 [v0, .int x1, v2] st u P = zr 209 25 [v0, .int x1, v2] (.int x1 :: st) u P := zr_Il k209_24 rfl
theorem k209_25 : xcd 209 25 = oPI 11 10 28 := rfl
theorem r209_25 : zr 209 25 [v0, v1, v2] (.int y1 :: .ref b1 :: st) u P = (xIs u b1 11 ∧ zr 209 28 [v0, v1, v2] st (xsI u b1 10 y1) P) := zr_PI k209_25
theorem k209_28 : xcd 209 28 = oAl 0 29 := rfl
theorem r209_28 : zr 209 28 [.ref a0, v1, v2] st u P = zr 209 29 [.ref a0, v1, v2] (.ref a0 :: st) u P := zr_Al k209_28 rfl
theorem k209_29 : xcd 209 29 = oI 0 30 := rfl
theorem r209_29 : zr 209 29 [v0, v1, v2] st u P = zr 209 30 [v0, v1, v2] (.int 0 :: st) u P := zr_I k209_29
theorem k209_30 : xcd 209 30 = oPI 11 9 33 := rfl
theorem r209_30 : zr 209 30 [v0, v1, v2] (.int y1 :: .ref b1 :: st) u P = (xIs u b1 11 ∧ zr 209 33 [v0, v1, v2] st (xsI u b1 9 y1) P) := zr_PI k209_30
theorem k209_33 : xcd 209 33 = oAl 0 34 := rfl
theorem r209_33 : zr 209 33 [.ref a0, v1, v2] st u P = zr 209 34 [.ref a0, v1, v2] (.ref a0 :: st) u P := zr_Al k209_33 rfl
theorem k209_34 : xcd 209 34 = oI 0 35 := rfl
theorem r209_34 : zr 209 34 [v0, v1, v2] st u P = zr 209 35 [v0, v1, v2] (.int 0 :: st) u P := zr_I k209_34
theorem k209_35 : xcd 209 35 = oPI 11 11 38 := rfl
theorem r209_35 : zr 209 35 [v0, v1, v2] (.int y1 :: .ref b1 :: st) u P = (xIs u b1 11 ∧ zr 209 38 [v0, v1, v2] st (xsI u b1 11 y1) P) := zr_PI k209_35
theorem k209_38 : xcd 209 38 = oAl 0 39 := rfl
theorem r209_38 : zr 209 38 [.ref a0, v1, v2] st u P = zr 209 39 [.ref a0, v1, v2] (.ref a0 :: st) u P := zr_Al k209_38 rfl
theorem k209_39 : xcd 209 39 = oI 0 40 := rfl
theorem r209_39 : zr 209 39 [v0, v1, v2] st u P = zr 209 40 [v0, v1, v2] (.int 0 :: st) u P := zr_I k209_39
theorem k209_40 : xcd 209 40 = oPI 11 15 43 := rfl
theorem r209_40 : zr 209 40 [v0, v1, v2] (.int y1 :: .ref b1 :: st) u P = (xIs u b1 11 ∧ zr 209 43 [v0, v1, v2] st (xsI u b1 15 y1) P) := zr_PI k209_40
theorem k209_43 : xcd 209 43 = oAl 0 44 := rfl
theorem r209_43 : zr 209 43 [.ref a0, v1, v2] st u P = zr 209 44 [.ref a0, v1, v2] (.ref a0 :: st) u P := zr_Al k209_43 rfl
theorem k209_44 : xcd 209 44 = oCalV 11 193 0 47 := rfl
theorem r209_44 : zr 209 44 [v0, v1, v2] (.ref b8 :: st) u P = ((xIs u b8 11 ∧ xcat st ≤ 8) ∧ zr 193 0 [.ref b8, .null] [] u (fun r u2 => zr 209 47 [v0, v1, v2] (r.toList ++ st) u2 P)) := zr_CV k209_44 rfl rfl rfl ⟨Nat.le_of_ble_eq_true rfl, Nat.succ_ne_zero _, by decide⟩ rfl
theorem k209_47 : xcd 209 47 = oAl 0 48 := rfl
theorem r209_47 : zr 209 47 [.ref a0, v1, v2] st u P = zr 209 48 [.ref a0, v1, v2] (.ref a0 :: st) u P := zr_Al k209_47 rfl
theorem k209_48 : xcd 209 48 = oGI 11 15 51 := rfl
theorem r209_48 : zr 209 48 [v0, v1, v2] (.ref b1 :: st) u P = (xIs u b1 11 ∧ zr 209 51 [v0, v1, v2] (.int (xI u b1 15) :: st) u P) := zr_GI k209_48
theorem k209_51 : xcd 209 51 = oIf (fun x => decide (x ≤ 0)) 69 54 := rfl
theorem r209_51 : zr 209 51 [v0, v1, v2] (.int y1 :: st) u P = (if y1 ≤ 0 then zr 209 69 [v0, v1, v2] st u P else zr 209 54 [v0, v1, v2] st u P) := zr_If k209_51
theorem k209_54 : xcd 209 54 = oAl 0 55 := rfl
theorem r209_54 : zr 209 54 [.ref a0, v1, v2] st u P = zr 209 55 [.ref a0, v1, v2] (.ref a0 :: st) u P := zr_Al k209_54 rfl
theorem k209_55 : xcd 209 55 = oI 4 56 := rfl
theorem r209_55 : zr 209 55 [v0, v1, v2] st u P = zr 209 56 [v0, v1, v2] (.int 4 :: st) u P := zr_I k209_55
theorem k209_56 : xcd 209 56 = oPI 11 1 59 := rfl
theorem r209_56 : zr 209 56 [v0, v1, v2] (.int y1 :: .ref b1 :: st) u P = (xIs u b1 11 ∧ zr 209 59 [v0, v1, v2] st (xsI u b1 1 y1) P) := zr_PI k209_56
theorem k209_59 : xcd 209 59 = oAl 0 60 := rfl
theorem r209_59 : zr 209 59 [.ref a0, v1, v2] st u P = zr 209 60 [.ref a0, v1, v2] (.ref a0 :: st) u P := zr_Al k209_59 rfl
theorem k209_60 : xcd 209 60 = oAl 0 61 := rfl
theorem r209_60 : zr 209 60 [.ref a0, v1, v2] st u P = zr 209 61 [.ref a0, v1, v2] (.ref a0 :: st) u P := zr_Al k209_60 rfl
theorem k209_61 : xcd 209 61 = oGI 11 13 64 := rfl
theorem r209_61 : zr 209 61 [v0, v1, v2] (.ref b1 :: st) u P = (xIs u b1 11 ∧ zr 209 64 [v0, v1, v2] (.int (xI u b1 13) :: st) u P) := zr_GI k209_61
theorem k209_64 : xcd 209 64 = oPI 11 2 67 := rfl
theorem r209_64 : zr 209 64 [v0, v1, v2] (.int y1 :: .ref b1 :: st) u P = (xIs u b1 11 ∧ zr 209 67 [v0, v1, v2] st (xsI u b1 2 y1) P) := zr_PI k209_64
theorem k209_67 : xcd 209 67 = oI (-1) 68 := rfl
theorem r209_67 : zr 209 67 [v0, v1, v2] st u P = zr 209 68 [v0, v1, v2] (.int (-1) :: st) u P := zr_I k209_67
theorem k209_68 : xcd 209 68 = oRi 0 := rfl
theorem r209_68 : zr 209 68 [v0, v1, v2] [.int y1] u P = P (some (.int y1)) u := zr_Ri k209_68
theorem k209_69 : xcd 209 69 = oAl 0 70 := rfl
theorem r209_69 : zr 209 69 [.ref a0, v1, v2] st u P = zr 209 70 [.ref a0, v1, v2] (.ref a0 :: st) u P := zr_Al k209_69 rfl
theorem k209_70 : xcd 209 70 = oI 1 71 := rfl
theorem r209_70 : zr 209 70 [v0, v1, v2] st u P = zr 209 71 [v0, v1, v2] (.int 1 :: st) u P := zr_I k209_70
theorem k209_71 : xcd 209 71 = oPZ 11 7 74 := rfl
theorem r209_71 : zr 209 71 [v0, v1, v2] (.int y1 :: .ref b1 :: st) u P = ((xIs u b1 11 ∧ (y1 = 0 ∨ y1 = 1)) ∧ zr 209 74 [v0, v1, v2] st (xsI u b1 7 y1) P) := zr_PZ k209_71
theorem k209_74 : xcd 209 74 = oI 0 75 := rfl
theorem r209_74 : zr 209 74 [v0, v1, v2] st u P = zr 209 75 [v0, v1, v2] (.int 0 :: st) u P := zr_I k209_74
theorem k209_75 : xcd 209 75 = oIs 2 76 := rfl
theorem r209_75 : zr 209 75 [v0, .int x1, v2] (.int y1 :: st) u P = zr 209 76 [v0, .int x1, .int y1] st u P := zr_Is k209_75 ⟨Nat.le_of_ble_eq_true rfl, rfl⟩
theorem k209_76 : xcd 209 76 = oIl 2 77 := rfl
theorem r209_76 : zr 209 76 [v0, v1, .int x2] st u P = zr 209 77 [v0, v1, .int x2] (.int x2 :: st) u P := zr_Il k209_76 rfl
theorem k209_77 : xcd 209 77 = oI 402 80 := rfl
theorem r209_77 : zr 209 77 [v0, v1, v2] st u P = zr 209 80 [v0, v1, v2] (.int 402 :: st) u P := zr_I k209_77
theorem k209_80 : xcd 209 80 = oCmp (fun x y => decide (y ≤ x)) 101 83 := rfl
theorem r209_80 : zr 209 80 [v0, v1, v2] (.int y1 :: .int y2 :: st) u P = (if y1 ≤ y2 then zr 209 101 [v0, v1, v2] st u P else zr 209 83 [v0, v1, v2] st u P) := zr_Cmp k209_80
theorem k209_83 : xcd 209 83 = oAl 0 84 := rfl
theorem r209_83 : zr 209 83 [.ref a0, v1, v2] st u P = zr 209 84 [.ref a0, v1, v2] (.ref a0 :: st) u P := zr_Al k209_83 rfl
theorem k209_84 : xcd 209 84 = oGR 11 3 87 := rfl
theorem r209_84 : zr 209 84 [v0, v1, v2] (.ref b1 :: st) u P = (xIs u b1 11 ∧ ∃ b, xR u b1 3 = some b ∧ zr 209 87 [v0, v1, v2] (.ref b :: st) u P) := zr_GR k209_84
theorem k209_87 : xcd 209 87 = oIl 2 88 := rfl
theorem r209_87 : zr 209 87 [v0, v1, .int x2] st u P = zr 209 88 [v0, v1, .int x2] (.int x2 :: st) u P := zr_Il k209_87 rfl
theorem k209_88 : xcd 209 88 = oAl 0 89 := rfl
theorem r209_88 : zr 209 88 [.ref a0, v1, v2] st u P = zr 209 89 [.ref a0, v1, v2] (.ref a0 :: st) u P := zr_Al k209_88 rfl
theorem k209_89 : xcd 209 89 = oGR 11 4 92 := rfl
theorem r209_89 : zr 209 89 [v0, v1, v2] (.ref b1 :: st) u P = (xIs u b1 11 ∧ ∃ b, xR u b1 4 = some b ∧ zr 209 92 [v0, v1, v2] (.ref b :: st) u P) := zr_GR k209_89
theorem k209_92 : xcd 209 92 = oIl 2 93 := rfl
theorem r209_92 : zr 209 92 [v0, v1, .int x2] st u P = zr 209 93 [v0, v1, .int x2] (.int x2 :: st) u P := zr_Il k209_92 rfl
theorem k209_93 : xcd 209 93 = oLd 13 94 := rfl
theorem r209_93 : zr 209 93 [v0, v1, v2] (.int y1 :: .ref b1 :: st) u P = ((xIs u b1 13 ∧ xinb y1 (xN u b1)) ∧ zr 209 94 [v0, v1, v2] (.int (xI u b1 (xix y1)) :: st) u P) := zr_Ld k209_93
theorem k209_94 : xcd 209 94 = oSt 13 (fun x => x) 95 := rfl
theorem r209_94 : zr 209 94 [v0, v1, v2] (.int y2 :: .int y1 :: .ref b1 :: st) u P = ((xIs u b1 13 ∧ xinb y1 (xN u b1)) ∧ zr 209 95 [v0, v1, v2] st (xsI u b1 (xix y1) y2) P) := zr_St k209_94
theorem k209_95 : xcd 209 95 = oInc 2 1 98 := rfl
theorem r209_95 : zr 209 95 [v0, .int x1, .int x2] st u P = zr 209 98 [v0, .int x1, .int (x2 + 1)] st u P := zr_Inc k209_95 rfl rfl
theorem k209_98 : xcd 209 98 = oGoto 76 := rfl
theorem r209_98 : zr 209 98 [v0, v1, v2] st u P = zr 209 76 [v0, v1, v2] st u P := zr_Goto k209_98
theorem k209_101 : xcd 209 101 = oAl 0 102 := rfl
theorem r209_101 : zr 209 101 [.ref a0, v1, v2] st u P = zr 209 102 [.ref a0, v1, v2] (.ref a0 :: st) u P := zr_Al k209_101 rfl
theorem k209_102 : xcd 209 102 = oI 0 103 := rfl
theorem r209_102 : zr 209 102 [v0, v1, v2] st u P = zr 209 103 [v0, v1, v2] (.int 0 :: st) u P := zr_I k209_102
theorem k209_103 : xcd 209 103 = oPI 11 20 106 := rfl
theorem r209_103 : zr 209 103 [v0, v1, v2] (.int y1 :: .ref b1 :: st) u P = (xIs u b1 11 ∧ zr 209 106 [v0, v1, v2] st (xsI u b1 20 y1) P) := zr_PI k209_103
theorem k209_106 : xcd 209 106 = oAl 0 107 := rfl
theorem r209_106 : zr 209 106 [.ref a0, v1, v2] st u P = zr 209 107 [.ref a0, v1, v2] (.ref a0 :: st) u P := zr_Al k209_106 rfl
theorem k209_107 : xcd 209 107 = oI 0 108 := rfl
theorem r209_107 : zr 209 107 [v0, v1, v2] st u P = zr 209 108 [v0, v1, v2] (.int 0 :: st) u P := zr_I k209_107
theorem k209_108 : xcd 209 108 = oPI 11 31 111 := rfl
theorem r209_108 : zr 209 108 [v0, v1, v2] (.int y1 :: .ref b1 :: st) u P = (xIs u b1 11 ∧ zr 209 111 [v0, v1, v2] st (xsI u b1 31 y1) P) := zr_PI k209_108
theorem k209_111 : xcd 209 111 = oAl 0 112 := rfl
theorem r209_111 : zr 209 111 [.ref a0, v1, v2] st u P = zr 209 112 [.ref a0, v1, v2] (.ref a0 :: st) u P := zr_Al k209_111 rfl
theorem k209_112 : xcd 209 112 = oI 0 113 := rfl
theorem r209_112 : zr 209 112 [v0, v1, v2] st u P = zr 209 113 [v0, v1, v2] (.int 0 :: st) u P := zr_I k209_112
theorem k209_113 : xcd 209 113 = oPI 11 27 116 := rfl
theorem r209_113 : zr 209 113 [v0, v1, v2] (.int y1 :: .ref b1 :: st) u P = (xIs u b1 11 ∧ zr 209 116 [v0, v1, v2] st (xsI u b1 27 y1) P) := zr_PI k209_113
theorem k209_116 : xcd 209 116 = oAl 0 117 := rfl
theorem r209_116 : zr 209 116 [.ref a0, v1, v2] st u P = zr 209 117 [.ref a0, v1, v2] (.ref a0 :: st) u P := zr_Al k209_116 rfl
theorem k209_117 : xcd 209 117 = oAl 0 118 := rfl
theorem r209_117 : zr 209 117 [.ref a0, v1, v2] st u P = zr 209 118 [.ref a0, v1, v2] (.ref a0 :: st) u P := zr_Al k209_117 rfl
theorem k209_118 : xcd 209 118 = oGR 11 3 121 := rfl
theorem r209_118 : zr 209 118 [v0, v1, v2] (.ref b1 :: st) u P = (xIs u b1 11 ∧ ∃ b, xR u b1 3 = some b ∧ zr 209 121 [v0, v1, v2] (.ref b :: st) u P) := zr_GR k209_118
theorem k209_121 : xcd 209 121 = oI 3 122 := rfl
theorem r209_121 : zr 209 121 [v0, v1, v2] st u P = zr 209 122 [v0, v1, v2] (.int 3 :: st) u P := zr_I k209_121
theorem k209_122 : xcd 209 122 = oLd 13 123 := rfl
theorem r209_122 : zr 209 122 [v0, v1, v2] (.int y1 :: .ref b1 :: st) u P = ((xIs u b1 13 ∧ xinb y1 (xN u b1)) ∧ zr 209 123 [v0, v1, v2] (.int (xI u b1 (xix y1)) :: st) u P) := zr_Ld k209_122
theorem k209_123 : xcd 209 123 = oCalV 11 174 1 126 := rfl
theorem r209_123 : zr 209 123 [v0, v1, v2] (.int y1 :: .ref b8 :: st) u P = ((xIs u b8 11 ∧ xcat st ≤ 8) ∧ zr 174 0 [.ref b8, .int y1] [] u (fun r u2 => zr 209 126 [v0, v1, v2] (r.toList ++ st) u2 P)) := zr_CV k209_123 rfl rfl rfl ⟨Nat.le_of_ble_eq_true rfl, Nat.succ_ne_zero _, by decide⟩ rfl
theorem k209_126 : xcd 209 126 = oRi 0 := rfl
theorem r209_126 : zr 209 126 [v0, v1, v2] [.int y1] u P = P (some (.int y1)) u := zr_Ri k209_126
theorem k210_0 : xcd 210 0 = oAl 0 1 := rfl
theorem r210_0 : zr 210 0 [.ref a0] st u P = zr 210 1 [.ref a0] (.ref a0 :: st) u P := zr_Al k210_0 rfl
theorem k210_1 : xcd 210 1 = oI 0 2 := rfl
theorem r210_1 : zr 210 1 [v0] st u P = zr 210 2 [v0] (.int 0 :: st) u P := zr_I k210_1
theorem k210_2 : xcd 210 2 = oPI 11 0 5 := rfl
theorem r210_2 : zr 210 2 [v0] (.int y1 :: .ref b1 :: st) u P = (xIs u b1 11 ∧ zr 210 5 [v0] st (xsI u b1 0 y1) P) := zr_PI k210_2
theorem k210_5 : xcd 210 5 = oAl 0 6 := rfl
theorem r210_5 : zr 210 5 [.ref a0] st u P = zr 210 6 [.ref a0] (.ref a0 :: st) u P := zr_Al k210_5 rfl
theorem k210_6 : xcd 210 6 = oGI 11 15 9 := rfl
theorem r210_6 : zr 210 6 [v0] (.ref b1 :: st) u P = (xIs u b1 11 ∧ zr 210 9 [v0] (.int (xI u b1 15) :: st) u P) := zr_GI k210_6
theorem k210_9 : xcd 210 9 = oRi 0 := rfl
theorem r210_9 : zr 210 9 [v0] [.int y1] u P = P (some (.int y1)) u := zr_Ri k210_9
theorem k211_0 : xcd 211 0 = oAl 0 1 := rfl
theorem r211_0 : zr 211 0 [.ref a0] st u P = zr 211 1 [.ref a0] (.ref a0 :: st) u P := zr_Al k211_0 rfl
theorem k211_1 : xcd 211 1 = oI 0 2 := rfl
theorem r211_1 : zr 211 1 [v0] st u P = zr 211 2 [v0] (.int 0 :: st) u P := zr_I k211_1
theorem k211_2 : xcd 211 2 = oPI 11 0 5 := rfl
theorem r211_2 : zr 211 2 [v0] (.int y1 :: .ref b1 :: st) u P = (xIs u b1 11 ∧ zr 211 5 [v0] st (xsI u b1 0 y1) P) := zr_PI k211_2
theorem k211_5 : xcd 211 5 = oAl 0 6 := rfl
theorem r211_5 : zr 211 5 [.ref a0] st u P = zr 211 6 [.ref a0] (.ref a0 :: st) u P := zr_Al k211_5 rfl
theorem k211_6 : xcd 211 6 = oGI 11 2 9 := rfl
theorem r211_6 : zr 211 6 [v0] (.ref b1 :: st) u P = (xIs u b1 11 ∧ zr 211 9 [v0] (.int (xI u b1 2) :: st) u P) := zr_GI k211_6
theorem k211_9 : xcd 211 9 = oRi 0 := rfl
theorem r211_9 : zr 211 9 [v0] [.int y1] u P = P (some (.int y1)) u := zr_Ri k211_9
theorem k212_0 : xcd 212 0 = oAl 0 1 := rfl
theorem r212_0 : zr 212 0 [.ref a0, v1] st u P = zr 212 1 [.ref a0, v1] (.ref a0 :: st) u P := zr_Al k212_0 rfl
theorem k212_1 : xcd 212 1 = oI 0 2 := rfl
theorem r212_1 : zr 212 1 [v0, v1] st u P = zr 212 2 [v0, v1] (.int 0 :: st) u P := zr_I k212_1
theorem k212_2 : xcd 212 2 = oPI 11 0 5 := rfl
theorem r212_2 : zr 212 2 [v0, v1] (.int y1 :: .ref b1 :: st) u P = (xIs u b1 11 ∧ zr 212 5 [v0, v1] st (xsI u b1 0 y1) P) := zr_PI k212_2
theorem k212_5 : xcd 212 5 = oAl 0 6 := rfl
theorem r212_5 : zr 212 5 [.ref a0, v1] st u P = zr 212 6 [.ref a0, v1] (.ref a0 :: st) u P := zr_Al k212_5 rfl
theorem k212_6 : xcd 212 6 = oGI 11 7 9 := rfl
theorem r212_6 : zr 212 6 [v0, v1] (.ref b1 :: st) u P = (xIs u b1 11 ∧ zr 212 9 [v0, v1] (.int (xI u b1 7) :: st) u P) := zr_GI k212_6
theorem k212_9 : xcd 212 9 = oIf (fun x => decide (x = 0)) 22 12 := rfl
theorem r212_9 : zr 212 9 [v0, v1] (.int y1 :: st) u P = (if y1 = 0 then zr 212 22 [v0, v1] st u P else zr 212 12 [v0, v1] st u P) := zr_If k212_9
theorem k212_12 : xcd 212 12 = oIl 1 13 := rfl
theorem r212_12 : zr 212 12 [v0, .int x1] st u P = zr 212 13 [v0, .int x1] (.int x1 :: st) u P := zr_Il k212_12 rfl
theorem k212_13 : xcd 212 13 = oI 0 14 := rfl
theorem r212_13 : zr 212 13 [v0, v1] st u P = zr 212 14 [v0, v1] (.int 0 :: st) u P := zr_I k212_13
theorem k212_14 : xcd 212 14 = oI 8 16 := rfl
theorem r212_14 : zr 212 14 [v0, v1] st u P = zr 212 16 [v0, v1] (.int 8 :: st) u P := zr_I k212_14
theorem k212_16 : xcd 212 16 = oCal 175 3 19 := rfl
theorem r212_16 : zr 212 16 [v0, v1] (.int y3 :: .int y2 :: .int y1 :: st) u P = (xcat st ≤ 8 ∧ zr 175 0 [.int y1, .int y2, .int y3] [] u (fun r u2 => zr 212 19 [v0, v1] (r.toList ++ st) u2 P)) := zr_CS k212_16 (Nat.le_add_left _ _) rfl rfl ⟨Nat.le_of_ble_eq_true rfl, Nat.succ_ne_zero _, by decide⟩ rfl
theorem k212_19 : xcd 212 19 = oIf (fun x => decide (¬ x = 0)) 28 22 := rfl
theorem r212_19 : zr 212 19 [v0, v1] (.int y1 :: st) u P = (if ¬ y1 = 0 then zr 212 28 [v0, v1] st u P else zr 212 22 [v0, v1] st u P) := zr_If k212_19
theorem k212_22 : xcd 212 22 = oAl 0 23 := rfl
theorem r212_22 : zr 212 22 [.ref a0, v1] st u P = zr 212 23 [.ref a0, v1] (.ref a0 :: st) u P := zr_Al k212_22 rfl
theorem k212_23 : xcd 212 23 = oI 1 24 := rfl
theorem r212_23 : zr 212 23 [v0, v1] st u P = zr 212 24 [v0, v1] (.int 1 :: st) u P := zr_I k212_23
theorem k212_24 : xcd 212 24 = oCalV 11 172 1 27 := rfl
theorem r212_24 : zr 212 24 [v0, v1] (.int y1 :: .ref b8 :: st) u P = ((xIs u b8 11 ∧ xcat st ≤ 8) ∧ zr 172 0 [.ref b8, .int y1] [] u (fun r u2 => zr 212 27 [v0, v1] (r.toList ++ st) u2 P)) := zr_CV k212_24 rfl rfl rfl ⟨Nat.le_of_ble_eq_true rfl, Nat.succ_ne_zero _, by decide⟩ rfl
theorem k212_27 : xcd 212 27 = oRi 0 := rfl
theorem r212_27 : zr 212 27 [v0, v1] [.int y1] u P = P (some (.int y1)) u := zr_Ri k212_27
theorem k212_28 : xcd 212 28 = oAl 0 29 := rfl
theorem r212_28 : zr 212 28 [.ref a0, v1] st u P = zr 212 29 [.ref a0, v1] (.ref a0 :: st) u P := zr_Al k212_28 rfl
theorem k212_29 : xcd 212 29 = oIl 1 30 := rfl
theorem r212_29 : zr 212 29 [v0, .int x1] st u P = zr 212 30 [v0, .int x1] (.int x1 :: st) u P := zr_Il k212_29 rfl
theorem k212_30 : xcd 212 30 = oI 8 32 := rfl
theorem r212_30 : zr 212 30 [v0, v1] st u P = zr 212 32 [v0, v1] (.int 8 :: st) u P := zr_I k212_30
theorem k212_32 : xcd 212 32 = oCmp (fun x y => decide (¬ x = y)) 42 35 := rfl
theorem r212_32 : zr 212 32 [v0, v1] (.int y1 :: .int y2 :: st) u P = (if ¬ y2 = y1 then zr 212 42 [v0, v1] st u P else zr 212 35 [v0, v1] st u P) := zr_Cmp k212_32
theorem k212_35 : xcd 212 35 = oAl 0 36 := rfl
theorem r212_35 : zr 212 35 [.ref a0, v1] st u P = zr 212 36 [.ref a0, v1] (.ref a0 :: st) u P := zr_Al k212_35 rfl
theorem k212_36 : xcd 212 36 = oGI 11 20 39 := rfl
theorem r212_36 : zr 212 36 [v0, v1] (.ref b1 :: st) u P = (xIs u b1 11 ∧ zr 212 39 [v0, v1] (.int (xI u b1 20) :: st) u P) := zr_GI k212_36
theorem k212_39 : xcd 212 39 = oGoto 48 := rfl
theorem r212_39 : zr 212 39 [v0, v1] st u P = zr 212 48 [v0, v1] st u P := zr_Goto k212_39
theorem k212_42 : xcd 212 42 = oAl 0 43 := rfl
theorem r212_42 : zr 212 42 [.ref a0, v1] st u P = zr 212 43 [.ref a0, v1] (.ref a0 :: st) u P := zr_Al k212_42 rfl
theorem k212_43 : xcd 212 43 = oGR 11 3 46 := rfl
theorem r212_43 : zr 212 43 [v0, v1] (.ref b1 :: st) u P = (xIs u b1 11 ∧ ∃ b, xR u b1 3 = some b ∧ zr 212 46 [v0, v1] (.ref b :: st) u P) := zr_GR k212_43
theorem k212_46 : xcd 212 46 = oIl 1 47 := rfl
theorem r212_46 : zr 212 46 [v0, .int x1] st u P = zr 212 47 [v0, .int x1] (.int x1 :: st) u P := zr_Il k212_46 rfl
theorem k212_47 : xcd 212 47 = oLd 13 48 := rfl
theorem r212_47 : zr 212 47 [v0, v1] (.int y1 :: .ref b1 :: st) u P = ((xIs u b1 13 ∧ xinb y1 (xN u b1)) ∧ zr 212 48 [v0, v1] (.int (xI u b1 (xix y1)) :: st) u P) := zr_Ld k212_47
theorem k212_48 : xcd 212 48 = oCalV 11 174 1 51 := rfl
theorem r212_48 : zr 212 48 [v0, v1] (.int y1 :: .ref b8 :: st) u P = ((xIs u b8 11 ∧ xcat st ≤ 8) ∧ zr 174 0 [.ref b8, .int y1] [] u (fun r u2 => zr 212 51 [v0, v1] (r.toList ++ st) u2 P)) := zr_CV k212_48 rfl rfl rfl ⟨Nat.le_of_ble_eq_true rfl, Nat.succ_ne_zero _, by decide⟩ rfl
theorem k212_51 : xcd 212 51 = oRi 0 := rfl
theorem r212_51 : zr 212 51 [v0, v1] [.int y1] u P = P (some (.int y1)) u := zr_Ri k212_51
theorem k213_0 : xcd 213 0 = oAl 0 1 := rfl
theorem r213_0 : zr 213 0 [.ref a0, v1] st u P = zr 213 1 [.ref a0, v1] (.ref a0 :: st) u P := zr_Al k213_0 rfl
theorem k213_1 : xcd 213 1 = oGI 11 7 4 := rfl
theorem r213_1 : zr 213 1 [v0, v1] (.ref b1 :: st) u P = (xIs u b1 11 ∧ zr 213 4 [v0, v1] (.int (xI u b1 7) :: st) u P) := zr_GI k213_1
theorem k213_4 : xcd 213 4 = oIf (fun x => decide (x = 0)) 27 7 := rfl
theorem r213_4 : zr 213 4 [v0, v1] (.int y1 :: st) u P = (if y1 = 0 then zr 213 27 [v0, v1] st u P else zr 213 7 [v0, v1] st u P) := zr_If k213_4
theorem k213_7 : xcd 213 7 = oIl 1 8 := rfl
theorem r213_7 : zr 213 7 [v0, .int x1] st u P = zr 213 8 [v0, .int x1] (.int x1 :: st) u P := zr_Il k213_7 rfl
theorem k213_8 : xcd 213 8 = oI 0 9 := rfl
theorem r213_8 : zr 213 8 [v0, v1] st u P = zr 213 9 [v0, v1] (.int 0 :: st) u P := zr_I k213_8
theorem k213_9 : xcd 213 9 = oAl 0 10 := rfl
theorem r213_9 : zr 213 9 [.ref a0, v1] st u P = zr 213 10 [.ref a0, v1] (.ref a0 :: st) u P := zr_Al k213_9 rfl
theorem k213_10 : xcd 213 10 = oGR 11 3 13 := rfl
theorem r213_10 : zr 213 10 [v0, v1] (.ref b1 :: st) u P = (xIs u b1 11 ∧ ∃ b, xR u b1 3 = some b ∧ zr 213 13 [v0, v1] (.ref b :: st) u P) := zr_GR k213_10
theorem k213_13 : xcd 213 13 = oI 2 14 := rfl
theorem r213_13 : zr 213 13 [v0, v1] st u P = zr 213 14 [v0, v1] (.int 2 :: st) u P := zr_I k213_13
theorem k213_14 : xcd 213 14 = oLd 13 15 := rfl
theorem r213_14 : zr 213 14 [v0, v1] (.int y1 :: .ref b1 :: st) u P = ((xIs u b1 13 ∧ xinb y1 (xN u b1)) ∧ zr 213 15 [v0, v1] (.int (xI u b1 (xix y1)) :: st) u P) := zr_Ld k213_14
theorem k213_15 : xcd 213 15 = oI 1 16 := rfl
theorem r213_15 : zr 213 15 [v0, v1] st u P = zr 213 16 [v0, v1] (.int 1 :: st) u P := zr_I k213_15
theorem k213_16 : xcd 213 16 = oB (fun x y => x - y) 17 := rfl
theorem r213_16 : zr 213 16 [v0, v1] (.int y1 :: .int y2 :: st) u P = zr 213 17 [v0, v1] (.int (y2 - y1) :: st) u P := zr_B k213_16
theorem k213_17 : xcd 213 17 = oCal 175 3 20 := rfl
theorem r213_17 : zr 213 17 [v0, v1] (.int y3 :: .int y2 :: .int y1 :: st) u P = (xcat st ≤ 8 ∧ zr 175 0 [.int y1, .int y2, .int y3] [] u (fun r u2 => zr 213 20 [v0, v1] (r.toList ++ st) u2 P)) := zr_CS k213_17 (Nat.le_add_left _ _) rfl rfl ⟨Nat.le_of_ble_eq_true rfl, Nat.succ_ne_zero _, by decide⟩ rfl
theorem k213_20 : xcd 213 20 = oIf (fun x => decide (x = 0)) 27 23 := rfl
theorem r213_20 : zr 213 20 [v0, v1] (.int y1 :: st) u P = (if y1 = 0 then zr 213 27 [v0, v1] st u P else zr 213 23 [v0, v1] st u P) := zr_If k213_20
theorem k213_23 : xcd 213 23 = oI 1 24 := rfl
theorem r213_23 : zr 213 23 [v0, v1] st u P = zr 213 24 [v0, v1] (.int 1 :: st) u P := zr_I k213_23
theorem k213_24 : xcd 213 24 = oGoto 28 := rfl
theorem r213_24 : zr 213 24 [v0, v1] st u P = zr 213 28 [v0, v1] st u P := zr_Goto k213_24
theorem k213_27 : xcd 213 27 = oI 0 28 := rfl
theorem r213_27 : zr 213 27 [v0, v1] st u P = zr 213 28 [v0, v1] (.int 0 :: st) u P := zr_I k213_27
theorem k213_28 : xcd 213 28 = oRz 0 := rfl
theorem r213_28 : zr 213 28 [v0, v1] [.int y1] u P = ((y1 = 0 ∨ y1 = 1) ∧ P (some (.int y1)) u) := zr_Rz k213_28
theorem k214_0 : xcd 214 0 = oAl 0 1 := rfl
theorem r214_0 : zr 214 0 [.ref a0, v1] st u P = zr 214 1 [.ref a0, v1] (.ref a0 :: st) u P := zr_Al k214_0 rfl
theorem k214_1 : xcd 214 1 = oGI 11 7 4 := rfl
theorem r214_1 : zr 214 1 [v0, v1] (.ref b1 :: st) u P = (xIs u b1 11 ∧ zr 214 4 [v0, v1] (.int (xI u b1 7) :: st) u P) := zr_GI k214_1
theorem k214_4 : xcd 214 4 = oIf (fun x => decide (x = 0)) 27 7 := rfl
theorem r214_4 : zr 214 4 [v0, v1] (.int y1 :: st) u P = (if y1 = 0 then zr 214 27 [v0, v1] st u P else zr 214 7 [v0, v1] st u P) := zr_If k214_4
theorem k214_7 : xcd 214 7 = oIl 1 8 := rfl
theorem r214_7 : zr 214 7 [v0, .int x1] st u P = zr 214 8 [v0, .int x1] (.int x1 :: st) u P := zr_Il k214_7 rfl
theorem k214_8 : xcd 214 8 = oI 0 9 := rfl
theorem r214_8 : zr 214 8 [v0, v1] st u P = zr 214 9 [v0, v1] (.int 0 :: st) u P := zr_I k214_8
theorem k214_9 : xcd 214 9 = oAl 0 10 := rfl
theorem r214_9 : zr 214 9 [.ref a0, v1] st u P = zr 214 10 [.ref a0, v1] (.ref a0 :: st) u P := zr_Al k214_9 rfl
theorem k214_10 : xcd 214 10 = oGR 11 3 13 := rfl
theorem r214_10 : zr 214 10 [v0, v1] (.ref b1 :: st) u P = (xIs u b1 11 ∧ ∃ b, xR u b1 3 = some b ∧ zr 214 13 [v0, v1] (.ref b :: st) u P) := zr_GR k214_10
theorem k214_13 : xcd 214 13 = oI 3 14 := rfl
theorem r214_13 : zr 214 13 [v0, v1] st u P = zr 214 14 [v0, v1] (.int 3 :: st) u P := zr_I k214_13
theorem k214_14 : xcd 214 14 = oLd 13 15 := rfl
theorem r214_14 : zr 214 14 [v0, v1] (.int y1 :: .ref b1 :: st) u P = ((xIs u b1 13 ∧ xinb y1 (xN u b1)) ∧ zr 214 15 [v0, v1] (.int (xI u b1 (xix y1)) :: st) u P) := zr_Ld k214_14
theorem k214_15 : xcd 214 15 = oI 1 16 := rfl
theorem r214_15 : zr 214 15 [v0, v1] st u P = zr 214 16 [v0, v1] (.int 1 :: st) u P := zr_I k214_15
theorem k214_16 : xcd 214 16 = oB (fun x y => x - y) 17 := rfl
theorem r214_16 : zr 214 16 [v0, v1] (.int y1 :: .int y2 :: st) u P = zr 214 17 [v0, v1] (.int (y2 - y1) :: st) u P := zr_B k214_16
theorem k214_17 : xcd 214 17 = oCal 175 3 20 := rfl
theorem r214_17 : zr 214 17 [v0, v1] (.int y3 :: .int y2 :: .int y1 :: st) u P = (xcat st ≤ 8 ∧ zr 175 0 [.int y1, .int y2, .int y3] [] u (fun r u2 => zr 214 20 [v0, v1] (r.toList ++ st) u2 P)) := zr_CS k214_17 (Nat.le_add_left _ _) rfl rfl ⟨Nat.le_of_ble_eq_true rfl, Nat.succ_ne_zero _, by decide⟩ rfl
theorem k214_20 : xcd 214 20 = oIf (fun x => decide (x = 0)) 27 23 := rfl
theorem r214_20 : zr 214 20 [v0, v1] (.int y1 :: st) u P = (if y1 = 0 then zr 214 27 [v0, v1] st u P else zr 214 23 [v0, v1] st u P) := zr_If k214_20
theorem k214_23 : xcd 214 23 = oI 1 24 := rfl
theorem r214_23 : zr 214 23 [v0, v1] st u P = zr 214 24 [v0, v1] (.int 1 :: st) u P := zr_I k214_23
theorem k214_24 : xcd 214 24 = oGoto 28 := rfl
theorem r214_24 : zr 214 24 [v0, v1] st u P = zr 214 28 [v0, v1] st u P := zr_Goto k214_24
theorem k214_27 : xcd 214 27 = oI 0 28 := rfl
theorem r214_27 : zr 214 27 [v0, v1] st u P = zr 214 28 [v0, v1] (.int 0 :: st) u P := zr_I k214_27
theorem k214_28 : xcd 214 28 = oRz 0 := rfl
theorem r214_28 : zr 214 28 [v0, v1] [.int y1] u P = ((y1 = 0 ∨ y1 = 1) ∧ P (some (.int y1)) u) := zr_Rz k214_28
theorem k215_0 : xcd 215 0 = oAl 0 1 := rfl
theorem r215_0 : zr 215 0 [.ref a0, v1] st u P = zr 215 1 [.ref a0, v1] (.ref a0 :: st) u P := zr_Al k215_0 rfl
theorem k215_1 : xcd 215 1 = oI 0 2 := rfl
theorem r215_1 : zr 215 1 [v0, v1] st u P = zr 215 2 [v0, v1] (.int 0 :: st) u P := zr_I k215_1
theorem k215_2 : xcd 215 2 = oPI 11 0 5 := rfl
theorem r215_2 : zr 215 2 [v0, v1] (.int y1 :: .ref b1 :: st) u P = (xIs u b1 11 ∧ zr 215 5 [v0, v1] st (xsI u b1 0 y1) P) := zr_PI k215_2
theorem k215_5 : xcd 215 5 = oAl 0 6 := rfl
theorem r215_5 : zr 215 5 [.ref a0, v1] st u P = zr 215 6 [.ref a0, v1] (.ref a0 :: st) u P := zr_Al k215_5 rfl
theorem k215_6 : xcd 215 6 = oIl 1 7 := rfl
theorem r215_6 : zr 215 6 [v0, .int x1] st u P = zr 215 7 [v0, .int x1] (.int x1 :: st) u P := zr_Il k215_6 rfl
theorem k215_7 : xcd 215 7 = oCalV 11 213 1 10 := rfl
theorem r215_7 : zr 215 7 [v0, v1] (.int y1 :: .ref b8 :: st) u P = ((xIs u b8 11 ∧ xcat st ≤ 8) ∧ zr 213 0 [.ref b8, .int y1] [] u (fun r u2 => zr 215 10 [v0, v1] (r.toList ++ st) u2 P)) := zr_CV k215_7 rfl rfl rfl ⟨Nat.le_of_ble_eq_true rfl, Nat.succ_ne_zero _, by decide⟩ rfl
theorem k215_10 : xcd 215 10 = oIf (fun x => decide (x = 0)) 29 13 := rfl
theorem r215_10 : zr 215 10 [v0, v1] (.int y1 :: st) u P = (if y1 = 0 then zr 215 29 [v0, v1] st u P else zr 215 13 [v0, v1] st u P) := zr_If k215_10
theorem k215_13 : xcd 215 13 = oAl 0 14 := rfl
theorem r215_13 : zr 215 13 [.ref a0, v1] st u P = zr 215 14 [.ref a0, v1] (.ref a0 :: st) u P := zr_Al k215_13 rfl
theorem k215_14 : xcd 215 14 = oAl 0 15 := rfl
theorem r215_14 : zr 215 14 [.ref a0, v1] st u P = zr 215 15 [.ref a0, v1] (.ref a0 :: st) u P := zr_Al k215_14 rfl
theorem k215_15 : xcd 215 15 = oGR 11 3 18 := rfl
theorem r215_15 : zr 215 15 [v0, v1] (.ref b1 :: st) u P = (xIs u b1 11 ∧ ∃ b, xR u b1 3 = some b ∧ zr 215 18 [v0, v1] (.ref b :: st) u P) := zr_GR k215_15
theorem k215_18 : xcd 215 18 = oI 8 20 := rfl
theorem r215_18 : zr 215 18 [v0, v1] st u P = zr 215 20 [v0, v1] (.int 8 :: st) u P := zr_I k215_18
theorem k215_20 : xcd 215 20 = oIl 1 21 := rfl
theorem r215_20 : zr 215 20 [v0, .int x1] st u P = zr 215 21 [v0, .int x1] (.int x1 :: st) u P := zr_Il k215_20 rfl
theorem k215_21 : xcd 215 21 = oB (fun x y => x + y) 22 := rfl
theorem r215_21 : zr 215 21 [v0, v1] (.int y1 :: .int y2 :: st) u P = zr 215 22 [v0, v1] (.int (y2 + y1) :: st) u P := zr_B k215_21
theorem k215_22 : xcd 215 22 = oLd 13 23 := rfl
theorem r215_22 : zr 215 22 [v0, v1] (.int y1 :: .ref b1 :: st) u P = ((xIs u b1 13 ∧ xinb y1 (xN u b1)) ∧ zr 215 23 [v0, v1] (.int (xI u b1 (xix y1)) :: st) u P) := zr_Ld k215_22
theorem k215_23 : xcd 215 23 = oCalV 11 174 1 26 := rfl
theorem r215_23 : zr 215 23 [v0, v1] (.int y1 :: .ref b8 :: st) u P = ((xIs u b8 11 ∧ xcat st ≤ 8) ∧ zr 174 0 [.ref b8, .int y1] [] u (fun r u2 => zr 215 26 [v0, v1] (r.toList ++ st) u2 P)) := zr_CV k215_23 rfl rfl rfl ⟨Nat.le_of_ble_eq_true rfl, Nat.succ_ne_zero _, by decide⟩ rfl
theorem k215_26 : xcd 215 26 = oGoto 34 := rfl
theorem r215_26 : zr 215 26 [v0, v1] st u P = zr 215 34 [v0, v1] st u P := zr_Goto k215_26
theorem k215_29 : xcd 215 29 = oAl 0 30 := rfl
theorem r215_29 : zr 215 29 [.ref a0, v1] st u P = zr 215 30 [.ref a0, v1] (.ref a0 :: st) u P := zr_Al k215_29 rfl
theorem k215_30 : xcd 215 30 = oI 1 31 := rfl
theorem r215_30 : zr 215 30 [v0, v1] st u P = zr 215 31 [v0, v1] (.int 1 :: st) u P := zr_I k215_30
theorem k215_31 : xcd 215 31 = oCalV 11 172 1 34 := rfl
theorem r215_31 : zr 215 31 [v0, v1] (.int y1 :: .ref b8 :: st) u P = ((xIs u b8 11 ∧ xcat st ≤ 8) ∧ zr 172 0 [.ref b8, .int y1] [] u (fun r u2 => zr 215 34 [v0, v1] (r.toList ++ st) u2 P)) := zr_CV k215_31 rfl rfl rfl ⟨Nat.le_of_ble_eq_true rfl, Nat.succ_ne_zero _, by decide⟩ rfl
theorem k215_34 : xcd 215 34 = oRi 0 := rfl
theorem r215_34 : zr 215 34 [v0, v1] [.int y1] u P = P (some (.int y1)) u := zr_Ri k215_34
theorem k216_0 : xcd 216 0 = oAl 0 1 := rfl
theorem r216_0 : zr 216 0 [.ref a0, v1, v2] st u P = zr 216 1 [.ref a0, v1, v2] (.ref a0 :: st) u P := zr_Al k216_0 rfl
theorem k216_1 : xcd 216 1 = oI 0 2 := rfl
theorem r216_1 : zr 216 1 [v0, v1, v2] st u P = zr 216 2 [v0, v1, v2] (.int 0 :: st) u P := zr_I k216_1
theorem k216_2 : xcd 216 2 = oPI 11 0 5 := rfl
theorem r216_2 : zr 216 2 [v0, v1, v2] (.int y1 :: .ref b1 :: st) u P = (xIs u b1 11 ∧ zr 216 5 [v0, v1, v2] st (xsI u b1 0 y1) P) := zr_PI k216_2
theorem k216_5 : xcd 216 5 = oAl 0 6 := rfl
theorem r216_5 : zr 216 5 [.ref a0, v1, v2] st u P = zr 216 6 [.ref a0, v1, v2] (.ref a0 :: st) u P := zr_Al k216_5 rfl
theorem k216_6 : xcd 216 6 = oIl 1 7 := rfl
theorem r216_6 : zr 216 6 [v0, .int x1, v2] st u P = zr 216 7 [v0, .int x1, v2] (.int x1 :: st) u P := zr_Il k216_6 rfl
theorem k216_7 : xcd 216 7 = oCalV 11 214 1 10 := rfl
theorem r216_7 : zr 216 7 [v0, v1, v2] (.int y1 :: .ref b8 :: st) u P = ((xIs u b8 11 ∧ xcat st ≤ 8) ∧ zr 214 0 [.ref b8, .int y1] [] u (fun r u2 => zr 216 10 [v0, v1, v2] (r.toList ++ st) u2 P)) := zr_CV k216_7 rfl rfl rfl ⟨Nat.le_of_ble_eq_true rfl, Nat.succ_ne_zero _, by decide⟩ rfl
theorem k216_10 : xcd 216 10 = oIf (fun x => decide (x = 0)) 22 13 := rfl
theorem r216_10 : zr 216 10 [v0, v1, v2] (.int y1 :: st) u P = (if y1 = 0 then zr 216 22 [v0, v1, v2] st u P else zr 216 13 [v0, v1, v2] st u P) := zr_If k216_10
theorem k216_13 : xcd 216 13 = oIl 2 14 := rfl
theorem r216_13 : zr 216 13 [v0, v1, .int x2] st u P = zr 216 14 [v0, v1, .int x2] (.int x2 :: st) u P := zr_Il k216_13 rfl
theorem k216_14 : xcd 216 14 = oI 0 15 := rfl
theorem r216_14 : zr 216 14 [v0, v1, v2] st u P = zr 216 15 [v0, v1, v2] (.int 0 :: st) u P := zr_I k216_14
theorem k216_15 : xcd 216 15 = oI 2 16 := rfl
theorem r216_15 : zr 216 15 [v0, v1, v2] st u P = zr 216 16 [v0, v1, v2] (.int 2 :: st) u P := zr_I k216_15
theorem k216_16 : xcd 216 16 = oCal 175 3 19 := rfl
theorem r216_16 : zr 216 16 [v0, v1, v2] (.int y3 :: .int y2 :: .int y1 :: st) u P = (xcat st ≤ 8 ∧ zr 175 0 [.int y1, .int y2, .int y3] [] u (fun r u2 => zr 216 19 [v0, v1, v2] (r.toList ++ st) u2 P)) := zr_CS k216_16 (Nat.le_add_left _ _) rfl rfl ⟨Nat.le_of_ble_eq_true rfl, Nat.succ_ne_zero _, by decide⟩ rfl
theorem k216_19 : xcd 216 19 = oIf (fun x => decide (¬ x = 0)) 28 22 := rfl
theorem r216_19 : zr 216 19 [v0, v1, v2] (.int y1 :: st) u P = (if ¬ y1 = 0 then zr 216 28 [v0, v1, v2] st u P else zr 216 22 [v0, v1, v2] st u P) := zr_If k216_19
theorem k216_22 : xcd 216 22 = oAl 0 23 := rfl
theorem r216_22 : zr 216 22 [.ref a0, v1, v2] st u P = zr 216 23 [.ref a0, v1, v2] (.ref a0 :: st) u P := zr_Al k216_22 rfl
theorem k216_23 : xcd 216 23 = oI 1 24 := rfl
theorem r216_23 : zr 216 23 [v0, v1, v2] st u P = zr 216 24 [v0, v1, v2] (.int 1 :: st) u P := zr_I k216_23
theorem k216_24 : xcd 216 24 = oCalV 11 172 1 27 := rfl
theorem r216_24 : zr 216 24 [v0, v1, v2] (.int y1 :: .ref b8 :: st) u P = ((xIs u b8 11 ∧ xcat st ≤ 8) ∧ zr 172 0 [.ref b8, .int y1] [] u (fun r u2 => zr 216 27 [v0, v1, v2] (r.toList ++ st) u2 P)) := zr_CV k216_24 rfl rfl rfl ⟨Nat.le_of_ble_eq_true rfl, Nat.succ_ne_zero _, by decide⟩ rfl
theorem k216_27 : xcd 216 27 = oRi 0 := rfl
theorem r216_27 : zr 216 27 [v0, v1, v2] [.int y1] u P = P (some (.int y1)) u := zr_Ri k216_27
theorem k216_28 : xcd 216 28 = oAl 0 29 := rfl
theorem r216_28 : zr 216 28 [.ref a0, v1, v2] st u P = zr 216 29 [.ref a0, v1, v2] (.ref a0 :: st) u P := zr_Al k216_28 rfl
theorem k216_29 : xcd 216 29 = oIl 2 30 := rfl
theorem r216_29 : zr 216 29 [v0, v1, .int x2] st u P = zr 216 30 [v0, v1, .int x2] (.int x2 :: st) u P := zr_Il k216_29 rfl
theorem k216_30 : xcd 216 30 = oIf (fun x => decide (¬ x = 0)) 45 33 := rfl
theorem r216_30 : zr 216 30 [v0, v1, v2] (.int y1 :: st) u P = (if ¬ y1 = 0 then zr 216 45 [v0, v1, v2] st u P else zr 216 33 [v0, v1, v2] st u P) := zr_If k216_30
theorem k216_33 : xcd 216 33 = oAl 0 34 := rfl
theorem r216_33 : zr 216 33 [.ref a0, v1, v2] st u P = zr 216 34 [.ref a0, v1, v2] (.ref a0 :: st) u P := zr_Al k216_33 rfl
theorem k216_34 : xcd 216 34 = oGR 11 3 37 := rfl
theorem r216_34 : zr 216 34 [v0, v1, v2] (.ref b1 :: st) u P = (xIs u b1 11 ∧ ∃ b, xR u b1 3 = some b ∧ zr 216 37 [v0, v1, v2] (.ref b :: st) u P) := zr_GR k216_34
theorem k216_37 : xcd 216 37 = oI 14 39 := rfl
theorem r216_37 : zr 216 37 [v0, v1, v2] st u P = zr 216 39 [v0, v1, v2] (.int 14 :: st) u P := zr_I k216_37
theorem k216_39 : xcd 216 39 = oIl 1 40 := rfl
theorem r216_39 : zr 216 39 [v0, .int x1, v2] st u P = zr 216 40 [v0, .int x1, v2] (.int x1 :: st) u P := zr_Il k216_39 rfl
theorem k216_40 : xcd 216 40 = oB (fun x y => x + y) 41 := rfl
theorem r216_40 : zr 216 40 [v0, v1, v2] (.int y1 :: .int y2 :: st) u P = zr 216 41 [v0, v1, v2] (.int (y2 + y1) :: st) u P := zr_B k216_40
theorem k216_41 : xcd 216 41 = oLd 13 42 := rfl
theorem r216_41 : zr 216 41 [v0, v1, v2] (.int y1 :: .ref b1 :: st) u P = ((xIs u b1 13 ∧ xinb y1 (xN u b1)) ∧ zr 216 42 [v0, v1, v2] (.int (xI u b1 (xix y1)) :: st) u P) := zr_Ld k216_41
theorem k216_42 : xcd 216 42 = oGoto 67 := rfl
theorem r216_42 : zr 216 42 [v0, v1, v2] st u P = zr 216 67 [v0, v1, v2] st u P := zr_Goto k216_42
theorem k216_45 : xcd 216 45 = oIl 2 46 := rfl
theorem r216_45 : zr 216 45 [v0, v1, .int x2] st u P = zr 216 46 [v0, v1, .int x2] (.int x2 :: st) u P := zr_Il k216_45 rfl
theorem k216_46 : xcd 216 46 = oI 1 47 := rfl
theorem r216_46 : zr 216 46 [v0, v1, v2] st u P = zr 216 47 [v0, v1, v2] (.int 1 :: st) u P := zr_I k216_46
theorem k216_47 : xcd 216 47 = oCmp (fun x y => decide (¬ x = y)) 62 50 := rfl
theorem r216_47 : zr 216 47 [v0, v1, v2] (.int y1 :: .int y2 :: st) u P = (if ¬ y2 = y1 then zr 216 62 [v0, v1, v2] st u P else zr 216 50 [v0, v1, v2] st u P) := zr_Cmp k216_47
theorem k216_50 : xcd 216 50 = oAl 0 51 := rfl
theorem r216_50 : zr 216 50 [.ref a0, v1, v2] st u P = zr 216 51 [.ref a0, v1, v2] (.ref a0 :: st) u P := zr_Al k216_50 rfl
theorem k216_51 : xcd 216 51 = oGR 11 3 54 := rfl
theorem r216_51 : zr 216 51 [v0, v1, v2] (.ref b1 :: st) u P = (xIs u b1 11 ∧ ∃ b, xR u b1 3 = some b ∧ zr 216 54 [v0, v1, v2] (.ref b :: st) u P) := zr_GR k216_51
theorem k216_54 : xcd 216 54 = oI 24 56 := rfl
theorem r216_54 : zr 216 54 [v0, v1, v2] st u P = zr 216 56 [v0, v1, v2] (.int 24 :: st) u P := zr_I k216_54
theorem k216_56 : xcd 216 56 = oIl 1 57 := rfl
theorem r216_56 : zr 216 56 [v0, .int x1, v2] st u P = zr 216 57 [v0, .int x1, v2] (.int x1 :: st) u P := zr_Il k216_56 rfl
theorem k216_57 : xcd 216 57 = oB (fun x y => x + y) 58 := rfl
theorem r216_57 : zr 216 57 [v0, v1, v2] (.int y1 :: .int y2 :: st) u P = zr 216 58 [v0, v1, v2] (.int (y2 + y1) :: st) u P := zr_B k216_57
theorem k216_58 : xcd 216 58 = oLd 13 59 := rfl
theorem r216_58 : zr 216 58 [v0, v1, v2] (.int y1 :: .ref b1 :: st) u P = ((xIs u b1 13 ∧ xinb y1 (xN u b1)) ∧ zr 216 59 [v0, v1, v2] (.int (xI u b1 (xix y1)) :: st) u P) := zr_Ld k216_58
theorem k216_59 : xcd 216 59 = oGoto 67 := rfl
theorem r216_59 : zr 216 59 [v0, v1, v2] st u P = zr 216 67 [v0, v1, v2] st u P := zr_Goto k216_59
theorem k216_62 : xcd 216 62 = oAl 0 63 := rfl
theorem r216_62 : zr 216 62 [.ref a0, v1, v2] st u P = zr 216 63 [.ref a0, v1, v2] (.ref a0 :: st) u P := zr_Al k216_62 rfl
theorem k216_63 : xcd 216 63 = oIl 1 64 := rfl
theorem r216_63 : zr 216 63 [v0, .int x1, v2] st u P = zr 216 64 [v0, .int x1, v2] (.int x1 :: st) u P := zr_Il k216_63 rfl
theorem k216_64 : xcd 216 64 = oCalV 11 217 1 67 := rfl
theorem r216_64 : zr 216 64 [v0, v1, v2] (.int y1 :: .ref b8 :: st) u P = ((xIs u b8 11 ∧ xcat st ≤ 8) ∧ zr 217 0 [.ref b8, .int y1, .null, .null] [] u (fun r u2 => zr 216 67 [v0, v1, v2] (r.toList ++ st) u2 P)) := zr_CV k216_64 rfl rfl rfl ⟨Nat.le_of_ble_eq_true rfl, Nat.succ_ne_zero _, by decide⟩ rfl
theorem k216_67 : xcd 216 67 = oCalV 11 174 1 70 := rfl
theorem r216_67 : zr 216 67 [v0, v1, v2] (.int y1 :: .ref b8 :: st) u P = ((xIs u b8 11 ∧ xcat st ≤ 8) ∧ zr 174 0 [.ref b8, .int y1] [] u (fun r u2 => zr 216 70 [v0, v1, v2] (r.toList ++ st) u2 P)) := zr_CV k216_67 rfl rfl rfl ⟨Nat.le_of_ble_eq_true rfl, Nat.succ_ne_zero _, by decide⟩ rfl
theorem k216_70 : xcd 216 70 = oRi 0 := rfl
theorem r216_70 : zr 216 70 [v0, v1, v2] [.int y1] u P = P (some (.int y1)) u := zr_Ri k216_70
end
