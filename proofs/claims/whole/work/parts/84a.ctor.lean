/-! ROWS OF THE CONSTRUCTORS -/
section
variable {m pc nx : Nat} {ls st : List Value} {u : xMem} {P : Option Value → xMem → Prop} {x : Int32} {a b ci kd n : Nat}
theorem zr_New (h : xcd m pc = oNew ci n nx) : zr m pc ls st u P = ((xV u = true ∧ xW u < 1000000) ∧ zr m nx ls (.ref (xW u) :: st) (xnew u ci 0 n) P) := zr_g (c := xV u = true ∧ xW u < 1000000) (by rw [h]; rfl)
theorem zr_NewA (h : xcd m pc = oNewA kd nx) : zr m pc ls (.int x :: st) u P = (((xV u = true ∧ xW u < 1000000) ∧ (0 ≤ x ∧ x ≤ 2000)) ∧ zr m nx ls (.ref (xW u) :: st) (xnew u kd (xix x) (xix x)) P) := zr_g (c := (xV u = true ∧ xW u < 1000000) ∧ (0 ≤ x ∧ x ≤ 2000)) (by rw [h]; rfl)
theorem zr_StR (h : xcd m pc = oStR nx) : zr m pc ls (.ref b :: .int x :: .ref a :: st) u P = (((xIs u a 16 ∧ xIs u b 5) ∧ xinb x (xN u a)) ∧ zr m nx ls st (xsR u a (xix x) (some b)) P) := zr_g (c := ((a < xW u ∧ xK u a = 16) ∧ (b < xW u ∧ xK u b = 5)) ∧ (0 ≤ x ∧ x.toNatClampNeg < xN u a)) (by rw [h]; rfl)
end
section
variable {u : xMem} {P : Option Value → xMem → Prop} {st : List Value} {v0 v1 v2 v3 v4 v5 v6 v7 v8 v9 v10 v11 v12 v13 v14 v15 : Value} {x0 x1 x2 x3 x4 x5 x6 x7 x8 x9 x10 x11 x12 x13 x14 x15 : Int32} {a0 a1 a2 a3 a4 a5 a6 a7 a8 a9 a10 a11 a12 a13 a14 a15 : Nat} {j0 j1 j2 j3 j4 j5 j6 j7 j8 j9 j10 j11 j12 j13 j14 j15 : Int64} {y1 y2 y3 y4 y5 y6 y7 y8 : Int32} {b1 b2 b3 b4 b5 b6 b7 b8 : Nat} {w1 w2 w3 w4 : Int64}
theorem k3_0 : xcd 3 0 = oAl 0 1 := rfl
theorem r3_0 : zr 3 0 [.ref a0] st u P = zr 3 1 [.ref a0] (.ref a0 :: st) u P := zr_Al k3_0 rfl
theorem k3_1 : xcd 3 1 = oObj 4 := rfl
theorem r3_1 : zr 3 1 [v0] (.ref b1 :: st) u P = (xcat st ≤ 8 ∧ zr 3 4 [v0] st u P) := zr_Obj k3_1
theorem k3_4 : xcd 3 4 = oAl 0 5 := rfl
theorem r3_4 : zr 3 4 [.ref a0] st u P = zr 3 5 [.ref a0] (.ref a0 :: st) u P := zr_Al k3_4 rfl
theorem k3_5 : xcd 3 5 = oI 8 7 := rfl
theorem r3_5 : zr 3 5 [v0] st u P = zr 3 7 [v0] (.int 8 :: st) u P := zr_I k3_5
theorem k3_7 : xcd 3 7 = oNewA 13 9 := rfl
theorem r3_7 : zr 3 7 [v0] (.int y1 :: st) u P = (((xV u = true ∧ xW u < 1000000) ∧ (0 ≤ y1 ∧ y1 ≤ 2000)) ∧ zr 3 9 [v0] (.ref (xW u) :: st) (xnew u 13 (xix y1) (xix y1)) P) := zr_NewA k3_7
theorem k3_9 : xcd 3 9 = oPR 0 1 12 := rfl
theorem r3_9 : zr 3 9 [v0] (.ref b2 :: .ref b1 :: st) u P = (xIs u b1 0 ∧ zr 3 12 [v0] st (xsR u b1 1 (some b2)) P) := zr_PR k3_9
theorem k3_12 : xcd 3 12 = oAl 0 13 := rfl
theorem r3_12 : zr 3 12 [.ref a0] st u P = zr 3 13 [.ref a0] (.ref a0 :: st) u P := zr_Al k3_12 rfl
theorem k3_13 : xcd 3 13 = oI 8 15 := rfl
theorem r3_13 : zr 3 13 [v0] st u P = zr 3 15 [v0] (.int 8 :: st) u P := zr_I k3_13
theorem k3_15 : xcd 3 15 = oNewA 13 17 := rfl
theorem r3_15 : zr 3 15 [v0] (.int y1 :: st) u P = (((xV u = true ∧ xW u < 1000000) ∧ (0 ≤ y1 ∧ y1 ≤ 2000)) ∧ zr 3 17 [v0] (.ref (xW u) :: st) (xnew u 13 (xix y1) (xix y1)) P) := zr_NewA k3_15
theorem k3_17 : xcd 3 17 = oPR 0 2 20 := rfl
theorem r3_17 : zr 3 17 [v0] (.ref b2 :: .ref b1 :: st) u P = (xIs u b1 0 ∧ zr 3 20 [v0] st (xsR u b1 2 (some b2)) P) := zr_PR k3_17
theorem k3_20 : xcd 3 20 = oAl 0 21 := rfl
theorem r3_20 : zr 3 20 [.ref a0] st u P = zr 3 21 [.ref a0] (.ref a0 :: st) u P := zr_Al k3_20 rfl
theorem k3_21 : xcd 3 21 = oI 8 23 := rfl
theorem r3_21 : zr 3 21 [v0] st u P = zr 3 23 [v0] (.int 8 :: st) u P := zr_I k3_21
theorem k3_23 : xcd 3 23 = oNewA 13 25 := rfl
theorem r3_23 : zr 3 23 [v0] (.int y1 :: st) u P = (((xV u = true ∧ xW u < 1000000) ∧ (0 ≤ y1 ∧ y1 ≤ 2000)) ∧ zr 3 25 [v0] (.ref (xW u) :: st) (xnew u 13 (xix y1) (xix y1)) P) := zr_NewA k3_23
theorem k3_25 : xcd 3 25 = oPR 0 3 28 := rfl
theorem r3_25 : zr 3 25 [v0] (.ref b2 :: .ref b1 :: st) u P = (xIs u b1 0 ∧ zr 3 28 [v0] st (xsR u b1 3 (some b2)) P) := zr_PR k3_25
theorem k3_28 : xcd 3 28 = oRv 0 := rfl
theorem r3_28 : zr 3 28 [v0] [] u P = P none u := zr_Rv k3_28
theorem k6_0 : xcd 6 0 = oAl 0 1 := rfl
theorem r6_0 : zr 6 0 [.ref a0, v1] st u P = zr 6 1 [.ref a0, v1] (.ref a0 :: st) u P := zr_Al k6_0 rfl
theorem k6_1 : xcd 6 1 = oObj 4 := rfl
theorem r6_1 : zr 6 1 [v0, v1] (.ref b1 :: st) u P = (xcat st ≤ 8 ∧ zr 6 4 [v0, v1] st u P) := zr_Obj k6_1
theorem k6_4 : xcd 6 4 = oAl 0 5 := rfl
theorem r6_4 : zr 6 4 [.ref a0, v1] st u P = zr 6 5 [.ref a0, v1] (.ref a0 :: st) u P := zr_Al k6_4 rfl
theorem k6_5 : xcd 6 5 = oI 40 7 := rfl
theorem r6_5 : zr 6 5 [v0, v1] st u P = zr 6 7 [v0, v1] (.int 40 :: st) u P := zr_I k6_5
theorem k6_7 : xcd 6 7 = oNewA 16 10 := rfl
theorem r6_7 : zr 6 7 [v0, v1] (.int y1 :: st) u P = (((xV u = true ∧ xW u < 1000000) ∧ (0 ≤ y1 ∧ y1 ≤ 2000)) ∧ zr 6 10 [v0, v1] (.ref (xW u) :: st) (xnew u 16 (xix y1) (xix y1)) P) := zr_NewA k6_7
theorem k6_10 : xcd 6 10 = oPR 1 1 13 := rfl
theorem r6_10 : zr 6 10 [v0, v1] (.ref b2 :: .ref b1 :: st) u P = (xIs u b1 1 ∧ zr 6 13 [v0, v1] st (xsR u b1 1 (some b2)) P) := zr_PR k6_10
theorem k6_13 : xcd 6 13 = oAl 0 14 := rfl
theorem r6_13 : zr 6 13 [.ref a0, v1] st u P = zr 6 14 [.ref a0, v1] (.ref a0 :: st) u P := zr_Al k6_13 rfl
theorem k6_14 : xcd 6 14 = oI 12 16 := rfl
theorem r6_14 : zr 6 14 [v0, v1] st u P = zr 6 16 [v0, v1] (.int 12 :: st) u P := zr_I k6_14
theorem k6_16 : xcd 6 16 = oNewA 13 18 := rfl
theorem r6_16 : zr 6 16 [v0, v1] (.int y1 :: st) u P = (((xV u = true ∧ xW u < 1000000) ∧ (0 ≤ y1 ∧ y1 ≤ 2000)) ∧ zr 6 18 [v0, v1] (.ref (xW u) :: st) (xnew u 13 (xix y1) (xix y1)) P) := zr_NewA k6_16
theorem k6_18 : xcd 6 18 = oPR 1 3 21 := rfl
theorem r6_18 : zr 6 18 [v0, v1] (.ref b2 :: .ref b1 :: st) u P = (xIs u b1 1 ∧ zr 6 21 [v0, v1] st (xsR u b1 3 (some b2)) P) := zr_PR k6_18
theorem k6_21 : xcd 6 21 = oAl 0 22 := rfl
theorem r6_21 : zr 6 21 [.ref a0, v1] st u P = zr 6 22 [.ref a0, v1] (.ref a0 :: st) u P := zr_Al k6_21 rfl
theorem k6_22 : xcd 6 22 = oI 120 24 := rfl
theorem r6_22 : zr 6 22 [v0, v1] st u P = zr 6 24 [v0, v1] (.int 120 :: st) u P := zr_I k6_22
theorem k6_24 : xcd 6 24 = oNewA 13 26 := rfl
theorem r6_24 : zr 6 24 [v0, v1] (.int y1 :: st) u P = (((xV u = true ∧ xW u < 1000000) ∧ (0 ≤ y1 ∧ y1 ≤ 2000)) ∧ zr 6 26 [v0, v1] (.ref (xW u) :: st) (xnew u 13 (xix y1) (xix y1)) P) := zr_NewA k6_24
theorem k6_26 : xcd 6 26 = oPR 1 4 29 := rfl
theorem r6_26 : zr 6 26 [v0, v1] (.ref b2 :: .ref b1 :: st) u P = (xIs u b1 1 ∧ zr 6 29 [v0, v1] st (xsR u b1 4 (some b2)) P) := zr_PR k6_26
theorem k6_29 : xcd 6 29 = oAl 0 30 := rfl
theorem r6_29 : zr 6 29 [.ref a0, v1] st u P = zr 6 30 [.ref a0, v1] (.ref a0 :: st) u P := zr_Al k6_29 rfl
theorem k6_30 : xcd 6 30 = oI 60 32 := rfl
theorem r6_30 : zr 6 30 [v0, v1] st u P = zr 6 32 [v0, v1] (.int 60 :: st) u P := zr_I k6_30
theorem k6_32 : xcd 6 32 = oNewA 13 34 := rfl
theorem r6_32 : zr 6 32 [v0, v1] (.int y1 :: st) u P = (((xV u = true ∧ xW u < 1000000) ∧ (0 ≤ y1 ∧ y1 ≤ 2000)) ∧ zr 6 34 [v0, v1] (.ref (xW u) :: st) (xnew u 13 (xix y1) (xix y1)) P) := zr_NewA k6_32
theorem k6_34 : xcd 6 34 = oPR 1 5 37 := rfl
theorem r6_34 : zr 6 34 [v0, v1] (.ref b2 :: .ref b1 :: st) u P = (xIs u b1 1 ∧ zr 6 37 [v0, v1] st (xsR u b1 5 (some b2)) P) := zr_PR k6_34
theorem k6_37 : xcd 6 37 = oAl 0 38 := rfl
theorem r6_37 : zr 6 37 [.ref a0, v1] st u P = zr 6 38 [.ref a0, v1] (.ref a0 :: st) u P := zr_Al k6_37 rfl
theorem k6_38 : xcd 6 38 = oI 60 40 := rfl
theorem r6_38 : zr 6 38 [v0, v1] st u P = zr 6 40 [v0, v1] (.int 60 :: st) u P := zr_I k6_38
theorem k6_40 : xcd 6 40 = oNewA 13 42 := rfl
theorem r6_40 : zr 6 40 [v0, v1] (.int y1 :: st) u P = (((xV u = true ∧ xW u < 1000000) ∧ (0 ≤ y1 ∧ y1 ≤ 2000)) ∧ zr 6 42 [v0, v1] (.ref (xW u) :: st) (xnew u 13 (xix y1) (xix y1)) P) := zr_NewA k6_40
theorem k6_42 : xcd 6 42 = oPR 1 6 45 := rfl
theorem r6_42 : zr 6 42 [v0, v1] (.ref b2 :: .ref b1 :: st) u P = (xIs u b1 1 ∧ zr 6 45 [v0, v1] st (xsR u b1 6 (some b2)) P) := zr_PR k6_42
theorem k6_45 : xcd 6 45 = oAl 0 46 := rfl
theorem r6_45 : zr 6 45 [.ref a0, v1] st u P = zr 6 46 [.ref a0, v1] (.ref a0 :: st) u P := zr_Al k6_45 rfl
theorem k6_46 : xcd 6 46 = oI 60 48 := rfl
theorem r6_46 : zr 6 46 [v0, v1] st u P = zr 6 48 [v0, v1] (.int 60 :: st) u P := zr_I k6_46
theorem k6_48 : xcd 6 48 = oNewA 15 50 := rfl
theorem r6_48 : zr 6 48 [v0, v1] (.int y1 :: st) u P = (((xV u = true ∧ xW u < 1000000) ∧ (0 ≤ y1 ∧ y1 ≤ 2000)) ∧ zr 6 50 [v0, v1] (.ref (xW u) :: st) (xnew u 15 (xix y1) (xix y1)) P) := zr_NewA k6_48
theorem k6_50 : xcd 6 50 = oPR 1 7 53 := rfl
theorem r6_50 : zr 6 50 [v0, v1] (.ref b2 :: .ref b1 :: st) u P = (xIs u b1 1 ∧ zr 6 53 [v0, v1] st (xsR u b1 7 (some b2)) P) := zr_PR k6_50
theorem k6_53 : xcd 6 53 = oI 0 54 := rfl
theorem r6_53 : zr 6 53 [v0, v1] st u P = zr 6 54 [v0, v1] (.int 0 :: st) u P := zr_I k6_53
theorem k6_54 : xcd 6 54 = oIs 1 55 := rfl
theorem r6_54 : zr 6 54 [.ref a0, v1] (.int y1 :: st) u P = zr 6 55 [.ref a0, .int y1] st u P := zr_Is k6_54 ⟨Nat.le_of_ble_eq_true rfl, rfl⟩
theorem k6_55 : xcd 6 55 = oIl 1 56 := rfl
theorem r6_55 : zr 6 55 [v0, .int x1] st u P = zr 6 56 [v0, .int x1] (.int x1 :: st) u P := zr_Il k6_55 rfl
theorem k6_56 : xcd 6 56 = oI 40 58 := rfl
theorem r6_56 : zr 6 56 [v0, v1] st u P = zr 6 58 [v0, v1] (.int 40 :: st) u P := zr_I k6_56
theorem k6_58 : xcd 6 58 = oCmp (fun x y => decide (y ≤ x)) 80 61 := rfl
theorem r6_58 : zr 6 58 [v0, v1] (.int y1 :: .int y2 :: st) u P = (if y1 ≤ y2 then zr 6 80 [v0, v1] st u P else zr 6 61 [v0, v1] st u P) := zr_Cmp k6_58
theorem k6_61 : xcd 6 61 = oAl 0 62 := rfl
theorem r6_61 : zr 6 61 [.ref a0, v1] st u P = zr 6 62 [.ref a0, v1] (.ref a0 :: st) u P := zr_Al k6_61 rfl
theorem k6_62 : xcd 6 62 = oGR 1 1 65 := rfl
theorem r6_62 : zr 6 62 [v0, v1] (.ref b1 :: st) u P = (xIs u b1 1 ∧ ∃ b, xR u b1 1 = some b ∧ zr 6 65 [v0, v1] (.ref b :: st) u P) := zr_GR k6_62
theorem k6_65 : xcd 6 65 = oIl 1 66 := rfl
theorem r6_65 : zr 6 65 [v0, .int x1] st u P = zr 6 66 [v0, .int x1] (.int x1 :: st) u P := zr_Il k6_65 rfl
theorem k6_66 : xcd 6 66 = oNew 5 13 69 := rfl
theorem r6_66 : zr 6 66 [v0, v1] st u P = ((xV u = true ∧ xW u < 1000000) ∧ zr 6 69 [v0, v1] (.ref (xW u) :: st) (xnew u 5 0 13) P) := zr_New k6_66
theorem k6_69 : xcd 6 69 = oDup 70 := rfl
theorem r6_69 : zr 6 69 [v0, v1] (.ref b1 :: st) u P = zr 6 70 [v0, v1] (.ref b1 :: .ref b1 :: st) u P := zr_DupA k6_69
theorem k6_70 : xcd 6 70 = oCalV 5 53 0 73 := rfl
theorem r6_70 : zr 6 70 [v0, v1] (.ref b8 :: st) u P = ((xIs u b8 5 ∧ xcat st ≤ 8) ∧ zr 53 0 [.ref b8] [] u (fun r u2 => zr 6 73 [v0, v1] (r.toList ++ st) u2 P)) := zr_CV k6_70 rfl rfl rfl ⟨Nat.le_of_ble_eq_true rfl, Nat.succ_ne_zero _, by decide⟩ rfl
theorem k6_73 : xcd 6 73 = oStR 74 := rfl
theorem r6_73 : zr 6 73 [v0, v1] (.ref b2 :: .int y1 :: .ref b1 :: st) u P = (((xIs u b1 16 ∧ xIs u b2 5) ∧ xinb y1 (xN u b1)) ∧ zr 6 74 [v0, v1] st (xsR u b1 (xix y1) (some b2)) P) := zr_StR k6_73
theorem k6_74 : xcd 6 74 = oInc 1 1 77 := rfl
theorem r6_74 : zr 6 74 [.ref a0, .int x1] st u P = zr 6 77 [.ref a0, .int (x1 + 1)] st u P := zr_Inc k6_74 rfl rfl
theorem k6_77 : xcd 6 77 = oGoto 55 := rfl
theorem r6_77 : zr 6 77 [v0, v1] st u P = zr 6 55 [v0, v1] st u P := zr_Goto k6_77
theorem k6_80 : xcd 6 80 = oRv 0 := rfl
theorem r6_80 : zr 6 80 [v0, v1] [] u P = P none u := zr_Rv k6_80
theorem k18_0 : xcd 18 0 = oAl 0 1 := rfl
theorem r18_0 : zr 18 0 [.ref a0] st u P = zr 18 1 [.ref a0] (.ref a0 :: st) u P := zr_Al k18_0 rfl
theorem k18_1 : xcd 18 1 = oObj 4 := rfl
theorem r18_1 : zr 18 1 [v0] (.ref b1 :: st) u P = (xcat st ≤ 8 ∧ zr 18 4 [v0] st u P) := zr_Obj k18_1
theorem k18_4 : xcd 18 4 = oAl 0 5 := rfl
theorem r18_4 : zr 18 4 [.ref a0] st u P = zr 18 5 [.ref a0] (.ref a0 :: st) u P := zr_Al k18_4 rfl
theorem k18_5 : xcd 18 5 = oI 16 7 := rfl
theorem r18_5 : zr 18 5 [v0] st u P = zr 18 7 [v0] (.int 16 :: st) u P := zr_I k18_5
theorem k18_7 : xcd 18 7 = oNewA 13 9 := rfl
theorem r18_7 : zr 18 7 [v0] (.int y1 :: st) u P = (((xV u = true ∧ xW u < 1000000) ∧ (0 ≤ y1 ∧ y1 ≤ 2000)) ∧ zr 18 9 [v0] (.ref (xW u) :: st) (xnew u 13 (xix y1) (xix y1)) P) := zr_NewA k18_7
theorem k18_9 : xcd 18 9 = oPR 2 1 12 := rfl
theorem r18_9 : zr 18 9 [v0] (.ref b2 :: .ref b1 :: st) u P = (xIs u b1 2 ∧ zr 18 12 [v0] st (xsR u b1 1 (some b2)) P) := zr_PR k18_9
theorem k18_12 : xcd 18 12 = oAl 0 13 := rfl
theorem r18_12 : zr 18 12 [.ref a0] st u P = zr 18 13 [.ref a0] (.ref a0 :: st) u P := zr_Al k18_12 rfl
theorem k18_13 : xcd 18 13 = oI 16 15 := rfl
theorem r18_13 : zr 18 13 [v0] st u P = zr 18 15 [v0] (.int 16 :: st) u P := zr_I k18_13
theorem k18_15 : xcd 18 15 = oNewA 13 17 := rfl
theorem r18_15 : zr 18 15 [v0] (.int y1 :: st) u P = (((xV u = true ∧ xW u < 1000000) ∧ (0 ≤ y1 ∧ y1 ≤ 2000)) ∧ zr 18 17 [v0] (.ref (xW u) :: st) (xnew u 13 (xix y1) (xix y1)) P) := zr_NewA k18_15
theorem k18_17 : xcd 18 17 = oPR 2 2 20 := rfl
theorem r18_17 : zr 18 17 [v0] (.ref b2 :: .ref b1 :: st) u P = (xIs u b1 2 ∧ zr 18 20 [v0] st (xsR u b1 2 (some b2)) P) := zr_PR k18_17
theorem k18_20 : xcd 18 20 = oAl 0 21 := rfl
theorem r18_20 : zr 18 20 [.ref a0] st u P = zr 18 21 [.ref a0] (.ref a0 :: st) u P := zr_Al k18_20 rfl
theorem k18_21 : xcd 18 21 = oI 16 23 := rfl
theorem r18_21 : zr 18 21 [v0] st u P = zr 18 23 [v0] (.int 16 :: st) u P := zr_I k18_21
theorem k18_23 : xcd 18 23 = oNewA 13 25 := rfl
theorem r18_23 : zr 18 23 [v0] (.int y1 :: st) u P = (((xV u = true ∧ xW u < 1000000) ∧ (0 ≤ y1 ∧ y1 ≤ 2000)) ∧ zr 18 25 [v0] (.ref (xW u) :: st) (xnew u 13 (xix y1) (xix y1)) P) := zr_NewA k18_23
theorem k18_25 : xcd 18 25 = oPR 2 3 28 := rfl
theorem r18_25 : zr 18 25 [v0] (.ref b2 :: .ref b1 :: st) u P = (xIs u b1 2 ∧ zr 18 28 [v0] st (xsR u b1 3 (some b2)) P) := zr_PR k18_25
theorem k18_28 : xcd 18 28 = oAl 0 29 := rfl
theorem r18_28 : zr 18 28 [.ref a0] st u P = zr 18 29 [.ref a0] (.ref a0 :: st) u P := zr_Al k18_28 rfl
theorem k18_29 : xcd 18 29 = oI 96 31 := rfl
theorem r18_29 : zr 18 29 [v0] st u P = zr 18 31 [v0] (.int 96 :: st) u P := zr_I k18_29
theorem k18_31 : xcd 18 31 = oNewA 13 33 := rfl
theorem r18_31 : zr 18 31 [v0] (.int y1 :: st) u P = (((xV u = true ∧ xW u < 1000000) ∧ (0 ≤ y1 ∧ y1 ≤ 2000)) ∧ zr 18 33 [v0] (.ref (xW u) :: st) (xnew u 13 (xix y1) (xix y1)) P) := zr_NewA k18_31
theorem k18_33 : xcd 18 33 = oPR 2 4 36 := rfl
theorem r18_33 : zr 18 33 [v0] (.ref b2 :: .ref b1 :: st) u P = (xIs u b1 2 ∧ zr 18 36 [v0] st (xsR u b1 4 (some b2)) P) := zr_PR k18_33
theorem k18_36 : xcd 18 36 = oAl 0 37 := rfl
theorem r18_36 : zr 18 36 [.ref a0] st u P = zr 18 37 [.ref a0] (.ref a0 :: st) u P := zr_Al k18_36 rfl
theorem k18_37 : xcd 18 37 = oI 96 39 := rfl
theorem r18_37 : zr 18 37 [v0] st u P = zr 18 39 [v0] (.int 96 :: st) u P := zr_I k18_37
theorem k18_39 : xcd 18 39 = oNewA 13 41 := rfl
theorem r18_39 : zr 18 39 [v0] (.int y1 :: st) u P = (((xV u = true ∧ xW u < 1000000) ∧ (0 ≤ y1 ∧ y1 ≤ 2000)) ∧ zr 18 41 [v0] (.ref (xW u) :: st) (xnew u 13 (xix y1) (xix y1)) P) := zr_NewA k18_39
theorem k18_41 : xcd 18 41 = oPR 2 5 44 := rfl
theorem r18_41 : zr 18 41 [v0] (.ref b2 :: .ref b1 :: st) u P = (xIs u b1 2 ∧ zr 18 44 [v0] st (xsR u b1 5 (some b2)) P) := zr_PR k18_41
theorem k18_44 : xcd 18 44 = oRv 0 := rfl
theorem r18_44 : zr 18 44 [v0] [] u P = P none u := zr_Rv k18_44
theorem k34_0 : xcd 34 0 = oAl 0 1 := rfl
theorem r34_0 : zr 34 0 [.ref a0] st u P = zr 34 1 [.ref a0] (.ref a0 :: st) u P := zr_Al k34_0 rfl
theorem k34_1 : xcd 34 1 = oObj 4 := rfl
theorem r34_1 : zr 34 1 [v0] (.ref b1 :: st) u P = (xcat st ≤ 8 ∧ zr 34 4 [v0] st u P) := zr_Obj k34_1
theorem k34_4 : xcd 34 4 = oAl 0 5 := rfl
theorem r34_4 : zr 34 4 [.ref a0] st u P = zr 34 5 [.ref a0] (.ref a0 :: st) u P := zr_Al k34_4 rfl
theorem k34_5 : xcd 34 5 = oNew 4 9 8 := rfl
theorem r34_5 : zr 34 5 [v0] st u P = ((xV u = true ∧ xW u < 1000000) ∧ zr 34 8 [v0] (.ref (xW u) :: st) (xnew u 4 0 9) P) := zr_New k34_5
theorem k34_8 : xcd 34 8 = oDup 9 := rfl
theorem r34_8 : zr 34 8 [v0] (.ref b1 :: st) u P = zr 34 9 [v0] (.ref b1 :: .ref b1 :: st) u P := zr_DupA k34_8
theorem k34_9 : xcd 34 9 = oCalV 4 42 0 12 := rfl
theorem r34_9 : zr 34 9 [v0] (.ref b8 :: st) u P = ((xIs u b8 4 ∧ xcat st ≤ 8) ∧ zr 42 0 [.ref b8] [] u (fun r u2 => zr 34 12 [v0] (r.toList ++ st) u2 P)) := zr_CV k34_9 rfl rfl rfl ⟨Nat.le_of_ble_eq_true rfl, Nat.succ_ne_zero _, by decide⟩ rfl
theorem k34_12 : xcd 34 12 = oPR 3 0 15 := rfl
theorem r34_12 : zr 34 12 [v0] (.ref b2 :: .ref b1 :: st) u P = (xIs u b1 3 ∧ zr 34 15 [v0] st (xsR u b1 0 (some b2)) P) := zr_PR k34_12
theorem k34_15 : xcd 34 15 = oAl 0 16 := rfl
theorem r34_15 : zr 34 15 [.ref a0] st u P = zr 34 16 [.ref a0] (.ref a0 :: st) u P := zr_Al k34_15 rfl
theorem k34_16 : xcd 34 16 = oNew 9 13 19 := rfl
theorem r34_16 : zr 34 16 [v0] st u P = ((xV u = true ∧ xW u < 1000000) ∧ zr 34 19 [v0] (.ref (xW u) :: st) (xnew u 9 0 13) P) := zr_New k34_16
theorem k34_19 : xcd 34 19 = oDup 20 := rfl
theorem r34_19 : zr 34 19 [v0] (.ref b1 :: st) u P = zr 34 20 [v0] (.ref b1 :: .ref b1 :: st) u P := zr_DupA k34_19
theorem k34_20 : xcd 34 20 = oCalV 9 94 0 23 := rfl
theorem r34_20 : zr 34 20 [v0] (.ref b8 :: st) u P = ((xIs u b8 9 ∧ xcat st ≤ 8) ∧ zr 94 0 [.ref b8] [] u (fun r u2 => zr 34 23 [v0] (r.toList ++ st) u2 P)) := zr_CV k34_20 rfl rfl rfl ⟨Nat.le_of_ble_eq_true rfl, Nat.succ_ne_zero _, by decide⟩ rfl
theorem k34_23 : xcd 34 23 = oPR 3 1 26 := rfl
theorem r34_23 : zr 34 23 [v0] (.ref b2 :: .ref b1 :: st) u P = (xIs u b1 3 ∧ zr 34 26 [v0] st (xsR u b1 1 (some b2)) P) := zr_PR k34_23
theorem k34_26 : xcd 34 26 = oAl 0 27 := rfl
theorem r34_26 : zr 34 26 [.ref a0] st u P = zr 34 27 [.ref a0] (.ref a0 :: st) u P := zr_Al k34_26 rfl
theorem k34_27 : xcd 34 27 = oI 10 29 := rfl
theorem r34_27 : zr 34 27 [v0] st u P = zr 34 29 [v0] (.int 10 :: st) u P := zr_I k34_27
theorem k34_29 : xcd 34 29 = oNewA 13 31 := rfl
theorem r34_29 : zr 34 29 [v0] (.int y1 :: st) u P = (((xV u = true ∧ xW u < 1000000) ∧ (0 ≤ y1 ∧ y1 ≤ 2000)) ∧ zr 34 31 [v0] (.ref (xW u) :: st) (xnew u 13 (xix y1) (xix y1)) P) := zr_NewA k34_29
theorem k34_31 : xcd 34 31 = oPR 3 2 34 := rfl
theorem r34_31 : zr 34 31 [v0] (.ref b2 :: .ref b1 :: st) u P = (xIs u b1 3 ∧ zr 34 34 [v0] st (xsR u b1 2 (some b2)) P) := zr_PR k34_31
theorem k34_34 : xcd 34 34 = oRv 0 := rfl
theorem r34_34 : zr 34 34 [v0] [] u P = P none u := zr_Rv k34_34
theorem k42_0 : xcd 42 0 = oAl 0 1 := rfl
theorem r42_0 : zr 42 0 [.ref a0] st u P = zr 42 1 [.ref a0] (.ref a0 :: st) u P := zr_Al k42_0 rfl
theorem k42_1 : xcd 42 1 = oObj 4 := rfl
theorem r42_1 : zr 42 1 [v0] (.ref b1 :: st) u P = (xcat st ≤ 8 ∧ zr 42 4 [v0] st u P) := zr_Obj k42_1
theorem k42_4 : xcd 42 4 = oAl 0 5 := rfl
theorem r42_4 : zr 42 4 [.ref a0] st u P = zr 42 5 [.ref a0] (.ref a0 :: st) u P := zr_Al k42_4 rfl
theorem k42_5 : xcd 42 5 = oI 10 7 := rfl
theorem r42_5 : zr 42 5 [v0] st u P = zr 42 7 [v0] (.int 10 :: st) u P := zr_I k42_5
theorem k42_7 : xcd 42 7 = oNewA 13 9 := rfl
theorem r42_7 : zr 42 7 [v0] (.int y1 :: st) u P = (((xV u = true ∧ xW u < 1000000) ∧ (0 ≤ y1 ∧ y1 ≤ 2000)) ∧ zr 42 9 [v0] (.ref (xW u) :: st) (xnew u 13 (xix y1) (xix y1)) P) := zr_NewA k42_7
theorem k42_9 : xcd 42 9 = oPR 4 3 12 := rfl
theorem r42_9 : zr 42 9 [v0] (.ref b2 :: .ref b1 :: st) u P = (xIs u b1 4 ∧ zr 42 12 [v0] st (xsR u b1 3 (some b2)) P) := zr_PR k42_9
theorem k42_12 : xcd 42 12 = oAl 0 13 := rfl
theorem r42_12 : zr 42 12 [.ref a0] st u P = zr 42 13 [.ref a0] (.ref a0 :: st) u P := zr_Al k42_12 rfl
theorem k42_13 : xcd 42 13 = oI 10 15 := rfl
theorem r42_13 : zr 42 13 [v0] st u P = zr 42 15 [v0] (.int 10 :: st) u P := zr_I k42_13
theorem k42_15 : xcd 42 15 = oNewA 15 17 := rfl
theorem r42_15 : zr 42 15 [v0] (.int y1 :: st) u P = (((xV u = true ∧ xW u < 1000000) ∧ (0 ≤ y1 ∧ y1 ≤ 2000)) ∧ zr 42 17 [v0] (.ref (xW u) :: st) (xnew u 15 (xix y1) (xix y1)) P) := zr_NewA k42_15
theorem k42_17 : xcd 42 17 = oPR 4 4 20 := rfl
theorem r42_17 : zr 42 17 [v0] (.ref b2 :: .ref b1 :: st) u P = (xIs u b1 4 ∧ zr 42 20 [v0] st (xsR u b1 4 (some b2)) P) := zr_PR k42_17
theorem k42_20 : xcd 42 20 = oAl 0 21 := rfl
theorem r42_20 : zr 42 20 [.ref a0] st u P = zr 42 21 [.ref a0] (.ref a0 :: st) u P := zr_Al k42_20 rfl
theorem k42_21 : xcd 42 21 = oNew 2 6 24 := rfl
theorem r42_21 : zr 42 21 [v0] st u P = ((xV u = true ∧ xW u < 1000000) ∧ zr 42 24 [v0] (.ref (xW u) :: st) (xnew u 2 0 6) P) := zr_New k42_21
theorem k42_24 : xcd 42 24 = oDup 25 := rfl
theorem r42_24 : zr 42 24 [v0] (.ref b1 :: st) u P = zr 42 25 [v0] (.ref b1 :: .ref b1 :: st) u P := zr_DupA k42_24
theorem k42_25 : xcd 42 25 = oCalV 2 18 0 28 := rfl
theorem r42_25 : zr 42 25 [v0] (.ref b8 :: st) u P = ((xIs u b8 2 ∧ xcat st ≤ 8) ∧ zr 18 0 [.ref b8] [] u (fun r u2 => zr 42 28 [v0] (r.toList ++ st) u2 P)) := zr_CV k42_25 rfl rfl rfl ⟨Nat.le_of_ble_eq_true rfl, Nat.succ_ne_zero _, by decide⟩ rfl
theorem k42_28 : xcd 42 28 = oPR 4 5 31 := rfl
theorem r42_28 : zr 42 28 [v0] (.ref b2 :: .ref b1 :: st) u P = (xIs u b1 4 ∧ zr 42 31 [v0] st (xsR u b1 5 (some b2)) P) := zr_PR k42_28
theorem k42_31 : xcd 42 31 = oAl 0 32 := rfl
theorem r42_31 : zr 42 31 [.ref a0] st u P = zr 42 32 [.ref a0] (.ref a0 :: st) u P := zr_Al k42_31 rfl
theorem k42_32 : xcd 42 32 = oI 10 34 := rfl
theorem r42_32 : zr 42 32 [v0] st u P = zr 42 34 [v0] (.int 10 :: st) u P := zr_I k42_32
theorem k42_34 : xcd 42 34 = oNewA 13 36 := rfl
theorem r42_34 : zr 42 34 [v0] (.int y1 :: st) u P = (((xV u = true ∧ xW u < 1000000) ∧ (0 ≤ y1 ∧ y1 ≤ 2000)) ∧ zr 42 36 [v0] (.ref (xW u) :: st) (xnew u 13 (xix y1) (xix y1)) P) := zr_NewA k42_34
theorem k42_36 : xcd 42 36 = oPR 4 6 39 := rfl
theorem r42_36 : zr 42 36 [v0] (.ref b2 :: .ref b1 :: st) u P = (xIs u b1 4 ∧ zr 42 39 [v0] st (xsR u b1 6 (some b2)) P) := zr_PR k42_36
theorem k42_39 : xcd 42 39 = oAl 0 40 := rfl
theorem r42_39 : zr 42 39 [.ref a0] st u P = zr 42 40 [.ref a0] (.ref a0 :: st) u P := zr_Al k42_39 rfl
theorem k42_40 : xcd 42 40 = oI 4 41 := rfl
theorem r42_40 : zr 42 40 [v0] st u P = zr 42 41 [v0] (.int 4 :: st) u P := zr_I k42_40
theorem k42_41 : xcd 42 41 = oNewA 13 43 := rfl
theorem r42_41 : zr 42 41 [v0] (.int y1 :: st) u P = (((xV u = true ∧ xW u < 1000000) ∧ (0 ≤ y1 ∧ y1 ≤ 2000)) ∧ zr 42 43 [v0] (.ref (xW u) :: st) (xnew u 13 (xix y1) (xix y1)) P) := zr_NewA k42_41
theorem k42_43 : xcd 42 43 = oPR 4 7 46 := rfl
theorem r42_43 : zr 42 43 [v0] (.ref b2 :: .ref b1 :: st) u P = (xIs u b1 4 ∧ zr 42 46 [v0] st (xsR u b1 7 (some b2)) P) := zr_PR k42_43
theorem k42_46 : xcd 42 46 = oRv 0 := rfl
theorem r42_46 : zr 42 46 [v0] [] u P = P none u := zr_Rv k42_46
theorem k53_0 : xcd 53 0 = oAl 0 1 := rfl
theorem r53_0 : zr 53 0 [.ref a0] st u P = zr 53 1 [.ref a0] (.ref a0 :: st) u P := zr_Al k53_0 rfl
theorem k53_1 : xcd 53 1 = oObj 4 := rfl
theorem r53_1 : zr 53 1 [v0] (.ref b1 :: st) u P = (xcat st ≤ 8 ∧ zr 53 4 [v0] st u P) := zr_Obj k53_1
theorem k53_4 : xcd 53 4 = oAl 0 5 := rfl
theorem r53_4 : zr 53 4 [.ref a0] st u P = zr 53 5 [.ref a0] (.ref a0 :: st) u P := zr_Al k53_4 rfl
theorem k53_5 : xcd 53 5 = oI (-1) 6 := rfl
theorem r53_5 : zr 53 5 [v0] st u P = zr 53 6 [v0] (.int (-1) :: st) u P := zr_I k53_5
theorem k53_6 : xcd 53 6 = oPI 5 7 9 := rfl
theorem r53_6 : zr 53 6 [v0] (.int y1 :: .ref b1 :: st) u P = (xIs u b1 5 ∧ zr 53 9 [v0] st (xsI u b1 7 y1) P) := zr_PI k53_6
theorem k53_9 : xcd 53 9 = oAl 0 10 := rfl
theorem r53_9 : zr 53 9 [.ref a0] st u P = zr 53 10 [.ref a0] (.ref a0 :: st) u P := zr_Al k53_9 rfl
theorem k53_10 : xcd 53 10 = oI 4 11 := rfl
theorem r53_10 : zr 53 10 [v0] st u P = zr 53 11 [v0] (.int 4 :: st) u P := zr_I k53_10
theorem k53_11 : xcd 53 11 = oNewA 13 13 := rfl
theorem r53_11 : zr 53 11 [v0] (.int y1 :: st) u P = (((xV u = true ∧ xW u < 1000000) ∧ (0 ≤ y1 ∧ y1 ≤ 2000)) ∧ zr 53 13 [v0] (.ref (xW u) :: st) (xnew u 13 (xix y1) (xix y1)) P) := zr_NewA k53_11
theorem k53_13 : xcd 53 13 = oPR 5 9 16 := rfl
theorem r53_13 : zr 53 13 [v0] (.ref b2 :: .ref b1 :: st) u P = (xIs u b1 5 ∧ zr 53 16 [v0] st (xsR u b1 9 (some b2)) P) := zr_PR k53_13
theorem k53_16 : xcd 53 16 = oAl 0 17 := rfl
theorem r53_16 : zr 53 16 [.ref a0] st u P = zr 53 17 [.ref a0] (.ref a0 :: st) u P := zr_Al k53_16 rfl
theorem k53_17 : xcd 53 17 = oI 4 18 := rfl
theorem r53_17 : zr 53 17 [v0] st u P = zr 53 18 [v0] (.int 4 :: st) u P := zr_I k53_17
theorem k53_18 : xcd 53 18 = oNewA 13 20 := rfl
theorem r53_18 : zr 53 18 [v0] (.int y1 :: st) u P = (((xV u = true ∧ xW u < 1000000) ∧ (0 ≤ y1 ∧ y1 ≤ 2000)) ∧ zr 53 20 [v0] (.ref (xW u) :: st) (xnew u 13 (xix y1) (xix y1)) P) := zr_NewA k53_18
theorem k53_20 : xcd 53 20 = oPR 5 10 23 := rfl
theorem r53_20 : zr 53 20 [v0] (.ref b2 :: .ref b1 :: st) u P = (xIs u b1 5 ∧ zr 53 23 [v0] st (xsR u b1 10 (some b2)) P) := zr_PR k53_20
theorem k53_23 : xcd 53 23 = oAl 0 24 := rfl
theorem r53_23 : zr 53 23 [.ref a0] st u P = zr 53 24 [.ref a0] (.ref a0 :: st) u P := zr_Al k53_23 rfl
theorem k53_24 : xcd 53 24 = oI 4 25 := rfl
theorem r53_24 : zr 53 24 [v0] st u P = zr 53 25 [v0] (.int 4 :: st) u P := zr_I k53_24
theorem k53_25 : xcd 53 25 = oNewA 13 27 := rfl
theorem r53_25 : zr 53 25 [v0] (.int y1 :: st) u P = (((xV u = true ∧ xW u < 1000000) ∧ (0 ≤ y1 ∧ y1 ≤ 2000)) ∧ zr 53 27 [v0] (.ref (xW u) :: st) (xnew u 13 (xix y1) (xix y1)) P) := zr_NewA k53_25
theorem k53_27 : xcd 53 27 = oPR 5 11 30 := rfl
theorem r53_27 : zr 53 27 [v0] (.ref b2 :: .ref b1 :: st) u P = (xIs u b1 5 ∧ zr 53 30 [v0] st (xsR u b1 11 (some b2)) P) := zr_PR k53_27
theorem k53_30 : xcd 53 30 = oAl 0 31 := rfl
theorem r53_30 : zr 53 30 [.ref a0] st u P = zr 53 31 [.ref a0] (.ref a0 :: st) u P := zr_Al k53_30 rfl
theorem k53_31 : xcd 53 31 = oI 4 32 := rfl
theorem r53_31 : zr 53 31 [v0] st u P = zr 53 32 [v0] (.int 4 :: st) u P := zr_I k53_31
theorem k53_32 : xcd 53 32 = oNewA 15 34 := rfl
theorem r53_32 : zr 53 32 [v0] (.int y1 :: st) u P = (((xV u = true ∧ xW u < 1000000) ∧ (0 ≤ y1 ∧ y1 ≤ 2000)) ∧ zr 53 34 [v0] (.ref (xW u) :: st) (xnew u 15 (xix y1) (xix y1)) P) := zr_NewA k53_32
theorem k53_34 : xcd 53 34 = oPR 5 12 37 := rfl
theorem r53_34 : zr 53 34 [v0] (.ref b2 :: .ref b1 :: st) u P = (xIs u b1 5 ∧ zr 53 37 [v0] st (xsR u b1 12 (some b2)) P) := zr_PR k53_34
theorem k53_37 : xcd 53 37 = oRv 0 := rfl
theorem r53_37 : zr 53 37 [v0] [] u P = P none u := zr_Rv k53_37
theorem k62_0 : xcd 62 0 = oAl 0 1 := rfl
theorem r62_0 : zr 62 0 [.ref a0] st u P = zr 62 1 [.ref a0] (.ref a0 :: st) u P := zr_Al k62_0 rfl
theorem k62_1 : xcd 62 1 = oObj 4 := rfl
theorem r62_1 : zr 62 1 [v0] (.ref b1 :: st) u P = (xcat st ≤ 8 ∧ zr 62 4 [v0] st u P) := zr_Obj k62_1
theorem k62_4 : xcd 62 4 = oAl 0 5 := rfl
theorem r62_4 : zr 62 4 [.ref a0] st u P = zr 62 5 [.ref a0] (.ref a0 :: st) u P := zr_Al k62_4 rfl
theorem k62_5 : xcd 62 5 = oI 20 7 := rfl
theorem r62_5 : zr 62 5 [v0] st u P = zr 62 7 [v0] (.int 20 :: st) u P := zr_I k62_5
theorem k62_7 : xcd 62 7 = oNewA 13 9 := rfl
theorem r62_7 : zr 62 7 [v0] (.int y1 :: st) u P = (((xV u = true ∧ xW u < 1000000) ∧ (0 ≤ y1 ∧ y1 ≤ 2000)) ∧ zr 62 9 [v0] (.ref (xW u) :: st) (xnew u 13 (xix y1) (xix y1)) P) := zr_NewA k62_7
theorem k62_9 : xcd 62 9 = oPR 6 1 12 := rfl
theorem r62_9 : zr 62 9 [v0] (.ref b2 :: .ref b1 :: st) u P = (xIs u b1 6 ∧ zr 62 12 [v0] st (xsR u b1 1 (some b2)) P) := zr_PR k62_9
theorem k62_12 : xcd 62 12 = oAl 0 13 := rfl
theorem r62_12 : zr 62 12 [.ref a0] st u P = zr 62 13 [.ref a0] (.ref a0 :: st) u P := zr_Al k62_12 rfl
theorem k62_13 : xcd 62 13 = oI 20 15 := rfl
theorem r62_13 : zr 62 13 [v0] st u P = zr 62 15 [v0] (.int 20 :: st) u P := zr_I k62_13
theorem k62_15 : xcd 62 15 = oNewA 13 17 := rfl
theorem r62_15 : zr 62 15 [v0] (.int y1 :: st) u P = (((xV u = true ∧ xW u < 1000000) ∧ (0 ≤ y1 ∧ y1 ≤ 2000)) ∧ zr 62 17 [v0] (.ref (xW u) :: st) (xnew u 13 (xix y1) (xix y1)) P) := zr_NewA k62_15
theorem k62_17 : xcd 62 17 = oPR 6 2 20 := rfl
theorem r62_17 : zr 62 17 [v0] (.ref b2 :: .ref b1 :: st) u P = (xIs u b1 6 ∧ zr 62 20 [v0] st (xsR u b1 2 (some b2)) P) := zr_PR k62_17
theorem k62_20 : xcd 62 20 = oAl 0 21 := rfl
theorem r62_20 : zr 62 20 [.ref a0] st u P = zr 62 21 [.ref a0] (.ref a0 :: st) u P := zr_Al k62_20 rfl
theorem k62_21 : xcd 62 21 = oI 20 23 := rfl
theorem r62_21 : zr 62 21 [v0] st u P = zr 62 23 [v0] (.int 20 :: st) u P := zr_I k62_21
theorem k62_23 : xcd 62 23 = oNewA 13 25 := rfl
theorem r62_23 : zr 62 23 [v0] (.int y1 :: st) u P = (((xV u = true ∧ xW u < 1000000) ∧ (0 ≤ y1 ∧ y1 ≤ 2000)) ∧ zr 62 25 [v0] (.ref (xW u) :: st) (xnew u 13 (xix y1) (xix y1)) P) := zr_NewA k62_23
theorem k62_25 : xcd 62 25 = oPR 6 3 28 := rfl
theorem r62_25 : zr 62 25 [v0] (.ref b2 :: .ref b1 :: st) u P = (xIs u b1 6 ∧ zr 62 28 [v0] st (xsR u b1 3 (some b2)) P) := zr_PR k62_25
theorem k62_28 : xcd 62 28 = oAl 0 29 := rfl
theorem r62_28 : zr 62 28 [.ref a0] st u P = zr 62 29 [.ref a0] (.ref a0 :: st) u P := zr_Al k62_28 rfl
theorem k62_29 : xcd 62 29 = oI 20 31 := rfl
theorem r62_29 : zr 62 29 [v0] st u P = zr 62 31 [v0] (.int 20 :: st) u P := zr_I k62_29
theorem k62_31 : xcd 62 31 = oNewA 13 33 := rfl
theorem r62_31 : zr 62 31 [v0] (.int y1 :: st) u P = (((xV u = true ∧ xW u < 1000000) ∧ (0 ≤ y1 ∧ y1 ≤ 2000)) ∧ zr 62 33 [v0] (.ref (xW u) :: st) (xnew u 13 (xix y1) (xix y1)) P) := zr_NewA k62_31
theorem k62_33 : xcd 62 33 = oPR 6 4 36 := rfl
theorem r62_33 : zr 62 33 [v0] (.ref b2 :: .ref b1 :: st) u P = (xIs u b1 6 ∧ zr 62 36 [v0] st (xsR u b1 4 (some b2)) P) := zr_PR k62_33
theorem k62_36 : xcd 62 36 = oRv 0 := rfl
theorem r62_36 : zr 62 36 [v0] [] u P = P none u := zr_Rv k62_36
theorem k66_0 : xcd 66 0 = oAl 0 1 := rfl
theorem r66_0 : zr 66 0 [.ref a0] st u P = zr 66 1 [.ref a0] (.ref a0 :: st) u P := zr_Al k66_0 rfl
theorem k66_1 : xcd 66 1 = oObj 4 := rfl
theorem r66_1 : zr 66 1 [v0] (.ref b1 :: st) u P = (xcat st ≤ 8 ∧ zr 66 4 [v0] st u P) := zr_Obj k66_1
theorem k66_4 : xcd 66 4 = oAl 0 5 := rfl
theorem r66_4 : zr 66 4 [.ref a0] st u P = zr 66 5 [.ref a0] (.ref a0 :: st) u P := zr_Al k66_4 rfl
theorem k66_5 : xcd 66 5 = oNew 8 8 8 := rfl
theorem r66_5 : zr 66 5 [v0] st u P = ((xV u = true ∧ xW u < 1000000) ∧ zr 66 8 [v0] (.ref (xW u) :: st) (xnew u 8 0 8) P) := zr_New k66_5
theorem k66_8 : xcd 66 8 = oDup 9 := rfl
theorem r66_8 : zr 66 8 [v0] (.ref b1 :: st) u P = zr 66 9 [v0] (.ref b1 :: .ref b1 :: st) u P := zr_DupA k66_8
theorem k66_9 : xcd 66 9 = oCalV 8 86 0 12 := rfl
theorem r66_9 : zr 66 9 [v0] (.ref b8 :: st) u P = ((xIs u b8 8 ∧ xcat st ≤ 8) ∧ zr 86 0 [.ref b8] [] u (fun r u2 => zr 66 12 [v0] (r.toList ++ st) u2 P)) := zr_CV k66_9 rfl rfl rfl ⟨Nat.le_of_ble_eq_true rfl, Nat.succ_ne_zero _, by decide⟩ rfl
theorem k66_12 : xcd 66 12 = oPR 7 0 15 := rfl
theorem r66_12 : zr 66 12 [v0] (.ref b2 :: .ref b1 :: st) u P = (xIs u b1 7 ∧ zr 66 15 [v0] st (xsR u b1 0 (some b2)) P) := zr_PR k66_12
theorem k66_15 : xcd 66 15 = oAl 0 16 := rfl
theorem r66_15 : zr 66 15 [.ref a0] st u P = zr 66 16 [.ref a0] (.ref a0 :: st) u P := zr_Al k66_15 rfl
theorem k66_16 : xcd 66 16 = oI 6 18 := rfl
theorem r66_16 : zr 66 16 [v0] st u P = zr 66 18 [v0] (.int 6 :: st) u P := zr_I k66_16
theorem k66_18 : xcd 66 18 = oNewA 14 20 := rfl
theorem r66_18 : zr 66 18 [v0] (.int y1 :: st) u P = (((xV u = true ∧ xW u < 1000000) ∧ (0 ≤ y1 ∧ y1 ≤ 2000)) ∧ zr 66 20 [v0] (.ref (xW u) :: st) (xnew u 14 (xix y1) (xix y1)) P) := zr_NewA k66_18
theorem k66_20 : xcd 66 20 = oPR 7 1 23 := rfl
theorem r66_20 : zr 66 20 [v0] (.ref b2 :: .ref b1 :: st) u P = (xIs u b1 7 ∧ zr 66 23 [v0] st (xsR u b1 1 (some b2)) P) := zr_PR k66_20
theorem k66_23 : xcd 66 23 = oAl 0 24 := rfl
theorem r66_23 : zr 66 23 [.ref a0] st u P = zr 66 24 [.ref a0] (.ref a0 :: st) u P := zr_Al k66_23 rfl
theorem k66_24 : xcd 66 24 = oI 10 26 := rfl
theorem r66_24 : zr 66 24 [v0] st u P = zr 66 26 [v0] (.int 10 :: st) u P := zr_I k66_24
theorem k66_26 : xcd 66 26 = oNewA 14 28 := rfl
theorem r66_26 : zr 66 26 [v0] (.int y1 :: st) u P = (((xV u = true ∧ xW u < 1000000) ∧ (0 ≤ y1 ∧ y1 ≤ 2000)) ∧ zr 66 28 [v0] (.ref (xW u) :: st) (xnew u 14 (xix y1) (xix y1)) P) := zr_NewA k66_26
theorem k66_28 : xcd 66 28 = oPR 7 2 31 := rfl
theorem r66_28 : zr 66 28 [v0] (.ref b2 :: .ref b1 :: st) u P = (xIs u b1 7 ∧ zr 66 31 [v0] st (xsR u b1 2 (some b2)) P) := zr_PR k66_28
theorem k66_31 : xcd 66 31 = oAl 0 32 := rfl
theorem r66_31 : zr 66 31 [.ref a0] st u P = zr 66 32 [.ref a0] (.ref a0 :: st) u P := zr_Al k66_31 rfl
theorem k66_32 : xcd 66 32 = oNew 3 3 35 := rfl
theorem r66_32 : zr 66 32 [v0] st u P = ((xV u = true ∧ xW u < 1000000) ∧ zr 66 35 [v0] (.ref (xW u) :: st) (xnew u 3 0 3) P) := zr_New k66_32
theorem k66_35 : xcd 66 35 = oDup 36 := rfl
theorem r66_35 : zr 66 35 [v0] (.ref b1 :: st) u P = zr 66 36 [v0] (.ref b1 :: .ref b1 :: st) u P := zr_DupA k66_35
theorem k66_36 : xcd 66 36 = oCalV 3 34 0 39 := rfl
theorem r66_36 : zr 66 36 [v0] (.ref b8 :: st) u P = ((xIs u b8 3 ∧ xcat st ≤ 8) ∧ zr 34 0 [.ref b8] [] u (fun r u2 => zr 66 39 [v0] (r.toList ++ st) u2 P)) := zr_CV k66_36 rfl rfl rfl ⟨Nat.le_of_ble_eq_true rfl, Nat.succ_ne_zero _, by decide⟩ rfl
theorem k66_39 : xcd 66 39 = oPR 7 3 42 := rfl
theorem r66_39 : zr 66 39 [v0] (.ref b2 :: .ref b1 :: st) u P = (xIs u b1 7 ∧ zr 66 42 [v0] st (xsR u b1 3 (some b2)) P) := zr_PR k66_39
theorem k66_42 : xcd 66 42 = oRv 0 := rfl
theorem r66_42 : zr 66 42 [v0] [] u P = P none u := zr_Rv k66_42
theorem k86_0 : xcd 86 0 = oAl 0 1 := rfl
theorem r86_0 : zr 86 0 [.ref a0] st u P = zr 86 1 [.ref a0] (.ref a0 :: st) u P := zr_Al k86_0 rfl
theorem k86_1 : xcd 86 1 = oObj 4 := rfl
theorem r86_1 : zr 86 1 [v0] (.ref b1 :: st) u P = (xcat st ≤ 8 ∧ zr 86 4 [v0] st u P) := zr_Obj k86_1
theorem k86_4 : xcd 86 4 = oAl 0 5 := rfl
theorem r86_4 : zr 86 4 [.ref a0] st u P = zr 86 5 [.ref a0] (.ref a0 :: st) u P := zr_Al k86_4 rfl
theorem k86_5 : xcd 86 5 = oI 1200 8 := rfl
theorem r86_5 : zr 86 5 [v0] st u P = zr 86 8 [v0] (.int 1200 :: st) u P := zr_I k86_5
theorem k86_8 : xcd 86 8 = oNewA 12 10 := rfl
theorem r86_8 : zr 86 8 [v0] (.int y1 :: st) u P = (((xV u = true ∧ xW u < 1000000) ∧ (0 ≤ y1 ∧ y1 ≤ 2000)) ∧ zr 86 10 [v0] (.ref (xW u) :: st) (xnew u 12 (xix y1) (xix y1)) P) := zr_NewA k86_8
theorem k86_10 : xcd 86 10 = oPR 8 0 13 := rfl
theorem r86_10 : zr 86 10 [v0] (.ref b2 :: .ref b1 :: st) u P = (xIs u b1 8 ∧ zr 86 13 [v0] st (xsR u b1 0 (some b2)) P) := zr_PR k86_10
theorem k86_13 : xcd 86 13 = oRv 0 := rfl
theorem r86_13 : zr 86 13 [v0] [] u P = P none u := zr_Rv k86_13
theorem k94_0 : xcd 94 0 = oAl 0 1 := rfl
theorem r94_0 : zr 94 0 [.ref a0] st u P = zr 94 1 [.ref a0] (.ref a0 :: st) u P := zr_Al k94_0 rfl
theorem k94_1 : xcd 94 1 = oObj 4 := rfl
theorem r94_1 : zr 94 1 [v0] (.ref b1 :: st) u P = (xcat st ≤ 8 ∧ zr 94 4 [v0] st u P) := zr_Obj k94_1
theorem k94_4 : xcd 94 4 = oAl 0 5 := rfl
theorem r94_4 : zr 94 4 [.ref a0] st u P = zr 94 5 [.ref a0] (.ref a0 :: st) u P := zr_Al k94_4 rfl
theorem k94_5 : xcd 94 5 = oI 6 7 := rfl
theorem r94_5 : zr 94 5 [v0] st u P = zr 94 7 [v0] (.int 6 :: st) u P := zr_I k94_5
theorem k94_7 : xcd 94 7 = oNewA 13 9 := rfl
theorem r94_7 : zr 94 7 [v0] (.int y1 :: st) u P = (((xV u = true ∧ xW u < 1000000) ∧ (0 ≤ y1 ∧ y1 ≤ 2000)) ∧ zr 94 9 [v0] (.ref (xW u) :: st) (xnew u 13 (xix y1) (xix y1)) P) := zr_NewA k94_7
theorem k94_9 : xcd 94 9 = oPR 9 1 12 := rfl
theorem r94_9 : zr 94 9 [v0] (.ref b2 :: .ref b1 :: st) u P = (xIs u b1 9 ∧ zr 94 12 [v0] st (xsR u b1 1 (some b2)) P) := zr_PR k94_9
theorem k94_12 : xcd 94 12 = oAl 0 13 := rfl
theorem r94_12 : zr 94 12 [.ref a0] st u P = zr 94 13 [.ref a0] (.ref a0 :: st) u P := zr_Al k94_12 rfl
theorem k94_13 : xcd 94 13 = oNew 6 5 16 := rfl
theorem r94_13 : zr 94 13 [v0] st u P = ((xV u = true ∧ xW u < 1000000) ∧ zr 94 16 [v0] (.ref (xW u) :: st) (xnew u 6 0 5) P) := zr_New k94_13
theorem k94_16 : xcd 94 16 = oDup 17 := rfl
theorem r94_16 : zr 94 16 [v0] (.ref b1 :: st) u P = zr 94 17 [v0] (.ref b1 :: .ref b1 :: st) u P := zr_DupA k94_16
theorem k94_17 : xcd 94 17 = oCalV 6 62 0 20 := rfl
theorem r94_17 : zr 94 17 [v0] (.ref b8 :: st) u P = ((xIs u b8 6 ∧ xcat st ≤ 8) ∧ zr 62 0 [.ref b8] [] u (fun r u2 => zr 94 20 [v0] (r.toList ++ st) u2 P)) := zr_CV k94_17 rfl rfl rfl ⟨Nat.le_of_ble_eq_true rfl, Nat.succ_ne_zero _, by decide⟩ rfl
theorem k94_20 : xcd 94 20 = oPR 9 2 23 := rfl
theorem r94_20 : zr 94 20 [v0] (.ref b2 :: .ref b1 :: st) u P = (xIs u b1 9 ∧ zr 94 23 [v0] st (xsR u b1 2 (some b2)) P) := zr_PR k94_20
theorem k94_23 : xcd 94 23 = oAl 0 24 := rfl
theorem r94_23 : zr 94 23 [.ref a0] st u P = zr 94 24 [.ref a0] (.ref a0 :: st) u P := zr_Al k94_23 rfl
theorem k94_24 : xcd 94 24 = oI 6 26 := rfl
theorem r94_24 : zr 94 24 [v0] st u P = zr 94 26 [v0] (.int 6 :: st) u P := zr_I k94_24
theorem k94_26 : xcd 94 26 = oNewA 13 28 := rfl
theorem r94_26 : zr 94 26 [v0] (.int y1 :: st) u P = (((xV u = true ∧ xW u < 1000000) ∧ (0 ≤ y1 ∧ y1 ≤ 2000)) ∧ zr 94 28 [v0] (.ref (xW u) :: st) (xnew u 13 (xix y1) (xix y1)) P) := zr_NewA k94_26
theorem k94_28 : xcd 94 28 = oPR 9 4 31 := rfl
theorem r94_28 : zr 94 28 [v0] (.ref b2 :: .ref b1 :: st) u P = (xIs u b1 9 ∧ zr 94 31 [v0] st (xsR u b1 4 (some b2)) P) := zr_PR k94_28
theorem k94_31 : xcd 94 31 = oAl 0 32 := rfl
theorem r94_31 : zr 94 31 [.ref a0] st u P = zr 94 32 [.ref a0] (.ref a0 :: st) u P := zr_Al k94_31 rfl
theorem k94_32 : xcd 94 32 = oI 6 34 := rfl
theorem r94_32 : zr 94 32 [v0] st u P = zr 94 34 [v0] (.int 6 :: st) u P := zr_I k94_32
theorem k94_34 : xcd 94 34 = oNewA 13 36 := rfl
theorem r94_34 : zr 94 34 [v0] (.int y1 :: st) u P = (((xV u = true ∧ xW u < 1000000) ∧ (0 ≤ y1 ∧ y1 ≤ 2000)) ∧ zr 94 36 [v0] (.ref (xW u) :: st) (xnew u 13 (xix y1) (xix y1)) P) := zr_NewA k94_34
theorem k94_36 : xcd 94 36 = oPR 9 5 39 := rfl
theorem r94_36 : zr 94 36 [v0] (.ref b2 :: .ref b1 :: st) u P = (xIs u b1 9 ∧ zr 94 39 [v0] st (xsR u b1 5 (some b2)) P) := zr_PR k94_36
theorem k94_39 : xcd 94 39 = oAl 0 40 := rfl
theorem r94_39 : zr 94 39 [.ref a0] st u P = zr 94 40 [.ref a0] (.ref a0 :: st) u P := zr_Al k94_39 rfl
theorem k94_40 : xcd 94 40 = oI 6 42 := rfl
theorem r94_40 : zr 94 40 [v0] st u P = zr 94 42 [v0] (.int 6 :: st) u P := zr_I k94_40
theorem k94_42 : xcd 94 42 = oNewA 13 44 := rfl
theorem r94_42 : zr 94 42 [v0] (.int y1 :: st) u P = (((xV u = true ∧ xW u < 1000000) ∧ (0 ≤ y1 ∧ y1 ≤ 2000)) ∧ zr 94 44 [v0] (.ref (xW u) :: st) (xnew u 13 (xix y1) (xix y1)) P) := zr_NewA k94_42
theorem k94_44 : xcd 94 44 = oPR 9 6 47 := rfl
theorem r94_44 : zr 94 44 [v0] (.ref b2 :: .ref b1 :: st) u P = (xIs u b1 9 ∧ zr 94 47 [v0] st (xsR u b1 6 (some b2)) P) := zr_PR k94_44
theorem k94_47 : xcd 94 47 = oAl 0 48 := rfl
theorem r94_47 : zr 94 47 [.ref a0] st u P = zr 94 48 [.ref a0] (.ref a0 :: st) u P := zr_Al k94_47 rfl
theorem k94_48 : xcd 94 48 = oI 6 50 := rfl
theorem r94_48 : zr 94 48 [v0] st u P = zr 94 50 [v0] (.int 6 :: st) u P := zr_I k94_48
theorem k94_50 : xcd 94 50 = oNewA 13 52 := rfl
theorem r94_50 : zr 94 50 [v0] (.int y1 :: st) u P = (((xV u = true ∧ xW u < 1000000) ∧ (0 ≤ y1 ∧ y1 ≤ 2000)) ∧ zr 94 52 [v0] (.ref (xW u) :: st) (xnew u 13 (xix y1) (xix y1)) P) := zr_NewA k94_50
theorem k94_52 : xcd 94 52 = oPR 9 7 55 := rfl
theorem r94_52 : zr 94 52 [v0] (.ref b2 :: .ref b1 :: st) u P = (xIs u b1 9 ∧ zr 94 55 [v0] st (xsR u b1 7 (some b2)) P) := zr_PR k94_52
theorem k94_55 : xcd 94 55 = oAl 0 56 := rfl
theorem r94_55 : zr 94 55 [.ref a0] st u P = zr 94 56 [.ref a0] (.ref a0 :: st) u P := zr_Al k94_55 rfl
theorem k94_56 : xcd 94 56 = oI 6 58 := rfl
theorem r94_56 : zr 94 56 [v0] st u P = zr 94 58 [v0] (.int 6 :: st) u P := zr_I k94_56
theorem k94_58 : xcd 94 58 = oNewA 13 60 := rfl
theorem r94_58 : zr 94 58 [v0] (.int y1 :: st) u P = (((xV u = true ∧ xW u < 1000000) ∧ (0 ≤ y1 ∧ y1 ≤ 2000)) ∧ zr 94 60 [v0] (.ref (xW u) :: st) (xnew u 13 (xix y1) (xix y1)) P) := zr_NewA k94_58
theorem k94_60 : xcd 94 60 = oPR 9 8 63 := rfl
theorem r94_60 : zr 94 60 [v0] (.ref b2 :: .ref b1 :: st) u P = (xIs u b1 9 ∧ zr 94 63 [v0] st (xsR u b1 8 (some b2)) P) := zr_PR k94_60
theorem k94_63 : xcd 94 63 = oAl 0 64 := rfl
theorem r94_63 : zr 94 63 [.ref a0] st u P = zr 94 64 [.ref a0] (.ref a0 :: st) u P := zr_Al k94_63 rfl
theorem k94_64 : xcd 94 64 = oI 6 66 := rfl
theorem r94_64 : zr 94 64 [v0] st u P = zr 94 66 [v0] (.int 6 :: st) u P := zr_I k94_64
theorem k94_66 : xcd 94 66 = oNewA 13 68 := rfl
theorem r94_66 : zr 94 66 [v0] (.int y1 :: st) u P = (((xV u = true ∧ xW u < 1000000) ∧ (0 ≤ y1 ∧ y1 ≤ 2000)) ∧ zr 94 68 [v0] (.ref (xW u) :: st) (xnew u 13 (xix y1) (xix y1)) P) := zr_NewA k94_66
theorem k94_68 : xcd 94 68 = oPR 9 10 71 := rfl
theorem r94_68 : zr 94 68 [v0] (.ref b2 :: .ref b1 :: st) u P = (xIs u b1 9 ∧ zr 94 71 [v0] st (xsR u b1 10 (some b2)) P) := zr_PR k94_68
theorem k94_71 : xcd 94 71 = oAl 0 72 := rfl
theorem r94_71 : zr 94 71 [.ref a0] st u P = zr 94 72 [.ref a0] (.ref a0 :: st) u P := zr_Al k94_71 rfl
theorem k94_72 : xcd 94 72 = oI 6 74 := rfl
theorem r94_72 : zr 94 72 [v0] st u P = zr 94 74 [v0] (.int 6 :: st) u P := zr_I k94_72
theorem k94_74 : xcd 94 74 = oNewA 13 76 := rfl
theorem r94_74 : zr 94 74 [v0] (.int y1 :: st) u P = (((xV u = true ∧ xW u < 1000000) ∧ (0 ≤ y1 ∧ y1 ≤ 2000)) ∧ zr 94 76 [v0] (.ref (xW u) :: st) (xnew u 13 (xix y1) (xix y1)) P) := zr_NewA k94_74
theorem k94_76 : xcd 94 76 = oPR 9 11 79 := rfl
theorem r94_76 : zr 94 76 [v0] (.ref b2 :: .ref b1 :: st) u P = (xIs u b1 9 ∧ zr 94 79 [v0] st (xsR u b1 11 (some b2)) P) := zr_PR k94_76
theorem k94_79 : xcd 94 79 = oAl 0 80 := rfl
theorem r94_79 : zr 94 79 [.ref a0] st u P = zr 94 80 [.ref a0] (.ref a0 :: st) u P := zr_Al k94_79 rfl
theorem k94_80 : xcd 94 80 = oI 6 82 := rfl
theorem r94_80 : zr 94 80 [v0] st u P = zr 94 82 [v0] (.int 6 :: st) u P := zr_I k94_80
theorem k94_82 : xcd 94 82 = oNewA 13 84 := rfl
theorem r94_82 : zr 94 82 [v0] (.int y1 :: st) u P = (((xV u = true ∧ xW u < 1000000) ∧ (0 ≤ y1 ∧ y1 ≤ 2000)) ∧ zr 94 84 [v0] (.ref (xW u) :: st) (xnew u 13 (xix y1) (xix y1)) P) := zr_NewA k94_82
theorem k94_84 : xcd 94 84 = oPR 9 12 87 := rfl
theorem r94_84 : zr 94 84 [v0] (.ref b2 :: .ref b1 :: st) u P = (xIs u b1 9 ∧ zr 94 87 [v0] st (xsR u b1 12 (some b2)) P) := zr_PR k94_84
theorem k94_87 : xcd 94 87 = oRv 0 := rfl
theorem r94_87 : zr 94 87 [v0] [] u P = P none u := zr_Rv k94_87
theorem k106_0 : xcd 106 0 = oAl 0 1 := rfl
theorem r106_0 : zr 106 0 [.ref a0] st u P = zr 106 1 [.ref a0] (.ref a0 :: st) u P := zr_Al k106_0 rfl
theorem k106_1 : xcd 106 1 = oObj 4 := rfl
theorem r106_1 : zr 106 1 [v0] (.ref b1 :: st) u P = (xcat st ≤ 8 ∧ zr 106 4 [v0] st u P) := zr_Obj k106_1
theorem k106_4 : xcd 106 4 = oAl 0 5 := rfl
theorem r106_4 : zr 106 4 [.ref a0] st u P = zr 106 5 [.ref a0] (.ref a0 :: st) u P := zr_Al k106_4 rfl
theorem k106_5 : xcd 106 5 = oNew 7 7 8 := rfl
theorem r106_5 : zr 106 5 [v0] st u P = ((xV u = true ∧ xW u < 1000000) ∧ zr 106 8 [v0] (.ref (xW u) :: st) (xnew u 7 0 7) P) := zr_New k106_5
theorem k106_8 : xcd 106 8 = oDup 9 := rfl
theorem r106_8 : zr 106 8 [v0] (.ref b1 :: st) u P = zr 106 9 [v0] (.ref b1 :: .ref b1 :: st) u P := zr_DupA k106_8
theorem k106_9 : xcd 106 9 = oCalV 7 66 0 12 := rfl
theorem r106_9 : zr 106 9 [v0] (.ref b8 :: st) u P = ((xIs u b8 7 ∧ xcat st ≤ 8) ∧ zr 66 0 [.ref b8] [] u (fun r u2 => zr 106 12 [v0] (r.toList ++ st) u2 P)) := zr_CV k106_9 rfl rfl rfl ⟨Nat.le_of_ble_eq_true rfl, Nat.succ_ne_zero _, by decide⟩ rfl
theorem k106_12 : xcd 106 12 = oPR 10 0 15 := rfl
theorem r106_12 : zr 106 12 [v0] (.ref b2 :: .ref b1 :: st) u P = (xIs u b1 10 ∧ zr 106 15 [v0] st (xsR u b1 0 (some b2)) P) := zr_PR k106_12
theorem k106_15 : xcd 106 15 = oAl 0 16 := rfl
theorem r106_15 : zr 106 15 [.ref a0] st u P = zr 106 16 [.ref a0] (.ref a0 :: st) u P := zr_Al k106_15 rfl
theorem k106_16 : xcd 106 16 = oNew 3 3 19 := rfl
theorem r106_16 : zr 106 16 [v0] st u P = ((xV u = true ∧ xW u < 1000000) ∧ zr 106 19 [v0] (.ref (xW u) :: st) (xnew u 3 0 3) P) := zr_New k106_16
theorem k106_19 : xcd 106 19 = oDup 20 := rfl
theorem r106_19 : zr 106 19 [v0] (.ref b1 :: st) u P = zr 106 20 [v0] (.ref b1 :: .ref b1 :: st) u P := zr_DupA k106_19
theorem k106_20 : xcd 106 20 = oCalV 3 34 0 23 := rfl
theorem r106_20 : zr 106 20 [v0] (.ref b8 :: st) u P = ((xIs u b8 3 ∧ xcat st ≤ 8) ∧ zr 34 0 [.ref b8] [] u (fun r u2 => zr 106 23 [v0] (r.toList ++ st) u2 P)) := zr_CV k106_20 rfl rfl rfl ⟨Nat.le_of_ble_eq_true rfl, Nat.succ_ne_zero _, by decide⟩ rfl
theorem k106_23 : xcd 106 23 = oPR 10 1 26 := rfl
theorem r106_23 : zr 106 23 [v0] (.ref b2 :: .ref b1 :: st) u P = (xIs u b1 10 ∧ zr 106 26 [v0] st (xsR u b1 1 (some b2)) P) := zr_PR k106_23
theorem k106_26 : xcd 106 26 = oAl 0 27 := rfl
theorem r106_26 : zr 106 26 [.ref a0] st u P = zr 106 27 [.ref a0] (.ref a0 :: st) u P := zr_Al k106_26 rfl
theorem k106_27 : xcd 106 27 = oNew 1 8 30 := rfl
theorem r106_27 : zr 106 27 [v0] st u P = ((xV u = true ∧ xW u < 1000000) ∧ zr 106 30 [v0] (.ref (xW u) :: st) (xnew u 1 0 8) P) := zr_New k106_27
theorem k106_30 : xcd 106 30 = oDup 31 := rfl
theorem r106_30 : zr 106 30 [v0] (.ref b1 :: st) u P = zr 106 31 [v0] (.ref b1 :: .ref b1 :: st) u P := zr_DupA k106_30
theorem k106_31 : xcd 106 31 = oCalV 1 6 0 34 := rfl
theorem r106_31 : zr 106 31 [v0] (.ref b8 :: st) u P = ((xIs u b8 1 ∧ xcat st ≤ 8) ∧ zr 6 0 [.ref b8, .null] [] u (fun r u2 => zr 106 34 [v0] (r.toList ++ st) u2 P)) := zr_CV k106_31 rfl rfl rfl ⟨Nat.le_of_ble_eq_true rfl, Nat.succ_ne_zero _, by decide⟩ rfl
theorem k106_34 : xcd 106 34 = oPR 10 3 37 := rfl
theorem r106_34 : zr 106 34 [v0] (.ref b2 :: .ref b1 :: st) u P = (xIs u b1 10 ∧ zr 106 37 [v0] st (xsR u b1 3 (some b2)) P) := zr_PR k106_34
theorem k106_37 : xcd 106 37 = oAl 0 38 := rfl
theorem r106_37 : zr 106 37 [.ref a0] st u P = zr 106 38 [.ref a0] (.ref a0 :: st) u P := zr_Al k106_37 rfl
theorem k106_38 : xcd 106 38 = oNew 0 4 41 := rfl
theorem r106_38 : zr 106 38 [v0] st u P = ((xV u = true ∧ xW u < 1000000) ∧ zr 106 41 [v0] (.ref (xW u) :: st) (xnew u 0 0 4) P) := zr_New k106_38
theorem k106_41 : xcd 106 41 = oDup 42 := rfl
theorem r106_41 : zr 106 41 [v0] (.ref b1 :: st) u P = zr 106 42 [v0] (.ref b1 :: .ref b1 :: st) u P := zr_DupA k106_41
theorem k106_42 : xcd 106 42 = oCalV 0 3 0 45 := rfl
theorem r106_42 : zr 106 42 [v0] (.ref b8 :: st) u P = ((xIs u b8 0 ∧ xcat st ≤ 8) ∧ zr 3 0 [.ref b8] [] u (fun r u2 => zr 106 45 [v0] (r.toList ++ st) u2 P)) := zr_CV k106_42 rfl rfl rfl ⟨Nat.le_of_ble_eq_true rfl, Nat.succ_ne_zero _, by decide⟩ rfl
theorem k106_45 : xcd 106 45 = oPR 10 4 48 := rfl
theorem r106_45 : zr 106 45 [v0] (.ref b2 :: .ref b1 :: st) u P = (xIs u b1 10 ∧ zr 106 48 [v0] st (xsR u b1 4 (some b2)) P) := zr_PR k106_45
theorem k106_48 : xcd 106 48 = oAl 0 49 := rfl
theorem r106_48 : zr 106 48 [.ref a0] st u P = zr 106 49 [.ref a0] (.ref a0 :: st) u P := zr_Al k106_48 rfl
theorem k106_49 : xcd 106 49 = oNew 5 13 52 := rfl
theorem r106_49 : zr 106 49 [v0] st u P = ((xV u = true ∧ xW u < 1000000) ∧ zr 106 52 [v0] (.ref (xW u) :: st) (xnew u 5 0 13) P) := zr_New k106_49
theorem k106_52 : xcd 106 52 = oDup 53 := rfl
theorem r106_52 : zr 106 52 [v0] (.ref b1 :: st) u P = zr 106 53 [v0] (.ref b1 :: .ref b1 :: st) u P := zr_DupA k106_52
theorem k106_53 : xcd 106 53 = oCalV 5 53 0 56 := rfl
theorem r106_53 : zr 106 53 [v0] (.ref b8 :: st) u P = ((xIs u b8 5 ∧ xcat st ≤ 8) ∧ zr 53 0 [.ref b8] [] u (fun r u2 => zr 106 56 [v0] (r.toList ++ st) u2 P)) := zr_CV k106_53 rfl rfl rfl ⟨Nat.le_of_ble_eq_true rfl, Nat.succ_ne_zero _, by decide⟩ rfl
theorem k106_56 : xcd 106 56 = oPR 10 5 59 := rfl
theorem r106_56 : zr 106 56 [v0] (.ref b2 :: .ref b1 :: st) u P = (xIs u b1 10 ∧ zr 106 59 [v0] st (xsR u b1 5 (some b2)) P) := zr_PR k106_56
theorem k106_59 : xcd 106 59 = oRv 0 := rfl
theorem r106_59 : zr 106 59 [v0] [] u P = P none u := zr_Rv k106_59
theorem k170_0 : xcd 170 0 = oAl 0 1 := rfl
theorem r170_0 : zr 170 0 [.ref a0] st u P = zr 170 1 [.ref a0] (.ref a0 :: st) u P := zr_Al k170_0 rfl
theorem k170_1 : xcd 170 1 = oObj 4 := rfl
theorem r170_1 : zr 170 1 [v0] (.ref b1 :: st) u P = (xcat st ≤ 8 ∧ zr 170 4 [v0] st u P) := zr_Obj k170_1
theorem k170_4 : xcd 170 4 = oAl 0 5 := rfl
theorem r170_4 : zr 170 4 [.ref a0] st u P = zr 170 5 [.ref a0] (.ref a0 :: st) u P := zr_Al k170_4 rfl
theorem k170_5 : xcd 170 5 = oI (-1) 6 := rfl
theorem r170_5 : zr 170 5 [v0] st u P = zr 170 6 [v0] (.int (-1) :: st) u P := zr_I k170_5
theorem k170_6 : xcd 170 6 = oPI 11 2 9 := rfl
theorem r170_6 : zr 170 6 [v0] (.int y1 :: .ref b1 :: st) u P = (xIs u b1 11 ∧ zr 170 9 [v0] st (xsI u b1 2 y1) P) := zr_PI k170_6
theorem k170_9 : xcd 170 9 = oAl 0 10 := rfl
theorem r170_9 : zr 170 9 [.ref a0] st u P = zr 170 10 [.ref a0] (.ref a0 :: st) u P := zr_Al k170_9 rfl
theorem k170_10 : xcd 170 10 = oI 402 13 := rfl
theorem r170_10 : zr 170 10 [v0] st u P = zr 170 13 [v0] (.int 402 :: st) u P := zr_I k170_10
theorem k170_13 : xcd 170 13 = oNewA 13 15 := rfl
theorem r170_13 : zr 170 13 [v0] (.int y1 :: st) u P = (((xV u = true ∧ xW u < 1000000) ∧ (0 ≤ y1 ∧ y1 ≤ 2000)) ∧ zr 170 15 [v0] (.ref (xW u) :: st) (xnew u 13 (xix y1) (xix y1)) P) := zr_NewA k170_13
theorem k170_15 : xcd 170 15 = oPR 11 3 18 := rfl
theorem r170_15 : zr 170 15 [v0] (.ref b2 :: .ref b1 :: st) u P = (xIs u b1 11 ∧ zr 170 18 [v0] st (xsR u b1 3 (some b2)) P) := zr_PR k170_15
theorem k170_18 : xcd 170 18 = oAl 0 19 := rfl
theorem r170_18 : zr 170 18 [.ref a0] st u P = zr 170 19 [.ref a0] (.ref a0 :: st) u P := zr_Al k170_18 rfl
theorem k170_19 : xcd 170 19 = oI 402 22 := rfl
theorem r170_19 : zr 170 19 [v0] st u P = zr 170 22 [v0] (.int 402 :: st) u P := zr_I k170_19
theorem k170_22 : xcd 170 22 = oNewA 13 24 := rfl
theorem r170_22 : zr 170 22 [v0] (.int y1 :: st) u P = (((xV u = true ∧ xW u < 1000000) ∧ (0 ≤ y1 ∧ y1 ≤ 2000)) ∧ zr 170 24 [v0] (.ref (xW u) :: st) (xnew u 13 (xix y1) (xix y1)) P) := zr_NewA k170_22
theorem k170_24 : xcd 170 24 = oPR 11 4 27 := rfl
theorem r170_24 : zr 170 24 [v0] (.ref b2 :: .ref b1 :: st) u P = (xIs u b1 11 ∧ zr 170 27 [v0] st (xsR u b1 4 (some b2)) P) := zr_PR k170_24
theorem k170_27 : xcd 170 27 = oAl 0 28 := rfl
theorem r170_27 : zr 170 27 [.ref a0] st u P = zr 170 28 [.ref a0] (.ref a0 :: st) u P := zr_Al k170_27 rfl
theorem k170_28 : xcd 170 28 = oI 6 30 := rfl
theorem r170_28 : zr 170 28 [v0] st u P = zr 170 30 [v0] (.int 6 :: st) u P := zr_I k170_28
theorem k170_30 : xcd 170 30 = oNewA 14 32 := rfl
theorem r170_30 : zr 170 30 [v0] (.int y1 :: st) u P = (((xV u = true ∧ xW u < 1000000) ∧ (0 ≤ y1 ∧ y1 ≤ 2000)) ∧ zr 170 32 [v0] (.ref (xW u) :: st) (xnew u 14 (xix y1) (xix y1)) P) := zr_NewA k170_30
theorem k170_32 : xcd 170 32 = oPR 11 5 35 := rfl
theorem r170_32 : zr 170 32 [v0] (.ref b2 :: .ref b1 :: st) u P = (xIs u b1 11 ∧ zr 170 35 [v0] st (xsR u b1 5 (some b2)) P) := zr_PR k170_32
theorem k170_35 : xcd 170 35 = oAl 0 36 := rfl
theorem r170_35 : zr 170 35 [.ref a0] st u P = zr 170 36 [.ref a0] (.ref a0 :: st) u P := zr_Al k170_35 rfl
theorem k170_36 : xcd 170 36 = oI 10 38 := rfl
theorem r170_36 : zr 170 36 [v0] st u P = zr 170 38 [v0] (.int 10 :: st) u P := zr_I k170_36
theorem k170_38 : xcd 170 38 = oNewA 14 40 := rfl
theorem r170_38 : zr 170 38 [v0] (.int y1 :: st) u P = (((xV u = true ∧ xW u < 1000000) ∧ (0 ≤ y1 ∧ y1 ≤ 2000)) ∧ zr 170 40 [v0] (.ref (xW u) :: st) (xnew u 14 (xix y1) (xix y1)) P) := zr_NewA k170_38
theorem k170_40 : xcd 170 40 = oPR 11 6 43 := rfl
theorem r170_40 : zr 170 40 [v0] (.ref b2 :: .ref b1 :: st) u P = (xIs u b1 11 ∧ zr 170 43 [v0] st (xsR u b1 6 (some b2)) P) := zr_PR k170_40
theorem k170_43 : xcd 170 43 = oAl 0 44 := rfl
theorem r170_43 : zr 170 43 [.ref a0] st u P = zr 170 44 [.ref a0] (.ref a0 :: st) u P := zr_Al k170_43 rfl
theorem k170_44 : xcd 170 44 = oI 1200 47 := rfl
theorem r170_44 : zr 170 44 [v0] st u P = zr 170 47 [v0] (.int 1200 :: st) u P := zr_I k170_44
theorem k170_47 : xcd 170 47 = oNewA 12 49 := rfl
theorem r170_47 : zr 170 47 [v0] (.int y1 :: st) u P = (((xV u = true ∧ xW u < 1000000) ∧ (0 ≤ y1 ∧ y1 ≤ 2000)) ∧ zr 170 49 [v0] (.ref (xW u) :: st) (xnew u 12 (xix y1) (xix y1)) P) := zr_NewA k170_47
theorem k170_49 : xcd 170 49 = oPR 11 8 52 := rfl
theorem r170_49 : zr 170 49 [v0] (.ref b2 :: .ref b1 :: st) u P = (xIs u b1 11 ∧ zr 170 52 [v0] st (xsR u b1 8 (some b2)) P) := zr_PR k170_49
theorem k170_52 : xcd 170 52 = oAl 0 53 := rfl
theorem r170_52 : zr 170 52 [.ref a0] st u P = zr 170 53 [.ref a0] (.ref a0 :: st) u P := zr_Al k170_52 rfl
theorem k170_53 : xcd 170 53 = oI 4 54 := rfl
theorem r170_53 : zr 170 53 [v0] st u P = zr 170 54 [v0] (.int 4 :: st) u P := zr_I k170_53
theorem k170_54 : xcd 170 54 = oNewA 13 56 := rfl
theorem r170_54 : zr 170 54 [v0] (.int y1 :: st) u P = (((xV u = true ∧ xW u < 1000000) ∧ (0 ≤ y1 ∧ y1 ≤ 2000)) ∧ zr 170 56 [v0] (.ref (xW u) :: st) (xnew u 13 (xix y1) (xix y1)) P) := zr_NewA k170_54
theorem k170_56 : xcd 170 56 = oPR 11 17 59 := rfl
theorem r170_56 : zr 170 56 [v0] (.ref b2 :: .ref b1 :: st) u P = (xIs u b1 11 ∧ zr 170 59 [v0] st (xsR u b1 17 (some b2)) P) := zr_PR k170_56
theorem k170_59 : xcd 170 59 = oAl 0 60 := rfl
theorem r170_59 : zr 170 59 [.ref a0] st u P = zr 170 60 [.ref a0] (.ref a0 :: st) u P := zr_Al k170_59 rfl
theorem k170_60 : xcd 170 60 = oI 4 61 := rfl
theorem r170_60 : zr 170 60 [v0] st u P = zr 170 61 [v0] (.int 4 :: st) u P := zr_I k170_60
theorem k170_61 : xcd 170 61 = oNewA 13 63 := rfl
theorem r170_61 : zr 170 61 [v0] (.int y1 :: st) u P = (((xV u = true ∧ xW u < 1000000) ∧ (0 ≤ y1 ∧ y1 ≤ 2000)) ∧ zr 170 63 [v0] (.ref (xW u) :: st) (xnew u 13 (xix y1) (xix y1)) P) := zr_NewA k170_61
theorem k170_63 : xcd 170 63 = oPR 11 18 66 := rfl
theorem r170_63 : zr 170 63 [v0] (.ref b2 :: .ref b1 :: st) u P = (xIs u b1 11 ∧ zr 170 66 [v0] st (xsR u b1 18 (some b2)) P) := zr_PR k170_63
theorem k170_66 : xcd 170 66 = oAl 0 67 := rfl
theorem r170_66 : zr 170 66 [.ref a0] st u P = zr 170 67 [.ref a0] (.ref a0 :: st) u P := zr_Al k170_66 rfl
theorem k170_67 : xcd 170 67 = oI 1000 70 := rfl
theorem r170_67 : zr 170 67 [v0] st u P = zr 170 70 [v0] (.int 1000 :: st) u P := zr_I k170_67
theorem k170_70 : xcd 170 70 = oNewA 13 72 := rfl
theorem r170_70 : zr 170 70 [v0] (.int y1 :: st) u P = (((xV u = true ∧ xW u < 1000000) ∧ (0 ≤ y1 ∧ y1 ≤ 2000)) ∧ zr 170 72 [v0] (.ref (xW u) :: st) (xnew u 13 (xix y1) (xix y1)) P) := zr_NewA k170_70
theorem k170_72 : xcd 170 72 = oPR 11 19 75 := rfl
theorem r170_72 : zr 170 72 [v0] (.ref b2 :: .ref b1 :: st) u P = (xIs u b1 11 ∧ zr 170 75 [v0] st (xsR u b1 19 (some b2)) P) := zr_PR k170_72
theorem k170_75 : xcd 170 75 = oAl 0 76 := rfl
theorem r170_75 : zr 170 75 [.ref a0] st u P = zr 170 76 [.ref a0] (.ref a0 :: st) u P := zr_Al k170_75 rfl
theorem k170_76 : xcd 170 76 = oI 60 78 := rfl
theorem r170_76 : zr 170 76 [v0] st u P = zr 170 78 [v0] (.int 60 :: st) u P := zr_I k170_76
theorem k170_78 : xcd 170 78 = oNewA 13 80 := rfl
theorem r170_78 : zr 170 78 [v0] (.int y1 :: st) u P = (((xV u = true ∧ xW u < 1000000) ∧ (0 ≤ y1 ∧ y1 ≤ 2000)) ∧ zr 170 80 [v0] (.ref (xW u) :: st) (xnew u 13 (xix y1) (xix y1)) P) := zr_NewA k170_78
theorem k170_80 : xcd 170 80 = oPR 11 21 83 := rfl
theorem r170_80 : zr 170 80 [v0] (.ref b2 :: .ref b1 :: st) u P = (xIs u b1 11 ∧ zr 170 83 [v0] st (xsR u b1 21 (some b2)) P) := zr_PR k170_80
theorem k170_83 : xcd 170 83 = oAl 0 84 := rfl
theorem r170_83 : zr 170 83 [.ref a0] st u P = zr 170 84 [.ref a0] (.ref a0 :: st) u P := zr_Al k170_83 rfl
theorem k170_84 : xcd 170 84 = oI 60 86 := rfl
theorem r170_84 : zr 170 84 [v0] st u P = zr 170 86 [v0] (.int 60 :: st) u P := zr_I k170_84
theorem k170_86 : xcd 170 86 = oNewA 13 88 := rfl
theorem r170_86 : zr 170 86 [v0] (.int y1 :: st) u P = (((xV u = true ∧ xW u < 1000000) ∧ (0 ≤ y1 ∧ y1 ≤ 2000)) ∧ zr 170 88 [v0] (.ref (xW u) :: st) (xnew u 13 (xix y1) (xix y1)) P) := zr_NewA k170_86
theorem k170_88 : xcd 170 88 = oPR 11 22 91 := rfl
theorem r170_88 : zr 170 88 [v0] (.ref b2 :: .ref b1 :: st) u P = (xIs u b1 11 ∧ zr 170 91 [v0] st (xsR u b1 22 (some b2)) P) := zr_PR k170_88
theorem k170_91 : xcd 170 91 = oAl 0 92 := rfl
theorem r170_91 : zr 170 91 [.ref a0] st u P = zr 170 92 [.ref a0] (.ref a0 :: st) u P := zr_Al k170_91 rfl
theorem k170_92 : xcd 170 92 = oI 60 94 := rfl
theorem r170_92 : zr 170 92 [v0] st u P = zr 170 94 [v0] (.int 60 :: st) u P := zr_I k170_92
theorem k170_94 : xcd 170 94 = oNewA 13 96 := rfl
theorem r170_94 : zr 170 94 [v0] (.int y1 :: st) u P = (((xV u = true ∧ xW u < 1000000) ∧ (0 ≤ y1 ∧ y1 ≤ 2000)) ∧ zr 170 96 [v0] (.ref (xW u) :: st) (xnew u 13 (xix y1) (xix y1)) P) := zr_NewA k170_94
theorem k170_96 : xcd 170 96 = oPR 11 23 99 := rfl
theorem r170_96 : zr 170 96 [v0] (.ref b2 :: .ref b1 :: st) u P = (xIs u b1 11 ∧ zr 170 99 [v0] st (xsR u b1 23 (some b2)) P) := zr_PR k170_96
theorem k170_99 : xcd 170 99 = oAl 0 100 := rfl
theorem r170_99 : zr 170 99 [.ref a0] st u P = zr 170 100 [.ref a0] (.ref a0 :: st) u P := zr_Al k170_99 rfl
theorem k170_100 : xcd 170 100 = oI 12 102 := rfl
theorem r170_100 : zr 170 100 [v0] st u P = zr 170 102 [v0] (.int 12 :: st) u P := zr_I k170_100
theorem k170_102 : xcd 170 102 = oNewA 13 104 := rfl
theorem r170_102 : zr 170 102 [v0] (.int y1 :: st) u P = (((xV u = true ∧ xW u < 1000000) ∧ (0 ≤ y1 ∧ y1 ≤ 2000)) ∧ zr 170 104 [v0] (.ref (xW u) :: st) (xnew u 13 (xix y1) (xix y1)) P) := zr_NewA k170_102
theorem k170_104 : xcd 170 104 = oPR 11 25 107 := rfl
theorem r170_104 : zr 170 104 [v0] (.ref b2 :: .ref b1 :: st) u P = (xIs u b1 11 ∧ zr 170 107 [v0] st (xsR u b1 25 (some b2)) P) := zr_PR k170_104
theorem k170_107 : xcd 170 107 = oAl 0 108 := rfl
theorem r170_107 : zr 170 107 [.ref a0] st u P = zr 170 108 [.ref a0] (.ref a0 :: st) u P := zr_Al k170_107 rfl
theorem k170_108 : xcd 170 108 = oI 120 110 := rfl
theorem r170_108 : zr 170 108 [v0] st u P = zr 170 110 [v0] (.int 120 :: st) u P := zr_I k170_108
theorem k170_110 : xcd 170 110 = oNewA 13 112 := rfl
theorem r170_110 : zr 170 110 [v0] (.int y1 :: st) u P = (((xV u = true ∧ xW u < 1000000) ∧ (0 ≤ y1 ∧ y1 ≤ 2000)) ∧ zr 170 112 [v0] (.ref (xW u) :: st) (xnew u 13 (xix y1) (xix y1)) P) := zr_NewA k170_110
theorem k170_112 : xcd 170 112 = oPR 11 26 115 := rfl
theorem r170_112 : zr 170 112 [v0] (.ref b2 :: .ref b1 :: st) u P = (xIs u b1 11 ∧ zr 170 115 [v0] st (xsR u b1 26 (some b2)) P) := zr_PR k170_112
theorem k170_115 : xcd 170 115 = oAl 0 116 := rfl
theorem r170_115 : zr 170 115 [.ref a0] st u P = zr 170 116 [.ref a0] (.ref a0 :: st) u P := zr_Al k170_115 rfl
theorem k170_116 : xcd 170 116 = oI 8 118 := rfl
theorem r170_116 : zr 170 116 [v0] st u P = zr 170 118 [v0] (.int 8 :: st) u P := zr_I k170_116
theorem k170_118 : xcd 170 118 = oNewA 13 120 := rfl
theorem r170_118 : zr 170 118 [v0] (.int y1 :: st) u P = (((xV u = true ∧ xW u < 1000000) ∧ (0 ≤ y1 ∧ y1 ≤ 2000)) ∧ zr 170 120 [v0] (.ref (xW u) :: st) (xnew u 13 (xix y1) (xix y1)) P) := zr_NewA k170_118
theorem k170_120 : xcd 170 120 = oPR 11 28 123 := rfl
theorem r170_120 : zr 170 120 [v0] (.ref b2 :: .ref b1 :: st) u P = (xIs u b1 11 ∧ zr 170 123 [v0] st (xsR u b1 28 (some b2)) P) := zr_PR k170_120
theorem k170_123 : xcd 170 123 = oAl 0 124 := rfl
theorem r170_123 : zr 170 123 [.ref a0] st u P = zr 170 124 [.ref a0] (.ref a0 :: st) u P := zr_Al k170_123 rfl
theorem k170_124 : xcd 170 124 = oI 8 126 := rfl
theorem r170_124 : zr 170 124 [v0] st u P = zr 170 126 [v0] (.int 8 :: st) u P := zr_I k170_124
theorem k170_126 : xcd 170 126 = oNewA 13 128 := rfl
theorem r170_126 : zr 170 126 [v0] (.int y1 :: st) u P = (((xV u = true ∧ xW u < 1000000) ∧ (0 ≤ y1 ∧ y1 ≤ 2000)) ∧ zr 170 128 [v0] (.ref (xW u) :: st) (xnew u 13 (xix y1) (xix y1)) P) := zr_NewA k170_126
theorem k170_128 : xcd 170 128 = oPR 11 29 131 := rfl
theorem r170_128 : zr 170 128 [v0] (.ref b2 :: .ref b1 :: st) u P = (xIs u b1 11 ∧ zr 170 131 [v0] st (xsR u b1 29 (some b2)) P) := zr_PR k170_128
theorem k170_131 : xcd 170 131 = oAl 0 132 := rfl
theorem r170_131 : zr 170 131 [.ref a0] st u P = zr 170 132 [.ref a0] (.ref a0 :: st) u P := zr_Al k170_131 rfl
theorem k170_132 : xcd 170 132 = oI 8 134 := rfl
theorem r170_132 : zr 170 132 [v0] st u P = zr 170 134 [v0] (.int 8 :: st) u P := zr_I k170_132
theorem k170_134 : xcd 170 134 = oNewA 13 136 := rfl
theorem r170_134 : zr 170 134 [v0] (.int y1 :: st) u P = (((xV u = true ∧ xW u < 1000000) ∧ (0 ≤ y1 ∧ y1 ≤ 2000)) ∧ zr 170 136 [v0] (.ref (xW u) :: st) (xnew u 13 (xix y1) (xix y1)) P) := zr_NewA k170_134
theorem k170_136 : xcd 170 136 = oPR 11 30 139 := rfl
theorem r170_136 : zr 170 136 [v0] (.ref b2 :: .ref b1 :: st) u P = (xIs u b1 11 ∧ zr 170 139 [v0] st (xsR u b1 30 (some b2)) P) := zr_PR k170_136
theorem k170_139 : xcd 170 139 = oRv 0 := rfl
theorem r170_139 : zr 170 139 [v0] [] u P = P none u := zr_Rv k170_139
end
