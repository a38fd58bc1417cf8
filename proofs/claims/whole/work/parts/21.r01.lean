/-! rows of X4_pileMask, X4_nextPile, X4_countShared, X4_countSettled, X4_countPiled, X5_sell, X5_addPart, X5_partBase, X5_partTax, X5_taxOf, X5_mentions, X5_tells, X5_tellsPart, X6_latest, X6_nextFree, X6_add, X7_reads, X7_isWhole, X7_fails, X7_failsAt, X7_readLine, X7_starts, X7_readDesk, X7_readClass, X7_readPlace, X7_readBound, X7_readCorners, X7_readRate, X7_readHoliday, X7_readCap, X7_readWord, X7_readWhole, X7_readNewName, X7_readName, X7_indexOf, X8_append -/
section
variable {u : xMem} {P : Option Value → xMem → Prop} {st : List Value} {v0 v1 v2 v3 v4 v5 v6 v7 v8 v9 v10 v11 v12 v13 v14 v15 : Value} {x0 x1 x2 x3 x4 x5 x6 x7 x8 x9 x10 x11 x12 x13 x14 x15 : Int32} {a0 a1 a2 a3 a4 a5 a6 a7 a8 a9 a10 a11 a12 a13 a14 a15 : Nat} {j0 j1 j2 j3 j4 j5 j6 j7 j8 j9 j10 j11 j12 j13 j14 j15 : Int64} {y1 y2 y3 y4 y5 y6 y7 y8 : Int32} {b1 b2 b3 b4 b5 b6 b7 b8 : Nat} {w1 w2 w3 w4 : Int64}
theorem k48_0 : xcd 48 0 = oAl 0 1 := rfl
theorem r48_0 : zr 48 0 [.ref a0, v1, v2, v3, v4, v5] st u P = zr 48 1 [.ref a0, v1, v2, v3, v4, v5] (.ref a0 :: st) u P := zr_Al k48_0 rfl
theorem k48_1 : xcd 48 1 = oIl 1 2 := rfl
theorem r48_1 : zr 48 1 [v0, .int x1, v2, v3, v4, v5] st u P = zr 48 2 [v0, .int x1, v2, v3, v4, v5] (.int x1 :: st) u P := zr_Il k48_1 rfl
theorem k48_2 : xcd 48 2 = oCalV 4 45 1 5 := rfl
theorem r48_2 : zr 48 2 [v0, v1, v2, v3, v4, v5] (.int y1 :: .ref b8 :: st) u P = ((xIs u b8 4 ∧ xcat st ≤ 8) ∧ zr 45 0 [.ref b8, .int y1, .null] [] u (fun r u2 => zr 48 5 [v0, v1, v2, v3, v4, v5] (r.toList ++ st) u2 P)) := zr_CV k48_2 rfl rfl rfl ⟨Nat.le_of_ble_eq_true rfl, Nat.succ_ne_zero _, by decide⟩ rfl
theorem k48_5 : xcd 48 5 = oAl 0 6 := rfl
theorem r48_5 : zr 48 5 [.ref a0, v1, v2, v3, v4, v5] st u P = zr 48 6 [.ref a0, v1, v2, v3, v4, v5] (.ref a0 :: st) u P := zr_Al k48_5 rfl
theorem k48_6 : xcd 48 6 = oIl 2 7 := rfl
theorem r48_6 : zr 48 6 [v0, v1, .int x2, v3, v4, v5] st u P = zr 48 7 [v0, v1, .int x2, v3, v4, v5] (.int x2 :: st) u P := zr_Il k48_6 rfl
theorem k48_7 : xcd 48 7 = oIl 3 8 := rfl
theorem r48_7 : zr 48 7 [v0, v1, v2, .int x3, v4, v5] st u P = zr 48 8 [v0, v1, v2, .int x3, v4, v5] (.int x3 :: st) u P := zr_Il k48_7 rfl
theorem k48_8 : xcd 48 8 = oCalV 4 47 2 11 := rfl
theorem r48_8 : zr 48 8 [v0, v1, v2, v3, v4, v5] (.int y2 :: .int y1 :: .ref b8 :: st) u P = ((xIs u b8 4 ∧ xcat st ≤ 8) ∧ zr 47 0 [.ref b8, .int y1, .int y2, .null, .null] [] u (fun r u2 => zr 48 11 [v0, v1, v2, v3, v4, v5] (r.toList ++ st) u2 P)) := zr_CV k48_8 rfl rfl rfl ⟨Nat.le_of_ble_eq_true rfl, Nat.succ_ne_zero _, by decide⟩ rfl
theorem k48_11 : xcd 48 11 = oI 0 12 := rfl
theorem r48_11 : zr 48 11 [v0, v1, v2, v3, v4, v5] st u P = zr 48 12 [v0, v1, v2, v3, v4, v5] (.int 0 :: st) u P := zr_I k48_11
theorem k48_12 : xcd 48 12 = oIs 4 14 := rfl
theorem r48_12 : zr 48 12 [v0, v1, v2, .int x3, v4, v5] (.int y1 :: st) u P = zr 48 14 [v0, v1, v2, .int x3, .int y1, v5] st u P := zr_Is k48_12 ⟨Nat.le_of_ble_eq_true rfl, rfl⟩
theorem k48_14 : xcd 48 14 = oI 0 15 := rfl
theorem r48_14 : zr 48 14 [v0, v1, v2, v3, v4, v5] st u P = zr 48 15 [v0, v1, v2, v3, v4, v5] (.int 0 :: st) u P := zr_I k48_14
theorem k48_15 : xcd 48 15 = oIs 5 17 := rfl
theorem r48_15 : zr 48 15 [v0, v1, v2, v3, .int x4, v5] (.int y1 :: st) u P = zr 48 17 [v0, v1, v2, v3, .int x4, .int y1] st u P := zr_Is k48_15 ⟨Nat.le_of_ble_eq_true rfl, rfl⟩
theorem k48_17 : xcd 48 17 = oIl 5 19 := rfl
theorem r48_17 : zr 48 17 [v0, v1, v2, v3, v4, .int x5] st u P = zr 48 19 [v0, v1, v2, v3, v4, .int x5] (.int x5 :: st) u P := zr_Il k48_17 rfl
theorem k48_19 : xcd 48 19 = oAl 0 20 := rfl
theorem r48_19 : zr 48 19 [.ref a0, v1, v2, v3, v4, v5] st u P = zr 48 20 [.ref a0, v1, v2, v3, v4, v5] (.ref a0 :: st) u P := zr_Al k48_19 rfl
theorem k48_20 : xcd 48 20 = oGI 4 8 23 := rfl
theorem r48_20 : zr 48 20 [v0, v1, v2, v3, v4, v5] (.ref b1 :: st) u P = (xIs u b1 4 ∧ zr 48 23 [v0, v1, v2, v3, v4, v5] (.int (xI u b1 8) :: st) u P) := zr_GI k48_20
theorem k48_23 : xcd 48 23 = oCmp (fun x y => decide (y ≤ x)) 46 26 := rfl
theorem r48_23 : zr 48 23 [v0, v1, v2, v3, v4, v5] (.int y1 :: .int y2 :: st) u P = (if y1 ≤ y2 then zr 48 46 [v0, v1, v2, v3, v4, v5] st u P else zr 48 26 [v0, v1, v2, v3, v4, v5] st u P) := zr_Cmp k48_23
theorem k48_26 : xcd 48 26 = oIl 4 28 := rfl
theorem r48_26 : zr 48 26 [v0, v1, v2, v3, .int x4, v5] st u P = zr 48 28 [v0, v1, v2, v3, .int x4, v5] (.int x4 :: st) u P := zr_Il k48_26 rfl
theorem k48_28 : xcd 48 28 = oI 1 29 := rfl
theorem r48_28 : zr 48 28 [v0, v1, v2, v3, v4, v5] st u P = zr 48 29 [v0, v1, v2, v3, v4, v5] (.int 1 :: st) u P := zr_I k48_28
theorem k48_29 : xcd 48 29 = oAl 0 30 := rfl
theorem r48_29 : zr 48 29 [.ref a0, v1, v2, v3, v4, v5] st u P = zr 48 30 [.ref a0, v1, v2, v3, v4, v5] (.ref a0 :: st) u P := zr_Al k48_29 rfl
theorem k48_30 : xcd 48 30 = oGR 4 7 33 := rfl
theorem r48_30 : zr 48 30 [v0, v1, v2, v3, v4, v5] (.ref b1 :: st) u P = (xIs u b1 4 ∧ ∃ b, xR u b1 7 = some b ∧ zr 48 33 [v0, v1, v2, v3, v4, v5] (.ref b :: st) u P) := zr_GR k48_30
theorem k48_33 : xcd 48 33 = oIl 5 35 := rfl
theorem r48_33 : zr 48 33 [v0, v1, v2, v3, v4, .int x5] st u P = zr 48 35 [v0, v1, v2, v3, v4, .int x5] (.int x5 :: st) u P := zr_Il k48_33 rfl
theorem k48_35 : xcd 48 35 = oLd 13 36 := rfl
theorem r48_35 : zr 48 35 [v0, v1, v2, v3, v4, v5] (.int y1 :: .ref b1 :: st) u P = ((xIs u b1 13 ∧ xinb y1 (xN u b1)) ∧ zr 48 36 [v0, v1, v2, v3, v4, v5] (.int (xI u b1 (xix y1)) :: st) u P) := zr_Ld k48_35
theorem k48_36 : xcd 48 36 = oB (fun x y => x <<< (y &&& 31)) 37 := rfl
theorem r48_36 : zr 48 36 [v0, v1, v2, v3, v4, v5] (.int y1 :: .int y2 :: st) u P = zr 48 37 [v0, v1, v2, v3, v4, v5] (.int (y2 <<< (y1 &&& 31)) :: st) u P := zr_B k48_36
theorem k48_37 : xcd 48 37 = oB (fun x y => x ||| y) 38 := rfl
theorem r48_37 : zr 48 37 [v0, v1, v2, v3, v4, v5] (.int y1 :: .int y2 :: st) u P = zr 48 38 [v0, v1, v2, v3, v4, v5] (.int (y2 ||| y1) :: st) u P := zr_B k48_37
theorem k48_38 : xcd 48 38 = oIs 4 40 := rfl
theorem r48_38 : zr 48 38 [v0, v1, v2, .int x3, v4, v5] (.int y1 :: st) u P = zr 48 40 [v0, v1, v2, .int x3, .int y1, v5] st u P := zr_Is k48_38 ⟨Nat.le_of_ble_eq_true rfl, rfl⟩
theorem k48_40 : xcd 48 40 = oInc 5 1 43 := rfl
theorem r48_40 : zr 48 40 [v0, v1, v2, v3, .int x4, .int x5] st u P = zr 48 43 [v0, v1, v2, v3, .int x4, .int (x5 + 1)] st u P := zr_Inc k48_40 rfl rfl
theorem k48_43 : xcd 48 43 = oGoto 17 := rfl
theorem r48_43 : zr 48 43 [v0, v1, v2, v3, v4, v5] st u P = zr 48 17 [v0, v1, v2, v3, v4, v5] st u P := zr_Goto k48_43
theorem k48_46 : xcd 48 46 = oIl 4 48 := rfl
theorem r48_46 : zr 48 46 [v0, v1, v2, v3, .int x4, v5] st u P = zr 48 48 [v0, v1, v2, v3, .int x4, v5] (.int x4 :: st) u P := zr_Il k48_46 rfl
theorem k48_48 : xcd 48 48 = oRi 0 := rfl
theorem r48_48 : zr 48 48 [v0, v1, v2, v3, v4, v5] [.int y1] u P = P (some (.int y1)) u := zr_Ri k48_48
theorem k49_0 : xcd 49 0 = oAl 0 1 := rfl
theorem r49_0 : zr 49 0 [.ref a0, v1, v2, v3, v4, v5, v6] st u P = zr 49 1 [.ref a0, v1, v2, v3, v4, v5, v6] (.ref a0 :: st) u P := zr_Al k49_0 rfl
theorem k49_1 : xcd 49 1 = oIl 1 2 := rfl
theorem r49_1 : zr 49 1 [v0, .int x1, v2, v3, v4, v5, v6] st u P = zr 49 2 [v0, .int x1, v2, v3, v4, v5, v6] (.int x1 :: st) u P := zr_Il k49_1 rfl
theorem k49_2 : xcd 49 2 = oIl 2 3 := rfl
theorem r49_2 : zr 49 2 [v0, v1, .int x2, v3, v4, v5, v6] st u P = zr 49 3 [v0, v1, .int x2, v3, v4, v5, v6] (.int x2 :: st) u P := zr_Il k49_2 rfl
theorem k49_3 : xcd 49 3 = oIl 3 4 := rfl
theorem r49_3 : zr 49 3 [v0, v1, v2, .int x3, v4, v5, v6] st u P = zr 49 4 [v0, v1, v2, .int x3, v4, v5, v6] (.int x3 :: st) u P := zr_Il k49_3 rfl
theorem k49_4 : xcd 49 4 = oCalV 4 48 3 7 := rfl
theorem r49_4 : zr 49 4 [v0, v1, v2, v3, v4, v5, v6] (.int y3 :: .int y2 :: .int y1 :: .ref b8 :: st) u P = ((xIs u b8 4 ∧ xcat st ≤ 8) ∧ zr 48 0 [.ref b8, .int y1, .int y2, .int y3, .null, .null] [] u (fun r u2 => zr 49 7 [v0, v1, v2, v3, v4, v5, v6] (r.toList ++ st) u2 P)) := zr_CV k49_4 rfl rfl rfl ⟨Nat.le_of_ble_eq_true rfl, Nat.succ_ne_zero _, by decide⟩ rfl
theorem k49_7 : xcd 49 7 = oIs 4 9 := rfl
theorem r49_7 : zr 49 7 [v0, v1, v2, .int x3, v4, v5, v6] (.int y1 :: st) u P = zr 49 9 [v0, v1, v2, .int x3, .int y1, v5, v6] st u P := zr_Is k49_7 ⟨Nat.le_of_ble_eq_true rfl, rfl⟩
theorem k49_9 : xcd 49 9 = oAl 0 10 := rfl
theorem r49_9 : zr 49 9 [.ref a0, v1, v2, v3, v4, v5, v6] st u P = zr 49 10 [.ref a0, v1, v2, v3, v4, v5, v6] (.ref a0 :: st) u P := zr_Al k49_9 rfl
theorem k49_10 : xcd 49 10 = oGR 4 5 13 := rfl
theorem r49_10 : zr 49 10 [v0, v1, v2, v3, v4, v5, v6] (.ref b1 :: st) u P = (xIs u b1 4 ∧ ∃ b, xR u b1 5 = some b ∧ zr 49 13 [v0, v1, v2, v3, v4, v5, v6] (.ref b :: st) u P) := zr_GR k49_10
theorem k49_13 : xcd 49 13 = oIl 1 14 := rfl
theorem r49_13 : zr 49 13 [v0, .int x1, v2, v3, v4, v5, v6] st u P = zr 49 14 [v0, .int x1, v2, v3, v4, v5, v6] (.int x1 :: st) u P := zr_Il k49_13 rfl
theorem k49_14 : xcd 49 14 = oCalV 2 24 1 17 := rfl
theorem r49_14 : zr 49 14 [v0, v1, v2, v3, v4, v5, v6] (.int y1 :: .ref b8 :: st) u P = ((xIs u b8 2 ∧ xcat st ≤ 8) ∧ zr 24 0 [.ref b8, .int y1, .null, .null] [] u (fun r u2 => zr 49 17 [v0, v1, v2, v3, v4, v5, v6] (r.toList ++ st) u2 P)) := zr_CV k49_14 rfl rfl rfl ⟨Nat.le_of_ble_eq_true rfl, Nat.succ_ne_zero _, by decide⟩ rfl
theorem k49_17 : xcd 49 17 = oIs 5 19 := rfl
theorem r49_17 : zr 49 17 [v0, v1, v2, v3, .int x4, v5, v6] (.int y1 :: st) u P = zr 49 19 [v0, v1, v2, v3, .int x4, .int y1, v6] st u P := zr_Is k49_17 ⟨Nat.le_of_ble_eq_true rfl, rfl⟩
theorem k49_19 : xcd 49 19 = oI 0 20 := rfl
theorem r49_19 : zr 49 19 [v0, v1, v2, v3, v4, v5, v6] st u P = zr 49 20 [v0, v1, v2, v3, v4, v5, v6] (.int 0 :: st) u P := zr_I k49_19
theorem k49_20 : xcd 49 20 = oIs 6 22 := rfl
theorem r49_20 : zr 49 20 [v0, v1, v2, v3, v4, .int x5, v6] (.int y1 :: st) u P = zr 49 22 [v0, v1, v2, v3, v4, .int x5, .int y1] st u P := zr_Is k49_20 ⟨Nat.le_of_ble_eq_true rfl, rfl⟩
theorem k49_22 : xcd 49 22 = oIl 6 24 := rfl
theorem r49_22 : zr 49 22 [v0, v1, v2, v3, v4, v5, .int x6] st u P = zr 49 24 [v0, v1, v2, v3, v4, v5, .int x6] (.int x6 :: st) u P := zr_Il k49_22 rfl
theorem k49_24 : xcd 49 24 = oI 16 26 := rfl
theorem r49_24 : zr 49 24 [v0, v1, v2, v3, v4, v5, v6] st u P = zr 49 26 [v0, v1, v2, v3, v4, v5, v6] (.int 16 :: st) u P := zr_I k49_24
theorem k49_26 : xcd 49 26 = oCmp (fun x y => decide (y ≤ x)) 70 29 := rfl
theorem r49_26 : zr 49 26 [v0, v1, v2, v3, v4, v5, v6] (.int y1 :: .int y2 :: st) u P = (if y1 ≤ y2 then zr 49 70 [v0, v1, v2, v3, v4, v5, v6] st u P else zr 49 29 [v0, v1, v2, v3, v4, v5, v6] st u P) := zr_Cmp k49_26
theorem k49_29 : xcd 49 29 = oIl 5 31 := rfl
theorem r49_29 : zr 49 29 [v0, v1, v2, v3, v4, .int x5, v6] st u P = zr 49 31 [v0, v1, v2, v3, v4, .int x5, v6] (.int x5 :: st) u P := zr_Il k49_29 rfl
theorem k49_31 : xcd 49 31 = oI 999 34 := rfl
theorem r49_31 : zr 49 31 [v0, v1, v2, v3, v4, v5, v6] st u P = zr 49 34 [v0, v1, v2, v3, v4, v5, v6] (.int 999 :: st) u P := zr_I k49_31
theorem k49_34 : xcd 49 34 = oCmp (fun x y => decide (y < x)) 70 37 := rfl
theorem r49_34 : zr 49 34 [v0, v1, v2, v3, v4, v5, v6] (.int y1 :: .int y2 :: st) u P = (if y1 < y2 then zr 49 70 [v0, v1, v2, v3, v4, v5, v6] st u P else zr 49 37 [v0, v1, v2, v3, v4, v5, v6] st u P) := zr_Cmp k49_34
theorem k49_37 : xcd 49 37 = oAl 0 38 := rfl
theorem r49_37 : zr 49 37 [.ref a0, v1, v2, v3, v4, v5, v6] st u P = zr 49 38 [.ref a0, v1, v2, v3, v4, v5, v6] (.ref a0 :: st) u P := zr_Al k49_37 rfl
theorem k49_38 : xcd 49 38 = oIl 5 40 := rfl
theorem r49_38 : zr 49 38 [v0, v1, v2, v3, v4, .int x5, v6] st u P = zr 49 40 [v0, v1, v2, v3, v4, .int x5, v6] (.int x5 :: st) u P := zr_Il k49_38 rfl
theorem k49_40 : xcd 49 40 = oIl 2 41 := rfl
theorem r49_40 : zr 49 40 [v0, v1, .int x2, v3, v4, v5, v6] st u P = zr 49 41 [v0, v1, .int x2, v3, v4, v5, v6] (.int x2 :: st) u P := zr_Il k49_40 rfl
theorem k49_41 : xcd 49 41 = oIl 3 42 := rfl
theorem r49_41 : zr 49 41 [v0, v1, v2, .int x3, v4, v5, v6] st u P = zr 49 42 [v0, v1, v2, .int x3, v4, v5, v6] (.int x3 :: st) u P := zr_Il k49_41 rfl
theorem k49_42 : xcd 49 42 = oCalV 4 48 3 45 := rfl
theorem r49_42 : zr 49 42 [v0, v1, v2, v3, v4, v5, v6] (.int y3 :: .int y2 :: .int y1 :: .ref b8 :: st) u P = ((xIs u b8 4 ∧ xcat st ≤ 8) ∧ zr 48 0 [.ref b8, .int y1, .int y2, .int y3, .null, .null] [] u (fun r u2 => zr 49 45 [v0, v1, v2, v3, v4, v5, v6] (r.toList ++ st) u2 P)) := zr_CV k49_42 rfl rfl rfl ⟨Nat.le_of_ble_eq_true rfl, Nat.succ_ne_zero _, by decide⟩ rfl
theorem k49_45 : xcd 49 45 = oIl 4 47 := rfl
theorem r49_45 : zr 49 45 [v0, v1, v2, v3, .int x4, v5, v6] st u P = zr 49 47 [v0, v1, v2, v3, .int x4, v5, v6] (.int x4 :: st) u P := zr_Il k49_45 rfl
theorem k49_47 : xcd 49 47 = oCmp (fun x y => decide (x = y)) 53 50 := rfl
theorem r49_47 : zr 49 47 [v0, v1, v2, v3, v4, v5, v6] (.int y1 :: .int y2 :: st) u P = (if y2 = y1 then zr 49 53 [v0, v1, v2, v3, v4, v5, v6] st u P else zr 49 50 [v0, v1, v2, v3, v4, v5, v6] st u P) := zr_Cmp k49_47
theorem k49_50 : xcd 49 50 = oIl 5 52 := rfl
theorem r49_50 : zr 49 50 [v0, v1, v2, v3, v4, .int x5, v6] st u P = zr 49 52 [v0, v1, v2, v3, v4, .int x5, v6] (.int x5 :: st) u P := zr_Il k49_50 rfl
theorem k49_52 : xcd 49 52 = oRi 0 := rfl
theorem r49_52 : zr 49 52 [v0, v1, v2, v3, v4, v5, v6] [.int y1] u P = P (some (.int y1)) u := zr_Ri k49_52
theorem k49_53 : xcd 49 53 = oAl 0 54 := rfl
theorem r49_53 : zr 49 53 [.ref a0, v1, v2, v3, v4, v5, v6] st u P = zr 49 54 [.ref a0, v1, v2, v3, v4, v5, v6] (.ref a0 :: st) u P := zr_Al k49_53 rfl
theorem k49_54 : xcd 49 54 = oGR 4 5 57 := rfl
theorem r49_54 : zr 49 54 [v0, v1, v2, v3, v4, v5, v6] (.ref b1 :: st) u P = (xIs u b1 4 ∧ ∃ b, xR u b1 5 = some b ∧ zr 49 57 [v0, v1, v2, v3, v4, v5, v6] (.ref b :: st) u P) := zr_GR k49_54
theorem k49_57 : xcd 49 57 = oIl 5 59 := rfl
theorem r49_57 : zr 49 57 [v0, v1, v2, v3, v4, .int x5, v6] st u P = zr 49 59 [v0, v1, v2, v3, v4, .int x5, v6] (.int x5 :: st) u P := zr_Il k49_57 rfl
theorem k49_59 : xcd 49 59 = oCalV 2 24 1 62 := rfl
theorem r49_59 : zr 49 59 [v0, v1, v2, v3, v4, v5, v6] (.int y1 :: .ref b8 :: st) u P = ((xIs u b8 2 ∧ xcat st ≤ 8) ∧ zr 24 0 [.ref b8, .int y1, .null, .null] [] u (fun r u2 => zr 49 62 [v0, v1, v2, v3, v4, v5, v6] (r.toList ++ st) u2 P)) := zr_CV k49_59 rfl rfl rfl ⟨Nat.le_of_ble_eq_true rfl, Nat.succ_ne_zero _, by decide⟩ rfl
theorem k49_62 : xcd 49 62 = oIs 5 64 := rfl
theorem r49_62 : zr 49 62 [v0, v1, v2, v3, .int x4, v5, v6] (.int y1 :: st) u P = zr 49 64 [v0, v1, v2, v3, .int x4, .int y1, v6] st u P := zr_Is k49_62 ⟨Nat.le_of_ble_eq_true rfl, rfl⟩
theorem k49_64 : xcd 49 64 = oInc 6 1 67 := rfl
theorem r49_64 : zr 49 64 [v0, v1, v2, v3, v4, .int x5, .int x6] st u P = zr 49 67 [v0, v1, v2, v3, v4, .int x5, .int (x6 + 1)] st u P := zr_Inc k49_64 rfl rfl
theorem k49_67 : xcd 49 67 = oGoto 22 := rfl
theorem r49_67 : zr 49 67 [v0, v1, v2, v3, v4, v5, v6] st u P = zr 49 22 [v0, v1, v2, v3, v4, v5, v6] st u P := zr_Goto k49_67
theorem k49_70 : xcd 49 70 = oI (-2) 72 := rfl
theorem r49_70 : zr 49 70 [v0, v1, v2, v3, v4, v5, v6] st u P = zr 49 72 [v0, v1, v2, v3, v4, v5, v6] (.int (-2) :: st) u P := zr_I k49_70
theorem k49_72 : xcd 49 72 = oRi 0 := rfl
theorem r49_72 : zr 49 72 [v0, v1, v2, v3, v4, v5, v6] [.int y1] u P = P (some (.int y1)) u := zr_Ri k49_72
theorem k50_0 : xcd 50 0 = oI 0 1 := rfl
theorem r50_0 : zr 50 0 [v0, v1, v2, v3, v4, v5] st u P = zr 50 1 [v0, v1, v2, v3, v4, v5] (.int 0 :: st) u P := zr_I k50_0
theorem k50_1 : xcd 50 1 = oIs 3 2 := rfl
theorem r50_1 : zr 50 1 [v0, v1, .int x2, v3, v4, v5] (.int y1 :: st) u P = zr 50 2 [v0, v1, .int x2, .int y1, v4, v5] st u P := zr_Is k50_1 ⟨Nat.le_of_ble_eq_true rfl, rfl⟩
theorem k50_2 : xcd 50 2 = oI 0 3 := rfl
theorem r50_2 : zr 50 2 [v0, v1, v2, v3, v4, v5] st u P = zr 50 3 [v0, v1, v2, v3, v4, v5] (.int 0 :: st) u P := zr_I k50_2
theorem k50_3 : xcd 50 3 = oIs 4 5 := rfl
theorem r50_3 : zr 50 3 [v0, v1, v2, .int x3, v4, v5] (.int y1 :: st) u P = zr 50 5 [v0, v1, v2, .int x3, .int y1, v5] st u P := zr_Is k50_3 ⟨Nat.le_of_ble_eq_true rfl, rfl⟩
theorem k50_5 : xcd 50 5 = oIl 4 7 := rfl
theorem r50_5 : zr 50 5 [v0, v1, v2, v3, .int x4, v5] st u P = zr 50 7 [v0, v1, v2, v3, .int x4, v5] (.int x4 :: st) u P := zr_Il k50_5 rfl
theorem k50_7 : xcd 50 7 = oAl 0 8 := rfl
theorem r50_7 : zr 50 7 [.ref a0, v1, v2, v3, v4, v5] st u P = zr 50 8 [.ref a0, v1, v2, v3, v4, v5] (.ref a0 :: st) u P := zr_Al k50_7 rfl
theorem k50_8 : xcd 50 8 = oGI 4 0 11 := rfl
theorem r50_8 : zr 50 8 [v0, v1, v2, v3, v4, v5] (.ref b1 :: st) u P = (xIs u b1 4 ∧ zr 50 11 [v0, v1, v2, v3, v4, v5] (.int (xI u b1 0) :: st) u P) := zr_GI k50_8
theorem k50_11 : xcd 50 11 = oCmp (fun x y => decide (y < x)) 89 14 := rfl
theorem r50_11 : zr 50 11 [v0, v1, v2, v3, v4, v5] (.int y1 :: .int y2 :: st) u P = (if y1 < y2 then zr 50 89 [v0, v1, v2, v3, v4, v5] st u P else zr 50 14 [v0, v1, v2, v3, v4, v5] st u P) := zr_Cmp k50_11
theorem k50_14 : xcd 50 14 = oI 0 15 := rfl
theorem r50_14 : zr 50 14 [v0, v1, v2, v3, v4, v5] st u P = zr 50 15 [v0, v1, v2, v3, v4, v5] (.int 0 :: st) u P := zr_I k50_14
theorem k50_15 : xcd 50 15 = oIs 5 17 := rfl
theorem r50_15 : zr 50 15 [v0, v1, v2, v3, .int x4, v5] (.int y1 :: st) u P = zr 50 17 [v0, v1, v2, v3, .int x4, .int y1] st u P := zr_Is k50_15 ⟨Nat.le_of_ble_eq_true rfl, rfl⟩
theorem k50_17 : xcd 50 17 = oIl 5 19 := rfl
theorem r50_17 : zr 50 17 [v0, v1, v2, v3, v4, .int x5] st u P = zr 50 19 [v0, v1, v2, v3, v4, .int x5] (.int x5 :: st) u P := zr_Il k50_17 rfl
theorem k50_19 : xcd 50 19 = oAl 0 20 := rfl
theorem r50_19 : zr 50 19 [.ref a0, v1, v2, v3, v4, v5] st u P = zr 50 20 [.ref a0, v1, v2, v3, v4, v5] (.ref a0 :: st) u P := zr_Al k50_19 rfl
theorem k50_20 : xcd 50 20 = oGI 4 0 23 := rfl
theorem r50_20 : zr 50 20 [v0, v1, v2, v3, v4, v5] (.ref b1 :: st) u P = (xIs u b1 4 ∧ zr 50 23 [v0, v1, v2, v3, v4, v5] (.int (xI u b1 0) :: st) u P) := zr_GI k50_20
theorem k50_23 : xcd 50 23 = oCmp (fun x y => decide (y < x)) 83 26 := rfl
theorem r50_23 : zr 50 23 [v0, v1, v2, v3, v4, v5] (.int y1 :: .int y2 :: st) u P = (if y1 < y2 then zr 50 83 [v0, v1, v2, v3, v4, v5] st u P else zr 50 26 [v0, v1, v2, v3, v4, v5] st u P) := zr_Cmp k50_23
theorem k50_26 : xcd 50 26 = oIl 3 27 := rfl
theorem r50_26 : zr 50 26 [v0, v1, v2, .int x3, v4, v5] st u P = zr 50 27 [v0, v1, v2, .int x3, v4, v5] (.int x3 :: st) u P := zr_Il k50_26 rfl
theorem k50_27 : xcd 50 27 = oAl 0 28 := rfl
theorem r50_27 : zr 50 27 [.ref a0, v1, v2, v3, v4, v5] st u P = zr 50 28 [.ref a0, v1, v2, v3, v4, v5] (.ref a0 :: st) u P := zr_Al k50_27 rfl
theorem k50_28 : xcd 50 28 = oGR 4 5 31 := rfl
theorem r50_28 : zr 50 28 [v0, v1, v2, v3, v4, v5] (.ref b1 :: st) u P = (xIs u b1 4 ∧ ∃ b, xR u b1 5 = some b ∧ zr 50 31 [v0, v1, v2, v3, v4, v5] (.ref b :: st) u P) := zr_GR k50_28
theorem k50_31 : xcd 50 31 = oAl 0 32 := rfl
theorem r50_31 : zr 50 31 [.ref a0, v1, v2, v3, v4, v5] st u P = zr 50 32 [.ref a0, v1, v2, v3, v4, v5] (.ref a0 :: st) u P := zr_Al k50_31 rfl
theorem k50_32 : xcd 50 32 = oGR 4 6 35 := rfl
theorem r50_32 : zr 50 32 [v0, v1, v2, v3, v4, v5] (.ref b1 :: st) u P = (xIs u b1 4 ∧ ∃ b, xR u b1 6 = some b ∧ zr 50 35 [v0, v1, v2, v3, v4, v5] (.ref b :: st) u P) := zr_GR k50_32
theorem k50_35 : xcd 50 35 = oIl 1 36 := rfl
theorem r50_35 : zr 50 35 [v0, .int x1, v2, v3, v4, v5] st u P = zr 50 36 [v0, .int x1, v2, v3, v4, v5] (.int x1 :: st) u P := zr_Il k50_35 rfl
theorem k50_36 : xcd 50 36 = oLd 13 37 := rfl
theorem r50_36 : zr 50 36 [v0, v1, v2, v3, v4, v5] (.int y1 :: .ref b1 :: st) u P = ((xIs u b1 13 ∧ xinb y1 (xN u b1)) ∧ zr 50 37 [v0, v1, v2, v3, v4, v5] (.int (xI u b1 (xix y1)) :: st) u P) := zr_Ld k50_36
theorem k50_37 : xcd 50 37 = oIl 5 39 := rfl
theorem r50_37 : zr 50 37 [v0, v1, v2, v3, v4, .int x5] st u P = zr 50 39 [v0, v1, v2, v3, v4, .int x5] (.int x5 :: st) u P := zr_Il k50_37 rfl
theorem k50_39 : xcd 50 39 = oIl 4 41 := rfl
theorem r50_39 : zr 50 39 [v0, v1, v2, v3, .int x4, v5] st u P = zr 50 41 [v0, v1, v2, v3, .int x4, v5] (.int x4 :: st) u P := zr_Il k50_39 rfl
theorem k50_41 : xcd 50 41 = oCalV 2 26 3 44 := rfl
theorem r50_41 : zr 50 41 [v0, v1, v2, v3, v4, v5] (.int y3 :: .int y2 :: .int y1 :: .ref b8 :: st) u P = ((xIs u b8 2 ∧ xcat st ≤ 8) ∧ zr 26 0 [.ref b8, .int y1, .int y2, .int y3, .null, .null, .null, .null] [] u (fun r u2 => zr 50 44 [v0, v1, v2, v3, v4, v5] (r.toList ++ st) u2 P)) := zr_CV k50_41 rfl rfl rfl ⟨Nat.le_of_ble_eq_true rfl, Nat.succ_ne_zero _, by decide⟩ rfl
theorem k50_44 : xcd 50 44 = oIf (fun x => decide (x = 0)) 71 47 := rfl
theorem r50_44 : zr 50 44 [v0, v1, v2, v3, v4, v5] (.int y1 :: st) u P = (if y1 = 0 then zr 50 71 [v0, v1, v2, v3, v4, v5] st u P else zr 50 47 [v0, v1, v2, v3, v4, v5] st u P) := zr_If k50_44
theorem k50_47 : xcd 50 47 = oAl 0 48 := rfl
theorem r50_47 : zr 50 47 [.ref a0, v1, v2, v3, v4, v5] st u P = zr 50 48 [.ref a0, v1, v2, v3, v4, v5] (.ref a0 :: st) u P := zr_Al k50_47 rfl
theorem k50_48 : xcd 50 48 = oGR 4 5 51 := rfl
theorem r50_48 : zr 50 48 [v0, v1, v2, v3, v4, v5] (.ref b1 :: st) u P = (xIs u b1 4 ∧ ∃ b, xR u b1 5 = some b ∧ zr 50 51 [v0, v1, v2, v3, v4, v5] (.ref b :: st) u P) := zr_GR k50_48
theorem k50_51 : xcd 50 51 = oAl 0 52 := rfl
theorem r50_51 : zr 50 51 [.ref a0, v1, v2, v3, v4, v5] st u P = zr 50 52 [.ref a0, v1, v2, v3, v4, v5] (.ref a0 :: st) u P := zr_Al k50_51 rfl
theorem k50_52 : xcd 50 52 = oGR 4 6 55 := rfl
theorem r50_52 : zr 50 52 [v0, v1, v2, v3, v4, v5] (.ref b1 :: st) u P = (xIs u b1 4 ∧ ∃ b, xR u b1 6 = some b ∧ zr 50 55 [v0, v1, v2, v3, v4, v5] (.ref b :: st) u P) := zr_GR k50_52
theorem k50_55 : xcd 50 55 = oIl 2 56 := rfl
theorem r50_55 : zr 50 55 [v0, v1, .int x2, v3, v4, v5] st u P = zr 50 56 [v0, v1, .int x2, v3, v4, v5] (.int x2 :: st) u P := zr_Il k50_55 rfl
theorem k50_56 : xcd 50 56 = oLd 13 57 := rfl
theorem r50_56 : zr 50 56 [v0, v1, v2, v3, v4, v5] (.int y1 :: .ref b1 :: st) u P = ((xIs u b1 13 ∧ xinb y1 (xN u b1)) ∧ zr 50 57 [v0, v1, v2, v3, v4, v5] (.int (xI u b1 (xix y1)) :: st) u P) := zr_Ld k50_56
theorem k50_57 : xcd 50 57 = oIl 5 59 := rfl
theorem r50_57 : zr 50 57 [v0, v1, v2, v3, v4, .int x5] st u P = zr 50 59 [v0, v1, v2, v3, v4, .int x5] (.int x5 :: st) u P := zr_Il k50_57 rfl
theorem k50_59 : xcd 50 59 = oIl 4 61 := rfl
theorem r50_59 : zr 50 59 [v0, v1, v2, v3, .int x4, v5] st u P = zr 50 61 [v0, v1, v2, v3, .int x4, v5] (.int x4 :: st) u P := zr_Il k50_59 rfl
theorem k50_61 : xcd 50 61 = oCalV 2 26 3 64 := rfl
theorem r50_61 : zr 50 61 [v0, v1, v2, v3, v4, v5] (.int y3 :: .int y2 :: .int y1 :: .ref b8 :: st) u P = ((xIs u b8 2 ∧ xcat st ≤ 8) ∧ zr 26 0 [.ref b8, .int y1, .int y2, .int y3, .null, .null, .null, .null] [] u (fun r u2 => zr 50 64 [v0, v1, v2, v3, v4, v5] (r.toList ++ st) u2 P)) := zr_CV k50_61 rfl rfl rfl ⟨Nat.le_of_ble_eq_true rfl, Nat.succ_ne_zero _, by decide⟩ rfl
theorem k50_64 : xcd 50 64 = oIf (fun x => decide (x = 0)) 71 67 := rfl
theorem r50_64 : zr 50 64 [v0, v1, v2, v3, v4, v5] (.int y1 :: st) u P = (if y1 = 0 then zr 50 71 [v0, v1, v2, v3, v4, v5] st u P else zr 50 67 [v0, v1, v2, v3, v4, v5] st u P) := zr_If k50_64
theorem k50_67 : xcd 50 67 = oI 1 68 := rfl
theorem r50_67 : zr 50 67 [v0, v1, v2, v3, v4, v5] st u P = zr 50 68 [v0, v1, v2, v3, v4, v5] (.int 1 :: st) u P := zr_I k50_67
theorem k50_68 : xcd 50 68 = oGoto 72 := rfl
theorem r50_68 : zr 50 68 [v0, v1, v2, v3, v4, v5] st u P = zr 50 72 [v0, v1, v2, v3, v4, v5] st u P := zr_Goto k50_68
theorem k50_71 : xcd 50 71 = oI 0 72 := rfl
theorem r50_71 : zr 50 71 [v0, v1, v2, v3, v4, v5] st u P = zr 50 72 [v0, v1, v2, v3, v4, v5] (.int 0 :: st) u P := zr_I k50_71
theorem k50_72 : xcd 50 72 = oCal 165 1 75 := rfl
theorem r50_72 : zr 50 72 [v0, v1, v2, v3, v4, v5] (.int y1 :: st) u P = (xcat st ≤ 8 ∧ zr 165 0 [.int y1] [] u (fun r u2 => zr 50 75 [v0, v1, v2, v3, v4, v5] (r.toList ++ st) u2 P)) := zr_CS k50_72 (Nat.le_add_left _ _) rfl rfl ⟨Nat.le_of_ble_eq_true rfl, Nat.succ_ne_zero _, by decide⟩ rfl
theorem k50_75 : xcd 50 75 = oB (fun x y => x + y) 76 := rfl
theorem r50_75 : zr 50 75 [v0, v1, v2, v3, v4, v5] (.int y1 :: .int y2 :: st) u P = zr 50 76 [v0, v1, v2, v3, v4, v5] (.int (y2 + y1) :: st) u P := zr_B k50_75
theorem k50_76 : xcd 50 76 = oIs 3 77 := rfl
theorem r50_76 : zr 50 76 [v0, v1, .int x2, v3, v4, v5] (.int y1 :: st) u P = zr 50 77 [v0, v1, .int x2, .int y1, v4, v5] st u P := zr_Is k50_76 ⟨Nat.le_of_ble_eq_true rfl, rfl⟩
theorem k50_77 : xcd 50 77 = oInc 5 1 80 := rfl
theorem r50_77 : zr 50 77 [v0, v1, v2, v3, .int x4, .int x5] st u P = zr 50 80 [v0, v1, v2, v3, .int x4, .int (x5 + 1)] st u P := zr_Inc k50_77 rfl rfl
theorem k50_80 : xcd 50 80 = oGoto 17 := rfl
theorem r50_80 : zr 50 80 [v0, v1, v2, v3, v4, v5] st u P = zr 50 17 [v0, v1, v2, v3, v4, v5] st u P := zr_Goto k50_80
theorem k50_83 : xcd 50 83 = oInc 4 1 86 := rfl
theorem r50_83 : zr 50 83 [v0, v1, v2, .int x3, .int x4, v5] st u P = zr 50 86 [v0, v1, v2, .int x3, .int (x4 + 1), v5] st u P := zr_Inc k50_83 rfl rfl
theorem k50_86 : xcd 50 86 = oGoto 5 := rfl
theorem r50_86 : zr 50 86 [v0, v1, v2, v3, v4, v5] st u P = zr 50 5 [v0, v1, v2, v3, v4, v5] st u P := zr_Goto k50_86
theorem k50_89 : xcd 50 89 = oIl 3 90 := rfl
theorem r50_89 : zr 50 89 [v0, v1, v2, .int x3, v4, v5] st u P = zr 50 90 [v0, v1, v2, .int x3, v4, v5] (.int x3 :: st) u P := zr_Il k50_89 rfl
theorem k50_90 : xcd 50 90 = oRi 0 := rfl
theorem r50_90 : zr 50 90 [v0, v1, v2, v3, v4, v5] [.int y1] u P = P (some (.int y1)) u := zr_Ri k50_90
theorem k51_0 : xcd 51 0 = oI 0 1 := rfl
theorem r51_0 : zr 51 0 [v0, v1, v2, v3, v4] st u P = zr 51 1 [v0, v1, v2, v3, v4] (.int 0 :: st) u P := zr_I k51_0
theorem k51_1 : xcd 51 1 = oIs 2 2 := rfl
theorem r51_1 : zr 51 1 [v0, .int x1, v2, v3, v4] (.int y1 :: st) u P = zr 51 2 [v0, .int x1, .int y1, v3, v4] st u P := zr_Is k51_1 ⟨Nat.le_of_ble_eq_true rfl, rfl⟩
theorem k51_2 : xcd 51 2 = oI 0 3 := rfl
theorem r51_2 : zr 51 2 [v0, v1, v2, v3, v4] st u P = zr 51 3 [v0, v1, v2, v3, v4] (.int 0 :: st) u P := zr_I k51_2
theorem k51_3 : xcd 51 3 = oIs 3 4 := rfl
theorem r51_3 : zr 51 3 [v0, v1, .int x2, v3, v4] (.int y1 :: st) u P = zr 51 4 [v0, v1, .int x2, .int y1, v4] st u P := zr_Is k51_3 ⟨Nat.le_of_ble_eq_true rfl, rfl⟩
theorem k51_4 : xcd 51 4 = oIl 3 5 := rfl
theorem r51_4 : zr 51 4 [v0, v1, v2, .int x3, v4] st u P = zr 51 5 [v0, v1, v2, .int x3, v4] (.int x3 :: st) u P := zr_Il k51_4 rfl
theorem k51_5 : xcd 51 5 = oAl 0 6 := rfl
theorem r51_5 : zr 51 5 [.ref a0, v1, v2, v3, v4] st u P = zr 51 6 [.ref a0, v1, v2, v3, v4] (.ref a0 :: st) u P := zr_Al k51_5 rfl
theorem k51_6 : xcd 51 6 = oGI 4 0 9 := rfl
theorem r51_6 : zr 51 6 [v0, v1, v2, v3, v4] (.ref b1 :: st) u P = (xIs u b1 4 ∧ zr 51 9 [v0, v1, v2, v3, v4] (.int (xI u b1 0) :: st) u P) := zr_GI k51_6
theorem k51_9 : xcd 51 9 = oCmp (fun x y => decide (y < x)) 64 12 := rfl
theorem r51_9 : zr 51 9 [v0, v1, v2, v3, v4] (.int y1 :: .int y2 :: st) u P = (if y1 < y2 then zr 51 64 [v0, v1, v2, v3, v4] st u P else zr 51 12 [v0, v1, v2, v3, v4] st u P) := zr_Cmp k51_9
theorem k51_12 : xcd 51 12 = oI 0 13 := rfl
theorem r51_12 : zr 51 12 [v0, v1, v2, v3, v4] st u P = zr 51 13 [v0, v1, v2, v3, v4] (.int 0 :: st) u P := zr_I k51_12
theorem k51_13 : xcd 51 13 = oIs 4 15 := rfl
theorem r51_13 : zr 51 13 [v0, v1, v2, .int x3, v4] (.int y1 :: st) u P = zr 51 15 [v0, v1, v2, .int x3, .int y1] st u P := zr_Is k51_13 ⟨Nat.le_of_ble_eq_true rfl, rfl⟩
theorem k51_15 : xcd 51 15 = oIl 4 17 := rfl
theorem r51_15 : zr 51 15 [v0, v1, v2, v3, .int x4] st u P = zr 51 17 [v0, v1, v2, v3, .int x4] (.int x4 :: st) u P := zr_Il k51_15 rfl
theorem k51_17 : xcd 51 17 = oAl 0 18 := rfl
theorem r51_17 : zr 51 17 [.ref a0, v1, v2, v3, v4] st u P = zr 51 18 [.ref a0, v1, v2, v3, v4] (.ref a0 :: st) u P := zr_Al k51_17 rfl
theorem k51_18 : xcd 51 18 = oGI 4 0 21 := rfl
theorem r51_18 : zr 51 18 [v0, v1, v2, v3, v4] (.ref b1 :: st) u P = (xIs u b1 4 ∧ zr 51 21 [v0, v1, v2, v3, v4] (.int (xI u b1 0) :: st) u P) := zr_GI k51_18
theorem k51_21 : xcd 51 21 = oCmp (fun x y => decide (y < x)) 58 24 := rfl
theorem r51_21 : zr 51 21 [v0, v1, v2, v3, v4] (.int y1 :: .int y2 :: st) u P = (if y1 < y2 then zr 51 58 [v0, v1, v2, v3, v4] st u P else zr 51 24 [v0, v1, v2, v3, v4] st u P) := zr_Cmp k51_21
theorem k51_24 : xcd 51 24 = oIl 2 25 := rfl
theorem r51_24 : zr 51 24 [v0, v1, .int x2, v3, v4] st u P = zr 51 25 [v0, v1, .int x2, v3, v4] (.int x2 :: st) u P := zr_Il k51_24 rfl
theorem k51_25 : xcd 51 25 = oAl 0 26 := rfl
theorem r51_25 : zr 51 25 [.ref a0, v1, v2, v3, v4] st u P = zr 51 26 [.ref a0, v1, v2, v3, v4] (.ref a0 :: st) u P := zr_Al k51_25 rfl
theorem k51_26 : xcd 51 26 = oAl 0 27 := rfl
theorem r51_26 : zr 51 26 [.ref a0, v1, v2, v3, v4] st u P = zr 51 27 [.ref a0, v1, v2, v3, v4] (.ref a0 :: st) u P := zr_Al k51_26 rfl
theorem k51_27 : xcd 51 27 = oGR 4 3 30 := rfl
theorem r51_27 : zr 51 27 [v0, v1, v2, v3, v4] (.ref b1 :: st) u P = (xIs u b1 4 ∧ ∃ b, xR u b1 3 = some b ∧ zr 51 30 [v0, v1, v2, v3, v4] (.ref b :: st) u P) := zr_GR k51_27
theorem k51_30 : xcd 51 30 = oIl 1 31 := rfl
theorem r51_30 : zr 51 30 [v0, .int x1, v2, v3, v4] st u P = zr 51 31 [v0, .int x1, v2, v3, v4] (.int x1 :: st) u P := zr_Il k51_30 rfl
theorem k51_31 : xcd 51 31 = oLd 13 32 := rfl
theorem r51_31 : zr 51 31 [v0, v1, v2, v3, v4] (.int y1 :: .ref b1 :: st) u P = ((xIs u b1 13 ∧ xinb y1 (xN u b1)) ∧ zr 51 32 [v0, v1, v2, v3, v4] (.int (xI u b1 (xix y1)) :: st) u P) := zr_Ld k51_31
theorem k51_32 : xcd 51 32 = oIl 4 34 := rfl
theorem r51_32 : zr 51 32 [v0, v1, v2, v3, .int x4] st u P = zr 51 34 [v0, v1, v2, v3, .int x4] (.int x4 :: st) u P := zr_Il k51_32 rfl
theorem k51_34 : xcd 51 34 = oIl 3 35 := rfl
theorem r51_34 : zr 51 34 [v0, v1, v2, .int x3, v4] st u P = zr 51 35 [v0, v1, v2, .int x3, v4] (.int x3 :: st) u P := zr_Il k51_34 rfl
theorem k51_35 : xcd 51 35 = oCalV 4 46 3 38 := rfl
theorem r51_35 : zr 51 35 [v0, v1, v2, v3, v4] (.int y3 :: .int y2 :: .int y1 :: .ref b8 :: st) u P = ((xIs u b8 4 ∧ xcat st ≤ 8) ∧ zr 46 0 [.ref b8, .int y1, .int y2, .int y3, .null] [] u (fun r u2 => zr 51 38 [v0, v1, v2, v3, v4] (r.toList ++ st) u2 P)) := zr_CV k51_35 rfl rfl rfl ⟨Nat.le_of_ble_eq_true rfl, Nat.succ_ne_zero _, by decide⟩ rfl
theorem k51_38 : xcd 51 38 = oIl 1 39 := rfl
theorem r51_38 : zr 51 38 [v0, .int x1, v2, v3, v4] st u P = zr 51 39 [v0, .int x1, v2, v3, v4] (.int x1 :: st) u P := zr_Il k51_38 rfl
theorem k51_39 : xcd 51 39 = oCmp (fun x y => decide (¬ x = y)) 46 42 := rfl
theorem r51_39 : zr 51 39 [v0, v1, v2, v3, v4] (.int y1 :: .int y2 :: st) u P = (if ¬ y2 = y1 then zr 51 46 [v0, v1, v2, v3, v4] st u P else zr 51 42 [v0, v1, v2, v3, v4] st u P) := zr_Cmp k51_39
theorem k51_42 : xcd 51 42 = oI 1 43 := rfl
theorem r51_42 : zr 51 42 [v0, v1, v2, v3, v4] st u P = zr 51 43 [v0, v1, v2, v3, v4] (.int 1 :: st) u P := zr_I k51_42
theorem k51_43 : xcd 51 43 = oGoto 47 := rfl
theorem r51_43 : zr 51 43 [v0, v1, v2, v3, v4] st u P = zr 51 47 [v0, v1, v2, v3, v4] st u P := zr_Goto k51_43
theorem k51_46 : xcd 51 46 = oI 0 47 := rfl
theorem r51_46 : zr 51 46 [v0, v1, v2, v3, v4] st u P = zr 51 47 [v0, v1, v2, v3, v4] (.int 0 :: st) u P := zr_I k51_46
theorem k51_47 : xcd 51 47 = oCal 165 1 50 := rfl
theorem r51_47 : zr 51 47 [v0, v1, v2, v3, v4] (.int y1 :: st) u P = (xcat st ≤ 8 ∧ zr 165 0 [.int y1] [] u (fun r u2 => zr 51 50 [v0, v1, v2, v3, v4] (r.toList ++ st) u2 P)) := zr_CS k51_47 (Nat.le_add_left _ _) rfl rfl ⟨Nat.le_of_ble_eq_true rfl, Nat.succ_ne_zero _, by decide⟩ rfl
theorem k51_50 : xcd 51 50 = oB (fun x y => x + y) 51 := rfl
theorem r51_50 : zr 51 50 [v0, v1, v2, v3, v4] (.int y1 :: .int y2 :: st) u P = zr 51 51 [v0, v1, v2, v3, v4] (.int (y2 + y1) :: st) u P := zr_B k51_50
theorem k51_51 : xcd 51 51 = oIs 2 52 := rfl
theorem r51_51 : zr 51 51 [v0, .int x1, v2, v3, v4] (.int y1 :: st) u P = zr 51 52 [v0, .int x1, .int y1, v3, v4] st u P := zr_Is k51_51 ⟨Nat.le_of_ble_eq_true rfl, rfl⟩
theorem k51_52 : xcd 51 52 = oInc 4 1 55 := rfl
theorem r51_52 : zr 51 52 [v0, v1, v2, .int x3, .int x4] st u P = zr 51 55 [v0, v1, v2, .int x3, .int (x4 + 1)] st u P := zr_Inc k51_52 rfl rfl
theorem k51_55 : xcd 51 55 = oGoto 15 := rfl
theorem r51_55 : zr 51 55 [v0, v1, v2, v3, v4] st u P = zr 51 15 [v0, v1, v2, v3, v4] st u P := zr_Goto k51_55
theorem k51_58 : xcd 51 58 = oInc 3 1 61 := rfl
theorem r51_58 : zr 51 58 [v0, v1, .int x2, .int x3, v4] st u P = zr 51 61 [v0, v1, .int x2, .int (x3 + 1), v4] st u P := zr_Inc k51_58 rfl rfl
theorem k51_61 : xcd 51 61 = oGoto 4 := rfl
theorem r51_61 : zr 51 61 [v0, v1, v2, v3, v4] st u P = zr 51 4 [v0, v1, v2, v3, v4] st u P := zr_Goto k51_61
theorem k51_64 : xcd 51 64 = oIl 2 65 := rfl
theorem r51_64 : zr 51 64 [v0, v1, .int x2, v3, v4] st u P = zr 51 65 [v0, v1, .int x2, v3, v4] (.int x2 :: st) u P := zr_Il k51_64 rfl
theorem k51_65 : xcd 51 65 = oRi 0 := rfl
theorem r51_65 : zr 51 65 [v0, v1, v2, v3, v4] [.int y1] u P = P (some (.int y1)) u := zr_Ri k51_65
theorem k52_0 : xcd 52 0 = oI 0 1 := rfl
theorem r52_0 : zr 52 0 [v0, v1, v2, v3, v4] st u P = zr 52 1 [v0, v1, v2, v3, v4] (.int 0 :: st) u P := zr_I k52_0
theorem k52_1 : xcd 52 1 = oIs 2 2 := rfl
theorem r52_1 : zr 52 1 [v0, .int x1, v2, v3, v4] (.int y1 :: st) u P = zr 52 2 [v0, .int x1, .int y1, v3, v4] st u P := zr_Is k52_1 ⟨Nat.le_of_ble_eq_true rfl, rfl⟩
theorem k52_2 : xcd 52 2 = oI 0 3 := rfl
theorem r52_2 : zr 52 2 [v0, v1, v2, v3, v4] st u P = zr 52 3 [v0, v1, v2, v3, v4] (.int 0 :: st) u P := zr_I k52_2
theorem k52_3 : xcd 52 3 = oIs 3 4 := rfl
theorem r52_3 : zr 52 3 [v0, v1, .int x2, v3, v4] (.int y1 :: st) u P = zr 52 4 [v0, v1, .int x2, .int y1, v4] st u P := zr_Is k52_3 ⟨Nat.le_of_ble_eq_true rfl, rfl⟩
theorem k52_4 : xcd 52 4 = oIl 3 5 := rfl
theorem r52_4 : zr 52 4 [v0, v1, v2, .int x3, v4] st u P = zr 52 5 [v0, v1, v2, .int x3, v4] (.int x3 :: st) u P := zr_Il k52_4 rfl
theorem k52_5 : xcd 52 5 = oAl 0 6 := rfl
theorem r52_5 : zr 52 5 [.ref a0, v1, v2, v3, v4] st u P = zr 52 6 [.ref a0, v1, v2, v3, v4] (.ref a0 :: st) u P := zr_Al k52_5 rfl
theorem k52_6 : xcd 52 6 = oGI 4 0 9 := rfl
theorem r52_6 : zr 52 6 [v0, v1, v2, v3, v4] (.ref b1 :: st) u P = (xIs u b1 4 ∧ zr 52 9 [v0, v1, v2, v3, v4] (.int (xI u b1 0) :: st) u P) := zr_GI k52_6
theorem k52_9 : xcd 52 9 = oCmp (fun x y => decide (y < x)) 62 12 := rfl
theorem r52_9 : zr 52 9 [v0, v1, v2, v3, v4] (.int y1 :: .int y2 :: st) u P = (if y1 < y2 then zr 52 62 [v0, v1, v2, v3, v4] st u P else zr 52 12 [v0, v1, v2, v3, v4] st u P) := zr_Cmp k52_9
theorem k52_12 : xcd 52 12 = oI 0 13 := rfl
theorem r52_12 : zr 52 12 [v0, v1, v2, v3, v4] st u P = zr 52 13 [v0, v1, v2, v3, v4] (.int 0 :: st) u P := zr_I k52_12
theorem k52_13 : xcd 52 13 = oIs 4 15 := rfl
theorem r52_13 : zr 52 13 [v0, v1, v2, .int x3, v4] (.int y1 :: st) u P = zr 52 15 [v0, v1, v2, .int x3, .int y1] st u P := zr_Is k52_13 ⟨Nat.le_of_ble_eq_true rfl, rfl⟩
theorem k52_15 : xcd 52 15 = oIl 4 17 := rfl
theorem r52_15 : zr 52 15 [v0, v1, v2, v3, .int x4] st u P = zr 52 17 [v0, v1, v2, v3, .int x4] (.int x4 :: st) u P := zr_Il k52_15 rfl
theorem k52_17 : xcd 52 17 = oAl 0 18 := rfl
theorem r52_17 : zr 52 17 [.ref a0, v1, v2, v3, v4] st u P = zr 52 18 [.ref a0, v1, v2, v3, v4] (.ref a0 :: st) u P := zr_Al k52_17 rfl
theorem k52_18 : xcd 52 18 = oGI 4 0 21 := rfl
theorem r52_18 : zr 52 18 [v0, v1, v2, v3, v4] (.ref b1 :: st) u P = (xIs u b1 4 ∧ zr 52 21 [v0, v1, v2, v3, v4] (.int (xI u b1 0) :: st) u P) := zr_GI k52_18
theorem k52_21 : xcd 52 21 = oCmp (fun x y => decide (y < x)) 56 24 := rfl
theorem r52_21 : zr 52 21 [v0, v1, v2, v3, v4] (.int y1 :: .int y2 :: st) u P = (if y1 < y2 then zr 52 56 [v0, v1, v2, v3, v4] st u P else zr 52 24 [v0, v1, v2, v3, v4] st u P) := zr_Cmp k52_21
theorem k52_24 : xcd 52 24 = oAl 0 25 := rfl
theorem r52_24 : zr 52 24 [.ref a0, v1, v2, v3, v4] st u P = zr 52 25 [.ref a0, v1, v2, v3, v4] (.ref a0 :: st) u P := zr_Al k52_24 rfl
theorem k52_25 : xcd 52 25 = oIl 4 27 := rfl
theorem r52_25 : zr 52 25 [v0, v1, v2, v3, .int x4] st u P = zr 52 27 [v0, v1, v2, v3, .int x4] (.int x4 :: st) u P := zr_Il k52_25 rfl
theorem k52_27 : xcd 52 27 = oIl 3 28 := rfl
theorem r52_27 : zr 52 27 [v0, v1, v2, .int x3, v4] st u P = zr 52 28 [v0, v1, v2, .int x3, v4] (.int x3 :: st) u P := zr_Il k52_27 rfl
theorem k52_28 : xcd 52 28 = oCalV 4 47 2 31 := rfl
theorem r52_28 : zr 52 28 [v0, v1, v2, v3, v4] (.int y2 :: .int y1 :: .ref b8 :: st) u P = ((xIs u b8 4 ∧ xcat st ≤ 8) ∧ zr 47 0 [.ref b8, .int y1, .int y2, .null, .null] [] u (fun r u2 => zr 52 31 [v0, v1, v2, v3, v4] (r.toList ++ st) u2 P)) := zr_CV k52_28 rfl rfl rfl ⟨Nat.le_of_ble_eq_true rfl, Nat.succ_ne_zero _, by decide⟩ rfl
theorem k52_31 : xcd 52 31 = oIl 2 32 := rfl
theorem r52_31 : zr 52 31 [v0, v1, .int x2, v3, v4] st u P = zr 52 32 [v0, v1, .int x2, v3, v4] (.int x2 :: st) u P := zr_Il k52_31 rfl
theorem k52_32 : xcd 52 32 = oAl 0 33 := rfl
theorem r52_32 : zr 52 32 [.ref a0, v1, v2, v3, v4] st u P = zr 52 33 [.ref a0, v1, v2, v3, v4] (.ref a0 :: st) u P := zr_Al k52_32 rfl
theorem k52_33 : xcd 52 33 = oGI 4 8 36 := rfl
theorem r52_33 : zr 52 33 [v0, v1, v2, v3, v4] (.ref b1 :: st) u P = (xIs u b1 4 ∧ zr 52 36 [v0, v1, v2, v3, v4] (.int (xI u b1 8) :: st) u P) := zr_GI k52_33
theorem k52_36 : xcd 52 36 = oIl 1 37 := rfl
theorem r52_36 : zr 52 36 [v0, .int x1, v2, v3, v4] st u P = zr 52 37 [v0, .int x1, v2, v3, v4] (.int x1 :: st) u P := zr_Il k52_36 rfl
theorem k52_37 : xcd 52 37 = oCmp (fun x y => decide (¬ x = y)) 44 40 := rfl
theorem r52_37 : zr 52 37 [v0, v1, v2, v3, v4] (.int y1 :: .int y2 :: st) u P = (if ¬ y2 = y1 then zr 52 44 [v0, v1, v2, v3, v4] st u P else zr 52 40 [v0, v1, v2, v3, v4] st u P) := zr_Cmp k52_37
theorem k52_40 : xcd 52 40 = oI 1 41 := rfl
theorem r52_40 : zr 52 40 [v0, v1, v2, v3, v4] st u P = zr 52 41 [v0, v1, v2, v3, v4] (.int 1 :: st) u P := zr_I k52_40
theorem k52_41 : xcd 52 41 = oGoto 45 := rfl
theorem r52_41 : zr 52 41 [v0, v1, v2, v3, v4] st u P = zr 52 45 [v0, v1, v2, v3, v4] st u P := zr_Goto k52_41
theorem k52_44 : xcd 52 44 = oI 0 45 := rfl
theorem r52_44 : zr 52 44 [v0, v1, v2, v3, v4] st u P = zr 52 45 [v0, v1, v2, v3, v4] (.int 0 :: st) u P := zr_I k52_44
theorem k52_45 : xcd 52 45 = oCal 165 1 48 := rfl
theorem r52_45 : zr 52 45 [v0, v1, v2, v3, v4] (.int y1 :: st) u P = (xcat st ≤ 8 ∧ zr 165 0 [.int y1] [] u (fun r u2 => zr 52 48 [v0, v1, v2, v3, v4] (r.toList ++ st) u2 P)) := zr_CS k52_45 (Nat.le_add_left _ _) rfl rfl ⟨Nat.le_of_ble_eq_true rfl, Nat.succ_ne_zero _, by decide⟩ rfl
theorem k52_48 : xcd 52 48 = oB (fun x y => x + y) 49 := rfl
theorem r52_48 : zr 52 48 [v0, v1, v2, v3, v4] (.int y1 :: .int y2 :: st) u P = zr 52 49 [v0, v1, v2, v3, v4] (.int (y2 + y1) :: st) u P := zr_B k52_48
theorem k52_49 : xcd 52 49 = oIs 2 50 := rfl
theorem r52_49 : zr 52 49 [v0, .int x1, v2, v3, v4] (.int y1 :: st) u P = zr 52 50 [v0, .int x1, .int y1, v3, v4] st u P := zr_Is k52_49 ⟨Nat.le_of_ble_eq_true rfl, rfl⟩
theorem k52_50 : xcd 52 50 = oInc 4 1 53 := rfl
theorem r52_50 : zr 52 50 [v0, v1, v2, .int x3, .int x4] st u P = zr 52 53 [v0, v1, v2, .int x3, .int (x4 + 1)] st u P := zr_Inc k52_50 rfl rfl
theorem k52_53 : xcd 52 53 = oGoto 15 := rfl
theorem r52_53 : zr 52 53 [v0, v1, v2, v3, v4] st u P = zr 52 15 [v0, v1, v2, v3, v4] st u P := zr_Goto k52_53
theorem k52_56 : xcd 52 56 = oInc 3 1 59 := rfl
theorem r52_56 : zr 52 56 [v0, v1, .int x2, .int x3, v4] st u P = zr 52 59 [v0, v1, .int x2, .int (x3 + 1), v4] st u P := zr_Inc k52_56 rfl rfl
theorem k52_59 : xcd 52 59 = oGoto 4 := rfl
theorem r52_59 : zr 52 59 [v0, v1, v2, v3, v4] st u P = zr 52 4 [v0, v1, v2, v3, v4] st u P := zr_Goto k52_59
theorem k52_62 : xcd 52 62 = oIl 2 63 := rfl
theorem r52_62 : zr 52 62 [v0, v1, .int x2, v3, v4] st u P = zr 52 63 [v0, v1, .int x2, v3, v4] (.int x2 :: st) u P := zr_Il k52_62 rfl
theorem k52_63 : xcd 52 63 = oRi 0 := rfl
theorem r52_63 : zr 52 63 [v0, v1, v2, v3, v4] [.int y1] u P = P (some (.int y1)) u := zr_Ri k52_63
theorem k54_0 : xcd 54 0 = oAl 0 1 := rfl
theorem r54_0 : zr 54 0 [.ref a0, v1, v2, v3, v4, v5, v6] st u P = zr 54 1 [.ref a0, v1, v2, v3, v4, v5, v6] (.ref a0 :: st) u P := zr_Al k54_0 rfl
theorem k54_1 : xcd 54 1 = oIl 1 2 := rfl
theorem r54_1 : zr 54 1 [v0, .int x1, v2, v3, v4, v5, v6] st u P = zr 54 2 [v0, .int x1, v2, v3, v4, v5, v6] (.int x1 :: st) u P := zr_Il k54_1 rfl
theorem k54_2 : xcd 54 2 = oPI 5 0 5 := rfl
theorem r54_2 : zr 54 2 [v0, v1, v2, v3, v4, v5, v6] (.int y1 :: .ref b1 :: st) u P = (xIs u b1 5 ∧ zr 54 5 [v0, v1, v2, v3, v4, v5, v6] st (xsI u b1 0 y1) P) := zr_PI k54_2
theorem k54_5 : xcd 54 5 = oAl 0 6 := rfl
theorem r54_5 : zr 54 5 [.ref a0, v1, v2, v3, v4, v5, v6] st u P = zr 54 6 [.ref a0, v1, v2, v3, v4, v5, v6] (.ref a0 :: st) u P := zr_Al k54_5 rfl
theorem k54_6 : xcd 54 6 = oIl 2 7 := rfl
theorem r54_6 : zr 54 6 [v0, v1, .int x2, v3, v4, v5, v6] st u P = zr 54 7 [v0, v1, .int x2, v3, v4, v5, v6] (.int x2 :: st) u P := zr_Il k54_6 rfl
theorem k54_7 : xcd 54 7 = oPI 5 1 10 := rfl
theorem r54_7 : zr 54 7 [v0, v1, v2, v3, v4, v5, v6] (.int y1 :: .ref b1 :: st) u P = (xIs u b1 5 ∧ zr 54 10 [v0, v1, v2, v3, v4, v5, v6] st (xsI u b1 1 y1) P) := zr_PI k54_7
theorem k54_10 : xcd 54 10 = oAl 0 11 := rfl
theorem r54_10 : zr 54 10 [.ref a0, v1, v2, v3, v4, v5, v6] st u P = zr 54 11 [.ref a0, v1, v2, v3, v4, v5, v6] (.ref a0 :: st) u P := zr_Al k54_10 rfl
theorem k54_11 : xcd 54 11 = oIl 3 12 := rfl
theorem r54_11 : zr 54 11 [v0, v1, v2, .int x3, v4, v5, v6] st u P = zr 54 12 [v0, v1, v2, .int x3, v4, v5, v6] (.int x3 :: st) u P := zr_Il k54_11 rfl
theorem k54_12 : xcd 54 12 = oPI 5 2 15 := rfl
theorem r54_12 : zr 54 12 [v0, v1, v2, v3, v4, v5, v6] (.int y1 :: .ref b1 :: st) u P = (xIs u b1 5 ∧ zr 54 15 [v0, v1, v2, v3, v4, v5, v6] st (xsI u b1 2 y1) P) := zr_PI k54_12
theorem k54_15 : xcd 54 15 = oAl 0 16 := rfl
theorem r54_15 : zr 54 15 [.ref a0, v1, v2, v3, v4, v5, v6] st u P = zr 54 16 [.ref a0, v1, v2, v3, v4, v5, v6] (.ref a0 :: st) u P := zr_Al k54_15 rfl
theorem k54_16 : xcd 54 16 = oIl 4 18 := rfl
theorem r54_16 : zr 54 16 [v0, v1, v2, v3, .int x4, v5, v6] st u P = zr 54 18 [v0, v1, v2, v3, .int x4, v5, v6] (.int x4 :: st) u P := zr_Il k54_16 rfl
theorem k54_18 : xcd 54 18 = oPI 5 3 21 := rfl
theorem r54_18 : zr 54 18 [v0, v1, v2, v3, v4, v5, v6] (.int y1 :: .ref b1 :: st) u P = (xIs u b1 5 ∧ zr 54 21 [v0, v1, v2, v3, v4, v5, v6] st (xsI u b1 3 y1) P) := zr_PI k54_18
theorem k54_21 : xcd 54 21 = oAl 0 22 := rfl
theorem r54_21 : zr 54 21 [.ref a0, v1, v2, v3, v4, v5, v6] st u P = zr 54 22 [.ref a0, v1, v2, v3, v4, v5, v6] (.ref a0 :: st) u P := zr_Al k54_21 rfl
theorem k54_22 : xcd 54 22 = oIl 5 24 := rfl
theorem r54_22 : zr 54 22 [v0, v1, v2, v3, v4, .int x5, v6] st u P = zr 54 24 [v0, v1, v2, v3, v4, .int x5, v6] (.int x5 :: st) u P := zr_Il k54_22 rfl
theorem k54_24 : xcd 54 24 = oPI 5 4 27 := rfl
theorem r54_24 : zr 54 24 [v0, v1, v2, v3, v4, v5, v6] (.int y1 :: .ref b1 :: st) u P = (xIs u b1 5 ∧ zr 54 27 [v0, v1, v2, v3, v4, v5, v6] st (xsI u b1 4 y1) P) := zr_PI k54_24
theorem k54_27 : xcd 54 27 = oAl 0 28 := rfl
theorem r54_27 : zr 54 27 [.ref a0, v1, v2, v3, v4, v5, v6] st u P = zr 54 28 [.ref a0, v1, v2, v3, v4, v5, v6] (.ref a0 :: st) u P := zr_Al k54_27 rfl
theorem k54_28 : xcd 54 28 = oIl 5 30 := rfl
theorem r54_28 : zr 54 28 [v0, v1, v2, v3, v4, .int x5, v6] st u P = zr 54 30 [v0, v1, v2, v3, v4, .int x5, v6] (.int x5 :: st) u P := zr_Il k54_28 rfl
theorem k54_30 : xcd 54 30 = oPI 5 6 33 := rfl
theorem r54_30 : zr 54 30 [v0, v1, v2, v3, v4, v5, v6] (.int y1 :: .ref b1 :: st) u P = (xIs u b1 5 ∧ zr 54 33 [v0, v1, v2, v3, v4, v5, v6] st (xsI u b1 6 y1) P) := zr_PI k54_30
theorem k54_33 : xcd 54 33 = oAl 0 34 := rfl
theorem r54_33 : zr 54 33 [.ref a0, v1, v2, v3, v4, v5, v6] st u P = zr 54 34 [.ref a0, v1, v2, v3, v4, v5, v6] (.ref a0 :: st) u P := zr_Al k54_33 rfl
theorem k54_34 : xcd 54 34 = oIl 6 36 := rfl
theorem r54_34 : zr 54 34 [v0, v1, v2, v3, v4, v5, .int x6] st u P = zr 54 36 [v0, v1, v2, v3, v4, v5, .int x6] (.int x6 :: st) u P := zr_Il k54_34 rfl
theorem k54_36 : xcd 54 36 = oPI 5 5 39 := rfl
theorem r54_36 : zr 54 36 [v0, v1, v2, v3, v4, v5, v6] (.int y1 :: .ref b1 :: st) u P = (xIs u b1 5 ∧ zr 54 39 [v0, v1, v2, v3, v4, v5, v6] st (xsI u b1 5 y1) P) := zr_PI k54_36
theorem k54_39 : xcd 54 39 = oAl 0 40 := rfl
theorem r54_39 : zr 54 39 [.ref a0, v1, v2, v3, v4, v5, v6] st u P = zr 54 40 [.ref a0, v1, v2, v3, v4, v5, v6] (.ref a0 :: st) u P := zr_Al k54_39 rfl
theorem k54_40 : xcd 54 40 = oI (-1) 41 := rfl
theorem r54_40 : zr 54 40 [v0, v1, v2, v3, v4, v5, v6] st u P = zr 54 41 [v0, v1, v2, v3, v4, v5, v6] (.int (-1) :: st) u P := zr_I k54_40
theorem k54_41 : xcd 54 41 = oPI 5 7 44 := rfl
theorem r54_41 : zr 54 41 [v0, v1, v2, v3, v4, v5, v6] (.int y1 :: .ref b1 :: st) u P = (xIs u b1 5 ∧ zr 54 44 [v0, v1, v2, v3, v4, v5, v6] st (xsI u b1 7 y1) P) := zr_PI k54_41
theorem k54_44 : xcd 54 44 = oAl 0 45 := rfl
theorem r54_44 : zr 54 44 [.ref a0, v1, v2, v3, v4, v5, v6] st u P = zr 54 45 [.ref a0, v1, v2, v3, v4, v5, v6] (.ref a0 :: st) u P := zr_Al k54_44 rfl
theorem k54_45 : xcd 54 45 = oI 0 46 := rfl
theorem r54_45 : zr 54 45 [v0, v1, v2, v3, v4, v5, v6] st u P = zr 54 46 [v0, v1, v2, v3, v4, v5, v6] (.int 0 :: st) u P := zr_I k54_45
theorem k54_46 : xcd 54 46 = oPI 5 8 49 := rfl
theorem r54_46 : zr 54 46 [v0, v1, v2, v3, v4, v5, v6] (.int y1 :: .ref b1 :: st) u P = (xIs u b1 5 ∧ zr 54 49 [v0, v1, v2, v3, v4, v5, v6] st (xsI u b1 8 y1) P) := zr_PI k54_46
theorem k54_49 : xcd 54 49 = oRv 0 := rfl
theorem r54_49 : zr 54 49 [v0, v1, v2, v3, v4, v5, v6] [] u P = P none u := zr_Rv k54_49
theorem k55_0 : xcd 55 0 = oAl 0 1 := rfl
theorem r55_0 : zr 55 0 [.ref a0, v1, v2, v3, v4] st u P = zr 55 1 [.ref a0, v1, v2, v3, v4] (.ref a0 :: st) u P := zr_Al k55_0 rfl
theorem k55_1 : xcd 55 1 = oGR 5 9 4 := rfl
theorem r55_1 : zr 55 1 [v0, v1, v2, v3, v4] (.ref b1 :: st) u P = (xIs u b1 5 ∧ ∃ b, xR u b1 9 = some b ∧ zr 55 4 [v0, v1, v2, v3, v4] (.ref b :: st) u P) := zr_GR k55_1
theorem k55_4 : xcd 55 4 = oAl 0 5 := rfl
theorem r55_4 : zr 55 4 [.ref a0, v1, v2, v3, v4] st u P = zr 55 5 [.ref a0, v1, v2, v3, v4] (.ref a0 :: st) u P := zr_Al k55_4 rfl
theorem k55_5 : xcd 55 5 = oGI 5 8 8 := rfl
theorem r55_5 : zr 55 5 [v0, v1, v2, v3, v4] (.ref b1 :: st) u P = (xIs u b1 5 ∧ zr 55 8 [v0, v1, v2, v3, v4] (.int (xI u b1 8) :: st) u P) := zr_GI k55_5
theorem k55_8 : xcd 55 8 = oIl 1 9 := rfl
theorem r55_8 : zr 55 8 [v0, .int x1, v2, v3, v4] st u P = zr 55 9 [v0, .int x1, v2, v3, v4] (.int x1 :: st) u P := zr_Il k55_8 rfl
theorem k55_9 : xcd 55 9 = oSt 13 (fun x => x) 10 := rfl
theorem r55_9 : zr 55 9 [v0, v1, v2, v3, v4] (.int y2 :: .int y1 :: .ref b1 :: st) u P = ((xIs u b1 13 ∧ xinb y1 (xN u b1)) ∧ zr 55 10 [v0, v1, v2, v3, v4] st (xsI u b1 (xix y1) y2) P) := zr_St k55_9
theorem k55_10 : xcd 55 10 = oAl 0 11 := rfl
theorem r55_10 : zr 55 10 [.ref a0, v1, v2, v3, v4] st u P = zr 55 11 [.ref a0, v1, v2, v3, v4] (.ref a0 :: st) u P := zr_Al k55_10 rfl
theorem k55_11 : xcd 55 11 = oGR 5 10 14 := rfl
theorem r55_11 : zr 55 11 [v0, v1, v2, v3, v4] (.ref b1 :: st) u P = (xIs u b1 5 ∧ ∃ b, xR u b1 10 = some b ∧ zr 55 14 [v0, v1, v2, v3, v4] (.ref b :: st) u P) := zr_GR k55_11
theorem k55_14 : xcd 55 14 = oAl 0 15 := rfl
theorem r55_14 : zr 55 14 [.ref a0, v1, v2, v3, v4] st u P = zr 55 15 [.ref a0, v1, v2, v3, v4] (.ref a0 :: st) u P := zr_Al k55_14 rfl
theorem k55_15 : xcd 55 15 = oGI 5 8 18 := rfl
theorem r55_15 : zr 55 15 [v0, v1, v2, v3, v4] (.ref b1 :: st) u P = (xIs u b1 5 ∧ zr 55 18 [v0, v1, v2, v3, v4] (.int (xI u b1 8) :: st) u P) := zr_GI k55_15
theorem k55_18 : xcd 55 18 = oIl 2 19 := rfl
theorem r55_18 : zr 55 18 [v0, v1, .int x2, v3, v4] st u P = zr 55 19 [v0, v1, .int x2, v3, v4] (.int x2 :: st) u P := zr_Il k55_18 rfl
theorem k55_19 : xcd 55 19 = oSt 13 (fun x => x) 20 := rfl
theorem r55_19 : zr 55 19 [v0, v1, v2, v3, v4] (.int y2 :: .int y1 :: .ref b1 :: st) u P = ((xIs u b1 13 ∧ xinb y1 (xN u b1)) ∧ zr 55 20 [v0, v1, v2, v3, v4] st (xsI u b1 (xix y1) y2) P) := zr_St k55_19
theorem k55_20 : xcd 55 20 = oAl 0 21 := rfl
theorem r55_20 : zr 55 20 [.ref a0, v1, v2, v3, v4] st u P = zr 55 21 [.ref a0, v1, v2, v3, v4] (.ref a0 :: st) u P := zr_Al k55_20 rfl
theorem k55_21 : xcd 55 21 = oGR 5 11 24 := rfl
theorem r55_21 : zr 55 21 [v0, v1, v2, v3, v4] (.ref b1 :: st) u P = (xIs u b1 5 ∧ ∃ b, xR u b1 11 = some b ∧ zr 55 24 [v0, v1, v2, v3, v4] (.ref b :: st) u P) := zr_GR k55_21
theorem k55_24 : xcd 55 24 = oAl 0 25 := rfl
theorem r55_24 : zr 55 24 [.ref a0, v1, v2, v3, v4] st u P = zr 55 25 [.ref a0, v1, v2, v3, v4] (.ref a0 :: st) u P := zr_Al k55_24 rfl
theorem k55_25 : xcd 55 25 = oGI 5 8 28 := rfl
theorem r55_25 : zr 55 25 [v0, v1, v2, v3, v4] (.ref b1 :: st) u P = (xIs u b1 5 ∧ zr 55 28 [v0, v1, v2, v3, v4] (.int (xI u b1 8) :: st) u P) := zr_GI k55_25
theorem k55_28 : xcd 55 28 = oIl 3 29 := rfl
theorem r55_28 : zr 55 28 [v0, v1, v2, .int x3, v4] st u P = zr 55 29 [v0, v1, v2, .int x3, v4] (.int x3 :: st) u P := zr_Il k55_28 rfl
theorem k55_29 : xcd 55 29 = oSt 13 (fun x => x) 30 := rfl
theorem r55_29 : zr 55 29 [v0, v1, v2, v3, v4] (.int y2 :: .int y1 :: .ref b1 :: st) u P = ((xIs u b1 13 ∧ xinb y1 (xN u b1)) ∧ zr 55 30 [v0, v1, v2, v3, v4] st (xsI u b1 (xix y1) y2) P) := zr_St k55_29
theorem k55_30 : xcd 55 30 = oAl 0 31 := rfl
theorem r55_30 : zr 55 30 [.ref a0, v1, v2, v3, v4] st u P = zr 55 31 [.ref a0, v1, v2, v3, v4] (.ref a0 :: st) u P := zr_Al k55_30 rfl
theorem k55_31 : xcd 55 31 = oGR 5 12 34 := rfl
theorem r55_31 : zr 55 31 [v0, v1, v2, v3, v4] (.ref b1 :: st) u P = (xIs u b1 5 ∧ ∃ b, xR u b1 12 = some b ∧ zr 55 34 [v0, v1, v2, v3, v4] (.ref b :: st) u P) := zr_GR k55_31
theorem k55_34 : xcd 55 34 = oAl 0 35 := rfl
theorem r55_34 : zr 55 34 [.ref a0, v1, v2, v3, v4] st u P = zr 55 35 [.ref a0, v1, v2, v3, v4] (.ref a0 :: st) u P := zr_Al k55_34 rfl
theorem k55_35 : xcd 55 35 = oGI 5 8 38 := rfl
theorem r55_35 : zr 55 35 [v0, v1, v2, v3, v4] (.ref b1 :: st) u P = (xIs u b1 5 ∧ zr 55 38 [v0, v1, v2, v3, v4] (.int (xI u b1 8) :: st) u P) := zr_GI k55_35
theorem k55_38 : xcd 55 38 = oIl 4 40 := rfl
theorem r55_38 : zr 55 38 [v0, v1, v2, v3, .int x4] st u P = zr 55 40 [v0, v1, v2, v3, .int x4] (.int x4 :: st) u P := zr_Il k55_38 rfl
theorem k55_40 : xcd 55 40 = oSt 15 (fun x => vp_nar .boolean x) 41 := rfl
theorem r55_40 : zr 55 40 [v0, v1, v2, v3, v4] (.int y2 :: .int y1 :: .ref b1 :: st) u P = ((xIs u b1 15 ∧ xinb y1 (xN u b1)) ∧ zr 55 41 [v0, v1, v2, v3, v4] st (xsI u b1 (xix y1) (vp_nar .boolean y2)) P) := zr_St k55_40
theorem k55_41 : xcd 55 41 = oAl 0 42 := rfl
theorem r55_41 : zr 55 41 [.ref a0, v1, v2, v3, v4] st u P = zr 55 42 [.ref a0, v1, v2, v3, v4] (.ref a0 :: st) u P := zr_Al k55_41 rfl
theorem k55_42 : xcd 55 42 = oDup 43 := rfl
theorem r55_42 : zr 55 42 [v0, v1, v2, v3, v4] (.ref b1 :: st) u P = zr 55 43 [v0, v1, v2, v3, v4] (.ref b1 :: .ref b1 :: st) u P := zr_DupA k55_42
theorem k55_43 : xcd 55 43 = oGI 5 8 46 := rfl
theorem r55_43 : zr 55 43 [v0, v1, v2, v3, v4] (.ref b1 :: st) u P = (xIs u b1 5 ∧ zr 55 46 [v0, v1, v2, v3, v4] (.int (xI u b1 8) :: st) u P) := zr_GI k55_43
theorem k55_46 : xcd 55 46 = oI 1 47 := rfl
theorem r55_46 : zr 55 46 [v0, v1, v2, v3, v4] st u P = zr 55 47 [v0, v1, v2, v3, v4] (.int 1 :: st) u P := zr_I k55_46
theorem k55_47 : xcd 55 47 = oB (fun x y => x + y) 48 := rfl
theorem r55_47 : zr 55 47 [v0, v1, v2, v3, v4] (.int y1 :: .int y2 :: st) u P = zr 55 48 [v0, v1, v2, v3, v4] (.int (y2 + y1) :: st) u P := zr_B k55_47
theorem k55_48 : xcd 55 48 = oPI 5 8 51 := rfl
theorem r55_48 : zr 55 48 [v0, v1, v2, v3, v4] (.int y1 :: .ref b1 :: st) u P = (xIs u b1 5 ∧ zr 55 51 [v0, v1, v2, v3, v4] st (xsI u b1 8 y1) P) := zr_PI k55_48
theorem k55_51 : xcd 55 51 = oRv 0 := rfl
theorem r55_51 : zr 55 51 [v0, v1, v2, v3, v4] [] u P = P none u := zr_Rv k55_51
theorem k56_0 : xcd 56 0 = oAl 0 1 := rfl
theorem r56_0 : zr 56 0 [.ref a0, v1] st u P = zr 56 1 [.ref a0, v1] (.ref a0 :: st) u P := zr_Al k56_0 rfl
theorem k56_1 : xcd 56 1 = oGR 5 12 4 := rfl
theorem r56_1 : zr 56 1 [v0, v1] (.ref b1 :: st) u P = (xIs u b1 5 ∧ ∃ b, xR u b1 12 = some b ∧ zr 56 4 [v0, v1] (.ref b :: st) u P) := zr_GR k56_1
theorem k56_4 : xcd 56 4 = oIl 1 5 := rfl
theorem r56_4 : zr 56 4 [v0, .int x1] st u P = zr 56 5 [v0, .int x1] (.int x1 :: st) u P := zr_Il k56_4 rfl
theorem k56_5 : xcd 56 5 = oLd 15 6 := rfl
theorem r56_5 : zr 56 5 [v0, v1] (.int y1 :: .ref b1 :: st) u P = ((xIs u b1 15 ∧ xinb y1 (xN u b1)) ∧ zr 56 6 [v0, v1] (.int (xI u b1 (xix y1)) :: st) u P) := zr_Ld k56_5
theorem k56_6 : xcd 56 6 = oIf (fun x => decide (x = 0)) 11 9 := rfl
theorem r56_6 : zr 56 6 [v0, v1] (.int y1 :: st) u P = (if y1 = 0 then zr 56 11 [v0, v1] st u P else zr 56 9 [v0, v1] st u P) := zr_If k56_6
theorem k56_9 : xcd 56 9 = oI 0 10 := rfl
theorem r56_9 : zr 56 9 [v0, v1] st u P = zr 56 10 [v0, v1] (.int 0 :: st) u P := zr_I k56_9
theorem k56_10 : xcd 56 10 = oRi 0 := rfl
theorem r56_10 : zr 56 10 [v0, v1] [.int y1] u P = P (some (.int y1)) u := zr_Ri k56_10
theorem k56_11 : xcd 56 11 = oAl 0 12 := rfl
theorem r56_11 : zr 56 11 [.ref a0, v1] st u P = zr 56 12 [.ref a0, v1] (.ref a0 :: st) u P := zr_Al k56_11 rfl
theorem k56_12 : xcd 56 12 = oGI 5 6 15 := rfl
theorem r56_12 : zr 56 12 [v0, v1] (.ref b1 :: st) u P = (xIs u b1 5 ∧ zr 56 15 [v0, v1] (.int (xI u b1 6) :: st) u P) := zr_GI k56_12
theorem k56_15 : xcd 56 15 = oAl 0 16 := rfl
theorem r56_15 : zr 56 15 [.ref a0, v1] st u P = zr 56 16 [.ref a0, v1] (.ref a0 :: st) u P := zr_Al k56_15 rfl
theorem k56_16 : xcd 56 16 = oGR 5 11 19 := rfl
theorem r56_16 : zr 56 16 [v0, v1] (.ref b1 :: st) u P = (xIs u b1 5 ∧ ∃ b, xR u b1 11 = some b ∧ zr 56 19 [v0, v1] (.ref b :: st) u P) := zr_GR k56_16
theorem k56_19 : xcd 56 19 = oIl 1 20 := rfl
theorem r56_19 : zr 56 19 [v0, .int x1] st u P = zr 56 20 [v0, .int x1] (.int x1 :: st) u P := zr_Il k56_19 rfl
theorem k56_20 : xcd 56 20 = oLd 13 21 := rfl
theorem r56_20 : zr 56 20 [v0, v1] (.int y1 :: .ref b1 :: st) u P = ((xIs u b1 13 ∧ xinb y1 (xN u b1)) ∧ zr 56 21 [v0, v1] (.int (xI u b1 (xix y1)) :: st) u P) := zr_Ld k56_20
theorem k56_21 : xcd 56 21 = oIf (fun x => decide (0 ≤ x)) 31 24 := rfl
theorem r56_21 : zr 56 21 [v0, v1] (.int y1 :: st) u P = (if 0 ≤ y1 then zr 56 31 [v0, v1] st u P else zr 56 24 [v0, v1] st u P) := zr_If k56_21
theorem k56_24 : xcd 56 24 = oAl 0 25 := rfl
theorem r56_24 : zr 56 24 [.ref a0, v1] st u P = zr 56 25 [.ref a0, v1] (.ref a0 :: st) u P := zr_Al k56_24 rfl
theorem k56_25 : xcd 56 25 = oGI 5 5 28 := rfl
theorem r56_25 : zr 56 25 [v0, v1] (.ref b1 :: st) u P = (xIs u b1 5 ∧ zr 56 28 [v0, v1] (.int (xI u b1 5) :: st) u P) := zr_GI k56_25
theorem k56_28 : xcd 56 28 = oGoto 44 := rfl
theorem r56_28 : zr 56 28 [v0, v1] st u P = zr 56 44 [v0, v1] st u P := zr_Goto k56_28
theorem k56_31 : xcd 56 31 = oAl 0 32 := rfl
theorem r56_31 : zr 56 31 [.ref a0, v1] st u P = zr 56 32 [.ref a0, v1] (.ref a0 :: st) u P := zr_Al k56_31 rfl
theorem k56_32 : xcd 56 32 = oGI 5 5 35 := rfl
theorem r56_32 : zr 56 32 [v0, v1] (.ref b1 :: st) u P = (xIs u b1 5 ∧ zr 56 35 [v0, v1] (.int (xI u b1 5) :: st) u P) := zr_GI k56_32
theorem k56_35 : xcd 56 35 = oAl 0 36 := rfl
theorem r56_35 : zr 56 35 [.ref a0, v1] st u P = zr 56 36 [.ref a0, v1] (.ref a0 :: st) u P := zr_Al k56_35 rfl
theorem k56_36 : xcd 56 36 = oGR 5 11 39 := rfl
theorem r56_36 : zr 56 36 [v0, v1] (.ref b1 :: st) u P = (xIs u b1 5 ∧ ∃ b, xR u b1 11 = some b ∧ zr 56 39 [v0, v1] (.ref b :: st) u P) := zr_GR k56_36
theorem k56_39 : xcd 56 39 = oIl 1 40 := rfl
theorem r56_39 : zr 56 39 [v0, .int x1] st u P = zr 56 40 [v0, .int x1] (.int x1 :: st) u P := zr_Il k56_39 rfl
theorem k56_40 : xcd 56 40 = oLd 13 41 := rfl
theorem r56_40 : zr 56 40 [v0, v1] (.int y1 :: .ref b1 :: st) u P = ((xIs u b1 13 ∧ xinb y1 (xN u b1)) ∧ zr 56 41 [v0, v1] (.int (xI u b1 (xix y1)) :: st) u P) := zr_Ld k56_40
theorem k56_41 : xcd 56 41 = oMin 44 := rfl
theorem r56_41 : zr 56 41 [v0, v1] (.int y1 :: .int y2 :: st) u P = (xcat st ≤ 8 ∧ zr 56 44 [v0, v1] (.int (if y1 < y2 then y1 else y2) :: st) u P) := zr_Min k56_41
theorem k56_44 : xcd 56 44 = oB (fun x y => x * y) 45 := rfl
theorem r56_44 : zr 56 44 [v0, v1] (.int y1 :: .int y2 :: st) u P = zr 56 45 [v0, v1] (.int (y2 * y1) :: st) u P := zr_B k56_44
theorem k56_45 : xcd 56 45 = oRi 0 := rfl
theorem r56_45 : zr 56 45 [v0, v1] [.int y1] u P = P (some (.int y1)) u := zr_Ri k56_45
theorem k57_0 : xcd 57 0 = oAl 0 1 := rfl
theorem r57_0 : zr 57 0 [.ref a0, v1] st u P = zr 57 1 [.ref a0, v1] (.ref a0 :: st) u P := zr_Al k57_0 rfl
theorem k57_1 : xcd 57 1 = oIl 1 2 := rfl
theorem r57_1 : zr 57 1 [v0, .int x1] st u P = zr 57 2 [v0, .int x1] (.int x1 :: st) u P := zr_Il k57_1 rfl
theorem k57_2 : xcd 57 2 = oCalV 5 56 1 5 := rfl
theorem r57_2 : zr 57 2 [v0, v1] (.int y1 :: .ref b8 :: st) u P = ((xIs u b8 5 ∧ xcat st ≤ 8) ∧ zr 56 0 [.ref b8, .int y1] [] u (fun r u2 => zr 57 5 [v0, v1] (r.toList ++ st) u2 P)) := zr_CV k57_2 rfl rfl rfl ⟨Nat.le_of_ble_eq_true rfl, Nat.succ_ne_zero _, by decide⟩ rfl
theorem k57_5 : xcd 57 5 = oI2l 6 := rfl
theorem r57_5 : zr 57 5 [v0, v1] (.int y1 :: st) u P = zr 57 6 [v0, v1] (.long y1.toInt64 :: st) u P := zr_I2l k57_5
theorem k57_6 : xcd 57 6 = oAl 0 7 := rfl
theorem r57_6 : zr 57 6 [.ref a0, v1] st u P = zr 57 7 [.ref a0, v1] (.ref a0 :: st) u P := zr_Al k57_6 rfl
theorem k57_7 : xcd 57 7 = oGR 5 10 10 := rfl
theorem r57_7 : zr 57 7 [v0, v1] (.ref b1 :: st) u P = (xIs u b1 5 ∧ ∃ b, xR u b1 10 = some b ∧ zr 57 10 [v0, v1] (.ref b :: st) u P) := zr_GR k57_7
theorem k57_10 : xcd 57 10 = oIl 1 11 := rfl
theorem r57_10 : zr 57 10 [v0, .int x1] st u P = zr 57 11 [v0, .int x1] (.int x1 :: st) u P := zr_Il k57_10 rfl
theorem k57_11 : xcd 57 11 = oLd 13 12 := rfl
theorem r57_11 : zr 57 11 [v0, v1] (.int y1 :: .ref b1 :: st) u P = ((xIs u b1 13 ∧ xinb y1 (xN u b1)) ∧ zr 57 12 [v0, v1] (.int (xI u b1 (xix y1)) :: st) u P) := zr_Ld k57_11
theorem k57_12 : xcd 57 12 = oI2l 13 := rfl
theorem r57_12 : zr 57 12 [v0, v1] (.int y1 :: st) u P = zr 57 13 [v0, v1] (.long y1.toInt64 :: st) u P := zr_I2l k57_12
theorem k57_13 : xcd 57 13 = oLB (fun x y => x * y) 14 := rfl
theorem r57_13 : zr 57 13 [v0, v1] (.long w1 :: .long w2 :: st) u P = zr 57 14 [v0, v1] (.long (w2 * w1) :: st) u P := zr_LB k57_13
theorem k57_14 : xcd 57 14 = oJ 5000 17 := rfl
theorem r57_14 : zr 57 14 [v0, v1] st u P = zr 57 17 [v0, v1] (.long 5000 :: st) u P := zr_J k57_14
theorem k57_17 : xcd 57 17 = oLB (fun x y => x + y) 18 := rfl
theorem r57_17 : zr 57 17 [v0, v1] (.long w1 :: .long w2 :: st) u P = zr 57 18 [v0, v1] (.long (w2 + w1) :: st) u P := zr_LB k57_17
theorem k57_18 : xcd 57 18 = oJ 10000 21 := rfl
theorem r57_18 : zr 57 18 [v0, v1] st u P = zr 57 21 [v0, v1] (.long 10000 :: st) u P := zr_J k57_18
theorem k57_21 : xcd 57 21 = oLdiv 22 := rfl
theorem r57_21 : zr 57 21 [v0, v1] (.long w1 :: .long w2 :: st) u P = (¬ w1 = 0 ∧ zr 57 22 [v0, v1] (.long (w2 / w1) :: st) u P) := zr_Ldiv k57_21
theorem k57_22 : xcd 57 22 = oL2i 23 := rfl
theorem r57_22 : zr 57 22 [v0, v1] (.long w1 :: st) u P = zr 57 23 [v0, v1] (.int w1.toInt32 :: st) u P := zr_L2i k57_22
theorem k57_23 : xcd 57 23 = oRi 0 := rfl
theorem r57_23 : zr 57 23 [v0, v1] [.int y1] u P = P (some (.int y1)) u := zr_Ri k57_23
theorem k58_0 : xcd 58 0 = oI 0 1 := rfl
theorem r58_0 : zr 58 0 [v0, v1, v2, v3] st u P = zr 58 1 [v0, v1, v2, v3] (.int 0 :: st) u P := zr_I k58_0
theorem k58_1 : xcd 58 1 = oIs 2 2 := rfl
theorem r58_1 : zr 58 1 [v0, .int x1, v2, v3] (.int y1 :: st) u P = zr 58 2 [v0, .int x1, .int y1, v3] st u P := zr_Is k58_1 ⟨Nat.le_of_ble_eq_true rfl, rfl⟩
theorem k58_2 : xcd 58 2 = oI 0 3 := rfl
theorem r58_2 : zr 58 2 [v0, v1, v2, v3] st u P = zr 58 3 [v0, v1, v2, v3] (.int 0 :: st) u P := zr_I k58_2
theorem k58_3 : xcd 58 3 = oIs 3 4 := rfl
theorem r58_3 : zr 58 3 [v0, v1, .int x2, v3] (.int y1 :: st) u P = zr 58 4 [v0, v1, .int x2, .int y1] st u P := zr_Is k58_3 ⟨Nat.le_of_ble_eq_true rfl, rfl⟩
theorem k58_4 : xcd 58 4 = oIl 3 5 := rfl
theorem r58_4 : zr 58 4 [v0, v1, v2, .int x3] st u P = zr 58 5 [v0, v1, v2, .int x3] (.int x3 :: st) u P := zr_Il k58_4 rfl
theorem k58_5 : xcd 58 5 = oAl 0 6 := rfl
theorem r58_5 : zr 58 5 [.ref a0, v1, v2, v3] st u P = zr 58 6 [.ref a0, v1, v2, v3] (.ref a0 :: st) u P := zr_Al k58_5 rfl
theorem k58_6 : xcd 58 6 = oGI 5 8 9 := rfl
theorem r58_6 : zr 58 6 [v0, v1, v2, v3] (.ref b1 :: st) u P = (xIs u b1 5 ∧ zr 58 9 [v0, v1, v2, v3] (.int (xI u b1 8) :: st) u P) := zr_GI k58_6
theorem k58_9 : xcd 58 9 = oCmp (fun x y => decide (y ≤ x)) 41 12 := rfl
theorem r58_9 : zr 58 9 [v0, v1, v2, v3] (.int y1 :: .int y2 :: st) u P = (if y1 ≤ y2 then zr 58 41 [v0, v1, v2, v3] st u P else zr 58 12 [v0, v1, v2, v3] st u P) := zr_Cmp k58_9
theorem k58_12 : xcd 58 12 = oIl 1 13 := rfl
theorem r58_12 : zr 58 12 [v0, .int x1, v2, v3] st u P = zr 58 13 [v0, .int x1, v2, v3] (.int x1 :: st) u P := zr_Il k58_12 rfl
theorem k58_13 : xcd 58 13 = oI (-1) 14 := rfl
theorem r58_13 : zr 58 13 [v0, v1, v2, v3] st u P = zr 58 14 [v0, v1, v2, v3] (.int (-1) :: st) u P := zr_I k58_13
theorem k58_14 : xcd 58 14 = oCmp (fun x y => decide (x = y)) 27 17 := rfl
theorem r58_14 : zr 58 14 [v0, v1, v2, v3] (.int y1 :: .int y2 :: st) u P = (if y2 = y1 then zr 58 27 [v0, v1, v2, v3] st u P else zr 58 17 [v0, v1, v2, v3] st u P) := zr_Cmp k58_14
theorem k58_17 : xcd 58 17 = oAl 0 18 := rfl
theorem r58_17 : zr 58 17 [.ref a0, v1, v2, v3] st u P = zr 58 18 [.ref a0, v1, v2, v3] (.ref a0 :: st) u P := zr_Al k58_17 rfl
theorem k58_18 : xcd 58 18 = oGR 5 9 21 := rfl
theorem r58_18 : zr 58 18 [v0, v1, v2, v3] (.ref b1 :: st) u P = (xIs u b1 5 ∧ ∃ b, xR u b1 9 = some b ∧ zr 58 21 [v0, v1, v2, v3] (.ref b :: st) u P) := zr_GR k58_18
theorem k58_21 : xcd 58 21 = oIl 3 22 := rfl
theorem r58_21 : zr 58 21 [v0, v1, v2, .int x3] st u P = zr 58 22 [v0, v1, v2, .int x3] (.int x3 :: st) u P := zr_Il k58_21 rfl
theorem k58_22 : xcd 58 22 = oLd 13 23 := rfl
theorem r58_22 : zr 58 22 [v0, v1, v2, v3] (.int y1 :: .ref b1 :: st) u P = ((xIs u b1 13 ∧ xinb y1 (xN u b1)) ∧ zr 58 23 [v0, v1, v2, v3] (.int (xI u b1 (xix y1)) :: st) u P) := zr_Ld k58_22
theorem k58_23 : xcd 58 23 = oIl 1 24 := rfl
theorem r58_23 : zr 58 23 [v0, .int x1, v2, v3] st u P = zr 58 24 [v0, .int x1, v2, v3] (.int x1 :: st) u P := zr_Il k58_23 rfl
theorem k58_24 : xcd 58 24 = oCmp (fun x y => decide (¬ x = y)) 35 27 := rfl
theorem r58_24 : zr 58 24 [v0, v1, v2, v3] (.int y1 :: .int y2 :: st) u P = (if ¬ y2 = y1 then zr 58 35 [v0, v1, v2, v3] st u P else zr 58 27 [v0, v1, v2, v3] st u P) := zr_Cmp k58_24
theorem k58_27 : xcd 58 27 = oIl 2 28 := rfl
theorem r58_27 : zr 58 27 [v0, v1, .int x2, v3] st u P = zr 58 28 [v0, v1, .int x2, v3] (.int x2 :: st) u P := zr_Il k58_27 rfl
theorem k58_28 : xcd 58 28 = oAl 0 29 := rfl
theorem r58_28 : zr 58 28 [.ref a0, v1, v2, v3] st u P = zr 58 29 [.ref a0, v1, v2, v3] (.ref a0 :: st) u P := zr_Al k58_28 rfl
theorem k58_29 : xcd 58 29 = oIl 3 30 := rfl
theorem r58_29 : zr 58 29 [v0, v1, v2, .int x3] st u P = zr 58 30 [v0, v1, v2, .int x3] (.int x3 :: st) u P := zr_Il k58_29 rfl
theorem k58_30 : xcd 58 30 = oCalV 5 57 1 33 := rfl
theorem r58_30 : zr 58 30 [v0, v1, v2, v3] (.int y1 :: .ref b8 :: st) u P = ((xIs u b8 5 ∧ xcat st ≤ 8) ∧ zr 57 0 [.ref b8, .int y1] [] u (fun r u2 => zr 58 33 [v0, v1, v2, v3] (r.toList ++ st) u2 P)) := zr_CV k58_30 rfl rfl rfl ⟨Nat.le_of_ble_eq_true rfl, Nat.succ_ne_zero _, by decide⟩ rfl
theorem k58_33 : xcd 58 33 = oB (fun x y => x + y) 34 := rfl
theorem r58_33 : zr 58 33 [v0, v1, v2, v3] (.int y1 :: .int y2 :: st) u P = zr 58 34 [v0, v1, v2, v3] (.int (y2 + y1) :: st) u P := zr_B k58_33
theorem k58_34 : xcd 58 34 = oIs 2 35 := rfl
theorem r58_34 : zr 58 34 [v0, .int x1, v2, v3] (.int y1 :: st) u P = zr 58 35 [v0, .int x1, .int y1, v3] st u P := zr_Is k58_34 ⟨Nat.le_of_ble_eq_true rfl, rfl⟩
theorem k58_35 : xcd 58 35 = oInc 3 1 38 := rfl
theorem r58_35 : zr 58 35 [v0, v1, .int x2, .int x3] st u P = zr 58 38 [v0, v1, .int x2, .int (x3 + 1)] st u P := zr_Inc k58_35 rfl rfl
theorem k58_38 : xcd 58 38 = oGoto 4 := rfl
theorem r58_38 : zr 58 38 [v0, v1, v2, v3] st u P = zr 58 4 [v0, v1, v2, v3] st u P := zr_Goto k58_38
theorem k58_41 : xcd 58 41 = oIl 2 42 := rfl
theorem r58_41 : zr 58 41 [v0, v1, .int x2, v3] st u P = zr 58 42 [v0, v1, .int x2, v3] (.int x2 :: st) u P := zr_Il k58_41 rfl
theorem k58_42 : xcd 58 42 = oRi 0 := rfl
theorem r58_42 : zr 58 42 [v0, v1, v2, v3] [.int y1] u P = P (some (.int y1)) u := zr_Ri k58_42
theorem k59_0 : xcd 59 0 = oI 0 1 := rfl
theorem r59_0 : zr 59 0 [v0, v1, v2] st u P = zr 59 1 [v0, v1, v2] (.int 0 :: st) u P := zr_I k59_0
theorem k59_1 : xcd 59 1 = oIs 2 2 := rfl
theorem r59_1 : zr 59 1 [v0, .int x1, v2] (.int y1 :: st) u P = zr 59 2 [v0, .int x1, .int y1] st u P := zr_Is k59_1 ⟨Nat.le_of_ble_eq_true rfl, rfl⟩
theorem k59_2 : xcd 59 2 = oIl 2 3 := rfl
theorem r59_2 : zr 59 2 [v0, v1, .int x2] st u P = zr 59 3 [v0, v1, .int x2] (.int x2 :: st) u P := zr_Il k59_2 rfl
theorem k59_3 : xcd 59 3 = oAl 0 4 := rfl
theorem r59_3 : zr 59 3 [.ref a0, v1, v2] st u P = zr 59 4 [.ref a0, v1, v2] (.ref a0 :: st) u P := zr_Al k59_3 rfl
theorem k59_4 : xcd 59 4 = oGI 5 8 7 := rfl
theorem r59_4 : zr 59 4 [v0, v1, v2] (.ref b1 :: st) u P = (xIs u b1 5 ∧ zr 59 7 [v0, v1, v2] (.int (xI u b1 8) :: st) u P) := zr_GI k59_4
theorem k59_7 : xcd 59 7 = oCmp (fun x y => decide (y ≤ x)) 28 10 := rfl
theorem r59_7 : zr 59 7 [v0, v1, v2] (.int y1 :: .int y2 :: st) u P = (if y1 ≤ y2 then zr 59 28 [v0, v1, v2] st u P else zr 59 10 [v0, v1, v2] st u P) := zr_Cmp k59_7
theorem k59_10 : xcd 59 10 = oAl 0 11 := rfl
theorem r59_10 : zr 59 10 [.ref a0, v1, v2] st u P = zr 59 11 [.ref a0, v1, v2] (.ref a0 :: st) u P := zr_Al k59_10 rfl
theorem k59_11 : xcd 59 11 = oGR 5 9 14 := rfl
theorem r59_11 : zr 59 11 [v0, v1, v2] (.ref b1 :: st) u P = (xIs u b1 5 ∧ ∃ b, xR u b1 9 = some b ∧ zr 59 14 [v0, v1, v2] (.ref b :: st) u P) := zr_GR k59_11
theorem k59_14 : xcd 59 14 = oIl 2 15 := rfl
theorem r59_14 : zr 59 14 [v0, v1, .int x2] st u P = zr 59 15 [v0, v1, .int x2] (.int x2 :: st) u P := zr_Il k59_14 rfl
theorem k59_15 : xcd 59 15 = oLd 13 16 := rfl
theorem r59_15 : zr 59 15 [v0, v1, v2] (.int y1 :: .ref b1 :: st) u P = ((xIs u b1 13 ∧ xinb y1 (xN u b1)) ∧ zr 59 16 [v0, v1, v2] (.int (xI u b1 (xix y1)) :: st) u P) := zr_Ld k59_15
theorem k59_16 : xcd 59 16 = oIl 1 17 := rfl
theorem r59_16 : zr 59 16 [v0, .int x1, v2] st u P = zr 59 17 [v0, .int x1, v2] (.int x1 :: st) u P := zr_Il k59_16 rfl
theorem k59_17 : xcd 59 17 = oCmp (fun x y => decide (¬ x = y)) 22 20 := rfl
theorem r59_17 : zr 59 17 [v0, v1, v2] (.int y1 :: .int y2 :: st) u P = (if ¬ y2 = y1 then zr 59 22 [v0, v1, v2] st u P else zr 59 20 [v0, v1, v2] st u P) := zr_Cmp k59_17
theorem k59_20 : xcd 59 20 = oI 1 21 := rfl
theorem r59_20 : zr 59 20 [v0, v1, v2] st u P = zr 59 21 [v0, v1, v2] (.int 1 :: st) u P := zr_I k59_20
theorem k59_21 : xcd 59 21 = oRz 0 := rfl
theorem r59_21 : zr 59 21 [v0, v1, v2] [.int y1] u P = ((y1 = 0 ∨ y1 = 1) ∧ P (some (.int y1)) u) := zr_Rz k59_21
theorem k59_22 : xcd 59 22 = oInc 2 1 25 := rfl
theorem r59_22 : zr 59 22 [v0, .int x1, .int x2] st u P = zr 59 25 [v0, .int x1, .int (x2 + 1)] st u P := zr_Inc k59_22 rfl rfl
theorem k59_25 : xcd 59 25 = oGoto 2 := rfl
theorem r59_25 : zr 59 25 [v0, v1, v2] st u P = zr 59 2 [v0, v1, v2] st u P := zr_Goto k59_25
theorem k59_28 : xcd 59 28 = oI 0 29 := rfl
theorem r59_28 : zr 59 28 [v0, v1, v2] st u P = zr 59 29 [v0, v1, v2] (.int 0 :: st) u P := zr_I k59_28
theorem k59_29 : xcd 59 29 = oRz 0 := rfl
theorem r59_29 : zr 59 29 [v0, v1, v2] [.int y1] u P = ((y1 = 0 ∨ y1 = 1) ∧ P (some (.int y1)) u) := zr_Rz k59_29
theorem k60_0 : xcd 60 0 = oIl 1 1 := rfl
theorem r60_0 : zr 60 0 [v0, .int x1] st u P = zr 60 1 [v0, .int x1] (.int x1 :: st) u P := zr_Il k60_0 rfl
theorem k60_1 : xcd 60 1 = oSw [52, 57, 62, 67, 72, 77, 82, 87, 92] 98 := rfl
theorem r60_1 : zr 60 1 [v0, v1] (.int y1 :: st) u P = zr 60 (if y1 < 0 ∨ 9 ≤ y1 then 98 else [52, 57, 62, 67, 72, 77, 82, 87, 92].getD y1.toNatClampNeg 98) [v0, v1] st u P := zr_Sw k60_1
theorem k60_52 : xcd 60 52 = oAl 0 53 := rfl
theorem r60_52 : zr 60 52 [.ref a0, v1] st u P = zr 60 53 [.ref a0, v1] (.ref a0 :: st) u P := zr_Al k60_52 rfl
theorem k60_53 : xcd 60 53 = oGI 5 0 56 := rfl
theorem r60_53 : zr 60 53 [v0, v1] (.ref b1 :: st) u P = (xIs u b1 5 ∧ zr 60 56 [v0, v1] (.int (xI u b1 0) :: st) u P) := zr_GI k60_53
theorem k60_56 : xcd 60 56 = oRi 0 := rfl
theorem r60_56 : zr 60 56 [v0, v1] [.int y1] u P = P (some (.int y1)) u := zr_Ri k60_56
theorem k60_57 : xcd 60 57 = oAl 0 58 := rfl
theorem r60_57 : zr 60 57 [.ref a0, v1] st u P = zr 60 58 [.ref a0, v1] (.ref a0 :: st) u P := zr_Al k60_57 rfl
theorem k60_58 : xcd 60 58 = oGI 5 1 61 := rfl
theorem r60_58 : zr 60 58 [v0, v1] (.ref b1 :: st) u P = (xIs u b1 5 ∧ zr 60 61 [v0, v1] (.int (xI u b1 1) :: st) u P) := zr_GI k60_58
theorem k60_61 : xcd 60 61 = oRi 0 := rfl
theorem r60_61 : zr 60 61 [v0, v1] [.int y1] u P = P (some (.int y1)) u := zr_Ri k60_61
theorem k60_62 : xcd 60 62 = oAl 0 63 := rfl
theorem r60_62 : zr 60 62 [.ref a0, v1] st u P = zr 60 63 [.ref a0, v1] (.ref a0 :: st) u P := zr_Al k60_62 rfl
theorem k60_63 : xcd 60 63 = oGI 5 2 66 := rfl
theorem r60_63 : zr 60 63 [v0, v1] (.ref b1 :: st) u P = (xIs u b1 5 ∧ zr 60 66 [v0, v1] (.int (xI u b1 2) :: st) u P) := zr_GI k60_63
theorem k60_66 : xcd 60 66 = oRi 0 := rfl
theorem r60_66 : zr 60 66 [v0, v1] [.int y1] u P = P (some (.int y1)) u := zr_Ri k60_66
theorem k60_67 : xcd 60 67 = oAl 0 68 := rfl
theorem r60_67 : zr 60 67 [.ref a0, v1] st u P = zr 60 68 [.ref a0, v1] (.ref a0 :: st) u P := zr_Al k60_67 rfl
theorem k60_68 : xcd 60 68 = oGI 5 3 71 := rfl
theorem r60_68 : zr 60 68 [v0, v1] (.ref b1 :: st) u P = (xIs u b1 5 ∧ zr 60 71 [v0, v1] (.int (xI u b1 3) :: st) u P) := zr_GI k60_68
theorem k60_71 : xcd 60 71 = oRi 0 := rfl
theorem r60_71 : zr 60 71 [v0, v1] [.int y1] u P = P (some (.int y1)) u := zr_Ri k60_71
theorem k60_72 : xcd 60 72 = oAl 0 73 := rfl
theorem r60_72 : zr 60 72 [.ref a0, v1] st u P = zr 60 73 [.ref a0, v1] (.ref a0 :: st) u P := zr_Al k60_72 rfl
theorem k60_73 : xcd 60 73 = oGI 5 4 76 := rfl
theorem r60_73 : zr 60 73 [v0, v1] (.ref b1 :: st) u P = (xIs u b1 5 ∧ zr 60 76 [v0, v1] (.int (xI u b1 4) :: st) u P) := zr_GI k60_73
theorem k60_76 : xcd 60 76 = oRi 0 := rfl
theorem r60_76 : zr 60 76 [v0, v1] [.int y1] u P = P (some (.int y1)) u := zr_Ri k60_76
theorem k60_77 : xcd 60 77 = oAl 0 78 := rfl
theorem r60_77 : zr 60 77 [.ref a0, v1] st u P = zr 60 78 [.ref a0, v1] (.ref a0 :: st) u P := zr_Al k60_77 rfl
theorem k60_78 : xcd 60 78 = oGI 5 5 81 := rfl
theorem r60_78 : zr 60 78 [v0, v1] (.ref b1 :: st) u P = (xIs u b1 5 ∧ zr 60 81 [v0, v1] (.int (xI u b1 5) :: st) u P) := zr_GI k60_78
theorem k60_81 : xcd 60 81 = oRi 0 := rfl
theorem r60_81 : zr 60 81 [v0, v1] [.int y1] u P = P (some (.int y1)) u := zr_Ri k60_81
theorem k60_82 : xcd 60 82 = oAl 0 83 := rfl
theorem r60_82 : zr 60 82 [.ref a0, v1] st u P = zr 60 83 [.ref a0, v1] (.ref a0 :: st) u P := zr_Al k60_82 rfl
theorem k60_83 : xcd 60 83 = oGI 5 6 86 := rfl
theorem r60_83 : zr 60 83 [v0, v1] (.ref b1 :: st) u P = (xIs u b1 5 ∧ zr 60 86 [v0, v1] (.int (xI u b1 6) :: st) u P) := zr_GI k60_83
theorem k60_86 : xcd 60 86 = oRi 0 := rfl
theorem r60_86 : zr 60 86 [v0, v1] [.int y1] u P = P (some (.int y1)) u := zr_Ri k60_86
theorem k60_87 : xcd 60 87 = oAl 0 88 := rfl
theorem r60_87 : zr 60 87 [.ref a0, v1] st u P = zr 60 88 [.ref a0, v1] (.ref a0 :: st) u P := zr_Al k60_87 rfl
theorem k60_88 : xcd 60 88 = oGI 5 8 91 := rfl
theorem r60_88 : zr 60 88 [v0, v1] (.ref b1 :: st) u P = (xIs u b1 5 ∧ zr 60 91 [v0, v1] (.int (xI u b1 8) :: st) u P) := zr_GI k60_88
theorem k60_91 : xcd 60 91 = oRi 0 := rfl
theorem r60_91 : zr 60 91 [v0, v1] [.int y1] u P = P (some (.int y1)) u := zr_Ri k60_91
theorem k60_92 : xcd 60 92 = oAl 0 93 := rfl
theorem r60_92 : zr 60 92 [.ref a0, v1] st u P = zr 60 93 [.ref a0, v1] (.ref a0 :: st) u P := zr_Al k60_92 rfl
theorem k60_93 : xcd 60 93 = oI (-1) 94 := rfl
theorem r60_93 : zr 60 93 [v0, v1] st u P = zr 60 94 [v0, v1] (.int (-1) :: st) u P := zr_I k60_93
theorem k60_94 : xcd 60 94 = oCalV 5 58 1 97 := rfl
theorem r60_94 : zr 60 94 [v0, v1] (.int y1 :: .ref b8 :: st) u P = ((xIs u b8 5 ∧ xcat st ≤ 8) ∧ zr 58 0 [.ref b8, .int y1, .null, .null] [] u (fun r u2 => zr 60 97 [v0, v1] (r.toList ++ st) u2 P)) := zr_CV k60_94 rfl rfl rfl ⟨Nat.le_of_ble_eq_true rfl, Nat.succ_ne_zero _, by decide⟩ rfl
theorem k60_97 : xcd 60 97 = oRi 0 := rfl
theorem r60_97 : zr 60 97 [v0, v1] [.int y1] u P = P (some (.int y1)) u := zr_Ri k60_97
theorem k60_98 : xcd 60 98 = oAl 0 99 := rfl
theorem r60_98 : zr 60 98 [.ref a0, v1] st u P = zr 60 99 [.ref a0, v1] (.ref a0 :: st) u P := zr_Al k60_98 rfl
theorem k60_99 : xcd 60 99 = oGI 5 7 102 := rfl
theorem r60_99 : zr 60 99 [v0, v1] (.ref b1 :: st) u P = (xIs u b1 5 ∧ zr 60 102 [v0, v1] (.int (xI u b1 7) :: st) u P) := zr_GI k60_99
theorem k60_102 : xcd 60 102 = oIf (fun x => decide (x < 0)) 109 105 := rfl
theorem r60_102 : zr 60 102 [v0, v1] (.int y1 :: st) u P = (if y1 < 0 then zr 60 109 [v0, v1] st u P else zr 60 105 [v0, v1] st u P) := zr_If k60_102
theorem k60_105 : xcd 60 105 = oI 1 106 := rfl
theorem r60_105 : zr 60 105 [v0, v1] st u P = zr 60 106 [v0, v1] (.int 1 :: st) u P := zr_I k60_105
theorem k60_106 : xcd 60 106 = oGoto 110 := rfl
theorem r60_106 : zr 60 106 [v0, v1] st u P = zr 60 110 [v0, v1] st u P := zr_Goto k60_106
theorem k60_109 : xcd 60 109 = oI 0 110 := rfl
theorem r60_109 : zr 60 109 [v0, v1] st u P = zr 60 110 [v0, v1] (.int 0 :: st) u P := zr_I k60_109
theorem k60_110 : xcd 60 110 = oCal 165 1 113 := rfl
theorem r60_110 : zr 60 110 [v0, v1] (.int y1 :: st) u P = (xcat st ≤ 8 ∧ zr 165 0 [.int y1] [] u (fun r u2 => zr 60 113 [v0, v1] (r.toList ++ st) u2 P)) := zr_CS k60_110 (Nat.le_add_left _ _) rfl rfl ⟨Nat.le_of_ble_eq_true rfl, Nat.succ_ne_zero _, by decide⟩ rfl
theorem k60_113 : xcd 60 113 = oRi 0 := rfl
theorem r60_113 : zr 60 113 [v0, v1] [.int y1] u P = P (some (.int y1)) u := zr_Ri k60_113
theorem k61_0 : xcd 61 0 = oIl 2 1 := rfl
theorem r61_0 : zr 61 0 [v0, v1, .int x2] st u P = zr 61 1 [v0, v1, .int x2] (.int x2 :: st) u P := zr_Il k61_0 rfl
theorem k61_1 : xcd 61 1 = oSw [36, 43, 50, 57, 67] 73 := rfl
theorem r61_1 : zr 61 1 [v0, v1, v2] (.int y1 :: st) u P = zr 61 (if y1 < 0 ∨ 5 ≤ y1 then 73 else [36, 43, 50, 57, 67].getD y1.toNatClampNeg 73) [v0, v1, v2] st u P := zr_Sw k61_1
theorem k61_36 : xcd 61 36 = oAl 0 37 := rfl
theorem r61_36 : zr 61 36 [.ref a0, v1, v2] st u P = zr 61 37 [.ref a0, v1, v2] (.ref a0 :: st) u P := zr_Al k61_36 rfl
theorem k61_37 : xcd 61 37 = oGR 5 9 40 := rfl
theorem r61_37 : zr 61 37 [v0, v1, v2] (.ref b1 :: st) u P = (xIs u b1 5 ∧ ∃ b, xR u b1 9 = some b ∧ zr 61 40 [v0, v1, v2] (.ref b :: st) u P) := zr_GR k61_37
theorem k61_40 : xcd 61 40 = oIl 1 41 := rfl
theorem r61_40 : zr 61 40 [v0, .int x1, v2] st u P = zr 61 41 [v0, .int x1, v2] (.int x1 :: st) u P := zr_Il k61_40 rfl
theorem k61_41 : xcd 61 41 = oLd 13 42 := rfl
theorem r61_41 : zr 61 41 [v0, v1, v2] (.int y1 :: .ref b1 :: st) u P = ((xIs u b1 13 ∧ xinb y1 (xN u b1)) ∧ zr 61 42 [v0, v1, v2] (.int (xI u b1 (xix y1)) :: st) u P) := zr_Ld k61_41
theorem k61_42 : xcd 61 42 = oRi 0 := rfl
theorem r61_42 : zr 61 42 [v0, v1, v2] [.int y1] u P = P (some (.int y1)) u := zr_Ri k61_42
theorem k61_43 : xcd 61 43 = oAl 0 44 := rfl
theorem r61_43 : zr 61 43 [.ref a0, v1, v2] st u P = zr 61 44 [.ref a0, v1, v2] (.ref a0 :: st) u P := zr_Al k61_43 rfl
theorem k61_44 : xcd 61 44 = oGR 5 10 47 := rfl
theorem r61_44 : zr 61 44 [v0, v1, v2] (.ref b1 :: st) u P = (xIs u b1 5 ∧ ∃ b, xR u b1 10 = some b ∧ zr 61 47 [v0, v1, v2] (.ref b :: st) u P) := zr_GR k61_44
theorem k61_47 : xcd 61 47 = oIl 1 48 := rfl
theorem r61_47 : zr 61 47 [v0, .int x1, v2] st u P = zr 61 48 [v0, .int x1, v2] (.int x1 :: st) u P := zr_Il k61_47 rfl
theorem k61_48 : xcd 61 48 = oLd 13 49 := rfl
theorem r61_48 : zr 61 48 [v0, v1, v2] (.int y1 :: .ref b1 :: st) u P = ((xIs u b1 13 ∧ xinb y1 (xN u b1)) ∧ zr 61 49 [v0, v1, v2] (.int (xI u b1 (xix y1)) :: st) u P) := zr_Ld k61_48
theorem k61_49 : xcd 61 49 = oRi 0 := rfl
theorem r61_49 : zr 61 49 [v0, v1, v2] [.int y1] u P = P (some (.int y1)) u := zr_Ri k61_49
theorem k61_50 : xcd 61 50 = oAl 0 51 := rfl
theorem r61_50 : zr 61 50 [.ref a0, v1, v2] st u P = zr 61 51 [.ref a0, v1, v2] (.ref a0 :: st) u P := zr_Al k61_50 rfl
theorem k61_51 : xcd 61 51 = oGR 5 11 54 := rfl
theorem r61_51 : zr 61 51 [v0, v1, v2] (.ref b1 :: st) u P = (xIs u b1 5 ∧ ∃ b, xR u b1 11 = some b ∧ zr 61 54 [v0, v1, v2] (.ref b :: st) u P) := zr_GR k61_51
theorem k61_54 : xcd 61 54 = oIl 1 55 := rfl
theorem r61_54 : zr 61 54 [v0, .int x1, v2] st u P = zr 61 55 [v0, .int x1, v2] (.int x1 :: st) u P := zr_Il k61_54 rfl
theorem k61_55 : xcd 61 55 = oLd 13 56 := rfl
theorem r61_55 : zr 61 55 [v0, v1, v2] (.int y1 :: .ref b1 :: st) u P = ((xIs u b1 13 ∧ xinb y1 (xN u b1)) ∧ zr 61 56 [v0, v1, v2] (.int (xI u b1 (xix y1)) :: st) u P) := zr_Ld k61_55
theorem k61_56 : xcd 61 56 = oRi 0 := rfl
theorem r61_56 : zr 61 56 [v0, v1, v2] [.int y1] u P = P (some (.int y1)) u := zr_Ri k61_56
theorem k61_57 : xcd 61 57 = oAl 0 58 := rfl
theorem r61_57 : zr 61 57 [.ref a0, v1, v2] st u P = zr 61 58 [.ref a0, v1, v2] (.ref a0 :: st) u P := zr_Al k61_57 rfl
theorem k61_58 : xcd 61 58 = oGR 5 12 61 := rfl
theorem r61_58 : zr 61 58 [v0, v1, v2] (.ref b1 :: st) u P = (xIs u b1 5 ∧ ∃ b, xR u b1 12 = some b ∧ zr 61 61 [v0, v1, v2] (.ref b :: st) u P) := zr_GR k61_58
theorem k61_61 : xcd 61 61 = oIl 1 62 := rfl
theorem r61_61 : zr 61 61 [v0, .int x1, v2] st u P = zr 61 62 [v0, .int x1, v2] (.int x1 :: st) u P := zr_Il k61_61 rfl
theorem k61_62 : xcd 61 62 = oLd 15 63 := rfl
theorem r61_62 : zr 61 62 [v0, v1, v2] (.int y1 :: .ref b1 :: st) u P = ((xIs u b1 15 ∧ xinb y1 (xN u b1)) ∧ zr 61 63 [v0, v1, v2] (.int (xI u b1 (xix y1)) :: st) u P) := zr_Ld k61_62
theorem k61_63 : xcd 61 63 = oCal 165 1 66 := rfl
theorem r61_63 : zr 61 63 [v0, v1, v2] (.int y1 :: st) u P = (xcat st ≤ 8 ∧ zr 165 0 [.int y1] [] u (fun r u2 => zr 61 66 [v0, v1, v2] (r.toList ++ st) u2 P)) := zr_CS k61_63 (Nat.le_add_left _ _) rfl rfl ⟨Nat.le_of_ble_eq_true rfl, Nat.succ_ne_zero _, by decide⟩ rfl
theorem k61_66 : xcd 61 66 = oRi 0 := rfl
theorem r61_66 : zr 61 66 [v0, v1, v2] [.int y1] u P = P (some (.int y1)) u := zr_Ri k61_66
theorem k61_67 : xcd 61 67 = oAl 0 68 := rfl
theorem r61_67 : zr 61 67 [.ref a0, v1, v2] st u P = zr 61 68 [.ref a0, v1, v2] (.ref a0 :: st) u P := zr_Al k61_67 rfl
theorem k61_68 : xcd 61 68 = oIl 1 69 := rfl
theorem r61_68 : zr 61 68 [v0, .int x1, v2] st u P = zr 61 69 [v0, .int x1, v2] (.int x1 :: st) u P := zr_Il k61_68 rfl
theorem k61_69 : xcd 61 69 = oCalV 5 56 1 72 := rfl
theorem r61_69 : zr 61 69 [v0, v1, v2] (.int y1 :: .ref b8 :: st) u P = ((xIs u b8 5 ∧ xcat st ≤ 8) ∧ zr 56 0 [.ref b8, .int y1] [] u (fun r u2 => zr 61 72 [v0, v1, v2] (r.toList ++ st) u2 P)) := zr_CV k61_69 rfl rfl rfl ⟨Nat.le_of_ble_eq_true rfl, Nat.succ_ne_zero _, by decide⟩ rfl
theorem k61_72 : xcd 61 72 = oRi 0 := rfl
theorem r61_72 : zr 61 72 [v0, v1, v2] [.int y1] u P = P (some (.int y1)) u := zr_Ri k61_72
theorem k61_73 : xcd 61 73 = oAl 0 74 := rfl
theorem r61_73 : zr 61 73 [.ref a0, v1, v2] st u P = zr 61 74 [.ref a0, v1, v2] (.ref a0 :: st) u P := zr_Al k61_73 rfl
theorem k61_74 : xcd 61 74 = oIl 1 75 := rfl
theorem r61_74 : zr 61 74 [v0, .int x1, v2] st u P = zr 61 75 [v0, .int x1, v2] (.int x1 :: st) u P := zr_Il k61_74 rfl
theorem k61_75 : xcd 61 75 = oCalV 5 57 1 78 := rfl
theorem r61_75 : zr 61 75 [v0, v1, v2] (.int y1 :: .ref b8 :: st) u P = ((xIs u b8 5 ∧ xcat st ≤ 8) ∧ zr 57 0 [.ref b8, .int y1] [] u (fun r u2 => zr 61 78 [v0, v1, v2] (r.toList ++ st) u2 P)) := zr_CV k61_75 rfl rfl rfl ⟨Nat.le_of_ble_eq_true rfl, Nat.succ_ne_zero _, by decide⟩ rfl
theorem k61_78 : xcd 61 78 = oRi 0 := rfl
theorem r61_78 : zr 61 78 [v0, v1, v2] [.int y1] u P = P (some (.int y1)) u := zr_Ri k61_78
theorem k63_0 : xcd 63 0 = oAl 0 1 := rfl
theorem r63_0 : zr 63 0 [.ref a0, v1, v2, v3, v4] st u P = zr 63 1 [.ref a0, v1, v2, v3, v4] (.ref a0 :: st) u P := zr_Al k63_0 rfl
theorem k63_1 : xcd 63 1 = oGI 6 0 4 := rfl
theorem r63_1 : zr 63 1 [v0, v1, v2, v3, v4] (.ref b1 :: st) u P = (xIs u b1 6 ∧ zr 63 4 [v0, v1, v2, v3, v4] (.int (xI u b1 0) :: st) u P) := zr_GI k63_1
theorem k63_4 : xcd 63 4 = oI 1 5 := rfl
theorem r63_4 : zr 63 4 [v0, v1, v2, v3, v4] st u P = zr 63 5 [v0, v1, v2, v3, v4] (.int 1 :: st) u P := zr_I k63_4
theorem k63_5 : xcd 63 5 = oB (fun x y => x - y) 6 := rfl
theorem r63_5 : zr 63 5 [v0, v1, v2, v3, v4] (.int y1 :: .int y2 :: st) u P = zr 63 6 [v0, v1, v2, v3, v4] (.int (y2 - y1) :: st) u P := zr_B k63_5
theorem k63_6 : xcd 63 6 = oIs 4 8 := rfl
theorem r63_6 : zr 63 6 [v0, v1, v2, .int x3, v4] (.int y1 :: st) u P = zr 63 8 [v0, v1, v2, .int x3, .int y1] st u P := zr_Is k63_6 ⟨Nat.le_of_ble_eq_true rfl, rfl⟩
theorem k63_8 : xcd 63 8 = oIl 4 10 := rfl
theorem r63_8 : zr 63 8 [v0, v1, v2, v3, .int x4] st u P = zr 63 10 [v0, v1, v2, v3, .int x4] (.int x4 :: st) u P := zr_Il k63_8 rfl
theorem k63_10 : xcd 63 10 = oIf (fun x => decide (x < 0)) 55 13 := rfl
theorem r63_10 : zr 63 10 [v0, v1, v2, v3, v4] (.int y1 :: st) u P = (if y1 < 0 then zr 63 55 [v0, v1, v2, v3, v4] st u P else zr 63 13 [v0, v1, v2, v3, v4] st u P) := zr_If k63_10
theorem k63_13 : xcd 63 13 = oAl 0 14 := rfl
theorem r63_13 : zr 63 13 [.ref a0, v1, v2, v3, v4] st u P = zr 63 14 [.ref a0, v1, v2, v3, v4] (.ref a0 :: st) u P := zr_Al k63_13 rfl
theorem k63_14 : xcd 63 14 = oGR 6 1 17 := rfl
theorem r63_14 : zr 63 14 [v0, v1, v2, v3, v4] (.ref b1 :: st) u P = (xIs u b1 6 ∧ ∃ b, xR u b1 1 = some b ∧ zr 63 17 [v0, v1, v2, v3, v4] (.ref b :: st) u P) := zr_GR k63_14
theorem k63_17 : xcd 63 17 = oIl 4 19 := rfl
theorem r63_17 : zr 63 17 [v0, v1, v2, v3, .int x4] st u P = zr 63 19 [v0, v1, v2, v3, .int x4] (.int x4 :: st) u P := zr_Il k63_17 rfl
theorem k63_19 : xcd 63 19 = oLd 13 20 := rfl
theorem r63_19 : zr 63 19 [v0, v1, v2, v3, v4] (.int y1 :: .ref b1 :: st) u P = ((xIs u b1 13 ∧ xinb y1 (xN u b1)) ∧ zr 63 20 [v0, v1, v2, v3, v4] (.int (xI u b1 (xix y1)) :: st) u P) := zr_Ld k63_19
theorem k63_20 : xcd 63 20 = oIl 1 21 := rfl
theorem r63_20 : zr 63 20 [v0, .int x1, v2, v3, v4] st u P = zr 63 21 [v0, .int x1, v2, v3, v4] (.int x1 :: st) u P := zr_Il k63_20 rfl
theorem k63_21 : xcd 63 21 = oCmp (fun x y => decide (¬ x = y)) 49 24 := rfl
theorem r63_21 : zr 63 21 [v0, v1, v2, v3, v4] (.int y1 :: .int y2 :: st) u P = (if ¬ y2 = y1 then zr 63 49 [v0, v1, v2, v3, v4] st u P else zr 63 24 [v0, v1, v2, v3, v4] st u P) := zr_Cmp k63_21
theorem k63_24 : xcd 63 24 = oAl 0 25 := rfl
theorem r63_24 : zr 63 24 [.ref a0, v1, v2, v3, v4] st u P = zr 63 25 [.ref a0, v1, v2, v3, v4] (.ref a0 :: st) u P := zr_Al k63_24 rfl
theorem k63_25 : xcd 63 25 = oGR 6 2 28 := rfl
theorem r63_25 : zr 63 25 [v0, v1, v2, v3, v4] (.ref b1 :: st) u P = (xIs u b1 6 ∧ ∃ b, xR u b1 2 = some b ∧ zr 63 28 [v0, v1, v2, v3, v4] (.ref b :: st) u P) := zr_GR k63_25
theorem k63_28 : xcd 63 28 = oIl 4 30 := rfl
theorem r63_28 : zr 63 28 [v0, v1, v2, v3, .int x4] st u P = zr 63 30 [v0, v1, v2, v3, .int x4] (.int x4 :: st) u P := zr_Il k63_28 rfl
theorem k63_30 : xcd 63 30 = oLd 13 31 := rfl
theorem r63_30 : zr 63 30 [v0, v1, v2, v3, v4] (.int y1 :: .ref b1 :: st) u P = ((xIs u b1 13 ∧ xinb y1 (xN u b1)) ∧ zr 63 31 [v0, v1, v2, v3, v4] (.int (xI u b1 (xix y1)) :: st) u P) := zr_Ld k63_30
theorem k63_31 : xcd 63 31 = oIl 2 32 := rfl
theorem r63_31 : zr 63 31 [v0, v1, .int x2, v3, v4] st u P = zr 63 32 [v0, v1, .int x2, v3, v4] (.int x2 :: st) u P := zr_Il k63_31 rfl
theorem k63_32 : xcd 63 32 = oCmp (fun x y => decide (¬ x = y)) 49 35 := rfl
theorem r63_32 : zr 63 32 [v0, v1, v2, v3, v4] (.int y1 :: .int y2 :: st) u P = (if ¬ y2 = y1 then zr 63 49 [v0, v1, v2, v3, v4] st u P else zr 63 35 [v0, v1, v2, v3, v4] st u P) := zr_Cmp k63_32
theorem k63_35 : xcd 63 35 = oAl 0 36 := rfl
theorem r63_35 : zr 63 35 [.ref a0, v1, v2, v3, v4] st u P = zr 63 36 [.ref a0, v1, v2, v3, v4] (.ref a0 :: st) u P := zr_Al k63_35 rfl
theorem k63_36 : xcd 63 36 = oGR 6 3 39 := rfl
theorem r63_36 : zr 63 36 [v0, v1, v2, v3, v4] (.ref b1 :: st) u P = (xIs u b1 6 ∧ ∃ b, xR u b1 3 = some b ∧ zr 63 39 [v0, v1, v2, v3, v4] (.ref b :: st) u P) := zr_GR k63_36
theorem k63_39 : xcd 63 39 = oIl 4 41 := rfl
theorem r63_39 : zr 63 39 [v0, v1, v2, v3, .int x4] st u P = zr 63 41 [v0, v1, v2, v3, .int x4] (.int x4 :: st) u P := zr_Il k63_39 rfl
theorem k63_41 : xcd 63 41 = oLd 13 42 := rfl
theorem r63_41 : zr 63 41 [v0, v1, v2, v3, v4] (.int y1 :: .ref b1 :: st) u P = ((xIs u b1 13 ∧ xinb y1 (xN u b1)) ∧ zr 63 42 [v0, v1, v2, v3, v4] (.int (xI u b1 (xix y1)) :: st) u P) := zr_Ld k63_41
theorem k63_42 : xcd 63 42 = oIl 3 43 := rfl
theorem r63_42 : zr 63 42 [v0, v1, v2, .int x3, v4] st u P = zr 63 43 [v0, v1, v2, .int x3, v4] (.int x3 :: st) u P := zr_Il k63_42 rfl
theorem k63_43 : xcd 63 43 = oCmp (fun x y => decide (y < x)) 49 46 := rfl
theorem r63_43 : zr 63 43 [v0, v1, v2, v3, v4] (.int y1 :: .int y2 :: st) u P = (if y1 < y2 then zr 63 49 [v0, v1, v2, v3, v4] st u P else zr 63 46 [v0, v1, v2, v3, v4] st u P) := zr_Cmp k63_43
theorem k63_46 : xcd 63 46 = oIl 4 48 := rfl
theorem r63_46 : zr 63 46 [v0, v1, v2, v3, .int x4] st u P = zr 63 48 [v0, v1, v2, v3, .int x4] (.int x4 :: st) u P := zr_Il k63_46 rfl
theorem k63_48 : xcd 63 48 = oRi 0 := rfl
theorem r63_48 : zr 63 48 [v0, v1, v2, v3, v4] [.int y1] u P = P (some (.int y1)) u := zr_Ri k63_48
theorem k63_49 : xcd 63 49 = oInc 4 (-1) 52 := rfl
theorem r63_49 : zr 63 49 [v0, v1, v2, .int x3, .int x4] st u P = zr 63 52 [v0, v1, v2, .int x3, .int (x4 + (-1))] st u P := zr_Inc k63_49 rfl rfl
theorem k63_52 : xcd 63 52 = oGoto 8 := rfl
theorem r63_52 : zr 63 52 [v0, v1, v2, v3, v4] st u P = zr 63 8 [v0, v1, v2, v3, v4] st u P := zr_Goto k63_52
theorem k63_55 : xcd 63 55 = oI (-1) 56 := rfl
theorem r63_55 : zr 63 55 [v0, v1, v2, v3, v4] st u P = zr 63 56 [v0, v1, v2, v3, v4] (.int (-1) :: st) u P := zr_I k63_55
theorem k63_56 : xcd 63 56 = oRi 0 := rfl
theorem r63_56 : zr 63 56 [v0, v1, v2, v3, v4] [.int y1] u P = P (some (.int y1)) u := zr_Ri k63_56
theorem k64_0 : xcd 64 0 = oAl 0 1 := rfl
theorem r64_0 : zr 64 0 [.ref a0, v1, v2, v3] st u P = zr 64 1 [.ref a0, v1, v2, v3] (.ref a0 :: st) u P := zr_Al k64_0 rfl
theorem k64_1 : xcd 64 1 = oIl 1 2 := rfl
theorem r64_1 : zr 64 1 [v0, .int x1, v2, v3] st u P = zr 64 2 [v0, .int x1, v2, v3] (.int x1 :: st) u P := zr_Il k64_1 rfl
theorem k64_2 : xcd 64 2 = oIl 2 3 := rfl
theorem r64_2 : zr 64 2 [v0, v1, .int x2, v3] st u P = zr 64 3 [v0, v1, .int x2, v3] (.int x2 :: st) u P := zr_Il k64_2 rfl
theorem k64_3 : xcd 64 3 = oI 999 6 := rfl
theorem r64_3 : zr 64 3 [v0, v1, v2, v3] st u P = zr 64 6 [v0, v1, v2, v3] (.int 999 :: st) u P := zr_I k64_3
theorem k64_6 : xcd 64 6 = oCalV 6 63 3 9 := rfl
theorem r64_6 : zr 64 6 [v0, v1, v2, v3] (.int y3 :: .int y2 :: .int y1 :: .ref b8 :: st) u P = ((xIs u b8 6 ∧ xcat st ≤ 8) ∧ zr 63 0 [.ref b8, .int y1, .int y2, .int y3, .null] [] u (fun r u2 => zr 64 9 [v0, v1, v2, v3] (r.toList ++ st) u2 P)) := zr_CV k64_6 rfl rfl rfl ⟨Nat.le_of_ble_eq_true rfl, Nat.succ_ne_zero _, by decide⟩ rfl
theorem k64_9 : xcd 64 9 = oIs 3 10 := rfl
theorem r64_9 : zr 64 9 [v0, v1, .int x2, v3] (.int y1 :: st) u P = zr 64 10 [v0, v1, .int x2, .int y1] st u P := zr_Is k64_9 ⟨Nat.le_of_ble_eq_true rfl, rfl⟩
theorem k64_10 : xcd 64 10 = oIl 3 11 := rfl
theorem r64_10 : zr 64 10 [v0, v1, v2, .int x3] st u P = zr 64 11 [v0, v1, v2, .int x3] (.int x3 :: st) u P := zr_Il k64_10 rfl
theorem k64_11 : xcd 64 11 = oIf (fun x => decide (0 ≤ x)) 18 14 := rfl
theorem r64_11 : zr 64 11 [v0, v1, v2, v3] (.int y1 :: st) u P = (if 0 ≤ y1 then zr 64 18 [v0, v1, v2, v3] st u P else zr 64 14 [v0, v1, v2, v3] st u P) := zr_If k64_11
theorem k64_14 : xcd 64 14 = oI 0 15 := rfl
theorem r64_14 : zr 64 14 [v0, v1, v2, v3] st u P = zr 64 15 [v0, v1, v2, v3] (.int 0 :: st) u P := zr_I k64_14
theorem k64_15 : xcd 64 15 = oGoto 26 := rfl
theorem r64_15 : zr 64 15 [v0, v1, v2, v3] st u P = zr 64 26 [v0, v1, v2, v3] st u P := zr_Goto k64_15
theorem k64_18 : xcd 64 18 = oAl 0 19 := rfl
theorem r64_18 : zr 64 18 [.ref a0, v1, v2, v3] st u P = zr 64 19 [.ref a0, v1, v2, v3] (.ref a0 :: st) u P := zr_Al k64_18 rfl
theorem k64_19 : xcd 64 19 = oGR 6 3 22 := rfl
theorem r64_19 : zr 64 19 [v0, v1, v2, v3] (.ref b1 :: st) u P = (xIs u b1 6 ∧ ∃ b, xR u b1 3 = some b ∧ zr 64 22 [v0, v1, v2, v3] (.ref b :: st) u P) := zr_GR k64_19
theorem k64_22 : xcd 64 22 = oIl 3 23 := rfl
theorem r64_22 : zr 64 22 [v0, v1, v2, .int x3] st u P = zr 64 23 [v0, v1, v2, .int x3] (.int x3 :: st) u P := zr_Il k64_22 rfl
theorem k64_23 : xcd 64 23 = oLd 13 24 := rfl
theorem r64_23 : zr 64 23 [v0, v1, v2, v3] (.int y1 :: .ref b1 :: st) u P = ((xIs u b1 13 ∧ xinb y1 (xN u b1)) ∧ zr 64 24 [v0, v1, v2, v3] (.int (xI u b1 (xix y1)) :: st) u P) := zr_Ld k64_23
theorem k64_24 : xcd 64 24 = oI 1 25 := rfl
theorem r64_24 : zr 64 24 [v0, v1, v2, v3] st u P = zr 64 25 [v0, v1, v2, v3] (.int 1 :: st) u P := zr_I k64_24
theorem k64_25 : xcd 64 25 = oB (fun x y => x + y) 26 := rfl
theorem r64_25 : zr 64 25 [v0, v1, v2, v3] (.int y1 :: .int y2 :: st) u P = zr 64 26 [v0, v1, v2, v3] (.int (y2 + y1) :: st) u P := zr_B k64_25
theorem k64_26 : xcd 64 26 = oRi 0 := rfl
theorem r64_26 : zr 64 26 [v0, v1, v2, v3] [.int y1] u P = P (some (.int y1)) u := zr_Ri k64_26
theorem k65_0 : xcd 65 0 = oAl 0 1 := rfl
theorem r65_0 : zr 65 0 [.ref a0, v1, v2, v3, v4] st u P = zr 65 1 [.ref a0, v1, v2, v3, v4] (.ref a0 :: st) u P := zr_Al k65_0 rfl
theorem k65_1 : xcd 65 1 = oGR 6 1 4 := rfl
theorem r65_1 : zr 65 1 [v0, v1, v2, v3, v4] (.ref b1 :: st) u P = (xIs u b1 6 ∧ ∃ b, xR u b1 1 = some b ∧ zr 65 4 [v0, v1, v2, v3, v4] (.ref b :: st) u P) := zr_GR k65_1
theorem k65_4 : xcd 65 4 = oAl 0 5 := rfl
theorem r65_4 : zr 65 4 [.ref a0, v1, v2, v3, v4] st u P = zr 65 5 [.ref a0, v1, v2, v3, v4] (.ref a0 :: st) u P := zr_Al k65_4 rfl
theorem k65_5 : xcd 65 5 = oGI 6 0 8 := rfl
theorem r65_5 : zr 65 5 [v0, v1, v2, v3, v4] (.ref b1 :: st) u P = (xIs u b1 6 ∧ zr 65 8 [v0, v1, v2, v3, v4] (.int (xI u b1 0) :: st) u P) := zr_GI k65_5
theorem k65_8 : xcd 65 8 = oIl 1 9 := rfl
theorem r65_8 : zr 65 8 [v0, .int x1, v2, v3, v4] st u P = zr 65 9 [v0, .int x1, v2, v3, v4] (.int x1 :: st) u P := zr_Il k65_8 rfl
theorem k65_9 : xcd 65 9 = oSt 13 (fun x => x) 10 := rfl
theorem r65_9 : zr 65 9 [v0, v1, v2, v3, v4] (.int y2 :: .int y1 :: .ref b1 :: st) u P = ((xIs u b1 13 ∧ xinb y1 (xN u b1)) ∧ zr 65 10 [v0, v1, v2, v3, v4] st (xsI u b1 (xix y1) y2) P) := zr_St k65_9
theorem k65_10 : xcd 65 10 = oAl 0 11 := rfl
theorem r65_10 : zr 65 10 [.ref a0, v1, v2, v3, v4] st u P = zr 65 11 [.ref a0, v1, v2, v3, v4] (.ref a0 :: st) u P := zr_Al k65_10 rfl
theorem k65_11 : xcd 65 11 = oGR 6 2 14 := rfl
theorem r65_11 : zr 65 11 [v0, v1, v2, v3, v4] (.ref b1 :: st) u P = (xIs u b1 6 ∧ ∃ b, xR u b1 2 = some b ∧ zr 65 14 [v0, v1, v2, v3, v4] (.ref b :: st) u P) := zr_GR k65_11
theorem k65_14 : xcd 65 14 = oAl 0 15 := rfl
theorem r65_14 : zr 65 14 [.ref a0, v1, v2, v3, v4] st u P = zr 65 15 [.ref a0, v1, v2, v3, v4] (.ref a0 :: st) u P := zr_Al k65_14 rfl
theorem k65_15 : xcd 65 15 = oGI 6 0 18 := rfl
theorem r65_15 : zr 65 15 [v0, v1, v2, v3, v4] (.ref b1 :: st) u P = (xIs u b1 6 ∧ zr 65 18 [v0, v1, v2, v3, v4] (.int (xI u b1 0) :: st) u P) := zr_GI k65_15
theorem k65_18 : xcd 65 18 = oIl 2 19 := rfl
theorem r65_18 : zr 65 18 [v0, v1, .int x2, v3, v4] st u P = zr 65 19 [v0, v1, .int x2, v3, v4] (.int x2 :: st) u P := zr_Il k65_18 rfl
theorem k65_19 : xcd 65 19 = oSt 13 (fun x => x) 20 := rfl
theorem r65_19 : zr 65 19 [v0, v1, v2, v3, v4] (.int y2 :: .int y1 :: .ref b1 :: st) u P = ((xIs u b1 13 ∧ xinb y1 (xN u b1)) ∧ zr 65 20 [v0, v1, v2, v3, v4] st (xsI u b1 (xix y1) y2) P) := zr_St k65_19
theorem k65_20 : xcd 65 20 = oAl 0 21 := rfl
theorem r65_20 : zr 65 20 [.ref a0, v1, v2, v3, v4] st u P = zr 65 21 [.ref a0, v1, v2, v3, v4] (.ref a0 :: st) u P := zr_Al k65_20 rfl
theorem k65_21 : xcd 65 21 = oGR 6 3 24 := rfl
theorem r65_21 : zr 65 21 [v0, v1, v2, v3, v4] (.ref b1 :: st) u P = (xIs u b1 6 ∧ ∃ b, xR u b1 3 = some b ∧ zr 65 24 [v0, v1, v2, v3, v4] (.ref b :: st) u P) := zr_GR k65_21
theorem k65_24 : xcd 65 24 = oAl 0 25 := rfl
theorem r65_24 : zr 65 24 [.ref a0, v1, v2, v3, v4] st u P = zr 65 25 [.ref a0, v1, v2, v3, v4] (.ref a0 :: st) u P := zr_Al k65_24 rfl
theorem k65_25 : xcd 65 25 = oGI 6 0 28 := rfl
theorem r65_25 : zr 65 25 [v0, v1, v2, v3, v4] (.ref b1 :: st) u P = (xIs u b1 6 ∧ zr 65 28 [v0, v1, v2, v3, v4] (.int (xI u b1 0) :: st) u P) := zr_GI k65_25
theorem k65_28 : xcd 65 28 = oIl 3 29 := rfl
theorem r65_28 : zr 65 28 [v0, v1, v2, .int x3, v4] st u P = zr 65 29 [v0, v1, v2, .int x3, v4] (.int x3 :: st) u P := zr_Il k65_28 rfl
theorem k65_29 : xcd 65 29 = oSt 13 (fun x => x) 30 := rfl
theorem r65_29 : zr 65 29 [v0, v1, v2, v3, v4] (.int y2 :: .int y1 :: .ref b1 :: st) u P = ((xIs u b1 13 ∧ xinb y1 (xN u b1)) ∧ zr 65 30 [v0, v1, v2, v3, v4] st (xsI u b1 (xix y1) y2) P) := zr_St k65_29
theorem k65_30 : xcd 65 30 = oAl 0 31 := rfl
theorem r65_30 : zr 65 30 [.ref a0, v1, v2, v3, v4] st u P = zr 65 31 [.ref a0, v1, v2, v3, v4] (.ref a0 :: st) u P := zr_Al k65_30 rfl
theorem k65_31 : xcd 65 31 = oGR 6 4 34 := rfl
theorem r65_31 : zr 65 31 [v0, v1, v2, v3, v4] (.ref b1 :: st) u P = (xIs u b1 6 ∧ ∃ b, xR u b1 4 = some b ∧ zr 65 34 [v0, v1, v2, v3, v4] (.ref b :: st) u P) := zr_GR k65_31
theorem k65_34 : xcd 65 34 = oAl 0 35 := rfl
theorem r65_34 : zr 65 34 [.ref a0, v1, v2, v3, v4] st u P = zr 65 35 [.ref a0, v1, v2, v3, v4] (.ref a0 :: st) u P := zr_Al k65_34 rfl
theorem k65_35 : xcd 65 35 = oGI 6 0 38 := rfl
theorem r65_35 : zr 65 35 [v0, v1, v2, v3, v4] (.ref b1 :: st) u P = (xIs u b1 6 ∧ zr 65 38 [v0, v1, v2, v3, v4] (.int (xI u b1 0) :: st) u P) := zr_GI k65_35
theorem k65_38 : xcd 65 38 = oIl 4 40 := rfl
theorem r65_38 : zr 65 38 [v0, v1, v2, v3, .int x4] st u P = zr 65 40 [v0, v1, v2, v3, .int x4] (.int x4 :: st) u P := zr_Il k65_38 rfl
theorem k65_40 : xcd 65 40 = oSt 13 (fun x => x) 41 := rfl
theorem r65_40 : zr 65 40 [v0, v1, v2, v3, v4] (.int y2 :: .int y1 :: .ref b1 :: st) u P = ((xIs u b1 13 ∧ xinb y1 (xN u b1)) ∧ zr 65 41 [v0, v1, v2, v3, v4] st (xsI u b1 (xix y1) y2) P) := zr_St k65_40
theorem k65_41 : xcd 65 41 = oAl 0 42 := rfl
theorem r65_41 : zr 65 41 [.ref a0, v1, v2, v3, v4] st u P = zr 65 42 [.ref a0, v1, v2, v3, v4] (.ref a0 :: st) u P := zr_Al k65_41 rfl
theorem k65_42 : xcd 65 42 = oDup 43 := rfl
theorem r65_42 : zr 65 42 [v0, v1, v2, v3, v4] (.ref b1 :: st) u P = zr 65 43 [v0, v1, v2, v3, v4] (.ref b1 :: .ref b1 :: st) u P := zr_DupA k65_42
theorem k65_43 : xcd 65 43 = oGI 6 0 46 := rfl
theorem r65_43 : zr 65 43 [v0, v1, v2, v3, v4] (.ref b1 :: st) u P = (xIs u b1 6 ∧ zr 65 46 [v0, v1, v2, v3, v4] (.int (xI u b1 0) :: st) u P) := zr_GI k65_43
theorem k65_46 : xcd 65 46 = oI 1 47 := rfl
theorem r65_46 : zr 65 46 [v0, v1, v2, v3, v4] st u P = zr 65 47 [v0, v1, v2, v3, v4] (.int 1 :: st) u P := zr_I k65_46
theorem k65_47 : xcd 65 47 = oB (fun x y => x + y) 48 := rfl
theorem r65_47 : zr 65 47 [v0, v1, v2, v3, v4] (.int y1 :: .int y2 :: st) u P = zr 65 48 [v0, v1, v2, v3, v4] (.int (y2 + y1) :: st) u P := zr_B k65_47
theorem k65_48 : xcd 65 48 = oPI 6 0 51 := rfl
theorem r65_48 : zr 65 48 [v0, v1, v2, v3, v4] (.int y1 :: .ref b1 :: st) u P = (xIs u b1 6 ∧ zr 65 51 [v0, v1, v2, v3, v4] st (xsI u b1 0 y1) P) := zr_PI k65_48
theorem k65_51 : xcd 65 51 = oRv 0 := rfl
theorem r65_51 : zr 65 51 [v0, v1, v2, v3, v4] [] u P = P none u := zr_Rv k65_51
theorem k67_0 : xcd 67 0 = oAl 0 1 := rfl
theorem r67_0 : zr 67 0 [.ref a0, v1, v2] st u P = zr 67 1 [.ref a0, v1, v2] (.ref a0 :: st) u P := zr_Al k67_0 rfl
theorem k67_1 : xcd 67 1 = oI 0 2 := rfl
theorem r67_1 : zr 67 1 [v0, v1, v2] st u P = zr 67 2 [v0, v1, v2] (.int 0 :: st) u P := zr_I k67_1
theorem k67_2 : xcd 67 2 = oPI 7 5 5 := rfl
theorem r67_2 : zr 67 2 [v0, v1, v2] (.int y1 :: .ref b1 :: st) u P = (xIs u b1 7 ∧ zr 67 5 [v0, v1, v2] st (xsI u b1 5 y1) P) := zr_PI k67_2
theorem k67_5 : xcd 67 5 = oAl 0 6 := rfl
theorem r67_5 : zr 67 5 [.ref a0, v1, v2] st u P = zr 67 6 [.ref a0, v1, v2] (.ref a0 :: st) u P := zr_Al k67_5 rfl
theorem k67_6 : xcd 67 6 = oI 0 7 := rfl
theorem r67_6 : zr 67 6 [v0, v1, v2] st u P = zr 67 7 [v0, v1, v2] (.int 0 :: st) u P := zr_I k67_6
theorem k67_7 : xcd 67 7 = oPZ 7 4 10 := rfl
theorem r67_7 : zr 67 7 [v0, v1, v2] (.int y1 :: .ref b1 :: st) u P = ((xIs u b1 7 ∧ (y1 = 0 ∨ y1 = 1)) ∧ zr 67 10 [v0, v1, v2] st (xsI u b1 4 y1) P) := zr_PZ k67_7
theorem k67_10 : xcd 67 10 = oAl 0 11 := rfl
theorem r67_10 : zr 67 10 [.ref a0, v1, v2] st u P = zr 67 11 [.ref a0, v1, v2] (.ref a0 :: st) u P := zr_Al k67_10 rfl
theorem k67_11 : xcd 67 11 = oGR 7 0 14 := rfl
theorem r67_11 : zr 67 11 [v0, v1, v2] (.ref b1 :: st) u P = (xIs u b1 7 ∧ ∃ b, xR u b1 0 = some b ∧ zr 67 14 [v0, v1, v2] (.ref b :: st) u P) := zr_GR k67_11
theorem k67_14 : xcd 67 14 = oIl 1 15 := rfl
theorem r67_14 : zr 67 14 [v0, .int x1, v2] st u P = zr 67 15 [v0, .int x1, v2] (.int x1 :: st) u P := zr_Il k67_14 rfl
theorem k67_15 : xcd 67 15 = oCalV 8 88 1 18 := rfl
theorem r67_15 : zr 67 15 [v0, v1, v2] (.int y1 :: .ref b8 :: st) u P = ((xIs u b8 8 ∧ xcat st ≤ 8) ∧ zr 88 0 [.ref b8, .int y1] [] u (fun r u2 => zr 67 18 [v0, v1, v2] (r.toList ++ st) u2 P)) := zr_CV k67_15 rfl rfl rfl ⟨Nat.le_of_ble_eq_true rfl, Nat.succ_ne_zero _, by decide⟩ rfl
theorem k67_18 : xcd 67 18 = oI 0 19 := rfl
theorem r67_18 : zr 67 18 [v0, v1, v2] st u P = zr 67 19 [v0, v1, v2] (.int 0 :: st) u P := zr_I k67_18
theorem k67_19 : xcd 67 19 = oIs 2 20 := rfl
theorem r67_19 : zr 67 19 [v0, .int x1, v2] (.int y1 :: st) u P = zr 67 20 [v0, .int x1, .int y1] st u P := zr_Is k67_19 ⟨Nat.le_of_ble_eq_true rfl, rfl⟩
theorem k67_20 : xcd 67 20 = oIl 2 21 := rfl
theorem r67_20 : zr 67 20 [v0, v1, .int x2] st u P = zr 67 21 [v0, v1, .int x2] (.int x2 :: st) u P := zr_Il k67_20 rfl
theorem k67_21 : xcd 67 21 = oI 1200 24 := rfl
theorem r67_21 : zr 67 21 [v0, v1, v2] st u P = zr 67 24 [v0, v1, v2] (.int 1200 :: st) u P := zr_I k67_21
theorem k67_24 : xcd 67 24 = oCmp (fun x y => decide (y < x)) 98 27 := rfl
theorem r67_24 : zr 67 24 [v0, v1, v2] (.int y1 :: .int y2 :: st) u P = (if y1 < y2 then zr 67 98 [v0, v1, v2] st u P else zr 67 27 [v0, v1, v2] st u P) := zr_Cmp k67_24
theorem k67_27 : xcd 67 27 = oAl 0 28 := rfl
theorem r67_27 : zr 67 27 [.ref a0, v1, v2] st u P = zr 67 28 [.ref a0, v1, v2] (.ref a0 :: st) u P := zr_Al k67_27 rfl
theorem k67_28 : xcd 67 28 = oCalV 7 71 0 31 := rfl
theorem r67_28 : zr 67 28 [v0, v1, v2] (.ref b8 :: st) u P = ((xIs u b8 7 ∧ xcat st ≤ 8) ∧ zr 71 0 [.ref b8, .null] [] u (fun r u2 => zr 67 31 [v0, v1, v2] (r.toList ++ st) u2 P)) := zr_CV k67_28 rfl rfl rfl ⟨Nat.le_of_ble_eq_true rfl, Nat.succ_ne_zero _, by decide⟩ rfl
theorem k67_31 : xcd 67 31 = oIf (fun x => decide (¬ x = 0)) 36 34 := rfl
theorem r67_31 : zr 67 31 [v0, v1, v2] (.int y1 :: st) u P = (if ¬ y1 = 0 then zr 67 36 [v0, v1, v2] st u P else zr 67 34 [v0, v1, v2] st u P) := zr_If k67_31
theorem k67_34 : xcd 67 34 = oI 0 35 := rfl
theorem r67_34 : zr 67 34 [v0, v1, v2] st u P = zr 67 35 [v0, v1, v2] (.int 0 :: st) u P := zr_I k67_34
theorem k67_35 : xcd 67 35 = oRz 0 := rfl
theorem r67_35 : zr 67 35 [v0, v1, v2] [.int y1] u P = ((y1 = 0 ∨ y1 = 1) ∧ P (some (.int y1)) u) := zr_Rz k67_35
theorem k67_36 : xcd 67 36 = oAl 0 37 := rfl
theorem r67_36 : zr 67 36 [.ref a0, v1, v2] st u P = zr 67 37 [.ref a0, v1, v2] (.ref a0 :: st) u P := zr_Al k67_36 rfl
theorem k67_37 : xcd 67 37 = oGR 7 0 40 := rfl
theorem r67_37 : zr 67 37 [v0, v1, v2] (.ref b1 :: st) u P = (xIs u b1 7 ∧ ∃ b, xR u b1 0 = some b ∧ zr 67 40 [v0, v1, v2] (.ref b :: st) u P) := zr_GR k67_37
theorem k67_40 : xcd 67 40 = oGI 8 5 43 := rfl
theorem r67_40 : zr 67 40 [v0, v1, v2] (.ref b1 :: st) u P = (xIs u b1 8 ∧ zr 67 43 [v0, v1, v2] (.int (xI u b1 5) :: st) u P) := zr_GI k67_40
theorem k67_43 : xcd 67 43 = oIf (fun x => decide (¬ x = 0)) 68 46 := rfl
theorem r67_43 : zr 67 43 [v0, v1, v2] (.int y1 :: st) u P = (if ¬ y1 = 0 then zr 67 68 [v0, v1, v2] st u P else zr 67 46 [v0, v1, v2] st u P) := zr_If k67_43
theorem k67_46 : xcd 67 46 = oAl 0 47 := rfl
theorem r67_46 : zr 67 46 [.ref a0, v1, v2] st u P = zr 67 47 [.ref a0, v1, v2] (.ref a0 :: st) u P := zr_Al k67_46 rfl
theorem k67_47 : xcd 67 47 = oCalV 7 68 0 50 := rfl
theorem r67_47 : zr 67 47 [v0, v1, v2] (.ref b8 :: st) u P = ((xIs u b8 7 ∧ xcat st ≤ 8) ∧ zr 68 0 [.ref b8] [] u (fun r u2 => zr 67 50 [v0, v1, v2] (r.toList ++ st) u2 P)) := zr_CV k67_47 rfl rfl rfl ⟨Nat.le_of_ble_eq_true rfl, Nat.succ_ne_zero _, by decide⟩ rfl
theorem k67_50 : xcd 67 50 = oIf (fun x => decide (¬ x = 0)) 62 53 := rfl
theorem r67_50 : zr 67 50 [v0, v1, v2] (.int y1 :: st) u P = (if ¬ y1 = 0 then zr 67 62 [v0, v1, v2] st u P else zr 67 53 [v0, v1, v2] st u P) := zr_If k67_50
theorem k67_53 : xcd 67 53 = oAl 0 54 := rfl
theorem r67_53 : zr 67 53 [.ref a0, v1, v2] st u P = zr 67 54 [.ref a0, v1, v2] (.ref a0 :: st) u P := zr_Al k67_53 rfl
theorem k67_54 : xcd 67 54 = oI 6 56 := rfl
theorem r67_54 : zr 67 54 [v0, v1, v2] st u P = zr 67 56 [v0, v1, v2] (.int 6 :: st) u P := zr_I k67_54
theorem k67_56 : xcd 67 56 = oCalV 7 69 1 59 := rfl
theorem r67_56 : zr 67 56 [v0, v1, v2] (.int y1 :: .ref b8 :: st) u P = ((xIs u b8 7 ∧ xcat st ≤ 8) ∧ zr 69 0 [.ref b8, .int y1] [] u (fun r u2 => zr 67 59 [v0, v1, v2] (r.toList ++ st) u2 P)) := zr_CV k67_56 rfl rfl rfl ⟨Nat.le_of_ble_eq_true rfl, Nat.succ_ne_zero _, by decide⟩ rfl
theorem k67_59 : xcd 67 59 = oIf (fun x => decide (x = 0)) 66 62 := rfl
theorem r67_59 : zr 67 59 [v0, v1, v2] (.int y1 :: st) u P = (if y1 = 0 then zr 67 66 [v0, v1, v2] st u P else zr 67 62 [v0, v1, v2] st u P) := zr_If k67_59
theorem k67_62 : xcd 67 62 = oI 1 63 := rfl
theorem r67_62 : zr 67 62 [v0, v1, v2] st u P = zr 67 63 [v0, v1, v2] (.int 1 :: st) u P := zr_I k67_62
theorem k67_63 : xcd 67 63 = oGoto 67 := rfl
theorem r67_63 : zr 67 63 [v0, v1, v2] st u P = zr 67 67 [v0, v1, v2] st u P := zr_Goto k67_63
theorem k67_66 : xcd 67 66 = oI 0 67 := rfl
theorem r67_66 : zr 67 66 [v0, v1, v2] st u P = zr 67 67 [v0, v1, v2] (.int 0 :: st) u P := zr_I k67_66
theorem k67_67 : xcd 67 67 = oRz 0 := rfl
theorem r67_67 : zr 67 67 [v0, v1, v2] [.int y1] u P = ((y1 = 0 ∨ y1 = 1) ∧ P (some (.int y1)) u) := zr_Rz k67_67
theorem k67_68 : xcd 67 68 = oAl 0 69 := rfl
theorem r67_68 : zr 67 68 [.ref a0, v1, v2] st u P = zr 67 69 [.ref a0, v1, v2] (.ref a0 :: st) u P := zr_Al k67_68 rfl
theorem k67_69 : xcd 67 69 = oGR 7 0 72 := rfl
theorem r67_69 : zr 67 69 [v0, v1, v2] (.ref b1 :: st) u P = (xIs u b1 7 ∧ ∃ b, xR u b1 0 = some b ∧ zr 67 72 [v0, v1, v2] (.ref b :: st) u P) := zr_GR k67_69
theorem k67_72 : xcd 67 72 = oGI 8 5 75 := rfl
theorem r67_72 : zr 67 72 [v0, v1, v2] (.ref b1 :: st) u P = (xIs u b1 8 ∧ zr 67 75 [v0, v1, v2] (.int (xI u b1 5) :: st) u P) := zr_GI k67_72
theorem k67_75 : xcd 67 75 = oI 3 76 := rfl
theorem r67_75 : zr 67 75 [v0, v1, v2] st u P = zr 67 76 [v0, v1, v2] (.int 3 :: st) u P := zr_I k67_75
theorem k67_76 : xcd 67 76 = oCmp (fun x y => decide (x = y)) 85 79 := rfl
theorem r67_76 : zr 67 76 [v0, v1, v2] (.int y1 :: .int y2 :: st) u P = (if y2 = y1 then zr 67 85 [v0, v1, v2] st u P else zr 67 79 [v0, v1, v2] st u P) := zr_Cmp k67_76
theorem k67_79 : xcd 67 79 = oAl 0 80 := rfl
theorem r67_79 : zr 67 79 [.ref a0, v1, v2] st u P = zr 67 80 [.ref a0, v1, v2] (.ref a0 :: st) u P := zr_Al k67_79 rfl
theorem k67_80 : xcd 67 80 = oI 1 81 := rfl
theorem r67_80 : zr 67 80 [v0, v1, v2] st u P = zr 67 81 [v0, v1, v2] (.int 1 :: st) u P := zr_I k67_80
theorem k67_81 : xcd 67 81 = oCalV 7 69 1 84 := rfl
theorem r67_81 : zr 67 81 [v0, v1, v2] (.int y1 :: .ref b8 :: st) u P = ((xIs u b8 7 ∧ xcat st ≤ 8) ∧ zr 69 0 [.ref b8, .int y1] [] u (fun r u2 => zr 67 84 [v0, v1, v2] (r.toList ++ st) u2 P)) := zr_CV k67_81 rfl rfl rfl ⟨Nat.le_of_ble_eq_true rfl, Nat.succ_ne_zero _, by decide⟩ rfl
theorem k67_84 : xcd 67 84 = oRz 0 := rfl
theorem r67_84 : zr 67 84 [v0, v1, v2] [.int y1] u P = ((y1 = 0 ∨ y1 = 1) ∧ P (some (.int y1)) u) := zr_Rz k67_84
theorem k67_85 : xcd 67 85 = oAl 0 86 := rfl
theorem r67_85 : zr 67 85 [.ref a0, v1, v2] st u P = zr 67 86 [.ref a0, v1, v2] (.ref a0 :: st) u P := zr_Al k67_85 rfl
theorem k67_86 : xcd 67 86 = oGR 7 0 89 := rfl
theorem r67_86 : zr 67 86 [v0, v1, v2] (.ref b1 :: st) u P = (xIs u b1 7 ∧ ∃ b, xR u b1 0 = some b ∧ zr 67 89 [v0, v1, v2] (.ref b :: st) u P) := zr_GR k67_86
theorem k67_89 : xcd 67 89 = oCalV 8 89 0 92 := rfl
theorem r67_89 : zr 67 89 [v0, v1, v2] (.ref b8 :: st) u P = ((xIs u b8 8 ∧ xcat st ≤ 8) ∧ zr 89 0 [.ref b8] [] u (fun r u2 => zr 67 92 [v0, v1, v2] (r.toList ++ st) u2 P)) := zr_CV k67_89 rfl rfl rfl ⟨Nat.le_of_ble_eq_true rfl, Nat.succ_ne_zero _, by decide⟩ rfl
theorem k67_92 : xcd 67 92 = oInc 2 1 95 := rfl
theorem r67_92 : zr 67 92 [v0, .int x1, .int x2] st u P = zr 67 95 [v0, .int x1, .int (x2 + 1)] st u P := zr_Inc k67_92 rfl rfl
theorem k67_95 : xcd 67 95 = oGoto 20 := rfl
theorem r67_95 : zr 67 95 [v0, v1, v2] st u P = zr 67 20 [v0, v1, v2] st u P := zr_Goto k67_95
theorem k67_98 : xcd 67 98 = oAl 0 99 := rfl
theorem r67_98 : zr 67 98 [.ref a0, v1, v2] st u P = zr 67 99 [.ref a0, v1, v2] (.ref a0 :: st) u P := zr_Al k67_98 rfl
theorem k67_99 : xcd 67 99 = oI 1 100 := rfl
theorem r67_99 : zr 67 99 [v0, v1, v2] st u P = zr 67 100 [v0, v1, v2] (.int 1 :: st) u P := zr_I k67_99
theorem k67_100 : xcd 67 100 = oCalV 7 69 1 103 := rfl
theorem r67_100 : zr 67 100 [v0, v1, v2] (.int y1 :: .ref b8 :: st) u P = ((xIs u b8 7 ∧ xcat st ≤ 8) ∧ zr 69 0 [.ref b8, .int y1] [] u (fun r u2 => zr 67 103 [v0, v1, v2] (r.toList ++ st) u2 P)) := zr_CV k67_100 rfl rfl rfl ⟨Nat.le_of_ble_eq_true rfl, Nat.succ_ne_zero _, by decide⟩ rfl
theorem k67_103 : xcd 67 103 = oRz 0 := rfl
theorem r67_103 : zr 67 103 [v0, v1, v2] [.int y1] u P = ((y1 = 0 ∨ y1 = 1) ∧ P (some (.int y1)) u) := zr_Rz k67_103
theorem k68_0 : xcd 68 0 = oAl 0 1 := rfl
theorem r68_0 : zr 68 0 [.ref a0] st u P = zr 68 1 [.ref a0] (.ref a0 :: st) u P := zr_Al k68_0 rfl
theorem k68_1 : xcd 68 1 = oGR 7 3 4 := rfl
theorem r68_1 : zr 68 1 [v0] (.ref b1 :: st) u P = (xIs u b1 7 ∧ ∃ b, xR u b1 3 = some b ∧ zr 68 4 [v0] (.ref b :: st) u P) := zr_GR k68_1
theorem k68_4 : xcd 68 4 = oGR 3 1 7 := rfl
theorem r68_4 : zr 68 4 [v0] (.ref b1 :: st) u P = (xIs u b1 3 ∧ ∃ b, xR u b1 1 = some b ∧ zr 68 7 [v0] (.ref b :: st) u P) := zr_GR k68_4
theorem k68_7 : xcd 68 7 = oGI 9 0 10 := rfl
theorem r68_7 : zr 68 7 [v0] (.ref b1 :: st) u P = (xIs u b1 9 ∧ zr 68 10 [v0] (.int (xI u b1 0) :: st) u P) := zr_GI k68_7
theorem k68_10 : xcd 68 10 = oIf (fun x => decide (x ≤ 0)) 30 13 := rfl
theorem r68_10 : zr 68 10 [v0] (.int y1 :: st) u P = (if y1 ≤ 0 then zr 68 30 [v0] st u P else zr 68 13 [v0] st u P) := zr_If k68_10
theorem k68_13 : xcd 68 13 = oAl 0 14 := rfl
theorem r68_13 : zr 68 13 [.ref a0] st u P = zr 68 14 [.ref a0] (.ref a0 :: st) u P := zr_Al k68_13 rfl
theorem k68_14 : xcd 68 14 = oGR 7 3 17 := rfl
theorem r68_14 : zr 68 14 [v0] (.ref b1 :: st) u P = (xIs u b1 7 ∧ ∃ b, xR u b1 3 = some b ∧ zr 68 17 [v0] (.ref b :: st) u P) := zr_GR k68_14
theorem k68_17 : xcd 68 17 = oGR 3 0 20 := rfl
theorem r68_17 : zr 68 17 [v0] (.ref b1 :: st) u P = (xIs u b1 3 ∧ ∃ b, xR u b1 0 = some b ∧ zr 68 20 [v0] (.ref b :: st) u P) := zr_GR k68_17
theorem k68_20 : xcd 68 20 = oGI 4 2 23 := rfl
theorem r68_20 : zr 68 20 [v0] (.ref b1 :: st) u P = (xIs u b1 4 ∧ zr 68 23 [v0] (.int (xI u b1 2) :: st) u P) := zr_GI k68_20
theorem k68_23 : xcd 68 23 = oIf (fun x => decide (x ≤ 0)) 30 26 := rfl
theorem r68_23 : zr 68 23 [v0] (.int y1 :: st) u P = (if y1 ≤ 0 then zr 68 30 [v0] st u P else zr 68 26 [v0] st u P) := zr_If k68_23
theorem k68_26 : xcd 68 26 = oI 1 27 := rfl
theorem r68_26 : zr 68 26 [v0] st u P = zr 68 27 [v0] (.int 1 :: st) u P := zr_I k68_26
theorem k68_27 : xcd 68 27 = oGoto 31 := rfl
theorem r68_27 : zr 68 27 [v0] st u P = zr 68 31 [v0] st u P := zr_Goto k68_27
theorem k68_30 : xcd 68 30 = oI 0 31 := rfl
theorem r68_30 : zr 68 30 [v0] st u P = zr 68 31 [v0] (.int 0 :: st) u P := zr_I k68_30
theorem k68_31 : xcd 68 31 = oRz 0 := rfl
theorem r68_31 : zr 68 31 [v0] [.int y1] u P = ((y1 = 0 ∨ y1 = 1) ∧ P (some (.int y1)) u) := zr_Rz k68_31
theorem k69_0 : xcd 69 0 = oAl 0 1 := rfl
theorem r69_0 : zr 69 0 [.ref a0, v1] st u P = zr 69 1 [.ref a0, v1] (.ref a0 :: st) u P := zr_Al k69_0 rfl
theorem k69_1 : xcd 69 1 = oIl 1 2 := rfl
theorem r69_1 : zr 69 1 [v0, .int x1] st u P = zr 69 2 [v0, .int x1] (.int x1 :: st) u P := zr_Il k69_1 rfl
theorem k69_2 : xcd 69 2 = oAl 0 3 := rfl
theorem r69_2 : zr 69 2 [.ref a0, v1] st u P = zr 69 3 [.ref a0, v1] (.ref a0 :: st) u P := zr_Al k69_2 rfl
theorem k69_3 : xcd 69 3 = oGR 7 0 6 := rfl
theorem r69_3 : zr 69 3 [v0, v1] (.ref b1 :: st) u P = (xIs u b1 7 ∧ ∃ b, xR u b1 0 = some b ∧ zr 69 6 [v0, v1] (.ref b :: st) u P) := zr_GR k69_3
theorem k69_6 : xcd 69 6 = oGI 8 3 9 := rfl
theorem r69_6 : zr 69 6 [v0, v1] (.ref b1 :: st) u P = (xIs u b1 8 ∧ zr 69 9 [v0, v1] (.int (xI u b1 3) :: st) u P) := zr_GI k69_6
theorem k69_9 : xcd 69 9 = oCalV 7 70 2 12 := rfl
theorem r69_9 : zr 69 9 [v0, v1] (.int y2 :: .int y1 :: .ref b8 :: st) u P = ((xIs u b8 7 ∧ xcat st ≤ 8) ∧ zr 70 0 [.ref b8, .int y1, .int y2] [] u (fun r u2 => zr 69 12 [v0, v1] (r.toList ++ st) u2 P)) := zr_CV k69_9 rfl rfl rfl ⟨Nat.le_of_ble_eq_true rfl, Nat.succ_ne_zero _, by decide⟩ rfl
theorem k69_12 : xcd 69 12 = oRz 0 := rfl
theorem r69_12 : zr 69 12 [v0, v1] [.int y1] u P = ((y1 = 0 ∨ y1 = 1) ∧ P (some (.int y1)) u) := zr_Rz k69_12
theorem k70_0 : xcd 70 0 = oAl 0 1 := rfl
theorem r70_0 : zr 70 0 [.ref a0, v1, v2] st u P = zr 70 1 [.ref a0, v1, v2] (.ref a0 :: st) u P := zr_Al k70_0 rfl
theorem k70_1 : xcd 70 1 = oIl 1 2 := rfl
theorem r70_1 : zr 70 1 [v0, .int x1, v2] st u P = zr 70 2 [v0, .int x1, v2] (.int x1 :: st) u P := zr_Il k70_1 rfl
theorem k70_2 : xcd 70 2 = oPI 7 5 5 := rfl
theorem r70_2 : zr 70 2 [v0, v1, v2] (.int y1 :: .ref b1 :: st) u P = (xIs u b1 7 ∧ zr 70 5 [v0, v1, v2] st (xsI u b1 5 y1) P) := zr_PI k70_2
theorem k70_5 : xcd 70 5 = oAl 0 6 := rfl
theorem r70_5 : zr 70 5 [.ref a0, v1, v2] st u P = zr 70 6 [.ref a0, v1, v2] (.ref a0 :: st) u P := zr_Al k70_5 rfl
theorem k70_6 : xcd 70 6 = oIl 2 7 := rfl
theorem r70_6 : zr 70 6 [v0, v1, .int x2] st u P = zr 70 7 [v0, v1, .int x2] (.int x2 :: st) u P := zr_Il k70_6 rfl
theorem k70_7 : xcd 70 7 = oPI 7 6 10 := rfl
theorem r70_7 : zr 70 7 [v0, v1, v2] (.int y1 :: .ref b1 :: st) u P = (xIs u b1 7 ∧ zr 70 10 [v0, v1, v2] st (xsI u b1 6 y1) P) := zr_PI k70_7
theorem k70_10 : xcd 70 10 = oI 0 11 := rfl
theorem r70_10 : zr 70 10 [v0, v1, v2] st u P = zr 70 11 [v0, v1, v2] (.int 0 :: st) u P := zr_I k70_10
theorem k70_11 : xcd 70 11 = oRz 0 := rfl
theorem r70_11 : zr 70 11 [v0, v1, v2] [.int y1] u P = ((y1 = 0 ∨ y1 = 1) ∧ P (some (.int y1)) u) := zr_Rz k70_11
theorem k71_0 : xcd 71 0 = oAl 0 1 := rfl
theorem r71_0 : zr 71 0 [.ref a0, v1] st u P = zr 71 1 [.ref a0, v1] (.ref a0 :: st) u P := zr_Al k71_0 rfl
theorem k71_1 : xcd 71 1 = oGR 7 3 4 := rfl
theorem r71_1 : zr 71 1 [v0, v1] (.ref b1 :: st) u P = (xIs u b1 7 ∧ ∃ b, xR u b1 3 = some b ∧ zr 71 4 [v0, v1] (.ref b :: st) u P) := zr_GR k71_1
theorem k71_4 : xcd 71 4 = oGR 3 1 7 := rfl
theorem r71_4 : zr 71 4 [v0, v1] (.ref b1 :: st) u P = (xIs u b1 3 ∧ ∃ b, xR u b1 1 = some b ∧ zr 71 7 [v0, v1] (.ref b :: st) u P) := zr_GR k71_4
theorem k71_7 : xcd 71 7 = oAs 1 8 := rfl
theorem r71_7 : zr 71 7 [.ref a0, v1] (.ref b1 :: st) u P = zr 71 8 [.ref a0, .ref b1] st u P := zr_As k71_7 ⟨Nat.le_of_ble_eq_true rfl, rfl⟩
theorem k71_8 : xcd 71 8 = oAl 0 9 := rfl
theorem r71_8 : zr 71 8 [.ref a0, v1] st u P = zr 71 9 [.ref a0, v1] (.ref a0 :: st) u P := zr_Al k71_8 rfl
theorem k71_9 : xcd 71 9 = oGR 7 0 12 := rfl
theorem r71_9 : zr 71 9 [v0, v1] (.ref b1 :: st) u P = (xIs u b1 7 ∧ ∃ b, xR u b1 0 = some b ∧ zr 71 12 [v0, v1] (.ref b :: st) u P) := zr_GR k71_9
theorem k71_12 : xcd 71 12 = oS 0 14 := rfl
theorem r71_12 : zr 71 12 [v0, v1] st u P = zr 71 14 [v0, v1] (.ref 1000000 :: st) u P := zr_S k71_12
theorem k71_14 : xcd 71 14 = oCalV 8 92 1 17 := rfl
theorem r71_14 : zr 71 14 [v0, v1] (.ref b1 :: .ref b8 :: st) u P = ((xIs u b8 8 ∧ xcat st ≤ 8) ∧ zr 92 0 [.ref b8, .ref b1, .null] [] u (fun r u2 => zr 71 17 [v0, v1] (r.toList ++ st) u2 P)) := zr_CV k71_14 rfl rfl rfl ⟨Nat.le_of_ble_eq_true rfl, Nat.succ_ne_zero _, by decide⟩ rfl
theorem k71_17 : xcd 71 17 = oIf (fun x => decide (x = 0)) 40 20 := rfl
theorem r71_17 : zr 71 17 [v0, v1] (.int y1 :: st) u P = (if y1 = 0 then zr 71 40 [v0, v1] st u P else zr 71 20 [v0, v1] st u P) := zr_If k71_17
theorem k71_20 : xcd 71 20 = oAl 0 21 := rfl
theorem r71_20 : zr 71 20 [.ref a0, v1] st u P = zr 71 21 [.ref a0, v1] (.ref a0 :: st) u P := zr_Al k71_20 rfl
theorem k71_21 : xcd 71 21 = oGI 7 4 24 := rfl
theorem r71_21 : zr 71 21 [v0, v1] (.ref b1 :: st) u P = (xIs u b1 7 ∧ zr 71 24 [v0, v1] (.int (xI u b1 4) :: st) u P) := zr_GI k71_21
theorem k71_24 : xcd 71 24 = oIf (fun x => decide (x = 0)) 35 27 := rfl
theorem r71_24 : zr 71 24 [v0, v1] (.int y1 :: st) u P = (if y1 = 0 then zr 71 35 [v0, v1] st u P else zr 71 27 [v0, v1] st u P) := zr_If k71_24
theorem k71_27 : xcd 71 27 = oAl 0 28 := rfl
theorem r71_27 : zr 71 27 [.ref a0, v1] st u P = zr 71 28 [.ref a0, v1] (.ref a0 :: st) u P := zr_Al k71_27 rfl
theorem k71_28 : xcd 71 28 = oI 3 29 := rfl
theorem r71_28 : zr 71 28 [v0, v1] st u P = zr 71 29 [v0, v1] (.int 3 :: st) u P := zr_I k71_28
theorem k71_29 : xcd 71 29 = oCalV 7 69 1 32 := rfl
theorem r71_29 : zr 71 29 [v0, v1] (.int y1 :: .ref b8 :: st) u P = ((xIs u b8 7 ∧ xcat st ≤ 8) ∧ zr 69 0 [.ref b8, .int y1] [] u (fun r u2 => zr 71 32 [v0, v1] (r.toList ++ st) u2 P)) := zr_CV k71_29 rfl rfl rfl ⟨Nat.le_of_ble_eq_true rfl, Nat.succ_ne_zero _, by decide⟩ rfl
theorem k71_32 : xcd 71 32 = oGoto 39 := rfl
theorem r71_32 : zr 71 32 [v0, v1] st u P = zr 71 39 [v0, v1] st u P := zr_Goto k71_32
theorem k71_35 : xcd 71 35 = oAl 0 36 := rfl
theorem r71_35 : zr 71 35 [.ref a0, v1] st u P = zr 71 36 [.ref a0, v1] (.ref a0 :: st) u P := zr_Al k71_35 rfl
theorem k71_36 : xcd 71 36 = oCalV 7 73 0 39 := rfl
theorem r71_36 : zr 71 36 [v0, v1] (.ref b8 :: st) u P = ((xIs u b8 7 ∧ xcat st ≤ 8) ∧ zr 73 0 [.ref b8, .null, .null] [] u (fun r u2 => zr 71 39 [v0, v1] (r.toList ++ st) u2 P)) := zr_CV k71_36 rfl rfl rfl ⟨Nat.le_of_ble_eq_true rfl, Nat.succ_ne_zero _, by decide⟩ rfl
theorem k71_39 : xcd 71 39 = oRz 0 := rfl
theorem r71_39 : zr 71 39 [v0, v1] [.int y1] u P = ((y1 = 0 ∨ y1 = 1) ∧ P (some (.int y1)) u) := zr_Rz k71_39
theorem k71_40 : xcd 71 40 = oAl 0 41 := rfl
theorem r71_40 : zr 71 40 [.ref a0, v1] st u P = zr 71 41 [.ref a0, v1] (.ref a0 :: st) u P := zr_Al k71_40 rfl
theorem k71_41 : xcd 71 41 = oGR 7 0 44 := rfl
theorem r71_41 : zr 71 41 [v0, v1] (.ref b1 :: st) u P = (xIs u b1 7 ∧ ∃ b, xR u b1 0 = some b ∧ zr 71 44 [v0, v1] (.ref b :: st) u P) := zr_GR k71_41
theorem k71_44 : xcd 71 44 = oS 1 46 := rfl
theorem r71_44 : zr 71 44 [v0, v1] st u P = zr 71 46 [v0, v1] (.ref 1000001 :: st) u P := zr_S k71_44
theorem k71_46 : xcd 71 46 = oCalV 8 92 1 49 := rfl
theorem r71_46 : zr 71 46 [v0, v1] (.ref b1 :: .ref b8 :: st) u P = ((xIs u b8 8 ∧ xcat st ≤ 8) ∧ zr 92 0 [.ref b8, .ref b1, .null] [] u (fun r u2 => zr 71 49 [v0, v1] (r.toList ++ st) u2 P)) := zr_CV k71_46 rfl rfl rfl ⟨Nat.le_of_ble_eq_true rfl, Nat.succ_ne_zero _, by decide⟩ rfl
theorem k71_49 : xcd 71 49 = oIf (fun x => decide (x = 0)) 78 52 := rfl
theorem r71_49 : zr 71 49 [v0, v1] (.int y1 :: st) u P = (if y1 = 0 then zr 71 78 [v0, v1] st u P else zr 71 52 [v0, v1] st u P) := zr_If k71_49
theorem k71_52 : xcd 71 52 = oAl 0 53 := rfl
theorem r71_52 : zr 71 52 [.ref a0, v1] st u P = zr 71 53 [.ref a0, v1] (.ref a0 :: st) u P := zr_Al k71_52 rfl
theorem k71_53 : xcd 71 53 = oAl 1 54 := rfl
theorem r71_53 : zr 71 53 [v0, .ref a1] st u P = zr 71 54 [v0, .ref a1] (.ref a1 :: st) u P := zr_Al k71_53 rfl
theorem k71_54 : xcd 71 54 = oGI 9 0 57 := rfl
theorem r71_54 : zr 71 54 [v0, v1] (.ref b1 :: st) u P = (xIs u b1 9 ∧ zr 71 57 [v0, v1] (.int (xI u b1 0) :: st) u P) := zr_GI k71_54
theorem k71_57 : xcd 71 57 = oI 6 59 := rfl
theorem r71_57 : zr 71 57 [v0, v1] st u P = zr 71 59 [v0, v1] (.int 6 :: st) u P := zr_I k71_57
theorem k71_59 : xcd 71 59 = oCalV 7 72 2 62 := rfl
theorem r71_59 : zr 71 59 [v0, v1] (.int y2 :: .int y1 :: .ref b8 :: st) u P = ((xIs u b8 7 ∧ xcat st ≤ 8) ∧ zr 72 0 [.ref b8, .int y1, .int y2] [] u (fun r u2 => zr 71 62 [v0, v1] (r.toList ++ st) u2 P)) := zr_CV k71_59 rfl rfl rfl ⟨Nat.le_of_ble_eq_true rfl, Nat.succ_ne_zero _, by decide⟩ rfl
theorem k71_62 : xcd 71 62 = oIf (fun x => decide (x = 0)) 76 65 := rfl
theorem r71_62 : zr 71 62 [v0, v1] (.int y1 :: st) u P = (if y1 = 0 then zr 71 76 [v0, v1] st u P else zr 71 65 [v0, v1] st u P) := zr_If k71_62
theorem k71_65 : xcd 71 65 = oAl 0 66 := rfl
theorem r71_65 : zr 71 65 [.ref a0, v1] st u P = zr 71 66 [.ref a0, v1] (.ref a0 :: st) u P := zr_Al k71_65 rfl
theorem k71_66 : xcd 71 66 = oCalV 7 74 0 69 := rfl
theorem r71_66 : zr 71 66 [v0, v1] (.ref b8 :: st) u P = ((xIs u b8 7 ∧ xcat st ≤ 8) ∧ zr 74 0 [.ref b8, .null, .null, .null] [] u (fun r u2 => zr 71 69 [v0, v1] (r.toList ++ st) u2 P)) := zr_CV k71_66 rfl rfl rfl ⟨Nat.le_of_ble_eq_true rfl, Nat.succ_ne_zero _, by decide⟩ rfl
theorem k71_69 : xcd 71 69 = oIf (fun x => decide (x = 0)) 76 72 := rfl
theorem r71_69 : zr 71 69 [v0, v1] (.int y1 :: st) u P = (if y1 = 0 then zr 71 76 [v0, v1] st u P else zr 71 72 [v0, v1] st u P) := zr_If k71_69
theorem k71_72 : xcd 71 72 = oI 1 73 := rfl
theorem r71_72 : zr 71 72 [v0, v1] st u P = zr 71 73 [v0, v1] (.int 1 :: st) u P := zr_I k71_72
theorem k71_73 : xcd 71 73 = oGoto 77 := rfl
theorem r71_73 : zr 71 73 [v0, v1] st u P = zr 71 77 [v0, v1] st u P := zr_Goto k71_73
theorem k71_76 : xcd 71 76 = oI 0 77 := rfl
theorem r71_76 : zr 71 76 [v0, v1] st u P = zr 71 77 [v0, v1] (.int 0 :: st) u P := zr_I k71_76
theorem k71_77 : xcd 71 77 = oRz 0 := rfl
theorem r71_77 : zr 71 77 [v0, v1] [.int y1] u P = ((y1 = 0 ∨ y1 = 1) ∧ P (some (.int y1)) u) := zr_Rz k71_77
theorem k71_78 : xcd 71 78 = oAl 0 79 := rfl
theorem r71_78 : zr 71 78 [.ref a0, v1] st u P = zr 71 79 [.ref a0, v1] (.ref a0 :: st) u P := zr_Al k71_78 rfl
theorem k71_79 : xcd 71 79 = oGR 7 0 82 := rfl
theorem r71_79 : zr 71 79 [v0, v1] (.ref b1 :: st) u P = (xIs u b1 7 ∧ ∃ b, xR u b1 0 = some b ∧ zr 71 82 [v0, v1] (.ref b :: st) u P) := zr_GR k71_79
theorem k71_82 : xcd 71 82 = oS 2 84 := rfl
theorem r71_82 : zr 71 82 [v0, v1] st u P = zr 71 84 [v0, v1] (.ref 1000002 :: st) u P := zr_S k71_82
theorem k71_84 : xcd 71 84 = oCalV 8 92 1 87 := rfl
theorem r71_84 : zr 71 84 [v0, v1] (.ref b1 :: .ref b8 :: st) u P = ((xIs u b8 8 ∧ xcat st ≤ 8) ∧ zr 92 0 [.ref b8, .ref b1, .null] [] u (fun r u2 => zr 71 87 [v0, v1] (r.toList ++ st) u2 P)) := zr_CV k71_84 rfl rfl rfl ⟨Nat.le_of_ble_eq_true rfl, Nat.succ_ne_zero _, by decide⟩ rfl
theorem k71_87 : xcd 71 87 = oIf (fun x => decide (x = 0)) 122 90 := rfl
theorem r71_87 : zr 71 87 [v0, v1] (.int y1 :: st) u P = (if y1 = 0 then zr 71 122 [v0, v1] st u P else zr 71 90 [v0, v1] st u P) := zr_If k71_87
theorem k71_90 : xcd 71 90 = oAl 0 91 := rfl
theorem r71_90 : zr 71 90 [.ref a0, v1] st u P = zr 71 91 [.ref a0, v1] (.ref a0 :: st) u P := zr_Al k71_90 rfl
theorem k71_91 : xcd 71 91 = oAl 0 92 := rfl
theorem r71_91 : zr 71 91 [.ref a0, v1] st u P = zr 71 92 [.ref a0, v1] (.ref a0 :: st) u P := zr_Al k71_91 rfl
theorem k71_92 : xcd 71 92 = oGR 7 3 95 := rfl
theorem r71_92 : zr 71 92 [v0, v1] (.ref b1 :: st) u P = (xIs u b1 7 ∧ ∃ b, xR u b1 3 = some b ∧ zr 71 95 [v0, v1] (.ref b :: st) u P) := zr_GR k71_92
theorem k71_95 : xcd 71 95 = oGR 3 0 98 := rfl
theorem r71_95 : zr 71 95 [v0, v1] (.ref b1 :: st) u P = (xIs u b1 3 ∧ ∃ b, xR u b1 0 = some b ∧ zr 71 98 [v0, v1] (.ref b :: st) u P) := zr_GR k71_95
theorem k71_98 : xcd 71 98 = oGI 4 2 101 := rfl
theorem r71_98 : zr 71 98 [v0, v1] (.ref b1 :: st) u P = (xIs u b1 4 ∧ zr 71 101 [v0, v1] (.int (xI u b1 2) :: st) u P) := zr_GI k71_98
theorem k71_101 : xcd 71 101 = oI 10 103 := rfl
theorem r71_101 : zr 71 101 [v0, v1] st u P = zr 71 103 [v0, v1] (.int 10 :: st) u P := zr_I k71_101
theorem k71_103 : xcd 71 103 = oCalV 7 72 2 106 := rfl
theorem r71_103 : zr 71 103 [v0, v1] (.int y2 :: .int y1 :: .ref b8 :: st) u P = ((xIs u b8 7 ∧ xcat st ≤ 8) ∧ zr 72 0 [.ref b8, .int y1, .int y2] [] u (fun r u2 => zr 71 106 [v0, v1] (r.toList ++ st) u2 P)) := zr_CV k71_103 rfl rfl rfl ⟨Nat.le_of_ble_eq_true rfl, Nat.succ_ne_zero _, by decide⟩ rfl
theorem k71_106 : xcd 71 106 = oIf (fun x => decide (x = 0)) 120 109 := rfl
theorem r71_106 : zr 71 106 [v0, v1] (.int y1 :: st) u P = (if y1 = 0 then zr 71 120 [v0, v1] st u P else zr 71 109 [v0, v1] st u P) := zr_If k71_106
theorem k71_109 : xcd 71 109 = oAl 0 110 := rfl
theorem r71_109 : zr 71 109 [.ref a0, v1] st u P = zr 71 110 [.ref a0, v1] (.ref a0 :: st) u P := zr_Al k71_109 rfl
theorem k71_110 : xcd 71 110 = oCalV 7 75 0 113 := rfl
theorem r71_110 : zr 71 110 [v0, v1] (.ref b8 :: st) u P = ((xIs u b8 7 ∧ xcat st ≤ 8) ∧ zr 75 0 [.ref b8, .null, .null, .null, .null] [] u (fun r u2 => zr 71 113 [v0, v1] (r.toList ++ st) u2 P)) := zr_CV k71_110 rfl rfl rfl ⟨Nat.le_of_ble_eq_true rfl, Nat.succ_ne_zero _, by decide⟩ rfl
theorem k71_113 : xcd 71 113 = oIf (fun x => decide (x = 0)) 120 116 := rfl
theorem r71_113 : zr 71 113 [v0, v1] (.int y1 :: st) u P = (if y1 = 0 then zr 71 120 [v0, v1] st u P else zr 71 116 [v0, v1] st u P) := zr_If k71_113
theorem k71_116 : xcd 71 116 = oI 1 117 := rfl
theorem r71_116 : zr 71 116 [v0, v1] st u P = zr 71 117 [v0, v1] (.int 1 :: st) u P := zr_I k71_116
theorem k71_117 : xcd 71 117 = oGoto 121 := rfl
theorem r71_117 : zr 71 117 [v0, v1] st u P = zr 71 121 [v0, v1] st u P := zr_Goto k71_117
theorem k71_120 : xcd 71 120 = oI 0 121 := rfl
theorem r71_120 : zr 71 120 [v0, v1] st u P = zr 71 121 [v0, v1] (.int 0 :: st) u P := zr_I k71_120
theorem k71_121 : xcd 71 121 = oRz 0 := rfl
theorem r71_121 : zr 71 121 [v0, v1] [.int y1] u P = ((y1 = 0 ∨ y1 = 1) ∧ P (some (.int y1)) u) := zr_Rz k71_121
theorem k71_122 : xcd 71 122 = oAl 0 123 := rfl
theorem r71_122 : zr 71 122 [.ref a0, v1] st u P = zr 71 123 [.ref a0, v1] (.ref a0 :: st) u P := zr_Al k71_122 rfl
theorem k71_123 : xcd 71 123 = oGR 7 0 126 := rfl
theorem r71_123 : zr 71 123 [v0, v1] (.ref b1 :: st) u P = (xIs u b1 7 ∧ ∃ b, xR u b1 0 = some b ∧ zr 71 126 [v0, v1] (.ref b :: st) u P) := zr_GR k71_123
theorem k71_126 : xcd 71 126 = oS 3 128 := rfl
theorem r71_126 : zr 71 126 [v0, v1] st u P = zr 71 128 [v0, v1] (.ref 1000003 :: st) u P := zr_S k71_126
theorem k71_128 : xcd 71 128 = oCalV 8 92 1 131 := rfl
theorem r71_128 : zr 71 128 [v0, v1] (.ref b1 :: .ref b8 :: st) u P = ((xIs u b8 8 ∧ xcat st ≤ 8) ∧ zr 92 0 [.ref b8, .ref b1, .null] [] u (fun r u2 => zr 71 131 [v0, v1] (r.toList ++ st) u2 P)) := zr_CV k71_128 rfl rfl rfl ⟨Nat.le_of_ble_eq_true rfl, Nat.succ_ne_zero _, by decide⟩ rfl
theorem k71_131 : xcd 71 131 = oIf (fun x => decide (x = 0)) 169 134 := rfl
theorem r71_131 : zr 71 131 [v0, v1] (.int y1 :: st) u P = (if y1 = 0 then zr 71 169 [v0, v1] st u P else zr 71 134 [v0, v1] st u P) := zr_If k71_131
theorem k71_134 : xcd 71 134 = oAl 0 135 := rfl
theorem r71_134 : zr 71 134 [.ref a0, v1] st u P = zr 71 135 [.ref a0, v1] (.ref a0 :: st) u P := zr_Al k71_134 rfl
theorem k71_135 : xcd 71 135 = oAl 0 136 := rfl
theorem r71_135 : zr 71 135 [.ref a0, v1] st u P = zr 71 136 [.ref a0, v1] (.ref a0 :: st) u P := zr_Al k71_135 rfl
theorem k71_136 : xcd 71 136 = oGR 7 3 139 := rfl
theorem r71_136 : zr 71 136 [v0, v1] (.ref b1 :: st) u P = (xIs u b1 7 ∧ ∃ b, xR u b1 3 = some b ∧ zr 71 139 [v0, v1] (.ref b :: st) u P) := zr_GR k71_136
theorem k71_139 : xcd 71 139 = oGR 3 0 142 := rfl
theorem r71_139 : zr 71 139 [v0, v1] (.ref b1 :: st) u P = (xIs u b1 3 ∧ ∃ b, xR u b1 0 = some b ∧ zr 71 142 [v0, v1] (.ref b :: st) u P) := zr_GR k71_139
theorem k71_142 : xcd 71 142 = oGR 4 5 145 := rfl
theorem r71_142 : zr 71 142 [v0, v1] (.ref b1 :: st) u P = (xIs u b1 4 ∧ ∃ b, xR u b1 5 = some b ∧ zr 71 145 [v0, v1] (.ref b :: st) u P) := zr_GR k71_142
theorem k71_145 : xcd 71 145 = oGI 2 0 148 := rfl
theorem r71_145 : zr 71 145 [v0, v1] (.ref b1 :: st) u P = (xIs u b1 2 ∧ zr 71 148 [v0, v1] (.int (xI u b1 0) :: st) u P) := zr_GI k71_145
theorem k71_148 : xcd 71 148 = oI 16 150 := rfl
theorem r71_148 : zr 71 148 [v0, v1] st u P = zr 71 150 [v0, v1] (.int 16 :: st) u P := zr_I k71_148
theorem k71_150 : xcd 71 150 = oCalV 7 72 2 153 := rfl
theorem r71_150 : zr 71 150 [v0, v1] (.int y2 :: .int y1 :: .ref b8 :: st) u P = ((xIs u b8 7 ∧ xcat st ≤ 8) ∧ zr 72 0 [.ref b8, .int y1, .int y2] [] u (fun r u2 => zr 71 153 [v0, v1] (r.toList ++ st) u2 P)) := zr_CV k71_150 rfl rfl rfl ⟨Nat.le_of_ble_eq_true rfl, Nat.succ_ne_zero _, by decide⟩ rfl
theorem k71_153 : xcd 71 153 = oIf (fun x => decide (x = 0)) 167 156 := rfl
theorem r71_153 : zr 71 153 [v0, v1] (.int y1 :: st) u P = (if y1 = 0 then zr 71 167 [v0, v1] st u P else zr 71 156 [v0, v1] st u P) := zr_If k71_153
theorem k71_156 : xcd 71 156 = oAl 0 157 := rfl
theorem r71_156 : zr 71 156 [.ref a0, v1] st u P = zr 71 157 [.ref a0, v1] (.ref a0 :: st) u P := zr_Al k71_156 rfl
theorem k71_157 : xcd 71 157 = oCalV 7 76 0 160 := rfl
theorem r71_157 : zr 71 157 [v0, v1] (.ref b8 :: st) u P = ((xIs u b8 7 ∧ xcat st ≤ 8) ∧ zr 76 0 [.ref b8, .null, .null, .null, .null] [] u (fun r u2 => zr 71 160 [v0, v1] (r.toList ++ st) u2 P)) := zr_CV k71_157 rfl rfl rfl ⟨Nat.le_of_ble_eq_true rfl, Nat.succ_ne_zero _, by decide⟩ rfl
theorem k71_160 : xcd 71 160 = oIf (fun x => decide (x = 0)) 167 163 := rfl
theorem r71_160 : zr 71 160 [v0, v1] (.int y1 :: st) u P = (if y1 = 0 then zr 71 167 [v0, v1] st u P else zr 71 163 [v0, v1] st u P) := zr_If k71_160
theorem k71_163 : xcd 71 163 = oI 1 164 := rfl
theorem r71_163 : zr 71 163 [v0, v1] st u P = zr 71 164 [v0, v1] (.int 1 :: st) u P := zr_I k71_163
theorem k71_164 : xcd 71 164 = oGoto 168 := rfl
theorem r71_164 : zr 71 164 [v0, v1] st u P = zr 71 168 [v0, v1] st u P := zr_Goto k71_164
theorem k71_167 : xcd 71 167 = oI 0 168 := rfl
theorem r71_167 : zr 71 167 [v0, v1] st u P = zr 71 168 [v0, v1] (.int 0 :: st) u P := zr_I k71_167
theorem k71_168 : xcd 71 168 = oRz 0 := rfl
theorem r71_168 : zr 71 168 [v0, v1] [.int y1] u P = ((y1 = 0 ∨ y1 = 1) ∧ P (some (.int y1)) u) := zr_Rz k71_168
theorem k71_169 : xcd 71 169 = oAl 0 170 := rfl
theorem r71_169 : zr 71 169 [.ref a0, v1] st u P = zr 71 170 [.ref a0, v1] (.ref a0 :: st) u P := zr_Al k71_169 rfl
theorem k71_170 : xcd 71 170 = oGR 7 0 173 := rfl
theorem r71_170 : zr 71 170 [v0, v1] (.ref b1 :: st) u P = (xIs u b1 7 ∧ ∃ b, xR u b1 0 = some b ∧ zr 71 173 [v0, v1] (.ref b :: st) u P) := zr_GR k71_170
theorem k71_173 : xcd 71 173 = oS 4 175 := rfl
theorem r71_173 : zr 71 173 [v0, v1] st u P = zr 71 175 [v0, v1] (.ref 1000004 :: st) u P := zr_S k71_173
theorem k71_175 : xcd 71 175 = oCalV 8 92 1 178 := rfl
theorem r71_175 : zr 71 175 [v0, v1] (.ref b1 :: .ref b8 :: st) u P = ((xIs u b8 8 ∧ xcat st ≤ 8) ∧ zr 92 0 [.ref b8, .ref b1, .null] [] u (fun r u2 => zr 71 178 [v0, v1] (r.toList ++ st) u2 P)) := zr_CV k71_175 rfl rfl rfl ⟨Nat.le_of_ble_eq_true rfl, Nat.succ_ne_zero _, by decide⟩ rfl
theorem k71_178 : xcd 71 178 = oIf (fun x => decide (x = 0)) 210 181 := rfl
theorem r71_178 : zr 71 178 [v0, v1] (.int y1 :: st) u P = (if y1 = 0 then zr 71 210 [v0, v1] st u P else zr 71 181 [v0, v1] st u P) := zr_If k71_178
theorem k71_181 : xcd 71 181 = oAl 0 182 := rfl
theorem r71_181 : zr 71 181 [.ref a0, v1] st u P = zr 71 182 [.ref a0, v1] (.ref a0 :: st) u P := zr_Al k71_181 rfl
theorem k71_182 : xcd 71 182 = oAl 1 183 := rfl
theorem r71_182 : zr 71 182 [v0, .ref a1] st u P = zr 71 183 [v0, .ref a1] (.ref a1 :: st) u P := zr_Al k71_182 rfl
theorem k71_183 : xcd 71 183 = oGR 9 2 186 := rfl
theorem r71_183 : zr 71 183 [v0, v1] (.ref b1 :: st) u P = (xIs u b1 9 ∧ ∃ b, xR u b1 2 = some b ∧ zr 71 186 [v0, v1] (.ref b :: st) u P) := zr_GR k71_183
theorem k71_186 : xcd 71 186 = oGI 6 0 189 := rfl
theorem r71_186 : zr 71 186 [v0, v1] (.ref b1 :: st) u P = (xIs u b1 6 ∧ zr 71 189 [v0, v1] (.int (xI u b1 0) :: st) u P) := zr_GI k71_186
theorem k71_189 : xcd 71 189 = oI 20 191 := rfl
theorem r71_189 : zr 71 189 [v0, v1] st u P = zr 71 191 [v0, v1] (.int 20 :: st) u P := zr_I k71_189
theorem k71_191 : xcd 71 191 = oCalV 7 72 2 194 := rfl
theorem r71_191 : zr 71 191 [v0, v1] (.int y2 :: .int y1 :: .ref b8 :: st) u P = ((xIs u b8 7 ∧ xcat st ≤ 8) ∧ zr 72 0 [.ref b8, .int y1, .int y2] [] u (fun r u2 => zr 71 194 [v0, v1] (r.toList ++ st) u2 P)) := zr_CV k71_191 rfl rfl rfl ⟨Nat.le_of_ble_eq_true rfl, Nat.succ_ne_zero _, by decide⟩ rfl
theorem k71_194 : xcd 71 194 = oIf (fun x => decide (x = 0)) 208 197 := rfl
theorem r71_194 : zr 71 194 [v0, v1] (.int y1 :: st) u P = (if y1 = 0 then zr 71 208 [v0, v1] st u P else zr 71 197 [v0, v1] st u P) := zr_If k71_194
theorem k71_197 : xcd 71 197 = oAl 0 198 := rfl
theorem r71_197 : zr 71 197 [.ref a0, v1] st u P = zr 71 198 [.ref a0, v1] (.ref a0 :: st) u P := zr_Al k71_197 rfl
theorem k71_198 : xcd 71 198 = oCalV 7 78 0 201 := rfl
theorem r71_198 : zr 71 198 [v0, v1] (.ref b8 :: st) u P = ((xIs u b8 7 ∧ xcat st ≤ 8) ∧ zr 78 0 [.ref b8, .null, .null, .null, .null, .null] [] u (fun r u2 => zr 71 201 [v0, v1] (r.toList ++ st) u2 P)) := zr_CV k71_198 rfl rfl rfl ⟨Nat.le_of_ble_eq_true rfl, Nat.succ_ne_zero _, by decide⟩ rfl
theorem k71_201 : xcd 71 201 = oIf (fun x => decide (x = 0)) 208 204 := rfl
theorem r71_201 : zr 71 201 [v0, v1] (.int y1 :: st) u P = (if y1 = 0 then zr 71 208 [v0, v1] st u P else zr 71 204 [v0, v1] st u P) := zr_If k71_201
theorem k71_204 : xcd 71 204 = oI 1 205 := rfl
theorem r71_204 : zr 71 204 [v0, v1] st u P = zr 71 205 [v0, v1] (.int 1 :: st) u P := zr_I k71_204
theorem k71_205 : xcd 71 205 = oGoto 209 := rfl
theorem r71_205 : zr 71 205 [v0, v1] st u P = zr 71 209 [v0, v1] st u P := zr_Goto k71_205
theorem k71_208 : xcd 71 208 = oI 0 209 := rfl
theorem r71_208 : zr 71 208 [v0, v1] st u P = zr 71 209 [v0, v1] (.int 0 :: st) u P := zr_I k71_208
theorem k71_209 : xcd 71 209 = oRz 0 := rfl
theorem r71_209 : zr 71 209 [v0, v1] [.int y1] u P = ((y1 = 0 ∨ y1 = 1) ∧ P (some (.int y1)) u) := zr_Rz k71_209
theorem k71_210 : xcd 71 210 = oAl 0 211 := rfl
theorem r71_210 : zr 71 210 [.ref a0, v1] st u P = zr 71 211 [.ref a0, v1] (.ref a0 :: st) u P := zr_Al k71_210 rfl
theorem k71_211 : xcd 71 211 = oGR 7 0 214 := rfl
theorem r71_211 : zr 71 211 [v0, v1] (.ref b1 :: st) u P = (xIs u b1 7 ∧ ∃ b, xR u b1 0 = some b ∧ zr 71 214 [v0, v1] (.ref b :: st) u P) := zr_GR k71_211
theorem k71_214 : xcd 71 214 = oS 5 216 := rfl
theorem r71_214 : zr 71 214 [v0, v1] st u P = zr 71 216 [v0, v1] (.ref 1000005 :: st) u P := zr_S k71_214
theorem k71_216 : xcd 71 216 = oCalV 8 92 1 219 := rfl
theorem r71_216 : zr 71 216 [v0, v1] (.ref b1 :: .ref b8 :: st) u P = ((xIs u b8 8 ∧ xcat st ≤ 8) ∧ zr 92 0 [.ref b8, .ref b1, .null] [] u (fun r u2 => zr 71 219 [v0, v1] (r.toList ++ st) u2 P)) := zr_CV k71_216 rfl rfl rfl ⟨Nat.le_of_ble_eq_true rfl, Nat.succ_ne_zero _, by decide⟩ rfl
theorem k71_219 : xcd 71 219 = oIf (fun x => decide (x = 0)) 248 222 := rfl
theorem r71_219 : zr 71 219 [v0, v1] (.int y1 :: st) u P = (if y1 = 0 then zr 71 248 [v0, v1] st u P else zr 71 222 [v0, v1] st u P) := zr_If k71_219
theorem k71_222 : xcd 71 222 = oAl 0 223 := rfl
theorem r71_222 : zr 71 222 [.ref a0, v1] st u P = zr 71 223 [.ref a0, v1] (.ref a0 :: st) u P := zr_Al k71_222 rfl
theorem k71_223 : xcd 71 223 = oAl 1 224 := rfl
theorem r71_223 : zr 71 223 [v0, .ref a1] st u P = zr 71 224 [v0, .ref a1] (.ref a1 :: st) u P := zr_Al k71_223 rfl
theorem k71_224 : xcd 71 224 = oGI 9 3 227 := rfl
theorem r71_224 : zr 71 224 [v0, v1] (.ref b1 :: st) u P = (xIs u b1 9 ∧ zr 71 227 [v0, v1] (.int (xI u b1 3) :: st) u P) := zr_GI k71_224
theorem k71_227 : xcd 71 227 = oI 6 229 := rfl
theorem r71_227 : zr 71 227 [v0, v1] st u P = zr 71 229 [v0, v1] (.int 6 :: st) u P := zr_I k71_227
theorem k71_229 : xcd 71 229 = oCalV 7 72 2 232 := rfl
theorem r71_229 : zr 71 229 [v0, v1] (.int y2 :: .int y1 :: .ref b8 :: st) u P = ((xIs u b8 7 ∧ xcat st ≤ 8) ∧ zr 72 0 [.ref b8, .int y1, .int y2] [] u (fun r u2 => zr 71 232 [v0, v1] (r.toList ++ st) u2 P)) := zr_CV k71_229 rfl rfl rfl ⟨Nat.le_of_ble_eq_true rfl, Nat.succ_ne_zero _, by decide⟩ rfl
theorem k71_232 : xcd 71 232 = oIf (fun x => decide (x = 0)) 246 235 := rfl
theorem r71_232 : zr 71 232 [v0, v1] (.int y1 :: st) u P = (if y1 = 0 then zr 71 246 [v0, v1] st u P else zr 71 235 [v0, v1] st u P) := zr_If k71_232
theorem k71_235 : xcd 71 235 = oAl 0 236 := rfl
theorem r71_235 : zr 71 235 [.ref a0, v1] st u P = zr 71 236 [.ref a0, v1] (.ref a0 :: st) u P := zr_Al k71_235 rfl
theorem k71_236 : xcd 71 236 = oCalV 7 79 0 239 := rfl
theorem r71_236 : zr 71 236 [v0, v1] (.ref b8 :: st) u P = ((xIs u b8 7 ∧ xcat st ≤ 8) ∧ zr 79 0 [.ref b8, .null, .null, .null, .null, .null] [] u (fun r u2 => zr 71 239 [v0, v1] (r.toList ++ st) u2 P)) := zr_CV k71_236 rfl rfl rfl ⟨Nat.le_of_ble_eq_true rfl, Nat.succ_ne_zero _, by decide⟩ rfl
theorem k71_239 : xcd 71 239 = oIf (fun x => decide (x = 0)) 246 242 := rfl
theorem r71_239 : zr 71 239 [v0, v1] (.int y1 :: st) u P = (if y1 = 0 then zr 71 246 [v0, v1] st u P else zr 71 242 [v0, v1] st u P) := zr_If k71_239
theorem k71_242 : xcd 71 242 = oI 1 243 := rfl
theorem r71_242 : zr 71 242 [v0, v1] st u P = zr 71 243 [v0, v1] (.int 1 :: st) u P := zr_I k71_242
theorem k71_243 : xcd 71 243 = oGoto 247 := rfl
theorem r71_243 : zr 71 243 [v0, v1] st u P = zr 71 247 [v0, v1] st u P := zr_Goto k71_243
theorem k71_246 : xcd 71 246 = oI 0 247 := rfl
theorem r71_246 : zr 71 246 [v0, v1] st u P = zr 71 247 [v0, v1] (.int 0 :: st) u P := zr_I k71_246
theorem k71_247 : xcd 71 247 = oRz 0 := rfl
theorem r71_247 : zr 71 247 [v0, v1] [.int y1] u P = ((y1 = 0 ∨ y1 = 1) ∧ P (some (.int y1)) u) := zr_Rz k71_247
theorem k71_248 : xcd 71 248 = oAl 0 249 := rfl
theorem r71_248 : zr 71 248 [.ref a0, v1] st u P = zr 71 249 [.ref a0, v1] (.ref a0 :: st) u P := zr_Al k71_248 rfl
theorem k71_249 : xcd 71 249 = oGR 7 0 252 := rfl
theorem r71_249 : zr 71 249 [v0, v1] (.ref b1 :: st) u P = (xIs u b1 7 ∧ ∃ b, xR u b1 0 = some b ∧ zr 71 252 [v0, v1] (.ref b :: st) u P) := zr_GR k71_249
theorem k71_252 : xcd 71 252 = oS 6 254 := rfl
theorem r71_252 : zr 71 252 [v0, v1] st u P = zr 71 254 [v0, v1] (.ref 1000006 :: st) u P := zr_S k71_252
theorem k71_254 : xcd 71 254 = oCalV 8 92 1 257 := rfl
theorem r71_254 : zr 71 254 [v0, v1] (.ref b1 :: .ref b8 :: st) u P = ((xIs u b8 8 ∧ xcat st ≤ 8) ∧ zr 92 0 [.ref b8, .ref b1, .null] [] u (fun r u2 => zr 71 257 [v0, v1] (r.toList ++ st) u2 P)) := zr_CV k71_254 rfl rfl rfl ⟨Nat.le_of_ble_eq_true rfl, Nat.succ_ne_zero _, by decide⟩ rfl
theorem k71_257 : xcd 71 257 = oIf (fun x => decide (x = 0)) 286 260 := rfl
theorem r71_257 : zr 71 257 [v0, v1] (.int y1 :: st) u P = (if y1 = 0 then zr 71 286 [v0, v1] st u P else zr 71 260 [v0, v1] st u P) := zr_If k71_257
theorem k71_260 : xcd 71 260 = oAl 0 261 := rfl
theorem r71_260 : zr 71 260 [.ref a0, v1] st u P = zr 71 261 [.ref a0, v1] (.ref a0 :: st) u P := zr_Al k71_260 rfl
theorem k71_261 : xcd 71 261 = oAl 1 262 := rfl
theorem r71_261 : zr 71 261 [v0, .ref a1] st u P = zr 71 262 [v0, .ref a1] (.ref a1 :: st) u P := zr_Al k71_261 rfl
theorem k71_262 : xcd 71 262 = oGI 9 9 265 := rfl
theorem r71_262 : zr 71 262 [v0, v1] (.ref b1 :: st) u P = (xIs u b1 9 ∧ zr 71 265 [v0, v1] (.int (xI u b1 9) :: st) u P) := zr_GI k71_262
theorem k71_265 : xcd 71 265 = oI 6 267 := rfl
theorem r71_265 : zr 71 265 [v0, v1] st u P = zr 71 267 [v0, v1] (.int 6 :: st) u P := zr_I k71_265
theorem k71_267 : xcd 71 267 = oCalV 7 72 2 270 := rfl
theorem r71_267 : zr 71 267 [v0, v1] (.int y2 :: .int y1 :: .ref b8 :: st) u P = ((xIs u b8 7 ∧ xcat st ≤ 8) ∧ zr 72 0 [.ref b8, .int y1, .int y2] [] u (fun r u2 => zr 71 270 [v0, v1] (r.toList ++ st) u2 P)) := zr_CV k71_267 rfl rfl rfl ⟨Nat.le_of_ble_eq_true rfl, Nat.succ_ne_zero _, by decide⟩ rfl
theorem k71_270 : xcd 71 270 = oIf (fun x => decide (x = 0)) 284 273 := rfl
theorem r71_270 : zr 71 270 [v0, v1] (.int y1 :: st) u P = (if y1 = 0 then zr 71 284 [v0, v1] st u P else zr 71 273 [v0, v1] st u P) := zr_If k71_270
theorem k71_273 : xcd 71 273 = oAl 0 274 := rfl
theorem r71_273 : zr 71 273 [.ref a0, v1] st u P = zr 71 274 [.ref a0, v1] (.ref a0 :: st) u P := zr_Al k71_273 rfl
theorem k71_274 : xcd 71 274 = oCalV 7 80 0 277 := rfl
theorem r71_274 : zr 71 274 [v0, v1] (.ref b8 :: st) u P = ((xIs u b8 7 ∧ xcat st ≤ 8) ∧ zr 80 0 [.ref b8, .null, .null, .null, .null] [] u (fun r u2 => zr 71 277 [v0, v1] (r.toList ++ st) u2 P)) := zr_CV k71_274 rfl rfl rfl ⟨Nat.le_of_ble_eq_true rfl, Nat.succ_ne_zero _, by decide⟩ rfl
theorem k71_277 : xcd 71 277 = oIf (fun x => decide (x = 0)) 284 280 := rfl
theorem r71_277 : zr 71 277 [v0, v1] (.int y1 :: st) u P = (if y1 = 0 then zr 71 284 [v0, v1] st u P else zr 71 280 [v0, v1] st u P) := zr_If k71_277
theorem k71_280 : xcd 71 280 = oI 1 281 := rfl
theorem r71_280 : zr 71 280 [v0, v1] st u P = zr 71 281 [v0, v1] (.int 1 :: st) u P := zr_I k71_280
theorem k71_281 : xcd 71 281 = oGoto 285 := rfl
theorem r71_281 : zr 71 281 [v0, v1] st u P = zr 71 285 [v0, v1] st u P := zr_Goto k71_281
theorem k71_284 : xcd 71 284 = oI 0 285 := rfl
theorem r71_284 : zr 71 284 [v0, v1] st u P = zr 71 285 [v0, v1] (.int 0 :: st) u P := zr_I k71_284
theorem k71_285 : xcd 71 285 = oRz 0 := rfl
theorem r71_285 : zr 71 285 [v0, v1] [.int y1] u P = ((y1 = 0 ∨ y1 = 1) ∧ P (some (.int y1)) u) := zr_Rz k71_285
theorem k71_286 : xcd 71 286 = oAl 0 287 := rfl
theorem r71_286 : zr 71 286 [.ref a0, v1] st u P = zr 71 287 [.ref a0, v1] (.ref a0 :: st) u P := zr_Al k71_286 rfl
theorem k71_287 : xcd 71 287 = oI 1 288 := rfl
theorem r71_287 : zr 71 287 [v0, v1] st u P = zr 71 288 [v0, v1] (.int 1 :: st) u P := zr_I k71_287
theorem k71_288 : xcd 71 288 = oCalV 7 69 1 291 := rfl
theorem r71_288 : zr 71 288 [v0, v1] (.int y1 :: .ref b8 :: st) u P = ((xIs u b8 7 ∧ xcat st ≤ 8) ∧ zr 69 0 [.ref b8, .int y1] [] u (fun r u2 => zr 71 291 [v0, v1] (r.toList ++ st) u2 P)) := zr_CV k71_288 rfl rfl rfl ⟨Nat.le_of_ble_eq_true rfl, Nat.succ_ne_zero _, by decide⟩ rfl
theorem k71_291 : xcd 71 291 = oRz 0 := rfl
theorem r71_291 : zr 71 291 [v0, v1] [.int y1] u P = ((y1 = 0 ∨ y1 = 1) ∧ P (some (.int y1)) u) := zr_Rz k71_291
theorem k72_0 : xcd 72 0 = oAl 0 1 := rfl
theorem r72_0 : zr 72 0 [.ref a0, v1, v2] st u P = zr 72 1 [.ref a0, v1, v2] (.ref a0 :: st) u P := zr_Al k72_0 rfl
theorem k72_1 : xcd 72 1 = oGI 7 4 4 := rfl
theorem r72_1 : zr 72 1 [v0, v1, v2] (.ref b1 :: st) u P = (xIs u b1 7 ∧ zr 72 4 [v0, v1, v2] (.int (xI u b1 4) :: st) u P) := zr_GI k72_1
theorem k72_4 : xcd 72 4 = oIf (fun x => decide (¬ x = 0)) 14 7 := rfl
theorem r72_4 : zr 72 4 [v0, v1, v2] (.int y1 :: st) u P = (if ¬ y1 = 0 then zr 72 14 [v0, v1, v2] st u P else zr 72 7 [v0, v1, v2] st u P) := zr_If k72_4
theorem k72_7 : xcd 72 7 = oAl 0 8 := rfl
theorem r72_7 : zr 72 7 [.ref a0, v1, v2] st u P = zr 72 8 [.ref a0, v1, v2] (.ref a0 :: st) u P := zr_Al k72_7 rfl
theorem k72_8 : xcd 72 8 = oI 6 10 := rfl
theorem r72_8 : zr 72 8 [v0, v1, v2] st u P = zr 72 10 [v0, v1, v2] (.int 6 :: st) u P := zr_I k72_8
theorem k72_10 : xcd 72 10 = oCalV 7 69 1 13 := rfl
theorem r72_10 : zr 72 10 [v0, v1, v2] (.int y1 :: .ref b8 :: st) u P = ((xIs u b8 7 ∧ xcat st ≤ 8) ∧ zr 69 0 [.ref b8, .int y1] [] u (fun r u2 => zr 72 13 [v0, v1, v2] (r.toList ++ st) u2 P)) := zr_CV k72_10 rfl rfl rfl ⟨Nat.le_of_ble_eq_true rfl, Nat.succ_ne_zero _, by decide⟩ rfl
theorem k72_13 : xcd 72 13 = oRz 0 := rfl
theorem r72_13 : zr 72 13 [v0, v1, v2] [.int y1] u P = ((y1 = 0 ∨ y1 = 1) ∧ P (some (.int y1)) u) := zr_Rz k72_13
theorem k72_14 : xcd 72 14 = oIl 1 15 := rfl
theorem r72_14 : zr 72 14 [v0, .int x1, v2] st u P = zr 72 15 [v0, .int x1, v2] (.int x1 :: st) u P := zr_Il k72_14 rfl
theorem k72_15 : xcd 72 15 = oIl 2 16 := rfl
theorem r72_15 : zr 72 15 [v0, v1, .int x2] st u P = zr 72 16 [v0, v1, .int x2] (.int x2 :: st) u P := zr_Il k72_15 rfl
theorem k72_16 : xcd 72 16 = oCmp (fun x y => decide (x < y)) 25 19 := rfl
theorem r72_16 : zr 72 16 [v0, v1, v2] (.int y1 :: .int y2 :: st) u P = (if y2 < y1 then zr 72 25 [v0, v1, v2] st u P else zr 72 19 [v0, v1, v2] st u P) := zr_Cmp k72_16
theorem k72_19 : xcd 72 19 = oAl 0 20 := rfl
theorem r72_19 : zr 72 19 [.ref a0, v1, v2] st u P = zr 72 20 [.ref a0, v1, v2] (.ref a0 :: st) u P := zr_Al k72_19 rfl
theorem k72_20 : xcd 72 20 = oI 5 21 := rfl
theorem r72_20 : zr 72 20 [v0, v1, v2] st u P = zr 72 21 [v0, v1, v2] (.int 5 :: st) u P := zr_I k72_20
theorem k72_21 : xcd 72 21 = oCalV 7 69 1 24 := rfl
theorem r72_21 : zr 72 21 [v0, v1, v2] (.int y1 :: .ref b8 :: st) u P = ((xIs u b8 7 ∧ xcat st ≤ 8) ∧ zr 69 0 [.ref b8, .int y1] [] u (fun r u2 => zr 72 24 [v0, v1, v2] (r.toList ++ st) u2 P)) := zr_CV k72_21 rfl rfl rfl ⟨Nat.le_of_ble_eq_true rfl, Nat.succ_ne_zero _, by decide⟩ rfl
theorem k72_24 : xcd 72 24 = oRz 0 := rfl
theorem r72_24 : zr 72 24 [v0, v1, v2] [.int y1] u P = ((y1 = 0 ∨ y1 = 1) ∧ P (some (.int y1)) u) := zr_Rz k72_24
theorem k72_25 : xcd 72 25 = oAl 0 26 := rfl
theorem r72_25 : zr 72 25 [.ref a0, v1, v2] st u P = zr 72 26 [.ref a0, v1, v2] (.ref a0 :: st) u P := zr_Al k72_25 rfl
theorem k72_26 : xcd 72 26 = oGR 7 0 29 := rfl
theorem r72_26 : zr 72 26 [v0, v1, v2] (.ref b1 :: st) u P = (xIs u b1 7 ∧ ∃ b, xR u b1 0 = some b ∧ zr 72 29 [v0, v1, v2] (.ref b :: st) u P) := zr_GR k72_26
theorem k72_29 : xcd 72 29 = oCalV 8 89 0 32 := rfl
theorem r72_29 : zr 72 29 [v0, v1, v2] (.ref b8 :: st) u P = ((xIs u b8 8 ∧ xcat st ≤ 8) ∧ zr 89 0 [.ref b8] [] u (fun r u2 => zr 72 32 [v0, v1, v2] (r.toList ++ st) u2 P)) := zr_CV k72_29 rfl rfl rfl ⟨Nat.le_of_ble_eq_true rfl, Nat.succ_ne_zero _, by decide⟩ rfl
theorem k72_32 : xcd 72 32 = oI 1 33 := rfl
theorem r72_32 : zr 72 32 [v0, v1, v2] st u P = zr 72 33 [v0, v1, v2] (.int 1 :: st) u P := zr_I k72_32
theorem k72_33 : xcd 72 33 = oRz 0 := rfl
theorem r72_33 : zr 72 33 [v0, v1, v2] [.int y1] u P = ((y1 = 0 ∨ y1 = 1) ∧ P (some (.int y1)) u) := zr_Rz k72_33
theorem k73_0 : xcd 73 0 = oAl 0 1 := rfl
theorem r73_0 : zr 73 0 [.ref a0, v1, v2] st u P = zr 73 1 [.ref a0, v1, v2] (.ref a0 :: st) u P := zr_Al k73_0 rfl
theorem k73_1 : xcd 73 1 = oGR 7 0 4 := rfl
theorem r73_1 : zr 73 1 [v0, v1, v2] (.ref b1 :: st) u P = (xIs u b1 7 ∧ ∃ b, xR u b1 0 = some b ∧ zr 73 4 [v0, v1, v2] (.ref b :: st) u P) := zr_GR k73_1
theorem k73_4 : xcd 73 4 = oCalV 8 89 0 7 := rfl
theorem r73_4 : zr 73 4 [v0, v1, v2] (.ref b8 :: st) u P = ((xIs u b8 8 ∧ xcat st ≤ 8) ∧ zr 89 0 [.ref b8] [] u (fun r u2 => zr 73 7 [v0, v1, v2] (r.toList ++ st) u2 P)) := zr_CV k73_4 rfl rfl rfl ⟨Nat.le_of_ble_eq_true rfl, Nat.succ_ne_zero _, by decide⟩ rfl
theorem k73_7 : xcd 73 7 = oAl 0 8 := rfl
theorem r73_7 : zr 73 7 [.ref a0, v1, v2] st u P = zr 73 8 [.ref a0, v1, v2] (.ref a0 :: st) u P := zr_Al k73_7 rfl
theorem k73_8 : xcd 73 8 = oS 10 10 := rfl
theorem r73_8 : zr 73 8 [v0, v1, v2] st u P = zr 73 10 [v0, v1, v2] (.ref 1000010 :: st) u P := zr_S k73_8
theorem k73_10 : xcd 73 10 = oCalV 7 81 1 13 := rfl
theorem r73_10 : zr 73 10 [v0, v1, v2] (.ref b1 :: .ref b8 :: st) u P = ((xIs u b8 7 ∧ xcat st ≤ 8) ∧ zr 81 0 [.ref b8, .ref b1] [] u (fun r u2 => zr 73 13 [v0, v1, v2] (r.toList ++ st) u2 P)) := zr_CV k73_10 rfl rfl rfl ⟨Nat.le_of_ble_eq_true rfl, Nat.succ_ne_zero _, by decide⟩ rfl
theorem k73_13 : xcd 73 13 = oIf (fun x => decide (¬ x = 0)) 18 16 := rfl
theorem r73_13 : zr 73 13 [v0, v1, v2] (.int y1 :: st) u P = (if ¬ y1 = 0 then zr 73 18 [v0, v1, v2] st u P else zr 73 16 [v0, v1, v2] st u P) := zr_If k73_13
theorem k73_16 : xcd 73 16 = oI 0 17 := rfl
theorem r73_16 : zr 73 16 [v0, v1, v2] st u P = zr 73 17 [v0, v1, v2] (.int 0 :: st) u P := zr_I k73_16
theorem k73_17 : xcd 73 17 = oRz 0 := rfl
theorem r73_17 : zr 73 17 [v0, v1, v2] [.int y1] u P = ((y1 = 0 ∨ y1 = 1) ∧ P (some (.int y1)) u) := zr_Rz k73_17
theorem k73_18 : xcd 73 18 = oAl 0 19 := rfl
theorem r73_18 : zr 73 18 [.ref a0, v1, v2] st u P = zr 73 19 [.ref a0, v1, v2] (.ref a0 :: st) u P := zr_Al k73_18 rfl
theorem k73_19 : xcd 73 19 = oI 2 20 := rfl
theorem r73_19 : zr 73 19 [v0, v1, v2] st u P = zr 73 20 [v0, v1, v2] (.int 2 :: st) u P := zr_I k73_19
theorem k73_20 : xcd 73 20 = oI 40 22 := rfl
theorem r73_20 : zr 73 20 [v0, v1, v2] st u P = zr 73 22 [v0, v1, v2] (.int 40 :: st) u P := zr_I k73_20
theorem k73_22 : xcd 73 22 = oCalV 7 82 2 25 := rfl
theorem r73_22 : zr 73 22 [v0, v1, v2] (.int y2 :: .int y1 :: .ref b8 :: st) u P = ((xIs u b8 7 ∧ xcat st ≤ 8) ∧ zr 82 0 [.ref b8, .int y1, .int y2, .null] [] u (fun r u2 => zr 73 25 [v0, v1, v2] (r.toList ++ st) u2 P)) := zr_CV k73_22 rfl rfl rfl ⟨Nat.le_of_ble_eq_true rfl, Nat.succ_ne_zero _, by decide⟩ rfl
theorem k73_25 : xcd 73 25 = oIs 1 26 := rfl
theorem r73_25 : zr 73 25 [.ref a0, v1, v2] (.int y1 :: st) u P = zr 73 26 [.ref a0, .int y1, v2] st u P := zr_Is k73_25 ⟨Nat.le_of_ble_eq_true rfl, rfl⟩
theorem k73_26 : xcd 73 26 = oIl 1 27 := rfl
theorem r73_26 : zr 73 26 [v0, .int x1, v2] st u P = zr 73 27 [v0, .int x1, v2] (.int x1 :: st) u P := zr_Il k73_26 rfl
theorem k73_27 : xcd 73 27 = oIf (fun x => decide (x < 0)) 39 30 := rfl
theorem r73_27 : zr 73 27 [v0, v1, v2] (.int y1 :: st) u P = (if y1 < 0 then zr 73 39 [v0, v1, v2] st u P else zr 73 30 [v0, v1, v2] st u P) := zr_If k73_27
theorem k73_30 : xcd 73 30 = oAl 0 31 := rfl
theorem r73_30 : zr 73 30 [.ref a0, v1, v2] st u P = zr 73 31 [.ref a0, v1, v2] (.ref a0 :: st) u P := zr_Al k73_30 rfl
theorem k73_31 : xcd 73 31 = oS 11 33 := rfl
theorem r73_31 : zr 73 31 [v0, v1, v2] st u P = zr 73 33 [v0, v1, v2] (.ref 1000011 :: st) u P := zr_S k73_31
theorem k73_33 : xcd 73 33 = oCalV 7 81 1 36 := rfl
theorem r73_33 : zr 73 33 [v0, v1, v2] (.ref b1 :: .ref b8 :: st) u P = ((xIs u b8 7 ∧ xcat st ≤ 8) ∧ zr 81 0 [.ref b8, .ref b1] [] u (fun r u2 => zr 73 36 [v0, v1, v2] (r.toList ++ st) u2 P)) := zr_CV k73_33 rfl rfl rfl ⟨Nat.le_of_ble_eq_true rfl, Nat.succ_ne_zero _, by decide⟩ rfl
theorem k73_36 : xcd 73 36 = oIf (fun x => decide (¬ x = 0)) 41 39 := rfl
theorem r73_36 : zr 73 36 [v0, v1, v2] (.int y1 :: st) u P = (if ¬ y1 = 0 then zr 73 41 [v0, v1, v2] st u P else zr 73 39 [v0, v1, v2] st u P) := zr_If k73_36
theorem k73_39 : xcd 73 39 = oI 0 40 := rfl
theorem r73_39 : zr 73 39 [v0, v1, v2] st u P = zr 73 40 [v0, v1, v2] (.int 0 :: st) u P := zr_I k73_39
theorem k73_40 : xcd 73 40 = oRz 0 := rfl
theorem r73_40 : zr 73 40 [v0, v1, v2] [.int y1] u P = ((y1 = 0 ∨ y1 = 1) ∧ P (some (.int y1)) u) := zr_Rz k73_40
theorem k73_41 : xcd 73 41 = oAl 0 42 := rfl
theorem r73_41 : zr 73 41 [.ref a0, v1, v2] st u P = zr 73 42 [.ref a0, v1, v2] (.ref a0 :: st) u P := zr_Al k73_41 rfl
theorem k73_42 : xcd 73 42 = oI 1 43 := rfl
theorem r73_42 : zr 73 42 [v0, v1, v2] st u P = zr 73 43 [v0, v1, v2] (.int 1 :: st) u P := zr_I k73_42
theorem k73_43 : xcd 73 43 = oI 4 44 := rfl
theorem r73_43 : zr 73 43 [v0, v1, v2] st u P = zr 73 44 [v0, v1, v2] (.int 4 :: st) u P := zr_I k73_43
theorem k73_44 : xcd 73 44 = oCalV 7 82 2 47 := rfl
theorem r73_44 : zr 73 44 [v0, v1, v2] (.int y2 :: .int y1 :: .ref b8 :: st) u P = ((xIs u b8 7 ∧ xcat st ≤ 8) ∧ zr 82 0 [.ref b8, .int y1, .int y2, .null] [] u (fun r u2 => zr 73 47 [v0, v1, v2] (r.toList ++ st) u2 P)) := zr_CV k73_44 rfl rfl rfl ⟨Nat.le_of_ble_eq_true rfl, Nat.succ_ne_zero _, by decide⟩ rfl
theorem k73_47 : xcd 73 47 = oIs 2 48 := rfl
theorem r73_47 : zr 73 47 [v0, .int x1, v2] (.int y1 :: st) u P = zr 73 48 [v0, .int x1, .int y1] st u P := zr_Is k73_47 ⟨Nat.le_of_ble_eq_true rfl, rfl⟩
theorem k73_48 : xcd 73 48 = oIl 2 49 := rfl
theorem r73_48 : zr 73 48 [v0, v1, .int x2] st u P = zr 73 49 [v0, v1, .int x2] (.int x2 :: st) u P := zr_Il k73_48 rfl
theorem k73_49 : xcd 73 49 = oIf (fun x => decide (0 ≤ x)) 54 52 := rfl
theorem r73_49 : zr 73 49 [v0, v1, v2] (.int y1 :: st) u P = (if 0 ≤ y1 then zr 73 54 [v0, v1, v2] st u P else zr 73 52 [v0, v1, v2] st u P) := zr_If k73_49
theorem k73_52 : xcd 73 52 = oI 0 53 := rfl
theorem r73_52 : zr 73 52 [v0, v1, v2] st u P = zr 73 53 [v0, v1, v2] (.int 0 :: st) u P := zr_I k73_52
theorem k73_53 : xcd 73 53 = oRz 0 := rfl
theorem r73_53 : zr 73 53 [v0, v1, v2] [.int y1] u P = ((y1 = 0 ∨ y1 = 1) ∧ P (some (.int y1)) u) := zr_Rz k73_53
theorem k73_54 : xcd 73 54 = oAl 0 55 := rfl
theorem r73_54 : zr 73 54 [.ref a0, v1, v2] st u P = zr 73 55 [.ref a0, v1, v2] (.ref a0 :: st) u P := zr_Al k73_54 rfl
theorem k73_55 : xcd 73 55 = oGR 7 3 58 := rfl
theorem r73_55 : zr 73 55 [v0, v1, v2] (.ref b1 :: st) u P = (xIs u b1 7 ∧ ∃ b, xR u b1 3 = some b ∧ zr 73 58 [v0, v1, v2] (.ref b :: st) u P) := zr_GR k73_55
theorem k73_58 : xcd 73 58 = oIl 1 59 := rfl
theorem r73_58 : zr 73 58 [v0, .int x1, v2] st u P = zr 73 59 [v0, .int x1, v2] (.int x1 :: st) u P := zr_Il k73_58 rfl
theorem k73_59 : xcd 73 59 = oIl 2 60 := rfl
theorem r73_59 : zr 73 59 [v0, v1, .int x2] st u P = zr 73 60 [v0, v1, .int x2] (.int x2 :: st) u P := zr_Il k73_59 rfl
theorem k73_60 : xcd 73 60 = oCalV 3 35 2 63 := rfl
theorem r73_60 : zr 73 60 [v0, v1, v2] (.int y2 :: .int y1 :: .ref b8 :: st) u P = ((xIs u b8 3 ∧ xcat st ≤ 8) ∧ zr 35 0 [.ref b8, .int y1, .int y2] [] u (fun r u2 => zr 73 63 [v0, v1, v2] (r.toList ++ st) u2 P)) := zr_CV k73_60 rfl rfl rfl ⟨Nat.le_of_ble_eq_true rfl, Nat.succ_ne_zero _, by decide⟩ rfl
theorem k73_63 : xcd 73 63 = oAl 0 64 := rfl
theorem r73_63 : zr 73 63 [.ref a0, v1, v2] st u P = zr 73 64 [.ref a0, v1, v2] (.ref a0 :: st) u P := zr_Al k73_63 rfl
theorem k73_64 : xcd 73 64 = oI 1 65 := rfl
theorem r73_64 : zr 73 64 [v0, v1, v2] st u P = zr 73 65 [v0, v1, v2] (.int 1 :: st) u P := zr_I k73_64
theorem k73_65 : xcd 73 65 = oPZ 7 4 68 := rfl
theorem r73_65 : zr 73 65 [v0, v1, v2] (.int y1 :: .ref b1 :: st) u P = ((xIs u b1 7 ∧ (y1 = 0 ∨ y1 = 1)) ∧ zr 73 68 [v0, v1, v2] st (xsI u b1 4 y1) P) := zr_PZ k73_65
theorem k73_68 : xcd 73 68 = oI 1 69 := rfl
theorem r73_68 : zr 73 68 [v0, v1, v2] st u P = zr 73 69 [v0, v1, v2] (.int 1 :: st) u P := zr_I k73_68
theorem k73_69 : xcd 73 69 = oRz 0 := rfl
theorem r73_69 : zr 73 69 [v0, v1, v2] [.int y1] u P = ((y1 = 0 ∨ y1 = 1) ∧ P (some (.int y1)) u) := zr_Rz k73_69
theorem k74_0 : xcd 74 0 = oAl 0 1 := rfl
theorem r74_0 : zr 74 0 [.ref a0, v1, v2, v3] st u P = zr 74 1 [.ref a0, v1, v2, v3] (.ref a0 :: st) u P := zr_Al k74_0 rfl
theorem k74_1 : xcd 74 1 = oCalV 7 83 0 4 := rfl
theorem r74_1 : zr 74 1 [v0, v1, v2, v3] (.ref b8 :: st) u P = ((xIs u b8 7 ∧ xcat st ≤ 8) ∧ zr 83 0 [.ref b8, .null, .null] [] u (fun r u2 => zr 74 4 [v0, v1, v2, v3] (r.toList ++ st) u2 P)) := zr_CV k74_1 rfl rfl rfl ⟨Nat.le_of_ble_eq_true rfl, Nat.succ_ne_zero _, by decide⟩ rfl
theorem k74_4 : xcd 74 4 = oJs 1 5 := rfl
theorem r74_4 : zr 74 4 [.ref a0, v1, v2, v3] (.long w1 :: st) u P = zr 74 5 [.ref a0, .long w1, .null, v3] st u P := zr_Js k74_4 ⟨Nat.le_of_ble_eq_true rfl, rfl⟩
theorem k74_5 : xcd 74 5 = oJl 1 6 := rfl
theorem r74_5 : zr 74 5 [v0, .long j1, v2, v3] st u P = zr 74 6 [v0, .long j1, v2, v3] (.long j1 :: st) u P := zr_Jl k74_5 rfl
theorem k74_6 : xcd 74 6 = oJ 0 7 := rfl
theorem r74_6 : zr 74 6 [v0, v1, v2, v3] st u P = zr 74 7 [v0, v1, v2, v3] (.long 0 :: st) u P := zr_J k74_6
theorem k74_7 : xcd 74 7 = oLcmp 8 := rfl
theorem r74_7 : zr 74 7 [v0, v1, v2, v3] (.long w1 :: .long w2 :: st) u P = zr 74 8 [v0, v1, v2, v3] (.int (lg_cmp w2 w1) :: st) u P := zr_Lcmp k74_7
theorem k74_8 : xcd 74 8 = oIf (fun x => decide (0 ≤ x)) 13 11 := rfl
theorem r74_8 : zr 74 8 [v0, v1, v2, v3] (.int y1 :: st) u P = (if 0 ≤ y1 then zr 74 13 [v0, v1, v2, v3] st u P else zr 74 11 [v0, v1, v2, v3] st u P) := zr_If k74_8
theorem k74_11 : xcd 74 11 = oI 0 12 := rfl
theorem r74_11 : zr 74 11 [v0, v1, v2, v3] st u P = zr 74 12 [v0, v1, v2, v3] (.int 0 :: st) u P := zr_I k74_11
theorem k74_12 : xcd 74 12 = oRz 0 := rfl
theorem r74_12 : zr 74 12 [v0, v1, v2, v3] [.int y1] u P = ((y1 = 0 ∨ y1 = 1) ∧ P (some (.int y1)) u) := zr_Rz k74_12
theorem k74_13 : xcd 74 13 = oI (-2) 15 := rfl
theorem r74_13 : zr 74 13 [v0, v1, v2, v3] st u P = zr 74 15 [v0, v1, v2, v3] (.int (-2) :: st) u P := zr_I k74_13
theorem k74_15 : xcd 74 15 = oIs 3 16 := rfl
theorem r74_15 : zr 74 15 [v0, v1, .null, v3] (.int y1 :: st) u P = zr 74 16 [v0, v1, .null, .int y1] st u P := zr_Is k74_15 ⟨Nat.le_of_ble_eq_true rfl, rfl⟩
theorem k74_16 : xcd 74 16 = oAl 0 17 := rfl
theorem r74_16 : zr 74 16 [.ref a0, v1, v2, v3] st u P = zr 74 17 [.ref a0, v1, v2, v3] (.ref a0 :: st) u P := zr_Al k74_16 rfl
theorem k74_17 : xcd 74 17 = oGR 7 0 20 := rfl
theorem r74_17 : zr 74 17 [v0, v1, v2, v3] (.ref b1 :: st) u P = (xIs u b1 7 ∧ ∃ b, xR u b1 0 = some b ∧ zr 74 20 [v0, v1, v2, v3] (.ref b :: st) u P) := zr_GR k74_17
theorem k74_20 : xcd 74 20 = oS 7 22 := rfl
theorem r74_20 : zr 74 20 [v0, v1, v2, v3] st u P = zr 74 22 [v0, v1, v2, v3] (.ref 1000007 :: st) u P := zr_S k74_20
theorem k74_22 : xcd 74 22 = oCalV 8 92 1 25 := rfl
theorem r74_22 : zr 74 22 [v0, v1, v2, v3] (.ref b1 :: .ref b8 :: st) u P = ((xIs u b8 8 ∧ xcat st ≤ 8) ∧ zr 92 0 [.ref b8, .ref b1, .null] [] u (fun r u2 => zr 74 25 [v0, v1, v2, v3] (r.toList ++ st) u2 P)) := zr_CV k74_22 rfl rfl rfl ⟨Nat.le_of_ble_eq_true rfl, Nat.succ_ne_zero _, by decide⟩ rfl
theorem k74_25 : xcd 74 25 = oIf (fun x => decide (x = 0)) 60 28 := rfl
theorem r74_25 : zr 74 25 [v0, v1, v2, v3] (.int y1 :: st) u P = (if y1 = 0 then zr 74 60 [v0, v1, v2, v3] st u P else zr 74 28 [v0, v1, v2, v3] st u P) := zr_If k74_25
theorem k74_28 : xcd 74 28 = oAl 0 29 := rfl
theorem r74_28 : zr 74 28 [.ref a0, v1, v2, v3] st u P = zr 74 29 [.ref a0, v1, v2, v3] (.ref a0 :: st) u P := zr_Al k74_28 rfl
theorem k74_29 : xcd 74 29 = oGR 7 0 32 := rfl
theorem r74_29 : zr 74 29 [v0, v1, v2, v3] (.ref b1 :: st) u P = (xIs u b1 7 ∧ ∃ b, xR u b1 0 = some b ∧ zr 74 32 [v0, v1, v2, v3] (.ref b :: st) u P) := zr_GR k74_29
theorem k74_32 : xcd 74 32 = oCalV 8 89 0 35 := rfl
theorem r74_32 : zr 74 32 [v0, v1, v2, v3] (.ref b8 :: st) u P = ((xIs u b8 8 ∧ xcat st ≤ 8) ∧ zr 89 0 [.ref b8] [] u (fun r u2 => zr 74 35 [v0, v1, v2, v3] (r.toList ++ st) u2 P)) := zr_CV k74_32 rfl rfl rfl ⟨Nat.le_of_ble_eq_true rfl, Nat.succ_ne_zero _, by decide⟩ rfl
theorem k74_35 : xcd 74 35 = oAl 0 36 := rfl
theorem r74_35 : zr 74 35 [.ref a0, v1, v2, v3] st u P = zr 74 36 [.ref a0, v1, v2, v3] (.ref a0 :: st) u P := zr_Al k74_35 rfl
theorem k74_36 : xcd 74 36 = oAl 0 37 := rfl
theorem r74_36 : zr 74 36 [.ref a0, v1, v2, v3] st u P = zr 74 37 [.ref a0, v1, v2, v3] (.ref a0 :: st) u P := zr_Al k74_36 rfl
theorem k74_37 : xcd 74 37 = oGR 7 1 40 := rfl
theorem r74_37 : zr 74 37 [v0, v1, v2, v3] (.ref b1 :: st) u P = (xIs u b1 7 ∧ ∃ b, xR u b1 1 = some b ∧ zr 74 40 [v0, v1, v2, v3] (.ref b :: st) u P) := zr_GR k74_37
theorem k74_40 : xcd 74 40 = oAl 0 41 := rfl
theorem r74_40 : zr 74 40 [.ref a0, v1, v2, v3] st u P = zr 74 41 [.ref a0, v1, v2, v3] (.ref a0 :: st) u P := zr_Al k74_40 rfl
theorem k74_41 : xcd 74 41 = oGR 7 3 44 := rfl
theorem r74_41 : zr 74 41 [v0, v1, v2, v3] (.ref b1 :: st) u P = (xIs u b1 7 ∧ ∃ b, xR u b1 3 = some b ∧ zr 74 44 [v0, v1, v2, v3] (.ref b :: st) u P) := zr_GR k74_41
theorem k74_44 : xcd 74 44 = oGR 3 1 47 := rfl
theorem r74_44 : zr 74 44 [v0, v1, v2, v3] (.ref b1 :: st) u P = (xIs u b1 3 ∧ ∃ b, xR u b1 1 = some b ∧ zr 74 47 [v0, v1, v2, v3] (.ref b :: st) u P) := zr_GR k74_44
theorem k74_47 : xcd 74 47 = oGI 9 0 50 := rfl
theorem r74_47 : zr 74 47 [v0, v1, v2, v3] (.ref b1 :: st) u P = (xIs u b1 9 ∧ zr 74 50 [v0, v1, v2, v3] (.int (xI u b1 0) :: st) u P) := zr_GI k74_47
theorem k74_50 : xcd 74 50 = oCalV 7 84 2 53 := rfl
theorem r74_50 : zr 74 50 [v0, v1, v2, v3] (.int y2 :: .ref b1 :: .ref b8 :: st) u P = ((xIs u b8 7 ∧ xcat st ≤ 8) ∧ zr 84 0 [.ref b8, .ref b1, .int y2, .null] [] u (fun r u2 => zr 74 53 [v0, v1, v2, v3] (r.toList ++ st) u2 P)) := zr_CV k74_50 rfl rfl rfl ⟨Nat.le_of_ble_eq_true rfl, Nat.succ_ne_zero _, by decide⟩ rfl
theorem k74_53 : xcd 74 53 = oIs 3 54 := rfl
theorem r74_53 : zr 74 53 [v0, v1, .null, v3] (.int y1 :: st) u P = zr 74 54 [v0, v1, .null, .int y1] st u P := zr_Is k74_53 ⟨Nat.le_of_ble_eq_true rfl, rfl⟩
theorem k74_54 : xcd 74 54 = oIl 3 55 := rfl
theorem r74_54 : zr 74 54 [v0, v1, v2, .int x3] st u P = zr 74 55 [v0, v1, v2, .int x3] (.int x3 :: st) u P := zr_Il k74_54 rfl
theorem k74_55 : xcd 74 55 = oIf (fun x => decide (0 ≤ x)) 60 58 := rfl
theorem r74_55 : zr 74 55 [v0, v1, v2, v3] (.int y1 :: st) u P = (if 0 ≤ y1 then zr 74 60 [v0, v1, v2, v3] st u P else zr 74 58 [v0, v1, v2, v3] st u P) := zr_If k74_55
theorem k74_58 : xcd 74 58 = oI 0 59 := rfl
theorem r74_58 : zr 74 58 [v0, v1, v2, v3] st u P = zr 74 59 [v0, v1, v2, v3] (.int 0 :: st) u P := zr_I k74_58
theorem k74_59 : xcd 74 59 = oRz 0 := rfl
theorem r74_59 : zr 74 59 [v0, v1, v2, v3] [.int y1] u P = ((y1 = 0 ∨ y1 = 1) ∧ P (some (.int y1)) u) := zr_Rz k74_59
theorem k74_60 : xcd 74 60 = oAl 0 61 := rfl
theorem r74_60 : zr 74 60 [.ref a0, v1, v2, v3] st u P = zr 74 61 [.ref a0, v1, v2, v3] (.ref a0 :: st) u P := zr_Al k74_60 rfl
theorem k74_61 : xcd 74 61 = oGR 7 1 64 := rfl
theorem r74_61 : zr 74 61 [v0, v1, v2, v3] (.ref b1 :: st) u P = (xIs u b1 7 ∧ ∃ b, xR u b1 1 = some b ∧ zr 74 64 [v0, v1, v2, v3] (.ref b :: st) u P) := zr_GR k74_61
theorem k74_64 : xcd 74 64 = oAl 0 65 := rfl
theorem r74_64 : zr 74 64 [.ref a0, v1, v2, v3] st u P = zr 74 65 [.ref a0, v1, v2, v3] (.ref a0 :: st) u P := zr_Al k74_64 rfl
theorem k74_65 : xcd 74 65 = oGR 7 3 68 := rfl
theorem r74_65 : zr 74 65 [v0, v1, v2, v3] (.ref b1 :: st) u P = (xIs u b1 7 ∧ ∃ b, xR u b1 3 = some b ∧ zr 74 68 [v0, v1, v2, v3] (.ref b :: st) u P) := zr_GR k74_65
theorem k74_68 : xcd 74 68 = oGR 3 1 71 := rfl
theorem r74_68 : zr 74 68 [v0, v1, v2, v3] (.ref b1 :: st) u P = (xIs u b1 3 ∧ ∃ b, xR u b1 1 = some b ∧ zr 74 71 [v0, v1, v2, v3] (.ref b :: st) u P) := zr_GR k74_68
theorem k74_71 : xcd 74 71 = oGI 9 0 74 := rfl
theorem r74_71 : zr 74 71 [v0, v1, v2, v3] (.ref b1 :: st) u P = (xIs u b1 9 ∧ zr 74 74 [v0, v1, v2, v3] (.int (xI u b1 0) :: st) u P) := zr_GI k74_71
theorem k74_74 : xcd 74 74 = oJl 1 75 := rfl
theorem r74_74 : zr 74 74 [v0, .long j1, v2, v3] st u P = zr 74 75 [v0, .long j1, v2, v3] (.long j1 :: st) u P := zr_Jl k74_74 rfl
theorem k74_75 : xcd 74 75 = oStJ 76 := rfl
theorem r74_75 : zr 74 75 [v0, v1, v2, v3] (.long w1 :: .int y1 :: .ref b1 :: st) u P = ((xIs u b1 14 ∧ xinb y1 (xN u b1)) ∧ zr 74 76 [v0, v1, v2, v3] st (xsJ u b1 (xix y1) w1) P) := zr_StJ k74_75
theorem k74_76 : xcd 74 76 = oAl 0 77 := rfl
theorem r74_76 : zr 74 76 [.ref a0, v1, v2, v3] st u P = zr 74 77 [.ref a0, v1, v2, v3] (.ref a0 :: st) u P := zr_Al k74_76 rfl
theorem k74_77 : xcd 74 77 = oGR 7 3 80 := rfl
theorem r74_77 : zr 74 77 [v0, v1, v2, v3] (.ref b1 :: st) u P = (xIs u b1 7 ∧ ∃ b, xR u b1 3 = some b ∧ zr 74 80 [v0, v1, v2, v3] (.ref b :: st) u P) := zr_GR k74_77
theorem k74_80 : xcd 74 80 = oGR 3 1 83 := rfl
theorem r74_80 : zr 74 80 [v0, v1, v2, v3] (.ref b1 :: st) u P = (xIs u b1 3 ∧ ∃ b, xR u b1 1 = some b ∧ zr 74 83 [v0, v1, v2, v3] (.ref b :: st) u P) := zr_GR k74_80
theorem k74_83 : xcd 74 83 = oIl 3 84 := rfl
theorem r74_83 : zr 74 83 [v0, v1, v2, .int x3] st u P = zr 74 84 [v0, v1, v2, .int x3] (.int x3 :: st) u P := zr_Il k74_83 rfl
theorem k74_84 : xcd 74 84 = oCalV 9 96 1 87 := rfl
theorem r74_84 : zr 74 84 [v0, v1, v2, v3] (.int y1 :: .ref b8 :: st) u P = ((xIs u b8 9 ∧ xcat st ≤ 8) ∧ zr 96 0 [.ref b8, .int y1] [] u (fun r u2 => zr 74 87 [v0, v1, v2, v3] (r.toList ++ st) u2 P)) := zr_CV k74_84 rfl rfl rfl ⟨Nat.le_of_ble_eq_true rfl, Nat.succ_ne_zero _, by decide⟩ rfl
theorem k74_87 : xcd 74 87 = oI 1 88 := rfl
theorem r74_87 : zr 74 87 [v0, v1, v2, v3] st u P = zr 74 88 [v0, v1, v2, v3] (.int 1 :: st) u P := zr_I k74_87
theorem k74_88 : xcd 74 88 = oRz 0 := rfl
theorem r74_88 : zr 74 88 [v0, v1, v2, v3] [.int y1] u P = ((y1 = 0 ∨ y1 = 1) ∧ P (some (.int y1)) u) := zr_Rz k74_88
theorem k75_0 : xcd 75 0 = oAl 0 1 := rfl
theorem r75_0 : zr 75 0 [.ref a0, v1, v2, v3, v4] st u P = zr 75 1 [.ref a0, v1, v2, v3, v4] (.ref a0 :: st) u P := zr_Al k75_0 rfl
theorem k75_1 : xcd 75 1 = oCalV 7 83 0 4 := rfl
theorem r75_1 : zr 75 1 [v0, v1, v2, v3, v4] (.ref b8 :: st) u P = ((xIs u b8 7 ∧ xcat st ≤ 8) ∧ zr 83 0 [.ref b8, .null, .null] [] u (fun r u2 => zr 75 4 [v0, v1, v2, v3, v4] (r.toList ++ st) u2 P)) := zr_CV k75_1 rfl rfl rfl ⟨Nat.le_of_ble_eq_true rfl, Nat.succ_ne_zero _, by decide⟩ rfl
theorem k75_4 : xcd 75 4 = oJs 1 5 := rfl
theorem r75_4 : zr 75 4 [.ref a0, v1, v2, v3, v4] (.long w1 :: st) u P = zr 75 5 [.ref a0, .long w1, .null, v3, v4] st u P := zr_Js k75_4 ⟨Nat.le_of_ble_eq_true rfl, rfl⟩
theorem k75_5 : xcd 75 5 = oJl 1 6 := rfl
theorem r75_5 : zr 75 5 [v0, .long j1, v2, v3, v4] st u P = zr 75 6 [v0, .long j1, v2, v3, v4] (.long j1 :: st) u P := zr_Jl k75_5 rfl
theorem k75_6 : xcd 75 6 = oJ 0 7 := rfl
theorem r75_6 : zr 75 6 [v0, v1, v2, v3, v4] st u P = zr 75 7 [v0, v1, v2, v3, v4] (.long 0 :: st) u P := zr_J k75_6
theorem k75_7 : xcd 75 7 = oLcmp 8 := rfl
theorem r75_7 : zr 75 7 [v0, v1, v2, v3, v4] (.long w1 :: .long w2 :: st) u P = zr 75 8 [v0, v1, v2, v3, v4] (.int (lg_cmp w2 w1) :: st) u P := zr_Lcmp k75_7
theorem k75_8 : xcd 75 8 = oIf (fun x => decide (x < 0)) 20 11 := rfl
theorem r75_8 : zr 75 8 [v0, v1, v2, v3, v4] (.int y1 :: st) u P = (if y1 < 0 then zr 75 20 [v0, v1, v2, v3, v4] st u P else zr 75 11 [v0, v1, v2, v3, v4] st u P) := zr_If k75_8
theorem k75_11 : xcd 75 11 = oAl 0 12 := rfl
theorem r75_11 : zr 75 11 [.ref a0, v1, v2, v3, v4] st u P = zr 75 12 [.ref a0, v1, v2, v3, v4] (.ref a0 :: st) u P := zr_Al k75_11 rfl
theorem k75_12 : xcd 75 12 = oS 12 14 := rfl
theorem r75_12 : zr 75 12 [v0, v1, v2, v3, v4] st u P = zr 75 14 [v0, v1, v2, v3, v4] (.ref 1000012 :: st) u P := zr_S k75_12
theorem k75_14 : xcd 75 14 = oCalV 7 81 1 17 := rfl
theorem r75_14 : zr 75 14 [v0, v1, v2, v3, v4] (.ref b1 :: .ref b8 :: st) u P = ((xIs u b8 7 ∧ xcat st ≤ 8) ∧ zr 81 0 [.ref b8, .ref b1] [] u (fun r u2 => zr 75 17 [v0, v1, v2, v3, v4] (r.toList ++ st) u2 P)) := zr_CV k75_14 rfl rfl rfl ⟨Nat.le_of_ble_eq_true rfl, Nat.succ_ne_zero _, by decide⟩ rfl
theorem k75_17 : xcd 75 17 = oIf (fun x => decide (¬ x = 0)) 22 20 := rfl
theorem r75_17 : zr 75 17 [v0, v1, v2, v3, v4] (.int y1 :: st) u P = (if ¬ y1 = 0 then zr 75 22 [v0, v1, v2, v3, v4] st u P else zr 75 20 [v0, v1, v2, v3, v4] st u P) := zr_If k75_17
theorem k75_20 : xcd 75 20 = oI 0 21 := rfl
theorem r75_20 : zr 75 20 [v0, v1, v2, v3, v4] st u P = zr 75 21 [v0, v1, v2, v3, v4] (.int 0 :: st) u P := zr_I k75_20
theorem k75_21 : xcd 75 21 = oRz 0 := rfl
theorem r75_21 : zr 75 21 [v0, v1, v2, v3, v4] [.int y1] u P = ((y1 = 0 ∨ y1 = 1) ∧ P (some (.int y1)) u) := zr_Rz k75_21
theorem k75_22 : xcd 75 22 = oAl 0 23 := rfl
theorem r75_22 : zr 75 22 [.ref a0, v1, v2, v3, v4] st u P = zr 75 23 [.ref a0, v1, v2, v3, v4] (.ref a0 :: st) u P := zr_Al k75_22 rfl
theorem k75_23 : xcd 75 23 = oI 0 24 := rfl
theorem r75_23 : zr 75 23 [v0, v1, v2, v3, v4] st u P = zr 75 24 [v0, v1, v2, v3, v4] (.int 0 :: st) u P := zr_I k75_23
theorem k75_24 : xcd 75 24 = oAl 0 25 := rfl
theorem r75_24 : zr 75 24 [.ref a0, v1, v2, v3, v4] st u P = zr 75 25 [.ref a0, v1, v2, v3, v4] (.ref a0 :: st) u P := zr_Al k75_24 rfl
theorem k75_25 : xcd 75 25 = oGR 7 3 28 := rfl
theorem r75_25 : zr 75 25 [v0, v1, v2, v3, v4] (.ref b1 :: st) u P = (xIs u b1 7 ∧ ∃ b, xR u b1 3 = some b ∧ zr 75 28 [v0, v1, v2, v3, v4] (.ref b :: st) u P) := zr_GR k75_25
theorem k75_28 : xcd 75 28 = oGR 3 0 31 := rfl
theorem r75_28 : zr 75 28 [v0, v1, v2, v3, v4] (.ref b1 :: st) u P = (xIs u b1 3 ∧ ∃ b, xR u b1 0 = some b ∧ zr 75 31 [v0, v1, v2, v3, v4] (.ref b :: st) u P) := zr_GR k75_28
theorem k75_31 : xcd 75 31 = oGI 4 1 34 := rfl
theorem r75_31 : zr 75 31 [v0, v1, v2, v3, v4] (.ref b1 :: st) u P = (xIs u b1 4 ∧ zr 75 34 [v0, v1, v2, v3, v4] (.int (xI u b1 1) :: st) u P) := zr_GI k75_31
theorem k75_34 : xcd 75 34 = oI 1 35 := rfl
theorem r75_34 : zr 75 34 [v0, v1, v2, v3, v4] st u P = zr 75 35 [v0, v1, v2, v3, v4] (.int 1 :: st) u P := zr_I k75_34
theorem k75_35 : xcd 75 35 = oB (fun x y => x - y) 36 := rfl
theorem r75_35 : zr 75 35 [v0, v1, v2, v3, v4] (.int y1 :: .int y2 :: st) u P = zr 75 36 [v0, v1, v2, v3, v4] (.int (y2 - y1) :: st) u P := zr_B k75_35
theorem k75_36 : xcd 75 36 = oCalV 7 82 2 39 := rfl
theorem r75_36 : zr 75 36 [v0, v1, v2, v3, v4] (.int y2 :: .int y1 :: .ref b8 :: st) u P = ((xIs u b8 7 ∧ xcat st ≤ 8) ∧ zr 82 0 [.ref b8, .int y1, .int y2, .null] [] u (fun r u2 => zr 75 39 [v0, v1, v2, v3, v4] (r.toList ++ st) u2 P)) := zr_CV k75_36 rfl rfl rfl ⟨Nat.le_of_ble_eq_true rfl, Nat.succ_ne_zero _, by decide⟩ rfl
theorem k75_39 : xcd 75 39 = oIs 3 40 := rfl
theorem r75_39 : zr 75 39 [v0, v1, .null, v3, v4] (.int y1 :: st) u P = zr 75 40 [v0, v1, .null, .int y1, v4] st u P := zr_Is k75_39 ⟨Nat.le_of_ble_eq_true rfl, rfl⟩
theorem k75_40 : xcd 75 40 = oIl 3 41 := rfl
theorem r75_40 : zr 75 40 [v0, v1, v2, .int x3, v4] st u P = zr 75 41 [v0, v1, v2, .int x3, v4] (.int x3 :: st) u P := zr_Il k75_40 rfl
theorem k75_41 : xcd 75 41 = oIf (fun x => decide (0 ≤ x)) 46 44 := rfl
theorem r75_41 : zr 75 41 [v0, v1, v2, v3, v4] (.int y1 :: st) u P = (if 0 ≤ y1 then zr 75 46 [v0, v1, v2, v3, v4] st u P else zr 75 44 [v0, v1, v2, v3, v4] st u P) := zr_If k75_41
theorem k75_44 : xcd 75 44 = oI 0 45 := rfl
theorem r75_44 : zr 75 44 [v0, v1, v2, v3, v4] st u P = zr 75 45 [v0, v1, v2, v3, v4] (.int 0 :: st) u P := zr_I k75_44
theorem k75_45 : xcd 75 45 = oRz 0 := rfl
theorem r75_45 : zr 75 45 [v0, v1, v2, v3, v4] [.int y1] u P = ((y1 = 0 ∨ y1 = 1) ∧ P (some (.int y1)) u) := zr_Rz k75_45
theorem k75_46 : xcd 75 46 = oAl 0 47 := rfl
theorem r75_46 : zr 75 46 [.ref a0, v1, v2, v3, v4] st u P = zr 75 47 [.ref a0, v1, v2, v3, v4] (.ref a0 :: st) u P := zr_Al k75_46 rfl
theorem k75_47 : xcd 75 47 = oGR 7 0 50 := rfl
theorem r75_47 : zr 75 47 [v0, v1, v2, v3, v4] (.ref b1 :: st) u P = (xIs u b1 7 ∧ ∃ b, xR u b1 0 = some b ∧ zr 75 50 [v0, v1, v2, v3, v4] (.ref b :: st) u P) := zr_GR k75_47
theorem k75_50 : xcd 75 50 = oS 8 52 := rfl
theorem r75_50 : zr 75 50 [v0, v1, v2, v3, v4] st u P = zr 75 52 [v0, v1, v2, v3, v4] (.ref 1000008 :: st) u P := zr_S k75_50
theorem k75_52 : xcd 75 52 = oCalV 8 92 1 55 := rfl
theorem r75_52 : zr 75 52 [v0, v1, v2, v3, v4] (.ref b1 :: .ref b8 :: st) u P = ((xIs u b8 8 ∧ xcat st ≤ 8) ∧ zr 92 0 [.ref b8, .ref b1, .null] [] u (fun r u2 => zr 75 55 [v0, v1, v2, v3, v4] (r.toList ++ st) u2 P)) := zr_CV k75_52 rfl rfl rfl ⟨Nat.le_of_ble_eq_true rfl, Nat.succ_ne_zero _, by decide⟩ rfl
theorem k75_55 : xcd 75 55 = oIs 4 57 := rfl
theorem r75_55 : zr 75 55 [v0, v1, v2, .int x3, v4] (.int y1 :: st) u P = zr 75 57 [v0, v1, v2, .int x3, .int y1] st u P := zr_Is k75_55 ⟨Nat.le_of_ble_eq_true rfl, rfl⟩
theorem k75_57 : xcd 75 57 = oIl 4 59 := rfl
theorem r75_57 : zr 75 57 [v0, v1, v2, v3, .int x4] st u P = zr 75 59 [v0, v1, v2, v3, .int x4] (.int x4 :: st) u P := zr_Il k75_57 rfl
theorem k75_59 : xcd 75 59 = oIf (fun x => decide (x = 0)) 69 62 := rfl
theorem r75_59 : zr 75 59 [v0, v1, v2, v3, v4] (.int y1 :: st) u P = (if y1 = 0 then zr 75 69 [v0, v1, v2, v3, v4] st u P else zr 75 62 [v0, v1, v2, v3, v4] st u P) := zr_If k75_59
theorem k75_62 : xcd 75 62 = oAl 0 63 := rfl
theorem r75_62 : zr 75 62 [.ref a0, v1, v2, v3, v4] st u P = zr 75 63 [.ref a0, v1, v2, v3, v4] (.ref a0 :: st) u P := zr_Al k75_62 rfl
theorem k75_63 : xcd 75 63 = oGR 7 0 66 := rfl
theorem r75_63 : zr 75 63 [v0, v1, v2, v3, v4] (.ref b1 :: st) u P = (xIs u b1 7 ∧ ∃ b, xR u b1 0 = some b ∧ zr 75 66 [v0, v1, v2, v3, v4] (.ref b :: st) u P) := zr_GR k75_63
theorem k75_66 : xcd 75 66 = oCalV 8 89 0 69 := rfl
theorem r75_66 : zr 75 66 [v0, v1, v2, v3, v4] (.ref b8 :: st) u P = ((xIs u b8 8 ∧ xcat st ≤ 8) ∧ zr 89 0 [.ref b8] [] u (fun r u2 => zr 75 69 [v0, v1, v2, v3, v4] (r.toList ++ st) u2 P)) := zr_CV k75_66 rfl rfl rfl ⟨Nat.le_of_ble_eq_true rfl, Nat.succ_ne_zero _, by decide⟩ rfl
theorem k75_69 : xcd 75 69 = oAl 0 70 := rfl
theorem r75_69 : zr 75 69 [.ref a0, v1, v2, v3, v4] st u P = zr 75 70 [.ref a0, v1, v2, v3, v4] (.ref a0 :: st) u P := zr_Al k75_69 rfl
theorem k75_70 : xcd 75 70 = oGR 7 2 73 := rfl
theorem r75_70 : zr 75 70 [v0, v1, v2, v3, v4] (.ref b1 :: st) u P = (xIs u b1 7 ∧ ∃ b, xR u b1 2 = some b ∧ zr 75 73 [v0, v1, v2, v3, v4] (.ref b :: st) u P) := zr_GR k75_70
theorem k75_73 : xcd 75 73 = oAl 0 74 := rfl
theorem r75_73 : zr 75 73 [.ref a0, v1, v2, v3, v4] st u P = zr 75 74 [.ref a0, v1, v2, v3, v4] (.ref a0 :: st) u P := zr_Al k75_73 rfl
theorem k75_74 : xcd 75 74 = oGR 7 3 77 := rfl
theorem r75_74 : zr 75 74 [v0, v1, v2, v3, v4] (.ref b1 :: st) u P = (xIs u b1 7 ∧ ∃ b, xR u b1 3 = some b ∧ zr 75 77 [v0, v1, v2, v3, v4] (.ref b :: st) u P) := zr_GR k75_74
theorem k75_77 : xcd 75 77 = oGR 3 0 80 := rfl
theorem r75_77 : zr 75 77 [v0, v1, v2, v3, v4] (.ref b1 :: st) u P = (xIs u b1 3 ∧ ∃ b, xR u b1 0 = some b ∧ zr 75 80 [v0, v1, v2, v3, v4] (.ref b :: st) u P) := zr_GR k75_77
theorem k75_80 : xcd 75 80 = oGI 4 2 83 := rfl
theorem r75_80 : zr 75 80 [v0, v1, v2, v3, v4] (.ref b1 :: st) u P = (xIs u b1 4 ∧ zr 75 83 [v0, v1, v2, v3, v4] (.int (xI u b1 2) :: st) u P) := zr_GI k75_80
theorem k75_83 : xcd 75 83 = oJl 1 84 := rfl
theorem r75_83 : zr 75 83 [v0, .long j1, v2, v3, v4] st u P = zr 75 84 [v0, .long j1, v2, v3, v4] (.long j1 :: st) u P := zr_Jl k75_83 rfl
theorem k75_84 : xcd 75 84 = oStJ 85 := rfl
theorem r75_84 : zr 75 84 [v0, v1, v2, v3, v4] (.long w1 :: .int y1 :: .ref b1 :: st) u P = ((xIs u b1 14 ∧ xinb y1 (xN u b1)) ∧ zr 75 85 [v0, v1, v2, v3, v4] st (xsJ u b1 (xix y1) w1) P) := zr_StJ k75_84
theorem k75_85 : xcd 75 85 = oAl 0 86 := rfl
theorem r75_85 : zr 75 85 [.ref a0, v1, v2, v3, v4] st u P = zr 75 86 [.ref a0, v1, v2, v3, v4] (.ref a0 :: st) u P := zr_Al k75_85 rfl
theorem k75_86 : xcd 75 86 = oGR 7 3 89 := rfl
theorem r75_86 : zr 75 86 [v0, v1, v2, v3, v4] (.ref b1 :: st) u P = (xIs u b1 7 ∧ ∃ b, xR u b1 3 = some b ∧ zr 75 89 [v0, v1, v2, v3, v4] (.ref b :: st) u P) := zr_GR k75_86
theorem k75_89 : xcd 75 89 = oGR 3 0 92 := rfl
theorem r75_89 : zr 75 89 [v0, v1, v2, v3, v4] (.ref b1 :: st) u P = (xIs u b1 3 ∧ ∃ b, xR u b1 0 = some b ∧ zr 75 92 [v0, v1, v2, v3, v4] (.ref b :: st) u P) := zr_GR k75_89
theorem k75_92 : xcd 75 92 = oIl 3 93 := rfl
theorem r75_92 : zr 75 92 [v0, v1, v2, .int x3, v4] st u P = zr 75 93 [v0, v1, v2, .int x3, v4] (.int x3 :: st) u P := zr_Il k75_92 rfl
theorem k75_93 : xcd 75 93 = oIl 4 95 := rfl
theorem r75_93 : zr 75 93 [v0, v1, v2, v3, .int x4] st u P = zr 75 95 [v0, v1, v2, v3, .int x4] (.int x4 :: st) u P := zr_Il k75_93 rfl
theorem k75_95 : xcd 75 95 = oCalV 4 44 2 98 := rfl
theorem r75_95 : zr 75 95 [v0, v1, v2, v3, v4] (.int y2 :: .int y1 :: .ref b8 :: st) u P = ((xIs u b8 4 ∧ xcat st ≤ 8) ∧ zr 44 0 [.ref b8, .int y1, .int y2] [] u (fun r u2 => zr 75 98 [v0, v1, v2, v3, v4] (r.toList ++ st) u2 P)) := zr_CV k75_95 rfl rfl rfl ⟨Nat.le_of_ble_eq_true rfl, Nat.succ_ne_zero _, by decide⟩ rfl
theorem k75_98 : xcd 75 98 = oI 1 99 := rfl
theorem r75_98 : zr 75 98 [v0, v1, v2, v3, v4] st u P = zr 75 99 [v0, v1, v2, v3, v4] (.int 1 :: st) u P := zr_I k75_98
theorem k75_99 : xcd 75 99 = oRz 0 := rfl
theorem r75_99 : zr 75 99 [v0, v1, v2, v3, v4] [.int y1] u P = ((y1 = 0 ∨ y1 = 1) ∧ P (some (.int y1)) u) := zr_Rz k75_99
theorem k76_0 : xcd 76 0 = oAl 0 1 := rfl
theorem r76_0 : zr 76 0 [.ref a0, v1, v2, v3, v4] st u P = zr 76 1 [.ref a0, v1, v2, v3, v4] (.ref a0 :: st) u P := zr_Al k76_0 rfl
theorem k76_1 : xcd 76 1 = oGR 7 3 4 := rfl
theorem r76_1 : zr 76 1 [v0, v1, v2, v3, v4] (.ref b1 :: st) u P = (xIs u b1 7 ∧ ∃ b, xR u b1 3 = some b ∧ zr 76 4 [v0, v1, v2, v3, v4] (.ref b :: st) u P) := zr_GR k76_1
theorem k76_4 : xcd 76 4 = oGR 3 0 7 := rfl
theorem r76_4 : zr 76 4 [v0, v1, v2, v3, v4] (.ref b1 :: st) u P = (xIs u b1 3 ∧ ∃ b, xR u b1 0 = some b ∧ zr 76 7 [v0, v1, v2, v3, v4] (.ref b :: st) u P) := zr_GR k76_4
theorem k76_7 : xcd 76 7 = oGR 4 5 10 := rfl
theorem r76_7 : zr 76 7 [v0, v1, v2, v3, v4] (.ref b1 :: st) u P = (xIs u b1 4 ∧ ∃ b, xR u b1 5 = some b ∧ zr 76 10 [v0, v1, v2, v3, v4] (.ref b :: st) u P) := zr_GR k76_7
theorem k76_10 : xcd 76 10 = oAs 1 11 := rfl
theorem r76_10 : zr 76 10 [.ref a0, v1, v2, v3, v4] (.ref b1 :: st) u P = zr 76 11 [.ref a0, .ref b1, v2, v3, v4] st u P := zr_As k76_10 ⟨Nat.le_of_ble_eq_true rfl, rfl⟩
theorem k76_11 : xcd 76 11 = oAl 0 12 := rfl
theorem r76_11 : zr 76 11 [.ref a0, v1, v2, v3, v4] st u P = zr 76 12 [.ref a0, v1, v2, v3, v4] (.ref a0 :: st) u P := zr_Al k76_11 rfl
theorem k76_12 : xcd 76 12 = oAl 0 13 := rfl
theorem r76_12 : zr 76 12 [.ref a0, v1, v2, v3, v4] st u P = zr 76 13 [.ref a0, v1, v2, v3, v4] (.ref a0 :: st) u P := zr_Al k76_12 rfl
theorem k76_13 : xcd 76 13 = oGR 7 2 16 := rfl
theorem r76_13 : zr 76 13 [v0, v1, v2, v3, v4] (.ref b1 :: st) u P = (xIs u b1 7 ∧ ∃ b, xR u b1 2 = some b ∧ zr 76 16 [v0, v1, v2, v3, v4] (.ref b :: st) u P) := zr_GR k76_13
theorem k76_16 : xcd 76 16 = oAl 0 17 := rfl
theorem r76_16 : zr 76 16 [.ref a0, v1, v2, v3, v4] st u P = zr 76 17 [.ref a0, v1, v2, v3, v4] (.ref a0 :: st) u P := zr_Al k76_16 rfl
theorem k76_17 : xcd 76 17 = oGR 7 3 20 := rfl
theorem r76_17 : zr 76 17 [v0, v1, v2, v3, v4] (.ref b1 :: st) u P = (xIs u b1 7 ∧ ∃ b, xR u b1 3 = some b ∧ zr 76 20 [v0, v1, v2, v3, v4] (.ref b :: st) u P) := zr_GR k76_17
theorem k76_20 : xcd 76 20 = oGR 3 0 23 := rfl
theorem r76_20 : zr 76 20 [v0, v1, v2, v3, v4] (.ref b1 :: st) u P = (xIs u b1 3 ∧ ∃ b, xR u b1 0 = some b ∧ zr 76 23 [v0, v1, v2, v3, v4] (.ref b :: st) u P) := zr_GR k76_20
theorem k76_23 : xcd 76 23 = oGI 4 2 26 := rfl
theorem r76_23 : zr 76 23 [v0, v1, v2, v3, v4] (.ref b1 :: st) u P = (xIs u b1 4 ∧ zr 76 26 [v0, v1, v2, v3, v4] (.int (xI u b1 2) :: st) u P) := zr_GI k76_23
theorem k76_26 : xcd 76 26 = oCalV 7 84 2 29 := rfl
theorem r76_26 : zr 76 26 [v0, v1, v2, v3, v4] (.int y2 :: .ref b1 :: .ref b8 :: st) u P = ((xIs u b8 7 ∧ xcat st ≤ 8) ∧ zr 84 0 [.ref b8, .ref b1, .int y2, .null] [] u (fun r u2 => zr 76 29 [v0, v1, v2, v3, v4] (r.toList ++ st) u2 P)) := zr_CV k76_26 rfl rfl rfl ⟨Nat.le_of_ble_eq_true rfl, Nat.succ_ne_zero _, by decide⟩ rfl
theorem k76_29 : xcd 76 29 = oIs 2 30 := rfl
theorem r76_29 : zr 76 29 [v0, .ref a1, v2, v3, v4] (.int y1 :: st) u P = zr 76 30 [v0, .ref a1, .int y1, v3, v4] st u P := zr_Is k76_29 ⟨Nat.le_of_ble_eq_true rfl, rfl⟩
theorem k76_30 : xcd 76 30 = oIl 2 31 := rfl
theorem r76_30 : zr 76 30 [v0, v1, .int x2, v3, v4] st u P = zr 76 31 [v0, v1, .int x2, v3, v4] (.int x2 :: st) u P := zr_Il k76_30 rfl
theorem k76_31 : xcd 76 31 = oIf (fun x => decide (0 ≤ x)) 36 34 := rfl
theorem r76_31 : zr 76 31 [v0, v1, v2, v3, v4] (.int y1 :: st) u P = (if 0 ≤ y1 then zr 76 36 [v0, v1, v2, v3, v4] st u P else zr 76 34 [v0, v1, v2, v3, v4] st u P) := zr_If k76_31
theorem k76_34 : xcd 76 34 = oI 0 35 := rfl
theorem r76_34 : zr 76 34 [v0, v1, v2, v3, v4] st u P = zr 76 35 [v0, v1, v2, v3, v4] (.int 0 :: st) u P := zr_I k76_34
theorem k76_35 : xcd 76 35 = oRz 0 := rfl
theorem r76_35 : zr 76 35 [v0, v1, v2, v3, v4] [.int y1] u P = ((y1 = 0 ∨ y1 = 1) ∧ P (some (.int y1)) u) := zr_Rz k76_35
theorem k76_36 : xcd 76 36 = oAl 0 37 := rfl
theorem r76_36 : zr 76 36 [.ref a0, v1, v2, v3, v4] st u P = zr 76 37 [.ref a0, v1, v2, v3, v4] (.ref a0 :: st) u P := zr_Al k76_36 rfl
theorem k76_37 : xcd 76 37 = oAl 1 38 := rfl
theorem r76_37 : zr 76 37 [v0, .ref a1, v2, v3, v4] st u P = zr 76 38 [v0, .ref a1, v2, v3, v4] (.ref a1 :: st) u P := zr_Al k76_37 rfl
theorem k76_38 : xcd 76 38 = oIl 2 39 := rfl
theorem r76_38 : zr 76 38 [v0, v1, .int x2, v3, v4] st u P = zr 76 39 [v0, v1, .int x2, v3, v4] (.int x2 :: st) u P := zr_Il k76_38 rfl
theorem k76_39 : xcd 76 39 = oCalV 2 20 1 42 := rfl
theorem r76_39 : zr 76 39 [v0, v1, v2, v3, v4] (.int y1 :: .ref b8 :: st) u P = ((xIs u b8 2 ∧ xcat st ≤ 8) ∧ zr 20 0 [.ref b8, .int y1, .null] [] u (fun r u2 => zr 76 42 [v0, v1, v2, v3, v4] (r.toList ++ st) u2 P)) := zr_CV k76_39 rfl rfl rfl ⟨Nat.le_of_ble_eq_true rfl, Nat.succ_ne_zero _, by decide⟩ rfl
theorem k76_42 : xcd 76 42 = oI 999 45 := rfl
theorem r76_42 : zr 76 42 [v0, v1, v2, v3, v4] st u P = zr 76 45 [v0, v1, v2, v3, v4] (.int 999 :: st) u P := zr_I k76_42
theorem k76_45 : xcd 76 45 = oCalV 7 82 2 48 := rfl
theorem r76_45 : zr 76 45 [v0, v1, v2, v3, v4] (.int y2 :: .int y1 :: .ref b8 :: st) u P = ((xIs u b8 7 ∧ xcat st ≤ 8) ∧ zr 82 0 [.ref b8, .int y1, .int y2, .null] [] u (fun r u2 => zr 76 48 [v0, v1, v2, v3, v4] (r.toList ++ st) u2 P)) := zr_CV k76_45 rfl rfl rfl ⟨Nat.le_of_ble_eq_true rfl, Nat.succ_ne_zero _, by decide⟩ rfl
theorem k76_48 : xcd 76 48 = oIs 3 49 := rfl
theorem r76_48 : zr 76 48 [v0, v1, .int x2, v3, v4] (.int y1 :: st) u P = zr 76 49 [v0, v1, .int x2, .int y1, v4] st u P := zr_Is k76_48 ⟨Nat.le_of_ble_eq_true rfl, rfl⟩
theorem k76_49 : xcd 76 49 = oIl 3 50 := rfl
theorem r76_49 : zr 76 49 [v0, v1, v2, .int x3, v4] st u P = zr 76 50 [v0, v1, v2, .int x3, v4] (.int x3 :: st) u P := zr_Il k76_49 rfl
theorem k76_50 : xcd 76 50 = oIf (fun x => decide (0 ≤ x)) 55 53 := rfl
theorem r76_50 : zr 76 50 [v0, v1, v2, v3, v4] (.int y1 :: st) u P = (if 0 ≤ y1 then zr 76 55 [v0, v1, v2, v3, v4] st u P else zr 76 53 [v0, v1, v2, v3, v4] st u P) := zr_If k76_50
theorem k76_53 : xcd 76 53 = oI 0 54 := rfl
theorem r76_53 : zr 76 53 [v0, v1, v2, v3, v4] st u P = zr 76 54 [v0, v1, v2, v3, v4] (.int 0 :: st) u P := zr_I k76_53
theorem k76_54 : xcd 76 54 = oRz 0 := rfl
theorem r76_54 : zr 76 54 [v0, v1, v2, v3, v4] [.int y1] u P = ((y1 = 0 ∨ y1 = 1) ∧ P (some (.int y1)) u) := zr_Rz k76_54
theorem k76_55 : xcd 76 55 = oI 0 56 := rfl
theorem r76_55 : zr 76 55 [v0, v1, v2, v3, v4] st u P = zr 76 56 [v0, v1, v2, v3, v4] (.int 0 :: st) u P := zr_I k76_55
theorem k76_56 : xcd 76 56 = oIs 4 58 := rfl
theorem r76_56 : zr 76 56 [v0, v1, v2, .int x3, v4] (.int y1 :: st) u P = zr 76 58 [v0, v1, v2, .int x3, .int y1] st u P := zr_Is k76_56 ⟨Nat.le_of_ble_eq_true rfl, rfl⟩
theorem k76_58 : xcd 76 58 = oAl 0 59 := rfl
theorem r76_58 : zr 76 58 [.ref a0, v1, v2, v3, v4] st u P = zr 76 59 [.ref a0, v1, v2, v3, v4] (.ref a0 :: st) u P := zr_Al k76_58 rfl
theorem k76_59 : xcd 76 59 = oGR 7 0 62 := rfl
theorem r76_59 : zr 76 59 [v0, v1, v2, v3, v4] (.ref b1 :: st) u P = (xIs u b1 7 ∧ ∃ b, xR u b1 0 = some b ∧ zr 76 62 [v0, v1, v2, v3, v4] (.ref b :: st) u P) := zr_GR k76_59
theorem k76_62 : xcd 76 62 = oS 9 64 := rfl
theorem r76_62 : zr 76 62 [v0, v1, v2, v3, v4] st u P = zr 76 64 [v0, v1, v2, v3, v4] (.ref 1000009 :: st) u P := zr_S k76_62
theorem k76_64 : xcd 76 64 = oCalV 8 92 1 67 := rfl
theorem r76_64 : zr 76 64 [v0, v1, v2, v3, v4] (.ref b1 :: .ref b8 :: st) u P = ((xIs u b8 8 ∧ xcat st ≤ 8) ∧ zr 92 0 [.ref b8, .ref b1, .null] [] u (fun r u2 => zr 76 67 [v0, v1, v2, v3, v4] (r.toList ++ st) u2 P)) := zr_CV k76_64 rfl rfl rfl ⟨Nat.le_of_ble_eq_true rfl, Nat.succ_ne_zero _, by decide⟩ rfl
theorem k76_67 : xcd 76 67 = oIf (fun x => decide (x = 0)) 80 70 := rfl
theorem r76_67 : zr 76 67 [v0, v1, v2, v3, v4] (.int y1 :: st) u P = (if y1 = 0 then zr 76 80 [v0, v1, v2, v3, v4] st u P else zr 76 70 [v0, v1, v2, v3, v4] st u P) := zr_If k76_67
theorem k76_70 : xcd 76 70 = oAl 0 71 := rfl
theorem r76_70 : zr 76 70 [.ref a0, v1, v2, v3, v4] st u P = zr 76 71 [.ref a0, v1, v2, v3, v4] (.ref a0 :: st) u P := zr_Al k76_70 rfl
theorem k76_71 : xcd 76 71 = oGR 7 0 74 := rfl
theorem r76_71 : zr 76 71 [v0, v1, v2, v3, v4] (.ref b1 :: st) u P = (xIs u b1 7 ∧ ∃ b, xR u b1 0 = some b ∧ zr 76 74 [v0, v1, v2, v3, v4] (.ref b :: st) u P) := zr_GR k76_71
theorem k76_74 : xcd 76 74 = oCalV 8 89 0 77 := rfl
theorem r76_74 : zr 76 74 [v0, v1, v2, v3, v4] (.ref b8 :: st) u P = ((xIs u b8 8 ∧ xcat st ≤ 8) ∧ zr 89 0 [.ref b8] [] u (fun r u2 => zr 76 77 [v0, v1, v2, v3, v4] (r.toList ++ st) u2 P)) := zr_CV k76_74 rfl rfl rfl ⟨Nat.le_of_ble_eq_true rfl, Nat.succ_ne_zero _, by decide⟩ rfl
theorem k76_77 : xcd 76 77 = oGoto 87 := rfl
theorem r76_77 : zr 76 77 [v0, v1, v2, v3, v4] st u P = zr 76 87 [v0, v1, v2, v3, v4] st u P := zr_Goto k76_77
theorem k76_80 : xcd 76 80 = oAl 0 81 := rfl
theorem r76_80 : zr 76 80 [.ref a0, v1, v2, v3, v4] st u P = zr 76 81 [.ref a0, v1, v2, v3, v4] (.ref a0 :: st) u P := zr_Al k76_80 rfl
theorem k76_81 : xcd 76 81 = oAl 1 82 := rfl
theorem r76_81 : zr 76 81 [v0, .ref a1, v2, v3, v4] st u P = zr 76 82 [v0, .ref a1, v2, v3, v4] (.ref a1 :: st) u P := zr_Al k76_81 rfl
theorem k76_82 : xcd 76 82 = oCalV 7 77 1 85 := rfl
theorem r76_82 : zr 76 82 [v0, v1, v2, v3, v4] (.ref b1 :: .ref b8 :: st) u P = ((xIs u b8 7 ∧ xcat st ≤ 8) ∧ zr 77 0 [.ref b8, .ref b1, .null, .null, .null] [] u (fun r u2 => zr 76 85 [v0, v1, v2, v3, v4] (r.toList ++ st) u2 P)) := zr_CV k76_82 rfl rfl rfl ⟨Nat.le_of_ble_eq_true rfl, Nat.succ_ne_zero _, by decide⟩ rfl
theorem k76_85 : xcd 76 85 = oIs 4 87 := rfl
theorem r76_85 : zr 76 85 [v0, v1, v2, .int x3, v4] (.int y1 :: st) u P = zr 76 87 [v0, v1, v2, .int x3, .int y1] st u P := zr_Is k76_85 ⟨Nat.le_of_ble_eq_true rfl, rfl⟩
theorem k76_87 : xcd 76 87 = oIl 4 89 := rfl
theorem r76_87 : zr 76 87 [v0, v1, v2, v3, .int x4] st u P = zr 76 89 [v0, v1, v2, v3, .int x4] (.int x4 :: st) u P := zr_Il k76_87 rfl
theorem k76_89 : xcd 76 89 = oIf (fun x => decide (0 ≤ x)) 94 92 := rfl
theorem r76_89 : zr 76 89 [v0, v1, v2, v3, v4] (.int y1 :: st) u P = (if 0 ≤ y1 then zr 76 94 [v0, v1, v2, v3, v4] st u P else zr 76 92 [v0, v1, v2, v3, v4] st u P) := zr_If k76_89
theorem k76_92 : xcd 76 92 = oI 0 93 := rfl
theorem r76_92 : zr 76 92 [v0, v1, v2, v3, v4] st u P = zr 76 93 [v0, v1, v2, v3, v4] (.int 0 :: st) u P := zr_I k76_92
theorem k76_93 : xcd 76 93 = oRz 0 := rfl
theorem r76_93 : zr 76 93 [v0, v1, v2, v3, v4] [.int y1] u P = ((y1 = 0 ∨ y1 = 1) ∧ P (some (.int y1)) u) := zr_Rz k76_93
theorem k76_94 : xcd 76 94 = oAl 1 95 := rfl
theorem r76_94 : zr 76 94 [v0, .ref a1, v2, v3, v4] st u P = zr 76 95 [v0, .ref a1, v2, v3, v4] (.ref a1 :: st) u P := zr_Al k76_94 rfl
theorem k76_95 : xcd 76 95 = oIl 2 96 := rfl
theorem r76_95 : zr 76 95 [v0, v1, .int x2, v3, v4] st u P = zr 76 96 [v0, v1, .int x2, v3, v4] (.int x2 :: st) u P := zr_Il k76_95 rfl
theorem k76_96 : xcd 76 96 = oIl 3 97 := rfl
theorem r76_96 : zr 76 96 [v0, v1, v2, .int x3, v4] st u P = zr 76 97 [v0, v1, v2, .int x3, v4] (.int x3 :: st) u P := zr_Il k76_96 rfl
theorem k76_97 : xcd 76 97 = oIl 4 99 := rfl
theorem r76_97 : zr 76 97 [v0, v1, v2, v3, .int x4] st u P = zr 76 99 [v0, v1, v2, v3, .int x4] (.int x4 :: st) u P := zr_Il k76_97 rfl
theorem k76_99 : xcd 76 99 = oCalV 2 32 3 102 := rfl
theorem r76_99 : zr 76 99 [v0, v1, v2, v3, v4] (.int y3 :: .int y2 :: .int y1 :: .ref b8 :: st) u P = ((xIs u b8 2 ∧ xcat st ≤ 8) ∧ zr 32 0 [.ref b8, .int y1, .int y2, .int y3] [] u (fun r u2 => zr 76 102 [v0, v1, v2, v3, v4] (r.toList ++ st) u2 P)) := zr_CV k76_99 rfl rfl rfl ⟨Nat.le_of_ble_eq_true rfl, Nat.succ_ne_zero _, by decide⟩ rfl
theorem k76_102 : xcd 76 102 = oI 1 103 := rfl
theorem r76_102 : zr 76 102 [v0, v1, v2, v3, v4] st u P = zr 76 103 [v0, v1, v2, v3, v4] (.int 1 :: st) u P := zr_I k76_102
theorem k76_103 : xcd 76 103 = oRz 0 := rfl
theorem r76_103 : zr 76 103 [v0, v1, v2, v3, v4] [.int y1] u P = ((y1 = 0 ∨ y1 = 1) ∧ P (some (.int y1)) u) := zr_Rz k76_103
theorem k77_0 : xcd 77 0 = oI 0 1 := rfl
theorem r77_0 : zr 77 0 [v0, v1, v2, v3, v4] st u P = zr 77 1 [v0, v1, v2, v3, v4] (.int 0 :: st) u P := zr_I k77_0
theorem k77_1 : xcd 77 1 = oIs 2 2 := rfl
theorem r77_1 : zr 77 1 [v0, .ref a1, v2, v3, v4] (.int y1 :: st) u P = zr 77 2 [v0, .ref a1, .int y1, v3, v4] st u P := zr_Is k77_1 ⟨Nat.le_of_ble_eq_true rfl, rfl⟩
theorem k77_2 : xcd 77 2 = oIl 2 3 := rfl
theorem r77_2 : zr 77 2 [v0, v1, .int x2, v3, v4] st u P = zr 77 3 [v0, v1, .int x2, v3, v4] (.int x2 :: st) u P := zr_Il k77_2 rfl
theorem k77_3 : xcd 77 3 = oI 6 5 := rfl
theorem r77_3 : zr 77 3 [v0, v1, v2, v3, v4] st u P = zr 77 5 [v0, v1, v2, v3, v4] (.int 6 :: st) u P := zr_I k77_3
theorem k77_5 : xcd 77 5 = oCmp (fun x y => decide (y ≤ x)) 84 8 := rfl
theorem r77_5 : zr 77 5 [v0, v1, v2, v3, v4] (.int y1 :: .int y2 :: st) u P = (if y1 ≤ y2 then zr 77 84 [v0, v1, v2, v3, v4] st u P else zr 77 8 [v0, v1, v2, v3, v4] st u P) := zr_Cmp k77_5
theorem k77_8 : xcd 77 8 = oIl 2 9 := rfl
theorem r77_8 : zr 77 8 [v0, v1, .int x2, v3, v4] st u P = zr 77 9 [v0, v1, .int x2, v3, v4] (.int x2 :: st) u P := zr_Il k77_8 rfl
theorem k77_9 : xcd 77 9 = oI 3 10 := rfl
theorem r77_9 : zr 77 9 [v0, v1, v2, v3, v4] st u P = zr 77 10 [v0, v1, v2, v3, v4] (.int 3 :: st) u P := zr_I k77_9
theorem k77_10 : xcd 77 10 = oCmp (fun x y => decide (x < y)) 24 13 := rfl
theorem r77_10 : zr 77 10 [v0, v1, v2, v3, v4] (.int y1 :: .int y2 :: st) u P = (if y2 < y1 then zr 77 24 [v0, v1, v2, v3, v4] st u P else zr 77 13 [v0, v1, v2, v3, v4] st u P) := zr_Cmp k77_10
theorem k77_13 : xcd 77 13 = oAl 0 14 := rfl
theorem r77_13 : zr 77 13 [.ref a0, v1, v2, v3, v4] st u P = zr 77 14 [.ref a0, v1, v2, v3, v4] (.ref a0 :: st) u P := zr_Al k77_13 rfl
theorem k77_14 : xcd 77 14 = oGR 7 0 17 := rfl
theorem r77_14 : zr 77 14 [v0, v1, v2, v3, v4] (.ref b1 :: st) u P = (xIs u b1 7 ∧ ∃ b, xR u b1 0 = some b ∧ zr 77 17 [v0, v1, v2, v3, v4] (.ref b :: st) u P) := zr_GR k77_14
theorem k77_17 : xcd 77 17 = oGI 8 5 20 := rfl
theorem r77_17 : zr 77 17 [v0, v1, v2, v3, v4] (.ref b1 :: st) u P = (xIs u b1 8 ∧ zr 77 20 [v0, v1, v2, v3, v4] (.int (xI u b1 5) :: st) u P) := zr_GI k77_17
theorem k77_20 : xcd 77 20 = oI 2 21 := rfl
theorem r77_20 : zr 77 20 [v0, v1, v2, v3, v4] st u P = zr 77 21 [v0, v1, v2, v3, v4] (.int 2 :: st) u P := zr_I k77_20
theorem k77_21 : xcd 77 21 = oCmp (fun x y => decide (¬ x = y)) 84 24 := rfl
theorem r77_21 : zr 77 21 [v0, v1, v2, v3, v4] (.int y1 :: .int y2 :: st) u P = (if ¬ y2 = y1 then zr 77 84 [v0, v1, v2, v3, v4] st u P else zr 77 24 [v0, v1, v2, v3, v4] st u P) := zr_Cmp k77_21
theorem k77_24 : xcd 77 24 = oAl 0 25 := rfl
theorem r77_24 : zr 77 24 [.ref a0, v1, v2, v3, v4] st u P = zr 77 25 [.ref a0, v1, v2, v3, v4] (.ref a0 :: st) u P := zr_Al k77_24 rfl
theorem k77_25 : xcd 77 25 = oI 0 26 := rfl
theorem r77_25 : zr 77 25 [v0, v1, v2, v3, v4] st u P = zr 77 26 [v0, v1, v2, v3, v4] (.int 0 :: st) u P := zr_I k77_25
theorem k77_26 : xcd 77 26 = oAl 0 27 := rfl
theorem r77_26 : zr 77 26 [.ref a0, v1, v2, v3, v4] st u P = zr 77 27 [.ref a0, v1, v2, v3, v4] (.ref a0 :: st) u P := zr_Al k77_26 rfl
theorem k77_27 : xcd 77 27 = oGR 7 3 30 := rfl
theorem r77_27 : zr 77 27 [v0, v1, v2, v3, v4] (.ref b1 :: st) u P = (xIs u b1 7 ∧ ∃ b, xR u b1 3 = some b ∧ zr 77 30 [v0, v1, v2, v3, v4] (.ref b :: st) u P) := zr_GR k77_27
theorem k77_30 : xcd 77 30 = oGR 3 0 33 := rfl
theorem r77_30 : zr 77 30 [v0, v1, v2, v3, v4] (.ref b1 :: st) u P = (xIs u b1 3 ∧ ∃ b, xR u b1 0 = some b ∧ zr 77 33 [v0, v1, v2, v3, v4] (.ref b :: st) u P) := zr_GR k77_30
theorem k77_33 : xcd 77 33 = oGI 4 0 36 := rfl
theorem r77_33 : zr 77 33 [v0, v1, v2, v3, v4] (.ref b1 :: st) u P = (xIs u b1 4 ∧ zr 77 36 [v0, v1, v2, v3, v4] (.int (xI u b1 0) :: st) u P) := zr_GI k77_33
theorem k77_36 : xcd 77 36 = oCalV 7 82 2 39 := rfl
theorem r77_36 : zr 77 36 [v0, v1, v2, v3, v4] (.int y2 :: .int y1 :: .ref b8 :: st) u P = ((xIs u b8 7 ∧ xcat st ≤ 8) ∧ zr 82 0 [.ref b8, .int y1, .int y2, .null] [] u (fun r u2 => zr 77 39 [v0, v1, v2, v3, v4] (r.toList ++ st) u2 P)) := zr_CV k77_36 rfl rfl rfl ⟨Nat.le_of_ble_eq_true rfl, Nat.succ_ne_zero _, by decide⟩ rfl
theorem k77_39 : xcd 77 39 = oIs 3 40 := rfl
theorem r77_39 : zr 77 39 [v0, v1, .int x2, v3, v4] (.int y1 :: st) u P = zr 77 40 [v0, v1, .int x2, .int y1, v4] st u P := zr_Is k77_39 ⟨Nat.le_of_ble_eq_true rfl, rfl⟩
theorem k77_40 : xcd 77 40 = oIl 3 41 := rfl
theorem r77_40 : zr 77 40 [v0, v1, v2, .int x3, v4] st u P = zr 77 41 [v0, v1, v2, .int x3, v4] (.int x3 :: st) u P := zr_Il k77_40 rfl
theorem k77_41 : xcd 77 41 = oIf (fun x => decide (0 ≤ x)) 46 44 := rfl
theorem r77_41 : zr 77 41 [v0, v1, v2, v3, v4] (.int y1 :: st) u P = (if 0 ≤ y1 then zr 77 46 [v0, v1, v2, v3, v4] st u P else zr 77 44 [v0, v1, v2, v3, v4] st u P) := zr_If k77_41
theorem k77_44 : xcd 77 44 = oI (-1) 45 := rfl
theorem r77_44 : zr 77 44 [v0, v1, v2, v3, v4] st u P = zr 77 45 [v0, v1, v2, v3, v4] (.int (-1) :: st) u P := zr_I k77_44
theorem k77_45 : xcd 77 45 = oRi 0 := rfl
theorem r77_45 : zr 77 45 [v0, v1, v2, v3, v4] [.int y1] u P = P (some (.int y1)) u := zr_Ri k77_45
theorem k77_46 : xcd 77 46 = oAl 0 47 := rfl
theorem r77_46 : zr 77 46 [.ref a0, v1, v2, v3, v4] st u P = zr 77 47 [.ref a0, v1, v2, v3, v4] (.ref a0 :: st) u P := zr_Al k77_46 rfl
theorem k77_47 : xcd 77 47 = oI 0 48 := rfl
theorem r77_47 : zr 77 47 [v0, v1, v2, v3, v4] st u P = zr 77 48 [v0, v1, v2, v3, v4] (.int 0 :: st) u P := zr_I k77_47
theorem k77_48 : xcd 77 48 = oAl 0 49 := rfl
theorem r77_48 : zr 77 48 [.ref a0, v1, v2, v3, v4] st u P = zr 77 49 [.ref a0, v1, v2, v3, v4] (.ref a0 :: st) u P := zr_Al k77_48 rfl
theorem k77_49 : xcd 77 49 = oGR 7 3 52 := rfl
theorem r77_49 : zr 77 49 [v0, v1, v2, v3, v4] (.ref b1 :: st) u P = (xIs u b1 7 ∧ ∃ b, xR u b1 3 = some b ∧ zr 77 52 [v0, v1, v2, v3, v4] (.ref b :: st) u P) := zr_GR k77_49
theorem k77_52 : xcd 77 52 = oGR 3 0 55 := rfl
theorem r77_52 : zr 77 52 [v0, v1, v2, v3, v4] (.ref b1 :: st) u P = (xIs u b1 3 ∧ ∃ b, xR u b1 0 = some b ∧ zr 77 55 [v0, v1, v2, v3, v4] (.ref b :: st) u P) := zr_GR k77_52
theorem k77_55 : xcd 77 55 = oGI 4 0 58 := rfl
theorem r77_55 : zr 77 55 [v0, v1, v2, v3, v4] (.ref b1 :: st) u P = (xIs u b1 4 ∧ zr 77 58 [v0, v1, v2, v3, v4] (.int (xI u b1 0) :: st) u P) := zr_GI k77_55
theorem k77_58 : xcd 77 58 = oCalV 7 82 2 61 := rfl
theorem r77_58 : zr 77 58 [v0, v1, v2, v3, v4] (.int y2 :: .int y1 :: .ref b8 :: st) u P = ((xIs u b8 7 ∧ xcat st ≤ 8) ∧ zr 82 0 [.ref b8, .int y1, .int y2, .null] [] u (fun r u2 => zr 77 61 [v0, v1, v2, v3, v4] (r.toList ++ st) u2 P)) := zr_CV k77_58 rfl rfl rfl ⟨Nat.le_of_ble_eq_true rfl, Nat.succ_ne_zero _, by decide⟩ rfl
theorem k77_61 : xcd 77 61 = oIs 4 63 := rfl
theorem r77_61 : zr 77 61 [v0, v1, v2, .int x3, v4] (.int y1 :: st) u P = zr 77 63 [v0, v1, v2, .int x3, .int y1] st u P := zr_Is k77_61 ⟨Nat.le_of_ble_eq_true rfl, rfl⟩
theorem k77_63 : xcd 77 63 = oIl 4 65 := rfl
theorem r77_63 : zr 77 63 [v0, v1, v2, v3, .int x4] st u P = zr 77 65 [v0, v1, v2, v3, .int x4] (.int x4 :: st) u P := zr_Il k77_63 rfl
theorem k77_65 : xcd 77 65 = oIf (fun x => decide (0 ≤ x)) 70 68 := rfl
theorem r77_65 : zr 77 65 [v0, v1, v2, v3, v4] (.int y1 :: st) u P = (if 0 ≤ y1 then zr 77 70 [v0, v1, v2, v3, v4] st u P else zr 77 68 [v0, v1, v2, v3, v4] st u P) := zr_If k77_65
theorem k77_68 : xcd 77 68 = oI (-1) 69 := rfl
theorem r77_68 : zr 77 68 [v0, v1, v2, v3, v4] st u P = zr 77 69 [v0, v1, v2, v3, v4] (.int (-1) :: st) u P := zr_I k77_68
theorem k77_69 : xcd 77 69 = oRi 0 := rfl
theorem r77_69 : zr 77 69 [v0, v1, v2, v3, v4] [.int y1] u P = P (some (.int y1)) u := zr_Ri k77_69
theorem k77_70 : xcd 77 70 = oAl 1 71 := rfl
theorem r77_70 : zr 77 70 [v0, .ref a1, v2, v3, v4] st u P = zr 77 71 [v0, .ref a1, v2, v3, v4] (.ref a1 :: st) u P := zr_Al k77_70 rfl
theorem k77_71 : xcd 77 71 = oIl 2 72 := rfl
theorem r77_71 : zr 77 71 [v0, v1, .int x2, v3, v4] st u P = zr 77 72 [v0, v1, .int x2, v3, v4] (.int x2 :: st) u P := zr_Il k77_71 rfl
theorem k77_72 : xcd 77 72 = oIl 3 73 := rfl
theorem r77_72 : zr 77 72 [v0, v1, v2, .int x3, v4] st u P = zr 77 73 [v0, v1, v2, .int x3, v4] (.int x3 :: st) u P := zr_Il k77_72 rfl
theorem k77_73 : xcd 77 73 = oIl 4 75 := rfl
theorem r77_73 : zr 77 73 [v0, v1, v2, v3, .int x4] st u P = zr 77 75 [v0, v1, v2, v3, .int x4] (.int x4 :: st) u P := zr_Il k77_73 rfl
theorem k77_75 : xcd 77 75 = oCalV 2 31 3 78 := rfl
theorem r77_75 : zr 77 75 [v0, v1, v2, v3, v4] (.int y3 :: .int y2 :: .int y1 :: .ref b8 :: st) u P = ((xIs u b8 2 ∧ xcat st ≤ 8) ∧ zr 31 0 [.ref b8, .int y1, .int y2, .int y3] [] u (fun r u2 => zr 77 78 [v0, v1, v2, v3, v4] (r.toList ++ st) u2 P)) := zr_CV k77_75 rfl rfl rfl ⟨Nat.le_of_ble_eq_true rfl, Nat.succ_ne_zero _, by decide⟩ rfl
theorem k77_78 : xcd 77 78 = oInc 2 1 81 := rfl
theorem r77_78 : zr 77 78 [v0, .ref a1, .int x2, v3, v4] st u P = zr 77 81 [v0, .ref a1, .int (x2 + 1), v3, v4] st u P := zr_Inc k77_78 rfl rfl
theorem k77_81 : xcd 77 81 = oGoto 2 := rfl
theorem r77_81 : zr 77 81 [v0, v1, v2, v3, v4] st u P = zr 77 2 [v0, v1, v2, v3, v4] st u P := zr_Goto k77_81
theorem k77_84 : xcd 77 84 = oIl 2 85 := rfl
theorem r77_84 : zr 77 84 [v0, v1, .int x2, v3, v4] st u P = zr 77 85 [v0, v1, .int x2, v3, v4] (.int x2 :: st) u P := zr_Il k77_84 rfl
theorem k77_85 : xcd 77 85 = oRi 0 := rfl
theorem r77_85 : zr 77 85 [v0, v1, v2, v3, v4] [.int y1] u P = P (some (.int y1)) u := zr_Ri k77_85
theorem k78_0 : xcd 78 0 = oAl 0 1 := rfl
theorem r78_0 : zr 78 0 [.ref a0, v1, v2, v3, v4, v5] st u P = zr 78 1 [.ref a0, v1, v2, v3, v4, v5] (.ref a0 :: st) u P := zr_Al k78_0 rfl
theorem k78_1 : xcd 78 1 = oGR 7 3 4 := rfl
theorem r78_1 : zr 78 1 [v0, v1, v2, v3, v4, v5] (.ref b1 :: st) u P = (xIs u b1 7 ∧ ∃ b, xR u b1 3 = some b ∧ zr 78 4 [v0, v1, v2, v3, v4, v5] (.ref b :: st) u P) := zr_GR k78_1
theorem k78_4 : xcd 78 4 = oGR 3 1 7 := rfl
theorem r78_4 : zr 78 4 [v0, v1, v2, v3, v4, v5] (.ref b1 :: st) u P = (xIs u b1 3 ∧ ∃ b, xR u b1 1 = some b ∧ zr 78 7 [v0, v1, v2, v3, v4, v5] (.ref b :: st) u P) := zr_GR k78_4
theorem k78_7 : xcd 78 7 = oGR 9 2 10 := rfl
theorem r78_7 : zr 78 7 [v0, v1, v2, v3, v4, v5] (.ref b1 :: st) u P = (xIs u b1 9 ∧ ∃ b, xR u b1 2 = some b ∧ zr 78 10 [v0, v1, v2, v3, v4, v5] (.ref b :: st) u P) := zr_GR k78_7
theorem k78_10 : xcd 78 10 = oAs 1 11 := rfl
theorem r78_10 : zr 78 10 [.ref a0, v1, v2, v3, v4, v5] (.ref b1 :: st) u P = zr 78 11 [.ref a0, .ref b1, v2, v3, v4, v5] st u P := zr_As k78_10 ⟨Nat.le_of_ble_eq_true rfl, rfl⟩
theorem k78_11 : xcd 78 11 = oAl 0 12 := rfl
theorem r78_11 : zr 78 11 [.ref a0, v1, v2, v3, v4, v5] st u P = zr 78 12 [.ref a0, v1, v2, v3, v4, v5] (.ref a0 :: st) u P := zr_Al k78_11 rfl
theorem k78_12 : xcd 78 12 = oAl 0 13 := rfl
theorem r78_12 : zr 78 12 [.ref a0, v1, v2, v3, v4, v5] st u P = zr 78 13 [.ref a0, v1, v2, v3, v4, v5] (.ref a0 :: st) u P := zr_Al k78_12 rfl
theorem k78_13 : xcd 78 13 = oGR 7 2 16 := rfl
theorem r78_13 : zr 78 13 [v0, v1, v2, v3, v4, v5] (.ref b1 :: st) u P = (xIs u b1 7 ∧ ∃ b, xR u b1 2 = some b ∧ zr 78 16 [v0, v1, v2, v3, v4, v5] (.ref b :: st) u P) := zr_GR k78_13
theorem k78_16 : xcd 78 16 = oAl 0 17 := rfl
theorem r78_16 : zr 78 16 [.ref a0, v1, v2, v3, v4, v5] st u P = zr 78 17 [.ref a0, v1, v2, v3, v4, v5] (.ref a0 :: st) u P := zr_Al k78_16 rfl
theorem k78_17 : xcd 78 17 = oGR 7 3 20 := rfl
theorem r78_17 : zr 78 17 [v0, v1, v2, v3, v4, v5] (.ref b1 :: st) u P = (xIs u b1 7 ∧ ∃ b, xR u b1 3 = some b ∧ zr 78 20 [v0, v1, v2, v3, v4, v5] (.ref b :: st) u P) := zr_GR k78_17
theorem k78_20 : xcd 78 20 = oGR 3 0 23 := rfl
theorem r78_20 : zr 78 20 [v0, v1, v2, v3, v4, v5] (.ref b1 :: st) u P = (xIs u b1 3 ∧ ∃ b, xR u b1 0 = some b ∧ zr 78 23 [v0, v1, v2, v3, v4, v5] (.ref b :: st) u P) := zr_GR k78_20
theorem k78_23 : xcd 78 23 = oGI 4 2 26 := rfl
theorem r78_23 : zr 78 23 [v0, v1, v2, v3, v4, v5] (.ref b1 :: st) u P = (xIs u b1 4 ∧ zr 78 26 [v0, v1, v2, v3, v4, v5] (.int (xI u b1 2) :: st) u P) := zr_GI k78_23
theorem k78_26 : xcd 78 26 = oCalV 7 84 2 29 := rfl
theorem r78_26 : zr 78 26 [v0, v1, v2, v3, v4, v5] (.int y2 :: .ref b1 :: .ref b8 :: st) u P = ((xIs u b8 7 ∧ xcat st ≤ 8) ∧ zr 84 0 [.ref b8, .ref b1, .int y2, .null] [] u (fun r u2 => zr 78 29 [v0, v1, v2, v3, v4, v5] (r.toList ++ st) u2 P)) := zr_CV k78_26 rfl rfl rfl ⟨Nat.le_of_ble_eq_true rfl, Nat.succ_ne_zero _, by decide⟩ rfl
theorem k78_29 : xcd 78 29 = oIs 2 30 := rfl
theorem r78_29 : zr 78 29 [v0, .ref a1, v2, v3, v4, v5] (.int y1 :: st) u P = zr 78 30 [v0, .ref a1, .int y1, v3, v4, v5] st u P := zr_Is k78_29 ⟨Nat.le_of_ble_eq_true rfl, rfl⟩
theorem k78_30 : xcd 78 30 = oIl 2 31 := rfl
theorem r78_30 : zr 78 30 [v0, v1, .int x2, v3, v4, v5] st u P = zr 78 31 [v0, v1, .int x2, v3, v4, v5] (.int x2 :: st) u P := zr_Il k78_30 rfl
theorem k78_31 : xcd 78 31 = oIf (fun x => decide (0 ≤ x)) 38 34 := rfl
theorem r78_31 : zr 78 31 [v0, v1, v2, v3, v4, v5] (.int y1 :: st) u P = (if 0 ≤ y1 then zr 78 38 [v0, v1, v2, v3, v4, v5] st u P else zr 78 34 [v0, v1, v2, v3, v4, v5] st u P) := zr_If k78_31
theorem k78_34 : xcd 78 34 = oI (-1) 35 := rfl
theorem r78_34 : zr 78 34 [v0, v1, v2, v3, v4, v5] st u P = zr 78 35 [v0, v1, v2, v3, v4, v5] (.int (-1) :: st) u P := zr_I k78_34
theorem k78_35 : xcd 78 35 = oGoto 56 := rfl
theorem r78_35 : zr 78 35 [v0, v1, v2, v3, v4, v5] st u P = zr 78 56 [v0, v1, v2, v3, v4, v5] st u P := zr_Goto k78_35
theorem k78_38 : xcd 78 38 = oAl 0 39 := rfl
theorem r78_38 : zr 78 38 [.ref a0, v1, v2, v3, v4, v5] st u P = zr 78 39 [.ref a0, v1, v2, v3, v4, v5] (.ref a0 :: st) u P := zr_Al k78_38 rfl
theorem k78_39 : xcd 78 39 = oAl 0 40 := rfl
theorem r78_39 : zr 78 39 [.ref a0, v1, v2, v3, v4, v5] st u P = zr 78 40 [.ref a0, v1, v2, v3, v4, v5] (.ref a0 :: st) u P := zr_Al k78_39 rfl
theorem k78_40 : xcd 78 40 = oGR 7 1 43 := rfl
theorem r78_40 : zr 78 40 [v0, v1, v2, v3, v4, v5] (.ref b1 :: st) u P = (xIs u b1 7 ∧ ∃ b, xR u b1 1 = some b ∧ zr 78 43 [v0, v1, v2, v3, v4, v5] (.ref b :: st) u P) := zr_GR k78_40
theorem k78_43 : xcd 78 43 = oAl 0 44 := rfl
theorem r78_43 : zr 78 43 [.ref a0, v1, v2, v3, v4, v5] st u P = zr 78 44 [.ref a0, v1, v2, v3, v4, v5] (.ref a0 :: st) u P := zr_Al k78_43 rfl
theorem k78_44 : xcd 78 44 = oGR 7 3 47 := rfl
theorem r78_44 : zr 78 44 [v0, v1, v2, v3, v4, v5] (.ref b1 :: st) u P = (xIs u b1 7 ∧ ∃ b, xR u b1 3 = some b ∧ zr 78 47 [v0, v1, v2, v3, v4, v5] (.ref b :: st) u P) := zr_GR k78_44
theorem k78_47 : xcd 78 47 = oGR 3 1 50 := rfl
theorem r78_47 : zr 78 47 [v0, v1, v2, v3, v4, v5] (.ref b1 :: st) u P = (xIs u b1 3 ∧ ∃ b, xR u b1 1 = some b ∧ zr 78 50 [v0, v1, v2, v3, v4, v5] (.ref b :: st) u P) := zr_GR k78_47
theorem k78_50 : xcd 78 50 = oGI 9 0 53 := rfl
theorem r78_50 : zr 78 50 [v0, v1, v2, v3, v4, v5] (.ref b1 :: st) u P = (xIs u b1 9 ∧ zr 78 53 [v0, v1, v2, v3, v4, v5] (.int (xI u b1 0) :: st) u P) := zr_GI k78_50
theorem k78_53 : xcd 78 53 = oCalV 7 84 2 56 := rfl
theorem r78_53 : zr 78 53 [v0, v1, v2, v3, v4, v5] (.int y2 :: .ref b1 :: .ref b8 :: st) u P = ((xIs u b8 7 ∧ xcat st ≤ 8) ∧ zr 84 0 [.ref b8, .ref b1, .int y2, .null] [] u (fun r u2 => zr 78 56 [v0, v1, v2, v3, v4, v5] (r.toList ++ st) u2 P)) := zr_CV k78_53 rfl rfl rfl ⟨Nat.le_of_ble_eq_true rfl, Nat.succ_ne_zero _, by decide⟩ rfl
theorem k78_56 : xcd 78 56 = oIs 3 57 := rfl
theorem r78_56 : zr 78 56 [v0, v1, .int x2, v3, v4, v5] (.int y1 :: st) u P = zr 78 57 [v0, v1, .int x2, .int y1, v4, v5] st u P := zr_Is k78_56 ⟨Nat.le_of_ble_eq_true rfl, rfl⟩
theorem k78_57 : xcd 78 57 = oIl 3 58 := rfl
theorem r78_57 : zr 78 57 [v0, v1, v2, .int x3, v4, v5] st u P = zr 78 58 [v0, v1, v2, .int x3, v4, v5] (.int x3 :: st) u P := zr_Il k78_57 rfl
theorem k78_58 : xcd 78 58 = oIf (fun x => decide (0 ≤ x)) 63 61 := rfl
theorem r78_58 : zr 78 58 [v0, v1, v2, v3, v4, v5] (.int y1 :: st) u P = (if 0 ≤ y1 then zr 78 63 [v0, v1, v2, v3, v4, v5] st u P else zr 78 61 [v0, v1, v2, v3, v4, v5] st u P) := zr_If k78_58
theorem k78_61 : xcd 78 61 = oI 0 62 := rfl
theorem r78_61 : zr 78 61 [v0, v1, v2, v3, v4, v5] st u P = zr 78 62 [v0, v1, v2, v3, v4, v5] (.int 0 :: st) u P := zr_I k78_61
theorem k78_62 : xcd 78 62 = oRz 0 := rfl
theorem r78_62 : zr 78 62 [v0, v1, v2, v3, v4, v5] [.int y1] u P = ((y1 = 0 ∨ y1 = 1) ∧ P (some (.int y1)) u) := zr_Rz k78_62
theorem k78_63 : xcd 78 63 = oAl 0 64 := rfl
theorem r78_63 : zr 78 63 [.ref a0, v1, v2, v3, v4, v5] st u P = zr 78 64 [.ref a0, v1, v2, v3, v4, v5] (.ref a0 :: st) u P := zr_Al k78_63 rfl
theorem k78_64 : xcd 78 64 = oAl 1 65 := rfl
theorem r78_64 : zr 78 64 [v0, .ref a1, v2, v3, v4, v5] st u P = zr 78 65 [v0, .ref a1, v2, v3, v4, v5] (.ref a1 :: st) u P := zr_Al k78_64 rfl
theorem k78_65 : xcd 78 65 = oIl 2 66 := rfl
theorem r78_65 : zr 78 65 [v0, v1, .int x2, v3, v4, v5] st u P = zr 78 66 [v0, v1, .int x2, v3, v4, v5] (.int x2 :: st) u P := zr_Il k78_65 rfl
theorem k78_66 : xcd 78 66 = oIl 3 67 := rfl
theorem r78_66 : zr 78 66 [v0, v1, v2, .int x3, v4, v5] st u P = zr 78 67 [v0, v1, v2, .int x3, v4, v5] (.int x3 :: st) u P := zr_Il k78_66 rfl
theorem k78_67 : xcd 78 67 = oCalV 6 64 2 70 := rfl
theorem r78_67 : zr 78 67 [v0, v1, v2, v3, v4, v5] (.int y2 :: .int y1 :: .ref b8 :: st) u P = ((xIs u b8 6 ∧ xcat st ≤ 8) ∧ zr 64 0 [.ref b8, .int y1, .int y2, .null] [] u (fun r u2 => zr 78 70 [v0, v1, v2, v3, v4, v5] (r.toList ++ st) u2 P)) := zr_CV k78_67 rfl rfl rfl ⟨Nat.le_of_ble_eq_true rfl, Nat.succ_ne_zero _, by decide⟩ rfl
theorem k78_70 : xcd 78 70 = oI 999 73 := rfl
theorem r78_70 : zr 78 70 [v0, v1, v2, v3, v4, v5] st u P = zr 78 73 [v0, v1, v2, v3, v4, v5] (.int 999 :: st) u P := zr_I k78_70
theorem k78_73 : xcd 78 73 = oCalV 7 82 2 76 := rfl
theorem r78_73 : zr 78 73 [v0, v1, v2, v3, v4, v5] (.int y2 :: .int y1 :: .ref b8 :: st) u P = ((xIs u b8 7 ∧ xcat st ≤ 8) ∧ zr 82 0 [.ref b8, .int y1, .int y2, .null] [] u (fun r u2 => zr 78 76 [v0, v1, v2, v3, v4, v5] (r.toList ++ st) u2 P)) := zr_CV k78_73 rfl rfl rfl ⟨Nat.le_of_ble_eq_true rfl, Nat.succ_ne_zero _, by decide⟩ rfl
theorem k78_76 : xcd 78 76 = oIs 4 78 := rfl
theorem r78_76 : zr 78 76 [v0, v1, v2, .int x3, v4, v5] (.int y1 :: st) u P = zr 78 78 [v0, v1, v2, .int x3, .int y1, v5] st u P := zr_Is k78_76 ⟨Nat.le_of_ble_eq_true rfl, rfl⟩
theorem k78_78 : xcd 78 78 = oIl 4 80 := rfl
theorem r78_78 : zr 78 78 [v0, v1, v2, v3, .int x4, v5] st u P = zr 78 80 [v0, v1, v2, v3, .int x4, v5] (.int x4 :: st) u P := zr_Il k78_78 rfl
theorem k78_80 : xcd 78 80 = oIf (fun x => decide (0 ≤ x)) 87 83 := rfl
theorem r78_80 : zr 78 80 [v0, v1, v2, v3, v4, v5] (.int y1 :: st) u P = (if 0 ≤ y1 then zr 78 87 [v0, v1, v2, v3, v4, v5] st u P else zr 78 83 [v0, v1, v2, v3, v4, v5] st u P) := zr_If k78_80
theorem k78_83 : xcd 78 83 = oI (-1) 84 := rfl
theorem r78_83 : zr 78 83 [v0, v1, v2, v3, v4, v5] st u P = zr 78 84 [v0, v1, v2, v3, v4, v5] (.int (-1) :: st) u P := zr_I k78_83
theorem k78_84 : xcd 78 84 = oGoto 95 := rfl
theorem r78_84 : zr 78 84 [v0, v1, v2, v3, v4, v5] st u P = zr 78 95 [v0, v1, v2, v3, v4, v5] st u P := zr_Goto k78_84
theorem k78_87 : xcd 78 87 = oAl 0 88 := rfl
theorem r78_87 : zr 78 87 [.ref a0, v1, v2, v3, v4, v5] st u P = zr 78 88 [.ref a0, v1, v2, v3, v4, v5] (.ref a0 :: st) u P := zr_Al k78_87 rfl
theorem k78_88 : xcd 78 88 = oI 0 89 := rfl
theorem r78_88 : zr 78 88 [v0, v1, v2, v3, v4, v5] st u P = zr 78 89 [v0, v1, v2, v3, v4, v5] (.int 0 :: st) u P := zr_I k78_88
theorem k78_89 : xcd 78 89 = oI 2500 92 := rfl
theorem r78_89 : zr 78 89 [v0, v1, v2, v3, v4, v5] st u P = zr 78 92 [v0, v1, v2, v3, v4, v5] (.int 2500 :: st) u P := zr_I k78_89
theorem k78_92 : xcd 78 92 = oCalV 7 82 2 95 := rfl
theorem r78_92 : zr 78 92 [v0, v1, v2, v3, v4, v5] (.int y2 :: .int y1 :: .ref b8 :: st) u P = ((xIs u b8 7 ∧ xcat st ≤ 8) ∧ zr 82 0 [.ref b8, .int y1, .int y2, .null] [] u (fun r u2 => zr 78 95 [v0, v1, v2, v3, v4, v5] (r.toList ++ st) u2 P)) := zr_CV k78_92 rfl rfl rfl ⟨Nat.le_of_ble_eq_true rfl, Nat.succ_ne_zero _, by decide⟩ rfl
theorem k78_95 : xcd 78 95 = oIs 5 97 := rfl
theorem r78_95 : zr 78 95 [v0, v1, v2, v3, .int x4, v5] (.int y1 :: st) u P = zr 78 97 [v0, v1, v2, v3, .int x4, .int y1] st u P := zr_Is k78_95 ⟨Nat.le_of_ble_eq_true rfl, rfl⟩
theorem k78_97 : xcd 78 97 = oIl 5 99 := rfl
theorem r78_97 : zr 78 97 [v0, v1, v2, v3, v4, .int x5] st u P = zr 78 99 [v0, v1, v2, v3, v4, .int x5] (.int x5 :: st) u P := zr_Il k78_97 rfl
theorem k78_99 : xcd 78 99 = oIf (fun x => decide (0 ≤ x)) 104 102 := rfl
theorem r78_99 : zr 78 99 [v0, v1, v2, v3, v4, v5] (.int y1 :: st) u P = (if 0 ≤ y1 then zr 78 104 [v0, v1, v2, v3, v4, v5] st u P else zr 78 102 [v0, v1, v2, v3, v4, v5] st u P) := zr_If k78_99
theorem k78_102 : xcd 78 102 = oI 0 103 := rfl
theorem r78_102 : zr 78 102 [v0, v1, v2, v3, v4, v5] st u P = zr 78 103 [v0, v1, v2, v3, v4, v5] (.int 0 :: st) u P := zr_I k78_102
theorem k78_103 : xcd 78 103 = oRz 0 := rfl
theorem r78_103 : zr 78 103 [v0, v1, v2, v3, v4, v5] [.int y1] u P = ((y1 = 0 ∨ y1 = 1) ∧ P (some (.int y1)) u) := zr_Rz k78_103
theorem k78_104 : xcd 78 104 = oAl 1 105 := rfl
theorem r78_104 : zr 78 104 [v0, .ref a1, v2, v3, v4, v5] st u P = zr 78 105 [v0, .ref a1, v2, v3, v4, v5] (.ref a1 :: st) u P := zr_Al k78_104 rfl
theorem k78_105 : xcd 78 105 = oIl 2 106 := rfl
theorem r78_105 : zr 78 105 [v0, v1, .int x2, v3, v4, v5] st u P = zr 78 106 [v0, v1, .int x2, v3, v4, v5] (.int x2 :: st) u P := zr_Il k78_105 rfl
theorem k78_106 : xcd 78 106 = oIl 3 107 := rfl
theorem r78_106 : zr 78 106 [v0, v1, v2, .int x3, v4, v5] st u P = zr 78 107 [v0, v1, v2, .int x3, v4, v5] (.int x3 :: st) u P := zr_Il k78_106 rfl
theorem k78_107 : xcd 78 107 = oIl 4 109 := rfl
theorem r78_107 : zr 78 107 [v0, v1, v2, v3, .int x4, v5] st u P = zr 78 109 [v0, v1, v2, v3, .int x4, v5] (.int x4 :: st) u P := zr_Il k78_107 rfl
theorem k78_109 : xcd 78 109 = oIl 5 111 := rfl
theorem r78_109 : zr 78 109 [v0, v1, v2, v3, v4, .int x5] st u P = zr 78 111 [v0, v1, v2, v3, v4, .int x5] (.int x5 :: st) u P := zr_Il k78_109 rfl
theorem k78_111 : xcd 78 111 = oCalV 6 65 4 114 := rfl
theorem r78_111 : zr 78 111 [v0, v1, v2, v3, v4, v5] (.int y4 :: .int y3 :: .int y2 :: .int y1 :: .ref b8 :: st) u P = ((xIs u b8 6 ∧ xcat st ≤ 8) ∧ zr 65 0 [.ref b8, .int y1, .int y2, .int y3, .int y4] [] u (fun r u2 => zr 78 114 [v0, v1, v2, v3, v4, v5] (r.toList ++ st) u2 P)) := zr_CV k78_111 rfl rfl rfl ⟨Nat.le_of_ble_eq_true rfl, Nat.succ_ne_zero _, by decide⟩ rfl
theorem k78_114 : xcd 78 114 = oI 1 115 := rfl
theorem r78_114 : zr 78 114 [v0, v1, v2, v3, v4, v5] st u P = zr 78 115 [v0, v1, v2, v3, v4, v5] (.int 1 :: st) u P := zr_I k78_114
theorem k78_115 : xcd 78 115 = oRz 0 := rfl
theorem r78_115 : zr 78 115 [v0, v1, v2, v3, v4, v5] [.int y1] u P = ((y1 = 0 ∨ y1 = 1) ∧ P (some (.int y1)) u) := zr_Rz k78_115
theorem k79_0 : xcd 79 0 = oAl 0 1 := rfl
theorem r79_0 : zr 79 0 [.ref a0, v1, v2, v3, v4, v5] st u P = zr 79 1 [.ref a0, v1, v2, v3, v4, v5] (.ref a0 :: st) u P := zr_Al k79_0 rfl
theorem k79_1 : xcd 79 1 = oAl 0 2 := rfl
theorem r79_1 : zr 79 1 [.ref a0, v1, v2, v3, v4, v5] st u P = zr 79 2 [.ref a0, v1, v2, v3, v4, v5] (.ref a0 :: st) u P := zr_Al k79_1 rfl
theorem k79_2 : xcd 79 2 = oGR 7 2 5 := rfl
theorem r79_2 : zr 79 2 [v0, v1, v2, v3, v4, v5] (.ref b1 :: st) u P = (xIs u b1 7 ∧ ∃ b, xR u b1 2 = some b ∧ zr 79 5 [v0, v1, v2, v3, v4, v5] (.ref b :: st) u P) := zr_GR k79_2
theorem k79_5 : xcd 79 5 = oAl 0 6 := rfl
theorem r79_5 : zr 79 5 [.ref a0, v1, v2, v3, v4, v5] st u P = zr 79 6 [.ref a0, v1, v2, v3, v4, v5] (.ref a0 :: st) u P := zr_Al k79_5 rfl
theorem k79_6 : xcd 79 6 = oGR 7 3 9 := rfl
theorem r79_6 : zr 79 6 [v0, v1, v2, v3, v4, v5] (.ref b1 :: st) u P = (xIs u b1 7 ∧ ∃ b, xR u b1 3 = some b ∧ zr 79 9 [v0, v1, v2, v3, v4, v5] (.ref b :: st) u P) := zr_GR k79_6
theorem k79_9 : xcd 79 9 = oGR 3 0 12 := rfl
theorem r79_9 : zr 79 9 [v0, v1, v2, v3, v4, v5] (.ref b1 :: st) u P = (xIs u b1 3 ∧ ∃ b, xR u b1 0 = some b ∧ zr 79 12 [v0, v1, v2, v3, v4, v5] (.ref b :: st) u P) := zr_GR k79_9
theorem k79_12 : xcd 79 12 = oGI 4 2 15 := rfl
theorem r79_12 : zr 79 12 [v0, v1, v2, v3, v4, v5] (.ref b1 :: st) u P = (xIs u b1 4 ∧ zr 79 15 [v0, v1, v2, v3, v4, v5] (.int (xI u b1 2) :: st) u P) := zr_GI k79_12
theorem k79_15 : xcd 79 15 = oCalV 7 84 2 18 := rfl
theorem r79_15 : zr 79 15 [v0, v1, v2, v3, v4, v5] (.int y2 :: .ref b1 :: .ref b8 :: st) u P = ((xIs u b8 7 ∧ xcat st ≤ 8) ∧ zr 84 0 [.ref b8, .ref b1, .int y2, .null] [] u (fun r u2 => zr 79 18 [v0, v1, v2, v3, v4, v5] (r.toList ++ st) u2 P)) := zr_CV k79_15 rfl rfl rfl ⟨Nat.le_of_ble_eq_true rfl, Nat.succ_ne_zero _, by decide⟩ rfl
theorem k79_18 : xcd 79 18 = oIs 1 19 := rfl
theorem r79_18 : zr 79 18 [.ref a0, v1, v2, v3, v4, v5] (.int y1 :: st) u P = zr 79 19 [.ref a0, .int y1, v2, v3, v4, v5] st u P := zr_Is k79_18 ⟨Nat.le_of_ble_eq_true rfl, rfl⟩
theorem k79_19 : xcd 79 19 = oIl 1 20 := rfl
theorem r79_19 : zr 79 19 [v0, .int x1, v2, v3, v4, v5] st u P = zr 79 20 [v0, .int x1, v2, v3, v4, v5] (.int x1 :: st) u P := zr_Il k79_19 rfl
theorem k79_20 : xcd 79 20 = oIf (fun x => decide (0 ≤ x)) 27 23 := rfl
theorem r79_20 : zr 79 20 [v0, v1, v2, v3, v4, v5] (.int y1 :: st) u P = (if 0 ≤ y1 then zr 79 27 [v0, v1, v2, v3, v4, v5] st u P else zr 79 23 [v0, v1, v2, v3, v4, v5] st u P) := zr_If k79_20
theorem k79_23 : xcd 79 23 = oI (-1) 24 := rfl
theorem r79_23 : zr 79 23 [v0, v1, v2, v3, v4, v5] st u P = zr 79 24 [v0, v1, v2, v3, v4, v5] (.int (-1) :: st) u P := zr_I k79_23
theorem k79_24 : xcd 79 24 = oGoto 45 := rfl
theorem r79_24 : zr 79 24 [v0, v1, v2, v3, v4, v5] st u P = zr 79 45 [v0, v1, v2, v3, v4, v5] st u P := zr_Goto k79_24
theorem k79_27 : xcd 79 27 = oAl 0 28 := rfl
theorem r79_27 : zr 79 27 [.ref a0, v1, v2, v3, v4, v5] st u P = zr 79 28 [.ref a0, v1, v2, v3, v4, v5] (.ref a0 :: st) u P := zr_Al k79_27 rfl
theorem k79_28 : xcd 79 28 = oAl 0 29 := rfl
theorem r79_28 : zr 79 28 [.ref a0, v1, v2, v3, v4, v5] st u P = zr 79 29 [.ref a0, v1, v2, v3, v4, v5] (.ref a0 :: st) u P := zr_Al k79_28 rfl
theorem k79_29 : xcd 79 29 = oGR 7 1 32 := rfl
theorem r79_29 : zr 79 29 [v0, v1, v2, v3, v4, v5] (.ref b1 :: st) u P = (xIs u b1 7 ∧ ∃ b, xR u b1 1 = some b ∧ zr 79 32 [v0, v1, v2, v3, v4, v5] (.ref b :: st) u P) := zr_GR k79_29
theorem k79_32 : xcd 79 32 = oAl 0 33 := rfl
theorem r79_32 : zr 79 32 [.ref a0, v1, v2, v3, v4, v5] st u P = zr 79 33 [.ref a0, v1, v2, v3, v4, v5] (.ref a0 :: st) u P := zr_Al k79_32 rfl
theorem k79_33 : xcd 79 33 = oGR 7 3 36 := rfl
theorem r79_33 : zr 79 33 [v0, v1, v2, v3, v4, v5] (.ref b1 :: st) u P = (xIs u b1 7 ∧ ∃ b, xR u b1 3 = some b ∧ zr 79 36 [v0, v1, v2, v3, v4, v5] (.ref b :: st) u P) := zr_GR k79_33
theorem k79_36 : xcd 79 36 = oGR 3 1 39 := rfl
theorem r79_36 : zr 79 36 [v0, v1, v2, v3, v4, v5] (.ref b1 :: st) u P = (xIs u b1 3 ∧ ∃ b, xR u b1 1 = some b ∧ zr 79 39 [v0, v1, v2, v3, v4, v5] (.ref b :: st) u P) := zr_GR k79_36
theorem k79_39 : xcd 79 39 = oGI 9 0 42 := rfl
theorem r79_39 : zr 79 39 [v0, v1, v2, v3, v4, v5] (.ref b1 :: st) u P = (xIs u b1 9 ∧ zr 79 42 [v0, v1, v2, v3, v4, v5] (.int (xI u b1 0) :: st) u P) := zr_GI k79_39
theorem k79_42 : xcd 79 42 = oCalV 7 84 2 45 := rfl
theorem r79_42 : zr 79 42 [v0, v1, v2, v3, v4, v5] (.int y2 :: .ref b1 :: .ref b8 :: st) u P = ((xIs u b8 7 ∧ xcat st ≤ 8) ∧ zr 84 0 [.ref b8, .ref b1, .int y2, .null] [] u (fun r u2 => zr 79 45 [v0, v1, v2, v3, v4, v5] (r.toList ++ st) u2 P)) := zr_CV k79_42 rfl rfl rfl ⟨Nat.le_of_ble_eq_true rfl, Nat.succ_ne_zero _, by decide⟩ rfl
theorem k79_45 : xcd 79 45 = oIs 2 46 := rfl
theorem r79_45 : zr 79 45 [v0, .int x1, v2, v3, v4, v5] (.int y1 :: st) u P = zr 79 46 [v0, .int x1, .int y1, v3, v4, v5] st u P := zr_Is k79_45 ⟨Nat.le_of_ble_eq_true rfl, rfl⟩
theorem k79_46 : xcd 79 46 = oIl 2 47 := rfl
theorem r79_46 : zr 79 46 [v0, v1, .int x2, v3, v4, v5] st u P = zr 79 47 [v0, v1, .int x2, v3, v4, v5] (.int x2 :: st) u P := zr_Il k79_46 rfl
theorem k79_47 : xcd 79 47 = oIf (fun x => decide (0 ≤ x)) 52 50 := rfl
theorem r79_47 : zr 79 47 [v0, v1, v2, v3, v4, v5] (.int y1 :: st) u P = (if 0 ≤ y1 then zr 79 52 [v0, v1, v2, v3, v4, v5] st u P else zr 79 50 [v0, v1, v2, v3, v4, v5] st u P) := zr_If k79_47
theorem k79_50 : xcd 79 50 = oI 0 51 := rfl
theorem r79_50 : zr 79 50 [v0, v1, v2, v3, v4, v5] st u P = zr 79 51 [v0, v1, v2, v3, v4, v5] (.int 0 :: st) u P := zr_I k79_50
theorem k79_51 : xcd 79 51 = oRz 0 := rfl
theorem r79_51 : zr 79 51 [v0, v1, v2, v3, v4, v5] [.int y1] u P = ((y1 = 0 ∨ y1 = 1) ∧ P (some (.int y1)) u) := zr_Rz k79_51
theorem k79_52 : xcd 79 52 = oAl 0 53 := rfl
theorem r79_52 : zr 79 52 [.ref a0, v1, v2, v3, v4, v5] st u P = zr 79 53 [.ref a0, v1, v2, v3, v4, v5] (.ref a0 :: st) u P := zr_Al k79_52 rfl
theorem k79_53 : xcd 79 53 = oI 0 54 := rfl
theorem r79_53 : zr 79 53 [v0, v1, v2, v3, v4, v5] st u P = zr 79 54 [v0, v1, v2, v3, v4, v5] (.int 0 :: st) u P := zr_I k79_53
theorem k79_54 : xcd 79 54 = oI 999 57 := rfl
theorem r79_54 : zr 79 54 [v0, v1, v2, v3, v4, v5] st u P = zr 79 57 [v0, v1, v2, v3, v4, v5] (.int 999 :: st) u P := zr_I k79_54
theorem k79_57 : xcd 79 57 = oCalV 7 82 2 60 := rfl
theorem r79_57 : zr 79 57 [v0, v1, v2, v3, v4, v5] (.int y2 :: .int y1 :: .ref b8 :: st) u P = ((xIs u b8 7 ∧ xcat st ≤ 8) ∧ zr 82 0 [.ref b8, .int y1, .int y2, .null] [] u (fun r u2 => zr 79 60 [v0, v1, v2, v3, v4, v5] (r.toList ++ st) u2 P)) := zr_CV k79_57 rfl rfl rfl ⟨Nat.le_of_ble_eq_true rfl, Nat.succ_ne_zero _, by decide⟩ rfl
theorem k79_60 : xcd 79 60 = oIs 3 61 := rfl
theorem r79_60 : zr 79 60 [v0, v1, .int x2, v3, v4, v5] (.int y1 :: st) u P = zr 79 61 [v0, v1, .int x2, .int y1, v4, v5] st u P := zr_Is k79_60 ⟨Nat.le_of_ble_eq_true rfl, rfl⟩
theorem k79_61 : xcd 79 61 = oIl 3 62 := rfl
theorem r79_61 : zr 79 61 [v0, v1, v2, .int x3, v4, v5] st u P = zr 79 62 [v0, v1, v2, .int x3, v4, v5] (.int x3 :: st) u P := zr_Il k79_61 rfl
theorem k79_62 : xcd 79 62 = oIf (fun x => decide (0 ≤ x)) 69 65 := rfl
theorem r79_62 : zr 79 62 [v0, v1, v2, v3, v4, v5] (.int y1 :: st) u P = (if 0 ≤ y1 then zr 79 69 [v0, v1, v2, v3, v4, v5] st u P else zr 79 65 [v0, v1, v2, v3, v4, v5] st u P) := zr_If k79_62
theorem k79_65 : xcd 79 65 = oI (-1) 66 := rfl
theorem r79_65 : zr 79 65 [v0, v1, v2, v3, v4, v5] st u P = zr 79 66 [v0, v1, v2, v3, v4, v5] (.int (-1) :: st) u P := zr_I k79_65
theorem k79_66 : xcd 79 66 = oGoto 77 := rfl
theorem r79_66 : zr 79 66 [v0, v1, v2, v3, v4, v5] st u P = zr 79 77 [v0, v1, v2, v3, v4, v5] st u P := zr_Goto k79_66
theorem k79_69 : xcd 79 69 = oAl 0 70 := rfl
theorem r79_69 : zr 79 69 [.ref a0, v1, v2, v3, v4, v5] st u P = zr 79 70 [.ref a0, v1, v2, v3, v4, v5] (.ref a0 :: st) u P := zr_Al k79_69 rfl
theorem k79_70 : xcd 79 70 = oIl 3 71 := rfl
theorem r79_70 : zr 79 70 [v0, v1, v2, .int x3, v4, v5] st u P = zr 79 71 [v0, v1, v2, .int x3, v4, v5] (.int x3 :: st) u P := zr_Il k79_70 rfl
theorem k79_71 : xcd 79 71 = oI 999 74 := rfl
theorem r79_71 : zr 79 71 [v0, v1, v2, v3, v4, v5] st u P = zr 79 74 [v0, v1, v2, v3, v4, v5] (.int 999 :: st) u P := zr_I k79_71
theorem k79_74 : xcd 79 74 = oCalV 7 82 2 77 := rfl
theorem r79_74 : zr 79 74 [v0, v1, v2, v3, v4, v5] (.int y2 :: .int y1 :: .ref b8 :: st) u P = ((xIs u b8 7 ∧ xcat st ≤ 8) ∧ zr 82 0 [.ref b8, .int y1, .int y2, .null] [] u (fun r u2 => zr 79 77 [v0, v1, v2, v3, v4, v5] (r.toList ++ st) u2 P)) := zr_CV k79_74 rfl rfl rfl ⟨Nat.le_of_ble_eq_true rfl, Nat.succ_ne_zero _, by decide⟩ rfl
theorem k79_77 : xcd 79 77 = oIs 4 79 := rfl
theorem r79_77 : zr 79 77 [v0, v1, v2, .int x3, v4, v5] (.int y1 :: st) u P = zr 79 79 [v0, v1, v2, .int x3, .int y1, v5] st u P := zr_Is k79_77 ⟨Nat.le_of_ble_eq_true rfl, rfl⟩
theorem k79_79 : xcd 79 79 = oIl 4 81 := rfl
theorem r79_79 : zr 79 79 [v0, v1, v2, v3, .int x4, v5] st u P = zr 79 81 [v0, v1, v2, v3, .int x4, v5] (.int x4 :: st) u P := zr_Il k79_79 rfl
theorem k79_81 : xcd 79 81 = oIf (fun x => decide (x < 0)) 93 84 := rfl
theorem r79_81 : zr 79 81 [v0, v1, v2, v3, v4, v5] (.int y1 :: st) u P = (if y1 < 0 then zr 79 93 [v0, v1, v2, v3, v4, v5] st u P else zr 79 84 [v0, v1, v2, v3, v4, v5] st u P) := zr_If k79_81
theorem k79_84 : xcd 79 84 = oAl 0 85 := rfl
theorem r79_84 : zr 79 84 [.ref a0, v1, v2, v3, v4, v5] st u P = zr 79 85 [.ref a0, v1, v2, v3, v4, v5] (.ref a0 :: st) u P := zr_Al k79_84 rfl
theorem k79_85 : xcd 79 85 = oS 13 87 := rfl
theorem r79_85 : zr 79 85 [v0, v1, v2, v3, v4, v5] st u P = zr 79 87 [v0, v1, v2, v3, v4, v5] (.ref 1000013 :: st) u P := zr_S k79_85
theorem k79_87 : xcd 79 87 = oCalV 7 81 1 90 := rfl
theorem r79_87 : zr 79 87 [v0, v1, v2, v3, v4, v5] (.ref b1 :: .ref b8 :: st) u P = ((xIs u b8 7 ∧ xcat st ≤ 8) ∧ zr 81 0 [.ref b8, .ref b1] [] u (fun r u2 => zr 79 90 [v0, v1, v2, v3, v4, v5] (r.toList ++ st) u2 P)) := zr_CV k79_87 rfl rfl rfl ⟨Nat.le_of_ble_eq_true rfl, Nat.succ_ne_zero _, by decide⟩ rfl
theorem k79_90 : xcd 79 90 = oIf (fun x => decide (¬ x = 0)) 95 93 := rfl
theorem r79_90 : zr 79 90 [v0, v1, v2, v3, v4, v5] (.int y1 :: st) u P = (if ¬ y1 = 0 then zr 79 95 [v0, v1, v2, v3, v4, v5] st u P else zr 79 93 [v0, v1, v2, v3, v4, v5] st u P) := zr_If k79_90
theorem k79_93 : xcd 79 93 = oI 0 94 := rfl
theorem r79_93 : zr 79 93 [v0, v1, v2, v3, v4, v5] st u P = zr 79 94 [v0, v1, v2, v3, v4, v5] (.int 0 :: st) u P := zr_I k79_93
theorem k79_94 : xcd 79 94 = oRz 0 := rfl
theorem r79_94 : zr 79 94 [v0, v1, v2, v3, v4, v5] [.int y1] u P = ((y1 = 0 ∨ y1 = 1) ∧ P (some (.int y1)) u) := zr_Rz k79_94
theorem k79_95 : xcd 79 95 = oAl 0 96 := rfl
theorem r79_95 : zr 79 95 [.ref a0, v1, v2, v3, v4, v5] st u P = zr 79 96 [.ref a0, v1, v2, v3, v4, v5] (.ref a0 :: st) u P := zr_Al k79_95 rfl
theorem k79_96 : xcd 79 96 = oI 1 97 := rfl
theorem r79_96 : zr 79 96 [v0, v1, v2, v3, v4, v5] st u P = zr 79 97 [v0, v1, v2, v3, v4, v5] (.int 1 :: st) u P := zr_I k79_96
theorem k79_97 : xcd 79 97 = oI 9999 100 := rfl
theorem r79_97 : zr 79 97 [v0, v1, v2, v3, v4, v5] st u P = zr 79 100 [v0, v1, v2, v3, v4, v5] (.int 9999 :: st) u P := zr_I k79_97
theorem k79_100 : xcd 79 100 = oCalV 7 82 2 103 := rfl
theorem r79_100 : zr 79 100 [v0, v1, v2, v3, v4, v5] (.int y2 :: .int y1 :: .ref b8 :: st) u P = ((xIs u b8 7 ∧ xcat st ≤ 8) ∧ zr 82 0 [.ref b8, .int y1, .int y2, .null] [] u (fun r u2 => zr 79 103 [v0, v1, v2, v3, v4, v5] (r.toList ++ st) u2 P)) := zr_CV k79_100 rfl rfl rfl ⟨Nat.le_of_ble_eq_true rfl, Nat.succ_ne_zero _, by decide⟩ rfl
theorem k79_103 : xcd 79 103 = oIs 5 105 := rfl
theorem r79_103 : zr 79 103 [v0, v1, v2, v3, .int x4, v5] (.int y1 :: st) u P = zr 79 105 [v0, v1, v2, v3, .int x4, .int y1] st u P := zr_Is k79_103 ⟨Nat.le_of_ble_eq_true rfl, rfl⟩
theorem k79_105 : xcd 79 105 = oIl 5 107 := rfl
theorem r79_105 : zr 79 105 [v0, v1, v2, v3, v4, .int x5] st u P = zr 79 107 [v0, v1, v2, v3, v4, .int x5] (.int x5 :: st) u P := zr_Il k79_105 rfl
theorem k79_107 : xcd 79 107 = oIf (fun x => decide (0 ≤ x)) 112 110 := rfl
theorem r79_107 : zr 79 107 [v0, v1, v2, v3, v4, v5] (.int y1 :: st) u P = (if 0 ≤ y1 then zr 79 112 [v0, v1, v2, v3, v4, v5] st u P else zr 79 110 [v0, v1, v2, v3, v4, v5] st u P) := zr_If k79_107
theorem k79_110 : xcd 79 110 = oI 0 111 := rfl
theorem r79_110 : zr 79 110 [v0, v1, v2, v3, v4, v5] st u P = zr 79 111 [v0, v1, v2, v3, v4, v5] (.int 0 :: st) u P := zr_I k79_110
theorem k79_111 : xcd 79 111 = oRz 0 := rfl
theorem r79_111 : zr 79 111 [v0, v1, v2, v3, v4, v5] [.int y1] u P = ((y1 = 0 ∨ y1 = 1) ∧ P (some (.int y1)) u) := zr_Rz k79_111
theorem k79_112 : xcd 79 112 = oAl 0 113 := rfl
theorem r79_112 : zr 79 112 [.ref a0, v1, v2, v3, v4, v5] st u P = zr 79 113 [.ref a0, v1, v2, v3, v4, v5] (.ref a0 :: st) u P := zr_Al k79_112 rfl
theorem k79_113 : xcd 79 113 = oGR 7 3 116 := rfl
theorem r79_113 : zr 79 113 [v0, v1, v2, v3, v4, v5] (.ref b1 :: st) u P = (xIs u b1 7 ∧ ∃ b, xR u b1 3 = some b ∧ zr 79 116 [v0, v1, v2, v3, v4, v5] (.ref b :: st) u P) := zr_GR k79_113
theorem k79_116 : xcd 79 116 = oGR 3 1 119 := rfl
theorem r79_116 : zr 79 116 [v0, v1, v2, v3, v4, v5] (.ref b1 :: st) u P = (xIs u b1 3 ∧ ∃ b, xR u b1 1 = some b ∧ zr 79 119 [v0, v1, v2, v3, v4, v5] (.ref b :: st) u P) := zr_GR k79_116
theorem k79_119 : xcd 79 119 = oIl 1 120 := rfl
theorem r79_119 : zr 79 119 [v0, .int x1, v2, v3, v4, v5] st u P = zr 79 120 [v0, .int x1, v2, v3, v4, v5] (.int x1 :: st) u P := zr_Il k79_119 rfl
theorem k79_120 : xcd 79 120 = oIl 2 121 := rfl
theorem r79_120 : zr 79 120 [v0, v1, .int x2, v3, v4, v5] st u P = zr 79 121 [v0, v1, .int x2, v3, v4, v5] (.int x2 :: st) u P := zr_Il k79_120 rfl
theorem k79_121 : xcd 79 121 = oIl 3 122 := rfl
theorem r79_121 : zr 79 121 [v0, v1, v2, .int x3, v4, v5] st u P = zr 79 122 [v0, v1, v2, .int x3, v4, v5] (.int x3 :: st) u P := zr_Il k79_121 rfl
theorem k79_122 : xcd 79 122 = oIl 4 124 := rfl
theorem r79_122 : zr 79 122 [v0, v1, v2, v3, .int x4, v5] st u P = zr 79 124 [v0, v1, v2, v3, .int x4, v5] (.int x4 :: st) u P := zr_Il k79_122 rfl
theorem k79_124 : xcd 79 124 = oIl 5 126 := rfl
theorem r79_124 : zr 79 124 [v0, v1, v2, v3, v4, .int x5] st u P = zr 79 126 [v0, v1, v2, v3, v4, .int x5] (.int x5 :: st) u P := zr_Il k79_124 rfl
theorem k79_126 : xcd 79 126 = oCalV 9 97 5 129 := rfl
theorem r79_126 : zr 79 126 [v0, v1, v2, v3, v4, v5] (.int y5 :: .int y4 :: .int y3 :: .int y2 :: .int y1 :: .ref b8 :: st) u P = ((xIs u b8 9 ∧ xcat st ≤ 8) ∧ zr 97 0 [.ref b8, .int y1, .int y2, .int y3, .int y4, .int y5] [] u (fun r u2 => zr 79 129 [v0, v1, v2, v3, v4, v5] (r.toList ++ st) u2 P)) := zr_CV k79_126 rfl rfl rfl ⟨Nat.le_of_ble_eq_true rfl, Nat.succ_ne_zero _, by decide⟩ rfl
theorem k79_129 : xcd 79 129 = oI 1 130 := rfl
theorem r79_129 : zr 79 129 [v0, v1, v2, v3, v4, v5] st u P = zr 79 130 [v0, v1, v2, v3, v4, v5] (.int 1 :: st) u P := zr_I k79_129
theorem k79_130 : xcd 79 130 = oRz 0 := rfl
theorem r79_130 : zr 79 130 [v0, v1, v2, v3, v4, v5] [.int y1] u P = ((y1 = 0 ∨ y1 = 1) ∧ P (some (.int y1)) u) := zr_Rz k79_130
theorem k80_0 : xcd 80 0 = oAl 0 1 := rfl
theorem r80_0 : zr 80 0 [.ref a0, v1, v2, v3, v4] st u P = zr 80 1 [.ref a0, v1, v2, v3, v4] (.ref a0 :: st) u P := zr_Al k80_0 rfl
theorem k80_1 : xcd 80 1 = oAl 0 2 := rfl
theorem r80_1 : zr 80 1 [.ref a0, v1, v2, v3, v4] st u P = zr 80 2 [.ref a0, v1, v2, v3, v4] (.ref a0 :: st) u P := zr_Al k80_1 rfl
theorem k80_2 : xcd 80 2 = oGR 7 2 5 := rfl
theorem r80_2 : zr 80 2 [v0, v1, v2, v3, v4] (.ref b1 :: st) u P = (xIs u b1 7 ∧ ∃ b, xR u b1 2 = some b ∧ zr 80 5 [v0, v1, v2, v3, v4] (.ref b :: st) u P) := zr_GR k80_2
theorem k80_5 : xcd 80 5 = oAl 0 6 := rfl
theorem r80_5 : zr 80 5 [.ref a0, v1, v2, v3, v4] st u P = zr 80 6 [.ref a0, v1, v2, v3, v4] (.ref a0 :: st) u P := zr_Al k80_5 rfl
theorem k80_6 : xcd 80 6 = oGR 7 3 9 := rfl
theorem r80_6 : zr 80 6 [v0, v1, v2, v3, v4] (.ref b1 :: st) u P = (xIs u b1 7 ∧ ∃ b, xR u b1 3 = some b ∧ zr 80 9 [v0, v1, v2, v3, v4] (.ref b :: st) u P) := zr_GR k80_6
theorem k80_9 : xcd 80 9 = oGR 3 0 12 := rfl
theorem r80_9 : zr 80 9 [v0, v1, v2, v3, v4] (.ref b1 :: st) u P = (xIs u b1 3 ∧ ∃ b, xR u b1 0 = some b ∧ zr 80 12 [v0, v1, v2, v3, v4] (.ref b :: st) u P) := zr_GR k80_9
theorem k80_12 : xcd 80 12 = oGI 4 2 15 := rfl
theorem r80_12 : zr 80 12 [v0, v1, v2, v3, v4] (.ref b1 :: st) u P = (xIs u b1 4 ∧ zr 80 15 [v0, v1, v2, v3, v4] (.int (xI u b1 2) :: st) u P) := zr_GI k80_12
theorem k80_15 : xcd 80 15 = oCalV 7 84 2 18 := rfl
theorem r80_15 : zr 80 15 [v0, v1, v2, v3, v4] (.int y2 :: .ref b1 :: .ref b8 :: st) u P = ((xIs u b8 7 ∧ xcat st ≤ 8) ∧ zr 84 0 [.ref b8, .ref b1, .int y2, .null] [] u (fun r u2 => zr 80 18 [v0, v1, v2, v3, v4] (r.toList ++ st) u2 P)) := zr_CV k80_15 rfl rfl rfl ⟨Nat.le_of_ble_eq_true rfl, Nat.succ_ne_zero _, by decide⟩ rfl
theorem k80_18 : xcd 80 18 = oIs 1 19 := rfl
theorem r80_18 : zr 80 18 [.ref a0, v1, v2, v3, v4] (.int y1 :: st) u P = zr 80 19 [.ref a0, .int y1, v2, v3, v4] st u P := zr_Is k80_18 ⟨Nat.le_of_ble_eq_true rfl, rfl⟩
theorem k80_19 : xcd 80 19 = oAl 0 20 := rfl
theorem r80_19 : zr 80 19 [.ref a0, v1, v2, v3, v4] st u P = zr 80 20 [.ref a0, v1, v2, v3, v4] (.ref a0 :: st) u P := zr_Al k80_19 rfl
theorem k80_20 : xcd 80 20 = oGR 7 0 23 := rfl
theorem r80_20 : zr 80 20 [v0, v1, v2, v3, v4] (.ref b1 :: st) u P = (xIs u b1 7 ∧ ∃ b, xR u b1 0 = some b ∧ zr 80 23 [v0, v1, v2, v3, v4] (.ref b :: st) u P) := zr_GR k80_20
theorem k80_23 : xcd 80 23 = oGI 8 3 26 := rfl
theorem r80_23 : zr 80 23 [v0, v1, v2, v3, v4] (.ref b1 :: st) u P = (xIs u b1 8 ∧ zr 80 26 [v0, v1, v2, v3, v4] (.int (xI u b1 3) :: st) u P) := zr_GI k80_23
theorem k80_26 : xcd 80 26 = oIs 2 27 := rfl
theorem r80_26 : zr 80 26 [v0, .int x1, v2, v3, v4] (.int y1 :: st) u P = zr 80 27 [v0, .int x1, .int y1, v3, v4] st u P := zr_Is k80_26 ⟨Nat.le_of_ble_eq_true rfl, rfl⟩
theorem k80_27 : xcd 80 27 = oIl 1 28 := rfl
theorem r80_27 : zr 80 27 [v0, .int x1, v2, v3, v4] st u P = zr 80 28 [v0, .int x1, v2, v3, v4] (.int x1 :: st) u P := zr_Il k80_27 rfl
theorem k80_28 : xcd 80 28 = oIf (fun x => decide (0 ≤ x)) 35 31 := rfl
theorem r80_28 : zr 80 28 [v0, v1, v2, v3, v4] (.int y1 :: st) u P = (if 0 ≤ y1 then zr 80 35 [v0, v1, v2, v3, v4] st u P else zr 80 31 [v0, v1, v2, v3, v4] st u P) := zr_If k80_28
theorem k80_31 : xcd 80 31 = oI (-1) 32 := rfl
theorem r80_31 : zr 80 31 [v0, v1, v2, v3, v4] st u P = zr 80 32 [v0, v1, v2, v3, v4] (.int (-1) :: st) u P := zr_I k80_31
theorem k80_32 : xcd 80 32 = oGoto 53 := rfl
theorem r80_32 : zr 80 32 [v0, v1, v2, v3, v4] st u P = zr 80 53 [v0, v1, v2, v3, v4] st u P := zr_Goto k80_32
theorem k80_35 : xcd 80 35 = oAl 0 36 := rfl
theorem r80_35 : zr 80 35 [.ref a0, v1, v2, v3, v4] st u P = zr 80 36 [.ref a0, v1, v2, v3, v4] (.ref a0 :: st) u P := zr_Al k80_35 rfl
theorem k80_36 : xcd 80 36 = oAl 0 37 := rfl
theorem r80_36 : zr 80 36 [.ref a0, v1, v2, v3, v4] st u P = zr 80 37 [.ref a0, v1, v2, v3, v4] (.ref a0 :: st) u P := zr_Al k80_36 rfl
theorem k80_37 : xcd 80 37 = oGR 7 1 40 := rfl
theorem r80_37 : zr 80 37 [v0, v1, v2, v3, v4] (.ref b1 :: st) u P = (xIs u b1 7 ∧ ∃ b, xR u b1 1 = some b ∧ zr 80 40 [v0, v1, v2, v3, v4] (.ref b :: st) u P) := zr_GR k80_37
theorem k80_40 : xcd 80 40 = oAl 0 41 := rfl
theorem r80_40 : zr 80 40 [.ref a0, v1, v2, v3, v4] st u P = zr 80 41 [.ref a0, v1, v2, v3, v4] (.ref a0 :: st) u P := zr_Al k80_40 rfl
theorem k80_41 : xcd 80 41 = oGR 7 3 44 := rfl
theorem r80_41 : zr 80 41 [v0, v1, v2, v3, v4] (.ref b1 :: st) u P = (xIs u b1 7 ∧ ∃ b, xR u b1 3 = some b ∧ zr 80 44 [v0, v1, v2, v3, v4] (.ref b :: st) u P) := zr_GR k80_41
theorem k80_44 : xcd 80 44 = oGR 3 1 47 := rfl
theorem r80_44 : zr 80 44 [v0, v1, v2, v3, v4] (.ref b1 :: st) u P = (xIs u b1 3 ∧ ∃ b, xR u b1 1 = some b ∧ zr 80 47 [v0, v1, v2, v3, v4] (.ref b :: st) u P) := zr_GR k80_44
theorem k80_47 : xcd 80 47 = oGI 9 0 50 := rfl
theorem r80_47 : zr 80 47 [v0, v1, v2, v3, v4] (.ref b1 :: st) u P = (xIs u b1 9 ∧ zr 80 50 [v0, v1, v2, v3, v4] (.int (xI u b1 0) :: st) u P) := zr_GI k80_47
theorem k80_50 : xcd 80 50 = oCalV 7 84 2 53 := rfl
theorem r80_50 : zr 80 50 [v0, v1, v2, v3, v4] (.int y2 :: .ref b1 :: .ref b8 :: st) u P = ((xIs u b8 7 ∧ xcat st ≤ 8) ∧ zr 84 0 [.ref b8, .ref b1, .int y2, .null] [] u (fun r u2 => zr 80 53 [v0, v1, v2, v3, v4] (r.toList ++ st) u2 P)) := zr_CV k80_50 rfl rfl rfl ⟨Nat.le_of_ble_eq_true rfl, Nat.succ_ne_zero _, by decide⟩ rfl
theorem k80_53 : xcd 80 53 = oIs 3 54 := rfl
theorem r80_53 : zr 80 53 [v0, v1, .int x2, v3, v4] (.int y1 :: st) u P = zr 80 54 [v0, v1, .int x2, .int y1, v4] st u P := zr_Is k80_53 ⟨Nat.le_of_ble_eq_true rfl, rfl⟩
theorem k80_54 : xcd 80 54 = oIl 3 55 := rfl
theorem r80_54 : zr 80 54 [v0, v1, v2, .int x3, v4] st u P = zr 80 55 [v0, v1, v2, .int x3, v4] (.int x3 :: st) u P := zr_Il k80_54 rfl
theorem k80_55 : xcd 80 55 = oIf (fun x => decide (0 ≤ x)) 60 58 := rfl
theorem r80_55 : zr 80 55 [v0, v1, v2, v3, v4] (.int y1 :: st) u P = (if 0 ≤ y1 then zr 80 60 [v0, v1, v2, v3, v4] st u P else zr 80 58 [v0, v1, v2, v3, v4] st u P) := zr_If k80_55
theorem k80_58 : xcd 80 58 = oI 0 59 := rfl
theorem r80_58 : zr 80 58 [v0, v1, v2, v3, v4] st u P = zr 80 59 [v0, v1, v2, v3, v4] (.int 0 :: st) u P := zr_I k80_58
theorem k80_59 : xcd 80 59 = oRz 0 := rfl
theorem r80_59 : zr 80 59 [v0, v1, v2, v3, v4] [.int y1] u P = ((y1 = 0 ∨ y1 = 1) ∧ P (some (.int y1)) u) := zr_Rz k80_59
theorem k80_60 : xcd 80 60 = oAl 0 61 := rfl
theorem r80_60 : zr 80 60 [.ref a0, v1, v2, v3, v4] st u P = zr 80 61 [.ref a0, v1, v2, v3, v4] (.ref a0 :: st) u P := zr_Al k80_60 rfl
theorem k80_61 : xcd 80 61 = oGR 7 3 64 := rfl
theorem r80_61 : zr 80 61 [v0, v1, v2, v3, v4] (.ref b1 :: st) u P = (xIs u b1 7 ∧ ∃ b, xR u b1 3 = some b ∧ zr 80 64 [v0, v1, v2, v3, v4] (.ref b :: st) u P) := zr_GR k80_61
theorem k80_64 : xcd 80 64 = oGR 3 1 67 := rfl
theorem r80_64 : zr 80 64 [v0, v1, v2, v3, v4] (.ref b1 :: st) u P = (xIs u b1 3 ∧ ∃ b, xR u b1 1 = some b ∧ zr 80 67 [v0, v1, v2, v3, v4] (.ref b :: st) u P) := zr_GR k80_64
theorem k80_67 : xcd 80 67 = oIl 1 68 := rfl
theorem r80_67 : zr 80 67 [v0, .int x1, v2, v3, v4] st u P = zr 80 68 [v0, .int x1, v2, v3, v4] (.int x1 :: st) u P := zr_Il k80_67 rfl
theorem k80_68 : xcd 80 68 = oIl 3 69 := rfl
theorem r80_68 : zr 80 68 [v0, v1, v2, .int x3, v4] st u P = zr 80 69 [v0, v1, v2, .int x3, v4] (.int x3 :: st) u P := zr_Il k80_68 rfl
theorem k80_69 : xcd 80 69 = oCalV 9 103 2 72 := rfl
theorem r80_69 : zr 80 69 [v0, v1, v2, v3, v4] (.int y2 :: .int y1 :: .ref b8 :: st) u P = ((xIs u b8 9 ∧ xcat st ≤ 8) ∧ zr 103 0 [.ref b8, .int y1, .int y2, .null] [] u (fun r u2 => zr 80 72 [v0, v1, v2, v3, v4] (r.toList ++ st) u2 P)) := zr_CV k80_69 rfl rfl rfl ⟨Nat.le_of_ble_eq_true rfl, Nat.succ_ne_zero _, by decide⟩ rfl
theorem k80_72 : xcd 80 72 = oIf (fun x => decide (x < 0)) 82 75 := rfl
theorem r80_72 : zr 80 72 [v0, v1, v2, v3, v4] (.int y1 :: st) u P = (if y1 < 0 then zr 80 82 [v0, v1, v2, v3, v4] st u P else zr 80 75 [v0, v1, v2, v3, v4] st u P) := zr_If k80_72
theorem k80_75 : xcd 80 75 = oAl 0 76 := rfl
theorem r80_75 : zr 80 75 [.ref a0, v1, v2, v3, v4] st u P = zr 80 76 [.ref a0, v1, v2, v3, v4] (.ref a0 :: st) u P := zr_Al k80_75 rfl
theorem k80_76 : xcd 80 76 = oI 3 77 := rfl
theorem r80_76 : zr 80 76 [v0, v1, v2, v3, v4] st u P = zr 80 77 [v0, v1, v2, v3, v4] (.int 3 :: st) u P := zr_I k80_76
theorem k80_77 : xcd 80 77 = oIl 2 78 := rfl
theorem r80_77 : zr 80 77 [v0, v1, .int x2, v3, v4] st u P = zr 80 78 [v0, v1, .int x2, v3, v4] (.int x2 :: st) u P := zr_Il k80_77 rfl
theorem k80_78 : xcd 80 78 = oCalV 7 70 2 81 := rfl
theorem r80_78 : zr 80 78 [v0, v1, v2, v3, v4] (.int y2 :: .int y1 :: .ref b8 :: st) u P = ((xIs u b8 7 ∧ xcat st ≤ 8) ∧ zr 70 0 [.ref b8, .int y1, .int y2] [] u (fun r u2 => zr 80 81 [v0, v1, v2, v3, v4] (r.toList ++ st) u2 P)) := zr_CV k80_78 rfl rfl rfl ⟨Nat.le_of_ble_eq_true rfl, Nat.succ_ne_zero _, by decide⟩ rfl
theorem k80_81 : xcd 80 81 = oRz 0 := rfl
theorem r80_81 : zr 80 81 [v0, v1, v2, v3, v4] [.int y1] u P = ((y1 = 0 ∨ y1 = 1) ∧ P (some (.int y1)) u) := zr_Rz k80_81
theorem k80_82 : xcd 80 82 = oAl 0 83 := rfl
theorem r80_82 : zr 80 82 [.ref a0, v1, v2, v3, v4] st u P = zr 80 83 [.ref a0, v1, v2, v3, v4] (.ref a0 :: st) u P := zr_Al k80_82 rfl
theorem k80_83 : xcd 80 83 = oI 1 84 := rfl
theorem r80_83 : zr 80 83 [v0, v1, v2, v3, v4] st u P = zr 80 84 [v0, v1, v2, v3, v4] (.int 1 :: st) u P := zr_I k80_83
theorem k80_84 : xcd 80 84 = oI 9999 87 := rfl
theorem r80_84 : zr 80 84 [v0, v1, v2, v3, v4] st u P = zr 80 87 [v0, v1, v2, v3, v4] (.int 9999 :: st) u P := zr_I k80_84
theorem k80_87 : xcd 80 87 = oCalV 7 82 2 90 := rfl
theorem r80_87 : zr 80 87 [v0, v1, v2, v3, v4] (.int y2 :: .int y1 :: .ref b8 :: st) u P = ((xIs u b8 7 ∧ xcat st ≤ 8) ∧ zr 82 0 [.ref b8, .int y1, .int y2, .null] [] u (fun r u2 => zr 80 90 [v0, v1, v2, v3, v4] (r.toList ++ st) u2 P)) := zr_CV k80_87 rfl rfl rfl ⟨Nat.le_of_ble_eq_true rfl, Nat.succ_ne_zero _, by decide⟩ rfl
theorem k80_90 : xcd 80 90 = oIs 4 92 := rfl
theorem r80_90 : zr 80 90 [v0, v1, v2, .int x3, v4] (.int y1 :: st) u P = zr 80 92 [v0, v1, v2, .int x3, .int y1] st u P := zr_Is k80_90 ⟨Nat.le_of_ble_eq_true rfl, rfl⟩
theorem k80_92 : xcd 80 92 = oIl 4 94 := rfl
theorem r80_92 : zr 80 92 [v0, v1, v2, v3, .int x4] st u P = zr 80 94 [v0, v1, v2, v3, .int x4] (.int x4 :: st) u P := zr_Il k80_92 rfl
theorem k80_94 : xcd 80 94 = oIf (fun x => decide (0 ≤ x)) 99 97 := rfl
theorem r80_94 : zr 80 94 [v0, v1, v2, v3, v4] (.int y1 :: st) u P = (if 0 ≤ y1 then zr 80 99 [v0, v1, v2, v3, v4] st u P else zr 80 97 [v0, v1, v2, v3, v4] st u P) := zr_If k80_94
theorem k80_97 : xcd 80 97 = oI 0 98 := rfl
theorem r80_97 : zr 80 97 [v0, v1, v2, v3, v4] st u P = zr 80 98 [v0, v1, v2, v3, v4] (.int 0 :: st) u P := zr_I k80_97
theorem k80_98 : xcd 80 98 = oRz 0 := rfl
theorem r80_98 : zr 80 98 [v0, v1, v2, v3, v4] [.int y1] u P = ((y1 = 0 ∨ y1 = 1) ∧ P (some (.int y1)) u) := zr_Rz k80_98
theorem k80_99 : xcd 80 99 = oAl 0 100 := rfl
theorem r80_99 : zr 80 99 [.ref a0, v1, v2, v3, v4] st u P = zr 80 100 [.ref a0, v1, v2, v3, v4] (.ref a0 :: st) u P := zr_Al k80_99 rfl
theorem k80_100 : xcd 80 100 = oGR 7 3 103 := rfl
theorem r80_100 : zr 80 100 [v0, v1, v2, v3, v4] (.ref b1 :: st) u P = (xIs u b1 7 ∧ ∃ b, xR u b1 3 = some b ∧ zr 80 103 [v0, v1, v2, v3, v4] (.ref b :: st) u P) := zr_GR k80_100
theorem k80_103 : xcd 80 103 = oGR 3 1 106 := rfl
theorem r80_103 : zr 80 103 [v0, v1, v2, v3, v4] (.ref b1 :: st) u P = (xIs u b1 3 ∧ ∃ b, xR u b1 1 = some b ∧ zr 80 106 [v0, v1, v2, v3, v4] (.ref b :: st) u P) := zr_GR k80_103
theorem k80_106 : xcd 80 106 = oIl 1 107 := rfl
theorem r80_106 : zr 80 106 [v0, .int x1, v2, v3, v4] st u P = zr 80 107 [v0, .int x1, v2, v3, v4] (.int x1 :: st) u P := zr_Il k80_106 rfl
theorem k80_107 : xcd 80 107 = oIl 3 108 := rfl
theorem r80_107 : zr 80 107 [v0, v1, v2, .int x3, v4] st u P = zr 80 108 [v0, v1, v2, .int x3, v4] (.int x3 :: st) u P := zr_Il k80_107 rfl
theorem k80_108 : xcd 80 108 = oIl 4 110 := rfl
theorem r80_108 : zr 80 108 [v0, v1, v2, v3, .int x4] st u P = zr 80 110 [v0, v1, v2, v3, .int x4] (.int x4 :: st) u P := zr_Il k80_108 rfl
theorem k80_110 : xcd 80 110 = oCalV 9 98 3 113 := rfl
theorem r80_110 : zr 80 110 [v0, v1, v2, v3, v4] (.int y3 :: .int y2 :: .int y1 :: .ref b8 :: st) u P = ((xIs u b8 9 ∧ xcat st ≤ 8) ∧ zr 98 0 [.ref b8, .int y1, .int y2, .int y3] [] u (fun r u2 => zr 80 113 [v0, v1, v2, v3, v4] (r.toList ++ st) u2 P)) := zr_CV k80_110 rfl rfl rfl ⟨Nat.le_of_ble_eq_true rfl, Nat.succ_ne_zero _, by decide⟩ rfl
theorem k80_113 : xcd 80 113 = oI 1 114 := rfl
theorem r80_113 : zr 80 113 [v0, v1, v2, v3, v4] st u P = zr 80 114 [v0, v1, v2, v3, v4] (.int 1 :: st) u P := zr_I k80_113
theorem k80_114 : xcd 80 114 = oRz 0 := rfl
theorem r80_114 : zr 80 114 [v0, v1, v2, v3, v4] [.int y1] u P = ((y1 = 0 ∨ y1 = 1) ∧ P (some (.int y1)) u) := zr_Rz k80_114
theorem k81_0 : xcd 81 0 = oAl 0 1 := rfl
theorem r81_0 : zr 81 0 [.ref a0, v1] st u P = zr 81 1 [.ref a0, v1] (.ref a0 :: st) u P := zr_Al k81_0 rfl
theorem k81_1 : xcd 81 1 = oGR 7 0 4 := rfl
theorem r81_1 : zr 81 1 [v0, v1] (.ref b1 :: st) u P = (xIs u b1 7 ∧ ∃ b, xR u b1 0 = some b ∧ zr 81 4 [v0, v1] (.ref b :: st) u P) := zr_GR k81_1
theorem k81_4 : xcd 81 4 = oAl 1 5 := rfl
theorem r81_4 : zr 81 4 [v0, .ref a1] st u P = zr 81 5 [v0, .ref a1] (.ref a1 :: st) u P := zr_Al k81_4 rfl
theorem k81_5 : xcd 81 5 = oCalV 8 92 1 8 := rfl
theorem r81_5 : zr 81 5 [v0, v1] (.ref b1 :: .ref b8 :: st) u P = ((xIs u b8 8 ∧ xcat st ≤ 8) ∧ zr 92 0 [.ref b8, .ref b1, .null] [] u (fun r u2 => zr 81 8 [v0, v1] (r.toList ++ st) u2 P)) := zr_CV k81_5 rfl rfl rfl ⟨Nat.le_of_ble_eq_true rfl, Nat.succ_ne_zero _, by decide⟩ rfl
theorem k81_8 : xcd 81 8 = oIf (fun x => decide (¬ x = 0)) 17 11 := rfl
theorem r81_8 : zr 81 8 [v0, v1] (.int y1 :: st) u P = (if ¬ y1 = 0 then zr 81 17 [v0, v1] st u P else zr 81 11 [v0, v1] st u P) := zr_If k81_8
theorem k81_11 : xcd 81 11 = oAl 0 12 := rfl
theorem r81_11 : zr 81 11 [.ref a0, v1] st u P = zr 81 12 [.ref a0, v1] (.ref a0 :: st) u P := zr_Al k81_11 rfl
theorem k81_12 : xcd 81 12 = oI 1 13 := rfl
theorem r81_12 : zr 81 12 [v0, v1] st u P = zr 81 13 [v0, v1] (.int 1 :: st) u P := zr_I k81_12
theorem k81_13 : xcd 81 13 = oCalV 7 69 1 16 := rfl
theorem r81_13 : zr 81 13 [v0, v1] (.int y1 :: .ref b8 :: st) u P = ((xIs u b8 7 ∧ xcat st ≤ 8) ∧ zr 69 0 [.ref b8, .int y1] [] u (fun r u2 => zr 81 16 [v0, v1] (r.toList ++ st) u2 P)) := zr_CV k81_13 rfl rfl rfl ⟨Nat.le_of_ble_eq_true rfl, Nat.succ_ne_zero _, by decide⟩ rfl
theorem k81_16 : xcd 81 16 = oRz 0 := rfl
theorem r81_16 : zr 81 16 [v0, v1] [.int y1] u P = ((y1 = 0 ∨ y1 = 1) ∧ P (some (.int y1)) u) := zr_Rz k81_16
theorem k81_17 : xcd 81 17 = oAl 0 18 := rfl
theorem r81_17 : zr 81 17 [.ref a0, v1] st u P = zr 81 18 [.ref a0, v1] (.ref a0 :: st) u P := zr_Al k81_17 rfl
theorem k81_18 : xcd 81 18 = oGR 7 0 21 := rfl
theorem r81_18 : zr 81 18 [v0, v1] (.ref b1 :: st) u P = (xIs u b1 7 ∧ ∃ b, xR u b1 0 = some b ∧ zr 81 21 [v0, v1] (.ref b :: st) u P) := zr_GR k81_18
theorem k81_21 : xcd 81 21 = oCalV 8 89 0 24 := rfl
theorem r81_21 : zr 81 21 [v0, v1] (.ref b8 :: st) u P = ((xIs u b8 8 ∧ xcat st ≤ 8) ∧ zr 89 0 [.ref b8] [] u (fun r u2 => zr 81 24 [v0, v1] (r.toList ++ st) u2 P)) := zr_CV k81_21 rfl rfl rfl ⟨Nat.le_of_ble_eq_true rfl, Nat.succ_ne_zero _, by decide⟩ rfl
theorem k81_24 : xcd 81 24 = oI 1 25 := rfl
theorem r81_24 : zr 81 24 [v0, v1] st u P = zr 81 25 [v0, v1] (.int 1 :: st) u P := zr_I k81_24
theorem k81_25 : xcd 81 25 = oRz 0 := rfl
theorem r81_25 : zr 81 25 [v0, v1] [.int y1] u P = ((y1 = 0 ∨ y1 = 1) ∧ P (some (.int y1)) u) := zr_Rz k81_25
theorem k82_0 : xcd 82 0 = oAl 0 1 := rfl
theorem r82_0 : zr 82 0 [.ref a0, v1, v2, v3] st u P = zr 82 1 [.ref a0, v1, v2, v3] (.ref a0 :: st) u P := zr_Al k82_0 rfl
theorem k82_1 : xcd 82 1 = oGR 7 0 4 := rfl
theorem r82_1 : zr 82 1 [v0, v1, v2, v3] (.ref b1 :: st) u P = (xIs u b1 7 ∧ ∃ b, xR u b1 0 = some b ∧ zr 82 4 [v0, v1, v2, v3] (.ref b :: st) u P) := zr_GR k82_1
theorem k82_4 : xcd 82 4 = oGI 8 5 7 := rfl
theorem r82_4 : zr 82 4 [v0, v1, v2, v3] (.ref b1 :: st) u P = (xIs u b1 8 ∧ zr 82 7 [v0, v1, v2, v3] (.int (xI u b1 5) :: st) u P) := zr_GI k82_4
theorem k82_7 : xcd 82 7 = oI 2 8 := rfl
theorem r82_7 : zr 82 7 [v0, v1, v2, v3] st u P = zr 82 8 [v0, v1, v2, v3] (.int 2 :: st) u P := zr_I k82_7
theorem k82_8 : xcd 82 8 = oCmp (fun x y => decide (x = y)) 19 11 := rfl
theorem r82_8 : zr 82 8 [v0, v1, v2, v3] (.int y1 :: .int y2 :: st) u P = (if y2 = y1 then zr 82 19 [v0, v1, v2, v3] st u P else zr 82 11 [v0, v1, v2, v3] st u P) := zr_Cmp k82_8
theorem k82_11 : xcd 82 11 = oAl 0 12 := rfl
theorem r82_11 : zr 82 11 [.ref a0, v1, v2, v3] st u P = zr 82 12 [.ref a0, v1, v2, v3] (.ref a0 :: st) u P := zr_Al k82_11 rfl
theorem k82_12 : xcd 82 12 = oI 1 13 := rfl
theorem r82_12 : zr 82 12 [v0, v1, v2, v3] st u P = zr 82 13 [v0, v1, v2, v3] (.int 1 :: st) u P := zr_I k82_12
theorem k82_13 : xcd 82 13 = oCalV 7 69 1 16 := rfl
theorem r82_13 : zr 82 13 [v0, v1, v2, v3] (.int y1 :: .ref b8 :: st) u P = ((xIs u b8 7 ∧ xcat st ≤ 8) ∧ zr 69 0 [.ref b8, .int y1] [] u (fun r u2 => zr 82 16 [v0, v1, v2, v3] (r.toList ++ st) u2 P)) := zr_CV k82_13 rfl rfl rfl ⟨Nat.le_of_ble_eq_true rfl, Nat.succ_ne_zero _, by decide⟩ rfl
theorem k82_16 : xcd 82 16 = oPop 17 := rfl
theorem r82_16 : zr 82 16 [v0, v1, v2, v3] (.int y1 :: st) u P = zr 82 17 [v0, v1, v2, v3] st u P := zr_PopI k82_16
theorem k82_17 : xcd 82 17 = oI (-1) 18 := rfl
theorem r82_17 : zr 82 17 [v0, v1, v2, v3] st u P = zr 82 18 [v0, v1, v2, v3] (.int (-1) :: st) u P := zr_I k82_17
theorem k82_18 : xcd 82 18 = oRi 0 := rfl
theorem r82_18 : zr 82 18 [v0, v1, v2, v3] [.int y1] u P = P (some (.int y1)) u := zr_Ri k82_18
theorem k82_19 : xcd 82 19 = oAl 0 20 := rfl
theorem r82_19 : zr 82 19 [.ref a0, v1, v2, v3] st u P = zr 82 20 [.ref a0, v1, v2, v3] (.ref a0 :: st) u P := zr_Al k82_19 rfl
theorem k82_20 : xcd 82 20 = oGR 7 0 23 := rfl
theorem r82_20 : zr 82 20 [v0, v1, v2, v3] (.ref b1 :: st) u P = (xIs u b1 7 ∧ ∃ b, xR u b1 0 = some b ∧ zr 82 23 [v0, v1, v2, v3] (.ref b :: st) u P) := zr_GR k82_20
theorem k82_23 : xcd 82 23 = oGI 8 7 26 := rfl
theorem r82_23 : zr 82 23 [v0, v1, v2, v3] (.ref b1 :: st) u P = (xIs u b1 8 ∧ zr 82 26 [v0, v1, v2, v3] (.int (xI u b1 7) :: st) u P) := zr_GI k82_23
theorem k82_26 : xcd 82 26 = oIs 3 27 := rfl
theorem r82_26 : zr 82 26 [v0, v1, .int x2, v3] (.int y1 :: st) u P = zr 82 27 [v0, v1, .int x2, .int y1] st u P := zr_Is k82_26 ⟨Nat.le_of_ble_eq_true rfl, rfl⟩
theorem k82_27 : xcd 82 27 = oIl 3 28 := rfl
theorem r82_27 : zr 82 27 [v0, v1, v2, .int x3] st u P = zr 82 28 [v0, v1, v2, .int x3] (.int x3 :: st) u P := zr_Il k82_27 rfl
theorem k82_28 : xcd 82 28 = oIl 1 29 := rfl
theorem r82_28 : zr 82 28 [v0, .int x1, v2, v3] st u P = zr 82 29 [v0, .int x1, v2, v3] (.int x1 :: st) u P := zr_Il k82_28 rfl
theorem k82_29 : xcd 82 29 = oIl 2 30 := rfl
theorem r82_29 : zr 82 29 [v0, v1, .int x2, v3] st u P = zr 82 30 [v0, v1, .int x2, v3] (.int x2 :: st) u P := zr_Il k82_29 rfl
theorem k82_30 : xcd 82 30 = oCal 164 3 33 := rfl
theorem r82_30 : zr 82 30 [v0, v1, v2, v3] (.int y3 :: .int y2 :: .int y1 :: st) u P = (xcat st ≤ 8 ∧ zr 164 0 [.int y1, .int y2, .int y3] [] u (fun r u2 => zr 82 33 [v0, v1, v2, v3] (r.toList ++ st) u2 P)) := zr_CS k82_30 (Nat.le_add_left _ _) rfl rfl ⟨Nat.le_of_ble_eq_true rfl, Nat.succ_ne_zero _, by decide⟩ rfl
theorem k82_33 : xcd 82 33 = oIf (fun x => decide (¬ x = 0)) 44 36 := rfl
theorem r82_33 : zr 82 33 [v0, v1, v2, v3] (.int y1 :: st) u P = (if ¬ y1 = 0 then zr 82 44 [v0, v1, v2, v3] st u P else zr 82 36 [v0, v1, v2, v3] st u P) := zr_If k82_33
theorem k82_36 : xcd 82 36 = oAl 0 37 := rfl
theorem r82_36 : zr 82 36 [.ref a0, v1, v2, v3] st u P = zr 82 37 [.ref a0, v1, v2, v3] (.ref a0 :: st) u P := zr_Al k82_36 rfl
theorem k82_37 : xcd 82 37 = oI 4 38 := rfl
theorem r82_37 : zr 82 37 [v0, v1, v2, v3] st u P = zr 82 38 [v0, v1, v2, v3] (.int 4 :: st) u P := zr_I k82_37
theorem k82_38 : xcd 82 38 = oCalV 7 69 1 41 := rfl
theorem r82_38 : zr 82 38 [v0, v1, v2, v3] (.int y1 :: .ref b8 :: st) u P = ((xIs u b8 7 ∧ xcat st ≤ 8) ∧ zr 69 0 [.ref b8, .int y1] [] u (fun r u2 => zr 82 41 [v0, v1, v2, v3] (r.toList ++ st) u2 P)) := zr_CV k82_38 rfl rfl rfl ⟨Nat.le_of_ble_eq_true rfl, Nat.succ_ne_zero _, by decide⟩ rfl
theorem k82_41 : xcd 82 41 = oPop 42 := rfl
theorem r82_41 : zr 82 41 [v0, v1, v2, v3] (.int y1 :: st) u P = zr 82 42 [v0, v1, v2, v3] st u P := zr_PopI k82_41
theorem k82_42 : xcd 82 42 = oI (-1) 43 := rfl
theorem r82_42 : zr 82 42 [v0, v1, v2, v3] st u P = zr 82 43 [v0, v1, v2, v3] (.int (-1) :: st) u P := zr_I k82_42
theorem k82_43 : xcd 82 43 = oRi 0 := rfl
theorem r82_43 : zr 82 43 [v0, v1, v2, v3] [.int y1] u P = P (some (.int y1)) u := zr_Ri k82_43
theorem k82_44 : xcd 82 44 = oAl 0 45 := rfl
theorem r82_44 : zr 82 44 [.ref a0, v1, v2, v3] st u P = zr 82 45 [.ref a0, v1, v2, v3] (.ref a0 :: st) u P := zr_Al k82_44 rfl
theorem k82_45 : xcd 82 45 = oGR 7 0 48 := rfl
theorem r82_45 : zr 82 45 [v0, v1, v2, v3] (.ref b1 :: st) u P = (xIs u b1 7 ∧ ∃ b, xR u b1 0 = some b ∧ zr 82 48 [v0, v1, v2, v3] (.ref b :: st) u P) := zr_GR k82_45
theorem k82_48 : xcd 82 48 = oCalV 8 89 0 51 := rfl
theorem r82_48 : zr 82 48 [v0, v1, v2, v3] (.ref b8 :: st) u P = ((xIs u b8 8 ∧ xcat st ≤ 8) ∧ zr 89 0 [.ref b8] [] u (fun r u2 => zr 82 51 [v0, v1, v2, v3] (r.toList ++ st) u2 P)) := zr_CV k82_48 rfl rfl rfl ⟨Nat.le_of_ble_eq_true rfl, Nat.succ_ne_zero _, by decide⟩ rfl
theorem k82_51 : xcd 82 51 = oIl 3 52 := rfl
theorem r82_51 : zr 82 51 [v0, v1, v2, .int x3] st u P = zr 82 52 [v0, v1, v2, .int x3] (.int x3 :: st) u P := zr_Il k82_51 rfl
theorem k82_52 : xcd 82 52 = oRi 0 := rfl
theorem r82_52 : zr 82 52 [v0, v1, v2, v3] [.int y1] u P = P (some (.int y1)) u := zr_Ri k82_52
theorem k83_0 : xcd 83 0 = oAl 0 1 := rfl
theorem r83_0 : zr 83 0 [.ref a0, v1, v2] st u P = zr 83 1 [.ref a0, v1, v2] (.ref a0 :: st) u P := zr_Al k83_0 rfl
theorem k83_1 : xcd 83 1 = oGR 7 0 4 := rfl
theorem r83_1 : zr 83 1 [v0, v1, v2] (.ref b1 :: st) u P = (xIs u b1 7 ∧ ∃ b, xR u b1 0 = some b ∧ zr 83 4 [v0, v1, v2] (.ref b :: st) u P) := zr_GR k83_1
theorem k83_4 : xcd 83 4 = oCalV 8 93 0 7 := rfl
theorem r83_4 : zr 83 4 [v0, v1, v2] (.ref b8 :: st) u P = ((xIs u b8 8 ∧ xcat st ≤ 8) ∧ zr 93 0 [.ref b8] [] u (fun r u2 => zr 83 7 [v0, v1, v2] (r.toList ++ st) u2 P)) := zr_CV k83_4 rfl rfl rfl ⟨Nat.le_of_ble_eq_true rfl, Nat.succ_ne_zero _, by decide⟩ rfl
theorem k83_7 : xcd 83 7 = oIf (fun x => decide (¬ x = 0)) 20 10 := rfl
theorem r83_7 : zr 83 7 [v0, v1, v2] (.int y1 :: st) u P = (if ¬ y1 = 0 then zr 83 20 [v0, v1, v2] st u P else zr 83 10 [v0, v1, v2] st u P) := zr_If k83_7
theorem k83_10 : xcd 83 10 = oAl 0 11 := rfl
theorem r83_10 : zr 83 10 [.ref a0, v1, v2] st u P = zr 83 11 [.ref a0, v1, v2] (.ref a0 :: st) u P := zr_Al k83_10 rfl
theorem k83_11 : xcd 83 11 = oI 1 12 := rfl
theorem r83_11 : zr 83 11 [v0, v1, v2] st u P = zr 83 12 [v0, v1, v2] (.int 1 :: st) u P := zr_I k83_11
theorem k83_12 : xcd 83 12 = oCalV 7 69 1 15 := rfl
theorem r83_12 : zr 83 12 [v0, v1, v2] (.int y1 :: .ref b8 :: st) u P = ((xIs u b8 7 ∧ xcat st ≤ 8) ∧ zr 69 0 [.ref b8, .int y1] [] u (fun r u2 => zr 83 15 [v0, v1, v2] (r.toList ++ st) u2 P)) := zr_CV k83_12 rfl rfl rfl ⟨Nat.le_of_ble_eq_true rfl, Nat.succ_ne_zero _, by decide⟩ rfl
theorem k83_15 : xcd 83 15 = oPop 16 := rfl
theorem r83_15 : zr 83 15 [v0, v1, v2] (.int y1 :: st) u P = zr 83 16 [v0, v1, v2] st u P := zr_PopI k83_15
theorem k83_16 : xcd 83 16 = oJ (-1) 19 := rfl
theorem r83_16 : zr 83 16 [v0, v1, v2] st u P = zr 83 19 [v0, v1, v2] (.long (-1) :: st) u P := zr_J k83_16
theorem k83_19 : xcd 83 19 = oRj 0 := rfl
theorem r83_19 : zr 83 19 [v0, v1, v2] [.long w1] u P = P (some (.long w1)) u := zr_Rj k83_19
theorem k83_20 : xcd 83 20 = oAl 0 21 := rfl
theorem r83_20 : zr 83 20 [.ref a0, v1, v2] st u P = zr 83 21 [.ref a0, v1, v2] (.ref a0 :: st) u P := zr_Al k83_20 rfl
theorem k83_21 : xcd 83 21 = oGR 7 0 24 := rfl
theorem r83_21 : zr 83 21 [v0, v1, v2] (.ref b1 :: st) u P = (xIs u b1 7 ∧ ∃ b, xR u b1 0 = some b ∧ zr 83 24 [v0, v1, v2] (.ref b :: st) u P) := zr_GR k83_21
theorem k83_24 : xcd 83 24 = oGJ 8 6 27 := rfl
theorem r83_24 : zr 83 24 [v0, v1, v2] (.ref b1 :: st) u P = (xIs u b1 8 ∧ zr 83 27 [v0, v1, v2] (.long (xJ u b1 6) :: st) u P) := zr_GJ k83_24
theorem k83_27 : xcd 83 27 = oJs 1 28 := rfl
theorem r83_27 : zr 83 27 [.ref a0, v1, v2] (.long w1 :: st) u P = zr 83 28 [.ref a0, .long w1, .null] st u P := zr_Js k83_27 ⟨Nat.le_of_ble_eq_true rfl, rfl⟩
theorem k83_28 : xcd 83 28 = oAl 0 29 := rfl
theorem r83_28 : zr 83 28 [.ref a0, v1, v2] st u P = zr 83 29 [.ref a0, v1, v2] (.ref a0 :: st) u P := zr_Al k83_28 rfl
theorem k83_29 : xcd 83 29 = oGR 7 1 32 := rfl
theorem r83_29 : zr 83 29 [v0, v1, v2] (.ref b1 :: st) u P = (xIs u b1 7 ∧ ∃ b, xR u b1 1 = some b ∧ zr 83 32 [v0, v1, v2] (.ref b :: st) u P) := zr_GR k83_29
theorem k83_32 : xcd 83 32 = oAl 0 33 := rfl
theorem r83_32 : zr 83 32 [.ref a0, v1, v2] st u P = zr 83 33 [.ref a0, v1, v2] (.ref a0 :: st) u P := zr_Al k83_32 rfl
theorem k83_33 : xcd 83 33 = oGR 7 3 36 := rfl
theorem r83_33 : zr 83 33 [v0, v1, v2] (.ref b1 :: st) u P = (xIs u b1 7 ∧ ∃ b, xR u b1 3 = some b ∧ zr 83 36 [v0, v1, v2] (.ref b :: st) u P) := zr_GR k83_33
theorem k83_36 : xcd 83 36 = oGR 3 1 39 := rfl
theorem r83_36 : zr 83 36 [v0, v1, v2] (.ref b1 :: st) u P = (xIs u b1 3 ∧ ∃ b, xR u b1 1 = some b ∧ zr 83 39 [v0, v1, v2] (.ref b :: st) u P) := zr_GR k83_36
theorem k83_39 : xcd 83 39 = oGI 9 0 42 := rfl
theorem r83_39 : zr 83 39 [v0, v1, v2] (.ref b1 :: st) u P = (xIs u b1 9 ∧ zr 83 42 [v0, v1, v2] (.int (xI u b1 0) :: st) u P) := zr_GI k83_39
theorem k83_42 : xcd 83 42 = oJl 1 43 := rfl
theorem r83_42 : zr 83 42 [v0, .long j1, v2] st u P = zr 83 43 [v0, .long j1, v2] (.long j1 :: st) u P := zr_Jl k83_42 rfl
theorem k83_43 : xcd 83 43 = oCal 85 3 46 := rfl
theorem r83_43 : zr 83 43 [v0, v1, v2] (.long w3 :: .int y2 :: .ref b1 :: st) u P = (xcat st ≤ 8 ∧ zr 85 0 [.ref b1, .int y2, .long w3, .null, .null] [] u (fun r u2 => zr 83 46 [v0, v1, v2] (r.toList ++ st) u2 P)) := zr_CS k83_43 (Nat.le_add_left _ _) rfl rfl ⟨Nat.le_of_ble_eq_true rfl, Nat.succ_ne_zero _, by decide⟩ rfl
theorem k83_46 : xcd 83 46 = oIf (fun x => decide (0 ≤ x)) 70 49 := rfl
theorem r83_46 : zr 83 46 [v0, v1, v2] (.int y1 :: st) u P = (if 0 ≤ y1 then zr 83 70 [v0, v1, v2] st u P else zr 83 49 [v0, v1, v2] st u P) := zr_If k83_46
theorem k83_49 : xcd 83 49 = oAl 0 50 := rfl
theorem r83_49 : zr 83 49 [.ref a0, v1, v2] st u P = zr 83 50 [.ref a0, v1, v2] (.ref a0 :: st) u P := zr_Al k83_49 rfl
theorem k83_50 : xcd 83 50 = oGR 7 2 53 := rfl
theorem r83_50 : zr 83 50 [v0, v1, v2] (.ref b1 :: st) u P = (xIs u b1 7 ∧ ∃ b, xR u b1 2 = some b ∧ zr 83 53 [v0, v1, v2] (.ref b :: st) u P) := zr_GR k83_50
theorem k83_53 : xcd 83 53 = oAl 0 54 := rfl
theorem r83_53 : zr 83 53 [.ref a0, v1, v2] st u P = zr 83 54 [.ref a0, v1, v2] (.ref a0 :: st) u P := zr_Al k83_53 rfl
theorem k83_54 : xcd 83 54 = oGR 7 3 57 := rfl
theorem r83_54 : zr 83 54 [v0, v1, v2] (.ref b1 :: st) u P = (xIs u b1 7 ∧ ∃ b, xR u b1 3 = some b ∧ zr 83 57 [v0, v1, v2] (.ref b :: st) u P) := zr_GR k83_54
theorem k83_57 : xcd 83 57 = oGR 3 0 60 := rfl
theorem r83_57 : zr 83 57 [v0, v1, v2] (.ref b1 :: st) u P = (xIs u b1 3 ∧ ∃ b, xR u b1 0 = some b ∧ zr 83 60 [v0, v1, v2] (.ref b :: st) u P) := zr_GR k83_57
theorem k83_60 : xcd 83 60 = oGI 4 2 63 := rfl
theorem r83_60 : zr 83 60 [v0, v1, v2] (.ref b1 :: st) u P = (xIs u b1 4 ∧ zr 83 63 [v0, v1, v2] (.int (xI u b1 2) :: st) u P) := zr_GI k83_60
theorem k83_63 : xcd 83 63 = oJl 1 64 := rfl
theorem r83_63 : zr 83 63 [v0, .long j1, v2] st u P = zr 83 64 [v0, .long j1, v2] (.long j1 :: st) u P := zr_Jl k83_63 rfl
theorem k83_64 : xcd 83 64 = oCal 85 3 67 := rfl
theorem r83_64 : zr 83 64 [v0, v1, v2] (.long w3 :: .int y2 :: .ref b1 :: st) u P = (xcat st ≤ 8 ∧ zr 85 0 [.ref b1, .int y2, .long w3, .null, .null] [] u (fun r u2 => zr 83 67 [v0, v1, v2] (r.toList ++ st) u2 P)) := zr_CS k83_64 (Nat.le_add_left _ _) rfl rfl ⟨Nat.le_of_ble_eq_true rfl, Nat.succ_ne_zero _, by decide⟩ rfl
theorem k83_67 : xcd 83 67 = oIf (fun x => decide (x < 0)) 80 70 := rfl
theorem r83_67 : zr 83 67 [v0, v1, v2] (.int y1 :: st) u P = (if y1 < 0 then zr 83 80 [v0, v1, v2] st u P else zr 83 70 [v0, v1, v2] st u P) := zr_If k83_67
theorem k83_70 : xcd 83 70 = oAl 0 71 := rfl
theorem r83_70 : zr 83 70 [.ref a0, v1, v2] st u P = zr 83 71 [.ref a0, v1, v2] (.ref a0 :: st) u P := zr_Al k83_70 rfl
theorem k83_71 : xcd 83 71 = oI 3 72 := rfl
theorem r83_71 : zr 83 71 [v0, v1, v2] st u P = zr 83 72 [v0, v1, v2] (.int 3 :: st) u P := zr_I k83_71
theorem k83_72 : xcd 83 72 = oCalV 7 69 1 75 := rfl
theorem r83_72 : zr 83 72 [v0, v1, v2] (.int y1 :: .ref b8 :: st) u P = ((xIs u b8 7 ∧ xcat st ≤ 8) ∧ zr 69 0 [.ref b8, .int y1] [] u (fun r u2 => zr 83 75 [v0, v1, v2] (r.toList ++ st) u2 P)) := zr_CV k83_72 rfl rfl rfl ⟨Nat.le_of_ble_eq_true rfl, Nat.succ_ne_zero _, by decide⟩ rfl
theorem k83_75 : xcd 83 75 = oPop 76 := rfl
theorem r83_75 : zr 83 75 [v0, v1, v2] (.int y1 :: st) u P = zr 83 76 [v0, v1, v2] st u P := zr_PopI k83_75
theorem k83_76 : xcd 83 76 = oJ (-1) 79 := rfl
theorem r83_76 : zr 83 76 [v0, v1, v2] st u P = zr 83 79 [v0, v1, v2] (.long (-1) :: st) u P := zr_J k83_76
theorem k83_79 : xcd 83 79 = oRj 0 := rfl
theorem r83_79 : zr 83 79 [v0, v1, v2] [.long w1] u P = P (some (.long w1)) u := zr_Rj k83_79
theorem k83_80 : xcd 83 80 = oAl 0 81 := rfl
theorem r83_80 : zr 83 80 [.ref a0, v1, v2] st u P = zr 83 81 [.ref a0, v1, v2] (.ref a0 :: st) u P := zr_Al k83_80 rfl
theorem k83_81 : xcd 83 81 = oGR 7 0 84 := rfl
theorem r83_81 : zr 83 81 [v0, v1, v2] (.ref b1 :: st) u P = (xIs u b1 7 ∧ ∃ b, xR u b1 0 = some b ∧ zr 83 84 [v0, v1, v2] (.ref b :: st) u P) := zr_GR k83_81
theorem k83_84 : xcd 83 84 = oCalV 8 89 0 87 := rfl
theorem r83_84 : zr 83 84 [v0, v1, v2] (.ref b8 :: st) u P = ((xIs u b8 8 ∧ xcat st ≤ 8) ∧ zr 89 0 [.ref b8] [] u (fun r u2 => zr 83 87 [v0, v1, v2] (r.toList ++ st) u2 P)) := zr_CV k83_84 rfl rfl rfl ⟨Nat.le_of_ble_eq_true rfl, Nat.succ_ne_zero _, by decide⟩ rfl
theorem k83_87 : xcd 83 87 = oJl 1 88 := rfl
theorem r83_87 : zr 83 87 [v0, .long j1, v2] st u P = zr 83 88 [v0, .long j1, v2] (.long j1 :: st) u P := zr_Jl k83_87 rfl
theorem k83_88 : xcd 83 88 = oRj 0 := rfl
theorem r83_88 : zr 83 88 [v0, v1, v2] [.long w1] u P = P (some (.long w1)) u := zr_Rj k83_88
theorem k84_0 : xcd 84 0 = oAl 0 1 := rfl
theorem r84_0 : zr 84 0 [.ref a0, v1, v2, v3] st u P = zr 84 1 [.ref a0, v1, v2, v3] (.ref a0 :: st) u P := zr_Al k84_0 rfl
theorem k84_1 : xcd 84 1 = oGR 7 0 4 := rfl
theorem r84_1 : zr 84 1 [v0, v1, v2, v3] (.ref b1 :: st) u P = (xIs u b1 7 ∧ ∃ b, xR u b1 0 = some b ∧ zr 84 4 [v0, v1, v2, v3] (.ref b :: st) u P) := zr_GR k84_1
theorem k84_4 : xcd 84 4 = oCalV 8 93 0 7 := rfl
theorem r84_4 : zr 84 4 [v0, v1, v2, v3] (.ref b8 :: st) u P = ((xIs u b8 8 ∧ xcat st ≤ 8) ∧ zr 93 0 [.ref b8] [] u (fun r u2 => zr 84 7 [v0, v1, v2, v3] (r.toList ++ st) u2 P)) := zr_CV k84_4 rfl rfl rfl ⟨Nat.le_of_ble_eq_true rfl, Nat.succ_ne_zero _, by decide⟩ rfl
theorem k84_7 : xcd 84 7 = oIf (fun x => decide (¬ x = 0)) 18 10 := rfl
theorem r84_7 : zr 84 7 [v0, v1, v2, v3] (.int y1 :: st) u P = (if ¬ y1 = 0 then zr 84 18 [v0, v1, v2, v3] st u P else zr 84 10 [v0, v1, v2, v3] st u P) := zr_If k84_7
theorem k84_10 : xcd 84 10 = oAl 0 11 := rfl
theorem r84_10 : zr 84 10 [.ref a0, v1, v2, v3] st u P = zr 84 11 [.ref a0, v1, v2, v3] (.ref a0 :: st) u P := zr_Al k84_10 rfl
theorem k84_11 : xcd 84 11 = oI 1 12 := rfl
theorem r84_11 : zr 84 11 [v0, v1, v2, v3] st u P = zr 84 12 [v0, v1, v2, v3] (.int 1 :: st) u P := zr_I k84_11
theorem k84_12 : xcd 84 12 = oCalV 7 69 1 15 := rfl
theorem r84_12 : zr 84 12 [v0, v1, v2, v3] (.int y1 :: .ref b8 :: st) u P = ((xIs u b8 7 ∧ xcat st ≤ 8) ∧ zr 69 0 [.ref b8, .int y1] [] u (fun r u2 => zr 84 15 [v0, v1, v2, v3] (r.toList ++ st) u2 P)) := zr_CV k84_12 rfl rfl rfl ⟨Nat.le_of_ble_eq_true rfl, Nat.succ_ne_zero _, by decide⟩ rfl
theorem k84_15 : xcd 84 15 = oPop 16 := rfl
theorem r84_15 : zr 84 15 [v0, v1, v2, v3] (.int y1 :: st) u P = zr 84 16 [v0, v1, v2, v3] st u P := zr_PopI k84_15
theorem k84_16 : xcd 84 16 = oI (-1) 17 := rfl
theorem r84_16 : zr 84 16 [v0, v1, v2, v3] st u P = zr 84 17 [v0, v1, v2, v3] (.int (-1) :: st) u P := zr_I k84_16
theorem k84_17 : xcd 84 17 = oRi 0 := rfl
theorem r84_17 : zr 84 17 [v0, v1, v2, v3] [.int y1] u P = P (some (.int y1)) u := zr_Ri k84_17
theorem k84_18 : xcd 84 18 = oAl 1 19 := rfl
theorem r84_18 : zr 84 18 [v0, .ref a1, v2, v3] st u P = zr 84 19 [v0, .ref a1, v2, v3] (.ref a1 :: st) u P := zr_Al k84_18 rfl
theorem k84_19 : xcd 84 19 = oIl 2 20 := rfl
theorem r84_19 : zr 84 19 [v0, v1, .int x2, v3] st u P = zr 84 20 [v0, v1, .int x2, v3] (.int x2 :: st) u P := zr_Il k84_19 rfl
theorem k84_20 : xcd 84 20 = oAl 0 21 := rfl
theorem r84_20 : zr 84 20 [.ref a0, v1, v2, v3] st u P = zr 84 21 [.ref a0, v1, v2, v3] (.ref a0 :: st) u P := zr_Al k84_20 rfl
theorem k84_21 : xcd 84 21 = oGR 7 0 24 := rfl
theorem r84_21 : zr 84 21 [v0, v1, v2, v3] (.ref b1 :: st) u P = (xIs u b1 7 ∧ ∃ b, xR u b1 0 = some b ∧ zr 84 24 [v0, v1, v2, v3] (.ref b :: st) u P) := zr_GR k84_21
theorem k84_24 : xcd 84 24 = oGJ 8 6 27 := rfl
theorem r84_24 : zr 84 24 [v0, v1, v2, v3] (.ref b1 :: st) u P = (xIs u b1 8 ∧ zr 84 27 [v0, v1, v2, v3] (.long (xJ u b1 6) :: st) u P) := zr_GJ k84_24
theorem k84_27 : xcd 84 27 = oCal 85 3 30 := rfl
theorem r84_27 : zr 84 27 [v0, v1, v2, v3] (.long w3 :: .int y2 :: .ref b1 :: st) u P = (xcat st ≤ 8 ∧ zr 85 0 [.ref b1, .int y2, .long w3, .null, .null] [] u (fun r u2 => zr 84 30 [v0, v1, v2, v3] (r.toList ++ st) u2 P)) := zr_CS k84_27 (Nat.le_add_left _ _) rfl rfl ⟨Nat.le_of_ble_eq_true rfl, Nat.succ_ne_zero _, by decide⟩ rfl
theorem k84_30 : xcd 84 30 = oIs 3 31 := rfl
theorem r84_30 : zr 84 30 [v0, v1, .int x2, v3] (.int y1 :: st) u P = zr 84 31 [v0, v1, .int x2, .int y1] st u P := zr_Is k84_30 ⟨Nat.le_of_ble_eq_true rfl, rfl⟩
theorem k84_31 : xcd 84 31 = oIl 3 32 := rfl
theorem r84_31 : zr 84 31 [v0, v1, v2, .int x3] st u P = zr 84 32 [v0, v1, v2, .int x3] (.int x3 :: st) u P := zr_Il k84_31 rfl
theorem k84_32 : xcd 84 32 = oIf (fun x => decide (0 ≤ x)) 43 35 := rfl
theorem r84_32 : zr 84 32 [v0, v1, v2, v3] (.int y1 :: st) u P = (if 0 ≤ y1 then zr 84 43 [v0, v1, v2, v3] st u P else zr 84 35 [v0, v1, v2, v3] st u P) := zr_If k84_32
theorem k84_35 : xcd 84 35 = oAl 0 36 := rfl
theorem r84_35 : zr 84 35 [.ref a0, v1, v2, v3] st u P = zr 84 36 [.ref a0, v1, v2, v3] (.ref a0 :: st) u P := zr_Al k84_35 rfl
theorem k84_36 : xcd 84 36 = oI 2 37 := rfl
theorem r84_36 : zr 84 36 [v0, v1, v2, v3] st u P = zr 84 37 [v0, v1, v2, v3] (.int 2 :: st) u P := zr_I k84_36
theorem k84_37 : xcd 84 37 = oCalV 7 69 1 40 := rfl
theorem r84_37 : zr 84 37 [v0, v1, v2, v3] (.int y1 :: .ref b8 :: st) u P = ((xIs u b8 7 ∧ xcat st ≤ 8) ∧ zr 69 0 [.ref b8, .int y1] [] u (fun r u2 => zr 84 40 [v0, v1, v2, v3] (r.toList ++ st) u2 P)) := zr_CV k84_37 rfl rfl rfl ⟨Nat.le_of_ble_eq_true rfl, Nat.succ_ne_zero _, by decide⟩ rfl
theorem k84_40 : xcd 84 40 = oPop 41 := rfl
theorem r84_40 : zr 84 40 [v0, v1, v2, v3] (.int y1 :: st) u P = zr 84 41 [v0, v1, v2, v3] st u P := zr_PopI k84_40
theorem k84_41 : xcd 84 41 = oI (-1) 42 := rfl
theorem r84_41 : zr 84 41 [v0, v1, v2, v3] st u P = zr 84 42 [v0, v1, v2, v3] (.int (-1) :: st) u P := zr_I k84_41
theorem k84_42 : xcd 84 42 = oRi 0 := rfl
theorem r84_42 : zr 84 42 [v0, v1, v2, v3] [.int y1] u P = P (some (.int y1)) u := zr_Ri k84_42
theorem k84_43 : xcd 84 43 = oAl 0 44 := rfl
theorem r84_43 : zr 84 43 [.ref a0, v1, v2, v3] st u P = zr 84 44 [.ref a0, v1, v2, v3] (.ref a0 :: st) u P := zr_Al k84_43 rfl
theorem k84_44 : xcd 84 44 = oGR 7 0 47 := rfl
theorem r84_44 : zr 84 44 [v0, v1, v2, v3] (.ref b1 :: st) u P = (xIs u b1 7 ∧ ∃ b, xR u b1 0 = some b ∧ zr 84 47 [v0, v1, v2, v3] (.ref b :: st) u P) := zr_GR k84_44
theorem k84_47 : xcd 84 47 = oCalV 8 89 0 50 := rfl
theorem r84_47 : zr 84 47 [v0, v1, v2, v3] (.ref b8 :: st) u P = ((xIs u b8 8 ∧ xcat st ≤ 8) ∧ zr 89 0 [.ref b8] [] u (fun r u2 => zr 84 50 [v0, v1, v2, v3] (r.toList ++ st) u2 P)) := zr_CV k84_47 rfl rfl rfl ⟨Nat.le_of_ble_eq_true rfl, Nat.succ_ne_zero _, by decide⟩ rfl
theorem k84_50 : xcd 84 50 = oIl 3 51 := rfl
theorem r84_50 : zr 84 50 [v0, v1, v2, .int x3] st u P = zr 84 51 [v0, v1, v2, .int x3] (.int x3 :: st) u P := zr_Il k84_50 rfl
theorem k84_51 : xcd 84 51 = oRi 0 := rfl
theorem r84_51 : zr 84 51 [v0, v1, v2, v3] [.int y1] u P = P (some (.int y1)) u := zr_Ri k84_51
theorem k85_0 : xcd 85 0 = oI 0 1 := rfl
theorem r85_0 : zr 85 0 [v0, v1, v2, v3, v4] st u P = zr 85 1 [v0, v1, v2, v3, v4] (.int 0 :: st) u P := zr_I k85_0
theorem k85_1 : xcd 85 1 = oIs 4 3 := rfl
theorem r85_1 : zr 85 1 [v0, v1, v2, .null, v4] (.int y1 :: st) u P = zr 85 3 [v0, v1, v2, .null, .int y1] st u P := zr_Is k85_1 ⟨Nat.le_of_ble_eq_true rfl, rfl⟩
theorem k85_3 : xcd 85 3 = oIl 4 5 := rfl
theorem r85_3 : zr 85 3 [v0, v1, v2, v3, .int x4] st u P = zr 85 5 [v0, v1, v2, v3, .int x4] (.int x4 :: st) u P := zr_Il k85_3 rfl
theorem k85_5 : xcd 85 5 = oIl 1 6 := rfl
theorem r85_5 : zr 85 5 [v0, .int x1, v2, v3, v4] st u P = zr 85 6 [v0, .int x1, v2, v3, v4] (.int x1 :: st) u P := zr_Il k85_5 rfl
theorem k85_6 : xcd 85 6 = oCmp (fun x y => decide (y ≤ x)) 27 9 := rfl
theorem r85_6 : zr 85 6 [v0, v1, v2, v3, v4] (.int y1 :: .int y2 :: st) u P = (if y1 ≤ y2 then zr 85 27 [v0, v1, v2, v3, v4] st u P else zr 85 9 [v0, v1, v2, v3, v4] st u P) := zr_Cmp k85_6
theorem k85_9 : xcd 85 9 = oAl 0 10 := rfl
theorem r85_9 : zr 85 9 [.ref a0, v1, v2, v3, v4] st u P = zr 85 10 [.ref a0, v1, v2, v3, v4] (.ref a0 :: st) u P := zr_Al k85_9 rfl
theorem k85_10 : xcd 85 10 = oIl 4 12 := rfl
theorem r85_10 : zr 85 10 [v0, v1, v2, v3, .int x4] st u P = zr 85 12 [v0, v1, v2, v3, .int x4] (.int x4 :: st) u P := zr_Il k85_10 rfl
theorem k85_12 : xcd 85 12 = oLdJ 13 := rfl
theorem r85_12 : zr 85 12 [v0, v1, v2, v3, v4] (.int y1 :: .ref b1 :: st) u P = ((xIs u b1 14 ∧ xinb y1 (xN u b1)) ∧ zr 85 13 [v0, v1, v2, v3, v4] (.long (xJ u b1 (xix y1)) :: st) u P) := zr_LdJ k85_12
theorem k85_13 : xcd 85 13 = oJl 2 14 := rfl
theorem r85_13 : zr 85 13 [v0, v1, .long j2, v3, v4] st u P = zr 85 14 [v0, v1, .long j2, v3, v4] (.long j2 :: st) u P := zr_Jl k85_13 rfl
theorem k85_14 : xcd 85 14 = oLcmp 15 := rfl
theorem r85_14 : zr 85 14 [v0, v1, v2, v3, v4] (.long w1 :: .long w2 :: st) u P = zr 85 15 [v0, v1, v2, v3, v4] (.int (lg_cmp w2 w1) :: st) u P := zr_Lcmp k85_14
theorem k85_15 : xcd 85 15 = oIf (fun x => decide (¬ x = 0)) 21 18 := rfl
theorem r85_15 : zr 85 15 [v0, v1, v2, v3, v4] (.int y1 :: st) u P = (if ¬ y1 = 0 then zr 85 21 [v0, v1, v2, v3, v4] st u P else zr 85 18 [v0, v1, v2, v3, v4] st u P) := zr_If k85_15
theorem k85_18 : xcd 85 18 = oIl 4 20 := rfl
theorem r85_18 : zr 85 18 [v0, v1, v2, v3, .int x4] st u P = zr 85 20 [v0, v1, v2, v3, .int x4] (.int x4 :: st) u P := zr_Il k85_18 rfl
theorem k85_20 : xcd 85 20 = oRi 0 := rfl
theorem r85_20 : zr 85 20 [v0, v1, v2, v3, v4] [.int y1] u P = P (some (.int y1)) u := zr_Ri k85_20
theorem k85_21 : xcd 85 21 = oInc 4 1 24 := rfl
theorem r85_21 : zr 85 21 [v0, v1, v2, .null, .int x4] st u P = zr 85 24 [v0, v1, v2, .null, .int (x4 + 1)] st u P := zr_Inc k85_21 rfl rfl
theorem k85_24 : xcd 85 24 = oGoto 3 := rfl
theorem r85_24 : zr 85 24 [v0, v1, v2, v3, v4] st u P = zr 85 3 [v0, v1, v2, v3, v4] st u P := zr_Goto k85_24
theorem k85_27 : xcd 85 27 = oI (-1) 28 := rfl
theorem r85_27 : zr 85 27 [v0, v1, v2, v3, v4] st u P = zr 85 28 [v0, v1, v2, v3, v4] (.int (-1) :: st) u P := zr_I k85_27
theorem k85_28 : xcd 85 28 = oRi 0 := rfl
theorem r85_28 : zr 85 28 [v0, v1, v2, v3, v4] [.int y1] u P = P (some (.int y1)) u := zr_Ri k85_28
theorem k87_0 : xcd 87 0 = oI 24 2 := rfl
theorem r87_0 : zr 87 0 [v0, v1, v2] st u P = zr 87 2 [v0, v1, v2] (.int 24 :: st) u P := zr_I k87_0
theorem k87_2 : xcd 87 2 = oIs 2 3 := rfl
theorem r87_2 : zr 87 2 [v0, .int x1, v2] (.int y1 :: st) u P = zr 87 3 [v0, .int x1, .int y1] st u P := zr_Is k87_2 ⟨Nat.le_of_ble_eq_true rfl, rfl⟩
theorem k87_3 : xcd 87 3 = oIl 2 4 := rfl
theorem r87_3 : zr 87 3 [v0, v1, .int x2] st u P = zr 87 4 [v0, v1, .int x2] (.int x2 :: st) u P := zr_Il k87_3 rfl
theorem k87_4 : xcd 87 4 = oIf (fun x => decide (x < 0)) 36 7 := rfl
theorem r87_4 : zr 87 4 [v0, v1, v2] (.int y1 :: st) u P = (if y1 < 0 then zr 87 36 [v0, v1, v2] st u P else zr 87 7 [v0, v1, v2] st u P) := zr_If k87_4
theorem k87_7 : xcd 87 7 = oAl 0 8 := rfl
theorem r87_7 : zr 87 7 [.ref a0, v1, v2] st u P = zr 87 8 [.ref a0, v1, v2] (.ref a0 :: st) u P := zr_Al k87_7 rfl
theorem k87_8 : xcd 87 8 = oGR 8 0 11 := rfl
theorem r87_8 : zr 87 8 [v0, v1, v2] (.ref b1 :: st) u P = (xIs u b1 8 ∧ ∃ b, xR u b1 0 = some b ∧ zr 87 11 [v0, v1, v2] (.ref b :: st) u P) := zr_GR k87_8
theorem k87_11 : xcd 87 11 = oAl 0 12 := rfl
theorem r87_11 : zr 87 11 [.ref a0, v1, v2] st u P = zr 87 12 [.ref a0, v1, v2] (.ref a0 :: st) u P := zr_Al k87_11 rfl
theorem k87_12 : xcd 87 12 = oGI 8 1 15 := rfl
theorem r87_12 : zr 87 12 [v0, v1, v2] (.ref b1 :: st) u P = (xIs u b1 8 ∧ zr 87 15 [v0, v1, v2] (.int (xI u b1 1) :: st) u P) := zr_GI k87_12
theorem k87_15 : xcd 87 15 = oIl 1 16 := rfl
theorem r87_15 : zr 87 15 [v0, .int x1, v2] st u P = zr 87 16 [v0, .int x1, v2] (.int x1 :: st) u P := zr_Il k87_15 rfl
theorem k87_16 : xcd 87 16 = oIl 2 17 := rfl
theorem r87_16 : zr 87 16 [v0, v1, .int x2] st u P = zr 87 17 [v0, v1, .int x2] (.int x2 :: st) u P := zr_Il k87_16 rfl
theorem k87_17 : xcd 87 17 = oB (fun x y => x >>> (y &&& 31)) 18 := rfl
theorem r87_17 : zr 87 17 [v0, v1, v2] (.int y1 :: .int y2 :: st) u P = zr 87 18 [v0, v1, v2] (.int (y2 >>> (y1 &&& 31)) :: st) u P := zr_B k87_17
theorem k87_18 : xcd 87 18 = oI2b 19 := rfl
theorem r87_18 : zr 87 18 [v0, v1, v2] (.int y1 :: st) u P = zr 87 19 [v0, v1, v2] (.int y1.toInt8.toInt32 :: st) u P := zr_I2b k87_18
theorem k87_19 : xcd 87 19 = oSt 12 (fun x => vp_nar .byte x) 20 := rfl
theorem r87_19 : zr 87 19 [v0, v1, v2] (.int y2 :: .int y1 :: .ref b1 :: st) u P = ((xIs u b1 12 ∧ xinb y1 (xN u b1)) ∧ zr 87 20 [v0, v1, v2] st (xsI u b1 (xix y1) (vp_nar .byte y2)) P) := zr_St k87_19
theorem k87_20 : xcd 87 20 = oAl 0 21 := rfl
theorem r87_20 : zr 87 20 [.ref a0, v1, v2] st u P = zr 87 21 [.ref a0, v1, v2] (.ref a0 :: st) u P := zr_Al k87_20 rfl
theorem k87_21 : xcd 87 21 = oDup 22 := rfl
theorem r87_21 : zr 87 21 [v0, v1, v2] (.ref b1 :: st) u P = zr 87 22 [v0, v1, v2] (.ref b1 :: .ref b1 :: st) u P := zr_DupA k87_21
theorem k87_22 : xcd 87 22 = oGI 8 1 25 := rfl
theorem r87_22 : zr 87 22 [v0, v1, v2] (.ref b1 :: st) u P = (xIs u b1 8 ∧ zr 87 25 [v0, v1, v2] (.int (xI u b1 1) :: st) u P) := zr_GI k87_22
theorem k87_25 : xcd 87 25 = oI 1 26 := rfl
theorem r87_25 : zr 87 25 [v0, v1, v2] st u P = zr 87 26 [v0, v1, v2] (.int 1 :: st) u P := zr_I k87_25
theorem k87_26 : xcd 87 26 = oB (fun x y => x + y) 27 := rfl
theorem r87_26 : zr 87 26 [v0, v1, v2] (.int y1 :: .int y2 :: st) u P = zr 87 27 [v0, v1, v2] (.int (y2 + y1) :: st) u P := zr_B k87_26
theorem k87_27 : xcd 87 27 = oPI 8 1 30 := rfl
theorem r87_27 : zr 87 27 [v0, v1, v2] (.int y1 :: .ref b1 :: st) u P = (xIs u b1 8 ∧ zr 87 30 [v0, v1, v2] st (xsI u b1 1 y1) P) := zr_PI k87_27
theorem k87_30 : xcd 87 30 = oInc 2 (-8) 33 := rfl
theorem r87_30 : zr 87 30 [v0, .int x1, .int x2] st u P = zr 87 33 [v0, .int x1, .int (x2 + (-8))] st u P := zr_Inc k87_30 rfl rfl
theorem k87_33 : xcd 87 33 = oGoto 3 := rfl
theorem r87_33 : zr 87 33 [v0, v1, v2] st u P = zr 87 3 [v0, v1, v2] st u P := zr_Goto k87_33
theorem k87_36 : xcd 87 36 = oRv 0 := rfl
theorem r87_36 : zr 87 36 [v0, v1, v2] [] u P = P none u := zr_Rv k87_36
end
