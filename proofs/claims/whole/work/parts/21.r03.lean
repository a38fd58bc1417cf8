/-! rows of X10_free, X10_cap, X10_stackRate, X10_cheapest, X10_due, X10_bestDay, X10_line, X10_part, X10_entries, X10_entry, X10_taxes, X10_filings, X10_filing, X10_pays, X10_pending, X10_wrong, X10_owed, X10_file, X10_sale, X10_refund, X10_move, X10_turn, X10_undo, X10_size, X10_trouble, X10_grant, X10_refuse, X10_refuseFar, X10_isPlace, X10_isPlaceOrAll, X10_isClass, X10_isLine, X10_isFiling, X10_isPoint, X10_isSale, X10_isDay, X10_within, X10_bit, X10_dueOfTrial, X10_bestDayOfTrial, X10_shortBy, X10_takeBack, X11_thrown, X11_refused, X11_refusedLow, X11_good, X11_in, X11_byteAt, X11_next, X11_nextWord -/
section
variable {u : xMem} {P : Option Value → xMem → Prop} {st : List Value} {v0 v1 v2 v3 v4 v5 v6 v7 v8 v9 v10 v11 v12 v13 v14 v15 : Value} {x0 x1 x2 x3 x4 x5 x6 x7 x8 x9 x10 x11 x12 x13 x14 x15 : Int32} {a0 a1 a2 a3 a4 a5 a6 a7 a8 a9 a10 a11 a12 a13 a14 a15 : Nat} {j0 j1 j2 j3 j4 j5 j6 j7 j8 j9 j10 j11 j12 j13 j14 j15 : Int64} {y1 y2 y3 y4 y5 y6 y7 y8 : Int32} {b1 b2 b3 b4 b5 b6 b7 b8 : Nat} {w1 w2 w3 w4 : Int64}
theorem k128_0 : xcd 128 0 = oAl 0 1 := rfl
theorem r128_0 : zr 128 0 [.ref a0, v1, v2, v3, v4] st u P = zr 128 1 [.ref a0, v1, v2, v3, v4] (.ref a0 :: st) u P := zr_Al k128_0 rfl
theorem k128_1 : xcd 128 1 = oIl 1 2 := rfl
theorem r128_1 : zr 128 1 [v0, .int x1, v2, v3, v4] st u P = zr 128 2 [v0, .int x1, v2, v3, v4] (.int x1 :: st) u P := zr_Il k128_1 rfl
theorem k128_2 : xcd 128 2 = oCalV 10 156 1 5 := rfl
theorem r128_2 : zr 128 2 [v0, v1, v2, v3, v4] (.int y1 :: .ref b8 :: st) u P = ((xIs u b8 10 ∧ xcat st ≤ 8) ∧ zr 156 0 [.ref b8, .int y1] [] u (fun r u2 => zr 128 5 [v0, v1, v2, v3, v4] (r.toList ++ st) u2 P)) := zr_CV k128_2 rfl rfl rfl ⟨Nat.le_of_ble_eq_true rfl, Nat.succ_ne_zero _, by decide⟩ rfl
theorem k128_5 : xcd 128 5 = oIf (fun x => decide (x = 0)) 16 8 := rfl
theorem r128_5 : zr 128 5 [v0, v1, v2, v3, v4] (.int y1 :: st) u P = (if y1 = 0 then zr 128 16 [v0, v1, v2, v3, v4] st u P else zr 128 8 [v0, v1, v2, v3, v4] st u P) := zr_If k128_5
theorem k128_8 : xcd 128 8 = oAl 0 9 := rfl
theorem r128_8 : zr 128 8 [.ref a0, v1, v2, v3, v4] st u P = zr 128 9 [.ref a0, v1, v2, v3, v4] (.ref a0 :: st) u P := zr_Al k128_8 rfl
theorem k128_9 : xcd 128 9 = oIl 2 10 := rfl
theorem r128_9 : zr 128 9 [v0, v1, .int x2, v3, v4] st u P = zr 128 10 [v0, v1, .int x2, v3, v4] (.int x2 :: st) u P := zr_Il k128_9 rfl
theorem k128_10 : xcd 128 10 = oCalV 10 158 1 13 := rfl
theorem r128_10 : zr 128 10 [v0, v1, v2, v3, v4] (.int y1 :: .ref b8 :: st) u P = ((xIs u b8 10 ∧ xcat st ≤ 8) ∧ zr 158 0 [.ref b8, .int y1] [] u (fun r u2 => zr 128 13 [v0, v1, v2, v3, v4] (r.toList ++ st) u2 P)) := zr_CV k128_10 rfl rfl rfl ⟨Nat.le_of_ble_eq_true rfl, Nat.succ_ne_zero _, by decide⟩ rfl
theorem k128_13 : xcd 128 13 = oIf (fun x => decide (¬ x = 0)) 22 16 := rfl
theorem r128_13 : zr 128 13 [v0, v1, v2, v3, v4] (.int y1 :: st) u P = (if ¬ y1 = 0 then zr 128 22 [v0, v1, v2, v3, v4] st u P else zr 128 16 [v0, v1, v2, v3, v4] st u P) := zr_If k128_13
theorem k128_16 : xcd 128 16 = oAl 0 17 := rfl
theorem r128_16 : zr 128 16 [.ref a0, v1, v2, v3, v4] st u P = zr 128 17 [.ref a0, v1, v2, v3, v4] (.ref a0 :: st) u P := zr_Al k128_16 rfl
theorem k128_17 : xcd 128 17 = oI 1 18 := rfl
theorem r128_17 : zr 128 17 [v0, v1, v2, v3, v4] st u P = zr 128 18 [v0, v1, v2, v3, v4] (.int 1 :: st) u P := zr_I k128_17
theorem k128_18 : xcd 128 18 = oCalV 10 154 1 21 := rfl
theorem r128_18 : zr 128 18 [v0, v1, v2, v3, v4] (.int y1 :: .ref b8 :: st) u P = ((xIs u b8 10 ∧ xcat st ≤ 8) ∧ zr 154 0 [.ref b8, .int y1] [] u (fun r u2 => zr 128 21 [v0, v1, v2, v3, v4] (r.toList ++ st) u2 P)) := zr_CV k128_18 rfl rfl rfl ⟨Nat.le_of_ble_eq_true rfl, Nat.succ_ne_zero _, by decide⟩ rfl
theorem k128_21 : xcd 128 21 = oRi 0 := rfl
theorem r128_21 : zr 128 21 [v0, v1, v2, v3, v4] [.int y1] u P = P (some (.int y1)) u := zr_Ri k128_21
theorem k128_22 : xcd 128 22 = oIl 3 23 := rfl
theorem r128_22 : zr 128 22 [v0, v1, v2, .int x3, v4] st u P = zr 128 23 [v0, v1, v2, .int x3, v4] (.int x3 :: st) u P := zr_Il k128_22 rfl
theorem k128_23 : xcd 128 23 = oCal 163 1 26 := rfl
theorem r128_23 : zr 128 23 [v0, v1, v2, v3, v4] (.int y1 :: st) u P = (xcat st ≤ 8 ∧ zr 163 0 [.int y1] [] u (fun r u2 => zr 128 26 [v0, v1, v2, v3, v4] (r.toList ++ st) u2 P)) := zr_CS k128_23 (Nat.le_add_left _ _) rfl rfl ⟨Nat.le_of_ble_eq_true rfl, Nat.succ_ne_zero _, by decide⟩ rfl
theorem k128_26 : xcd 128 26 = oIf (fun x => decide (x = 0)) 41 29 := rfl
theorem r128_26 : zr 128 26 [v0, v1, v2, v3, v4] (.int y1 :: st) u P = (if y1 = 0 then zr 128 41 [v0, v1, v2, v3, v4] st u P else zr 128 29 [v0, v1, v2, v3, v4] st u P) := zr_If k128_26
theorem k128_29 : xcd 128 29 = oIl 4 31 := rfl
theorem r128_29 : zr 128 29 [v0, v1, v2, v3, .int x4] st u P = zr 128 31 [v0, v1, v2, v3, .int x4] (.int x4 :: st) u P := zr_Il k128_29 rfl
theorem k128_31 : xcd 128 31 = oI 1 32 := rfl
theorem r128_31 : zr 128 31 [v0, v1, v2, v3, v4] st u P = zr 128 32 [v0, v1, v2, v3, v4] (.int 1 :: st) u P := zr_I k128_31
theorem k128_32 : xcd 128 32 = oI 9999 35 := rfl
theorem r128_32 : zr 128 32 [v0, v1, v2, v3, v4] st u P = zr 128 35 [v0, v1, v2, v3, v4] (.int 9999 :: st) u P := zr_I k128_32
theorem k128_35 : xcd 128 35 = oCal 164 3 38 := rfl
theorem r128_35 : zr 128 35 [v0, v1, v2, v3, v4] (.int y3 :: .int y2 :: .int y1 :: st) u P = (xcat st ≤ 8 ∧ zr 164 0 [.int y1, .int y2, .int y3] [] u (fun r u2 => zr 128 38 [v0, v1, v2, v3, v4] (r.toList ++ st) u2 P)) := zr_CS k128_35 (Nat.le_add_left _ _) rfl rfl ⟨Nat.le_of_ble_eq_true rfl, Nat.succ_ne_zero _, by decide⟩ rfl
theorem k128_38 : xcd 128 38 = oIf (fun x => decide (¬ x = 0)) 47 41 := rfl
theorem r128_38 : zr 128 38 [v0, v1, v2, v3, v4] (.int y1 :: st) u P = (if ¬ y1 = 0 then zr 128 47 [v0, v1, v2, v3, v4] st u P else zr 128 41 [v0, v1, v2, v3, v4] st u P) := zr_If k128_38
theorem k128_41 : xcd 128 41 = oAl 0 42 := rfl
theorem r128_41 : zr 128 41 [.ref a0, v1, v2, v3, v4] st u P = zr 128 42 [.ref a0, v1, v2, v3, v4] (.ref a0 :: st) u P := zr_Al k128_41 rfl
theorem k128_42 : xcd 128 42 = oI 2 43 := rfl
theorem r128_42 : zr 128 42 [v0, v1, v2, v3, v4] st u P = zr 128 43 [v0, v1, v2, v3, v4] (.int 2 :: st) u P := zr_I k128_42
theorem k128_43 : xcd 128 43 = oCalV 10 154 1 46 := rfl
theorem r128_43 : zr 128 43 [v0, v1, v2, v3, v4] (.int y1 :: .ref b8 :: st) u P = ((xIs u b8 10 ∧ xcat st ≤ 8) ∧ zr 154 0 [.ref b8, .int y1] [] u (fun r u2 => zr 128 46 [v0, v1, v2, v3, v4] (r.toList ++ st) u2 P)) := zr_CV k128_43 rfl rfl rfl ⟨Nat.le_of_ble_eq_true rfl, Nat.succ_ne_zero _, by decide⟩ rfl
theorem k128_46 : xcd 128 46 = oRi 0 := rfl
theorem r128_46 : zr 128 46 [v0, v1, v2, v3, v4] [.int y1] u P = P (some (.int y1)) u := zr_Ri k128_46
theorem k128_47 : xcd 128 47 = oAl 0 48 := rfl
theorem r128_47 : zr 128 47 [.ref a0, v1, v2, v3, v4] st u P = zr 128 48 [.ref a0, v1, v2, v3, v4] (.ref a0 :: st) u P := zr_Al k128_47 rfl
theorem k128_48 : xcd 128 48 = oAl 0 49 := rfl
theorem r128_48 : zr 128 48 [.ref a0, v1, v2, v3, v4] st u P = zr 128 49 [.ref a0, v1, v2, v3, v4] (.ref a0 :: st) u P := zr_Al k128_48 rfl
theorem k128_49 : xcd 128 49 = oGR 10 1 52 := rfl
theorem r128_49 : zr 128 49 [v0, v1, v2, v3, v4] (.ref b1 :: st) u P = (xIs u b1 10 ∧ ∃ b, xR u b1 1 = some b ∧ zr 128 52 [v0, v1, v2, v3, v4] (.ref b :: st) u P) := zr_GR k128_49
theorem k128_52 : xcd 128 52 = oGR 3 1 55 := rfl
theorem r128_52 : zr 128 52 [v0, v1, v2, v3, v4] (.ref b1 :: st) u P = (xIs u b1 3 ∧ ∃ b, xR u b1 1 = some b ∧ zr 128 55 [v0, v1, v2, v3, v4] (.ref b :: st) u P) := zr_GR k128_52
theorem k128_55 : xcd 128 55 = oIl 1 56 := rfl
theorem r128_55 : zr 128 55 [v0, .int x1, v2, v3, v4] st u P = zr 128 56 [v0, .int x1, v2, v3, v4] (.int x1 :: st) u P := zr_Il k128_55 rfl
theorem k128_56 : xcd 128 56 = oIl 2 57 := rfl
theorem r128_56 : zr 128 56 [v0, v1, .int x2, v3, v4] st u P = zr 128 57 [v0, v1, .int x2, v3, v4] (.int x2 :: st) u P := zr_Il k128_56 rfl
theorem k128_57 : xcd 128 57 = oIl 3 58 := rfl
theorem r128_57 : zr 128 57 [v0, v1, v2, .int x3, v4] st u P = zr 128 58 [v0, v1, v2, .int x3, v4] (.int x3 :: st) u P := zr_Il k128_57 rfl
theorem k128_58 : xcd 128 58 = oIl 4 60 := rfl
theorem r128_58 : zr 128 58 [v0, v1, v2, v3, .int x4] st u P = zr 128 60 [v0, v1, v2, v3, .int x4] (.int x4 :: st) u P := zr_Il k128_58 rfl
theorem k128_60 : xcd 128 60 = oCalV 9 100 4 63 := rfl
theorem r128_60 : zr 128 60 [v0, v1, v2, v3, v4] (.int y4 :: .int y3 :: .int y2 :: .int y1 :: .ref b8 :: st) u P = ((xIs u b8 9 ∧ xcat st ≤ 8) ∧ zr 100 0 [.ref b8, .int y1, .int y2, .int y3, .int y4, .null] [] u (fun r u2 => zr 128 63 [v0, v1, v2, v3, v4] (r.toList ++ st) u2 P)) := zr_CV k128_60 rfl rfl rfl ⟨Nat.le_of_ble_eq_true rfl, Nat.succ_ne_zero _, by decide⟩ rfl
theorem k128_63 : xcd 128 63 = oCal 165 1 66 := rfl
theorem r128_63 : zr 128 63 [v0, v1, v2, v3, v4] (.int y1 :: st) u P = (xcat st ≤ 8 ∧ zr 165 0 [.int y1] [] u (fun r u2 => zr 128 66 [v0, v1, v2, v3, v4] (r.toList ++ st) u2 P)) := zr_CS k128_63 (Nat.le_add_left _ _) rfl rfl ⟨Nat.le_of_ble_eq_true rfl, Nat.succ_ne_zero _, by decide⟩ rfl
theorem k128_66 : xcd 128 66 = oCalV 10 153 1 69 := rfl
theorem r128_66 : zr 128 66 [v0, v1, v2, v3, v4] (.int y1 :: .ref b8 :: st) u P = ((xIs u b8 10 ∧ xcat st ≤ 8) ∧ zr 153 0 [.ref b8, .int y1] [] u (fun r u2 => zr 128 69 [v0, v1, v2, v3, v4] (r.toList ++ st) u2 P)) := zr_CV k128_66 rfl rfl rfl ⟨Nat.le_of_ble_eq_true rfl, Nat.succ_ne_zero _, by decide⟩ rfl
theorem k128_69 : xcd 128 69 = oRi 0 := rfl
theorem r128_69 : zr 128 69 [v0, v1, v2, v3, v4] [.int y1] u P = P (some (.int y1)) u := zr_Ri k128_69
theorem k129_0 : xcd 129 0 = oAl 0 1 := rfl
theorem r129_0 : zr 129 0 [.ref a0, v1, v2] st u P = zr 129 1 [.ref a0, v1, v2] (.ref a0 :: st) u P := zr_Al k129_0 rfl
theorem k129_1 : xcd 129 1 = oIl 1 2 := rfl
theorem r129_1 : zr 129 1 [v0, .int x1, v2] st u P = zr 129 2 [v0, .int x1, v2] (.int x1 :: st) u P := zr_Il k129_1 rfl
theorem k129_2 : xcd 129 2 = oCalV 10 156 1 5 := rfl
theorem r129_2 : zr 129 2 [v0, v1, v2] (.int y1 :: .ref b8 :: st) u P = ((xIs u b8 10 ∧ xcat st ≤ 8) ∧ zr 156 0 [.ref b8, .int y1] [] u (fun r u2 => zr 129 5 [v0, v1, v2] (r.toList ++ st) u2 P)) := zr_CV k129_2 rfl rfl rfl ⟨Nat.le_of_ble_eq_true rfl, Nat.succ_ne_zero _, by decide⟩ rfl
theorem k129_5 : xcd 129 5 = oIf (fun x => decide (x = 0)) 16 8 := rfl
theorem r129_5 : zr 129 5 [v0, v1, v2] (.int y1 :: st) u P = (if y1 = 0 then zr 129 16 [v0, v1, v2] st u P else zr 129 8 [v0, v1, v2] st u P) := zr_If k129_5
theorem k129_8 : xcd 129 8 = oAl 0 9 := rfl
theorem r129_8 : zr 129 8 [.ref a0, v1, v2] st u P = zr 129 9 [.ref a0, v1, v2] (.ref a0 :: st) u P := zr_Al k129_8 rfl
theorem k129_9 : xcd 129 9 = oIl 2 10 := rfl
theorem r129_9 : zr 129 9 [v0, v1, .int x2] st u P = zr 129 10 [v0, v1, .int x2] (.int x2 :: st) u P := zr_Il k129_9 rfl
theorem k129_10 : xcd 129 10 = oCalV 10 158 1 13 := rfl
theorem r129_10 : zr 129 10 [v0, v1, v2] (.int y1 :: .ref b8 :: st) u P = ((xIs u b8 10 ∧ xcat st ≤ 8) ∧ zr 158 0 [.ref b8, .int y1] [] u (fun r u2 => zr 129 13 [v0, v1, v2] (r.toList ++ st) u2 P)) := zr_CV k129_10 rfl rfl rfl ⟨Nat.le_of_ble_eq_true rfl, Nat.succ_ne_zero _, by decide⟩ rfl
theorem k129_13 : xcd 129 13 = oIf (fun x => decide (¬ x = 0)) 22 16 := rfl
theorem r129_13 : zr 129 13 [v0, v1, v2] (.int y1 :: st) u P = (if ¬ y1 = 0 then zr 129 22 [v0, v1, v2] st u P else zr 129 16 [v0, v1, v2] st u P) := zr_If k129_13
theorem k129_16 : xcd 129 16 = oAl 0 17 := rfl
theorem r129_16 : zr 129 16 [.ref a0, v1, v2] st u P = zr 129 17 [.ref a0, v1, v2] (.ref a0 :: st) u P := zr_Al k129_16 rfl
theorem k129_17 : xcd 129 17 = oI 1 18 := rfl
theorem r129_17 : zr 129 17 [v0, v1, v2] st u P = zr 129 18 [v0, v1, v2] (.int 1 :: st) u P := zr_I k129_17
theorem k129_18 : xcd 129 18 = oCalV 10 154 1 21 := rfl
theorem r129_18 : zr 129 18 [v0, v1, v2] (.int y1 :: .ref b8 :: st) u P = ((xIs u b8 10 ∧ xcat st ≤ 8) ∧ zr 154 0 [.ref b8, .int y1] [] u (fun r u2 => zr 129 21 [v0, v1, v2] (r.toList ++ st) u2 P)) := zr_CV k129_18 rfl rfl rfl ⟨Nat.le_of_ble_eq_true rfl, Nat.succ_ne_zero _, by decide⟩ rfl
theorem k129_21 : xcd 129 21 = oRi 0 := rfl
theorem r129_21 : zr 129 21 [v0, v1, v2] [.int y1] u P = P (some (.int y1)) u := zr_Ri k129_21
theorem k129_22 : xcd 129 22 = oAl 0 23 := rfl
theorem r129_22 : zr 129 22 [.ref a0, v1, v2] st u P = zr 129 23 [.ref a0, v1, v2] (.ref a0 :: st) u P := zr_Al k129_22 rfl
theorem k129_23 : xcd 129 23 = oAl 0 24 := rfl
theorem r129_23 : zr 129 23 [.ref a0, v1, v2] st u P = zr 129 24 [.ref a0, v1, v2] (.ref a0 :: st) u P := zr_Al k129_23 rfl
theorem k129_24 : xcd 129 24 = oGR 10 1 27 := rfl
theorem r129_24 : zr 129 24 [v0, v1, v2] (.ref b1 :: st) u P = (xIs u b1 10 ∧ ∃ b, xR u b1 1 = some b ∧ zr 129 27 [v0, v1, v2] (.ref b :: st) u P) := zr_GR k129_24
theorem k129_27 : xcd 129 27 = oGR 3 1 30 := rfl
theorem r129_27 : zr 129 27 [v0, v1, v2] (.ref b1 :: st) u P = (xIs u b1 3 ∧ ∃ b, xR u b1 1 = some b ∧ zr 129 30 [v0, v1, v2] (.ref b :: st) u P) := zr_GR k129_27
theorem k129_30 : xcd 129 30 = oIl 1 31 := rfl
theorem r129_30 : zr 129 30 [v0, .int x1, v2] st u P = zr 129 31 [v0, .int x1, v2] (.int x1 :: st) u P := zr_Il k129_30 rfl
theorem k129_31 : xcd 129 31 = oIl 2 32 := rfl
theorem r129_31 : zr 129 31 [v0, v1, .int x2] st u P = zr 129 32 [v0, v1, .int x2] (.int x2 :: st) u P := zr_Il k129_31 rfl
theorem k129_32 : xcd 129 32 = oCalV 9 102 2 35 := rfl
theorem r129_32 : zr 129 32 [v0, v1, v2] (.int y2 :: .int y1 :: .ref b8 :: st) u P = ((xIs u b8 9 ∧ xcat st ≤ 8) ∧ zr 102 0 [.ref b8, .int y1, .int y2, .null, .null, .null] [] u (fun r u2 => zr 129 35 [v0, v1, v2] (r.toList ++ st) u2 P)) := zr_CV k129_32 rfl rfl rfl ⟨Nat.le_of_ble_eq_true rfl, Nat.succ_ne_zero _, by decide⟩ rfl
theorem k129_35 : xcd 129 35 = oCalV 10 153 1 38 := rfl
theorem r129_35 : zr 129 35 [v0, v1, v2] (.int y1 :: .ref b8 :: st) u P = ((xIs u b8 10 ∧ xcat st ≤ 8) ∧ zr 153 0 [.ref b8, .int y1] [] u (fun r u2 => zr 129 38 [v0, v1, v2] (r.toList ++ st) u2 P)) := zr_CV k129_35 rfl rfl rfl ⟨Nat.le_of_ble_eq_true rfl, Nat.succ_ne_zero _, by decide⟩ rfl
theorem k129_38 : xcd 129 38 = oRi 0 := rfl
theorem r129_38 : zr 129 38 [v0, v1, v2] [.int y1] u P = P (some (.int y1)) u := zr_Ri k129_38
theorem k130_0 : xcd 130 0 = oAl 0 1 := rfl
theorem r130_0 : zr 130 0 [.ref a0, v1, v2, v3, v4] st u P = zr 130 1 [.ref a0, v1, v2, v3, v4] (.ref a0 :: st) u P := zr_Al k130_0 rfl
theorem k130_1 : xcd 130 1 = oIl 4 3 := rfl
theorem r130_1 : zr 130 1 [v0, v1, v2, v3, .int x4] st u P = zr 130 3 [v0, v1, v2, v3, .int x4] (.int x4 :: st) u P := zr_Il k130_1 rfl
theorem k130_3 : xcd 130 3 = oCalV 10 158 1 6 := rfl
theorem r130_3 : zr 130 3 [v0, v1, v2, v3, v4] (.int y1 :: .ref b8 :: st) u P = ((xIs u b8 10 ∧ xcat st ≤ 8) ∧ zr 158 0 [.ref b8, .int y1] [] u (fun r u2 => zr 130 6 [v0, v1, v2, v3, v4] (r.toList ++ st) u2 P)) := zr_CV k130_3 rfl rfl rfl ⟨Nat.le_of_ble_eq_true rfl, Nat.succ_ne_zero _, by decide⟩ rfl
theorem k130_6 : xcd 130 6 = oIf (fun x => decide (¬ x = 0)) 15 9 := rfl
theorem r130_6 : zr 130 6 [v0, v1, v2, v3, v4] (.int y1 :: st) u P = (if ¬ y1 = 0 then zr 130 15 [v0, v1, v2, v3, v4] st u P else zr 130 9 [v0, v1, v2, v3, v4] st u P) := zr_If k130_6
theorem k130_9 : xcd 130 9 = oAl 0 10 := rfl
theorem r130_9 : zr 130 9 [.ref a0, v1, v2, v3, v4] st u P = zr 130 10 [.ref a0, v1, v2, v3, v4] (.ref a0 :: st) u P := zr_Al k130_9 rfl
theorem k130_10 : xcd 130 10 = oI 1 11 := rfl
theorem r130_10 : zr 130 10 [v0, v1, v2, v3, v4] st u P = zr 130 11 [v0, v1, v2, v3, v4] (.int 1 :: st) u P := zr_I k130_10
theorem k130_11 : xcd 130 11 = oCalV 10 154 1 14 := rfl
theorem r130_11 : zr 130 11 [v0, v1, v2, v3, v4] (.int y1 :: .ref b8 :: st) u P = ((xIs u b8 10 ∧ xcat st ≤ 8) ∧ zr 154 0 [.ref b8, .int y1] [] u (fun r u2 => zr 130 14 [v0, v1, v2, v3, v4] (r.toList ++ st) u2 P)) := zr_CV k130_11 rfl rfl rfl ⟨Nat.le_of_ble_eq_true rfl, Nat.succ_ne_zero _, by decide⟩ rfl
theorem k130_14 : xcd 130 14 = oRi 0 := rfl
theorem r130_14 : zr 130 14 [v0, v1, v2, v3, v4] [.int y1] u P = P (some (.int y1)) u := zr_Ri k130_14
theorem k130_15 : xcd 130 15 = oIl 1 16 := rfl
theorem r130_15 : zr 130 15 [v0, .int x1, v2, v3, v4] st u P = zr 130 16 [v0, .int x1, v2, v3, v4] (.int x1 :: st) u P := zr_Il k130_15 rfl
theorem k130_16 : xcd 130 16 = oCal 163 1 19 := rfl
theorem r130_16 : zr 130 16 [v0, v1, v2, v3, v4] (.int y1 :: st) u P = (xcat st ≤ 8 ∧ zr 163 0 [.int y1] [] u (fun r u2 => zr 130 19 [v0, v1, v2, v3, v4] (r.toList ++ st) u2 P)) := zr_CS k130_16 (Nat.le_add_left _ _) rfl rfl ⟨Nat.le_of_ble_eq_true rfl, Nat.succ_ne_zero _, by decide⟩ rfl
theorem k130_19 : xcd 130 19 = oIf (fun x => decide (x = 0)) 31 22 := rfl
theorem r130_19 : zr 130 19 [v0, v1, v2, v3, v4] (.int y1 :: st) u P = (if y1 = 0 then zr 130 31 [v0, v1, v2, v3, v4] st u P else zr 130 22 [v0, v1, v2, v3, v4] st u P) := zr_If k130_19
theorem k130_22 : xcd 130 22 = oAl 0 23 := rfl
theorem r130_22 : zr 130 22 [.ref a0, v1, v2, v3, v4] st u P = zr 130 23 [.ref a0, v1, v2, v3, v4] (.ref a0 :: st) u P := zr_Al k130_22 rfl
theorem k130_23 : xcd 130 23 = oIl 2 24 := rfl
theorem r130_23 : zr 130 23 [v0, v1, .int x2, v3, v4] st u P = zr 130 24 [v0, v1, .int x2, v3, v4] (.int x2 :: st) u P := zr_Il k130_23 rfl
theorem k130_24 : xcd 130 24 = oIl 3 25 := rfl
theorem r130_24 : zr 130 24 [v0, v1, v2, .int x3, v4] st u P = zr 130 25 [v0, v1, v2, .int x3, v4] (.int x3 :: st) u P := zr_Il k130_24 rfl
theorem k130_25 : xcd 130 25 = oCalV 10 161 2 28 := rfl
theorem r130_25 : zr 130 25 [v0, v1, v2, v3, v4] (.int y2 :: .int y1 :: .ref b8 :: st) u P = ((xIs u b8 10 ∧ xcat st ≤ 8) ∧ zr 161 0 [.ref b8, .int y1, .int y2] [] u (fun r u2 => zr 130 28 [v0, v1, v2, v3, v4] (r.toList ++ st) u2 P)) := zr_CV k130_25 rfl rfl rfl ⟨Nat.le_of_ble_eq_true rfl, Nat.succ_ne_zero _, by decide⟩ rfl
theorem k130_28 : xcd 130 28 = oIf (fun x => decide (¬ x = 0)) 37 31 := rfl
theorem r130_28 : zr 130 28 [v0, v1, v2, v3, v4] (.int y1 :: st) u P = (if ¬ y1 = 0 then zr 130 37 [v0, v1, v2, v3, v4] st u P else zr 130 31 [v0, v1, v2, v3, v4] st u P) := zr_If k130_28
theorem k130_31 : xcd 130 31 = oAl 0 32 := rfl
theorem r130_31 : zr 130 31 [.ref a0, v1, v2, v3, v4] st u P = zr 130 32 [.ref a0, v1, v2, v3, v4] (.ref a0 :: st) u P := zr_Al k130_31 rfl
theorem k130_32 : xcd 130 32 = oI 2 33 := rfl
theorem r130_32 : zr 130 32 [v0, v1, v2, v3, v4] st u P = zr 130 33 [v0, v1, v2, v3, v4] (.int 2 :: st) u P := zr_I k130_32
theorem k130_33 : xcd 130 33 = oCalV 10 154 1 36 := rfl
theorem r130_33 : zr 130 33 [v0, v1, v2, v3, v4] (.int y1 :: .ref b8 :: st) u P = ((xIs u b8 10 ∧ xcat st ≤ 8) ∧ zr 154 0 [.ref b8, .int y1] [] u (fun r u2 => zr 130 36 [v0, v1, v2, v3, v4] (r.toList ++ st) u2 P)) := zr_CV k130_33 rfl rfl rfl ⟨Nat.le_of_ble_eq_true rfl, Nat.succ_ne_zero _, by decide⟩ rfl
theorem k130_36 : xcd 130 36 = oRi 0 := rfl
theorem r130_36 : zr 130 36 [v0, v1, v2, v3, v4] [.int y1] u P = P (some (.int y1)) u := zr_Ri k130_36
theorem k130_37 : xcd 130 37 = oAl 0 38 := rfl
theorem r130_37 : zr 130 37 [.ref a0, v1, v2, v3, v4] st u P = zr 130 38 [.ref a0, v1, v2, v3, v4] (.ref a0 :: st) u P := zr_Al k130_37 rfl
theorem k130_38 : xcd 130 38 = oGR 10 1 41 := rfl
theorem r130_38 : zr 130 38 [v0, v1, v2, v3, v4] (.ref b1 :: st) u P = (xIs u b1 10 ∧ ∃ b, xR u b1 1 = some b ∧ zr 130 41 [v0, v1, v2, v3, v4] (.ref b :: st) u P) := zr_GR k130_38
theorem k130_41 : xcd 130 41 = oIl 1 42 := rfl
theorem r130_41 : zr 130 41 [v0, .int x1, v2, v3, v4] st u P = zr 130 42 [v0, .int x1, v2, v3, v4] (.int x1 :: st) u P := zr_Il k130_41 rfl
theorem k130_42 : xcd 130 42 = oIl 4 44 := rfl
theorem r130_42 : zr 130 42 [v0, v1, v2, v3, .int x4] st u P = zr 130 44 [v0, v1, v2, v3, .int x4] (.int x4 :: st) u P := zr_Il k130_42 rfl
theorem k130_44 : xcd 130 44 = oCalV 3 38 2 47 := rfl
theorem r130_44 : zr 130 44 [v0, v1, v2, v3, v4] (.int y2 :: .int y1 :: .ref b8 :: st) u P = ((xIs u b8 3 ∧ xcat st ≤ 8) ∧ zr 38 0 [.ref b8, .int y1, .int y2, .null] [] u (fun r u2 => zr 130 47 [v0, v1, v2, v3, v4] (r.toList ++ st) u2 P)) := zr_CV k130_44 rfl rfl rfl ⟨Nat.le_of_ble_eq_true rfl, Nat.succ_ne_zero _, by decide⟩ rfl
theorem k130_47 : xcd 130 47 = oAl 0 48 := rfl
theorem r130_47 : zr 130 47 [.ref a0, v1, v2, v3, v4] st u P = zr 130 48 [.ref a0, v1, v2, v3, v4] (.ref a0 :: st) u P := zr_Al k130_47 rfl
theorem k130_48 : xcd 130 48 = oAl 0 49 := rfl
theorem r130_48 : zr 130 48 [.ref a0, v1, v2, v3, v4] st u P = zr 130 49 [.ref a0, v1, v2, v3, v4] (.ref a0 :: st) u P := zr_Al k130_48 rfl
theorem k130_49 : xcd 130 49 = oGR 10 1 52 := rfl
theorem r130_49 : zr 130 49 [v0, v1, v2, v3, v4] (.ref b1 :: st) u P = (xIs u b1 10 ∧ ∃ b, xR u b1 1 = some b ∧ zr 130 52 [v0, v1, v2, v3, v4] (.ref b :: st) u P) := zr_GR k130_49
theorem k130_52 : xcd 130 52 = oIl 2 53 := rfl
theorem r130_52 : zr 130 52 [v0, v1, .int x2, v3, v4] st u P = zr 130 53 [v0, v1, .int x2, v3, v4] (.int x2 :: st) u P := zr_Il k130_52 rfl
theorem k130_53 : xcd 130 53 = oIl 3 54 := rfl
theorem r130_53 : zr 130 53 [v0, v1, v2, .int x3, v4] st u P = zr 130 54 [v0, v1, v2, .int x3, v4] (.int x3 :: st) u P := zr_Il k130_53 rfl
theorem k130_54 : xcd 130 54 = oCalV 3 39 2 57 := rfl
theorem r130_54 : zr 130 54 [v0, v1, v2, v3, v4] (.int y2 :: .int y1 :: .ref b8 :: st) u P = ((xIs u b8 3 ∧ xcat st ≤ 8) ∧ zr 39 0 [.ref b8, .int y1, .int y2, .null, .null] [] u (fun r u2 => zr 130 57 [v0, v1, v2, v3, v4] (r.toList ++ st) u2 P)) := zr_CV k130_54 rfl rfl rfl ⟨Nat.le_of_ble_eq_true rfl, Nat.succ_ne_zero _, by decide⟩ rfl
theorem k130_57 : xcd 130 57 = oCalV 10 153 1 60 := rfl
theorem r130_57 : zr 130 57 [v0, v1, v2, v3, v4] (.int y1 :: .ref b8 :: st) u P = ((xIs u b8 10 ∧ xcat st ≤ 8) ∧ zr 153 0 [.ref b8, .int y1] [] u (fun r u2 => zr 130 60 [v0, v1, v2, v3, v4] (r.toList ++ st) u2 P)) := zr_CV k130_57 rfl rfl rfl ⟨Nat.le_of_ble_eq_true rfl, Nat.succ_ne_zero _, by decide⟩ rfl
theorem k130_60 : xcd 130 60 = oRi 0 := rfl
theorem r130_60 : zr 130 60 [v0, v1, v2, v3, v4] [.int y1] u P = P (some (.int y1)) u := zr_Ri k130_60
theorem k131_0 : xcd 131 0 = oAl 0 1 := rfl
theorem r131_0 : zr 131 0 [.ref a0, v1, v2] st u P = zr 131 1 [.ref a0, v1, v2] (.ref a0 :: st) u P := zr_Al k131_0 rfl
theorem k131_1 : xcd 131 1 = oIl 2 2 := rfl
theorem r131_1 : zr 131 1 [v0, v1, .int x2] st u P = zr 131 2 [v0, v1, .int x2] (.int x2 :: st) u P := zr_Il k131_1 rfl
theorem k131_2 : xcd 131 2 = oCalV 10 158 1 5 := rfl
theorem r131_2 : zr 131 2 [v0, v1, v2] (.int y1 :: .ref b8 :: st) u P = ((xIs u b8 10 ∧ xcat st ≤ 8) ∧ zr 158 0 [.ref b8, .int y1] [] u (fun r u2 => zr 131 5 [v0, v1, v2] (r.toList ++ st) u2 P)) := zr_CV k131_2 rfl rfl rfl ⟨Nat.le_of_ble_eq_true rfl, Nat.succ_ne_zero _, by decide⟩ rfl
theorem k131_5 : xcd 131 5 = oIf (fun x => decide (¬ x = 0)) 14 8 := rfl
theorem r131_5 : zr 131 5 [v0, v1, v2] (.int y1 :: st) u P = (if ¬ y1 = 0 then zr 131 14 [v0, v1, v2] st u P else zr 131 8 [v0, v1, v2] st u P) := zr_If k131_5
theorem k131_8 : xcd 131 8 = oAl 0 9 := rfl
theorem r131_8 : zr 131 8 [.ref a0, v1, v2] st u P = zr 131 9 [.ref a0, v1, v2] (.ref a0 :: st) u P := zr_Al k131_8 rfl
theorem k131_9 : xcd 131 9 = oI 1 10 := rfl
theorem r131_9 : zr 131 9 [v0, v1, v2] st u P = zr 131 10 [v0, v1, v2] (.int 1 :: st) u P := zr_I k131_9
theorem k131_10 : xcd 131 10 = oCalV 10 154 1 13 := rfl
theorem r131_10 : zr 131 10 [v0, v1, v2] (.int y1 :: .ref b8 :: st) u P = ((xIs u b8 10 ∧ xcat st ≤ 8) ∧ zr 154 0 [.ref b8, .int y1] [] u (fun r u2 => zr 131 13 [v0, v1, v2] (r.toList ++ st) u2 P)) := zr_CV k131_10 rfl rfl rfl ⟨Nat.le_of_ble_eq_true rfl, Nat.succ_ne_zero _, by decide⟩ rfl
theorem k131_13 : xcd 131 13 = oRi 0 := rfl
theorem r131_13 : zr 131 13 [v0, v1, v2] [.int y1] u P = P (some (.int y1)) u := zr_Ri k131_13
theorem k131_14 : xcd 131 14 = oIl 1 15 := rfl
theorem r131_14 : zr 131 14 [v0, .int x1, v2] st u P = zr 131 15 [v0, .int x1, v2] (.int x1 :: st) u P := zr_Il k131_14 rfl
theorem k131_15 : xcd 131 15 = oCal 163 1 18 := rfl
theorem r131_15 : zr 131 15 [v0, v1, v2] (.int y1 :: st) u P = (xcat st ≤ 8 ∧ zr 163 0 [.int y1] [] u (fun r u2 => zr 131 18 [v0, v1, v2] (r.toList ++ st) u2 P)) := zr_CS k131_15 (Nat.le_add_left _ _) rfl rfl ⟨Nat.le_of_ble_eq_true rfl, Nat.succ_ne_zero _, by decide⟩ rfl
theorem k131_18 : xcd 131 18 = oIf (fun x => decide (¬ x = 0)) 27 21 := rfl
theorem r131_18 : zr 131 18 [v0, v1, v2] (.int y1 :: st) u P = (if ¬ y1 = 0 then zr 131 27 [v0, v1, v2] st u P else zr 131 21 [v0, v1, v2] st u P) := zr_If k131_18
theorem k131_21 : xcd 131 21 = oAl 0 22 := rfl
theorem r131_21 : zr 131 21 [.ref a0, v1, v2] st u P = zr 131 22 [.ref a0, v1, v2] (.ref a0 :: st) u P := zr_Al k131_21 rfl
theorem k131_22 : xcd 131 22 = oI 2 23 := rfl
theorem r131_22 : zr 131 22 [v0, v1, v2] st u P = zr 131 23 [v0, v1, v2] (.int 2 :: st) u P := zr_I k131_22
theorem k131_23 : xcd 131 23 = oCalV 10 154 1 26 := rfl
theorem r131_23 : zr 131 23 [v0, v1, v2] (.int y1 :: .ref b8 :: st) u P = ((xIs u b8 10 ∧ xcat st ≤ 8) ∧ zr 154 0 [.ref b8, .int y1] [] u (fun r u2 => zr 131 26 [v0, v1, v2] (r.toList ++ st) u2 P)) := zr_CV k131_23 rfl rfl rfl ⟨Nat.le_of_ble_eq_true rfl, Nat.succ_ne_zero _, by decide⟩ rfl
theorem k131_26 : xcd 131 26 = oRi 0 := rfl
theorem r131_26 : zr 131 26 [v0, v1, v2] [.int y1] u P = P (some (.int y1)) u := zr_Ri k131_26
theorem k131_27 : xcd 131 27 = oAl 0 28 := rfl
theorem r131_27 : zr 131 27 [.ref a0, v1, v2] st u P = zr 131 28 [.ref a0, v1, v2] (.ref a0 :: st) u P := zr_Al k131_27 rfl
theorem k131_28 : xcd 131 28 = oGR 10 1 31 := rfl
theorem r131_28 : zr 131 28 [v0, v1, v2] (.ref b1 :: st) u P = (xIs u b1 10 ∧ ∃ b, xR u b1 1 = some b ∧ zr 131 31 [v0, v1, v2] (.ref b :: st) u P) := zr_GR k131_28
theorem k131_31 : xcd 131 31 = oIl 1 32 := rfl
theorem r131_31 : zr 131 31 [v0, .int x1, v2] st u P = zr 131 32 [v0, .int x1, v2] (.int x1 :: st) u P := zr_Il k131_31 rfl
theorem k131_32 : xcd 131 32 = oIl 2 33 := rfl
theorem r131_32 : zr 131 32 [v0, v1, .int x2] st u P = zr 131 33 [v0, v1, .int x2] (.int x2 :: st) u P := zr_Il k131_32 rfl
theorem k131_33 : xcd 131 33 = oCalV 3 38 2 36 := rfl
theorem r131_33 : zr 131 33 [v0, v1, v2] (.int y2 :: .int y1 :: .ref b8 :: st) u P = ((xIs u b8 3 ∧ xcat st ≤ 8) ∧ zr 38 0 [.ref b8, .int y1, .int y2, .null] [] u (fun r u2 => zr 131 36 [v0, v1, v2] (r.toList ++ st) u2 P)) := zr_CV k131_33 rfl rfl rfl ⟨Nat.le_of_ble_eq_true rfl, Nat.succ_ne_zero _, by decide⟩ rfl
theorem k131_36 : xcd 131 36 = oAl 0 37 := rfl
theorem r131_36 : zr 131 36 [.ref a0, v1, v2] st u P = zr 131 37 [.ref a0, v1, v2] (.ref a0 :: st) u P := zr_Al k131_36 rfl
theorem k131_37 : xcd 131 37 = oAl 0 38 := rfl
theorem r131_37 : zr 131 37 [.ref a0, v1, v2] st u P = zr 131 38 [.ref a0, v1, v2] (.ref a0 :: st) u P := zr_Al k131_37 rfl
theorem k131_38 : xcd 131 38 = oGR 10 1 41 := rfl
theorem r131_38 : zr 131 38 [v0, v1, v2] (.ref b1 :: st) u P = (xIs u b1 10 ∧ ∃ b, xR u b1 1 = some b ∧ zr 131 41 [v0, v1, v2] (.ref b :: st) u P) := zr_GR k131_38
theorem k131_41 : xcd 131 41 = oCalV 3 40 0 44 := rfl
theorem r131_41 : zr 131 41 [v0, v1, v2] (.ref b8 :: st) u P = ((xIs u b8 3 ∧ xcat st ≤ 8) ∧ zr 40 0 [.ref b8, .null, .null, .null, .null, .null] [] u (fun r u2 => zr 131 44 [v0, v1, v2] (r.toList ++ st) u2 P)) := zr_CV k131_41 rfl rfl rfl ⟨Nat.le_of_ble_eq_true rfl, Nat.succ_ne_zero _, by decide⟩ rfl
theorem k131_44 : xcd 131 44 = oCalV 10 153 1 47 := rfl
theorem r131_44 : zr 131 44 [v0, v1, v2] (.int y1 :: .ref b8 :: st) u P = ((xIs u b8 10 ∧ xcat st ≤ 8) ∧ zr 153 0 [.ref b8, .int y1] [] u (fun r u2 => zr 131 47 [v0, v1, v2] (r.toList ++ st) u2 P)) := zr_CV k131_44 rfl rfl rfl ⟨Nat.le_of_ble_eq_true rfl, Nat.succ_ne_zero _, by decide⟩ rfl
theorem k131_47 : xcd 131 47 = oRi 0 := rfl
theorem r131_47 : zr 131 47 [v0, v1, v2] [.int y1] u P = P (some (.int y1)) u := zr_Ri k131_47
theorem k132_0 : xcd 132 0 = oAl 0 1 := rfl
theorem r132_0 : zr 132 0 [.ref a0, v1, v2, v3, v4, v5, v6] st u P = zr 132 1 [.ref a0, v1, v2, v3, v4, v5, v6] (.ref a0 :: st) u P := zr_Al k132_0 rfl
theorem k132_1 : xcd 132 1 = oIl 4 3 := rfl
theorem r132_1 : zr 132 1 [v0, v1, v2, v3, .int x4, v5, v6] st u P = zr 132 3 [v0, v1, v2, v3, .int x4, v5, v6] (.int x4 :: st) u P := zr_Il k132_1 rfl
theorem k132_3 : xcd 132 3 = oCalV 10 158 1 6 := rfl
theorem r132_3 : zr 132 3 [v0, v1, v2, v3, v4, v5, v6] (.int y1 :: .ref b8 :: st) u P = ((xIs u b8 10 ∧ xcat st ≤ 8) ∧ zr 158 0 [.ref b8, .int y1] [] u (fun r u2 => zr 132 6 [v0, v1, v2, v3, v4, v5, v6] (r.toList ++ st) u2 P)) := zr_CV k132_3 rfl rfl rfl ⟨Nat.le_of_ble_eq_true rfl, Nat.succ_ne_zero _, by decide⟩ rfl
theorem k132_6 : xcd 132 6 = oIf (fun x => decide (¬ x = 0)) 15 9 := rfl
theorem r132_6 : zr 132 6 [v0, v1, v2, v3, v4, v5, v6] (.int y1 :: st) u P = (if ¬ y1 = 0 then zr 132 15 [v0, v1, v2, v3, v4, v5, v6] st u P else zr 132 9 [v0, v1, v2, v3, v4, v5, v6] st u P) := zr_If k132_6
theorem k132_9 : xcd 132 9 = oAl 0 10 := rfl
theorem r132_9 : zr 132 9 [.ref a0, v1, v2, v3, v4, v5, v6] st u P = zr 132 10 [.ref a0, v1, v2, v3, v4, v5, v6] (.ref a0 :: st) u P := zr_Al k132_9 rfl
theorem k132_10 : xcd 132 10 = oI 1 11 := rfl
theorem r132_10 : zr 132 10 [v0, v1, v2, v3, v4, v5, v6] st u P = zr 132 11 [v0, v1, v2, v3, v4, v5, v6] (.int 1 :: st) u P := zr_I k132_10
theorem k132_11 : xcd 132 11 = oCalV 10 154 1 14 := rfl
theorem r132_11 : zr 132 11 [v0, v1, v2, v3, v4, v5, v6] (.int y1 :: .ref b8 :: st) u P = ((xIs u b8 10 ∧ xcat st ≤ 8) ∧ zr 154 0 [.ref b8, .int y1] [] u (fun r u2 => zr 132 14 [v0, v1, v2, v3, v4, v5, v6] (r.toList ++ st) u2 P)) := zr_CV k132_11 rfl rfl rfl ⟨Nat.le_of_ble_eq_true rfl, Nat.succ_ne_zero _, by decide⟩ rfl
theorem k132_14 : xcd 132 14 = oRi 0 := rfl
theorem r132_14 : zr 132 14 [v0, v1, v2, v3, v4, v5, v6] [.int y1] u P = P (some (.int y1)) u := zr_Ri k132_14
theorem k132_15 : xcd 132 15 = oAl 0 16 := rfl
theorem r132_15 : zr 132 15 [.ref a0, v1, v2, v3, v4, v5, v6] st u P = zr 132 16 [.ref a0, v1, v2, v3, v4, v5, v6] (.ref a0 :: st) u P := zr_Al k132_15 rfl
theorem k132_16 : xcd 132 16 = oIl 1 17 := rfl
theorem r132_16 : zr 132 16 [v0, .int x1, v2, v3, v4, v5, v6] st u P = zr 132 17 [v0, .int x1, v2, v3, v4, v5, v6] (.int x1 :: st) u P := zr_Il k132_16 rfl
theorem k132_17 : xcd 132 17 = oIl 2 18 := rfl
theorem r132_17 : zr 132 17 [v0, v1, .int x2, v3, v4, v5, v6] st u P = zr 132 18 [v0, v1, .int x2, v3, v4, v5, v6] (.int x2 :: st) u P := zr_Il k132_17 rfl
theorem k132_18 : xcd 132 18 = oIl 3 19 := rfl
theorem r132_18 : zr 132 18 [v0, v1, v2, .int x3, v4, v5, v6] st u P = zr 132 19 [v0, v1, v2, .int x3, v4, v5, v6] (.int x3 :: st) u P := zr_Il k132_18 rfl
theorem k132_19 : xcd 132 19 = oIl 5 21 := rfl
theorem r132_19 : zr 132 19 [v0, v1, v2, v3, v4, .int x5, v6] st u P = zr 132 21 [v0, v1, v2, v3, v4, .int x5, v6] (.int x5 :: st) u P := zr_Il k132_19 rfl
theorem k132_21 : xcd 132 21 = oIl 6 23 := rfl
theorem r132_21 : zr 132 21 [v0, v1, v2, v3, v4, v5, .int x6] st u P = zr 132 23 [v0, v1, v2, v3, v4, v5, .int x6] (.int x6 :: st) u P := zr_Il k132_21 rfl
theorem k132_23 : xcd 132 23 = oCalV 10 162 5 26 := rfl
theorem r132_23 : zr 132 23 [v0, v1, v2, v3, v4, v5, v6] (.int y5 :: .int y4 :: .int y3 :: .int y2 :: .int y1 :: .ref b8 :: st) u P = ((xIs u b8 10 ∧ xcat st ≤ 8) ∧ zr 162 0 [.ref b8, .int y1, .int y2, .int y3, .int y4, .int y5] [] u (fun r u2 => zr 132 26 [v0, v1, v2, v3, v4, v5, v6] (r.toList ++ st) u2 P)) := zr_CV k132_23 rfl rfl rfl ⟨Nat.le_of_ble_eq_true rfl, Nat.succ_ne_zero _, by decide⟩ rfl
theorem k132_26 : xcd 132 26 = oIf (fun x => decide (¬ x = 0)) 35 29 := rfl
theorem r132_26 : zr 132 26 [v0, v1, v2, v3, v4, v5, v6] (.int y1 :: st) u P = (if ¬ y1 = 0 then zr 132 35 [v0, v1, v2, v3, v4, v5, v6] st u P else zr 132 29 [v0, v1, v2, v3, v4, v5, v6] st u P) := zr_If k132_26
theorem k132_29 : xcd 132 29 = oAl 0 30 := rfl
theorem r132_29 : zr 132 29 [.ref a0, v1, v2, v3, v4, v5, v6] st u P = zr 132 30 [.ref a0, v1, v2, v3, v4, v5, v6] (.ref a0 :: st) u P := zr_Al k132_29 rfl
theorem k132_30 : xcd 132 30 = oI 2 31 := rfl
theorem r132_30 : zr 132 30 [v0, v1, v2, v3, v4, v5, v6] st u P = zr 132 31 [v0, v1, v2, v3, v4, v5, v6] (.int 2 :: st) u P := zr_I k132_30
theorem k132_31 : xcd 132 31 = oCalV 10 154 1 34 := rfl
theorem r132_31 : zr 132 31 [v0, v1, v2, v3, v4, v5, v6] (.int y1 :: .ref b8 :: st) u P = ((xIs u b8 10 ∧ xcat st ≤ 8) ∧ zr 154 0 [.ref b8, .int y1] [] u (fun r u2 => zr 132 34 [v0, v1, v2, v3, v4, v5, v6] (r.toList ++ st) u2 P)) := zr_CV k132_31 rfl rfl rfl ⟨Nat.le_of_ble_eq_true rfl, Nat.succ_ne_zero _, by decide⟩ rfl
theorem k132_34 : xcd 132 34 = oRi 0 := rfl
theorem r132_34 : zr 132 34 [v0, v1, v2, v3, v4, v5, v6] [.int y1] u P = P (some (.int y1)) u := zr_Ri k132_34
theorem k132_35 : xcd 132 35 = oAl 0 36 := rfl
theorem r132_35 : zr 132 35 [.ref a0, v1, v2, v3, v4, v5, v6] st u P = zr 132 36 [.ref a0, v1, v2, v3, v4, v5, v6] (.ref a0 :: st) u P := zr_Al k132_35 rfl
theorem k132_36 : xcd 132 36 = oGR 10 5 39 := rfl
theorem r132_36 : zr 132 36 [v0, v1, v2, v3, v4, v5, v6] (.ref b1 :: st) u P = (xIs u b1 10 ∧ ∃ b, xR u b1 5 = some b ∧ zr 132 39 [v0, v1, v2, v3, v4, v5, v6] (.ref b :: st) u P) := zr_GR k132_36
theorem k132_39 : xcd 132 39 = oIl 1 40 := rfl
theorem r132_39 : zr 132 39 [v0, .int x1, v2, v3, v4, v5, v6] st u P = zr 132 40 [v0, .int x1, v2, v3, v4, v5, v6] (.int x1 :: st) u P := zr_Il k132_39 rfl
theorem k132_40 : xcd 132 40 = oIl 2 41 := rfl
theorem r132_40 : zr 132 40 [v0, v1, .int x2, v3, v4, v5, v6] st u P = zr 132 41 [v0, v1, .int x2, v3, v4, v5, v6] (.int x2 :: st) u P := zr_Il k132_40 rfl
theorem k132_41 : xcd 132 41 = oIl 3 42 := rfl
theorem r132_41 : zr 132 41 [v0, v1, v2, .int x3, v4, v5, v6] st u P = zr 132 42 [v0, v1, v2, .int x3, v4, v5, v6] (.int x3 :: st) u P := zr_Il k132_41 rfl
theorem k132_42 : xcd 132 42 = oIl 4 44 := rfl
theorem r132_42 : zr 132 42 [v0, v1, v2, v3, .int x4, v5, v6] st u P = zr 132 44 [v0, v1, v2, v3, .int x4, v5, v6] (.int x4 :: st) u P := zr_Il k132_42 rfl
theorem k132_44 : xcd 132 44 = oIl 5 46 := rfl
theorem r132_44 : zr 132 44 [v0, v1, v2, v3, v4, .int x5, v6] st u P = zr 132 46 [v0, v1, v2, v3, v4, .int x5, v6] (.int x5 :: st) u P := zr_Il k132_44 rfl
theorem k132_46 : xcd 132 46 = oIl 6 48 := rfl
theorem r132_46 : zr 132 46 [v0, v1, v2, v3, v4, v5, .int x6] st u P = zr 132 48 [v0, v1, v2, v3, v4, v5, .int x6] (.int x6 :: st) u P := zr_Il k132_46 rfl
theorem k132_48 : xcd 132 48 = oCalV 5 54 6 51 := rfl
theorem r132_48 : zr 132 48 [v0, v1, v2, v3, v4, v5, v6] (.int y6 :: .int y5 :: .int y4 :: .int y3 :: .int y2 :: .int y1 :: .ref b8 :: st) u P = ((xIs u b8 5 ∧ xcat st ≤ 8) ∧ zr 54 0 [.ref b8, .int y1, .int y2, .int y3, .int y4, .int y5, .int y6] [] u (fun r u2 => zr 132 51 [v0, v1, v2, v3, v4, v5, v6] (r.toList ++ st) u2 P)) := zr_CV k132_48 rfl rfl rfl ⟨Nat.le_of_ble_eq_true rfl, Nat.succ_ne_zero _, by decide⟩ rfl
theorem k132_51 : xcd 132 51 = oAl 0 52 := rfl
theorem r132_51 : zr 132 51 [.ref a0, v1, v2, v3, v4, v5, v6] st u P = zr 132 52 [.ref a0, v1, v2, v3, v4, v5, v6] (.ref a0 :: st) u P := zr_Al k132_51 rfl
theorem k132_52 : xcd 132 52 = oAl 0 53 := rfl
theorem r132_52 : zr 132 52 [.ref a0, v1, v2, v3, v4, v5, v6] st u P = zr 132 53 [.ref a0, v1, v2, v3, v4, v5, v6] (.ref a0 :: st) u P := zr_Al k132_52 rfl
theorem k132_53 : xcd 132 53 = oCalV 10 166 0 56 := rfl
theorem r132_53 : zr 132 53 [v0, v1, v2, v3, v4, v5, v6] (.ref b8 :: st) u P = ((xIs u b8 10 ∧ xcat st ≤ 8) ∧ zr 166 0 [.ref b8] [] u (fun r u2 => zr 132 56 [v0, v1, v2, v3, v4, v5, v6] (r.toList ++ st) u2 P)) := zr_CV k132_53 rfl rfl rfl ⟨Nat.le_of_ble_eq_true rfl, Nat.succ_ne_zero _, by decide⟩ rfl
theorem k132_56 : xcd 132 56 = oCalV 10 153 1 59 := rfl
theorem r132_56 : zr 132 56 [v0, v1, v2, v3, v4, v5, v6] (.int y1 :: .ref b8 :: st) u P = ((xIs u b8 10 ∧ xcat st ≤ 8) ∧ zr 153 0 [.ref b8, .int y1] [] u (fun r u2 => zr 132 59 [v0, v1, v2, v3, v4, v5, v6] (r.toList ++ st) u2 P)) := zr_CV k132_56 rfl rfl rfl ⟨Nat.le_of_ble_eq_true rfl, Nat.succ_ne_zero _, by decide⟩ rfl
theorem k132_59 : xcd 132 59 = oRi 0 := rfl
theorem r132_59 : zr 132 59 [v0, v1, v2, v3, v4, v5, v6] [.int y1] u P = P (some (.int y1)) u := zr_Ri k132_59
theorem k133_0 : xcd 133 0 = oAl 0 1 := rfl
theorem r133_0 : zr 133 0 [.ref a0, v1, v2, v3, v4, v5, v6, v7] st u P = zr 133 1 [.ref a0, v1, v2, v3, v4, v5, v6, v7] (.ref a0 :: st) u P := zr_Al k133_0 rfl
theorem k133_1 : xcd 133 1 = oIl 5 3 := rfl
theorem r133_1 : zr 133 1 [v0, v1, v2, v3, v4, .int x5, v6, v7] st u P = zr 133 3 [v0, v1, v2, v3, v4, .int x5, v6, v7] (.int x5 :: st) u P := zr_Il k133_1 rfl
theorem k133_3 : xcd 133 3 = oCalV 10 158 1 6 := rfl
theorem r133_3 : zr 133 3 [v0, v1, v2, v3, v4, v5, v6, v7] (.int y1 :: .ref b8 :: st) u P = ((xIs u b8 10 ∧ xcat st ≤ 8) ∧ zr 158 0 [.ref b8, .int y1] [] u (fun r u2 => zr 133 6 [v0, v1, v2, v3, v4, v5, v6, v7] (r.toList ++ st) u2 P)) := zr_CV k133_3 rfl rfl rfl ⟨Nat.le_of_ble_eq_true rfl, Nat.succ_ne_zero _, by decide⟩ rfl
theorem k133_6 : xcd 133 6 = oIf (fun x => decide (¬ x = 0)) 15 9 := rfl
theorem r133_6 : zr 133 6 [v0, v1, v2, v3, v4, v5, v6, v7] (.int y1 :: st) u P = (if ¬ y1 = 0 then zr 133 15 [v0, v1, v2, v3, v4, v5, v6, v7] st u P else zr 133 9 [v0, v1, v2, v3, v4, v5, v6, v7] st u P) := zr_If k133_6
theorem k133_9 : xcd 133 9 = oAl 0 10 := rfl
theorem r133_9 : zr 133 9 [.ref a0, v1, v2, v3, v4, v5, v6, v7] st u P = zr 133 10 [.ref a0, v1, v2, v3, v4, v5, v6, v7] (.ref a0 :: st) u P := zr_Al k133_9 rfl
theorem k133_10 : xcd 133 10 = oI 1 11 := rfl
theorem r133_10 : zr 133 10 [v0, v1, v2, v3, v4, v5, v6, v7] st u P = zr 133 11 [v0, v1, v2, v3, v4, v5, v6, v7] (.int 1 :: st) u P := zr_I k133_10
theorem k133_11 : xcd 133 11 = oCalV 10 154 1 14 := rfl
theorem r133_11 : zr 133 11 [v0, v1, v2, v3, v4, v5, v6, v7] (.int y1 :: .ref b8 :: st) u P = ((xIs u b8 10 ∧ xcat st ≤ 8) ∧ zr 154 0 [.ref b8, .int y1] [] u (fun r u2 => zr 133 14 [v0, v1, v2, v3, v4, v5, v6, v7] (r.toList ++ st) u2 P)) := zr_CV k133_11 rfl rfl rfl ⟨Nat.le_of_ble_eq_true rfl, Nat.succ_ne_zero _, by decide⟩ rfl
theorem k133_14 : xcd 133 14 = oRi 0 := rfl
theorem r133_14 : zr 133 14 [v0, v1, v2, v3, v4, v5, v6, v7] [.int y1] u P = P (some (.int y1)) u := zr_Ri k133_14
theorem k133_15 : xcd 133 15 = oAl 0 16 := rfl
theorem r133_15 : zr 133 15 [.ref a0, v1, v2, v3, v4, v5, v6, v7] st u P = zr 133 16 [.ref a0, v1, v2, v3, v4, v5, v6, v7] (.ref a0 :: st) u P := zr_Al k133_15 rfl
theorem k133_16 : xcd 133 16 = oIl 1 17 := rfl
theorem r133_16 : zr 133 16 [v0, .int x1, v2, v3, v4, v5, v6, v7] st u P = zr 133 17 [v0, .int x1, v2, v3, v4, v5, v6, v7] (.int x1 :: st) u P := zr_Il k133_16 rfl
theorem k133_17 : xcd 133 17 = oIl 3 18 := rfl
theorem r133_17 : zr 133 17 [v0, v1, v2, .int x3, v4, v5, v6, v7] st u P = zr 133 18 [v0, v1, v2, .int x3, v4, v5, v6, v7] (.int x3 :: st) u P := zr_Il k133_17 rfl
theorem k133_18 : xcd 133 18 = oIl 4 20 := rfl
theorem r133_18 : zr 133 18 [v0, v1, v2, v3, .int x4, v5, v6, v7] st u P = zr 133 20 [v0, v1, v2, v3, .int x4, v5, v6, v7] (.int x4 :: st) u P := zr_Il k133_18 rfl
theorem k133_20 : xcd 133 20 = oIl 6 22 := rfl
theorem r133_20 : zr 133 20 [v0, v1, v2, v3, v4, v5, .int x6, v7] st u P = zr 133 22 [v0, v1, v2, v3, v4, v5, .int x6, v7] (.int x6 :: st) u P := zr_Il k133_20 rfl
theorem k133_22 : xcd 133 22 = oIl 7 24 := rfl
theorem r133_22 : zr 133 22 [v0, v1, v2, v3, v4, v5, v6, .int x7] st u P = zr 133 24 [v0, v1, v2, v3, v4, v5, v6, .int x7] (.int x7 :: st) u P := zr_Il k133_22 rfl
theorem k133_24 : xcd 133 24 = oCalV 10 162 5 27 := rfl
theorem r133_24 : zr 133 24 [v0, v1, v2, v3, v4, v5, v6, v7] (.int y5 :: .int y4 :: .int y3 :: .int y2 :: .int y1 :: .ref b8 :: st) u P = ((xIs u b8 10 ∧ xcat st ≤ 8) ∧ zr 162 0 [.ref b8, .int y1, .int y2, .int y3, .int y4, .int y5] [] u (fun r u2 => zr 133 27 [v0, v1, v2, v3, v4, v5, v6, v7] (r.toList ++ st) u2 P)) := zr_CV k133_24 rfl rfl rfl ⟨Nat.le_of_ble_eq_true rfl, Nat.succ_ne_zero _, by decide⟩ rfl
theorem k133_27 : xcd 133 27 = oIf (fun x => decide (x = 0)) 41 30 := rfl
theorem r133_27 : zr 133 27 [v0, v1, v2, v3, v4, v5, v6, v7] (.int y1 :: st) u P = (if y1 = 0 then zr 133 41 [v0, v1, v2, v3, v4, v5, v6, v7] st u P else zr 133 30 [v0, v1, v2, v3, v4, v5, v6, v7] st u P) := zr_If k133_27
theorem k133_30 : xcd 133 30 = oIl 2 31 := rfl
theorem r133_30 : zr 133 30 [v0, v1, .int x2, v3, v4, v5, v6, v7] st u P = zr 133 31 [v0, v1, .int x2, v3, v4, v5, v6, v7] (.int x2 :: st) u P := zr_Il k133_30 rfl
theorem k133_31 : xcd 133 31 = oIl 1 32 := rfl
theorem r133_31 : zr 133 31 [v0, .int x1, v2, v3, v4, v5, v6, v7] st u P = zr 133 32 [v0, .int x1, v2, v3, v4, v5, v6, v7] (.int x1 :: st) u P := zr_Il k133_31 rfl
theorem k133_32 : xcd 133 32 = oI 999 35 := rfl
theorem r133_32 : zr 133 32 [v0, v1, v2, v3, v4, v5, v6, v7] st u P = zr 133 35 [v0, v1, v2, v3, v4, v5, v6, v7] (.int 999 :: st) u P := zr_I k133_32
theorem k133_35 : xcd 133 35 = oCal 164 3 38 := rfl
theorem r133_35 : zr 133 35 [v0, v1, v2, v3, v4, v5, v6, v7] (.int y3 :: .int y2 :: .int y1 :: st) u P = (xcat st ≤ 8 ∧ zr 164 0 [.int y1, .int y2, .int y3] [] u (fun r u2 => zr 133 38 [v0, v1, v2, v3, v4, v5, v6, v7] (r.toList ++ st) u2 P)) := zr_CS k133_35 (Nat.le_add_left _ _) rfl rfl ⟨Nat.le_of_ble_eq_true rfl, Nat.succ_ne_zero _, by decide⟩ rfl
theorem k133_38 : xcd 133 38 = oIf (fun x => decide (¬ x = 0)) 47 41 := rfl
theorem r133_38 : zr 133 38 [v0, v1, v2, v3, v4, v5, v6, v7] (.int y1 :: st) u P = (if ¬ y1 = 0 then zr 133 47 [v0, v1, v2, v3, v4, v5, v6, v7] st u P else zr 133 41 [v0, v1, v2, v3, v4, v5, v6, v7] st u P) := zr_If k133_38
theorem k133_41 : xcd 133 41 = oAl 0 42 := rfl
theorem r133_41 : zr 133 41 [.ref a0, v1, v2, v3, v4, v5, v6, v7] st u P = zr 133 42 [.ref a0, v1, v2, v3, v4, v5, v6, v7] (.ref a0 :: st) u P := zr_Al k133_41 rfl
theorem k133_42 : xcd 133 42 = oI 2 43 := rfl
theorem r133_42 : zr 133 42 [v0, v1, v2, v3, v4, v5, v6, v7] st u P = zr 133 43 [v0, v1, v2, v3, v4, v5, v6, v7] (.int 2 :: st) u P := zr_I k133_42
theorem k133_43 : xcd 133 43 = oCalV 10 154 1 46 := rfl
theorem r133_43 : zr 133 43 [v0, v1, v2, v3, v4, v5, v6, v7] (.int y1 :: .ref b8 :: st) u P = ((xIs u b8 10 ∧ xcat st ≤ 8) ∧ zr 154 0 [.ref b8, .int y1] [] u (fun r u2 => zr 133 46 [v0, v1, v2, v3, v4, v5, v6, v7] (r.toList ++ st) u2 P)) := zr_CV k133_43 rfl rfl rfl ⟨Nat.le_of_ble_eq_true rfl, Nat.succ_ne_zero _, by decide⟩ rfl
theorem k133_46 : xcd 133 46 = oRi 0 := rfl
theorem r133_46 : zr 133 46 [v0, v1, v2, v3, v4, v5, v6, v7] [.int y1] u P = P (some (.int y1)) u := zr_Ri k133_46
theorem k133_47 : xcd 133 47 = oAl 0 48 := rfl
theorem r133_47 : zr 133 47 [.ref a0, v1, v2, v3, v4, v5, v6, v7] st u P = zr 133 48 [.ref a0, v1, v2, v3, v4, v5, v6, v7] (.ref a0 :: st) u P := zr_Al k133_47 rfl
theorem k133_48 : xcd 133 48 = oGR 10 5 51 := rfl
theorem r133_48 : zr 133 48 [v0, v1, v2, v3, v4, v5, v6, v7] (.ref b1 :: st) u P = (xIs u b1 10 ∧ ∃ b, xR u b1 5 = some b ∧ zr 133 51 [v0, v1, v2, v3, v4, v5, v6, v7] (.ref b :: st) u P) := zr_GR k133_48
theorem k133_51 : xcd 133 51 = oIl 1 52 := rfl
theorem r133_51 : zr 133 51 [v0, .int x1, v2, v3, v4, v5, v6, v7] st u P = zr 133 52 [v0, .int x1, v2, v3, v4, v5, v6, v7] (.int x1 :: st) u P := zr_Il k133_51 rfl
theorem k133_52 : xcd 133 52 = oIl 3 53 := rfl
theorem r133_52 : zr 133 52 [v0, v1, v2, .int x3, v4, v5, v6, v7] st u P = zr 133 53 [v0, v1, v2, .int x3, v4, v5, v6, v7] (.int x3 :: st) u P := zr_Il k133_52 rfl
theorem k133_53 : xcd 133 53 = oIl 4 55 := rfl
theorem r133_53 : zr 133 53 [v0, v1, v2, v3, .int x4, v5, v6, v7] st u P = zr 133 55 [v0, v1, v2, v3, .int x4, v5, v6, v7] (.int x4 :: st) u P := zr_Il k133_53 rfl
theorem k133_55 : xcd 133 55 = oIl 5 57 := rfl
theorem r133_55 : zr 133 55 [v0, v1, v2, v3, v4, .int x5, v6, v7] st u P = zr 133 57 [v0, v1, v2, v3, v4, .int x5, v6, v7] (.int x5 :: st) u P := zr_Il k133_55 rfl
theorem k133_57 : xcd 133 57 = oIl 6 59 := rfl
theorem r133_57 : zr 133 57 [v0, v1, v2, v3, v4, v5, .int x6, v7] st u P = zr 133 59 [v0, v1, v2, v3, v4, v5, .int x6, v7] (.int x6 :: st) u P := zr_Il k133_57 rfl
theorem k133_59 : xcd 133 59 = oIl 7 61 := rfl
theorem r133_59 : zr 133 59 [v0, v1, v2, v3, v4, v5, v6, .int x7] st u P = zr 133 61 [v0, v1, v2, v3, v4, v5, v6, .int x7] (.int x7 :: st) u P := zr_Il k133_59 rfl
theorem k133_61 : xcd 133 61 = oCalV 5 54 6 64 := rfl
theorem r133_61 : zr 133 61 [v0, v1, v2, v3, v4, v5, v6, v7] (.int y6 :: .int y5 :: .int y4 :: .int y3 :: .int y2 :: .int y1 :: .ref b8 :: st) u P = ((xIs u b8 5 ∧ xcat st ≤ 8) ∧ zr 54 0 [.ref b8, .int y1, .int y2, .int y3, .int y4, .int y5, .int y6] [] u (fun r u2 => zr 133 64 [v0, v1, v2, v3, v4, v5, v6, v7] (r.toList ++ st) u2 P)) := zr_CV k133_61 rfl rfl rfl ⟨Nat.le_of_ble_eq_true rfl, Nat.succ_ne_zero _, by decide⟩ rfl
theorem k133_64 : xcd 133 64 = oAl 0 65 := rfl
theorem r133_64 : zr 133 64 [.ref a0, v1, v2, v3, v4, v5, v6, v7] st u P = zr 133 65 [.ref a0, v1, v2, v3, v4, v5, v6, v7] (.ref a0 :: st) u P := zr_Al k133_64 rfl
theorem k133_65 : xcd 133 65 = oAl 0 66 := rfl
theorem r133_65 : zr 133 65 [.ref a0, v1, v2, v3, v4, v5, v6, v7] st u P = zr 133 66 [.ref a0, v1, v2, v3, v4, v5, v6, v7] (.ref a0 :: st) u P := zr_Al k133_65 rfl
theorem k133_66 : xcd 133 66 = oIl 2 67 := rfl
theorem r133_66 : zr 133 66 [v0, v1, .int x2, v3, v4, v5, v6, v7] st u P = zr 133 67 [v0, v1, .int x2, v3, v4, v5, v6, v7] (.int x2 :: st) u P := zr_Il k133_66 rfl
theorem k133_67 : xcd 133 67 = oCalV 10 167 1 70 := rfl
theorem r133_67 : zr 133 67 [v0, v1, v2, v3, v4, v5, v6, v7] (.int y1 :: .ref b8 :: st) u P = ((xIs u b8 10 ∧ xcat st ≤ 8) ∧ zr 167 0 [.ref b8, .int y1, .null, .null, .null, .null, .null] [] u (fun r u2 => zr 133 70 [v0, v1, v2, v3, v4, v5, v6, v7] (r.toList ++ st) u2 P)) := zr_CV k133_67 rfl rfl rfl ⟨Nat.le_of_ble_eq_true rfl, Nat.succ_ne_zero _, by decide⟩ rfl
theorem k133_70 : xcd 133 70 = oCalV 10 153 1 73 := rfl
theorem r133_70 : zr 133 70 [v0, v1, v2, v3, v4, v5, v6, v7] (.int y1 :: .ref b8 :: st) u P = ((xIs u b8 10 ∧ xcat st ≤ 8) ∧ zr 153 0 [.ref b8, .int y1] [] u (fun r u2 => zr 133 73 [v0, v1, v2, v3, v4, v5, v6, v7] (r.toList ++ st) u2 P)) := zr_CV k133_70 rfl rfl rfl ⟨Nat.le_of_ble_eq_true rfl, Nat.succ_ne_zero _, by decide⟩ rfl
theorem k133_73 : xcd 133 73 = oRi 0 := rfl
theorem r133_73 : zr 133 73 [v0, v1, v2, v3, v4, v5, v6, v7] [.int y1] u P = P (some (.int y1)) u := zr_Ri k133_73
theorem k134_0 : xcd 134 0 = oAl 0 1 := rfl
theorem r134_0 : zr 134 0 [.ref a0, v1, v2] st u P = zr 134 1 [.ref a0, v1, v2] (.ref a0 :: st) u P := zr_Al k134_0 rfl
theorem k134_1 : xcd 134 1 = oIl 1 2 := rfl
theorem r134_1 : zr 134 1 [v0, .int x1, v2] st u P = zr 134 2 [v0, .int x1, v2] (.int x1 :: st) u P := zr_Il k134_1 rfl
theorem k134_2 : xcd 134 2 = oCalV 10 159 1 5 := rfl
theorem r134_2 : zr 134 2 [v0, v1, v2] (.int y1 :: .ref b8 :: st) u P = ((xIs u b8 10 ∧ xcat st ≤ 8) ∧ zr 159 0 [.ref b8, .int y1] [] u (fun r u2 => zr 134 5 [v0, v1, v2] (r.toList ++ st) u2 P)) := zr_CV k134_2 rfl rfl rfl ⟨Nat.le_of_ble_eq_true rfl, Nat.succ_ne_zero _, by decide⟩ rfl
theorem k134_5 : xcd 134 5 = oIf (fun x => decide (x = 0)) 18 8 := rfl
theorem r134_5 : zr 134 5 [v0, v1, v2] (.int y1 :: st) u P = (if y1 = 0 then zr 134 18 [v0, v1, v2] st u P else zr 134 8 [v0, v1, v2] st u P) := zr_If k134_5
theorem k134_8 : xcd 134 8 = oIl 2 9 := rfl
theorem r134_8 : zr 134 8 [v0, v1, .int x2] st u P = zr 134 9 [v0, v1, .int x2] (.int x2 :: st) u P := zr_Il k134_8 rfl
theorem k134_9 : xcd 134 9 = oI 0 10 := rfl
theorem r134_9 : zr 134 9 [v0, v1, v2] st u P = zr 134 10 [v0, v1, v2] (.int 0 :: st) u P := zr_I k134_9
theorem k134_10 : xcd 134 10 = oI 9 12 := rfl
theorem r134_10 : zr 134 10 [v0, v1, v2] st u P = zr 134 12 [v0, v1, v2] (.int 9 :: st) u P := zr_I k134_10
theorem k134_12 : xcd 134 12 = oCal 164 3 15 := rfl
theorem r134_12 : zr 134 12 [v0, v1, v2] (.int y3 :: .int y2 :: .int y1 :: st) u P = (xcat st ≤ 8 ∧ zr 164 0 [.int y1, .int y2, .int y3] [] u (fun r u2 => zr 134 15 [v0, v1, v2] (r.toList ++ st) u2 P)) := zr_CS k134_12 (Nat.le_add_left _ _) rfl rfl ⟨Nat.le_of_ble_eq_true rfl, Nat.succ_ne_zero _, by decide⟩ rfl
theorem k134_15 : xcd 134 15 = oIf (fun x => decide (¬ x = 0)) 24 18 := rfl
theorem r134_15 : zr 134 15 [v0, v1, v2] (.int y1 :: st) u P = (if ¬ y1 = 0 then zr 134 24 [v0, v1, v2] st u P else zr 134 18 [v0, v1, v2] st u P) := zr_If k134_15
theorem k134_18 : xcd 134 18 = oAl 0 19 := rfl
theorem r134_18 : zr 134 18 [.ref a0, v1, v2] st u P = zr 134 19 [.ref a0, v1, v2] (.ref a0 :: st) u P := zr_Al k134_18 rfl
theorem k134_19 : xcd 134 19 = oI 1 20 := rfl
theorem r134_19 : zr 134 19 [v0, v1, v2] st u P = zr 134 20 [v0, v1, v2] (.int 1 :: st) u P := zr_I k134_19
theorem k134_20 : xcd 134 20 = oCalV 10 154 1 23 := rfl
theorem r134_20 : zr 134 20 [v0, v1, v2] (.int y1 :: .ref b8 :: st) u P = ((xIs u b8 10 ∧ xcat st ≤ 8) ∧ zr 154 0 [.ref b8, .int y1] [] u (fun r u2 => zr 134 23 [v0, v1, v2] (r.toList ++ st) u2 P)) := zr_CV k134_20 rfl rfl rfl ⟨Nat.le_of_ble_eq_true rfl, Nat.succ_ne_zero _, by decide⟩ rfl
theorem k134_23 : xcd 134 23 = oRi 0 := rfl
theorem r134_23 : zr 134 23 [v0, v1, v2] [.int y1] u P = P (some (.int y1)) u := zr_Ri k134_23
theorem k134_24 : xcd 134 24 = oAl 0 25 := rfl
theorem r134_24 : zr 134 24 [.ref a0, v1, v2] st u P = zr 134 25 [.ref a0, v1, v2] (.ref a0 :: st) u P := zr_Al k134_24 rfl
theorem k134_25 : xcd 134 25 = oAl 0 26 := rfl
theorem r134_25 : zr 134 25 [.ref a0, v1, v2] st u P = zr 134 26 [.ref a0, v1, v2] (.ref a0 :: st) u P := zr_Al k134_25 rfl
theorem k134_26 : xcd 134 26 = oGR 10 3 29 := rfl
theorem r134_26 : zr 134 26 [v0, v1, v2] (.ref b1 :: st) u P = (xIs u b1 10 ∧ ∃ b, xR u b1 3 = some b ∧ zr 134 29 [v0, v1, v2] (.ref b :: st) u P) := zr_GR k134_26
theorem k134_29 : xcd 134 29 = oGR 1 1 32 := rfl
theorem r134_29 : zr 134 29 [v0, v1, v2] (.ref b1 :: st) u P = (xIs u b1 1 ∧ ∃ b, xR u b1 1 = some b ∧ zr 134 32 [v0, v1, v2] (.ref b :: st) u P) := zr_GR k134_29
theorem k134_32 : xcd 134 32 = oIl 1 33 := rfl
theorem r134_32 : zr 134 32 [v0, .int x1, v2] st u P = zr 134 33 [v0, .int x1, v2] (.int x1 :: st) u P := zr_Il k134_32 rfl
theorem k134_33 : xcd 134 33 = oLdR 34 := rfl
theorem r134_33 : zr 134 33 [v0, v1, v2] (.int y1 :: .ref b1 :: st) u P = ((xIs u b1 16 ∧ xinb y1 (xN u b1)) ∧ ∃ b, xR u b1 (xix y1) = some b ∧ zr 134 34 [v0, v1, v2] (.ref b :: st) u P) := zr_LdR k134_33
theorem k134_34 : xcd 134 34 = oIl 2 35 := rfl
theorem r134_34 : zr 134 34 [v0, v1, .int x2] st u P = zr 134 35 [v0, v1, .int x2] (.int x2 :: st) u P := zr_Il k134_34 rfl
theorem k134_35 : xcd 134 35 = oCalV 5 60 1 38 := rfl
theorem r134_35 : zr 134 35 [v0, v1, v2] (.int y1 :: .ref b8 :: st) u P = ((xIs u b8 5 ∧ xcat st ≤ 8) ∧ zr 60 0 [.ref b8, .int y1] [] u (fun r u2 => zr 134 38 [v0, v1, v2] (r.toList ++ st) u2 P)) := zr_CV k134_35 rfl rfl rfl ⟨Nat.le_of_ble_eq_true rfl, Nat.succ_ne_zero _, by decide⟩ rfl
theorem k134_38 : xcd 134 38 = oCalV 10 153 1 41 := rfl
theorem r134_38 : zr 134 38 [v0, v1, v2] (.int y1 :: .ref b8 :: st) u P = ((xIs u b8 10 ∧ xcat st ≤ 8) ∧ zr 153 0 [.ref b8, .int y1] [] u (fun r u2 => zr 134 41 [v0, v1, v2] (r.toList ++ st) u2 P)) := zr_CV k134_38 rfl rfl rfl ⟨Nat.le_of_ble_eq_true rfl, Nat.succ_ne_zero _, by decide⟩ rfl
theorem k134_41 : xcd 134 41 = oRi 0 := rfl
theorem r134_41 : zr 134 41 [v0, v1, v2] [.int y1] u P = P (some (.int y1)) u := zr_Ri k134_41
theorem k135_0 : xcd 135 0 = oAl 0 1 := rfl
theorem r135_0 : zr 135 0 [.ref a0, v1, v2, v3] st u P = zr 135 1 [.ref a0, v1, v2, v3] (.ref a0 :: st) u P := zr_Al k135_0 rfl
theorem k135_1 : xcd 135 1 = oIl 1 2 := rfl
theorem r135_1 : zr 135 1 [v0, .int x1, v2, v3] st u P = zr 135 2 [v0, .int x1, v2, v3] (.int x1 :: st) u P := zr_Il k135_1 rfl
theorem k135_2 : xcd 135 2 = oCalV 10 159 1 5 := rfl
theorem r135_2 : zr 135 2 [v0, v1, v2, v3] (.int y1 :: .ref b8 :: st) u P = ((xIs u b8 10 ∧ xcat st ≤ 8) ∧ zr 159 0 [.ref b8, .int y1] [] u (fun r u2 => zr 135 5 [v0, v1, v2, v3] (r.toList ++ st) u2 P)) := zr_CV k135_2 rfl rfl rfl ⟨Nat.le_of_ble_eq_true rfl, Nat.succ_ne_zero _, by decide⟩ rfl
theorem k135_5 : xcd 135 5 = oIf (fun x => decide (x = 0)) 39 8 := rfl
theorem r135_5 : zr 135 5 [v0, v1, v2, v3] (.int y1 :: st) u P = (if y1 = 0 then zr 135 39 [v0, v1, v2, v3] st u P else zr 135 8 [v0, v1, v2, v3] st u P) := zr_If k135_5
theorem k135_8 : xcd 135 8 = oIl 2 9 := rfl
theorem r135_8 : zr 135 8 [v0, v1, .int x2, v3] st u P = zr 135 9 [v0, v1, .int x2, v3] (.int x2 :: st) u P := zr_Il k135_8 rfl
theorem k135_9 : xcd 135 9 = oI 0 10 := rfl
theorem r135_9 : zr 135 9 [v0, v1, v2, v3] st u P = zr 135 10 [v0, v1, v2, v3] (.int 0 :: st) u P := zr_I k135_9
theorem k135_10 : xcd 135 10 = oAl 0 11 := rfl
theorem r135_10 : zr 135 10 [.ref a0, v1, v2, v3] st u P = zr 135 11 [.ref a0, v1, v2, v3] (.ref a0 :: st) u P := zr_Al k135_10 rfl
theorem k135_11 : xcd 135 11 = oGR 10 3 14 := rfl
theorem r135_11 : zr 135 11 [v0, v1, v2, v3] (.ref b1 :: st) u P = (xIs u b1 10 ∧ ∃ b, xR u b1 3 = some b ∧ zr 135 14 [v0, v1, v2, v3] (.ref b :: st) u P) := zr_GR k135_11
theorem k135_14 : xcd 135 14 = oGR 1 1 17 := rfl
theorem r135_14 : zr 135 14 [v0, v1, v2, v3] (.ref b1 :: st) u P = (xIs u b1 1 ∧ ∃ b, xR u b1 1 = some b ∧ zr 135 17 [v0, v1, v2, v3] (.ref b :: st) u P) := zr_GR k135_14
theorem k135_17 : xcd 135 17 = oIl 1 18 := rfl
theorem r135_17 : zr 135 17 [v0, .int x1, v2, v3] st u P = zr 135 18 [v0, .int x1, v2, v3] (.int x1 :: st) u P := zr_Il k135_17 rfl
theorem k135_18 : xcd 135 18 = oLdR 19 := rfl
theorem r135_18 : zr 135 18 [v0, v1, v2, v3] (.int y1 :: .ref b1 :: st) u P = ((xIs u b1 16 ∧ xinb y1 (xN u b1)) ∧ ∃ b, xR u b1 (xix y1) = some b ∧ zr 135 19 [v0, v1, v2, v3] (.ref b :: st) u P) := zr_LdR k135_18
theorem k135_19 : xcd 135 19 = oGI 5 8 22 := rfl
theorem r135_19 : zr 135 19 [v0, v1, v2, v3] (.ref b1 :: st) u P = (xIs u b1 5 ∧ zr 135 22 [v0, v1, v2, v3] (.int (xI u b1 8) :: st) u P) := zr_GI k135_19
theorem k135_22 : xcd 135 22 = oI 1 23 := rfl
theorem r135_22 : zr 135 22 [v0, v1, v2, v3] st u P = zr 135 23 [v0, v1, v2, v3] (.int 1 :: st) u P := zr_I k135_22
theorem k135_23 : xcd 135 23 = oB (fun x y => x - y) 24 := rfl
theorem r135_23 : zr 135 23 [v0, v1, v2, v3] (.int y1 :: .int y2 :: st) u P = zr 135 24 [v0, v1, v2, v3] (.int (y2 - y1) :: st) u P := zr_B k135_23
theorem k135_24 : xcd 135 24 = oCal 164 3 27 := rfl
theorem r135_24 : zr 135 24 [v0, v1, v2, v3] (.int y3 :: .int y2 :: .int y1 :: st) u P = (xcat st ≤ 8 ∧ zr 164 0 [.int y1, .int y2, .int y3] [] u (fun r u2 => zr 135 27 [v0, v1, v2, v3] (r.toList ++ st) u2 P)) := zr_CS k135_24 (Nat.le_add_left _ _) rfl rfl ⟨Nat.le_of_ble_eq_true rfl, Nat.succ_ne_zero _, by decide⟩ rfl
theorem k135_27 : xcd 135 27 = oIf (fun x => decide (x = 0)) 39 30 := rfl
theorem r135_27 : zr 135 27 [v0, v1, v2, v3] (.int y1 :: st) u P = (if y1 = 0 then zr 135 39 [v0, v1, v2, v3] st u P else zr 135 30 [v0, v1, v2, v3] st u P) := zr_If k135_27
theorem k135_30 : xcd 135 30 = oIl 3 31 := rfl
theorem r135_30 : zr 135 30 [v0, v1, v2, .int x3] st u P = zr 135 31 [v0, v1, v2, .int x3] (.int x3 :: st) u P := zr_Il k135_30 rfl
theorem k135_31 : xcd 135 31 = oI 0 32 := rfl
theorem r135_31 : zr 135 31 [v0, v1, v2, v3] st u P = zr 135 32 [v0, v1, v2, v3] (.int 0 :: st) u P := zr_I k135_31
theorem k135_32 : xcd 135 32 = oI 5 33 := rfl
theorem r135_32 : zr 135 32 [v0, v1, v2, v3] st u P = zr 135 33 [v0, v1, v2, v3] (.int 5 :: st) u P := zr_I k135_32
theorem k135_33 : xcd 135 33 = oCal 164 3 36 := rfl
theorem r135_33 : zr 135 33 [v0, v1, v2, v3] (.int y3 :: .int y2 :: .int y1 :: st) u P = (xcat st ≤ 8 ∧ zr 164 0 [.int y1, .int y2, .int y3] [] u (fun r u2 => zr 135 36 [v0, v1, v2, v3] (r.toList ++ st) u2 P)) := zr_CS k135_33 (Nat.le_add_left _ _) rfl rfl ⟨Nat.le_of_ble_eq_true rfl, Nat.succ_ne_zero _, by decide⟩ rfl
theorem k135_36 : xcd 135 36 = oIf (fun x => decide (¬ x = 0)) 45 39 := rfl
theorem r135_36 : zr 135 36 [v0, v1, v2, v3] (.int y1 :: st) u P = (if ¬ y1 = 0 then zr 135 45 [v0, v1, v2, v3] st u P else zr 135 39 [v0, v1, v2, v3] st u P) := zr_If k135_36
theorem k135_39 : xcd 135 39 = oAl 0 40 := rfl
theorem r135_39 : zr 135 39 [.ref a0, v1, v2, v3] st u P = zr 135 40 [.ref a0, v1, v2, v3] (.ref a0 :: st) u P := zr_Al k135_39 rfl
theorem k135_40 : xcd 135 40 = oI 1 41 := rfl
theorem r135_40 : zr 135 40 [v0, v1, v2, v3] st u P = zr 135 41 [v0, v1, v2, v3] (.int 1 :: st) u P := zr_I k135_40
theorem k135_41 : xcd 135 41 = oCalV 10 154 1 44 := rfl
theorem r135_41 : zr 135 41 [v0, v1, v2, v3] (.int y1 :: .ref b8 :: st) u P = ((xIs u b8 10 ∧ xcat st ≤ 8) ∧ zr 154 0 [.ref b8, .int y1] [] u (fun r u2 => zr 135 44 [v0, v1, v2, v3] (r.toList ++ st) u2 P)) := zr_CV k135_41 rfl rfl rfl ⟨Nat.le_of_ble_eq_true rfl, Nat.succ_ne_zero _, by decide⟩ rfl
theorem k135_44 : xcd 135 44 = oRi 0 := rfl
theorem r135_44 : zr 135 44 [v0, v1, v2, v3] [.int y1] u P = P (some (.int y1)) u := zr_Ri k135_44
theorem k135_45 : xcd 135 45 = oAl 0 46 := rfl
theorem r135_45 : zr 135 45 [.ref a0, v1, v2, v3] st u P = zr 135 46 [.ref a0, v1, v2, v3] (.ref a0 :: st) u P := zr_Al k135_45 rfl
theorem k135_46 : xcd 135 46 = oAl 0 47 := rfl
theorem r135_46 : zr 135 46 [.ref a0, v1, v2, v3] st u P = zr 135 47 [.ref a0, v1, v2, v3] (.ref a0 :: st) u P := zr_Al k135_46 rfl
theorem k135_47 : xcd 135 47 = oGR 10 3 50 := rfl
theorem r135_47 : zr 135 47 [v0, v1, v2, v3] (.ref b1 :: st) u P = (xIs u b1 10 ∧ ∃ b, xR u b1 3 = some b ∧ zr 135 50 [v0, v1, v2, v3] (.ref b :: st) u P) := zr_GR k135_47
theorem k135_50 : xcd 135 50 = oGR 1 1 53 := rfl
theorem r135_50 : zr 135 50 [v0, v1, v2, v3] (.ref b1 :: st) u P = (xIs u b1 1 ∧ ∃ b, xR u b1 1 = some b ∧ zr 135 53 [v0, v1, v2, v3] (.ref b :: st) u P) := zr_GR k135_50
theorem k135_53 : xcd 135 53 = oIl 1 54 := rfl
theorem r135_53 : zr 135 53 [v0, .int x1, v2, v3] st u P = zr 135 54 [v0, .int x1, v2, v3] (.int x1 :: st) u P := zr_Il k135_53 rfl
theorem k135_54 : xcd 135 54 = oLdR 55 := rfl
theorem r135_54 : zr 135 54 [v0, v1, v2, v3] (.int y1 :: .ref b1 :: st) u P = ((xIs u b1 16 ∧ xinb y1 (xN u b1)) ∧ ∃ b, xR u b1 (xix y1) = some b ∧ zr 135 55 [v0, v1, v2, v3] (.ref b :: st) u P) := zr_LdR k135_54
theorem k135_55 : xcd 135 55 = oIl 2 56 := rfl
theorem r135_55 : zr 135 55 [v0, v1, .int x2, v3] st u P = zr 135 56 [v0, v1, .int x2, v3] (.int x2 :: st) u P := zr_Il k135_55 rfl
theorem k135_56 : xcd 135 56 = oIl 3 57 := rfl
theorem r135_56 : zr 135 56 [v0, v1, v2, .int x3] st u P = zr 135 57 [v0, v1, v2, .int x3] (.int x3 :: st) u P := zr_Il k135_56 rfl
theorem k135_57 : xcd 135 57 = oCalV 5 61 2 60 := rfl
theorem r135_57 : zr 135 57 [v0, v1, v2, v3] (.int y2 :: .int y1 :: .ref b8 :: st) u P = ((xIs u b8 5 ∧ xcat st ≤ 8) ∧ zr 61 0 [.ref b8, .int y1, .int y2] [] u (fun r u2 => zr 135 60 [v0, v1, v2, v3] (r.toList ++ st) u2 P)) := zr_CV k135_57 rfl rfl rfl ⟨Nat.le_of_ble_eq_true rfl, Nat.succ_ne_zero _, by decide⟩ rfl
theorem k135_60 : xcd 135 60 = oCalV 10 153 1 63 := rfl
theorem r135_60 : zr 135 60 [v0, v1, v2, v3] (.int y1 :: .ref b8 :: st) u P = ((xIs u b8 10 ∧ xcat st ≤ 8) ∧ zr 153 0 [.ref b8, .int y1] [] u (fun r u2 => zr 135 63 [v0, v1, v2, v3] (r.toList ++ st) u2 P)) := zr_CV k135_60 rfl rfl rfl ⟨Nat.le_of_ble_eq_true rfl, Nat.succ_ne_zero _, by decide⟩ rfl
theorem k135_63 : xcd 135 63 = oRi 0 := rfl
theorem r135_63 : zr 135 63 [v0, v1, v2, v3] [.int y1] u P = P (some (.int y1)) u := zr_Ri k135_63
theorem k136_0 : xcd 136 0 = oAl 0 1 := rfl
theorem r136_0 : zr 136 0 [.ref a0] st u P = zr 136 1 [.ref a0] (.ref a0 :: st) u P := zr_Al k136_0 rfl
theorem k136_1 : xcd 136 1 = oGI 10 2 4 := rfl
theorem r136_1 : zr 136 1 [v0] (.ref b1 :: st) u P = (xIs u b1 10 ∧ zr 136 4 [v0] (.int (xI u b1 2) :: st) u P) := zr_GI k136_1
theorem k136_4 : xcd 136 4 = oIf (fun x => decide (x = 0)) 21 7 := rfl
theorem r136_4 : zr 136 4 [v0] (.int y1 :: st) u P = (if y1 = 0 then zr 136 21 [v0] st u P else zr 136 7 [v0] st u P) := zr_If k136_4
theorem k136_7 : xcd 136 7 = oAl 0 8 := rfl
theorem r136_7 : zr 136 7 [.ref a0] st u P = zr 136 8 [.ref a0] (.ref a0 :: st) u P := zr_Al k136_7 rfl
theorem k136_8 : xcd 136 8 = oAl 0 9 := rfl
theorem r136_8 : zr 136 8 [.ref a0] st u P = zr 136 9 [.ref a0] (.ref a0 :: st) u P := zr_Al k136_8 rfl
theorem k136_9 : xcd 136 9 = oGR 10 3 12 := rfl
theorem r136_9 : zr 136 9 [v0] (.ref b1 :: st) u P = (xIs u b1 10 ∧ ∃ b, xR u b1 3 = some b ∧ zr 136 12 [v0] (.ref b :: st) u P) := zr_GR k136_9
theorem k136_12 : xcd 136 12 = oCalV 1 11 0 15 := rfl
theorem r136_12 : zr 136 12 [v0] (.ref b8 :: st) u P = ((xIs u b8 1 ∧ xcat st ≤ 8) ∧ zr 11 0 [.ref b8, .null, .null, .null, .null, .null] [] u (fun r u2 => zr 136 15 [v0] (r.toList ++ st) u2 P)) := zr_CV k136_12 rfl rfl rfl ⟨Nat.le_of_ble_eq_true rfl, Nat.succ_ne_zero _, by decide⟩ rfl
theorem k136_15 : xcd 136 15 = oCalV 10 153 1 18 := rfl
theorem r136_15 : zr 136 15 [v0] (.int y1 :: .ref b8 :: st) u P = ((xIs u b8 10 ∧ xcat st ≤ 8) ∧ zr 153 0 [.ref b8, .int y1] [] u (fun r u2 => zr 136 18 [v0] (r.toList ++ st) u2 P)) := zr_CV k136_15 rfl rfl rfl ⟨Nat.le_of_ble_eq_true rfl, Nat.succ_ne_zero _, by decide⟩ rfl
theorem k136_18 : xcd 136 18 = oGoto 26 := rfl
theorem r136_18 : zr 136 18 [v0] st u P = zr 136 26 [v0] st u P := zr_Goto k136_18
theorem k136_21 : xcd 136 21 = oAl 0 22 := rfl
theorem r136_21 : zr 136 21 [.ref a0] st u P = zr 136 22 [.ref a0] (.ref a0 :: st) u P := zr_Al k136_21 rfl
theorem k136_22 : xcd 136 22 = oI 1 23 := rfl
theorem r136_22 : zr 136 22 [v0] st u P = zr 136 23 [v0] (.int 1 :: st) u P := zr_I k136_22
theorem k136_23 : xcd 136 23 = oCalV 10 154 1 26 := rfl
theorem r136_23 : zr 136 23 [v0] (.int y1 :: .ref b8 :: st) u P = ((xIs u b8 10 ∧ xcat st ≤ 8) ∧ zr 154 0 [.ref b8, .int y1] [] u (fun r u2 => zr 136 26 [v0] (r.toList ++ st) u2 P)) := zr_CV k136_23 rfl rfl rfl ⟨Nat.le_of_ble_eq_true rfl, Nat.succ_ne_zero _, by decide⟩ rfl
theorem k136_26 : xcd 136 26 = oRi 0 := rfl
theorem r136_26 : zr 136 26 [v0] [.int y1] u P = P (some (.int y1)) u := zr_Ri k136_26
theorem k137_0 : xcd 137 0 = oAl 0 1 := rfl
theorem r137_0 : zr 137 0 [.ref a0, v1, v2, v3, v4] st u P = zr 137 1 [.ref a0, v1, v2, v3, v4] (.ref a0 :: st) u P := zr_Al k137_0 rfl
theorem k137_1 : xcd 137 1 = oGI 10 2 4 := rfl
theorem r137_1 : zr 137 1 [v0, v1, v2, v3, v4] (.ref b1 :: st) u P = (xIs u b1 10 ∧ zr 137 4 [v0, v1, v2, v3, v4] (.int (xI u b1 2) :: st) u P) := zr_GI k137_1
theorem k137_4 : xcd 137 4 = oIf (fun x => decide (x = 0)) 33 7 := rfl
theorem r137_4 : zr 137 4 [v0, v1, v2, v3, v4] (.int y1 :: st) u P = (if y1 = 0 then zr 137 33 [v0, v1, v2, v3, v4] st u P else zr 137 7 [v0, v1, v2, v3, v4] st u P) := zr_If k137_4
theorem k137_7 : xcd 137 7 = oIl 1 8 := rfl
theorem r137_7 : zr 137 7 [v0, .int x1, v2, v3, v4] st u P = zr 137 8 [v0, .int x1, v2, v3, v4] (.int x1 :: st) u P := zr_Il k137_7 rfl
theorem k137_8 : xcd 137 8 = oI 0 9 := rfl
theorem r137_8 : zr 137 8 [v0, v1, v2, v3, v4] st u P = zr 137 9 [v0, v1, v2, v3, v4] (.int 0 :: st) u P := zr_I k137_8
theorem k137_9 : xcd 137 9 = oAl 0 10 := rfl
theorem r137_9 : zr 137 9 [.ref a0, v1, v2, v3, v4] st u P = zr 137 10 [.ref a0, v1, v2, v3, v4] (.ref a0 :: st) u P := zr_Al k137_9 rfl
theorem k137_10 : xcd 137 10 = oGR 10 3 13 := rfl
theorem r137_10 : zr 137 10 [v0, v1, v2, v3, v4] (.ref b1 :: st) u P = (xIs u b1 10 ∧ ∃ b, xR u b1 3 = some b ∧ zr 137 13 [v0, v1, v2, v3, v4] (.ref b :: st) u P) := zr_GR k137_10
theorem k137_13 : xcd 137 13 = oCalV 1 11 0 16 := rfl
theorem r137_13 : zr 137 13 [v0, v1, v2, v3, v4] (.ref b8 :: st) u P = ((xIs u b8 1 ∧ xcat st ≤ 8) ∧ zr 11 0 [.ref b8, .null, .null, .null, .null, .null] [] u (fun r u2 => zr 137 16 [v0, v1, v2, v3, v4] (r.toList ++ st) u2 P)) := zr_CV k137_13 rfl rfl rfl ⟨Nat.le_of_ble_eq_true rfl, Nat.succ_ne_zero _, by decide⟩ rfl
theorem k137_16 : xcd 137 16 = oI 1 17 := rfl
theorem r137_16 : zr 137 16 [v0, v1, v2, v3, v4] st u P = zr 137 17 [v0, v1, v2, v3, v4] (.int 1 :: st) u P := zr_I k137_16
theorem k137_17 : xcd 137 17 = oB (fun x y => x - y) 18 := rfl
theorem r137_17 : zr 137 17 [v0, v1, v2, v3, v4] (.int y1 :: .int y2 :: st) u P = zr 137 18 [v0, v1, v2, v3, v4] (.int (y2 - y1) :: st) u P := zr_B k137_17
theorem k137_18 : xcd 137 18 = oCal 164 3 21 := rfl
theorem r137_18 : zr 137 18 [v0, v1, v2, v3, v4] (.int y3 :: .int y2 :: .int y1 :: st) u P = (xcat st ≤ 8 ∧ zr 164 0 [.int y1, .int y2, .int y3] [] u (fun r u2 => zr 137 21 [v0, v1, v2, v3, v4] (r.toList ++ st) u2 P)) := zr_CS k137_18 (Nat.le_add_left _ _) rfl rfl ⟨Nat.le_of_ble_eq_true rfl, Nat.succ_ne_zero _, by decide⟩ rfl
theorem k137_21 : xcd 137 21 = oIf (fun x => decide (x = 0)) 33 24 := rfl
theorem r137_21 : zr 137 21 [v0, v1, v2, v3, v4] (.int y1 :: st) u P = (if y1 = 0 then zr 137 33 [v0, v1, v2, v3, v4] st u P else zr 137 24 [v0, v1, v2, v3, v4] st u P) := zr_If k137_21
theorem k137_24 : xcd 137 24 = oIl 2 25 := rfl
theorem r137_24 : zr 137 24 [v0, v1, .int x2, v3, v4] st u P = zr 137 25 [v0, v1, .int x2, v3, v4] (.int x2 :: st) u P := zr_Il k137_24 rfl
theorem k137_25 : xcd 137 25 = oI 0 26 := rfl
theorem r137_25 : zr 137 25 [v0, v1, v2, v3, v4] st u P = zr 137 26 [v0, v1, v2, v3, v4] (.int 0 :: st) u P := zr_I k137_25
theorem k137_26 : xcd 137 26 = oI 2 27 := rfl
theorem r137_26 : zr 137 26 [v0, v1, v2, v3, v4] st u P = zr 137 27 [v0, v1, v2, v3, v4] (.int 2 :: st) u P := zr_I k137_26
theorem k137_27 : xcd 137 27 = oCal 164 3 30 := rfl
theorem r137_27 : zr 137 27 [v0, v1, v2, v3, v4] (.int y3 :: .int y2 :: .int y1 :: st) u P = (xcat st ≤ 8 ∧ zr 164 0 [.int y1, .int y2, .int y3] [] u (fun r u2 => zr 137 30 [v0, v1, v2, v3, v4] (r.toList ++ st) u2 P)) := zr_CS k137_27 (Nat.le_add_left _ _) rfl rfl ⟨Nat.le_of_ble_eq_true rfl, Nat.succ_ne_zero _, by decide⟩ rfl
theorem k137_30 : xcd 137 30 = oIf (fun x => decide (¬ x = 0)) 39 33 := rfl
theorem r137_30 : zr 137 30 [v0, v1, v2, v3, v4] (.int y1 :: st) u P = (if ¬ y1 = 0 then zr 137 39 [v0, v1, v2, v3, v4] st u P else zr 137 33 [v0, v1, v2, v3, v4] st u P) := zr_If k137_30
theorem k137_33 : xcd 137 33 = oAl 0 34 := rfl
theorem r137_33 : zr 137 33 [.ref a0, v1, v2, v3, v4] st u P = zr 137 34 [.ref a0, v1, v2, v3, v4] (.ref a0 :: st) u P := zr_Al k137_33 rfl
theorem k137_34 : xcd 137 34 = oI 1 35 := rfl
theorem r137_34 : zr 137 34 [v0, v1, v2, v3, v4] st u P = zr 137 35 [v0, v1, v2, v3, v4] (.int 1 :: st) u P := zr_I k137_34
theorem k137_35 : xcd 137 35 = oCalV 10 154 1 38 := rfl
theorem r137_35 : zr 137 35 [v0, v1, v2, v3, v4] (.int y1 :: .ref b8 :: st) u P = ((xIs u b8 10 ∧ xcat st ≤ 8) ∧ zr 154 0 [.ref b8, .int y1] [] u (fun r u2 => zr 137 38 [v0, v1, v2, v3, v4] (r.toList ++ st) u2 P)) := zr_CV k137_35 rfl rfl rfl ⟨Nat.le_of_ble_eq_true rfl, Nat.succ_ne_zero _, by decide⟩ rfl
theorem k137_38 : xcd 137 38 = oRi 0 := rfl
theorem r137_38 : zr 137 38 [v0, v1, v2, v3, v4] [.int y1] u P = P (some (.int y1)) u := zr_Ri k137_38
theorem k137_39 : xcd 137 39 = oAl 0 40 := rfl
theorem r137_39 : zr 137 39 [.ref a0, v1, v2, v3, v4] st u P = zr 137 40 [.ref a0, v1, v2, v3, v4] (.ref a0 :: st) u P := zr_Al k137_39 rfl
theorem k137_40 : xcd 137 40 = oGR 10 3 43 := rfl
theorem r137_40 : zr 137 40 [v0, v1, v2, v3, v4] (.ref b1 :: st) u P = (xIs u b1 10 ∧ ∃ b, xR u b1 3 = some b ∧ zr 137 43 [v0, v1, v2, v3, v4] (.ref b :: st) u P) := zr_GR k137_40
theorem k137_43 : xcd 137 43 = oGR 1 5 46 := rfl
theorem r137_43 : zr 137 43 [v0, v1, v2, v3, v4] (.ref b1 :: st) u P = (xIs u b1 1 ∧ ∃ b, xR u b1 5 = some b ∧ zr 137 46 [v0, v1, v2, v3, v4] (.ref b :: st) u P) := zr_GR k137_43
theorem k137_46 : xcd 137 46 = oIl 1 47 := rfl
theorem r137_46 : zr 137 46 [v0, .int x1, v2, v3, v4] st u P = zr 137 47 [v0, .int x1, v2, v3, v4] (.int x1 :: st) u P := zr_Il k137_46 rfl
theorem k137_47 : xcd 137 47 = oLd 13 48 := rfl
theorem r137_47 : zr 137 47 [v0, v1, v2, v3, v4] (.int y1 :: .ref b1 :: st) u P = ((xIs u b1 13 ∧ xinb y1 (xN u b1)) ∧ zr 137 48 [v0, v1, v2, v3, v4] (.int (xI u b1 (xix y1)) :: st) u P) := zr_Ld k137_47
theorem k137_48 : xcd 137 48 = oIs 3 49 := rfl
theorem r137_48 : zr 137 48 [v0, v1, .int x2, v3, v4] (.int y1 :: st) u P = zr 137 49 [v0, v1, .int x2, .int y1, v4] st u P := zr_Is k137_48 ⟨Nat.le_of_ble_eq_true rfl, rfl⟩
theorem k137_49 : xcd 137 49 = oAl 0 50 := rfl
theorem r137_49 : zr 137 49 [.ref a0, v1, v2, v3, v4] st u P = zr 137 50 [.ref a0, v1, v2, v3, v4] (.ref a0 :: st) u P := zr_Al k137_49 rfl
theorem k137_50 : xcd 137 50 = oGR 10 3 53 := rfl
theorem r137_50 : zr 137 50 [v0, v1, v2, v3, v4] (.ref b1 :: st) u P = (xIs u b1 10 ∧ ∃ b, xR u b1 3 = some b ∧ zr 137 53 [v0, v1, v2, v3, v4] (.ref b :: st) u P) := zr_GR k137_50
theorem k137_53 : xcd 137 53 = oGR 1 6 56 := rfl
theorem r137_53 : zr 137 53 [v0, v1, v2, v3, v4] (.ref b1 :: st) u P = (xIs u b1 1 ∧ ∃ b, xR u b1 6 = some b ∧ zr 137 56 [v0, v1, v2, v3, v4] (.ref b :: st) u P) := zr_GR k137_53
theorem k137_56 : xcd 137 56 = oIl 1 57 := rfl
theorem r137_56 : zr 137 56 [v0, .int x1, v2, v3, v4] st u P = zr 137 57 [v0, .int x1, v2, v3, v4] (.int x1 :: st) u P := zr_Il k137_56 rfl
theorem k137_57 : xcd 137 57 = oLd 13 58 := rfl
theorem r137_57 : zr 137 57 [v0, v1, v2, v3, v4] (.int y1 :: .ref b1 :: st) u P = ((xIs u b1 13 ∧ xinb y1 (xN u b1)) ∧ zr 137 58 [v0, v1, v2, v3, v4] (.int (xI u b1 (xix y1)) :: st) u P) := zr_Ld k137_57
theorem k137_58 : xcd 137 58 = oIs 4 60 := rfl
theorem r137_58 : zr 137 58 [v0, v1, v2, .int x3, v4] (.int y1 :: st) u P = zr 137 60 [v0, v1, v2, .int x3, .int y1] st u P := zr_Is k137_58 ⟨Nat.le_of_ble_eq_true rfl, rfl⟩
theorem k137_60 : xcd 137 60 = oIl 2 61 := rfl
theorem r137_60 : zr 137 60 [v0, v1, .int x2, v3, v4] st u P = zr 137 61 [v0, v1, .int x2, v3, v4] (.int x2 :: st) u P := zr_Il k137_60 rfl
theorem k137_61 : xcd 137 61 = oI 2 62 := rfl
theorem r137_61 : zr 137 61 [v0, v1, v2, v3, v4] st u P = zr 137 62 [v0, v1, v2, v3, v4] (.int 2 :: st) u P := zr_I k137_61
theorem k137_62 : xcd 137 62 = oCmp (fun x y => decide (¬ x = y)) 80 65 := rfl
theorem r137_62 : zr 137 62 [v0, v1, v2, v3, v4] (.int y1 :: .int y2 :: st) u P = (if ¬ y2 = y1 then zr 137 80 [v0, v1, v2, v3, v4] st u P else zr 137 65 [v0, v1, v2, v3, v4] st u P) := zr_Cmp k137_62
theorem k137_65 : xcd 137 65 = oAl 0 66 := rfl
theorem r137_65 : zr 137 65 [.ref a0, v1, v2, v3, v4] st u P = zr 137 66 [.ref a0, v1, v2, v3, v4] (.ref a0 :: st) u P := zr_Al k137_65 rfl
theorem k137_66 : xcd 137 66 = oAl 0 67 := rfl
theorem r137_66 : zr 137 66 [.ref a0, v1, v2, v3, v4] st u P = zr 137 67 [.ref a0, v1, v2, v3, v4] (.ref a0 :: st) u P := zr_Al k137_66 rfl
theorem k137_67 : xcd 137 67 = oGR 10 3 70 := rfl
theorem r137_67 : zr 137 67 [v0, v1, v2, v3, v4] (.ref b1 :: st) u P = (xIs u b1 10 ∧ ∃ b, xR u b1 3 = some b ∧ zr 137 70 [v0, v1, v2, v3, v4] (.ref b :: st) u P) := zr_GR k137_67
theorem k137_70 : xcd 137 70 = oIl 3 71 := rfl
theorem r137_70 : zr 137 70 [v0, v1, v2, .int x3, v4] st u P = zr 137 71 [v0, v1, v2, .int x3, v4] (.int x3 :: st) u P := zr_Il k137_70 rfl
theorem k137_71 : xcd 137 71 = oIl 4 73 := rfl
theorem r137_71 : zr 137 71 [v0, v1, v2, v3, .int x4] st u P = zr 137 73 [v0, v1, v2, v3, .int x4] (.int x4 :: st) u P := zr_Il k137_71 rfl
theorem k137_73 : xcd 137 73 = oCalV 1 10 2 76 := rfl
theorem r137_73 : zr 137 73 [v0, v1, v2, v3, v4] (.int y2 :: .int y1 :: .ref b8 :: st) u P = ((xIs u b8 1 ∧ xcat st ≤ 8) ∧ zr 10 0 [.ref b8, .int y1, .int y2, .null, .null] [] u (fun r u2 => zr 137 76 [v0, v1, v2, v3, v4] (r.toList ++ st) u2 P)) := zr_CV k137_73 rfl rfl rfl ⟨Nat.le_of_ble_eq_true rfl, Nat.succ_ne_zero _, by decide⟩ rfl
theorem k137_76 : xcd 137 76 = oCalV 10 153 1 79 := rfl
theorem r137_76 : zr 137 76 [v0, v1, v2, v3, v4] (.int y1 :: .ref b8 :: st) u P = ((xIs u b8 10 ∧ xcat st ≤ 8) ∧ zr 153 0 [.ref b8, .int y1] [] u (fun r u2 => zr 137 79 [v0, v1, v2, v3, v4] (r.toList ++ st) u2 P)) := zr_CV k137_76 rfl rfl rfl ⟨Nat.le_of_ble_eq_true rfl, Nat.succ_ne_zero _, by decide⟩ rfl
theorem k137_79 : xcd 137 79 = oRi 0 := rfl
theorem r137_79 : zr 137 79 [v0, v1, v2, v3, v4] [.int y1] u P = P (some (.int y1)) u := zr_Ri k137_79
theorem k137_80 : xcd 137 80 = oAl 0 81 := rfl
theorem r137_80 : zr 137 80 [.ref a0, v1, v2, v3, v4] st u P = zr 137 81 [.ref a0, v1, v2, v3, v4] (.ref a0 :: st) u P := zr_Al k137_80 rfl
theorem k137_81 : xcd 137 81 = oIl 2 82 := rfl
theorem r137_81 : zr 137 81 [v0, v1, .int x2, v3, v4] st u P = zr 137 82 [v0, v1, .int x2, v3, v4] (.int x2 :: st) u P := zr_Il k137_81 rfl
theorem k137_82 : xcd 137 82 = oIf (fun x => decide (¬ x = 0)) 89 85 := rfl
theorem r137_82 : zr 137 82 [v0, v1, v2, v3, v4] (.int y1 :: st) u P = (if ¬ y1 = 0 then zr 137 89 [v0, v1, v2, v3, v4] st u P else zr 137 85 [v0, v1, v2, v3, v4] st u P) := zr_If k137_82
theorem k137_85 : xcd 137 85 = oIl 3 86 := rfl
theorem r137_85 : zr 137 85 [v0, v1, v2, .int x3, v4] st u P = zr 137 86 [v0, v1, v2, .int x3, v4] (.int x3 :: st) u P := zr_Il k137_85 rfl
theorem k137_86 : xcd 137 86 = oGoto 91 := rfl
theorem r137_86 : zr 137 86 [v0, v1, v2, v3, v4] st u P = zr 137 91 [v0, v1, v2, v3, v4] st u P := zr_Goto k137_86
theorem k137_89 : xcd 137 89 = oIl 4 91 := rfl
theorem r137_89 : zr 137 89 [v0, v1, v2, v3, .int x4] st u P = zr 137 91 [v0, v1, v2, v3, .int x4] (.int x4 :: st) u P := zr_Il k137_89 rfl
theorem k137_91 : xcd 137 91 = oCalV 10 153 1 94 := rfl
theorem r137_91 : zr 137 91 [v0, v1, v2, v3, v4] (.int y1 :: .ref b8 :: st) u P = ((xIs u b8 10 ∧ xcat st ≤ 8) ∧ zr 153 0 [.ref b8, .int y1] [] u (fun r u2 => zr 137 94 [v0, v1, v2, v3, v4] (r.toList ++ st) u2 P)) := zr_CV k137_91 rfl rfl rfl ⟨Nat.le_of_ble_eq_true rfl, Nat.succ_ne_zero _, by decide⟩ rfl
theorem k137_94 : xcd 137 94 = oRi 0 := rfl
theorem r137_94 : zr 137 94 [v0, v1, v2, v3, v4] [.int y1] u P = P (some (.int y1)) u := zr_Ri k137_94
theorem k138_0 : xcd 138 0 = oAl 0 1 := rfl
theorem r138_0 : zr 138 0 [.ref a0, v1, v2] st u P = zr 138 1 [.ref a0, v1, v2] (.ref a0 :: st) u P := zr_Al k138_0 rfl
theorem k138_1 : xcd 138 1 = oIl 1 2 := rfl
theorem r138_1 : zr 138 1 [v0, .int x1, v2] st u P = zr 138 2 [v0, .int x1, v2] (.int x1 :: st) u P := zr_Il k138_1 rfl
theorem k138_2 : xcd 138 2 = oCalV 10 157 1 5 := rfl
theorem r138_2 : zr 138 2 [v0, v1, v2] (.int y1 :: .ref b8 :: st) u P = ((xIs u b8 10 ∧ xcat st ≤ 8) ∧ zr 157 0 [.ref b8, .int y1] [] u (fun r u2 => zr 138 5 [v0, v1, v2] (r.toList ++ st) u2 P)) := zr_CV k138_2 rfl rfl rfl ⟨Nat.le_of_ble_eq_true rfl, Nat.succ_ne_zero _, by decide⟩ rfl
theorem k138_5 : xcd 138 5 = oIf (fun x => decide (x = 0)) 21 8 := rfl
theorem r138_5 : zr 138 5 [v0, v1, v2] (.int y1 :: st) u P = (if y1 = 0 then zr 138 21 [v0, v1, v2] st u P else zr 138 8 [v0, v1, v2] st u P) := zr_If k138_5
theorem k138_8 : xcd 138 8 = oIl 2 9 := rfl
theorem r138_8 : zr 138 8 [v0, v1, .int x2] st u P = zr 138 9 [v0, v1, .int x2] (.int x2 :: st) u P := zr_Il k138_8 rfl
theorem k138_9 : xcd 138 9 = oI (-1) 10 := rfl
theorem r138_9 : zr 138 9 [v0, v1, v2] st u P = zr 138 10 [v0, v1, v2] (.int (-1) :: st) u P := zr_I k138_9
theorem k138_10 : xcd 138 10 = oCmp (fun x y => decide (x = y)) 27 13 := rfl
theorem r138_10 : zr 138 10 [v0, v1, v2] (.int y1 :: .int y2 :: st) u P = (if y2 = y1 then zr 138 27 [v0, v1, v2] st u P else zr 138 13 [v0, v1, v2] st u P) := zr_Cmp k138_10
theorem k138_13 : xcd 138 13 = oAl 0 14 := rfl
theorem r138_13 : zr 138 13 [.ref a0, v1, v2] st u P = zr 138 14 [.ref a0, v1, v2] (.ref a0 :: st) u P := zr_Al k138_13 rfl
theorem k138_14 : xcd 138 14 = oIl 2 15 := rfl
theorem r138_14 : zr 138 14 [v0, v1, .int x2] st u P = zr 138 15 [v0, v1, .int x2] (.int x2 :: st) u P := zr_Il k138_14 rfl
theorem k138_15 : xcd 138 15 = oCalV 10 158 1 18 := rfl
theorem r138_15 : zr 138 15 [v0, v1, v2] (.int y1 :: .ref b8 :: st) u P = ((xIs u b8 10 ∧ xcat st ≤ 8) ∧ zr 158 0 [.ref b8, .int y1] [] u (fun r u2 => zr 138 18 [v0, v1, v2] (r.toList ++ st) u2 P)) := zr_CV k138_15 rfl rfl rfl ⟨Nat.le_of_ble_eq_true rfl, Nat.succ_ne_zero _, by decide⟩ rfl
theorem k138_18 : xcd 138 18 = oIf (fun x => decide (¬ x = 0)) 27 21 := rfl
theorem r138_18 : zr 138 18 [v0, v1, v2] (.int y1 :: st) u P = (if ¬ y1 = 0 then zr 138 27 [v0, v1, v2] st u P else zr 138 21 [v0, v1, v2] st u P) := zr_If k138_18
theorem k138_21 : xcd 138 21 = oAl 0 22 := rfl
theorem r138_21 : zr 138 21 [.ref a0, v1, v2] st u P = zr 138 22 [.ref a0, v1, v2] (.ref a0 :: st) u P := zr_Al k138_21 rfl
theorem k138_22 : xcd 138 22 = oI 1 23 := rfl
theorem r138_22 : zr 138 22 [v0, v1, v2] st u P = zr 138 23 [v0, v1, v2] (.int 1 :: st) u P := zr_I k138_22
theorem k138_23 : xcd 138 23 = oCalV 10 154 1 26 := rfl
theorem r138_23 : zr 138 23 [v0, v1, v2] (.int y1 :: .ref b8 :: st) u P = ((xIs u b8 10 ∧ xcat st ≤ 8) ∧ zr 154 0 [.ref b8, .int y1] [] u (fun r u2 => zr 138 26 [v0, v1, v2] (r.toList ++ st) u2 P)) := zr_CV k138_23 rfl rfl rfl ⟨Nat.le_of_ble_eq_true rfl, Nat.succ_ne_zero _, by decide⟩ rfl
theorem k138_26 : xcd 138 26 = oRi 0 := rfl
theorem r138_26 : zr 138 26 [v0, v1, v2] [.int y1] u P = P (some (.int y1)) u := zr_Ri k138_26
theorem k138_27 : xcd 138 27 = oAl 0 28 := rfl
theorem r138_27 : zr 138 27 [.ref a0, v1, v2] st u P = zr 138 28 [.ref a0, v1, v2] (.ref a0 :: st) u P := zr_Al k138_27 rfl
theorem k138_28 : xcd 138 28 = oAl 0 29 := rfl
theorem r138_28 : zr 138 28 [.ref a0, v1, v2] st u P = zr 138 29 [.ref a0, v1, v2] (.ref a0 :: st) u P := zr_Al k138_28 rfl
theorem k138_29 : xcd 138 29 = oGR 10 3 32 := rfl
theorem r138_29 : zr 138 29 [v0, v1, v2] (.ref b1 :: st) u P = (xIs u b1 10 ∧ ∃ b, xR u b1 3 = some b ∧ zr 138 32 [v0, v1, v2] (.ref b :: st) u P) := zr_GR k138_29
theorem k138_32 : xcd 138 32 = oIl 1 33 := rfl
theorem r138_32 : zr 138 32 [v0, .int x1, v2] st u P = zr 138 33 [v0, .int x1, v2] (.int x1 :: st) u P := zr_Il k138_32 rfl
theorem k138_33 : xcd 138 33 = oIl 2 34 := rfl
theorem r138_33 : zr 138 33 [v0, v1, .int x2] st u P = zr 138 34 [v0, v1, .int x2] (.int x2 :: st) u P := zr_Il k138_33 rfl
theorem k138_34 : xcd 138 34 = oCalV 1 10 2 37 := rfl
theorem r138_34 : zr 138 34 [v0, v1, v2] (.int y2 :: .int y1 :: .ref b8 :: st) u P = ((xIs u b8 1 ∧ xcat st ≤ 8) ∧ zr 10 0 [.ref b8, .int y1, .int y2, .null, .null] [] u (fun r u2 => zr 138 37 [v0, v1, v2] (r.toList ++ st) u2 P)) := zr_CV k138_34 rfl rfl rfl ⟨Nat.le_of_ble_eq_true rfl, Nat.succ_ne_zero _, by decide⟩ rfl
theorem k138_37 : xcd 138 37 = oCalV 10 153 1 40 := rfl
theorem r138_37 : zr 138 37 [v0, v1, v2] (.int y1 :: .ref b8 :: st) u P = ((xIs u b8 10 ∧ xcat st ≤ 8) ∧ zr 153 0 [.ref b8, .int y1] [] u (fun r u2 => zr 138 40 [v0, v1, v2] (r.toList ++ st) u2 P)) := zr_CV k138_37 rfl rfl rfl ⟨Nat.le_of_ble_eq_true rfl, Nat.succ_ne_zero _, by decide⟩ rfl
theorem k138_40 : xcd 138 40 = oRi 0 := rfl
theorem r138_40 : zr 138 40 [v0, v1, v2] [.int y1] u P = P (some (.int y1)) u := zr_Ri k138_40
theorem k139_0 : xcd 139 0 = oAl 0 1 := rfl
theorem r139_0 : zr 139 0 [.ref a0] st u P = zr 139 1 [.ref a0] (.ref a0 :: st) u P := zr_Al k139_0 rfl
theorem k139_1 : xcd 139 1 = oGI 10 2 4 := rfl
theorem r139_1 : zr 139 1 [v0] (.ref b1 :: st) u P = (xIs u b1 10 ∧ zr 139 4 [v0] (.int (xI u b1 2) :: st) u P) := zr_GI k139_1
theorem k139_4 : xcd 139 4 = oIf (fun x => decide (x = 0)) 21 7 := rfl
theorem r139_4 : zr 139 4 [v0] (.int y1 :: st) u P = (if y1 = 0 then zr 139 21 [v0] st u P else zr 139 7 [v0] st u P) := zr_If k139_4
theorem k139_7 : xcd 139 7 = oAl 0 8 := rfl
theorem r139_7 : zr 139 7 [.ref a0] st u P = zr 139 8 [.ref a0] (.ref a0 :: st) u P := zr_Al k139_7 rfl
theorem k139_8 : xcd 139 8 = oAl 0 9 := rfl
theorem r139_8 : zr 139 8 [.ref a0] st u P = zr 139 9 [.ref a0] (.ref a0 :: st) u P := zr_Al k139_8 rfl
theorem k139_9 : xcd 139 9 = oGR 10 3 12 := rfl
theorem r139_9 : zr 139 9 [v0] (.ref b1 :: st) u P = (xIs u b1 10 ∧ ∃ b, xR u b1 3 = some b ∧ zr 139 12 [v0] (.ref b :: st) u P) := zr_GR k139_9
theorem k139_12 : xcd 139 12 = oGI 1 2 15 := rfl
theorem r139_12 : zr 139 12 [v0] (.ref b1 :: st) u P = (xIs u b1 1 ∧ zr 139 15 [v0] (.int (xI u b1 2) :: st) u P) := zr_GI k139_12
theorem k139_15 : xcd 139 15 = oCalV 10 153 1 18 := rfl
theorem r139_15 : zr 139 15 [v0] (.int y1 :: .ref b8 :: st) u P = ((xIs u b8 10 ∧ xcat st ≤ 8) ∧ zr 153 0 [.ref b8, .int y1] [] u (fun r u2 => zr 139 18 [v0] (r.toList ++ st) u2 P)) := zr_CV k139_15 rfl rfl rfl ⟨Nat.le_of_ble_eq_true rfl, Nat.succ_ne_zero _, by decide⟩ rfl
theorem k139_18 : xcd 139 18 = oGoto 26 := rfl
theorem r139_18 : zr 139 18 [v0] st u P = zr 139 26 [v0] st u P := zr_Goto k139_18
theorem k139_21 : xcd 139 21 = oAl 0 22 := rfl
theorem r139_21 : zr 139 21 [.ref a0] st u P = zr 139 22 [.ref a0] (.ref a0 :: st) u P := zr_Al k139_21 rfl
theorem k139_22 : xcd 139 22 = oI 1 23 := rfl
theorem r139_22 : zr 139 22 [v0] st u P = zr 139 23 [v0] (.int 1 :: st) u P := zr_I k139_22
theorem k139_23 : xcd 139 23 = oCalV 10 154 1 26 := rfl
theorem r139_23 : zr 139 23 [v0] (.int y1 :: .ref b8 :: st) u P = ((xIs u b8 10 ∧ xcat st ≤ 8) ∧ zr 154 0 [.ref b8, .int y1] [] u (fun r u2 => zr 139 26 [v0] (r.toList ++ st) u2 P)) := zr_CV k139_23 rfl rfl rfl ⟨Nat.le_of_ble_eq_true rfl, Nat.succ_ne_zero _, by decide⟩ rfl
theorem k139_26 : xcd 139 26 = oRi 0 := rfl
theorem r139_26 : zr 139 26 [v0] [.int y1] u P = P (some (.int y1)) u := zr_Ri k139_26
theorem k140_0 : xcd 140 0 = oAl 0 1 := rfl
theorem r140_0 : zr 140 0 [.ref a0, v1, v2] st u P = zr 140 1 [.ref a0, v1, v2] (.ref a0 :: st) u P := zr_Al k140_0 rfl
theorem k140_1 : xcd 140 1 = oIl 1 2 := rfl
theorem r140_1 : zr 140 1 [v0, .int x1, v2] st u P = zr 140 2 [v0, .int x1, v2] (.int x1 :: st) u P := zr_Il k140_1 rfl
theorem k140_2 : xcd 140 2 = oCalV 10 160 1 5 := rfl
theorem r140_2 : zr 140 2 [v0, v1, v2] (.int y1 :: .ref b8 :: st) u P = ((xIs u b8 10 ∧ xcat st ≤ 8) ∧ zr 160 0 [.ref b8, .int y1] [] u (fun r u2 => zr 140 5 [v0, v1, v2] (r.toList ++ st) u2 P)) := zr_CV k140_2 rfl rfl rfl ⟨Nat.le_of_ble_eq_true rfl, Nat.succ_ne_zero _, by decide⟩ rfl
theorem k140_5 : xcd 140 5 = oIf (fun x => decide (x = 0)) 17 8 := rfl
theorem r140_5 : zr 140 5 [v0, v1, v2] (.int y1 :: st) u P = (if y1 = 0 then zr 140 17 [v0, v1, v2] st u P else zr 140 8 [v0, v1, v2] st u P) := zr_If k140_5
theorem k140_8 : xcd 140 8 = oIl 2 9 := rfl
theorem r140_8 : zr 140 8 [v0, v1, .int x2] st u P = zr 140 9 [v0, v1, .int x2] (.int x2 :: st) u P := zr_Il k140_8 rfl
theorem k140_9 : xcd 140 9 = oI 0 10 := rfl
theorem r140_9 : zr 140 9 [v0, v1, v2] st u P = zr 140 10 [v0, v1, v2] (.int 0 :: st) u P := zr_I k140_9
theorem k140_10 : xcd 140 10 = oI 1 11 := rfl
theorem r140_10 : zr 140 10 [v0, v1, v2] st u P = zr 140 11 [v0, v1, v2] (.int 1 :: st) u P := zr_I k140_10
theorem k140_11 : xcd 140 11 = oCal 164 3 14 := rfl
theorem r140_11 : zr 140 11 [v0, v1, v2] (.int y3 :: .int y2 :: .int y1 :: st) u P = (xcat st ≤ 8 ∧ zr 164 0 [.int y1, .int y2, .int y3] [] u (fun r u2 => zr 140 14 [v0, v1, v2] (r.toList ++ st) u2 P)) := zr_CS k140_11 (Nat.le_add_left _ _) rfl rfl ⟨Nat.le_of_ble_eq_true rfl, Nat.succ_ne_zero _, by decide⟩ rfl
theorem k140_14 : xcd 140 14 = oIf (fun x => decide (¬ x = 0)) 23 17 := rfl
theorem r140_14 : zr 140 14 [v0, v1, v2] (.int y1 :: st) u P = (if ¬ y1 = 0 then zr 140 23 [v0, v1, v2] st u P else zr 140 17 [v0, v1, v2] st u P) := zr_If k140_14
theorem k140_17 : xcd 140 17 = oAl 0 18 := rfl
theorem r140_17 : zr 140 17 [.ref a0, v1, v2] st u P = zr 140 18 [.ref a0, v1, v2] (.ref a0 :: st) u P := zr_Al k140_17 rfl
theorem k140_18 : xcd 140 18 = oI 1 19 := rfl
theorem r140_18 : zr 140 18 [v0, v1, v2] st u P = zr 140 19 [v0, v1, v2] (.int 1 :: st) u P := zr_I k140_18
theorem k140_19 : xcd 140 19 = oCalV 10 154 1 22 := rfl
theorem r140_19 : zr 140 19 [v0, v1, v2] (.int y1 :: .ref b8 :: st) u P = ((xIs u b8 10 ∧ xcat st ≤ 8) ∧ zr 154 0 [.ref b8, .int y1] [] u (fun r u2 => zr 140 22 [v0, v1, v2] (r.toList ++ st) u2 P)) := zr_CV k140_19 rfl rfl rfl ⟨Nat.le_of_ble_eq_true rfl, Nat.succ_ne_zero _, by decide⟩ rfl
theorem k140_22 : xcd 140 22 = oRi 0 := rfl
theorem r140_22 : zr 140 22 [v0, v1, v2] [.int y1] u P = P (some (.int y1)) u := zr_Ri k140_22
theorem k140_23 : xcd 140 23 = oAl 0 24 := rfl
theorem r140_23 : zr 140 23 [.ref a0, v1, v2] st u P = zr 140 24 [.ref a0, v1, v2] (.ref a0 :: st) u P := zr_Al k140_23 rfl
theorem k140_24 : xcd 140 24 = oIl 2 25 := rfl
theorem r140_24 : zr 140 24 [v0, v1, .int x2] st u P = zr 140 25 [v0, v1, .int x2] (.int x2 :: st) u P := zr_Il k140_24 rfl
theorem k140_25 : xcd 140 25 = oIf (fun x => decide (¬ x = 0)) 40 28 := rfl
theorem r140_25 : zr 140 25 [v0, v1, v2] (.int y1 :: st) u P = (if ¬ y1 = 0 then zr 140 40 [v0, v1, v2] st u P else zr 140 28 [v0, v1, v2] st u P) := zr_If k140_25
theorem k140_28 : xcd 140 28 = oAl 0 29 := rfl
theorem r140_28 : zr 140 28 [.ref a0, v1, v2] st u P = zr 140 29 [.ref a0, v1, v2] (.ref a0 :: st) u P := zr_Al k140_28 rfl
theorem k140_29 : xcd 140 29 = oGR 10 3 32 := rfl
theorem r140_29 : zr 140 29 [v0, v1, v2] (.ref b1 :: st) u P = (xIs u b1 10 ∧ ∃ b, xR u b1 3 = some b ∧ zr 140 32 [v0, v1, v2] (.ref b :: st) u P) := zr_GR k140_29
theorem k140_32 : xcd 140 32 = oGR 1 3 35 := rfl
theorem r140_32 : zr 140 32 [v0, v1, v2] (.ref b1 :: st) u P = (xIs u b1 1 ∧ ∃ b, xR u b1 3 = some b ∧ zr 140 35 [v0, v1, v2] (.ref b :: st) u P) := zr_GR k140_32
theorem k140_35 : xcd 140 35 = oIl 1 36 := rfl
theorem r140_35 : zr 140 35 [v0, .int x1, v2] st u P = zr 140 36 [v0, .int x1, v2] (.int x1 :: st) u P := zr_Il k140_35 rfl
theorem k140_36 : xcd 140 36 = oLd 13 37 := rfl
theorem r140_36 : zr 140 36 [v0, v1, v2] (.int y1 :: .ref b1 :: st) u P = ((xIs u b1 13 ∧ xinb y1 (xN u b1)) ∧ zr 140 37 [v0, v1, v2] (.int (xI u b1 (xix y1)) :: st) u P) := zr_Ld k140_36
theorem k140_37 : xcd 140 37 = oGoto 48 := rfl
theorem r140_37 : zr 140 37 [v0, v1, v2] st u P = zr 140 48 [v0, v1, v2] st u P := zr_Goto k140_37
theorem k140_40 : xcd 140 40 = oAl 0 41 := rfl
theorem r140_40 : zr 140 40 [.ref a0, v1, v2] st u P = zr 140 41 [.ref a0, v1, v2] (.ref a0 :: st) u P := zr_Al k140_40 rfl
theorem k140_41 : xcd 140 41 = oGR 10 3 44 := rfl
theorem r140_41 : zr 140 41 [v0, v1, v2] (.ref b1 :: st) u P = (xIs u b1 10 ∧ ∃ b, xR u b1 3 = some b ∧ zr 140 44 [v0, v1, v2] (.ref b :: st) u P) := zr_GR k140_41
theorem k140_44 : xcd 140 44 = oIl 1 45 := rfl
theorem r140_44 : zr 140 44 [v0, .int x1, v2] st u P = zr 140 45 [v0, .int x1, v2] (.int x1 :: st) u P := zr_Il k140_44 rfl
theorem k140_45 : xcd 140 45 = oCalV 1 13 1 48 := rfl
theorem r140_45 : zr 140 45 [v0, v1, v2] (.int y1 :: .ref b8 :: st) u P = ((xIs u b8 1 ∧ xcat st ≤ 8) ∧ zr 13 0 [.ref b8, .int y1, .null, .null] [] u (fun r u2 => zr 140 48 [v0, v1, v2] (r.toList ++ st) u2 P)) := zr_CV k140_45 rfl rfl rfl ⟨Nat.le_of_ble_eq_true rfl, Nat.succ_ne_zero _, by decide⟩ rfl
theorem k140_48 : xcd 140 48 = oCalV 10 153 1 51 := rfl
theorem r140_48 : zr 140 48 [v0, v1, v2] (.int y1 :: .ref b8 :: st) u P = ((xIs u b8 10 ∧ xcat st ≤ 8) ∧ zr 153 0 [.ref b8, .int y1] [] u (fun r u2 => zr 140 51 [v0, v1, v2] (r.toList ++ st) u2 P)) := zr_CV k140_48 rfl rfl rfl ⟨Nat.le_of_ble_eq_true rfl, Nat.succ_ne_zero _, by decide⟩ rfl
theorem k140_51 : xcd 140 51 = oRi 0 := rfl
theorem r140_51 : zr 140 51 [v0, v1, v2] [.int y1] u P = P (some (.int y1)) u := zr_Ri k140_51
theorem k141_0 : xcd 141 0 = oAl 0 1 := rfl
theorem r141_0 : zr 141 0 [.ref a0, v1, v2] st u P = zr 141 1 [.ref a0, v1, v2] (.ref a0 :: st) u P := zr_Al k141_0 rfl
theorem k141_1 : xcd 141 1 = oIl 1 2 := rfl
theorem r141_1 : zr 141 1 [v0, .int x1, v2] st u P = zr 141 2 [v0, .int x1, v2] (.int x1 :: st) u P := zr_Il k141_1 rfl
theorem k141_2 : xcd 141 2 = oCalV 10 160 1 5 := rfl
theorem r141_2 : zr 141 2 [v0, v1, v2] (.int y1 :: .ref b8 :: st) u P = ((xIs u b8 10 ∧ xcat st ≤ 8) ∧ zr 160 0 [.ref b8, .int y1] [] u (fun r u2 => zr 141 5 [v0, v1, v2] (r.toList ++ st) u2 P)) := zr_CV k141_2 rfl rfl rfl ⟨Nat.le_of_ble_eq_true rfl, Nat.succ_ne_zero _, by decide⟩ rfl
theorem k141_5 : xcd 141 5 = oIf (fun x => decide (x = 0)) 16 8 := rfl
theorem r141_5 : zr 141 5 [v0, v1, v2] (.int y1 :: st) u P = (if y1 = 0 then zr 141 16 [v0, v1, v2] st u P else zr 141 8 [v0, v1, v2] st u P) := zr_If k141_5
theorem k141_8 : xcd 141 8 = oAl 0 9 := rfl
theorem r141_8 : zr 141 8 [.ref a0, v1, v2] st u P = zr 141 9 [.ref a0, v1, v2] (.ref a0 :: st) u P := zr_Al k141_8 rfl
theorem k141_9 : xcd 141 9 = oIl 2 10 := rfl
theorem r141_9 : zr 141 9 [v0, v1, .int x2] st u P = zr 141 10 [v0, v1, .int x2] (.int x2 :: st) u P := zr_Il k141_9 rfl
theorem k141_10 : xcd 141 10 = oCalV 10 157 1 13 := rfl
theorem r141_10 : zr 141 10 [v0, v1, v2] (.int y1 :: .ref b8 :: st) u P = ((xIs u b8 10 ∧ xcat st ≤ 8) ∧ zr 157 0 [.ref b8, .int y1] [] u (fun r u2 => zr 141 13 [v0, v1, v2] (r.toList ++ st) u2 P)) := zr_CV k141_10 rfl rfl rfl ⟨Nat.le_of_ble_eq_true rfl, Nat.succ_ne_zero _, by decide⟩ rfl
theorem k141_13 : xcd 141 13 = oIf (fun x => decide (¬ x = 0)) 22 16 := rfl
theorem r141_13 : zr 141 13 [v0, v1, v2] (.int y1 :: st) u P = (if ¬ y1 = 0 then zr 141 22 [v0, v1, v2] st u P else zr 141 16 [v0, v1, v2] st u P) := zr_If k141_13
theorem k141_16 : xcd 141 16 = oAl 0 17 := rfl
theorem r141_16 : zr 141 16 [.ref a0, v1, v2] st u P = zr 141 17 [.ref a0, v1, v2] (.ref a0 :: st) u P := zr_Al k141_16 rfl
theorem k141_17 : xcd 141 17 = oI 1 18 := rfl
theorem r141_17 : zr 141 17 [v0, v1, v2] st u P = zr 141 18 [v0, v1, v2] (.int 1 :: st) u P := zr_I k141_17
theorem k141_18 : xcd 141 18 = oCalV 10 155 1 21 := rfl
theorem r141_18 : zr 141 18 [v0, v1, v2] (.int y1 :: .ref b8 :: st) u P = ((xIs u b8 10 ∧ xcat st ≤ 8) ∧ zr 155 0 [.ref b8, .int y1] [] u (fun r u2 => zr 141 21 [v0, v1, v2] (r.toList ++ st) u2 P)) := zr_CV k141_18 rfl rfl rfl ⟨Nat.le_of_ble_eq_true rfl, Nat.succ_ne_zero _, by decide⟩ rfl
theorem k141_21 : xcd 141 21 = oRi 0 := rfl
theorem r141_21 : zr 141 21 [v0, v1, v2] [.int y1] u P = P (some (.int y1)) u := zr_Ri k141_21
theorem k141_22 : xcd 141 22 = oAl 0 23 := rfl
theorem r141_22 : zr 141 22 [.ref a0, v1, v2] st u P = zr 141 23 [.ref a0, v1, v2] (.ref a0 :: st) u P := zr_Al k141_22 rfl
theorem k141_23 : xcd 141 23 = oAl 0 24 := rfl
theorem r141_23 : zr 141 23 [.ref a0, v1, v2] st u P = zr 141 24 [.ref a0, v1, v2] (.ref a0 :: st) u P := zr_Al k141_23 rfl
theorem k141_24 : xcd 141 24 = oGR 10 3 27 := rfl
theorem r141_24 : zr 141 24 [v0, v1, v2] (.ref b1 :: st) u P = (xIs u b1 10 ∧ ∃ b, xR u b1 3 = some b ∧ zr 141 27 [v0, v1, v2] (.ref b :: st) u P) := zr_GR k141_24
theorem k141_27 : xcd 141 27 = oIl 1 28 := rfl
theorem r141_27 : zr 141 27 [v0, .int x1, v2] st u P = zr 141 28 [v0, .int x1, v2] (.int x1 :: st) u P := zr_Il k141_27 rfl
theorem k141_28 : xcd 141 28 = oIl 2 29 := rfl
theorem r141_28 : zr 141 28 [v0, v1, .int x2] st u P = zr 141 29 [v0, v1, .int x2] (.int x2 :: st) u P := zr_Il k141_28 rfl
theorem k141_29 : xcd 141 29 = oCalV 1 14 2 32 := rfl
theorem r141_29 : zr 141 29 [v0, v1, v2] (.int y2 :: .int y1 :: .ref b8 :: st) u P = ((xIs u b8 1 ∧ xcat st ≤ 8) ∧ zr 14 0 [.ref b8, .int y1, .int y2, .null, .null] [] u (fun r u2 => zr 141 32 [v0, v1, v2] (r.toList ++ st) u2 P)) := zr_CV k141_29 rfl rfl rfl ⟨Nat.le_of_ble_eq_true rfl, Nat.succ_ne_zero _, by decide⟩ rfl
theorem k141_32 : xcd 141 32 = oCalV 10 153 1 35 := rfl
theorem r141_32 : zr 141 32 [v0, v1, v2] (.int y1 :: .ref b8 :: st) u P = ((xIs u b8 10 ∧ xcat st ≤ 8) ∧ zr 153 0 [.ref b8, .int y1] [] u (fun r u2 => zr 141 35 [v0, v1, v2] (r.toList ++ st) u2 P)) := zr_CV k141_32 rfl rfl rfl ⟨Nat.le_of_ble_eq_true rfl, Nat.succ_ne_zero _, by decide⟩ rfl
theorem k141_35 : xcd 141 35 = oRi 0 := rfl
theorem r141_35 : zr 141 35 [v0, v1, v2] [.int y1] u P = P (some (.int y1)) u := zr_Ri k141_35
theorem k142_0 : xcd 142 0 = oAl 0 1 := rfl
theorem r142_0 : zr 142 0 [.ref a0, v1, v2] st u P = zr 142 1 [.ref a0, v1, v2] (.ref a0 :: st) u P := zr_Al k142_0 rfl
theorem k142_1 : xcd 142 1 = oIl 2 2 := rfl
theorem r142_1 : zr 142 1 [v0, v1, .int x2] st u P = zr 142 2 [v0, v1, .int x2] (.int x2 :: st) u P := zr_Il k142_1 rfl
theorem k142_2 : xcd 142 2 = oCalV 10 157 1 5 := rfl
theorem r142_2 : zr 142 2 [v0, v1, v2] (.int y1 :: .ref b8 :: st) u P = ((xIs u b8 10 ∧ xcat st ≤ 8) ∧ zr 157 0 [.ref b8, .int y1] [] u (fun r u2 => zr 142 5 [v0, v1, v2] (r.toList ++ st) u2 P)) := zr_CV k142_2 rfl rfl rfl ⟨Nat.le_of_ble_eq_true rfl, Nat.succ_ne_zero _, by decide⟩ rfl
theorem k142_5 : xcd 142 5 = oIf (fun x => decide (¬ x = 0)) 14 8 := rfl
theorem r142_5 : zr 142 5 [v0, v1, v2] (.int y1 :: st) u P = (if ¬ y1 = 0 then zr 142 14 [v0, v1, v2] st u P else zr 142 8 [v0, v1, v2] st u P) := zr_If k142_5
theorem k142_8 : xcd 142 8 = oAl 0 9 := rfl
theorem r142_8 : zr 142 8 [.ref a0, v1, v2] st u P = zr 142 9 [.ref a0, v1, v2] (.ref a0 :: st) u P := zr_Al k142_8 rfl
theorem k142_9 : xcd 142 9 = oI 1 10 := rfl
theorem r142_9 : zr 142 9 [v0, v1, v2] st u P = zr 142 10 [v0, v1, v2] (.int 1 :: st) u P := zr_I k142_9
theorem k142_10 : xcd 142 10 = oCalV 10 155 1 13 := rfl
theorem r142_10 : zr 142 10 [v0, v1, v2] (.int y1 :: .ref b8 :: st) u P = ((xIs u b8 10 ∧ xcat st ≤ 8) ∧ zr 155 0 [.ref b8, .int y1] [] u (fun r u2 => zr 142 13 [v0, v1, v2] (r.toList ++ st) u2 P)) := zr_CV k142_10 rfl rfl rfl ⟨Nat.le_of_ble_eq_true rfl, Nat.succ_ne_zero _, by decide⟩ rfl
theorem k142_13 : xcd 142 13 = oRi 0 := rfl
theorem r142_13 : zr 142 13 [v0, v1, v2] [.int y1] u P = P (some (.int y1)) u := zr_Ri k142_13
theorem k142_14 : xcd 142 14 = oIl 1 15 := rfl
theorem r142_14 : zr 142 14 [v0, .int x1, v2] st u P = zr 142 15 [v0, .int x1, v2] (.int x1 :: st) u P := zr_Il k142_14 rfl
theorem k142_15 : xcd 142 15 = oAl 0 16 := rfl
theorem r142_15 : zr 142 15 [.ref a0, v1, v2] st u P = zr 142 16 [.ref a0, v1, v2] (.ref a0 :: st) u P := zr_Al k142_15 rfl
theorem k142_16 : xcd 142 16 = oGR 10 3 19 := rfl
theorem r142_16 : zr 142 16 [v0, v1, v2] (.ref b1 :: st) u P = (xIs u b1 10 ∧ ∃ b, xR u b1 3 = some b ∧ zr 142 19 [v0, v1, v2] (.ref b :: st) u P) := zr_GR k142_16
theorem k142_19 : xcd 142 19 = oCalV 1 12 0 22 := rfl
theorem r142_19 : zr 142 19 [v0, v1, v2] (.ref b8 :: st) u P = ((xIs u b8 1 ∧ xcat st ≤ 8) ∧ zr 12 0 [.ref b8] [] u (fun r u2 => zr 142 22 [v0, v1, v2] (r.toList ++ st) u2 P)) := zr_CV k142_19 rfl rfl rfl ⟨Nat.le_of_ble_eq_true rfl, Nat.succ_ne_zero _, by decide⟩ rfl
theorem k142_22 : xcd 142 22 = oI 1 23 := rfl
theorem r142_22 : zr 142 22 [v0, v1, v2] st u P = zr 142 23 [v0, v1, v2] (.int 1 :: st) u P := zr_I k142_22
theorem k142_23 : xcd 142 23 = oB (fun x y => x + y) 24 := rfl
theorem r142_23 : zr 142 23 [v0, v1, v2] (.int y1 :: .int y2 :: st) u P = zr 142 24 [v0, v1, v2] (.int (y2 + y1) :: st) u P := zr_B k142_23
theorem k142_24 : xcd 142 24 = oI 999 27 := rfl
theorem r142_24 : zr 142 24 [v0, v1, v2] st u P = zr 142 27 [v0, v1, v2] (.int 999 :: st) u P := zr_I k142_24
theorem k142_27 : xcd 142 27 = oCal 164 3 30 := rfl
theorem r142_27 : zr 142 27 [v0, v1, v2] (.int y3 :: .int y2 :: .int y1 :: st) u P = (xcat st ≤ 8 ∧ zr 164 0 [.int y1, .int y2, .int y3] [] u (fun r u2 => zr 142 30 [v0, v1, v2] (r.toList ++ st) u2 P)) := zr_CS k142_27 (Nat.le_add_left _ _) rfl rfl ⟨Nat.le_of_ble_eq_true rfl, Nat.succ_ne_zero _, by decide⟩ rfl
theorem k142_30 : xcd 142 30 = oIf (fun x => decide (¬ x = 0)) 39 33 := rfl
theorem r142_30 : zr 142 30 [v0, v1, v2] (.int y1 :: st) u P = (if ¬ y1 = 0 then zr 142 39 [v0, v1, v2] st u P else zr 142 33 [v0, v1, v2] st u P) := zr_If k142_30
theorem k142_33 : xcd 142 33 = oAl 0 34 := rfl
theorem r142_33 : zr 142 33 [.ref a0, v1, v2] st u P = zr 142 34 [.ref a0, v1, v2] (.ref a0 :: st) u P := zr_Al k142_33 rfl
theorem k142_34 : xcd 142 34 = oI 2 35 := rfl
theorem r142_34 : zr 142 34 [v0, v1, v2] st u P = zr 142 35 [v0, v1, v2] (.int 2 :: st) u P := zr_I k142_34
theorem k142_35 : xcd 142 35 = oCalV 10 155 1 38 := rfl
theorem r142_35 : zr 142 35 [v0, v1, v2] (.int y1 :: .ref b8 :: st) u P = ((xIs u b8 10 ∧ xcat st ≤ 8) ∧ zr 155 0 [.ref b8, .int y1] [] u (fun r u2 => zr 142 38 [v0, v1, v2] (r.toList ++ st) u2 P)) := zr_CV k142_35 rfl rfl rfl ⟨Nat.le_of_ble_eq_true rfl, Nat.succ_ne_zero _, by decide⟩ rfl
theorem k142_38 : xcd 142 38 = oRi 0 := rfl
theorem r142_38 : zr 142 38 [v0, v1, v2] [.int y1] u P = P (some (.int y1)) u := zr_Ri k142_38
theorem k142_39 : xcd 142 39 = oAl 0 40 := rfl
theorem r142_39 : zr 142 39 [.ref a0, v1, v2] st u P = zr 142 40 [.ref a0, v1, v2] (.ref a0 :: st) u P := zr_Al k142_39 rfl
theorem k142_40 : xcd 142 40 = oAl 0 41 := rfl
theorem r142_40 : zr 142 40 [.ref a0, v1, v2] st u P = zr 142 41 [.ref a0, v1, v2] (.ref a0 :: st) u P := zr_Al k142_40 rfl
theorem k142_41 : xcd 142 41 = oGR 10 3 44 := rfl
theorem r142_41 : zr 142 41 [v0, v1, v2] (.ref b1 :: st) u P = (xIs u b1 10 ∧ ∃ b, xR u b1 3 = some b ∧ zr 142 44 [v0, v1, v2] (.ref b :: st) u P) := zr_GR k142_41
theorem k142_44 : xcd 142 44 = oIl 1 45 := rfl
theorem r142_44 : zr 142 44 [v0, .int x1, v2] st u P = zr 142 45 [v0, .int x1, v2] (.int x1 :: st) u P := zr_Il k142_44 rfl
theorem k142_45 : xcd 142 45 = oIl 2 46 := rfl
theorem r142_45 : zr 142 45 [v0, v1, .int x2] st u P = zr 142 46 [v0, v1, .int x2] (.int x2 :: st) u P := zr_Il k142_45 rfl
theorem k142_46 : xcd 142 46 = oCalV 1 15 2 49 := rfl
theorem r142_46 : zr 142 46 [v0, v1, v2] (.int y2 :: .int y1 :: .ref b8 :: st) u P = ((xIs u b8 1 ∧ xcat st ≤ 8) ∧ zr 15 0 [.ref b8, .int y1, .int y2, .null, .null] [] u (fun r u2 => zr 142 49 [v0, v1, v2] (r.toList ++ st) u2 P)) := zr_CV k142_46 rfl rfl rfl ⟨Nat.le_of_ble_eq_true rfl, Nat.succ_ne_zero _, by decide⟩ rfl
theorem k142_49 : xcd 142 49 = oCalV 10 153 1 52 := rfl
theorem r142_49 : zr 142 49 [v0, v1, v2] (.int y1 :: .ref b8 :: st) u P = ((xIs u b8 10 ∧ xcat st ≤ 8) ∧ zr 153 0 [.ref b8, .int y1] [] u (fun r u2 => zr 142 52 [v0, v1, v2] (r.toList ++ st) u2 P)) := zr_CV k142_49 rfl rfl rfl ⟨Nat.le_of_ble_eq_true rfl, Nat.succ_ne_zero _, by decide⟩ rfl
theorem k142_52 : xcd 142 52 = oRi 0 := rfl
theorem r142_52 : zr 142 52 [v0, v1, v2] [.int y1] u P = P (some (.int y1)) u := zr_Ri k142_52
theorem k143_0 : xcd 143 0 = oAl 0 1 := rfl
theorem r143_0 : zr 143 0 [.ref a0, v1, v2] st u P = zr 143 1 [.ref a0, v1, v2] (.ref a0 :: st) u P := zr_Al k143_0 rfl
theorem k143_1 : xcd 143 1 = oGI 10 2 4 := rfl
theorem r143_1 : zr 143 1 [v0, v1, v2] (.ref b1 :: st) u P = (xIs u b1 10 ∧ zr 143 4 [v0, v1, v2] (.int (xI u b1 2) :: st) u P) := zr_GI k143_1
theorem k143_4 : xcd 143 4 = oIf (fun x => decide (¬ x = 0)) 13 7 := rfl
theorem r143_4 : zr 143 4 [v0, v1, v2] (.int y1 :: st) u P = (if ¬ y1 = 0 then zr 143 13 [v0, v1, v2] st u P else zr 143 7 [v0, v1, v2] st u P) := zr_If k143_4
theorem k143_7 : xcd 143 7 = oAl 0 8 := rfl
theorem r143_7 : zr 143 7 [.ref a0, v1, v2] st u P = zr 143 8 [.ref a0, v1, v2] (.ref a0 :: st) u P := zr_Al k143_7 rfl
theorem k143_8 : xcd 143 8 = oI 1 9 := rfl
theorem r143_8 : zr 143 8 [v0, v1, v2] st u P = zr 143 9 [v0, v1, v2] (.int 1 :: st) u P := zr_I k143_8
theorem k143_9 : xcd 143 9 = oCalV 10 154 1 12 := rfl
theorem r143_9 : zr 143 9 [v0, v1, v2] (.int y1 :: .ref b8 :: st) u P = ((xIs u b8 10 ∧ xcat st ≤ 8) ∧ zr 154 0 [.ref b8, .int y1] [] u (fun r u2 => zr 143 12 [v0, v1, v2] (r.toList ++ st) u2 P)) := zr_CV k143_9 rfl rfl rfl ⟨Nat.le_of_ble_eq_true rfl, Nat.succ_ne_zero _, by decide⟩ rfl
theorem k143_12 : xcd 143 12 = oRi 0 := rfl
theorem r143_12 : zr 143 12 [v0, v1, v2] [.int y1] u P = P (some (.int y1)) u := zr_Ri k143_12
theorem k143_13 : xcd 143 13 = oI 0 14 := rfl
theorem r143_13 : zr 143 13 [v0, v1, v2] st u P = zr 143 14 [v0, v1, v2] (.int 0 :: st) u P := zr_I k143_13
theorem k143_14 : xcd 143 14 = oIs 1 15 := rfl
theorem r143_14 : zr 143 14 [.ref a0, v1, v2] (.int y1 :: st) u P = zr 143 15 [.ref a0, .int y1, v2] st u P := zr_Is k143_14 ⟨Nat.le_of_ble_eq_true rfl, rfl⟩
theorem k143_15 : xcd 143 15 = oI 0 16 := rfl
theorem r143_15 : zr 143 15 [v0, v1, v2] st u P = zr 143 16 [v0, v1, v2] (.int 0 :: st) u P := zr_I k143_15
theorem k143_16 : xcd 143 16 = oIs 2 17 := rfl
theorem r143_16 : zr 143 16 [v0, .int x1, v2] (.int y1 :: st) u P = zr 143 17 [v0, .int x1, .int y1] st u P := zr_Is k143_16 ⟨Nat.le_of_ble_eq_true rfl, rfl⟩
theorem k143_17 : xcd 143 17 = oIl 2 18 := rfl
theorem r143_17 : zr 143 17 [v0, v1, .int x2] st u P = zr 143 18 [v0, v1, .int x2] (.int x2 :: st) u P := zr_Il k143_17 rfl
theorem k143_18 : xcd 143 18 = oAl 0 19 := rfl
theorem r143_18 : zr 143 18 [.ref a0, v1, v2] st u P = zr 143 19 [.ref a0, v1, v2] (.ref a0 :: st) u P := zr_Al k143_18 rfl
theorem k143_19 : xcd 143 19 = oGR 10 3 22 := rfl
theorem r143_19 : zr 143 19 [v0, v1, v2] (.ref b1 :: st) u P = (xIs u b1 10 ∧ ∃ b, xR u b1 3 = some b ∧ zr 143 22 [v0, v1, v2] (.ref b :: st) u P) := zr_GR k143_19
theorem k143_22 : xcd 143 22 = oGI 1 0 25 := rfl
theorem r143_22 : zr 143 22 [v0, v1, v2] (.ref b1 :: st) u P = (xIs u b1 1 ∧ zr 143 25 [v0, v1, v2] (.int (xI u b1 0) :: st) u P) := zr_GI k143_22
theorem k143_25 : xcd 143 25 = oCmp (fun x y => decide (y ≤ x)) 61 28 := rfl
theorem r143_25 : zr 143 25 [v0, v1, v2] (.int y1 :: .int y2 :: st) u P = (if y1 ≤ y2 then zr 143 61 [v0, v1, v2] st u P else zr 143 28 [v0, v1, v2] st u P) := zr_Cmp k143_25
theorem k143_28 : xcd 143 28 = oIl 1 29 := rfl
theorem r143_28 : zr 143 28 [v0, .int x1, v2] st u P = zr 143 29 [v0, .int x1, v2] (.int x1 :: st) u P := zr_Il k143_28 rfl
theorem k143_29 : xcd 143 29 = oAl 0 30 := rfl
theorem r143_29 : zr 143 29 [.ref a0, v1, v2] st u P = zr 143 30 [.ref a0, v1, v2] (.ref a0 :: st) u P := zr_Al k143_29 rfl
theorem k143_30 : xcd 143 30 = oAl 0 31 := rfl
theorem r143_30 : zr 143 30 [.ref a0, v1, v2] st u P = zr 143 31 [.ref a0, v1, v2] (.ref a0 :: st) u P := zr_Al k143_30 rfl
theorem k143_31 : xcd 143 31 = oGR 10 3 34 := rfl
theorem r143_31 : zr 143 31 [v0, v1, v2] (.ref b1 :: st) u P = (xIs u b1 10 ∧ ∃ b, xR u b1 3 = some b ∧ zr 143 34 [v0, v1, v2] (.ref b :: st) u P) := zr_GR k143_31
theorem k143_34 : xcd 143 34 = oGR 1 1 37 := rfl
theorem r143_34 : zr 143 34 [v0, v1, v2] (.ref b1 :: st) u P = (xIs u b1 1 ∧ ∃ b, xR u b1 1 = some b ∧ zr 143 37 [v0, v1, v2] (.ref b :: st) u P) := zr_GR k143_34
theorem k143_37 : xcd 143 37 = oIl 2 38 := rfl
theorem r143_37 : zr 143 37 [v0, v1, .int x2] st u P = zr 143 38 [v0, v1, .int x2] (.int x2 :: st) u P := zr_Il k143_37 rfl
theorem k143_38 : xcd 143 38 = oLdR 39 := rfl
theorem r143_38 : zr 143 38 [v0, v1, v2] (.int y1 :: .ref b1 :: st) u P = ((xIs u b1 16 ∧ xinb y1 (xN u b1)) ∧ ∃ b, xR u b1 (xix y1) = some b ∧ zr 143 39 [v0, v1, v2] (.ref b :: st) u P) := zr_LdR k143_38
theorem k143_39 : xcd 143 39 = oCalV 10 168 1 42 := rfl
theorem r143_39 : zr 143 39 [v0, v1, v2] (.ref b1 :: .ref b8 :: st) u P = ((xIs u b8 10 ∧ xcat st ≤ 8) ∧ zr 168 0 [.ref b8, .ref b1] [] u (fun r u2 => zr 143 42 [v0, v1, v2] (r.toList ++ st) u2 P)) := zr_CV k143_39 rfl rfl rfl ⟨Nat.le_of_ble_eq_true rfl, Nat.succ_ne_zero _, by decide⟩ rfl
theorem k143_42 : xcd 143 42 = oIf (fun x => decide (x = 0)) 49 45 := rfl
theorem r143_42 : zr 143 42 [v0, v1, v2] (.int y1 :: st) u P = (if y1 = 0 then zr 143 49 [v0, v1, v2] st u P else zr 143 45 [v0, v1, v2] st u P) := zr_If k143_42
theorem k143_45 : xcd 143 45 = oI 1 46 := rfl
theorem r143_45 : zr 143 45 [v0, v1, v2] st u P = zr 143 46 [v0, v1, v2] (.int 1 :: st) u P := zr_I k143_45
theorem k143_46 : xcd 143 46 = oGoto 50 := rfl
theorem r143_46 : zr 143 46 [v0, v1, v2] st u P = zr 143 50 [v0, v1, v2] st u P := zr_Goto k143_46
theorem k143_49 : xcd 143 49 = oI 0 50 := rfl
theorem r143_49 : zr 143 49 [v0, v1, v2] st u P = zr 143 50 [v0, v1, v2] (.int 0 :: st) u P := zr_I k143_49
theorem k143_50 : xcd 143 50 = oCal 165 1 53 := rfl
theorem r143_50 : zr 143 50 [v0, v1, v2] (.int y1 :: st) u P = (xcat st ≤ 8 ∧ zr 165 0 [.int y1] [] u (fun r u2 => zr 143 53 [v0, v1, v2] (r.toList ++ st) u2 P)) := zr_CS k143_50 (Nat.le_add_left _ _) rfl rfl ⟨Nat.le_of_ble_eq_true rfl, Nat.succ_ne_zero _, by decide⟩ rfl
theorem k143_53 : xcd 143 53 = oB (fun x y => x + y) 54 := rfl
theorem r143_53 : zr 143 53 [v0, v1, v2] (.int y1 :: .int y2 :: st) u P = zr 143 54 [v0, v1, v2] (.int (y2 + y1) :: st) u P := zr_B k143_53
theorem k143_54 : xcd 143 54 = oIs 1 55 := rfl
theorem r143_54 : zr 143 54 [.ref a0, v1, v2] (.int y1 :: st) u P = zr 143 55 [.ref a0, .int y1, v2] st u P := zr_Is k143_54 ⟨Nat.le_of_ble_eq_true rfl, rfl⟩
theorem k143_55 : xcd 143 55 = oInc 2 1 58 := rfl
theorem r143_55 : zr 143 55 [v0, .int x1, .int x2] st u P = zr 143 58 [v0, .int x1, .int (x2 + 1)] st u P := zr_Inc k143_55 rfl rfl
theorem k143_58 : xcd 143 58 = oGoto 17 := rfl
theorem r143_58 : zr 143 58 [v0, v1, v2] st u P = zr 143 17 [v0, v1, v2] st u P := zr_Goto k143_58
theorem k143_61 : xcd 143 61 = oAl 0 62 := rfl
theorem r143_61 : zr 143 61 [.ref a0, v1, v2] st u P = zr 143 62 [.ref a0, v1, v2] (.ref a0 :: st) u P := zr_Al k143_61 rfl
theorem k143_62 : xcd 143 62 = oIl 1 63 := rfl
theorem r143_62 : zr 143 62 [v0, .int x1, v2] st u P = zr 143 63 [v0, .int x1, v2] (.int x1 :: st) u P := zr_Il k143_62 rfl
theorem k143_63 : xcd 143 63 = oCalV 10 153 1 66 := rfl
theorem r143_63 : zr 143 63 [v0, v1, v2] (.int y1 :: .ref b8 :: st) u P = ((xIs u b8 10 ∧ xcat st ≤ 8) ∧ zr 153 0 [.ref b8, .int y1] [] u (fun r u2 => zr 143 66 [v0, v1, v2] (r.toList ++ st) u2 P)) := zr_CV k143_63 rfl rfl rfl ⟨Nat.le_of_ble_eq_true rfl, Nat.succ_ne_zero _, by decide⟩ rfl
theorem k143_66 : xcd 143 66 = oRi 0 := rfl
theorem r143_66 : zr 143 66 [v0, v1, v2] [.int y1] u P = P (some (.int y1)) u := zr_Ri k143_66
theorem k144_0 : xcd 144 0 = oAl 0 1 := rfl
theorem r144_0 : zr 144 0 [.ref a0, v1] st u P = zr 144 1 [.ref a0, v1] (.ref a0 :: st) u P := zr_Al k144_0 rfl
theorem k144_1 : xcd 144 1 = oIl 1 2 := rfl
theorem r144_1 : zr 144 1 [v0, .int x1] st u P = zr 144 2 [v0, .int x1] (.int x1 :: st) u P := zr_Il k144_1 rfl
theorem k144_2 : xcd 144 2 = oCalV 10 159 1 5 := rfl
theorem r144_2 : zr 144 2 [v0, v1] (.int y1 :: .ref b8 :: st) u P = ((xIs u b8 10 ∧ xcat st ≤ 8) ∧ zr 159 0 [.ref b8, .int y1] [] u (fun r u2 => zr 144 5 [v0, v1] (r.toList ++ st) u2 P)) := zr_CV k144_2 rfl rfl rfl ⟨Nat.le_of_ble_eq_true rfl, Nat.succ_ne_zero _, by decide⟩ rfl
theorem k144_5 : xcd 144 5 = oIf (fun x => decide (x = 0)) 28 8 := rfl
theorem r144_5 : zr 144 5 [v0, v1] (.int y1 :: st) u P = (if y1 = 0 then zr 144 28 [v0, v1] st u P else zr 144 8 [v0, v1] st u P) := zr_If k144_5
theorem k144_8 : xcd 144 8 = oAl 0 9 := rfl
theorem r144_8 : zr 144 8 [.ref a0, v1] st u P = zr 144 9 [.ref a0, v1] (.ref a0 :: st) u P := zr_Al k144_8 rfl
theorem k144_9 : xcd 144 9 = oAl 0 10 := rfl
theorem r144_9 : zr 144 9 [.ref a0, v1] st u P = zr 144 10 [.ref a0, v1] (.ref a0 :: st) u P := zr_Al k144_9 rfl
theorem k144_10 : xcd 144 10 = oAl 0 11 := rfl
theorem r144_10 : zr 144 10 [.ref a0, v1] st u P = zr 144 11 [.ref a0, v1] (.ref a0 :: st) u P := zr_Al k144_10 rfl
theorem k144_11 : xcd 144 11 = oGR 10 3 14 := rfl
theorem r144_11 : zr 144 11 [v0, v1] (.ref b1 :: st) u P = (xIs u b1 10 ∧ ∃ b, xR u b1 3 = some b ∧ zr 144 14 [v0, v1] (.ref b :: st) u P) := zr_GR k144_11
theorem k144_14 : xcd 144 14 = oGR 1 1 17 := rfl
theorem r144_14 : zr 144 14 [v0, v1] (.ref b1 :: st) u P = (xIs u b1 1 ∧ ∃ b, xR u b1 1 = some b ∧ zr 144 17 [v0, v1] (.ref b :: st) u P) := zr_GR k144_14
theorem k144_17 : xcd 144 17 = oIl 1 18 := rfl
theorem r144_17 : zr 144 17 [v0, .int x1] st u P = zr 144 18 [v0, .int x1] (.int x1 :: st) u P := zr_Il k144_17 rfl
theorem k144_18 : xcd 144 18 = oLdR 19 := rfl
theorem r144_18 : zr 144 18 [v0, v1] (.int y1 :: .ref b1 :: st) u P = ((xIs u b1 16 ∧ xinb y1 (xN u b1)) ∧ ∃ b, xR u b1 (xix y1) = some b ∧ zr 144 19 [v0, v1] (.ref b :: st) u P) := zr_LdR k144_18
theorem k144_19 : xcd 144 19 = oCalV 10 168 1 22 := rfl
theorem r144_19 : zr 144 19 [v0, v1] (.ref b1 :: .ref b8 :: st) u P = ((xIs u b8 10 ∧ xcat st ≤ 8) ∧ zr 168 0 [.ref b8, .ref b1] [] u (fun r u2 => zr 144 22 [v0, v1] (r.toList ++ st) u2 P)) := zr_CV k144_19 rfl rfl rfl ⟨Nat.le_of_ble_eq_true rfl, Nat.succ_ne_zero _, by decide⟩ rfl
theorem k144_22 : xcd 144 22 = oCalV 10 153 1 25 := rfl
theorem r144_22 : zr 144 22 [v0, v1] (.int y1 :: .ref b8 :: st) u P = ((xIs u b8 10 ∧ xcat st ≤ 8) ∧ zr 153 0 [.ref b8, .int y1] [] u (fun r u2 => zr 144 25 [v0, v1] (r.toList ++ st) u2 P)) := zr_CV k144_22 rfl rfl rfl ⟨Nat.le_of_ble_eq_true rfl, Nat.succ_ne_zero _, by decide⟩ rfl
theorem k144_25 : xcd 144 25 = oGoto 33 := rfl
theorem r144_25 : zr 144 25 [v0, v1] st u P = zr 144 33 [v0, v1] st u P := zr_Goto k144_25
theorem k144_28 : xcd 144 28 = oAl 0 29 := rfl
theorem r144_28 : zr 144 28 [.ref a0, v1] st u P = zr 144 29 [.ref a0, v1] (.ref a0 :: st) u P := zr_Al k144_28 rfl
theorem k144_29 : xcd 144 29 = oI 1 30 := rfl
theorem r144_29 : zr 144 29 [v0, v1] st u P = zr 144 30 [v0, v1] (.int 1 :: st) u P := zr_I k144_29
theorem k144_30 : xcd 144 30 = oCalV 10 155 1 33 := rfl
theorem r144_30 : zr 144 30 [v0, v1] (.int y1 :: .ref b8 :: st) u P = ((xIs u b8 10 ∧ xcat st ≤ 8) ∧ zr 155 0 [.ref b8, .int y1] [] u (fun r u2 => zr 144 33 [v0, v1] (r.toList ++ st) u2 P)) := zr_CV k144_30 rfl rfl rfl ⟨Nat.le_of_ble_eq_true rfl, Nat.succ_ne_zero _, by decide⟩ rfl
theorem k144_33 : xcd 144 33 = oRi 0 := rfl
theorem r144_33 : zr 144 33 [v0, v1] [.int y1] u P = P (some (.int y1)) u := zr_Ri k144_33
theorem k145_0 : xcd 145 0 = oAl 0 1 := rfl
theorem r145_0 : zr 145 0 [.ref a0, v1] st u P = zr 145 1 [.ref a0, v1] (.ref a0 :: st) u P := zr_Al k145_0 rfl
theorem k145_1 : xcd 145 1 = oGI 10 2 4 := rfl
theorem r145_1 : zr 145 1 [v0, v1] (.ref b1 :: st) u P = (xIs u b1 10 ∧ zr 145 4 [v0, v1] (.int (xI u b1 2) :: st) u P) := zr_GI k145_1
theorem k145_4 : xcd 145 4 = oIf (fun x => decide (¬ x = 0)) 13 7 := rfl
theorem r145_4 : zr 145 4 [v0, v1] (.int y1 :: st) u P = (if ¬ y1 = 0 then zr 145 13 [v0, v1] st u P else zr 145 7 [v0, v1] st u P) := zr_If k145_4
theorem k145_7 : xcd 145 7 = oAl 0 8 := rfl
theorem r145_7 : zr 145 7 [.ref a0, v1] st u P = zr 145 8 [.ref a0, v1] (.ref a0 :: st) u P := zr_Al k145_7 rfl
theorem k145_8 : xcd 145 8 = oI 1 9 := rfl
theorem r145_8 : zr 145 8 [v0, v1] st u P = zr 145 9 [v0, v1] (.int 1 :: st) u P := zr_I k145_8
theorem k145_9 : xcd 145 9 = oCalV 10 155 1 12 := rfl
theorem r145_9 : zr 145 9 [v0, v1] (.int y1 :: .ref b8 :: st) u P = ((xIs u b8 10 ∧ xcat st ≤ 8) ∧ zr 155 0 [.ref b8, .int y1] [] u (fun r u2 => zr 145 12 [v0, v1] (r.toList ++ st) u2 P)) := zr_CV k145_9 rfl rfl rfl ⟨Nat.le_of_ble_eq_true rfl, Nat.succ_ne_zero _, by decide⟩ rfl
theorem k145_12 : xcd 145 12 = oRi 0 := rfl
theorem r145_12 : zr 145 12 [v0, v1] [.int y1] u P = P (some (.int y1)) u := zr_Ri k145_12
theorem k145_13 : xcd 145 13 = oIl 1 14 := rfl
theorem r145_13 : zr 145 13 [v0, .int x1] st u P = zr 145 14 [v0, .int x1] (.int x1 :: st) u P := zr_Il k145_13 rfl
theorem k145_14 : xcd 145 14 = oAl 0 15 := rfl
theorem r145_14 : zr 145 14 [.ref a0, v1] st u P = zr 145 15 [.ref a0, v1] (.ref a0 :: st) u P := zr_Al k145_14 rfl
theorem k145_15 : xcd 145 15 = oGR 10 3 18 := rfl
theorem r145_15 : zr 145 15 [v0, v1] (.ref b1 :: st) u P = (xIs u b1 10 ∧ ∃ b, xR u b1 3 = some b ∧ zr 145 18 [v0, v1] (.ref b :: st) u P) := zr_GR k145_15
theorem k145_18 : xcd 145 18 = oCalV 1 12 0 21 := rfl
theorem r145_18 : zr 145 18 [v0, v1] (.ref b8 :: st) u P = ((xIs u b8 1 ∧ xcat st ≤ 8) ∧ zr 12 0 [.ref b8] [] u (fun r u2 => zr 145 21 [v0, v1] (r.toList ++ st) u2 P)) := zr_CV k145_18 rfl rfl rfl ⟨Nat.le_of_ble_eq_true rfl, Nat.succ_ne_zero _, by decide⟩ rfl
theorem k145_21 : xcd 145 21 = oI 1 22 := rfl
theorem r145_21 : zr 145 21 [v0, v1] st u P = zr 145 22 [v0, v1] (.int 1 :: st) u P := zr_I k145_21
theorem k145_22 : xcd 145 22 = oB (fun x y => x + y) 23 := rfl
theorem r145_22 : zr 145 22 [v0, v1] (.int y1 :: .int y2 :: st) u P = zr 145 23 [v0, v1] (.int (y2 + y1) :: st) u P := zr_B k145_22
theorem k145_23 : xcd 145 23 = oI 999 26 := rfl
theorem r145_23 : zr 145 23 [v0, v1] st u P = zr 145 26 [v0, v1] (.int 999 :: st) u P := zr_I k145_23
theorem k145_26 : xcd 145 26 = oCal 164 3 29 := rfl
theorem r145_26 : zr 145 26 [v0, v1] (.int y3 :: .int y2 :: .int y1 :: st) u P = (xcat st ≤ 8 ∧ zr 164 0 [.int y1, .int y2, .int y3] [] u (fun r u2 => zr 145 29 [v0, v1] (r.toList ++ st) u2 P)) := zr_CS k145_26 (Nat.le_add_left _ _) rfl rfl ⟨Nat.le_of_ble_eq_true rfl, Nat.succ_ne_zero _, by decide⟩ rfl
theorem k145_29 : xcd 145 29 = oIf (fun x => decide (¬ x = 0)) 38 32 := rfl
theorem r145_29 : zr 145 29 [v0, v1] (.int y1 :: st) u P = (if ¬ y1 = 0 then zr 145 38 [v0, v1] st u P else zr 145 32 [v0, v1] st u P) := zr_If k145_29
theorem k145_32 : xcd 145 32 = oAl 0 33 := rfl
theorem r145_32 : zr 145 32 [.ref a0, v1] st u P = zr 145 33 [.ref a0, v1] (.ref a0 :: st) u P := zr_Al k145_32 rfl
theorem k145_33 : xcd 145 33 = oI 2 34 := rfl
theorem r145_33 : zr 145 33 [v0, v1] st u P = zr 145 34 [v0, v1] (.int 2 :: st) u P := zr_I k145_33
theorem k145_34 : xcd 145 34 = oCalV 10 155 1 37 := rfl
theorem r145_34 : zr 145 34 [v0, v1] (.int y1 :: .ref b8 :: st) u P = ((xIs u b8 10 ∧ xcat st ≤ 8) ∧ zr 155 0 [.ref b8, .int y1] [] u (fun r u2 => zr 145 37 [v0, v1] (r.toList ++ st) u2 P)) := zr_CV k145_34 rfl rfl rfl ⟨Nat.le_of_ble_eq_true rfl, Nat.succ_ne_zero _, by decide⟩ rfl
theorem k145_37 : xcd 145 37 = oRi 0 := rfl
theorem r145_37 : zr 145 37 [v0, v1] [.int y1] u P = P (some (.int y1)) u := zr_Ri k145_37
theorem k145_38 : xcd 145 38 = oAl 0 39 := rfl
theorem r145_38 : zr 145 38 [.ref a0, v1] st u P = zr 145 39 [.ref a0, v1] (.ref a0 :: st) u P := zr_Al k145_38 rfl
theorem k145_39 : xcd 145 39 = oGR 10 3 42 := rfl
theorem r145_39 : zr 145 39 [v0, v1] (.ref b1 :: st) u P = (xIs u b1 10 ∧ ∃ b, xR u b1 3 = some b ∧ zr 145 42 [v0, v1] (.ref b :: st) u P) := zr_GR k145_39
theorem k145_42 : xcd 145 42 = oGI 1 2 45 := rfl
theorem r145_42 : zr 145 42 [v0, v1] (.ref b1 :: st) u P = (xIs u b1 1 ∧ zr 145 45 [v0, v1] (.int (xI u b1 2) :: st) u P) := zr_GI k145_42
theorem k145_45 : xcd 145 45 = oI 12 47 := rfl
theorem r145_45 : zr 145 45 [v0, v1] st u P = zr 145 47 [v0, v1] (.int 12 :: st) u P := zr_I k145_45
theorem k145_47 : xcd 145 47 = oCmp (fun x y => decide (x < y)) 56 50 := rfl
theorem r145_47 : zr 145 47 [v0, v1] (.int y1 :: .int y2 :: st) u P = (if y2 < y1 then zr 145 56 [v0, v1] st u P else zr 145 50 [v0, v1] st u P) := zr_Cmp k145_47
theorem k145_50 : xcd 145 50 = oAl 0 51 := rfl
theorem r145_50 : zr 145 50 [.ref a0, v1] st u P = zr 145 51 [.ref a0, v1] (.ref a0 :: st) u P := zr_Al k145_50 rfl
theorem k145_51 : xcd 145 51 = oI 3 52 := rfl
theorem r145_51 : zr 145 51 [v0, v1] st u P = zr 145 52 [v0, v1] (.int 3 :: st) u P := zr_I k145_51
theorem k145_52 : xcd 145 52 = oCalV 10 155 1 55 := rfl
theorem r145_52 : zr 145 52 [v0, v1] (.int y1 :: .ref b8 :: st) u P = ((xIs u b8 10 ∧ xcat st ≤ 8) ∧ zr 155 0 [.ref b8, .int y1] [] u (fun r u2 => zr 145 55 [v0, v1] (r.toList ++ st) u2 P)) := zr_CV k145_52 rfl rfl rfl ⟨Nat.le_of_ble_eq_true rfl, Nat.succ_ne_zero _, by decide⟩ rfl
theorem k145_55 : xcd 145 55 = oRi 0 := rfl
theorem r145_55 : zr 145 55 [v0, v1] [.int y1] u P = P (some (.int y1)) u := zr_Ri k145_55
theorem k145_56 : xcd 145 56 = oAl 0 57 := rfl
theorem r145_56 : zr 145 56 [.ref a0, v1] st u P = zr 145 57 [.ref a0, v1] (.ref a0 :: st) u P := zr_Al k145_56 rfl
theorem k145_57 : xcd 145 57 = oGR 10 3 60 := rfl
theorem r145_57 : zr 145 57 [v0, v1] (.ref b1 :: st) u P = (xIs u b1 10 ∧ ∃ b, xR u b1 3 = some b ∧ zr 145 60 [v0, v1] (.ref b :: st) u P) := zr_GR k145_57
theorem k145_60 : xcd 145 60 = oIl 1 61 := rfl
theorem r145_60 : zr 145 60 [v0, .int x1] st u P = zr 145 61 [v0, .int x1] (.int x1 :: st) u P := zr_Il k145_60 rfl
theorem k145_61 : xcd 145 61 = oCalV 1 16 1 64 := rfl
theorem r145_61 : zr 145 61 [v0, v1] (.int y1 :: .ref b8 :: st) u P = ((xIs u b8 1 ∧ xcat st ≤ 8) ∧ zr 16 0 [.ref b8, .int y1, .null] [] u (fun r u2 => zr 145 64 [v0, v1] (r.toList ++ st) u2 P)) := zr_CV k145_61 rfl rfl rfl ⟨Nat.le_of_ble_eq_true rfl, Nat.succ_ne_zero _, by decide⟩ rfl
theorem k145_64 : xcd 145 64 = oAl 0 65 := rfl
theorem r145_64 : zr 145 64 [.ref a0, v1] st u P = zr 145 65 [.ref a0, v1] (.ref a0 :: st) u P := zr_Al k145_64 rfl
theorem k145_65 : xcd 145 65 = oGR 10 4 68 := rfl
theorem r145_65 : zr 145 65 [v0, v1] (.ref b1 :: st) u P = (xIs u b1 10 ∧ ∃ b, xR u b1 4 = some b ∧ zr 145 68 [v0, v1] (.ref b :: st) u P) := zr_GR k145_65
theorem k145_68 : xcd 145 68 = oI 0 69 := rfl
theorem r145_68 : zr 145 68 [v0, v1] st u P = zr 145 69 [v0, v1] (.int 0 :: st) u P := zr_I k145_68
theorem k145_69 : xcd 145 69 = oI 0 70 := rfl
theorem r145_69 : zr 145 69 [v0, v1] st u P = zr 145 70 [v0, v1] (.int 0 :: st) u P := zr_I k145_69
theorem k145_70 : xcd 145 70 = oI 0 71 := rfl
theorem r145_70 : zr 145 70 [v0, v1] st u P = zr 145 71 [v0, v1] (.int 0 :: st) u P := zr_I k145_70
theorem k145_71 : xcd 145 71 = oCalV 0 4 3 74 := rfl
theorem r145_71 : zr 145 71 [v0, v1] (.int y3 :: .int y2 :: .int y1 :: .ref b8 :: st) u P = ((xIs u b8 0 ∧ xcat st ≤ 8) ∧ zr 4 0 [.ref b8, .int y1, .int y2, .int y3] [] u (fun r u2 => zr 145 74 [v0, v1] (r.toList ++ st) u2 P)) := zr_CV k145_71 rfl rfl rfl ⟨Nat.le_of_ble_eq_true rfl, Nat.succ_ne_zero _, by decide⟩ rfl
theorem k145_74 : xcd 145 74 = oAl 0 75 := rfl
theorem r145_74 : zr 145 74 [.ref a0, v1] st u P = zr 145 75 [.ref a0, v1] (.ref a0 :: st) u P := zr_Al k145_74 rfl
theorem k145_75 : xcd 145 75 = oAl 0 76 := rfl
theorem r145_75 : zr 145 75 [.ref a0, v1] st u P = zr 145 76 [.ref a0, v1] (.ref a0 :: st) u P := zr_Al k145_75 rfl
theorem k145_76 : xcd 145 76 = oGR 10 3 79 := rfl
theorem r145_76 : zr 145 76 [v0, v1] (.ref b1 :: st) u P = (xIs u b1 10 ∧ ∃ b, xR u b1 3 = some b ∧ zr 145 79 [v0, v1] (.ref b :: st) u P) := zr_GR k145_76
theorem k145_79 : xcd 145 79 = oAl 0 80 := rfl
theorem r145_79 : zr 145 79 [.ref a0, v1] st u P = zr 145 80 [.ref a0, v1] (.ref a0 :: st) u P := zr_Al k145_79 rfl
theorem k145_80 : xcd 145 80 = oGR 10 3 83 := rfl
theorem r145_80 : zr 145 80 [v0, v1] (.ref b1 :: st) u P = (xIs u b1 10 ∧ ∃ b, xR u b1 3 = some b ∧ zr 145 83 [v0, v1] (.ref b :: st) u P) := zr_GR k145_80
theorem k145_83 : xcd 145 83 = oGI 1 2 86 := rfl
theorem r145_83 : zr 145 83 [v0, v1] (.ref b1 :: st) u P = (xIs u b1 1 ∧ zr 145 86 [v0, v1] (.int (xI u b1 2) :: st) u P) := zr_GI k145_83
theorem k145_86 : xcd 145 86 = oI 1 87 := rfl
theorem r145_86 : zr 145 86 [v0, v1] st u P = zr 145 87 [v0, v1] (.int 1 :: st) u P := zr_I k145_86
theorem k145_87 : xcd 145 87 = oB (fun x y => x - y) 88 := rfl
theorem r145_87 : zr 145 87 [v0, v1] (.int y1 :: .int y2 :: st) u P = zr 145 88 [v0, v1] (.int (y2 - y1) :: st) u P := zr_B k145_87
theorem k145_88 : xcd 145 88 = oI (-1) 89 := rfl
theorem r145_88 : zr 145 88 [v0, v1] st u P = zr 145 89 [v0, v1] (.int (-1) :: st) u P := zr_I k145_88
theorem k145_89 : xcd 145 89 = oCalV 1 14 2 92 := rfl
theorem r145_89 : zr 145 89 [v0, v1] (.int y2 :: .int y1 :: .ref b8 :: st) u P = ((xIs u b8 1 ∧ xcat st ≤ 8) ∧ zr 14 0 [.ref b8, .int y1, .int y2, .null, .null] [] u (fun r u2 => zr 145 92 [v0, v1] (r.toList ++ st) u2 P)) := zr_CV k145_89 rfl rfl rfl ⟨Nat.le_of_ble_eq_true rfl, Nat.succ_ne_zero _, by decide⟩ rfl
theorem k145_92 : xcd 145 92 = oCalV 10 153 1 95 := rfl
theorem r145_92 : zr 145 92 [v0, v1] (.int y1 :: .ref b8 :: st) u P = ((xIs u b8 10 ∧ xcat st ≤ 8) ∧ zr 153 0 [.ref b8, .int y1] [] u (fun r u2 => zr 145 95 [v0, v1] (r.toList ++ st) u2 P)) := zr_CV k145_92 rfl rfl rfl ⟨Nat.le_of_ble_eq_true rfl, Nat.succ_ne_zero _, by decide⟩ rfl
theorem k145_95 : xcd 145 95 = oRi 0 := rfl
theorem r145_95 : zr 145 95 [v0, v1] [.int y1] u P = P (some (.int y1)) u := zr_Ri k145_95
theorem k146_0 : xcd 146 0 = oAl 0 1 := rfl
theorem r146_0 : zr 146 0 [.ref a0, v1, v2, v3, v4, v5, v6, v7] st u P = zr 146 1 [.ref a0, v1, v2, v3, v4, v5, v6, v7] (.ref a0 :: st) u P := zr_Al k146_0 rfl
theorem k146_1 : xcd 146 1 = oIl 4 3 := rfl
theorem r146_1 : zr 146 1 [v0, v1, v2, v3, .int x4, v5, v6, v7] st u P = zr 146 3 [v0, v1, v2, v3, .int x4, v5, v6, v7] (.int x4 :: st) u P := zr_Il k146_1 rfl
theorem k146_3 : xcd 146 3 = oCalV 10 158 1 6 := rfl
theorem r146_3 : zr 146 3 [v0, v1, v2, v3, v4, v5, v6, v7] (.int y1 :: .ref b8 :: st) u P = ((xIs u b8 10 ∧ xcat st ≤ 8) ∧ zr 158 0 [.ref b8, .int y1] [] u (fun r u2 => zr 146 6 [v0, v1, v2, v3, v4, v5, v6, v7] (r.toList ++ st) u2 P)) := zr_CV k146_3 rfl rfl rfl ⟨Nat.le_of_ble_eq_true rfl, Nat.succ_ne_zero _, by decide⟩ rfl
theorem k146_6 : xcd 146 6 = oIf (fun x => decide (¬ x = 0)) 15 9 := rfl
theorem r146_6 : zr 146 6 [v0, v1, v2, v3, v4, v5, v6, v7] (.int y1 :: st) u P = (if ¬ y1 = 0 then zr 146 15 [v0, v1, v2, v3, v4, v5, v6, v7] st u P else zr 146 9 [v0, v1, v2, v3, v4, v5, v6, v7] st u P) := zr_If k146_6
theorem k146_9 : xcd 146 9 = oAl 0 10 := rfl
theorem r146_9 : zr 146 9 [.ref a0, v1, v2, v3, v4, v5, v6, v7] st u P = zr 146 10 [.ref a0, v1, v2, v3, v4, v5, v6, v7] (.ref a0 :: st) u P := zr_Al k146_9 rfl
theorem k146_10 : xcd 146 10 = oI 1 11 := rfl
theorem r146_10 : zr 146 10 [v0, v1, v2, v3, v4, v5, v6, v7] st u P = zr 146 11 [v0, v1, v2, v3, v4, v5, v6, v7] (.int 1 :: st) u P := zr_I k146_10
theorem k146_11 : xcd 146 11 = oCalV 10 154 1 14 := rfl
theorem r146_11 : zr 146 11 [v0, v1, v2, v3, v4, v5, v6, v7] (.int y1 :: .ref b8 :: st) u P = ((xIs u b8 10 ∧ xcat st ≤ 8) ∧ zr 154 0 [.ref b8, .int y1] [] u (fun r u2 => zr 146 14 [v0, v1, v2, v3, v4, v5, v6, v7] (r.toList ++ st) u2 P)) := zr_CV k146_11 rfl rfl rfl ⟨Nat.le_of_ble_eq_true rfl, Nat.succ_ne_zero _, by decide⟩ rfl
theorem k146_14 : xcd 146 14 = oRi 0 := rfl
theorem r146_14 : zr 146 14 [v0, v1, v2, v3, v4, v5, v6, v7] [.int y1] u P = P (some (.int y1)) u := zr_Ri k146_14
theorem k146_15 : xcd 146 15 = oAl 0 16 := rfl
theorem r146_15 : zr 146 15 [.ref a0, v1, v2, v3, v4, v5, v6, v7] st u P = zr 146 16 [.ref a0, v1, v2, v3, v4, v5, v6, v7] (.ref a0 :: st) u P := zr_Al k146_15 rfl
theorem k146_16 : xcd 146 16 = oIl 1 17 := rfl
theorem r146_16 : zr 146 16 [v0, .int x1, v2, v3, v4, v5, v6, v7] st u P = zr 146 17 [v0, .int x1, v2, v3, v4, v5, v6, v7] (.int x1 :: st) u P := zr_Il k146_16 rfl
theorem k146_17 : xcd 146 17 = oIl 2 18 := rfl
theorem r146_17 : zr 146 17 [v0, v1, .int x2, v3, v4, v5, v6, v7] st u P = zr 146 18 [v0, v1, .int x2, v3, v4, v5, v6, v7] (.int x2 :: st) u P := zr_Il k146_17 rfl
theorem k146_18 : xcd 146 18 = oIl 3 19 := rfl
theorem r146_18 : zr 146 18 [v0, v1, v2, .int x3, v4, v5, v6, v7] st u P = zr 146 19 [v0, v1, v2, .int x3, v4, v5, v6, v7] (.int x3 :: st) u P := zr_Il k146_18 rfl
theorem k146_19 : xcd 146 19 = oIl 5 21 := rfl
theorem r146_19 : zr 146 19 [v0, v1, v2, v3, v4, .int x5, v6, v7] st u P = zr 146 21 [v0, v1, v2, v3, v4, .int x5, v6, v7] (.int x5 :: st) u P := zr_Il k146_19 rfl
theorem k146_21 : xcd 146 21 = oIl 6 23 := rfl
theorem r146_21 : zr 146 21 [v0, v1, v2, v3, v4, v5, .int x6, v7] st u P = zr 146 23 [v0, v1, v2, v3, v4, v5, .int x6, v7] (.int x6 :: st) u P := zr_Il k146_21 rfl
theorem k146_23 : xcd 146 23 = oCalV 10 162 5 26 := rfl
theorem r146_23 : zr 146 23 [v0, v1, v2, v3, v4, v5, v6, v7] (.int y5 :: .int y4 :: .int y3 :: .int y2 :: .int y1 :: .ref b8 :: st) u P = ((xIs u b8 10 ∧ xcat st ≤ 8) ∧ zr 162 0 [.ref b8, .int y1, .int y2, .int y3, .int y4, .int y5] [] u (fun r u2 => zr 146 26 [v0, v1, v2, v3, v4, v5, v6, v7] (r.toList ++ st) u2 P)) := zr_CV k146_23 rfl rfl rfl ⟨Nat.le_of_ble_eq_true rfl, Nat.succ_ne_zero _, by decide⟩ rfl
theorem k146_26 : xcd 146 26 = oIf (fun x => decide (¬ x = 0)) 35 29 := rfl
theorem r146_26 : zr 146 26 [v0, v1, v2, v3, v4, v5, v6, v7] (.int y1 :: st) u P = (if ¬ y1 = 0 then zr 146 35 [v0, v1, v2, v3, v4, v5, v6, v7] st u P else zr 146 29 [v0, v1, v2, v3, v4, v5, v6, v7] st u P) := zr_If k146_26
theorem k146_29 : xcd 146 29 = oAl 0 30 := rfl
theorem r146_29 : zr 146 29 [.ref a0, v1, v2, v3, v4, v5, v6, v7] st u P = zr 146 30 [.ref a0, v1, v2, v3, v4, v5, v6, v7] (.ref a0 :: st) u P := zr_Al k146_29 rfl
theorem k146_30 : xcd 146 30 = oI 2 31 := rfl
theorem r146_30 : zr 146 30 [v0, v1, v2, v3, v4, v5, v6, v7] st u P = zr 146 31 [v0, v1, v2, v3, v4, v5, v6, v7] (.int 2 :: st) u P := zr_I k146_30
theorem k146_31 : xcd 146 31 = oCalV 10 154 1 34 := rfl
theorem r146_31 : zr 146 31 [v0, v1, v2, v3, v4, v5, v6, v7] (.int y1 :: .ref b8 :: st) u P = ((xIs u b8 10 ∧ xcat st ≤ 8) ∧ zr 154 0 [.ref b8, .int y1] [] u (fun r u2 => zr 146 34 [v0, v1, v2, v3, v4, v5, v6, v7] (r.toList ++ st) u2 P)) := zr_CV k146_31 rfl rfl rfl ⟨Nat.le_of_ble_eq_true rfl, Nat.succ_ne_zero _, by decide⟩ rfl
theorem k146_34 : xcd 146 34 = oRi 0 := rfl
theorem r146_34 : zr 146 34 [v0, v1, v2, v3, v4, v5, v6, v7] [.int y1] u P = P (some (.int y1)) u := zr_Ri k146_34
theorem k146_35 : xcd 146 35 = oIl 1 36 := rfl
theorem r146_35 : zr 146 35 [v0, .int x1, v2, v3, v4, v5, v6, v7] st u P = zr 146 36 [v0, .int x1, v2, v3, v4, v5, v6, v7] (.int x1 :: st) u P := zr_Il k146_35 rfl
theorem k146_36 : xcd 146 36 = oAl 0 37 := rfl
theorem r146_36 : zr 146 36 [.ref a0, v1, v2, v3, v4, v5, v6, v7] st u P = zr 146 37 [.ref a0, v1, v2, v3, v4, v5, v6, v7] (.ref a0 :: st) u P := zr_Al k146_36 rfl
theorem k146_37 : xcd 146 37 = oGR 10 3 40 := rfl
theorem r146_37 : zr 146 37 [v0, v1, v2, v3, v4, v5, v6, v7] (.ref b1 :: st) u P = (xIs u b1 10 ∧ ∃ b, xR u b1 3 = some b ∧ zr 146 40 [v0, v1, v2, v3, v4, v5, v6, v7] (.ref b :: st) u P) := zr_GR k146_37
theorem k146_40 : xcd 146 40 = oCalV 1 12 0 43 := rfl
theorem r146_40 : zr 146 40 [v0, v1, v2, v3, v4, v5, v6, v7] (.ref b8 :: st) u P = ((xIs u b8 1 ∧ xcat st ≤ 8) ∧ zr 12 0 [.ref b8] [] u (fun r u2 => zr 146 43 [v0, v1, v2, v3, v4, v5, v6, v7] (r.toList ++ st) u2 P)) := zr_CV k146_40 rfl rfl rfl ⟨Nat.le_of_ble_eq_true rfl, Nat.succ_ne_zero _, by decide⟩ rfl
theorem k146_43 : xcd 146 43 = oCmp (fun x y => decide (y < x)) 52 46 := rfl
theorem r146_43 : zr 146 43 [v0, v1, v2, v3, v4, v5, v6, v7] (.int y1 :: .int y2 :: st) u P = (if y1 < y2 then zr 146 52 [v0, v1, v2, v3, v4, v5, v6, v7] st u P else zr 146 46 [v0, v1, v2, v3, v4, v5, v6, v7] st u P) := zr_Cmp k146_43
theorem k146_46 : xcd 146 46 = oAl 0 47 := rfl
theorem r146_46 : zr 146 46 [.ref a0, v1, v2, v3, v4, v5, v6, v7] st u P = zr 146 47 [.ref a0, v1, v2, v3, v4, v5, v6, v7] (.ref a0 :: st) u P := zr_Al k146_46 rfl
theorem k146_47 : xcd 146 47 = oI 5 48 := rfl
theorem r146_47 : zr 146 47 [v0, v1, v2, v3, v4, v5, v6, v7] st u P = zr 146 48 [v0, v1, v2, v3, v4, v5, v6, v7] (.int 5 :: st) u P := zr_I k146_47
theorem k146_48 : xcd 146 48 = oCalV 10 154 1 51 := rfl
theorem r146_48 : zr 146 48 [v0, v1, v2, v3, v4, v5, v6, v7] (.int y1 :: .ref b8 :: st) u P = ((xIs u b8 10 ∧ xcat st ≤ 8) ∧ zr 154 0 [.ref b8, .int y1] [] u (fun r u2 => zr 146 51 [v0, v1, v2, v3, v4, v5, v6, v7] (r.toList ++ st) u2 P)) := zr_CV k146_48 rfl rfl rfl ⟨Nat.le_of_ble_eq_true rfl, Nat.succ_ne_zero _, by decide⟩ rfl
theorem k146_51 : xcd 146 51 = oRi 0 := rfl
theorem r146_51 : zr 146 51 [v0, v1, v2, v3, v4, v5, v6, v7] [.int y1] u P = P (some (.int y1)) u := zr_Ri k146_51
theorem k146_52 : xcd 146 52 = oAl 0 53 := rfl
theorem r146_52 : zr 146 52 [.ref a0, v1, v2, v3, v4, v5, v6, v7] st u P = zr 146 53 [.ref a0, v1, v2, v3, v4, v5, v6, v7] (.ref a0 :: st) u P := zr_Al k146_52 rfl
theorem k146_53 : xcd 146 53 = oGR 10 3 56 := rfl
theorem r146_53 : zr 146 53 [v0, v1, v2, v3, v4, v5, v6, v7] (.ref b1 :: st) u P = (xIs u b1 10 ∧ ∃ b, xR u b1 3 = some b ∧ zr 146 56 [v0, v1, v2, v3, v4, v5, v6, v7] (.ref b :: st) u P) := zr_GR k146_53
theorem k146_56 : xcd 146 56 = oGI 1 0 59 := rfl
theorem r146_56 : zr 146 56 [v0, v1, v2, v3, v4, v5, v6, v7] (.ref b1 :: st) u P = (xIs u b1 1 ∧ zr 146 59 [v0, v1, v2, v3, v4, v5, v6, v7] (.int (xI u b1 0) :: st) u P) := zr_GI k146_56
theorem k146_59 : xcd 146 59 = oI 40 61 := rfl
theorem r146_59 : zr 146 59 [v0, v1, v2, v3, v4, v5, v6, v7] st u P = zr 146 61 [v0, v1, v2, v3, v4, v5, v6, v7] (.int 40 :: st) u P := zr_I k146_59
theorem k146_61 : xcd 146 61 = oCmp (fun x y => decide (x < y)) 70 64 := rfl
theorem r146_61 : zr 146 61 [v0, v1, v2, v3, v4, v5, v6, v7] (.int y1 :: .int y2 :: st) u P = (if y2 < y1 then zr 146 70 [v0, v1, v2, v3, v4, v5, v6, v7] st u P else zr 146 64 [v0, v1, v2, v3, v4, v5, v6, v7] st u P) := zr_Cmp k146_61
theorem k146_64 : xcd 146 64 = oAl 0 65 := rfl
theorem r146_64 : zr 146 64 [.ref a0, v1, v2, v3, v4, v5, v6, v7] st u P = zr 146 65 [.ref a0, v1, v2, v3, v4, v5, v6, v7] (.ref a0 :: st) u P := zr_Al k146_64 rfl
theorem k146_65 : xcd 146 65 = oI 3 66 := rfl
theorem r146_65 : zr 146 65 [v0, v1, v2, v3, v4, v5, v6, v7] st u P = zr 146 66 [v0, v1, v2, v3, v4, v5, v6, v7] (.int 3 :: st) u P := zr_I k146_65
theorem k146_66 : xcd 146 66 = oCalV 10 154 1 69 := rfl
theorem r146_66 : zr 146 66 [v0, v1, v2, v3, v4, v5, v6, v7] (.int y1 :: .ref b8 :: st) u P = ((xIs u b8 10 ∧ xcat st ≤ 8) ∧ zr 154 0 [.ref b8, .int y1] [] u (fun r u2 => zr 146 69 [v0, v1, v2, v3, v4, v5, v6, v7] (r.toList ++ st) u2 P)) := zr_CV k146_66 rfl rfl rfl ⟨Nat.le_of_ble_eq_true rfl, Nat.succ_ne_zero _, by decide⟩ rfl
theorem k146_69 : xcd 146 69 = oRi 0 := rfl
theorem r146_69 : zr 146 69 [v0, v1, v2, v3, v4, v5, v6, v7] [.int y1] u P = P (some (.int y1)) u := zr_Ri k146_69
theorem k146_70 : xcd 146 70 = oAl 0 71 := rfl
theorem r146_70 : zr 146 70 [.ref a0, v1, v2, v3, v4, v5, v6, v7] st u P = zr 146 71 [.ref a0, v1, v2, v3, v4, v5, v6, v7] (.ref a0 :: st) u P := zr_Al k146_70 rfl
theorem k146_71 : xcd 146 71 = oGR 10 3 74 := rfl
theorem r146_71 : zr 146 71 [v0, v1, v2, v3, v4, v5, v6, v7] (.ref b1 :: st) u P = (xIs u b1 10 ∧ ∃ b, xR u b1 3 = some b ∧ zr 146 74 [v0, v1, v2, v3, v4, v5, v6, v7] (.ref b :: st) u P) := zr_GR k146_71
theorem k146_74 : xcd 146 74 = oGR 1 1 77 := rfl
theorem r146_74 : zr 146 74 [v0, v1, v2, v3, v4, v5, v6, v7] (.ref b1 :: st) u P = (xIs u b1 1 ∧ ∃ b, xR u b1 1 = some b ∧ zr 146 77 [v0, v1, v2, v3, v4, v5, v6, v7] (.ref b :: st) u P) := zr_GR k146_74
theorem k146_77 : xcd 146 77 = oAl 0 78 := rfl
theorem r146_77 : zr 146 77 [.ref a0, v1, v2, v3, v4, v5, v6, v7] st u P = zr 146 78 [.ref a0, v1, v2, v3, v4, v5, v6, v7] (.ref a0 :: st) u P := zr_Al k146_77 rfl
theorem k146_78 : xcd 146 78 = oGR 10 3 81 := rfl
theorem r146_78 : zr 146 78 [v0, v1, v2, v3, v4, v5, v6, v7] (.ref b1 :: st) u P = (xIs u b1 10 ∧ ∃ b, xR u b1 3 = some b ∧ zr 146 81 [v0, v1, v2, v3, v4, v5, v6, v7] (.ref b :: st) u P) := zr_GR k146_78
theorem k146_81 : xcd 146 81 = oGI 1 0 84 := rfl
theorem r146_81 : zr 146 81 [v0, v1, v2, v3, v4, v5, v6, v7] (.ref b1 :: st) u P = (xIs u b1 1 ∧ zr 146 84 [v0, v1, v2, v3, v4, v5, v6, v7] (.int (xI u b1 0) :: st) u P) := zr_GI k146_81
theorem k146_84 : xcd 146 84 = oLdR 85 := rfl
theorem r146_84 : zr 146 84 [v0, v1, v2, v3, v4, v5, v6, v7] (.int y1 :: .ref b1 :: st) u P = ((xIs u b1 16 ∧ xinb y1 (xN u b1)) ∧ ∃ b, xR u b1 (xix y1) = some b ∧ zr 146 85 [v0, v1, v2, v3, v4, v5, v6, v7] (.ref b :: st) u P) := zr_LdR k146_84
theorem k146_85 : xcd 146 85 = oAs 7 87 := rfl
theorem r146_85 : zr 146 85 [v0, v1, v2, v3, v4, v5, .int x6, v7] (.ref b1 :: st) u P = zr 146 87 [v0, v1, v2, v3, v4, v5, .int x6, .ref b1] st u P := zr_As k146_85 ⟨Nat.le_of_ble_eq_true rfl, rfl⟩
theorem k146_87 : xcd 146 87 = oAl 7 89 := rfl
theorem r146_87 : zr 146 87 [v0, v1, v2, v3, v4, v5, v6, .ref a7] st u P = zr 146 89 [v0, v1, v2, v3, v4, v5, v6, .ref a7] (.ref a7 :: st) u P := zr_Al k146_87 rfl
theorem k146_89 : xcd 146 89 = oIl 1 90 := rfl
theorem r146_89 : zr 146 89 [v0, .int x1, v2, v3, v4, v5, v6, v7] st u P = zr 146 90 [v0, .int x1, v2, v3, v4, v5, v6, v7] (.int x1 :: st) u P := zr_Il k146_89 rfl
theorem k146_90 : xcd 146 90 = oIl 2 91 := rfl
theorem r146_90 : zr 146 90 [v0, v1, .int x2, v3, v4, v5, v6, v7] st u P = zr 146 91 [v0, v1, .int x2, v3, v4, v5, v6, v7] (.int x2 :: st) u P := zr_Il k146_90 rfl
theorem k146_91 : xcd 146 91 = oIl 3 92 := rfl
theorem r146_91 : zr 146 91 [v0, v1, v2, .int x3, v4, v5, v6, v7] st u P = zr 146 92 [v0, v1, v2, .int x3, v4, v5, v6, v7] (.int x3 :: st) u P := zr_Il k146_91 rfl
theorem k146_92 : xcd 146 92 = oIl 4 94 := rfl
theorem r146_92 : zr 146 92 [v0, v1, v2, v3, .int x4, v5, v6, v7] st u P = zr 146 94 [v0, v1, v2, v3, .int x4, v5, v6, v7] (.int x4 :: st) u P := zr_Il k146_92 rfl
theorem k146_94 : xcd 146 94 = oIl 5 96 := rfl
theorem r146_94 : zr 146 94 [v0, v1, v2, v3, v4, .int x5, v6, v7] st u P = zr 146 96 [v0, v1, v2, v3, v4, .int x5, v6, v7] (.int x5 :: st) u P := zr_Il k146_94 rfl
theorem k146_96 : xcd 146 96 = oIl 6 98 := rfl
theorem r146_96 : zr 146 96 [v0, v1, v2, v3, v4, v5, .int x6, v7] st u P = zr 146 98 [v0, v1, v2, v3, v4, v5, .int x6, v7] (.int x6 :: st) u P := zr_Il k146_96 rfl
theorem k146_98 : xcd 146 98 = oCalV 5 54 6 101 := rfl
theorem r146_98 : zr 146 98 [v0, v1, v2, v3, v4, v5, v6, v7] (.int y6 :: .int y5 :: .int y4 :: .int y3 :: .int y2 :: .int y1 :: .ref b8 :: st) u P = ((xIs u b8 5 ∧ xcat st ≤ 8) ∧ zr 54 0 [.ref b8, .int y1, .int y2, .int y3, .int y4, .int y5, .int y6] [] u (fun r u2 => zr 146 101 [v0, v1, v2, v3, v4, v5, v6, v7] (r.toList ++ st) u2 P)) := zr_CV k146_98 rfl rfl rfl ⟨Nat.le_of_ble_eq_true rfl, Nat.succ_ne_zero _, by decide⟩ rfl
theorem k146_101 : xcd 146 101 = oAl 0 102 := rfl
theorem r146_101 : zr 146 101 [.ref a0, v1, v2, v3, v4, v5, v6, v7] st u P = zr 146 102 [.ref a0, v1, v2, v3, v4, v5, v6, v7] (.ref a0 :: st) u P := zr_Al k146_101 rfl
theorem k146_102 : xcd 146 102 = oGR 10 1 105 := rfl
theorem r146_102 : zr 146 102 [v0, v1, v2, v3, v4, v5, v6, v7] (.ref b1 :: st) u P = (xIs u b1 10 ∧ ∃ b, xR u b1 1 = some b ∧ zr 146 105 [v0, v1, v2, v3, v4, v5, v6, v7] (.ref b :: st) u P) := zr_GR k146_102
theorem k146_105 : xcd 146 105 = oAl 7 107 := rfl
theorem r146_105 : zr 146 105 [v0, v1, v2, v3, v4, v5, v6, .ref a7] st u P = zr 146 107 [v0, v1, v2, v3, v4, v5, v6, .ref a7] (.ref a7 :: st) u P := zr_Al k146_105 rfl
theorem k146_107 : xcd 146 107 = oCalV 3 41 1 110 := rfl
theorem r146_107 : zr 146 107 [v0, v1, v2, v3, v4, v5, v6, v7] (.ref b1 :: .ref b8 :: st) u P = ((xIs u b8 3 ∧ xcat st ≤ 8) ∧ zr 41 0 [.ref b8, .ref b1, .null, .null] [] u (fun r u2 => zr 146 110 [v0, v1, v2, v3, v4, v5, v6, v7] (r.toList ++ st) u2 P)) := zr_CV k146_107 rfl rfl rfl ⟨Nat.le_of_ble_eq_true rfl, Nat.succ_ne_zero _, by decide⟩ rfl
theorem k146_110 : xcd 146 110 = oAl 0 111 := rfl
theorem r146_110 : zr 146 110 [.ref a0, v1, v2, v3, v4, v5, v6, v7] st u P = zr 146 111 [.ref a0, v1, v2, v3, v4, v5, v6, v7] (.ref a0 :: st) u P := zr_Al k146_110 rfl
theorem k146_111 : xcd 146 111 = oGR 10 3 114 := rfl
theorem r146_111 : zr 146 111 [v0, v1, v2, v3, v4, v5, v6, v7] (.ref b1 :: st) u P = (xIs u b1 10 ∧ ∃ b, xR u b1 3 = some b ∧ zr 146 114 [v0, v1, v2, v3, v4, v5, v6, v7] (.ref b :: st) u P) := zr_GR k146_111
theorem k146_114 : xcd 146 114 = oDup 115 := rfl
theorem r146_114 : zr 146 114 [v0, v1, v2, v3, v4, v5, v6, v7] (.ref b1 :: st) u P = zr 146 115 [v0, v1, v2, v3, v4, v5, v6, v7] (.ref b1 :: .ref b1 :: st) u P := zr_DupA k146_114
theorem k146_115 : xcd 146 115 = oGI 1 0 118 := rfl
theorem r146_115 : zr 146 115 [v0, v1, v2, v3, v4, v5, v6, v7] (.ref b1 :: st) u P = (xIs u b1 1 ∧ zr 146 118 [v0, v1, v2, v3, v4, v5, v6, v7] (.int (xI u b1 0) :: st) u P) := zr_GI k146_115
theorem k146_118 : xcd 146 118 = oI 1 119 := rfl
theorem r146_118 : zr 146 118 [v0, v1, v2, v3, v4, v5, v6, v7] st u P = zr 146 119 [v0, v1, v2, v3, v4, v5, v6, v7] (.int 1 :: st) u P := zr_I k146_118
theorem k146_119 : xcd 146 119 = oB (fun x y => x + y) 120 := rfl
theorem r146_119 : zr 146 119 [v0, v1, v2, v3, v4, v5, v6, v7] (.int y1 :: .int y2 :: st) u P = zr 146 120 [v0, v1, v2, v3, v4, v5, v6, v7] (.int (y2 + y1) :: st) u P := zr_B k146_119
theorem k146_120 : xcd 146 120 = oPI 1 0 123 := rfl
theorem r146_120 : zr 146 120 [v0, v1, v2, v3, v4, v5, v6, v7] (.int y1 :: .ref b1 :: st) u P = (xIs u b1 1 ∧ zr 146 123 [v0, v1, v2, v3, v4, v5, v6, v7] st (xsI u b1 0 y1) P) := zr_PI k146_120
theorem k146_123 : xcd 146 123 = oAl 0 124 := rfl
theorem r146_123 : zr 146 123 [.ref a0, v1, v2, v3, v4, v5, v6, v7] st u P = zr 146 124 [.ref a0, v1, v2, v3, v4, v5, v6, v7] (.ref a0 :: st) u P := zr_Al k146_123 rfl
theorem k146_124 : xcd 146 124 = oGR 10 4 127 := rfl
theorem r146_124 : zr 146 124 [v0, v1, v2, v3, v4, v5, v6, v7] (.ref b1 :: st) u P = (xIs u b1 10 ∧ ∃ b, xR u b1 4 = some b ∧ zr 146 127 [v0, v1, v2, v3, v4, v5, v6, v7] (.ref b :: st) u P) := zr_GR k146_124
theorem k146_127 : xcd 146 127 = oI 1 128 := rfl
theorem r146_127 : zr 146 127 [v0, v1, v2, v3, v4, v5, v6, v7] st u P = zr 146 128 [v0, v1, v2, v3, v4, v5, v6, v7] (.int 1 :: st) u P := zr_I k146_127
theorem k146_128 : xcd 146 128 = oI 0 129 := rfl
theorem r146_128 : zr 146 128 [v0, v1, v2, v3, v4, v5, v6, v7] st u P = zr 146 129 [v0, v1, v2, v3, v4, v5, v6, v7] (.int 0 :: st) u P := zr_I k146_128
theorem k146_129 : xcd 146 129 = oI 0 130 := rfl
theorem r146_129 : zr 146 129 [v0, v1, v2, v3, v4, v5, v6, v7] st u P = zr 146 130 [v0, v1, v2, v3, v4, v5, v6, v7] (.int 0 :: st) u P := zr_I k146_129
theorem k146_130 : xcd 146 130 = oCalV 0 4 3 133 := rfl
theorem r146_130 : zr 146 130 [v0, v1, v2, v3, v4, v5, v6, v7] (.int y3 :: .int y2 :: .int y1 :: .ref b8 :: st) u P = ((xIs u b8 0 ∧ xcat st ≤ 8) ∧ zr 4 0 [.ref b8, .int y1, .int y2, .int y3] [] u (fun r u2 => zr 146 133 [v0, v1, v2, v3, v4, v5, v6, v7] (r.toList ++ st) u2 P)) := zr_CV k146_130 rfl rfl rfl ⟨Nat.le_of_ble_eq_true rfl, Nat.succ_ne_zero _, by decide⟩ rfl
theorem k146_133 : xcd 146 133 = oAl 0 134 := rfl
theorem r146_133 : zr 146 133 [.ref a0, v1, v2, v3, v4, v5, v6, v7] st u P = zr 146 134 [.ref a0, v1, v2, v3, v4, v5, v6, v7] (.ref a0 :: st) u P := zr_Al k146_133 rfl
theorem k146_134 : xcd 146 134 = oAl 0 135 := rfl
theorem r146_134 : zr 146 134 [.ref a0, v1, v2, v3, v4, v5, v6, v7] st u P = zr 146 135 [.ref a0, v1, v2, v3, v4, v5, v6, v7] (.ref a0 :: st) u P := zr_Al k146_134 rfl
theorem k146_135 : xcd 146 135 = oGR 10 3 138 := rfl
theorem r146_135 : zr 146 135 [v0, v1, v2, v3, v4, v5, v6, v7] (.ref b1 :: st) u P = (xIs u b1 10 ∧ ∃ b, xR u b1 3 = some b ∧ zr 146 138 [v0, v1, v2, v3, v4, v5, v6, v7] (.ref b :: st) u P) := zr_GR k146_135
theorem k146_138 : xcd 146 138 = oGI 1 0 141 := rfl
theorem r146_138 : zr 146 138 [v0, v1, v2, v3, v4, v5, v6, v7] (.ref b1 :: st) u P = (xIs u b1 1 ∧ zr 146 141 [v0, v1, v2, v3, v4, v5, v6, v7] (.int (xI u b1 0) :: st) u P) := zr_GI k146_138
theorem k146_141 : xcd 146 141 = oI 1 142 := rfl
theorem r146_141 : zr 146 141 [v0, v1, v2, v3, v4, v5, v6, v7] st u P = zr 146 142 [v0, v1, v2, v3, v4, v5, v6, v7] (.int 1 :: st) u P := zr_I k146_141
theorem k146_142 : xcd 146 142 = oB (fun x y => x - y) 143 := rfl
theorem r146_142 : zr 146 142 [v0, v1, v2, v3, v4, v5, v6, v7] (.int y1 :: .int y2 :: st) u P = zr 146 143 [v0, v1, v2, v3, v4, v5, v6, v7] (.int (y2 - y1) :: st) u P := zr_B k146_142
theorem k146_143 : xcd 146 143 = oCalV 10 153 1 146 := rfl
theorem r146_143 : zr 146 143 [v0, v1, v2, v3, v4, v5, v6, v7] (.int y1 :: .ref b8 :: st) u P = ((xIs u b8 10 ∧ xcat st ≤ 8) ∧ zr 153 0 [.ref b8, .int y1] [] u (fun r u2 => zr 146 146 [v0, v1, v2, v3, v4, v5, v6, v7] (r.toList ++ st) u2 P)) := zr_CV k146_143 rfl rfl rfl ⟨Nat.le_of_ble_eq_true rfl, Nat.succ_ne_zero _, by decide⟩ rfl
theorem k146_146 : xcd 146 146 = oRi 0 := rfl
theorem r146_146 : zr 146 146 [v0, v1, v2, v3, v4, v5, v6, v7] [.int y1] u P = P (some (.int y1)) u := zr_Ri k146_146
theorem k147_0 : xcd 147 0 = oAl 0 1 := rfl
theorem r147_0 : zr 147 0 [.ref a0, v1, v2, v3, v4] st u P = zr 147 1 [.ref a0, v1, v2, v3, v4] (.ref a0 :: st) u P := zr_Al k147_0 rfl
theorem k147_1 : xcd 147 1 = oIl 1 2 := rfl
theorem r147_1 : zr 147 1 [v0, .int x1, v2, v3, v4] st u P = zr 147 2 [v0, .int x1, v2, v3, v4] (.int x1 :: st) u P := zr_Il k147_1 rfl
theorem k147_2 : xcd 147 2 = oCalV 10 159 1 5 := rfl
theorem r147_2 : zr 147 2 [v0, v1, v2, v3, v4] (.int y1 :: .ref b8 :: st) u P = ((xIs u b8 10 ∧ xcat st ≤ 8) ∧ zr 159 0 [.ref b8, .int y1] [] u (fun r u2 => zr 147 5 [v0, v1, v2, v3, v4] (r.toList ++ st) u2 P)) := zr_CV k147_2 rfl rfl rfl ⟨Nat.le_of_ble_eq_true rfl, Nat.succ_ne_zero _, by decide⟩ rfl
theorem k147_5 : xcd 147 5 = oIf (fun x => decide (¬ x = 0)) 14 8 := rfl
theorem r147_5 : zr 147 5 [v0, v1, v2, v3, v4] (.int y1 :: st) u P = (if ¬ y1 = 0 then zr 147 14 [v0, v1, v2, v3, v4] st u P else zr 147 8 [v0, v1, v2, v3, v4] st u P) := zr_If k147_5
theorem k147_8 : xcd 147 8 = oAl 0 9 := rfl
theorem r147_8 : zr 147 8 [.ref a0, v1, v2, v3, v4] st u P = zr 147 9 [.ref a0, v1, v2, v3, v4] (.ref a0 :: st) u P := zr_Al k147_8 rfl
theorem k147_9 : xcd 147 9 = oI 1 10 := rfl
theorem r147_9 : zr 147 9 [v0, v1, v2, v3, v4] st u P = zr 147 10 [v0, v1, v2, v3, v4] (.int 1 :: st) u P := zr_I k147_9
theorem k147_10 : xcd 147 10 = oCalV 10 154 1 13 := rfl
theorem r147_10 : zr 147 10 [v0, v1, v2, v3, v4] (.int y1 :: .ref b8 :: st) u P = ((xIs u b8 10 ∧ xcat st ≤ 8) ∧ zr 154 0 [.ref b8, .int y1] [] u (fun r u2 => zr 147 13 [v0, v1, v2, v3, v4] (r.toList ++ st) u2 P)) := zr_CV k147_10 rfl rfl rfl ⟨Nat.le_of_ble_eq_true rfl, Nat.succ_ne_zero _, by decide⟩ rfl
theorem k147_13 : xcd 147 13 = oRi 0 := rfl
theorem r147_13 : zr 147 13 [v0, v1, v2, v3, v4] [.int y1] u P = P (some (.int y1)) u := zr_Ri k147_13
theorem k147_14 : xcd 147 14 = oAl 0 15 := rfl
theorem r147_14 : zr 147 14 [.ref a0, v1, v2, v3, v4] st u P = zr 147 15 [.ref a0, v1, v2, v3, v4] (.ref a0 :: st) u P := zr_Al k147_14 rfl
theorem k147_15 : xcd 147 15 = oGR 10 3 18 := rfl
theorem r147_15 : zr 147 15 [v0, v1, v2, v3, v4] (.ref b1 :: st) u P = (xIs u b1 10 ∧ ∃ b, xR u b1 3 = some b ∧ zr 147 18 [v0, v1, v2, v3, v4] (.ref b :: st) u P) := zr_GR k147_15
theorem k147_18 : xcd 147 18 = oGR 1 1 21 := rfl
theorem r147_18 : zr 147 18 [v0, v1, v2, v3, v4] (.ref b1 :: st) u P = (xIs u b1 1 ∧ ∃ b, xR u b1 1 = some b ∧ zr 147 21 [v0, v1, v2, v3, v4] (.ref b :: st) u P) := zr_GR k147_18
theorem k147_21 : xcd 147 21 = oIl 1 22 := rfl
theorem r147_21 : zr 147 21 [v0, .int x1, v2, v3, v4] st u P = zr 147 22 [v0, .int x1, v2, v3, v4] (.int x1 :: st) u P := zr_Il k147_21 rfl
theorem k147_22 : xcd 147 22 = oLdR 23 := rfl
theorem r147_22 : zr 147 22 [v0, v1, v2, v3, v4] (.int y1 :: .ref b1 :: st) u P = ((xIs u b1 16 ∧ xinb y1 (xN u b1)) ∧ ∃ b, xR u b1 (xix y1) = some b ∧ zr 147 23 [v0, v1, v2, v3, v4] (.ref b :: st) u P) := zr_LdR k147_22
theorem k147_23 : xcd 147 23 = oAs 3 24 := rfl
theorem r147_23 : zr 147 23 [v0, v1, .int x2, v3, v4] (.ref b1 :: st) u P = zr 147 24 [v0, v1, .int x2, .ref b1, v4] st u P := zr_As k147_23 ⟨Nat.le_of_ble_eq_true rfl, rfl⟩
theorem k147_24 : xcd 147 24 = oIl 2 25 := rfl
theorem r147_24 : zr 147 24 [v0, v1, .int x2, v3, v4] st u P = zr 147 25 [v0, v1, .int x2, v3, v4] (.int x2 :: st) u P := zr_Il k147_24 rfl
theorem k147_25 : xcd 147 25 = oI 1 26 := rfl
theorem r147_25 : zr 147 25 [v0, v1, v2, v3, v4] st u P = zr 147 26 [v0, v1, v2, v3, v4] (.int 1 :: st) u P := zr_I k147_25
theorem k147_26 : xcd 147 26 = oAl 3 27 := rfl
theorem r147_26 : zr 147 26 [v0, v1, v2, .ref a3, v4] st u P = zr 147 27 [v0, v1, v2, .ref a3, v4] (.ref a3 :: st) u P := zr_Al k147_26 rfl
theorem k147_27 : xcd 147 27 = oGI 5 6 30 := rfl
theorem r147_27 : zr 147 27 [v0, v1, v2, v3, v4] (.ref b1 :: st) u P = (xIs u b1 5 ∧ zr 147 30 [v0, v1, v2, v3, v4] (.int (xI u b1 6) :: st) u P) := zr_GI k147_27
theorem k147_30 : xcd 147 30 = oCal 164 3 33 := rfl
theorem r147_30 : zr 147 30 [v0, v1, v2, v3, v4] (.int y3 :: .int y2 :: .int y1 :: st) u P = (xcat st ≤ 8 ∧ zr 164 0 [.int y1, .int y2, .int y3] [] u (fun r u2 => zr 147 33 [v0, v1, v2, v3, v4] (r.toList ++ st) u2 P)) := zr_CS k147_30 (Nat.le_add_left _ _) rfl rfl ⟨Nat.le_of_ble_eq_true rfl, Nat.succ_ne_zero _, by decide⟩ rfl
theorem k147_33 : xcd 147 33 = oIf (fun x => decide (¬ x = 0)) 42 36 := rfl
theorem r147_33 : zr 147 33 [v0, v1, v2, v3, v4] (.int y1 :: st) u P = (if ¬ y1 = 0 then zr 147 42 [v0, v1, v2, v3, v4] st u P else zr 147 36 [v0, v1, v2, v3, v4] st u P) := zr_If k147_33
theorem k147_36 : xcd 147 36 = oAl 0 37 := rfl
theorem r147_36 : zr 147 36 [.ref a0, v1, v2, v3, v4] st u P = zr 147 37 [.ref a0, v1, v2, v3, v4] (.ref a0 :: st) u P := zr_Al k147_36 rfl
theorem k147_37 : xcd 147 37 = oI 2 38 := rfl
theorem r147_37 : zr 147 37 [v0, v1, v2, v3, v4] st u P = zr 147 38 [v0, v1, v2, v3, v4] (.int 2 :: st) u P := zr_I k147_37
theorem k147_38 : xcd 147 38 = oCalV 10 154 1 41 := rfl
theorem r147_38 : zr 147 38 [v0, v1, v2, v3, v4] (.int y1 :: .ref b8 :: st) u P = ((xIs u b8 10 ∧ xcat st ≤ 8) ∧ zr 154 0 [.ref b8, .int y1] [] u (fun r u2 => zr 147 41 [v0, v1, v2, v3, v4] (r.toList ++ st) u2 P)) := zr_CV k147_38 rfl rfl rfl ⟨Nat.le_of_ble_eq_true rfl, Nat.succ_ne_zero _, by decide⟩ rfl
theorem k147_41 : xcd 147 41 = oRi 0 := rfl
theorem r147_41 : zr 147 41 [v0, v1, v2, v3, v4] [.int y1] u P = P (some (.int y1)) u := zr_Ri k147_41
theorem k147_42 : xcd 147 42 = oAl 3 43 := rfl
theorem r147_42 : zr 147 42 [v0, v1, v2, .ref a3, v4] st u P = zr 147 43 [v0, v1, v2, .ref a3, v4] (.ref a3 :: st) u P := zr_Al k147_42 rfl
theorem k147_43 : xcd 147 43 = oI (-1) 44 := rfl
theorem r147_43 : zr 147 43 [v0, v1, v2, v3, v4] st u P = zr 147 44 [v0, v1, v2, v3, v4] (.int (-1) :: st) u P := zr_I k147_43
theorem k147_44 : xcd 147 44 = oCalV 5 58 1 47 := rfl
theorem r147_44 : zr 147 44 [v0, v1, v2, v3, v4] (.int y1 :: .ref b8 :: st) u P = ((xIs u b8 5 ∧ xcat st ≤ 8) ∧ zr 58 0 [.ref b8, .int y1, .null, .null] [] u (fun r u2 => zr 147 47 [v0, v1, v2, v3, v4] (r.toList ++ st) u2 P)) := zr_CV k147_44 rfl rfl rfl ⟨Nat.le_of_ble_eq_true rfl, Nat.succ_ne_zero _, by decide⟩ rfl
theorem k147_47 : xcd 147 47 = oIs 4 49 := rfl
theorem r147_47 : zr 147 47 [v0, v1, v2, .ref a3, v4] (.int y1 :: st) u P = zr 147 49 [v0, v1, v2, .ref a3, .int y1] st u P := zr_Is k147_47 ⟨Nat.le_of_ble_eq_true rfl, rfl⟩
theorem k147_49 : xcd 147 49 = oAl 3 50 := rfl
theorem r147_49 : zr 147 49 [v0, v1, v2, .ref a3, v4] st u P = zr 147 50 [v0, v1, v2, .ref a3, v4] (.ref a3 :: st) u P := zr_Al k147_49 rfl
theorem k147_50 : xcd 147 50 = oDup 51 := rfl
theorem r147_50 : zr 147 50 [v0, v1, v2, v3, v4] (.ref b1 :: st) u P = zr 147 51 [v0, v1, v2, v3, v4] (.ref b1 :: .ref b1 :: st) u P := zr_DupA k147_50
theorem k147_51 : xcd 147 51 = oGI 5 6 54 := rfl
theorem r147_51 : zr 147 51 [v0, v1, v2, v3, v4] (.ref b1 :: st) u P = (xIs u b1 5 ∧ zr 147 54 [v0, v1, v2, v3, v4] (.int (xI u b1 6) :: st) u P) := zr_GI k147_51
theorem k147_54 : xcd 147 54 = oIl 2 55 := rfl
theorem r147_54 : zr 147 54 [v0, v1, .int x2, v3, v4] st u P = zr 147 55 [v0, v1, .int x2, v3, v4] (.int x2 :: st) u P := zr_Il k147_54 rfl
theorem k147_55 : xcd 147 55 = oB (fun x y => x - y) 56 := rfl
theorem r147_55 : zr 147 55 [v0, v1, v2, v3, v4] (.int y1 :: .int y2 :: st) u P = zr 147 56 [v0, v1, v2, v3, v4] (.int (y2 - y1) :: st) u P := zr_B k147_55
theorem k147_56 : xcd 147 56 = oPI 5 6 59 := rfl
theorem r147_56 : zr 147 56 [v0, v1, v2, v3, v4] (.int y1 :: .ref b1 :: st) u P = (xIs u b1 5 ∧ zr 147 59 [v0, v1, v2, v3, v4] st (xsI u b1 6 y1) P) := zr_PI k147_56
theorem k147_59 : xcd 147 59 = oAl 0 60 := rfl
theorem r147_59 : zr 147 59 [.ref a0, v1, v2, v3, v4] st u P = zr 147 60 [.ref a0, v1, v2, v3, v4] (.ref a0 :: st) u P := zr_Al k147_59 rfl
theorem k147_60 : xcd 147 60 = oGR 10 4 63 := rfl
theorem r147_60 : zr 147 60 [v0, v1, v2, v3, v4] (.ref b1 :: st) u P = (xIs u b1 10 ∧ ∃ b, xR u b1 4 = some b ∧ zr 147 63 [v0, v1, v2, v3, v4] (.ref b :: st) u P) := zr_GR k147_60
theorem k147_63 : xcd 147 63 = oI 2 64 := rfl
theorem r147_63 : zr 147 63 [v0, v1, v2, v3, v4] st u P = zr 147 64 [v0, v1, v2, v3, v4] (.int 2 :: st) u P := zr_I k147_63
theorem k147_64 : xcd 147 64 = oIl 1 65 := rfl
theorem r147_64 : zr 147 64 [v0, .int x1, v2, v3, v4] st u P = zr 147 65 [v0, .int x1, v2, v3, v4] (.int x1 :: st) u P := zr_Il k147_64 rfl
theorem k147_65 : xcd 147 65 = oIl 2 66 := rfl
theorem r147_65 : zr 147 65 [v0, v1, .int x2, v3, v4] st u P = zr 147 66 [v0, v1, .int x2, v3, v4] (.int x2 :: st) u P := zr_Il k147_65 rfl
theorem k147_66 : xcd 147 66 = oCalV 0 4 3 69 := rfl
theorem r147_66 : zr 147 66 [v0, v1, v2, v3, v4] (.int y3 :: .int y2 :: .int y1 :: .ref b8 :: st) u P = ((xIs u b8 0 ∧ xcat st ≤ 8) ∧ zr 4 0 [.ref b8, .int y1, .int y2, .int y3] [] u (fun r u2 => zr 147 69 [v0, v1, v2, v3, v4] (r.toList ++ st) u2 P)) := zr_CV k147_66 rfl rfl rfl ⟨Nat.le_of_ble_eq_true rfl, Nat.succ_ne_zero _, by decide⟩ rfl
theorem k147_69 : xcd 147 69 = oAl 0 70 := rfl
theorem r147_69 : zr 147 69 [.ref a0, v1, v2, v3, v4] st u P = zr 147 70 [.ref a0, v1, v2, v3, v4] (.ref a0 :: st) u P := zr_Al k147_69 rfl
theorem k147_70 : xcd 147 70 = oIl 4 72 := rfl
theorem r147_70 : zr 147 70 [v0, v1, v2, v3, .int x4] st u P = zr 147 72 [v0, v1, v2, v3, .int x4] (.int x4 :: st) u P := zr_Il k147_70 rfl
theorem k147_72 : xcd 147 72 = oAl 3 73 := rfl
theorem r147_72 : zr 147 72 [v0, v1, v2, .ref a3, v4] st u P = zr 147 73 [v0, v1, v2, .ref a3, v4] (.ref a3 :: st) u P := zr_Al k147_72 rfl
theorem k147_73 : xcd 147 73 = oI (-1) 74 := rfl
theorem r147_73 : zr 147 73 [v0, v1, v2, v3, v4] st u P = zr 147 74 [v0, v1, v2, v3, v4] (.int (-1) :: st) u P := zr_I k147_73
theorem k147_74 : xcd 147 74 = oCalV 5 58 1 77 := rfl
theorem r147_74 : zr 147 74 [v0, v1, v2, v3, v4] (.int y1 :: .ref b8 :: st) u P = ((xIs u b8 5 ∧ xcat st ≤ 8) ∧ zr 58 0 [.ref b8, .int y1, .null, .null] [] u (fun r u2 => zr 147 77 [v0, v1, v2, v3, v4] (r.toList ++ st) u2 P)) := zr_CV k147_74 rfl rfl rfl ⟨Nat.le_of_ble_eq_true rfl, Nat.succ_ne_zero _, by decide⟩ rfl
theorem k147_77 : xcd 147 77 = oB (fun x y => x - y) 78 := rfl
theorem r147_77 : zr 147 77 [v0, v1, v2, v3, v4] (.int y1 :: .int y2 :: st) u P = zr 147 78 [v0, v1, v2, v3, v4] (.int (y2 - y1) :: st) u P := zr_B k147_77
theorem k147_78 : xcd 147 78 = oCalV 10 153 1 81 := rfl
theorem r147_78 : zr 147 78 [v0, v1, v2, v3, v4] (.int y1 :: .ref b8 :: st) u P = ((xIs u b8 10 ∧ xcat st ≤ 8) ∧ zr 153 0 [.ref b8, .int y1] [] u (fun r u2 => zr 147 81 [v0, v1, v2, v3, v4] (r.toList ++ st) u2 P)) := zr_CV k147_78 rfl rfl rfl ⟨Nat.le_of_ble_eq_true rfl, Nat.succ_ne_zero _, by decide⟩ rfl
theorem k147_81 : xcd 147 81 = oRi 0 := rfl
theorem r147_81 : zr 147 81 [v0, v1, v2, v3, v4] [.int y1] u P = P (some (.int y1)) u := zr_Ri k147_81
theorem k148_0 : xcd 148 0 = oAl 0 1 := rfl
theorem r148_0 : zr 148 0 [.ref a0, v1, v2, v3, v4, v5, v6] st u P = zr 148 1 [.ref a0, v1, v2, v3, v4, v5, v6] (.ref a0 :: st) u P := zr_Al k148_0 rfl
theorem k148_1 : xcd 148 1 = oIl 1 2 := rfl
theorem r148_1 : zr 148 1 [v0, .int x1, v2, v3, v4, v5, v6] st u P = zr 148 2 [v0, .int x1, v2, v3, v4, v5, v6] (.int x1 :: st) u P := zr_Il k148_1 rfl
theorem k148_2 : xcd 148 2 = oCalV 10 156 1 5 := rfl
theorem r148_2 : zr 148 2 [v0, v1, v2, v3, v4, v5, v6] (.int y1 :: .ref b8 :: st) u P = ((xIs u b8 10 ∧ xcat st ≤ 8) ∧ zr 156 0 [.ref b8, .int y1] [] u (fun r u2 => zr 148 5 [v0, v1, v2, v3, v4, v5, v6] (r.toList ++ st) u2 P)) := zr_CV k148_2 rfl rfl rfl ⟨Nat.le_of_ble_eq_true rfl, Nat.succ_ne_zero _, by decide⟩ rfl
theorem k148_5 : xcd 148 5 = oIf (fun x => decide (¬ x = 0)) 14 8 := rfl
theorem r148_5 : zr 148 5 [v0, v1, v2, v3, v4, v5, v6] (.int y1 :: st) u P = (if ¬ y1 = 0 then zr 148 14 [v0, v1, v2, v3, v4, v5, v6] st u P else zr 148 8 [v0, v1, v2, v3, v4, v5, v6] st u P) := zr_If k148_5
theorem k148_8 : xcd 148 8 = oAl 0 9 := rfl
theorem r148_8 : zr 148 8 [.ref a0, v1, v2, v3, v4, v5, v6] st u P = zr 148 9 [.ref a0, v1, v2, v3, v4, v5, v6] (.ref a0 :: st) u P := zr_Al k148_8 rfl
theorem k148_9 : xcd 148 9 = oI 1 10 := rfl
theorem r148_9 : zr 148 9 [v0, v1, v2, v3, v4, v5, v6] st u P = zr 148 10 [v0, v1, v2, v3, v4, v5, v6] (.int 1 :: st) u P := zr_I k148_9
theorem k148_10 : xcd 148 10 = oCalV 10 154 1 13 := rfl
theorem r148_10 : zr 148 10 [v0, v1, v2, v3, v4, v5, v6] (.int y1 :: .ref b8 :: st) u P = ((xIs u b8 10 ∧ xcat st ≤ 8) ∧ zr 154 0 [.ref b8, .int y1] [] u (fun r u2 => zr 148 13 [v0, v1, v2, v3, v4, v5, v6] (r.toList ++ st) u2 P)) := zr_CV k148_10 rfl rfl rfl ⟨Nat.le_of_ble_eq_true rfl, Nat.succ_ne_zero _, by decide⟩ rfl
theorem k148_13 : xcd 148 13 = oRi 0 := rfl
theorem r148_13 : zr 148 13 [v0, v1, v2, v3, v4, v5, v6] [.int y1] u P = P (some (.int y1)) u := zr_Ri k148_13
theorem k148_14 : xcd 148 14 = oAl 0 15 := rfl
theorem r148_14 : zr 148 14 [.ref a0, v1, v2, v3, v4, v5, v6] st u P = zr 148 15 [.ref a0, v1, v2, v3, v4, v5, v6] (.ref a0 :: st) u P := zr_Al k148_14 rfl
theorem k148_15 : xcd 148 15 = oGR 10 1 18 := rfl
theorem r148_15 : zr 148 15 [v0, v1, v2, v3, v4, v5, v6] (.ref b1 :: st) u P = (xIs u b1 10 ∧ ∃ b, xR u b1 1 = some b ∧ zr 148 18 [v0, v1, v2, v3, v4, v5, v6] (.ref b :: st) u P) := zr_GR k148_15
theorem k148_18 : xcd 148 18 = oGR 3 0 21 := rfl
theorem r148_18 : zr 148 18 [v0, v1, v2, v3, v4, v5, v6] (.ref b1 :: st) u P = (xIs u b1 3 ∧ ∃ b, xR u b1 0 = some b ∧ zr 148 21 [v0, v1, v2, v3, v4, v5, v6] (.ref b :: st) u P) := zr_GR k148_18
theorem k148_21 : xcd 148 21 = oGR 4 5 24 := rfl
theorem r148_21 : zr 148 21 [v0, v1, v2, v3, v4, v5, v6] (.ref b1 :: st) u P = (xIs u b1 4 ∧ ∃ b, xR u b1 5 = some b ∧ zr 148 24 [v0, v1, v2, v3, v4, v5, v6] (.ref b :: st) u P) := zr_GR k148_21
theorem k148_24 : xcd 148 24 = oAs 5 26 := rfl
theorem r148_24 : zr 148 24 [v0, v1, v2, v3, .int x4, v5, v6] (.ref b1 :: st) u P = zr 148 26 [v0, v1, v2, v3, .int x4, .ref b1, v6] st u P := zr_As k148_24 ⟨Nat.le_of_ble_eq_true rfl, rfl⟩
theorem k148_26 : xcd 148 26 = oAl 5 28 := rfl
theorem r148_26 : zr 148 26 [v0, v1, v2, v3, v4, .ref a5, v6] st u P = zr 148 28 [v0, v1, v2, v3, v4, .ref a5, v6] (.ref a5 :: st) u P := zr_Al k148_26 rfl
theorem k148_28 : xcd 148 28 = oIl 1 29 := rfl
theorem r148_28 : zr 148 28 [v0, .int x1, v2, v3, v4, v5, v6] st u P = zr 148 29 [v0, .int x1, v2, v3, v4, v5, v6] (.int x1 :: st) u P := zr_Il k148_28 rfl
theorem k148_29 : xcd 148 29 = oI 999 32 := rfl
theorem r148_29 : zr 148 29 [v0, v1, v2, v3, v4, v5, v6] st u P = zr 148 32 [v0, v1, v2, v3, v4, v5, v6] (.int 999 :: st) u P := zr_I k148_29
theorem k148_32 : xcd 148 32 = oCalV 2 19 2 35 := rfl
theorem r148_32 : zr 148 32 [v0, v1, v2, v3, v4, v5, v6] (.int y2 :: .int y1 :: .ref b8 :: st) u P = ((xIs u b8 2 ∧ xcat st ≤ 8) ∧ zr 19 0 [.ref b8, .int y1, .int y2, .null] [] u (fun r u2 => zr 148 35 [v0, v1, v2, v3, v4, v5, v6] (r.toList ++ st) u2 P)) := zr_CV k148_32 rfl rfl rfl ⟨Nat.le_of_ble_eq_true rfl, Nat.succ_ne_zero _, by decide⟩ rfl
theorem k148_35 : xcd 148 35 = oIs 6 37 := rfl
theorem r148_35 : zr 148 35 [v0, v1, v2, v3, v4, .ref a5, v6] (.int y1 :: st) u P = zr 148 37 [v0, v1, v2, v3, v4, .ref a5, .int y1] st u P := zr_Is k148_35 ⟨Nat.le_of_ble_eq_true rfl, rfl⟩
theorem k148_37 : xcd 148 37 = oIl 2 38 := rfl
theorem r148_37 : zr 148 37 [v0, v1, .int x2, v3, v4, v5, v6] st u P = zr 148 38 [v0, v1, .int x2, v3, v4, v5, v6] (.int x2 :: st) u P := zr_Il k148_37 rfl
theorem k148_38 : xcd 148 38 = oAl 5 40 := rfl
theorem r148_38 : zr 148 38 [v0, v1, v2, v3, v4, .ref a5, v6] st u P = zr 148 40 [v0, v1, v2, v3, v4, .ref a5, v6] (.ref a5 :: st) u P := zr_Al k148_38 rfl
theorem k148_40 : xcd 148 40 = oIl 1 41 := rfl
theorem r148_40 : zr 148 40 [v0, .int x1, v2, v3, v4, v5, v6] st u P = zr 148 41 [v0, .int x1, v2, v3, v4, v5, v6] (.int x1 :: st) u P := zr_Il k148_40 rfl
theorem k148_41 : xcd 148 41 = oCalV 2 20 1 44 := rfl
theorem r148_41 : zr 148 41 [v0, v1, v2, v3, v4, v5, v6] (.int y1 :: .ref b8 :: st) u P = ((xIs u b8 2 ∧ xcat st ≤ 8) ∧ zr 20 0 [.ref b8, .int y1, .null] [] u (fun r u2 => zr 148 44 [v0, v1, v2, v3, v4, v5, v6] (r.toList ++ st) u2 P)) := zr_CV k148_41 rfl rfl rfl ⟨Nat.le_of_ble_eq_true rfl, Nat.succ_ne_zero _, by decide⟩ rfl
theorem k148_44 : xcd 148 44 = oI 999 47 := rfl
theorem r148_44 : zr 148 44 [v0, v1, v2, v3, v4, v5, v6] st u P = zr 148 47 [v0, v1, v2, v3, v4, v5, v6] (.int 999 :: st) u P := zr_I k148_44
theorem k148_47 : xcd 148 47 = oCal 164 3 50 := rfl
theorem r148_47 : zr 148 47 [v0, v1, v2, v3, v4, v5, v6] (.int y3 :: .int y2 :: .int y1 :: st) u P = (xcat st ≤ 8 ∧ zr 164 0 [.int y1, .int y2, .int y3] [] u (fun r u2 => zr 148 50 [v0, v1, v2, v3, v4, v5, v6] (r.toList ++ st) u2 P)) := zr_CS k148_47 (Nat.le_add_left _ _) rfl rfl ⟨Nat.le_of_ble_eq_true rfl, Nat.succ_ne_zero _, by decide⟩ rfl
theorem k148_50 : xcd 148 50 = oIf (fun x => decide (x = 0)) 104 53 := rfl
theorem r148_50 : zr 148 50 [v0, v1, v2, v3, v4, v5, v6] (.int y1 :: st) u P = (if y1 = 0 then zr 148 104 [v0, v1, v2, v3, v4, v5, v6] st u P else zr 148 53 [v0, v1, v2, v3, v4, v5, v6] st u P) := zr_If k148_50
theorem k148_53 : xcd 148 53 = oIl 3 54 := rfl
theorem r148_53 : zr 148 53 [v0, v1, v2, .int x3, v4, v5, v6] st u P = zr 148 54 [v0, v1, v2, .int x3, v4, v5, v6] (.int x3 :: st) u P := zr_Il k148_53 rfl
theorem k148_54 : xcd 148 54 = oI (-40) 56 := rfl
theorem r148_54 : zr 148 54 [v0, v1, v2, v3, v4, v5, v6] st u P = zr 148 56 [v0, v1, v2, v3, v4, v5, v6] (.int (-40) :: st) u P := zr_I k148_54
theorem k148_56 : xcd 148 56 = oI 40 58 := rfl
theorem r148_56 : zr 148 56 [v0, v1, v2, v3, v4, v5, v6] st u P = zr 148 58 [v0, v1, v2, v3, v4, v5, v6] (.int 40 :: st) u P := zr_I k148_56
theorem k148_58 : xcd 148 58 = oCal 164 3 61 := rfl
theorem r148_58 : zr 148 58 [v0, v1, v2, v3, v4, v5, v6] (.int y3 :: .int y2 :: .int y1 :: st) u P = (xcat st ≤ 8 ∧ zr 164 0 [.int y1, .int y2, .int y3] [] u (fun r u2 => zr 148 61 [v0, v1, v2, v3, v4, v5, v6] (r.toList ++ st) u2 P)) := zr_CS k148_58 (Nat.le_add_left _ _) rfl rfl ⟨Nat.le_of_ble_eq_true rfl, Nat.succ_ne_zero _, by decide⟩ rfl
theorem k148_61 : xcd 148 61 = oIf (fun x => decide (x = 0)) 104 64 := rfl
theorem r148_61 : zr 148 61 [v0, v1, v2, v3, v4, v5, v6] (.int y1 :: st) u P = (if y1 = 0 then zr 148 104 [v0, v1, v2, v3, v4, v5, v6] st u P else zr 148 64 [v0, v1, v2, v3, v4, v5, v6] st u P) := zr_If k148_61
theorem k148_64 : xcd 148 64 = oIl 4 66 := rfl
theorem r148_64 : zr 148 64 [v0, v1, v2, v3, .int x4, v5, v6] st u P = zr 148 66 [v0, v1, v2, v3, .int x4, v5, v6] (.int x4 :: st) u P := zr_Il k148_64 rfl
theorem k148_66 : xcd 148 66 = oI (-40) 68 := rfl
theorem r148_66 : zr 148 66 [v0, v1, v2, v3, v4, v5, v6] st u P = zr 148 68 [v0, v1, v2, v3, v4, v5, v6] (.int (-40) :: st) u P := zr_I k148_66
theorem k148_68 : xcd 148 68 = oI 40 70 := rfl
theorem r148_68 : zr 148 68 [v0, v1, v2, v3, v4, v5, v6] st u P = zr 148 70 [v0, v1, v2, v3, v4, v5, v6] (.int 40 :: st) u P := zr_I k148_68
theorem k148_70 : xcd 148 70 = oCal 164 3 73 := rfl
theorem r148_70 : zr 148 70 [v0, v1, v2, v3, v4, v5, v6] (.int y3 :: .int y2 :: .int y1 :: st) u P = (xcat st ≤ 8 ∧ zr 164 0 [.int y1, .int y2, .int y3] [] u (fun r u2 => zr 148 73 [v0, v1, v2, v3, v4, v5, v6] (r.toList ++ st) u2 P)) := zr_CS k148_70 (Nat.le_add_left _ _) rfl rfl ⟨Nat.le_of_ble_eq_true rfl, Nat.succ_ne_zero _, by decide⟩ rfl
theorem k148_73 : xcd 148 73 = oIf (fun x => decide (x = 0)) 104 76 := rfl
theorem r148_73 : zr 148 73 [v0, v1, v2, v3, v4, v5, v6] (.int y1 :: st) u P = (if y1 = 0 then zr 148 104 [v0, v1, v2, v3, v4, v5, v6] st u P else zr 148 76 [v0, v1, v2, v3, v4, v5, v6] st u P) := zr_If k148_73
theorem k148_76 : xcd 148 76 = oIl 6 78 := rfl
theorem r148_76 : zr 148 76 [v0, v1, v2, v3, v4, v5, .int x6] st u P = zr 148 78 [v0, v1, v2, v3, v4, v5, .int x6] (.int x6 :: st) u P := zr_Il k148_76 rfl
theorem k148_78 : xcd 148 78 = oIf (fun x => decide (x < 0)) 110 81 := rfl
theorem r148_78 : zr 148 78 [v0, v1, v2, v3, v4, v5, v6] (.int y1 :: st) u P = (if y1 < 0 then zr 148 110 [v0, v1, v2, v3, v4, v5, v6] st u P else zr 148 81 [v0, v1, v2, v3, v4, v5, v6] st u P) := zr_If k148_78
theorem k148_81 : xcd 148 81 = oAl 5 83 := rfl
theorem r148_81 : zr 148 81 [v0, v1, v2, v3, v4, .ref a5, v6] st u P = zr 148 83 [v0, v1, v2, v3, v4, .ref a5, v6] (.ref a5 :: st) u P := zr_Al k148_81 rfl
theorem k148_83 : xcd 148 83 = oIl 6 85 := rfl
theorem r148_83 : zr 148 83 [v0, v1, v2, v3, v4, v5, .int x6] st u P = zr 148 85 [v0, v1, v2, v3, v4, v5, .int x6] (.int x6 :: st) u P := zr_Il k148_83 rfl
theorem k148_85 : xcd 148 85 = oIl 3 86 := rfl
theorem r148_85 : zr 148 85 [v0, v1, v2, .int x3, v4, v5, v6] st u P = zr 148 86 [v0, v1, v2, .int x3, v4, v5, v6] (.int x3 :: st) u P := zr_Il k148_85 rfl
theorem k148_86 : xcd 148 86 = oIl 4 88 := rfl
theorem r148_86 : zr 148 86 [v0, v1, v2, v3, .int x4, v5, v6] st u P = zr 148 88 [v0, v1, v2, v3, .int x4, v5, v6] (.int x4 :: st) u P := zr_Il k148_86 rfl
theorem k148_88 : xcd 148 88 = oAl 0 89 := rfl
theorem r148_88 : zr 148 88 [.ref a0, v1, v2, v3, v4, v5, v6] st u P = zr 148 89 [.ref a0, v1, v2, v3, v4, v5, v6] (.ref a0 :: st) u P := zr_Al k148_88 rfl
theorem k148_89 : xcd 148 89 = oGR 10 1 92 := rfl
theorem r148_89 : zr 148 89 [v0, v1, v2, v3, v4, v5, v6] (.ref b1 :: st) u P = (xIs u b1 10 ∧ ∃ b, xR u b1 1 = some b ∧ zr 148 92 [v0, v1, v2, v3, v4, v5, v6] (.ref b :: st) u P) := zr_GR k148_89
theorem k148_92 : xcd 148 92 = oGR 3 0 95 := rfl
theorem r148_92 : zr 148 92 [v0, v1, v2, v3, v4, v5, v6] (.ref b1 :: st) u P = (xIs u b1 3 ∧ ∃ b, xR u b1 0 = some b ∧ zr 148 95 [v0, v1, v2, v3, v4, v5, v6] (.ref b :: st) u P) := zr_GR k148_92
theorem k148_95 : xcd 148 95 = oGI 4 0 98 := rfl
theorem r148_95 : zr 148 95 [v0, v1, v2, v3, v4, v5, v6] (.ref b1 :: st) u P = (xIs u b1 4 ∧ zr 148 98 [v0, v1, v2, v3, v4, v5, v6] (.int (xI u b1 0) :: st) u P) := zr_GI k148_95
theorem k148_98 : xcd 148 98 = oCalV 2 30 4 101 := rfl
theorem r148_98 : zr 148 98 [v0, v1, v2, v3, v4, v5, v6] (.int y4 :: .int y3 :: .int y2 :: .int y1 :: .ref b8 :: st) u P = ((xIs u b8 2 ∧ xcat st ≤ 8) ∧ zr 30 0 [.ref b8, .int y1, .int y2, .int y3, .int y4, .null, .null] [] u (fun r u2 => zr 148 101 [v0, v1, v2, v3, v4, v5, v6] (r.toList ++ st) u2 P)) := zr_CV k148_98 rfl rfl rfl ⟨Nat.le_of_ble_eq_true rfl, Nat.succ_ne_zero _, by decide⟩ rfl
theorem k148_101 : xcd 148 101 = oIf (fun x => decide (¬ x = 0)) 110 104 := rfl
theorem r148_101 : zr 148 101 [v0, v1, v2, v3, v4, v5, v6] (.int y1 :: st) u P = (if ¬ y1 = 0 then zr 148 110 [v0, v1, v2, v3, v4, v5, v6] st u P else zr 148 104 [v0, v1, v2, v3, v4, v5, v6] st u P) := zr_If k148_101
theorem k148_104 : xcd 148 104 = oAl 0 105 := rfl
theorem r148_104 : zr 148 104 [.ref a0, v1, v2, v3, v4, v5, v6] st u P = zr 148 105 [.ref a0, v1, v2, v3, v4, v5, v6] (.ref a0 :: st) u P := zr_Al k148_104 rfl
theorem k148_105 : xcd 148 105 = oI 2 106 := rfl
theorem r148_105 : zr 148 105 [v0, v1, v2, v3, v4, v5, v6] st u P = zr 148 106 [v0, v1, v2, v3, v4, v5, v6] (.int 2 :: st) u P := zr_I k148_105
theorem k148_106 : xcd 148 106 = oCalV 10 154 1 109 := rfl
theorem r148_106 : zr 148 106 [v0, v1, v2, v3, v4, v5, v6] (.int y1 :: .ref b8 :: st) u P = ((xIs u b8 10 ∧ xcat st ≤ 8) ∧ zr 154 0 [.ref b8, .int y1] [] u (fun r u2 => zr 148 109 [v0, v1, v2, v3, v4, v5, v6] (r.toList ++ st) u2 P)) := zr_CV k148_106 rfl rfl rfl ⟨Nat.le_of_ble_eq_true rfl, Nat.succ_ne_zero _, by decide⟩ rfl
theorem k148_109 : xcd 148 109 = oRi 0 := rfl
theorem r148_109 : zr 148 109 [v0, v1, v2, v3, v4, v5, v6] [.int y1] u P = P (some (.int y1)) u := zr_Ri k148_109
theorem k148_110 : xcd 148 110 = oIl 6 112 := rfl
theorem r148_110 : zr 148 110 [v0, v1, v2, v3, v4, v5, .int x6] st u P = zr 148 112 [v0, v1, v2, v3, v4, v5, .int x6] (.int x6 :: st) u P := zr_Il k148_110 rfl
theorem k148_112 : xcd 148 112 = oIf (fun x => decide (x < 0)) 126 115 := rfl
theorem r148_112 : zr 148 112 [v0, v1, v2, v3, v4, v5, v6] (.int y1 :: st) u P = (if y1 < 0 then zr 148 126 [v0, v1, v2, v3, v4, v5, v6] st u P else zr 148 115 [v0, v1, v2, v3, v4, v5, v6] st u P) := zr_If k148_112
theorem k148_115 : xcd 148 115 = oAl 5 117 := rfl
theorem r148_115 : zr 148 115 [v0, v1, v2, v3, v4, .ref a5, v6] st u P = zr 148 117 [v0, v1, v2, v3, v4, .ref a5, v6] (.ref a5 :: st) u P := zr_Al k148_115 rfl
theorem k148_117 : xcd 148 117 = oGR 2 3 120 := rfl
theorem r148_117 : zr 148 117 [v0, v1, v2, v3, v4, v5, v6] (.ref b1 :: st) u P = (xIs u b1 2 ∧ ∃ b, xR u b1 3 = some b ∧ zr 148 120 [v0, v1, v2, v3, v4, v5, v6] (.ref b :: st) u P) := zr_GR k148_117
theorem k148_120 : xcd 148 120 = oIl 6 122 := rfl
theorem r148_120 : zr 148 120 [v0, v1, v2, v3, v4, v5, .int x6] st u P = zr 148 122 [v0, v1, v2, v3, v4, v5, .int x6] (.int x6 :: st) u P := zr_Il k148_120 rfl
theorem k148_122 : xcd 148 122 = oLd 13 123 := rfl
theorem r148_122 : zr 148 122 [v0, v1, v2, v3, v4, v5, v6] (.int y1 :: .ref b1 :: st) u P = ((xIs u b1 13 ∧ xinb y1 (xN u b1)) ∧ zr 148 123 [v0, v1, v2, v3, v4, v5, v6] (.int (xI u b1 (xix y1)) :: st) u P) := zr_Ld k148_122
theorem k148_123 : xcd 148 123 = oIf (fun x => decide (¬ x = 0)) 132 126 := rfl
theorem r148_123 : zr 148 123 [v0, v1, v2, v3, v4, v5, v6] (.int y1 :: st) u P = (if ¬ y1 = 0 then zr 148 132 [v0, v1, v2, v3, v4, v5, v6] st u P else zr 148 126 [v0, v1, v2, v3, v4, v5, v6] st u P) := zr_If k148_123
theorem k148_126 : xcd 148 126 = oAl 0 127 := rfl
theorem r148_126 : zr 148 126 [.ref a0, v1, v2, v3, v4, v5, v6] st u P = zr 148 127 [.ref a0, v1, v2, v3, v4, v5, v6] (.ref a0 :: st) u P := zr_Al k148_126 rfl
theorem k148_127 : xcd 148 127 = oI 5 128 := rfl
theorem r148_127 : zr 148 127 [v0, v1, v2, v3, v4, v5, v6] st u P = zr 148 128 [v0, v1, v2, v3, v4, v5, v6] (.int 5 :: st) u P := zr_I k148_127
theorem k148_128 : xcd 148 128 = oCalV 10 154 1 131 := rfl
theorem r148_128 : zr 148 128 [v0, v1, v2, v3, v4, v5, v6] (.int y1 :: .ref b8 :: st) u P = ((xIs u b8 10 ∧ xcat st ≤ 8) ∧ zr 154 0 [.ref b8, .int y1] [] u (fun r u2 => zr 148 131 [v0, v1, v2, v3, v4, v5, v6] (r.toList ++ st) u2 P)) := zr_CV k148_128 rfl rfl rfl ⟨Nat.le_of_ble_eq_true rfl, Nat.succ_ne_zero _, by decide⟩ rfl
theorem k148_131 : xcd 148 131 = oRi 0 := rfl
theorem r148_131 : zr 148 131 [v0, v1, v2, v3, v4, v5, v6] [.int y1] u P = P (some (.int y1)) u := zr_Ri k148_131
theorem k148_132 : xcd 148 132 = oAl 5 134 := rfl
theorem r148_132 : zr 148 132 [v0, v1, v2, v3, v4, .ref a5, v6] st u P = zr 148 134 [v0, v1, v2, v3, v4, .ref a5, v6] (.ref a5 :: st) u P := zr_Al k148_132 rfl
theorem k148_134 : xcd 148 134 = oGI 2 0 137 := rfl
theorem r148_134 : zr 148 134 [v0, v1, v2, v3, v4, v5, v6] (.ref b1 :: st) u P = (xIs u b1 2 ∧ zr 148 137 [v0, v1, v2, v3, v4, v5, v6] (.int (xI u b1 0) :: st) u P) := zr_GI k148_134
theorem k148_137 : xcd 148 137 = oI 16 139 := rfl
theorem r148_137 : zr 148 137 [v0, v1, v2, v3, v4, v5, v6] st u P = zr 148 139 [v0, v1, v2, v3, v4, v5, v6] (.int 16 :: st) u P := zr_I k148_137
theorem k148_139 : xcd 148 139 = oCmp (fun x y => decide (x < y)) 148 142 := rfl
theorem r148_139 : zr 148 139 [v0, v1, v2, v3, v4, v5, v6] (.int y1 :: .int y2 :: st) u P = (if y2 < y1 then zr 148 148 [v0, v1, v2, v3, v4, v5, v6] st u P else zr 148 142 [v0, v1, v2, v3, v4, v5, v6] st u P) := zr_Cmp k148_139
theorem k148_142 : xcd 148 142 = oAl 0 143 := rfl
theorem r148_142 : zr 148 142 [.ref a0, v1, v2, v3, v4, v5, v6] st u P = zr 148 143 [.ref a0, v1, v2, v3, v4, v5, v6] (.ref a0 :: st) u P := zr_Al k148_142 rfl
theorem k148_143 : xcd 148 143 = oI 3 144 := rfl
theorem r148_143 : zr 148 143 [v0, v1, v2, v3, v4, v5, v6] st u P = zr 148 144 [v0, v1, v2, v3, v4, v5, v6] (.int 3 :: st) u P := zr_I k148_143
theorem k148_144 : xcd 148 144 = oCalV 10 154 1 147 := rfl
theorem r148_144 : zr 148 144 [v0, v1, v2, v3, v4, v5, v6] (.int y1 :: .ref b8 :: st) u P = ((xIs u b8 10 ∧ xcat st ≤ 8) ∧ zr 154 0 [.ref b8, .int y1] [] u (fun r u2 => zr 148 147 [v0, v1, v2, v3, v4, v5, v6] (r.toList ++ st) u2 P)) := zr_CV k148_144 rfl rfl rfl ⟨Nat.le_of_ble_eq_true rfl, Nat.succ_ne_zero _, by decide⟩ rfl
theorem k148_147 : xcd 148 147 = oRi 0 := rfl
theorem r148_147 : zr 148 147 [v0, v1, v2, v3, v4, v5, v6] [.int y1] u P = P (some (.int y1)) u := zr_Ri k148_147
theorem k148_148 : xcd 148 148 = oAl 5 150 := rfl
theorem r148_148 : zr 148 148 [v0, v1, v2, v3, v4, .ref a5, v6] st u P = zr 148 150 [v0, v1, v2, v3, v4, .ref a5, v6] (.ref a5 :: st) u P := zr_Al k148_148 rfl
theorem k148_150 : xcd 148 150 = oIl 6 152 := rfl
theorem r148_150 : zr 148 150 [v0, v1, v2, v3, v4, v5, .int x6] st u P = zr 148 152 [v0, v1, v2, v3, v4, v5, .int x6] (.int x6 :: st) u P := zr_Il k148_150 rfl
theorem k148_152 : xcd 148 152 = oIl 2 153 := rfl
theorem r148_152 : zr 148 152 [v0, v1, .int x2, v3, v4, v5, v6] st u P = zr 148 153 [v0, v1, .int x2, v3, v4, v5, v6] (.int x2 :: st) u P := zr_Il k148_152 rfl
theorem k148_153 : xcd 148 153 = oIl 3 154 := rfl
theorem r148_153 : zr 148 153 [v0, v1, v2, .int x3, v4, v5, v6] st u P = zr 148 154 [v0, v1, v2, .int x3, v4, v5, v6] (.int x3 :: st) u P := zr_Il k148_153 rfl
theorem k148_154 : xcd 148 154 = oIl 4 156 := rfl
theorem r148_154 : zr 148 154 [v0, v1, v2, v3, .int x4, v5, v6] st u P = zr 148 156 [v0, v1, v2, v3, .int x4, v5, v6] (.int x4 :: st) u P := zr_Il k148_154 rfl
theorem k148_156 : xcd 148 156 = oCalV 2 33 4 159 := rfl
theorem r148_156 : zr 148 156 [v0, v1, v2, v3, v4, v5, v6] (.int y4 :: .int y3 :: .int y2 :: .int y1 :: .ref b8 :: st) u P = ((xIs u b8 2 ∧ xcat st ≤ 8) ∧ zr 33 0 [.ref b8, .int y1, .int y2, .int y3, .int y4, .null] [] u (fun r u2 => zr 148 159 [v0, v1, v2, v3, v4, v5, v6] (r.toList ++ st) u2 P)) := zr_CV k148_156 rfl rfl rfl ⟨Nat.le_of_ble_eq_true rfl, Nat.succ_ne_zero _, by decide⟩ rfl
theorem k148_159 : xcd 148 159 = oAl 0 160 := rfl
theorem r148_159 : zr 148 159 [.ref a0, v1, v2, v3, v4, v5, v6] st u P = zr 148 160 [.ref a0, v1, v2, v3, v4, v5, v6] (.ref a0 :: st) u P := zr_Al k148_159 rfl
theorem k148_160 : xcd 148 160 = oGR 10 4 163 := rfl
theorem r148_160 : zr 148 160 [v0, v1, v2, v3, v4, v5, v6] (.ref b1 :: st) u P = (xIs u b1 10 ∧ ∃ b, xR u b1 4 = some b ∧ zr 148 163 [v0, v1, v2, v3, v4, v5, v6] (.ref b :: st) u P) := zr_GR k148_160
theorem k148_163 : xcd 148 163 = oI 3 164 := rfl
theorem r148_163 : zr 148 163 [v0, v1, v2, v3, v4, v5, v6] st u P = zr 148 164 [v0, v1, v2, v3, v4, v5, v6] (.int 3 :: st) u P := zr_I k148_163
theorem k148_164 : xcd 148 164 = oI 0 165 := rfl
theorem r148_164 : zr 148 164 [v0, v1, v2, v3, v4, v5, v6] st u P = zr 148 165 [v0, v1, v2, v3, v4, v5, v6] (.int 0 :: st) u P := zr_I k148_164
theorem k148_165 : xcd 148 165 = oI 0 166 := rfl
theorem r148_165 : zr 148 165 [v0, v1, v2, v3, v4, v5, v6] st u P = zr 148 166 [v0, v1, v2, v3, v4, v5, v6] (.int 0 :: st) u P := zr_I k148_165
theorem k148_166 : xcd 148 166 = oCalV 0 4 3 169 := rfl
theorem r148_166 : zr 148 166 [v0, v1, v2, v3, v4, v5, v6] (.int y3 :: .int y2 :: .int y1 :: .ref b8 :: st) u P = ((xIs u b8 0 ∧ xcat st ≤ 8) ∧ zr 4 0 [.ref b8, .int y1, .int y2, .int y3] [] u (fun r u2 => zr 148 169 [v0, v1, v2, v3, v4, v5, v6] (r.toList ++ st) u2 P)) := zr_CV k148_166 rfl rfl rfl ⟨Nat.le_of_ble_eq_true rfl, Nat.succ_ne_zero _, by decide⟩ rfl
theorem k148_169 : xcd 148 169 = oAl 0 170 := rfl
theorem r148_169 : zr 148 169 [.ref a0, v1, v2, v3, v4, v5, v6] st u P = zr 148 170 [.ref a0, v1, v2, v3, v4, v5, v6] (.ref a0 :: st) u P := zr_Al k148_169 rfl
theorem k148_170 : xcd 148 170 = oAl 5 172 := rfl
theorem r148_170 : zr 148 170 [v0, v1, v2, v3, v4, .ref a5, v6] st u P = zr 148 172 [v0, v1, v2, v3, v4, .ref a5, v6] (.ref a5 :: st) u P := zr_Al k148_170 rfl
theorem k148_172 : xcd 148 172 = oIl 1 173 := rfl
theorem r148_172 : zr 148 172 [v0, .int x1, v2, v3, v4, v5, v6] st u P = zr 148 173 [v0, .int x1, v2, v3, v4, v5, v6] (.int x1 :: st) u P := zr_Il k148_172 rfl
theorem k148_173 : xcd 148 173 = oCalV 2 21 1 176 := rfl
theorem r148_173 : zr 148 173 [v0, v1, v2, v3, v4, v5, v6] (.int y1 :: .ref b8 :: st) u P = ((xIs u b8 2 ∧ xcat st ≤ 8) ∧ zr 21 0 [.ref b8, .int y1, .null, .null] [] u (fun r u2 => zr 148 176 [v0, v1, v2, v3, v4, v5, v6] (r.toList ++ st) u2 P)) := zr_CV k148_173 rfl rfl rfl ⟨Nat.le_of_ble_eq_true rfl, Nat.succ_ne_zero _, by decide⟩ rfl
theorem k148_176 : xcd 148 176 = oCalV 10 153 1 179 := rfl
theorem r148_176 : zr 148 176 [v0, v1, v2, v3, v4, v5, v6] (.int y1 :: .ref b8 :: st) u P = ((xIs u b8 10 ∧ xcat st ≤ 8) ∧ zr 153 0 [.ref b8, .int y1] [] u (fun r u2 => zr 148 179 [v0, v1, v2, v3, v4, v5, v6] (r.toList ++ st) u2 P)) := zr_CV k148_176 rfl rfl rfl ⟨Nat.le_of_ble_eq_true rfl, Nat.succ_ne_zero _, by decide⟩ rfl
theorem k148_179 : xcd 148 179 = oRi 0 := rfl
theorem r148_179 : zr 148 179 [v0, v1, v2, v3, v4, v5, v6] [.int y1] u P = P (some (.int y1)) u := zr_Ri k148_179
theorem k149_0 : xcd 149 0 = oAl 0 1 := rfl
theorem r149_0 : zr 149 0 [.ref a0, v1, v2, v3, v4, v5] st u P = zr 149 1 [.ref a0, v1, v2, v3, v4, v5] (.ref a0 :: st) u P := zr_Al k149_0 rfl
theorem k149_1 : xcd 149 1 = oIl 1 2 := rfl
theorem r149_1 : zr 149 1 [v0, .int x1, v2, v3, v4, v5] st u P = zr 149 2 [v0, .int x1, v2, v3, v4, v5] (.int x1 :: st) u P := zr_Il k149_1 rfl
theorem k149_2 : xcd 149 2 = oCalV 10 156 1 5 := rfl
theorem r149_2 : zr 149 2 [v0, v1, v2, v3, v4, v5] (.int y1 :: .ref b8 :: st) u P = ((xIs u b8 10 ∧ xcat st ≤ 8) ∧ zr 156 0 [.ref b8, .int y1] [] u (fun r u2 => zr 149 5 [v0, v1, v2, v3, v4, v5] (r.toList ++ st) u2 P)) := zr_CV k149_2 rfl rfl rfl ⟨Nat.le_of_ble_eq_true rfl, Nat.succ_ne_zero _, by decide⟩ rfl
theorem k149_5 : xcd 149 5 = oIf (fun x => decide (x = 0)) 16 8 := rfl
theorem r149_5 : zr 149 5 [v0, v1, v2, v3, v4, v5] (.int y1 :: st) u P = (if y1 = 0 then zr 149 16 [v0, v1, v2, v3, v4, v5] st u P else zr 149 8 [v0, v1, v2, v3, v4, v5] st u P) := zr_If k149_5
theorem k149_8 : xcd 149 8 = oAl 0 9 := rfl
theorem r149_8 : zr 149 8 [.ref a0, v1, v2, v3, v4, v5] st u P = zr 149 9 [.ref a0, v1, v2, v3, v4, v5] (.ref a0 :: st) u P := zr_Al k149_8 rfl
theorem k149_9 : xcd 149 9 = oIl 2 10 := rfl
theorem r149_9 : zr 149 9 [v0, v1, .int x2, v3, v4, v5] st u P = zr 149 10 [v0, v1, .int x2, v3, v4, v5] (.int x2 :: st) u P := zr_Il k149_9 rfl
theorem k149_10 : xcd 149 10 = oCalV 10 158 1 13 := rfl
theorem r149_10 : zr 149 10 [v0, v1, v2, v3, v4, v5] (.int y1 :: .ref b8 :: st) u P = ((xIs u b8 10 ∧ xcat st ≤ 8) ∧ zr 158 0 [.ref b8, .int y1] [] u (fun r u2 => zr 149 13 [v0, v1, v2, v3, v4, v5] (r.toList ++ st) u2 P)) := zr_CV k149_10 rfl rfl rfl ⟨Nat.le_of_ble_eq_true rfl, Nat.succ_ne_zero _, by decide⟩ rfl
theorem k149_13 : xcd 149 13 = oIf (fun x => decide (¬ x = 0)) 22 16 := rfl
theorem r149_13 : zr 149 13 [v0, v1, v2, v3, v4, v5] (.int y1 :: st) u P = (if ¬ y1 = 0 then zr 149 22 [v0, v1, v2, v3, v4, v5] st u P else zr 149 16 [v0, v1, v2, v3, v4, v5] st u P) := zr_If k149_13
theorem k149_16 : xcd 149 16 = oAl 0 17 := rfl
theorem r149_16 : zr 149 16 [.ref a0, v1, v2, v3, v4, v5] st u P = zr 149 17 [.ref a0, v1, v2, v3, v4, v5] (.ref a0 :: st) u P := zr_Al k149_16 rfl
theorem k149_17 : xcd 149 17 = oI 1 18 := rfl
theorem r149_17 : zr 149 17 [v0, v1, v2, v3, v4, v5] st u P = zr 149 18 [v0, v1, v2, v3, v4, v5] (.int 1 :: st) u P := zr_I k149_17
theorem k149_18 : xcd 149 18 = oCalV 10 154 1 21 := rfl
theorem r149_18 : zr 149 18 [v0, v1, v2, v3, v4, v5] (.int y1 :: .ref b8 :: st) u P = ((xIs u b8 10 ∧ xcat st ≤ 8) ∧ zr 154 0 [.ref b8, .int y1] [] u (fun r u2 => zr 149 21 [v0, v1, v2, v3, v4, v5] (r.toList ++ st) u2 P)) := zr_CV k149_18 rfl rfl rfl ⟨Nat.le_of_ble_eq_true rfl, Nat.succ_ne_zero _, by decide⟩ rfl
theorem k149_21 : xcd 149 21 = oRi 0 := rfl
theorem r149_21 : zr 149 21 [v0, v1, v2, v3, v4, v5] [.int y1] u P = P (some (.int y1)) u := zr_Ri k149_21
theorem k149_22 : xcd 149 22 = oAl 0 23 := rfl
theorem r149_22 : zr 149 22 [.ref a0, v1, v2, v3, v4, v5] st u P = zr 149 23 [.ref a0, v1, v2, v3, v4, v5] (.ref a0 :: st) u P := zr_Al k149_22 rfl
theorem k149_23 : xcd 149 23 = oGR 10 1 26 := rfl
theorem r149_23 : zr 149 23 [v0, v1, v2, v3, v4, v5] (.ref b1 :: st) u P = (xIs u b1 10 ∧ ∃ b, xR u b1 1 = some b ∧ zr 149 26 [v0, v1, v2, v3, v4, v5] (.ref b :: st) u P) := zr_GR k149_23
theorem k149_26 : xcd 149 26 = oGR 3 1 29 := rfl
theorem r149_26 : zr 149 26 [v0, v1, v2, v3, v4, v5] (.ref b1 :: st) u P = (xIs u b1 3 ∧ ∃ b, xR u b1 1 = some b ∧ zr 149 29 [v0, v1, v2, v3, v4, v5] (.ref b :: st) u P) := zr_GR k149_26
theorem k149_29 : xcd 149 29 = oGR 9 2 32 := rfl
theorem r149_29 : zr 149 29 [v0, v1, v2, v3, v4, v5] (.ref b1 :: st) u P = (xIs u b1 9 ∧ ∃ b, xR u b1 2 = some b ∧ zr 149 32 [v0, v1, v2, v3, v4, v5] (.ref b :: st) u P) := zr_GR k149_29
theorem k149_32 : xcd 149 32 = oAs 5 34 := rfl
theorem r149_32 : zr 149 32 [v0, v1, v2, v3, .int x4, v5] (.ref b1 :: st) u P = zr 149 34 [v0, v1, v2, v3, .int x4, .ref b1] st u P := zr_As k149_32 ⟨Nat.le_of_ble_eq_true rfl, rfl⟩
theorem k149_34 : xcd 149 34 = oIl 3 35 := rfl
theorem r149_34 : zr 149 34 [v0, v1, v2, .int x3, v4, v5] st u P = zr 149 35 [v0, v1, v2, .int x3, v4, v5] (.int x3 :: st) u P := zr_Il k149_34 rfl
theorem k149_35 : xcd 149 35 = oAl 5 37 := rfl
theorem r149_35 : zr 149 35 [v0, v1, v2, v3, v4, .ref a5] st u P = zr 149 37 [v0, v1, v2, v3, v4, .ref a5] (.ref a5 :: st) u P := zr_Al k149_35 rfl
theorem k149_37 : xcd 149 37 = oIl 1 38 := rfl
theorem r149_37 : zr 149 37 [v0, .int x1, v2, v3, v4, v5] st u P = zr 149 38 [v0, .int x1, v2, v3, v4, v5] (.int x1 :: st) u P := zr_Il k149_37 rfl
theorem k149_38 : xcd 149 38 = oIl 2 39 := rfl
theorem r149_38 : zr 149 38 [v0, v1, .int x2, v3, v4, v5] st u P = zr 149 39 [v0, v1, .int x2, v3, v4, v5] (.int x2 :: st) u P := zr_Il k149_38 rfl
theorem k149_39 : xcd 149 39 = oCalV 6 64 2 42 := rfl
theorem r149_39 : zr 149 39 [v0, v1, v2, v3, v4, v5] (.int y2 :: .int y1 :: .ref b8 :: st) u P = ((xIs u b8 6 ∧ xcat st ≤ 8) ∧ zr 64 0 [.ref b8, .int y1, .int y2, .null] [] u (fun r u2 => zr 149 42 [v0, v1, v2, v3, v4, v5] (r.toList ++ st) u2 P)) := zr_CV k149_39 rfl rfl rfl ⟨Nat.le_of_ble_eq_true rfl, Nat.succ_ne_zero _, by decide⟩ rfl
theorem k149_42 : xcd 149 42 = oI 999 45 := rfl
theorem r149_42 : zr 149 42 [v0, v1, v2, v3, v4, v5] st u P = zr 149 45 [v0, v1, v2, v3, v4, v5] (.int 999 :: st) u P := zr_I k149_42
theorem k149_45 : xcd 149 45 = oCal 164 3 48 := rfl
theorem r149_45 : zr 149 45 [v0, v1, v2, v3, v4, v5] (.int y3 :: .int y2 :: .int y1 :: st) u P = (xcat st ≤ 8 ∧ zr 164 0 [.int y1, .int y2, .int y3] [] u (fun r u2 => zr 149 48 [v0, v1, v2, v3, v4, v5] (r.toList ++ st) u2 P)) := zr_CS k149_45 (Nat.le_add_left _ _) rfl rfl ⟨Nat.le_of_ble_eq_true rfl, Nat.succ_ne_zero _, by decide⟩ rfl
theorem k149_48 : xcd 149 48 = oIf (fun x => decide (x = 0)) 63 51 := rfl
theorem r149_48 : zr 149 48 [v0, v1, v2, v3, v4, v5] (.int y1 :: st) u P = (if y1 = 0 then zr 149 63 [v0, v1, v2, v3, v4, v5] st u P else zr 149 51 [v0, v1, v2, v3, v4, v5] st u P) := zr_If k149_48
theorem k149_51 : xcd 149 51 = oIl 4 53 := rfl
theorem r149_51 : zr 149 51 [v0, v1, v2, v3, .int x4, v5] st u P = zr 149 53 [v0, v1, v2, v3, .int x4, v5] (.int x4 :: st) u P := zr_Il k149_51 rfl
theorem k149_53 : xcd 149 53 = oI 0 54 := rfl
theorem r149_53 : zr 149 53 [v0, v1, v2, v3, v4, v5] st u P = zr 149 54 [v0, v1, v2, v3, v4, v5] (.int 0 :: st) u P := zr_I k149_53
theorem k149_54 : xcd 149 54 = oI 2500 57 := rfl
theorem r149_54 : zr 149 54 [v0, v1, v2, v3, v4, v5] st u P = zr 149 57 [v0, v1, v2, v3, v4, v5] (.int 2500 :: st) u P := zr_I k149_54
theorem k149_57 : xcd 149 57 = oCal 164 3 60 := rfl
theorem r149_57 : zr 149 57 [v0, v1, v2, v3, v4, v5] (.int y3 :: .int y2 :: .int y1 :: st) u P = (xcat st ≤ 8 ∧ zr 164 0 [.int y1, .int y2, .int y3] [] u (fun r u2 => zr 149 60 [v0, v1, v2, v3, v4, v5] (r.toList ++ st) u2 P)) := zr_CS k149_57 (Nat.le_add_left _ _) rfl rfl ⟨Nat.le_of_ble_eq_true rfl, Nat.succ_ne_zero _, by decide⟩ rfl
theorem k149_60 : xcd 149 60 = oIf (fun x => decide (¬ x = 0)) 69 63 := rfl
theorem r149_60 : zr 149 60 [v0, v1, v2, v3, v4, v5] (.int y1 :: st) u P = (if ¬ y1 = 0 then zr 149 69 [v0, v1, v2, v3, v4, v5] st u P else zr 149 63 [v0, v1, v2, v3, v4, v5] st u P) := zr_If k149_60
theorem k149_63 : xcd 149 63 = oAl 0 64 := rfl
theorem r149_63 : zr 149 63 [.ref a0, v1, v2, v3, v4, v5] st u P = zr 149 64 [.ref a0, v1, v2, v3, v4, v5] (.ref a0 :: st) u P := zr_Al k149_63 rfl
theorem k149_64 : xcd 149 64 = oI 2 65 := rfl
theorem r149_64 : zr 149 64 [v0, v1, v2, v3, v4, v5] st u P = zr 149 65 [v0, v1, v2, v3, v4, v5] (.int 2 :: st) u P := zr_I k149_64
theorem k149_65 : xcd 149 65 = oCalV 10 154 1 68 := rfl
theorem r149_65 : zr 149 65 [v0, v1, v2, v3, v4, v5] (.int y1 :: .ref b8 :: st) u P = ((xIs u b8 10 ∧ xcat st ≤ 8) ∧ zr 154 0 [.ref b8, .int y1] [] u (fun r u2 => zr 149 68 [v0, v1, v2, v3, v4, v5] (r.toList ++ st) u2 P)) := zr_CV k149_65 rfl rfl rfl ⟨Nat.le_of_ble_eq_true rfl, Nat.succ_ne_zero _, by decide⟩ rfl
theorem k149_68 : xcd 149 68 = oRi 0 := rfl
theorem r149_68 : zr 149 68 [v0, v1, v2, v3, v4, v5] [.int y1] u P = P (some (.int y1)) u := zr_Ri k149_68
theorem k149_69 : xcd 149 69 = oAl 5 71 := rfl
theorem r149_69 : zr 149 69 [v0, v1, v2, v3, v4, .ref a5] st u P = zr 149 71 [v0, v1, v2, v3, v4, .ref a5] (.ref a5 :: st) u P := zr_Al k149_69 rfl
theorem k149_71 : xcd 149 71 = oGI 6 0 74 := rfl
theorem r149_71 : zr 149 71 [v0, v1, v2, v3, v4, v5] (.ref b1 :: st) u P = (xIs u b1 6 ∧ zr 149 74 [v0, v1, v2, v3, v4, v5] (.int (xI u b1 0) :: st) u P) := zr_GI k149_71
theorem k149_74 : xcd 149 74 = oI 20 76 := rfl
theorem r149_74 : zr 149 74 [v0, v1, v2, v3, v4, v5] st u P = zr 149 76 [v0, v1, v2, v3, v4, v5] (.int 20 :: st) u P := zr_I k149_74
theorem k149_76 : xcd 149 76 = oCmp (fun x y => decide (x < y)) 85 79 := rfl
theorem r149_76 : zr 149 76 [v0, v1, v2, v3, v4, v5] (.int y1 :: .int y2 :: st) u P = (if y2 < y1 then zr 149 85 [v0, v1, v2, v3, v4, v5] st u P else zr 149 79 [v0, v1, v2, v3, v4, v5] st u P) := zr_Cmp k149_76
theorem k149_79 : xcd 149 79 = oAl 0 80 := rfl
theorem r149_79 : zr 149 79 [.ref a0, v1, v2, v3, v4, v5] st u P = zr 149 80 [.ref a0, v1, v2, v3, v4, v5] (.ref a0 :: st) u P := zr_Al k149_79 rfl
theorem k149_80 : xcd 149 80 = oI 3 81 := rfl
theorem r149_80 : zr 149 80 [v0, v1, v2, v3, v4, v5] st u P = zr 149 81 [v0, v1, v2, v3, v4, v5] (.int 3 :: st) u P := zr_I k149_80
theorem k149_81 : xcd 149 81 = oCalV 10 154 1 84 := rfl
theorem r149_81 : zr 149 81 [v0, v1, v2, v3, v4, v5] (.int y1 :: .ref b8 :: st) u P = ((xIs u b8 10 ∧ xcat st ≤ 8) ∧ zr 154 0 [.ref b8, .int y1] [] u (fun r u2 => zr 149 84 [v0, v1, v2, v3, v4, v5] (r.toList ++ st) u2 P)) := zr_CV k149_81 rfl rfl rfl ⟨Nat.le_of_ble_eq_true rfl, Nat.succ_ne_zero _, by decide⟩ rfl
theorem k149_84 : xcd 149 84 = oRi 0 := rfl
theorem r149_84 : zr 149 84 [v0, v1, v2, v3, v4, v5] [.int y1] u P = P (some (.int y1)) u := zr_Ri k149_84
theorem k149_85 : xcd 149 85 = oAl 5 87 := rfl
theorem r149_85 : zr 149 85 [v0, v1, v2, v3, v4, .ref a5] st u P = zr 149 87 [v0, v1, v2, v3, v4, .ref a5] (.ref a5 :: st) u P := zr_Al k149_85 rfl
theorem k149_87 : xcd 149 87 = oIl 1 88 := rfl
theorem r149_87 : zr 149 87 [v0, .int x1, v2, v3, v4, v5] st u P = zr 149 88 [v0, .int x1, v2, v3, v4, v5] (.int x1 :: st) u P := zr_Il k149_87 rfl
theorem k149_88 : xcd 149 88 = oIl 2 89 := rfl
theorem r149_88 : zr 149 88 [v0, v1, .int x2, v3, v4, v5] st u P = zr 149 89 [v0, v1, .int x2, v3, v4, v5] (.int x2 :: st) u P := zr_Il k149_88 rfl
theorem k149_89 : xcd 149 89 = oIl 3 90 := rfl
theorem r149_89 : zr 149 89 [v0, v1, v2, .int x3, v4, v5] st u P = zr 149 90 [v0, v1, v2, .int x3, v4, v5] (.int x3 :: st) u P := zr_Il k149_89 rfl
theorem k149_90 : xcd 149 90 = oIl 4 92 := rfl
theorem r149_90 : zr 149 90 [v0, v1, v2, v3, .int x4, v5] st u P = zr 149 92 [v0, v1, v2, v3, .int x4, v5] (.int x4 :: st) u P := zr_Il k149_90 rfl
theorem k149_92 : xcd 149 92 = oCalV 6 65 4 95 := rfl
theorem r149_92 : zr 149 92 [v0, v1, v2, v3, v4, v5] (.int y4 :: .int y3 :: .int y2 :: .int y1 :: .ref b8 :: st) u P = ((xIs u b8 6 ∧ xcat st ≤ 8) ∧ zr 65 0 [.ref b8, .int y1, .int y2, .int y3, .int y4] [] u (fun r u2 => zr 149 95 [v0, v1, v2, v3, v4, v5] (r.toList ++ st) u2 P)) := zr_CV k149_92 rfl rfl rfl ⟨Nat.le_of_ble_eq_true rfl, Nat.succ_ne_zero _, by decide⟩ rfl
theorem k149_95 : xcd 149 95 = oAl 0 96 := rfl
theorem r149_95 : zr 149 95 [.ref a0, v1, v2, v3, v4, v5] st u P = zr 149 96 [.ref a0, v1, v2, v3, v4, v5] (.ref a0 :: st) u P := zr_Al k149_95 rfl
theorem k149_96 : xcd 149 96 = oGR 10 4 99 := rfl
theorem r149_96 : zr 149 96 [v0, v1, v2, v3, v4, v5] (.ref b1 :: st) u P = (xIs u b1 10 ∧ ∃ b, xR u b1 4 = some b ∧ zr 149 99 [v0, v1, v2, v3, v4, v5] (.ref b :: st) u P) := zr_GR k149_96
theorem k149_99 : xcd 149 99 = oI 4 100 := rfl
theorem r149_99 : zr 149 99 [v0, v1, v2, v3, v4, v5] st u P = zr 149 100 [v0, v1, v2, v3, v4, v5] (.int 4 :: st) u P := zr_I k149_99
theorem k149_100 : xcd 149 100 = oI 0 101 := rfl
theorem r149_100 : zr 149 100 [v0, v1, v2, v3, v4, v5] st u P = zr 149 101 [v0, v1, v2, v3, v4, v5] (.int 0 :: st) u P := zr_I k149_100
theorem k149_101 : xcd 149 101 = oI 0 102 := rfl
theorem r149_101 : zr 149 101 [v0, v1, v2, v3, v4, v5] st u P = zr 149 102 [v0, v1, v2, v3, v4, v5] (.int 0 :: st) u P := zr_I k149_101
theorem k149_102 : xcd 149 102 = oCalV 0 4 3 105 := rfl
theorem r149_102 : zr 149 102 [v0, v1, v2, v3, v4, v5] (.int y3 :: .int y2 :: .int y1 :: .ref b8 :: st) u P = ((xIs u b8 0 ∧ xcat st ≤ 8) ∧ zr 4 0 [.ref b8, .int y1, .int y2, .int y3] [] u (fun r u2 => zr 149 105 [v0, v1, v2, v3, v4, v5] (r.toList ++ st) u2 P)) := zr_CV k149_102 rfl rfl rfl ⟨Nat.le_of_ble_eq_true rfl, Nat.succ_ne_zero _, by decide⟩ rfl
theorem k149_105 : xcd 149 105 = oAl 0 106 := rfl
theorem r149_105 : zr 149 105 [.ref a0, v1, v2, v3, v4, v5] st u P = zr 149 106 [.ref a0, v1, v2, v3, v4, v5] (.ref a0 :: st) u P := zr_Al k149_105 rfl
theorem k149_106 : xcd 149 106 = oAl 5 108 := rfl
theorem r149_106 : zr 149 106 [v0, v1, v2, v3, v4, .ref a5] st u P = zr 149 108 [v0, v1, v2, v3, v4, .ref a5] (.ref a5 :: st) u P := zr_Al k149_106 rfl
theorem k149_108 : xcd 149 108 = oGI 6 0 111 := rfl
theorem r149_108 : zr 149 108 [v0, v1, v2, v3, v4, v5] (.ref b1 :: st) u P = (xIs u b1 6 ∧ zr 149 111 [v0, v1, v2, v3, v4, v5] (.int (xI u b1 0) :: st) u P) := zr_GI k149_108
theorem k149_111 : xcd 149 111 = oCalV 10 153 1 114 := rfl
theorem r149_111 : zr 149 111 [v0, v1, v2, v3, v4, v5] (.int y1 :: .ref b8 :: st) u P = ((xIs u b8 10 ∧ xcat st ≤ 8) ∧ zr 153 0 [.ref b8, .int y1] [] u (fun r u2 => zr 149 114 [v0, v1, v2, v3, v4, v5] (r.toList ++ st) u2 P)) := zr_CV k149_111 rfl rfl rfl ⟨Nat.le_of_ble_eq_true rfl, Nat.succ_ne_zero _, by decide⟩ rfl
theorem k149_114 : xcd 149 114 = oRi 0 := rfl
theorem r149_114 : zr 149 114 [v0, v1, v2, v3, v4, v5] [.int y1] u P = P (some (.int y1)) u := zr_Ri k149_114
theorem k150_0 : xcd 150 0 = oAl 0 1 := rfl
theorem r150_0 : zr 150 0 [.ref a0] st u P = zr 150 1 [.ref a0] (.ref a0 :: st) u P := zr_Al k150_0 rfl
theorem k150_1 : xcd 150 1 = oGI 10 2 4 := rfl
theorem r150_1 : zr 150 1 [v0] (.ref b1 :: st) u P = (xIs u b1 10 ∧ zr 150 4 [v0] (.int (xI u b1 2) :: st) u P) := zr_GI k150_1
theorem k150_4 : xcd 150 4 = oIf (fun x => decide (x = 0)) 17 7 := rfl
theorem r150_4 : zr 150 4 [v0] (.int y1 :: st) u P = (if y1 = 0 then zr 150 17 [v0] st u P else zr 150 7 [v0] st u P) := zr_If k150_4
theorem k150_7 : xcd 150 7 = oAl 0 8 := rfl
theorem r150_7 : zr 150 7 [.ref a0] st u P = zr 150 8 [.ref a0] (.ref a0 :: st) u P := zr_Al k150_7 rfl
theorem k150_8 : xcd 150 8 = oGR 10 4 11 := rfl
theorem r150_8 : zr 150 8 [v0] (.ref b1 :: st) u P = (xIs u b1 10 ∧ ∃ b, xR u b1 4 = some b ∧ zr 150 11 [v0] (.ref b :: st) u P) := zr_GR k150_8
theorem k150_11 : xcd 150 11 = oGI 0 0 14 := rfl
theorem r150_11 : zr 150 11 [v0] (.ref b1 :: st) u P = (xIs u b1 0 ∧ zr 150 14 [v0] (.int (xI u b1 0) :: st) u P) := zr_GI k150_11
theorem k150_14 : xcd 150 14 = oIf (fun x => decide (¬ x = 0)) 24 17 := rfl
theorem r150_14 : zr 150 14 [v0] (.int y1 :: st) u P = (if ¬ y1 = 0 then zr 150 24 [v0] st u P else zr 150 17 [v0] st u P) := zr_If k150_14
theorem k150_17 : xcd 150 17 = oAl 0 18 := rfl
theorem r150_17 : zr 150 17 [.ref a0] st u P = zr 150 18 [.ref a0] (.ref a0 :: st) u P := zr_Al k150_17 rfl
theorem k150_18 : xcd 150 18 = oI 1 19 := rfl
theorem r150_18 : zr 150 18 [v0] st u P = zr 150 19 [v0] (.int 1 :: st) u P := zr_I k150_18
theorem k150_19 : xcd 150 19 = oPI 10 6 22 := rfl
theorem r150_19 : zr 150 19 [v0] (.int y1 :: .ref b1 :: st) u P = (xIs u b1 10 ∧ zr 150 22 [v0] st (xsI u b1 6 y1) P) := zr_PI k150_19
theorem k150_22 : xcd 150 22 = oI 0 23 := rfl
theorem r150_22 : zr 150 22 [v0] st u P = zr 150 23 [v0] (.int 0 :: st) u P := zr_I k150_22
theorem k150_23 : xcd 150 23 = oRz 0 := rfl
theorem r150_23 : zr 150 23 [v0] [.int y1] u P = ((y1 = 0 ∨ y1 = 1) ∧ P (some (.int y1)) u) := zr_Rz k150_23
theorem k150_24 : xcd 150 24 = oAl 0 25 := rfl
theorem r150_24 : zr 150 24 [.ref a0] st u P = zr 150 25 [.ref a0] (.ref a0 :: st) u P := zr_Al k150_24 rfl
theorem k150_25 : xcd 150 25 = oAl 0 26 := rfl
theorem r150_25 : zr 150 25 [.ref a0] st u P = zr 150 26 [.ref a0] (.ref a0 :: st) u P := zr_Al k150_25 rfl
theorem k150_26 : xcd 150 26 = oGR 10 4 29 := rfl
theorem r150_26 : zr 150 26 [v0] (.ref b1 :: st) u P = (xIs u b1 10 ∧ ∃ b, xR u b1 4 = some b ∧ zr 150 29 [v0] (.ref b :: st) u P) := zr_GR k150_26
theorem k150_29 : xcd 150 29 = oGI 0 0 32 := rfl
theorem r150_29 : zr 150 29 [v0] (.ref b1 :: st) u P = (xIs u b1 0 ∧ zr 150 32 [v0] (.int (xI u b1 0) :: st) u P) := zr_GI k150_29
theorem k150_32 : xcd 150 32 = oI 1 33 := rfl
theorem r150_32 : zr 150 32 [v0] st u P = zr 150 33 [v0] (.int 1 :: st) u P := zr_I k150_32
theorem k150_33 : xcd 150 33 = oB (fun x y => x - y) 34 := rfl
theorem r150_33 : zr 150 33 [v0] (.int y1 :: .int y2 :: st) u P = zr 150 34 [v0] (.int (y2 - y1) :: st) u P := zr_B k150_33
theorem k150_34 : xcd 150 34 = oCalV 10 169 1 37 := rfl
theorem r150_34 : zr 150 34 [v0] (.int y1 :: .ref b8 :: st) u P = ((xIs u b8 10 ∧ xcat st ≤ 8) ∧ zr 169 0 [.ref b8, .int y1] [] u (fun r u2 => zr 150 37 [v0] (r.toList ++ st) u2 P)) := zr_CV k150_34 rfl rfl rfl ⟨Nat.le_of_ble_eq_true rfl, Nat.succ_ne_zero _, by decide⟩ rfl
theorem k150_37 : xcd 150 37 = oAl 0 38 := rfl
theorem r150_37 : zr 150 37 [.ref a0] st u P = zr 150 38 [.ref a0] (.ref a0 :: st) u P := zr_Al k150_37 rfl
theorem k150_38 : xcd 150 38 = oGR 10 4 41 := rfl
theorem r150_38 : zr 150 38 [v0] (.ref b1 :: st) u P = (xIs u b1 10 ∧ ∃ b, xR u b1 4 = some b ∧ zr 150 41 [v0] (.ref b :: st) u P) := zr_GR k150_38
theorem k150_41 : xcd 150 41 = oDup 42 := rfl
theorem r150_41 : zr 150 41 [v0] (.ref b1 :: st) u P = zr 150 42 [v0] (.ref b1 :: .ref b1 :: st) u P := zr_DupA k150_41
theorem k150_42 : xcd 150 42 = oGI 0 0 45 := rfl
theorem r150_42 : zr 150 42 [v0] (.ref b1 :: st) u P = (xIs u b1 0 ∧ zr 150 45 [v0] (.int (xI u b1 0) :: st) u P) := zr_GI k150_42
theorem k150_45 : xcd 150 45 = oI 1 46 := rfl
theorem r150_45 : zr 150 45 [v0] st u P = zr 150 46 [v0] (.int 1 :: st) u P := zr_I k150_45
theorem k150_46 : xcd 150 46 = oB (fun x y => x - y) 47 := rfl
theorem r150_46 : zr 150 46 [v0] (.int y1 :: .int y2 :: st) u P = zr 150 47 [v0] (.int (y2 - y1) :: st) u P := zr_B k150_46
theorem k150_47 : xcd 150 47 = oPI 0 0 50 := rfl
theorem r150_47 : zr 150 47 [v0] (.int y1 :: .ref b1 :: st) u P = (xIs u b1 0 ∧ zr 150 50 [v0] st (xsI u b1 0 y1) P) := zr_PI k150_47
theorem k150_50 : xcd 150 50 = oAl 0 51 := rfl
theorem r150_50 : zr 150 50 [.ref a0] st u P = zr 150 51 [.ref a0] (.ref a0 :: st) u P := zr_Al k150_50 rfl
theorem k150_51 : xcd 150 51 = oI 0 52 := rfl
theorem r150_51 : zr 150 51 [v0] st u P = zr 150 52 [v0] (.int 0 :: st) u P := zr_I k150_51
theorem k150_52 : xcd 150 52 = oPI 10 6 55 := rfl
theorem r150_52 : zr 150 52 [v0] (.int y1 :: .ref b1 :: st) u P = (xIs u b1 10 ∧ zr 150 55 [v0] st (xsI u b1 6 y1) P) := zr_PI k150_52
theorem k150_55 : xcd 150 55 = oI 1 56 := rfl
theorem r150_55 : zr 150 55 [v0] st u P = zr 150 56 [v0] (.int 1 :: st) u P := zr_I k150_55
theorem k150_56 : xcd 150 56 = oRz 0 := rfl
theorem r150_56 : zr 150 56 [v0] [.int y1] u P = ((y1 = 0 ∨ y1 = 1) ∧ P (some (.int y1)) u) := zr_Rz k150_56
theorem k151_0 : xcd 151 0 = oIl 1 1 := rfl
theorem r151_0 : zr 151 0 [v0, .int x1] st u P = zr 151 1 [v0, .int x1] (.int x1 :: st) u P := zr_Il k151_0 rfl
theorem k151_1 : xcd 151 1 = oSw [28, 39, 47] 55 := rfl
theorem r151_1 : zr 151 1 [v0, v1] (.int y1 :: st) u P = zr 151 (if y1 < 0 ∨ 3 ≤ y1 then 55 else [28, 39, 47].getD y1.toNatClampNeg 55) [v0, v1] st u P := zr_Sw k151_1
theorem k151_28 : xcd 151 28 = oAl 0 29 := rfl
theorem r151_28 : zr 151 28 [.ref a0, v1] st u P = zr 151 29 [.ref a0, v1] (.ref a0 :: st) u P := zr_Al k151_28 rfl
theorem k151_29 : xcd 151 29 = oGR 10 0 32 := rfl
theorem r151_29 : zr 151 29 [v0, v1] (.ref b1 :: st) u P = (xIs u b1 10 ∧ ∃ b, xR u b1 0 = some b ∧ zr 151 32 [v0, v1] (.ref b :: st) u P) := zr_GR k151_29
theorem k151_32 : xcd 151 32 = oGR 7 0 35 := rfl
theorem r151_32 : zr 151 32 [v0, v1] (.ref b1 :: st) u P = (xIs u b1 7 ∧ ∃ b, xR u b1 0 = some b ∧ zr 151 35 [v0, v1] (.ref b :: st) u P) := zr_GR k151_32
theorem k151_35 : xcd 151 35 = oGI 8 1 38 := rfl
theorem r151_35 : zr 151 35 [v0, v1] (.ref b1 :: st) u P = (xIs u b1 8 ∧ zr 151 38 [v0, v1] (.int (xI u b1 1) :: st) u P) := zr_GI k151_35
theorem k151_38 : xcd 151 38 = oRi 0 := rfl
theorem r151_38 : zr 151 38 [v0, v1] [.int y1] u P = P (some (.int y1)) u := zr_Ri k151_38
theorem k151_39 : xcd 151 39 = oAl 0 40 := rfl
theorem r151_39 : zr 151 39 [.ref a0, v1] st u P = zr 151 40 [.ref a0, v1] (.ref a0 :: st) u P := zr_Al k151_39 rfl
theorem k151_40 : xcd 151 40 = oGR 10 4 43 := rfl
theorem r151_40 : zr 151 40 [v0, v1] (.ref b1 :: st) u P = (xIs u b1 10 ∧ ∃ b, xR u b1 4 = some b ∧ zr 151 43 [v0, v1] (.ref b :: st) u P) := zr_GR k151_40
theorem k151_43 : xcd 151 43 = oGI 0 0 46 := rfl
theorem r151_43 : zr 151 43 [v0, v1] (.ref b1 :: st) u P = (xIs u b1 0 ∧ zr 151 46 [v0, v1] (.int (xI u b1 0) :: st) u P) := zr_GI k151_43
theorem k151_46 : xcd 151 46 = oRi 0 := rfl
theorem r151_46 : zr 151 46 [v0, v1] [.int y1] u P = P (some (.int y1)) u := zr_Ri k151_46
theorem k151_47 : xcd 151 47 = oAl 0 48 := rfl
theorem r151_47 : zr 151 47 [.ref a0, v1] st u P = zr 151 48 [.ref a0, v1] (.ref a0 :: st) u P := zr_Al k151_47 rfl
theorem k151_48 : xcd 151 48 = oGR 10 3 51 := rfl
theorem r151_48 : zr 151 48 [v0, v1] (.ref b1 :: st) u P = (xIs u b1 10 ∧ ∃ b, xR u b1 3 = some b ∧ zr 151 51 [v0, v1] (.ref b :: st) u P) := zr_GR k151_48
theorem k151_51 : xcd 151 51 = oCalV 1 8 0 54 := rfl
theorem r151_51 : zr 151 51 [v0, v1] (.ref b8 :: st) u P = ((xIs u b8 1 ∧ xcat st ≤ 8) ∧ zr 8 0 [.ref b8, .null, .null] [] u (fun r u2 => zr 151 54 [v0, v1] (r.toList ++ st) u2 P)) := zr_CV k151_51 rfl rfl rfl ⟨Nat.le_of_ble_eq_true rfl, Nat.succ_ne_zero _, by decide⟩ rfl
theorem k151_54 : xcd 151 54 = oRi 0 := rfl
theorem r151_54 : zr 151 54 [v0, v1] [.int y1] u P = P (some (.int y1)) u := zr_Ri k151_54
theorem k151_55 : xcd 151 55 = oI (-1) 56 := rfl
theorem r151_55 : zr 151 55 [v0, v1] st u P = zr 151 56 [v0, v1] (.int (-1) :: st) u P := zr_I k151_55
theorem k151_56 : xcd 151 56 = oRi 0 := rfl
theorem r151_56 : zr 151 56 [v0, v1] [.int y1] u P = P (some (.int y1)) u := zr_Ri k151_56
theorem k152_0 : xcd 152 0 = oAl 0 1 := rfl
theorem r152_0 : zr 152 0 [.ref a0] st u P = zr 152 1 [.ref a0] (.ref a0 :: st) u P := zr_Al k152_0 rfl
theorem k152_1 : xcd 152 1 = oGI 10 6 4 := rfl
theorem r152_1 : zr 152 1 [v0] (.ref b1 :: st) u P = (xIs u b1 10 ∧ zr 152 4 [v0] (.int (xI u b1 6) :: st) u P) := zr_GI k152_1
theorem k152_4 : xcd 152 4 = oRi 0 := rfl
theorem r152_4 : zr 152 4 [v0] [.int y1] u P = P (some (.int y1)) u := zr_Ri k152_4
theorem k153_0 : xcd 153 0 = oAl 0 1 := rfl
theorem r153_0 : zr 153 0 [.ref a0, v1] st u P = zr 153 1 [.ref a0, v1] (.ref a0 :: st) u P := zr_Al k153_0 rfl
theorem k153_1 : xcd 153 1 = oI 0 2 := rfl
theorem r153_1 : zr 153 1 [v0, v1] st u P = zr 153 2 [v0, v1] (.int 0 :: st) u P := zr_I k153_1
theorem k153_2 : xcd 153 2 = oPI 10 6 5 := rfl
theorem r153_2 : zr 153 2 [v0, v1] (.int y1 :: .ref b1 :: st) u P = (xIs u b1 10 ∧ zr 153 5 [v0, v1] st (xsI u b1 6 y1) P) := zr_PI k153_2
theorem k153_5 : xcd 153 5 = oIl 1 6 := rfl
theorem r153_5 : zr 153 5 [v0, .int x1] st u P = zr 153 6 [v0, .int x1] (.int x1 :: st) u P := zr_Il k153_5 rfl
theorem k153_6 : xcd 153 6 = oRi 0 := rfl
theorem r153_6 : zr 153 6 [v0, v1] [.int y1] u P = P (some (.int y1)) u := zr_Ri k153_6
theorem k154_0 : xcd 154 0 = oAl 0 1 := rfl
theorem r154_0 : zr 154 0 [.ref a0, v1] st u P = zr 154 1 [.ref a0, v1] (.ref a0 :: st) u P := zr_Al k154_0 rfl
theorem k154_1 : xcd 154 1 = oIl 1 2 := rfl
theorem r154_1 : zr 154 1 [v0, .int x1] st u P = zr 154 2 [v0, .int x1] (.int x1 :: st) u P := zr_Il k154_1 rfl
theorem k154_2 : xcd 154 2 = oPI 10 6 5 := rfl
theorem r154_2 : zr 154 2 [v0, v1] (.int y1 :: .ref b1 :: st) u P = (xIs u b1 10 ∧ zr 154 5 [v0, v1] st (xsI u b1 6 y1) P) := zr_PI k154_2
theorem k154_5 : xcd 154 5 = oI (-1) 6 := rfl
theorem r154_5 : zr 154 5 [v0, v1] st u P = zr 154 6 [v0, v1] (.int (-1) :: st) u P := zr_I k154_5
theorem k154_6 : xcd 154 6 = oRi 0 := rfl
theorem r154_6 : zr 154 6 [v0, v1] [.int y1] u P = P (some (.int y1)) u := zr_Ri k154_6
theorem k155_0 : xcd 155 0 = oAl 0 1 := rfl
theorem r155_0 : zr 155 0 [.ref a0, v1] st u P = zr 155 1 [.ref a0, v1] (.ref a0 :: st) u P := zr_Al k155_0 rfl
theorem k155_1 : xcd 155 1 = oIl 1 2 := rfl
theorem r155_1 : zr 155 1 [v0, .int x1] st u P = zr 155 2 [v0, .int x1] (.int x1 :: st) u P := zr_Il k155_1 rfl
theorem k155_2 : xcd 155 2 = oPI 10 6 5 := rfl
theorem r155_2 : zr 155 2 [v0, v1] (.int y1 :: .ref b1 :: st) u P = (xIs u b1 10 ∧ zr 155 5 [v0, v1] st (xsI u b1 6 y1) P) := zr_PI k155_2
theorem k155_5 : xcd 155 5 = oI (-2147483648) 8 := rfl
theorem r155_5 : zr 155 5 [v0, v1] st u P = zr 155 8 [v0, v1] (.int (-2147483648) :: st) u P := zr_I k155_5
theorem k155_8 : xcd 155 8 = oRi 0 := rfl
theorem r155_8 : zr 155 8 [v0, v1] [.int y1] u P = P (some (.int y1)) u := zr_Ri k155_8
theorem k156_0 : xcd 156 0 = oAl 0 1 := rfl
theorem r156_0 : zr 156 0 [.ref a0, v1] st u P = zr 156 1 [.ref a0, v1] (.ref a0 :: st) u P := zr_Al k156_0 rfl
theorem k156_1 : xcd 156 1 = oGI 10 2 4 := rfl
theorem r156_1 : zr 156 1 [v0, v1] (.ref b1 :: st) u P = (xIs u b1 10 ∧ zr 156 4 [v0, v1] (.int (xI u b1 2) :: st) u P) := zr_GI k156_1
theorem k156_4 : xcd 156 4 = oIf (fun x => decide (x = 0)) 31 7 := rfl
theorem r156_4 : zr 156 4 [v0, v1] (.int y1 :: st) u P = (if y1 = 0 then zr 156 31 [v0, v1] st u P else zr 156 7 [v0, v1] st u P) := zr_If k156_4
theorem k156_7 : xcd 156 7 = oIl 1 8 := rfl
theorem r156_7 : zr 156 7 [v0, .int x1] st u P = zr 156 8 [v0, .int x1] (.int x1 :: st) u P := zr_Il k156_7 rfl
theorem k156_8 : xcd 156 8 = oI 0 9 := rfl
theorem r156_8 : zr 156 8 [v0, v1] st u P = zr 156 9 [v0, v1] (.int 0 :: st) u P := zr_I k156_8
theorem k156_9 : xcd 156 9 = oAl 0 10 := rfl
theorem r156_9 : zr 156 9 [.ref a0, v1] st u P = zr 156 10 [.ref a0, v1] (.ref a0 :: st) u P := zr_Al k156_9 rfl
theorem k156_10 : xcd 156 10 = oGR 10 1 13 := rfl
theorem r156_10 : zr 156 10 [v0, v1] (.ref b1 :: st) u P = (xIs u b1 10 ∧ ∃ b, xR u b1 1 = some b ∧ zr 156 13 [v0, v1] (.ref b :: st) u P) := zr_GR k156_10
theorem k156_13 : xcd 156 13 = oGR 3 0 16 := rfl
theorem r156_13 : zr 156 13 [v0, v1] (.ref b1 :: st) u P = (xIs u b1 3 ∧ ∃ b, xR u b1 0 = some b ∧ zr 156 16 [v0, v1] (.ref b :: st) u P) := zr_GR k156_13
theorem k156_16 : xcd 156 16 = oGI 4 2 19 := rfl
theorem r156_16 : zr 156 16 [v0, v1] (.ref b1 :: st) u P = (xIs u b1 4 ∧ zr 156 19 [v0, v1] (.int (xI u b1 2) :: st) u P) := zr_GI k156_16
theorem k156_19 : xcd 156 19 = oI 1 20 := rfl
theorem r156_19 : zr 156 19 [v0, v1] st u P = zr 156 20 [v0, v1] (.int 1 :: st) u P := zr_I k156_19
theorem k156_20 : xcd 156 20 = oB (fun x y => x - y) 21 := rfl
theorem r156_20 : zr 156 20 [v0, v1] (.int y1 :: .int y2 :: st) u P = zr 156 21 [v0, v1] (.int (y2 - y1) :: st) u P := zr_B k156_20
theorem k156_21 : xcd 156 21 = oCal 164 3 24 := rfl
theorem r156_21 : zr 156 21 [v0, v1] (.int y3 :: .int y2 :: .int y1 :: st) u P = (xcat st ≤ 8 ∧ zr 164 0 [.int y1, .int y2, .int y3] [] u (fun r u2 => zr 156 24 [v0, v1] (r.toList ++ st) u2 P)) := zr_CS k156_21 (Nat.le_add_left _ _) rfl rfl ⟨Nat.le_of_ble_eq_true rfl, Nat.succ_ne_zero _, by decide⟩ rfl
theorem k156_24 : xcd 156 24 = oIf (fun x => decide (x = 0)) 31 27 := rfl
theorem r156_24 : zr 156 24 [v0, v1] (.int y1 :: st) u P = (if y1 = 0 then zr 156 31 [v0, v1] st u P else zr 156 27 [v0, v1] st u P) := zr_If k156_24
theorem k156_27 : xcd 156 27 = oI 1 28 := rfl
theorem r156_27 : zr 156 27 [v0, v1] st u P = zr 156 28 [v0, v1] (.int 1 :: st) u P := zr_I k156_27
theorem k156_28 : xcd 156 28 = oGoto 32 := rfl
theorem r156_28 : zr 156 28 [v0, v1] st u P = zr 156 32 [v0, v1] st u P := zr_Goto k156_28
theorem k156_31 : xcd 156 31 = oI 0 32 := rfl
theorem r156_31 : zr 156 31 [v0, v1] st u P = zr 156 32 [v0, v1] (.int 0 :: st) u P := zr_I k156_31
theorem k156_32 : xcd 156 32 = oRz 0 := rfl
theorem r156_32 : zr 156 32 [v0, v1] [.int y1] u P = ((y1 = 0 ∨ y1 = 1) ∧ P (some (.int y1)) u) := zr_Rz k156_32
theorem k157_0 : xcd 157 0 = oAl 0 1 := rfl
theorem r157_0 : zr 157 0 [.ref a0, v1] st u P = zr 157 1 [.ref a0, v1] (.ref a0 :: st) u P := zr_Al k157_0 rfl
theorem k157_1 : xcd 157 1 = oGI 10 2 4 := rfl
theorem r157_1 : zr 157 1 [v0, v1] (.ref b1 :: st) u P = (xIs u b1 10 ∧ zr 157 4 [v0, v1] (.int (xI u b1 2) :: st) u P) := zr_GI k157_1
theorem k157_4 : xcd 157 4 = oIf (fun x => decide (x = 0)) 31 7 := rfl
theorem r157_4 : zr 157 4 [v0, v1] (.int y1 :: st) u P = (if y1 = 0 then zr 157 31 [v0, v1] st u P else zr 157 7 [v0, v1] st u P) := zr_If k157_4
theorem k157_7 : xcd 157 7 = oIl 1 8 := rfl
theorem r157_7 : zr 157 7 [v0, .int x1] st u P = zr 157 8 [v0, .int x1] (.int x1 :: st) u P := zr_Il k157_7 rfl
theorem k157_8 : xcd 157 8 = oI (-1) 9 := rfl
theorem r157_8 : zr 157 8 [v0, v1] st u P = zr 157 9 [v0, v1] (.int (-1) :: st) u P := zr_I k157_8
theorem k157_9 : xcd 157 9 = oAl 0 10 := rfl
theorem r157_9 : zr 157 9 [.ref a0, v1] st u P = zr 157 10 [.ref a0, v1] (.ref a0 :: st) u P := zr_Al k157_9 rfl
theorem k157_10 : xcd 157 10 = oGR 10 1 13 := rfl
theorem r157_10 : zr 157 10 [v0, v1] (.ref b1 :: st) u P = (xIs u b1 10 ∧ ∃ b, xR u b1 1 = some b ∧ zr 157 13 [v0, v1] (.ref b :: st) u P) := zr_GR k157_10
theorem k157_13 : xcd 157 13 = oGR 3 0 16 := rfl
theorem r157_13 : zr 157 13 [v0, v1] (.ref b1 :: st) u P = (xIs u b1 3 ∧ ∃ b, xR u b1 0 = some b ∧ zr 157 16 [v0, v1] (.ref b :: st) u P) := zr_GR k157_13
theorem k157_16 : xcd 157 16 = oGI 4 2 19 := rfl
theorem r157_16 : zr 157 16 [v0, v1] (.ref b1 :: st) u P = (xIs u b1 4 ∧ zr 157 19 [v0, v1] (.int (xI u b1 2) :: st) u P) := zr_GI k157_16
theorem k157_19 : xcd 157 19 = oI 1 20 := rfl
theorem r157_19 : zr 157 19 [v0, v1] st u P = zr 157 20 [v0, v1] (.int 1 :: st) u P := zr_I k157_19
theorem k157_20 : xcd 157 20 = oB (fun x y => x - y) 21 := rfl
theorem r157_20 : zr 157 20 [v0, v1] (.int y1 :: .int y2 :: st) u P = zr 157 21 [v0, v1] (.int (y2 - y1) :: st) u P := zr_B k157_20
theorem k157_21 : xcd 157 21 = oCal 164 3 24 := rfl
theorem r157_21 : zr 157 21 [v0, v1] (.int y3 :: .int y2 :: .int y1 :: st) u P = (xcat st ≤ 8 ∧ zr 164 0 [.int y1, .int y2, .int y3] [] u (fun r u2 => zr 157 24 [v0, v1] (r.toList ++ st) u2 P)) := zr_CS k157_21 (Nat.le_add_left _ _) rfl rfl ⟨Nat.le_of_ble_eq_true rfl, Nat.succ_ne_zero _, by decide⟩ rfl
theorem k157_24 : xcd 157 24 = oIf (fun x => decide (x = 0)) 31 27 := rfl
theorem r157_24 : zr 157 24 [v0, v1] (.int y1 :: st) u P = (if y1 = 0 then zr 157 31 [v0, v1] st u P else zr 157 27 [v0, v1] st u P) := zr_If k157_24
theorem k157_27 : xcd 157 27 = oI 1 28 := rfl
theorem r157_27 : zr 157 27 [v0, v1] st u P = zr 157 28 [v0, v1] (.int 1 :: st) u P := zr_I k157_27
theorem k157_28 : xcd 157 28 = oGoto 32 := rfl
theorem r157_28 : zr 157 28 [v0, v1] st u P = zr 157 32 [v0, v1] st u P := zr_Goto k157_28
theorem k157_31 : xcd 157 31 = oI 0 32 := rfl
theorem r157_31 : zr 157 31 [v0, v1] st u P = zr 157 32 [v0, v1] (.int 0 :: st) u P := zr_I k157_31
theorem k157_32 : xcd 157 32 = oRz 0 := rfl
theorem r157_32 : zr 157 32 [v0, v1] [.int y1] u P = ((y1 = 0 ∨ y1 = 1) ∧ P (some (.int y1)) u) := zr_Rz k157_32
theorem k158_0 : xcd 158 0 = oAl 0 1 := rfl
theorem r158_0 : zr 158 0 [.ref a0, v1] st u P = zr 158 1 [.ref a0, v1] (.ref a0 :: st) u P := zr_Al k158_0 rfl
theorem k158_1 : xcd 158 1 = oGI 10 2 4 := rfl
theorem r158_1 : zr 158 1 [v0, v1] (.ref b1 :: st) u P = (xIs u b1 10 ∧ zr 158 4 [v0, v1] (.int (xI u b1 2) :: st) u P) := zr_GI k158_1
theorem k158_4 : xcd 158 4 = oIf (fun x => decide (x = 0)) 31 7 := rfl
theorem r158_4 : zr 158 4 [v0, v1] (.int y1 :: st) u P = (if y1 = 0 then zr 158 31 [v0, v1] st u P else zr 158 7 [v0, v1] st u P) := zr_If k158_4
theorem k158_7 : xcd 158 7 = oIl 1 8 := rfl
theorem r158_7 : zr 158 7 [v0, .int x1] st u P = zr 158 8 [v0, .int x1] (.int x1 :: st) u P := zr_Il k158_7 rfl
theorem k158_8 : xcd 158 8 = oI 0 9 := rfl
theorem r158_8 : zr 158 8 [v0, v1] st u P = zr 158 9 [v0, v1] (.int 0 :: st) u P := zr_I k158_8
theorem k158_9 : xcd 158 9 = oAl 0 10 := rfl
theorem r158_9 : zr 158 9 [.ref a0, v1] st u P = zr 158 10 [.ref a0, v1] (.ref a0 :: st) u P := zr_Al k158_9 rfl
theorem k158_10 : xcd 158 10 = oGR 10 1 13 := rfl
theorem r158_10 : zr 158 10 [v0, v1] (.ref b1 :: st) u P = (xIs u b1 10 ∧ ∃ b, xR u b1 1 = some b ∧ zr 158 13 [v0, v1] (.ref b :: st) u P) := zr_GR k158_10
theorem k158_13 : xcd 158 13 = oGR 3 1 16 := rfl
theorem r158_13 : zr 158 13 [v0, v1] (.ref b1 :: st) u P = (xIs u b1 3 ∧ ∃ b, xR u b1 1 = some b ∧ zr 158 16 [v0, v1] (.ref b :: st) u P) := zr_GR k158_13
theorem k158_16 : xcd 158 16 = oGI 9 0 19 := rfl
theorem r158_16 : zr 158 16 [v0, v1] (.ref b1 :: st) u P = (xIs u b1 9 ∧ zr 158 19 [v0, v1] (.int (xI u b1 0) :: st) u P) := zr_GI k158_16
theorem k158_19 : xcd 158 19 = oI 1 20 := rfl
theorem r158_19 : zr 158 19 [v0, v1] st u P = zr 158 20 [v0, v1] (.int 1 :: st) u P := zr_I k158_19
theorem k158_20 : xcd 158 20 = oB (fun x y => x - y) 21 := rfl
theorem r158_20 : zr 158 20 [v0, v1] (.int y1 :: .int y2 :: st) u P = zr 158 21 [v0, v1] (.int (y2 - y1) :: st) u P := zr_B k158_20
theorem k158_21 : xcd 158 21 = oCal 164 3 24 := rfl
theorem r158_21 : zr 158 21 [v0, v1] (.int y3 :: .int y2 :: .int y1 :: st) u P = (xcat st ≤ 8 ∧ zr 164 0 [.int y1, .int y2, .int y3] [] u (fun r u2 => zr 158 24 [v0, v1] (r.toList ++ st) u2 P)) := zr_CS k158_21 (Nat.le_add_left _ _) rfl rfl ⟨Nat.le_of_ble_eq_true rfl, Nat.succ_ne_zero _, by decide⟩ rfl
theorem k158_24 : xcd 158 24 = oIf (fun x => decide (x = 0)) 31 27 := rfl
theorem r158_24 : zr 158 24 [v0, v1] (.int y1 :: st) u P = (if y1 = 0 then zr 158 31 [v0, v1] st u P else zr 158 27 [v0, v1] st u P) := zr_If k158_24
theorem k158_27 : xcd 158 27 = oI 1 28 := rfl
theorem r158_27 : zr 158 27 [v0, v1] st u P = zr 158 28 [v0, v1] (.int 1 :: st) u P := zr_I k158_27
theorem k158_28 : xcd 158 28 = oGoto 32 := rfl
theorem r158_28 : zr 158 28 [v0, v1] st u P = zr 158 32 [v0, v1] st u P := zr_Goto k158_28
theorem k158_31 : xcd 158 31 = oI 0 32 := rfl
theorem r158_31 : zr 158 31 [v0, v1] st u P = zr 158 32 [v0, v1] (.int 0 :: st) u P := zr_I k158_31
theorem k158_32 : xcd 158 32 = oRz 0 := rfl
theorem r158_32 : zr 158 32 [v0, v1] [.int y1] u P = ((y1 = 0 ∨ y1 = 1) ∧ P (some (.int y1)) u) := zr_Rz k158_32
theorem k159_0 : xcd 159 0 = oAl 0 1 := rfl
theorem r159_0 : zr 159 0 [.ref a0, v1] st u P = zr 159 1 [.ref a0, v1] (.ref a0 :: st) u P := zr_Al k159_0 rfl
theorem k159_1 : xcd 159 1 = oGI 10 2 4 := rfl
theorem r159_1 : zr 159 1 [v0, v1] (.ref b1 :: st) u P = (xIs u b1 10 ∧ zr 159 4 [v0, v1] (.int (xI u b1 2) :: st) u P) := zr_GI k159_1
theorem k159_4 : xcd 159 4 = oIf (fun x => decide (x = 0)) 28 7 := rfl
theorem r159_4 : zr 159 4 [v0, v1] (.int y1 :: st) u P = (if y1 = 0 then zr 159 28 [v0, v1] st u P else zr 159 7 [v0, v1] st u P) := zr_If k159_4
theorem k159_7 : xcd 159 7 = oIl 1 8 := rfl
theorem r159_7 : zr 159 7 [v0, .int x1] st u P = zr 159 8 [v0, .int x1] (.int x1 :: st) u P := zr_Il k159_7 rfl
theorem k159_8 : xcd 159 8 = oI 0 9 := rfl
theorem r159_8 : zr 159 8 [v0, v1] st u P = zr 159 9 [v0, v1] (.int 0 :: st) u P := zr_I k159_8
theorem k159_9 : xcd 159 9 = oAl 0 10 := rfl
theorem r159_9 : zr 159 9 [.ref a0, v1] st u P = zr 159 10 [.ref a0, v1] (.ref a0 :: st) u P := zr_Al k159_9 rfl
theorem k159_10 : xcd 159 10 = oGR 10 3 13 := rfl
theorem r159_10 : zr 159 10 [v0, v1] (.ref b1 :: st) u P = (xIs u b1 10 ∧ ∃ b, xR u b1 3 = some b ∧ zr 159 13 [v0, v1] (.ref b :: st) u P) := zr_GR k159_10
theorem k159_13 : xcd 159 13 = oGI 1 0 16 := rfl
theorem r159_13 : zr 159 13 [v0, v1] (.ref b1 :: st) u P = (xIs u b1 1 ∧ zr 159 16 [v0, v1] (.int (xI u b1 0) :: st) u P) := zr_GI k159_13
theorem k159_16 : xcd 159 16 = oI 1 17 := rfl
theorem r159_16 : zr 159 16 [v0, v1] st u P = zr 159 17 [v0, v1] (.int 1 :: st) u P := zr_I k159_16
theorem k159_17 : xcd 159 17 = oB (fun x y => x - y) 18 := rfl
theorem r159_17 : zr 159 17 [v0, v1] (.int y1 :: .int y2 :: st) u P = zr 159 18 [v0, v1] (.int (y2 - y1) :: st) u P := zr_B k159_17
theorem k159_18 : xcd 159 18 = oCal 164 3 21 := rfl
theorem r159_18 : zr 159 18 [v0, v1] (.int y3 :: .int y2 :: .int y1 :: st) u P = (xcat st ≤ 8 ∧ zr 164 0 [.int y1, .int y2, .int y3] [] u (fun r u2 => zr 159 21 [v0, v1] (r.toList ++ st) u2 P)) := zr_CS k159_18 (Nat.le_add_left _ _) rfl rfl ⟨Nat.le_of_ble_eq_true rfl, Nat.succ_ne_zero _, by decide⟩ rfl
theorem k159_21 : xcd 159 21 = oIf (fun x => decide (x = 0)) 28 24 := rfl
theorem r159_21 : zr 159 21 [v0, v1] (.int y1 :: st) u P = (if y1 = 0 then zr 159 28 [v0, v1] st u P else zr 159 24 [v0, v1] st u P) := zr_If k159_21
theorem k159_24 : xcd 159 24 = oI 1 25 := rfl
theorem r159_24 : zr 159 24 [v0, v1] st u P = zr 159 25 [v0, v1] (.int 1 :: st) u P := zr_I k159_24
theorem k159_25 : xcd 159 25 = oGoto 29 := rfl
theorem r159_25 : zr 159 25 [v0, v1] st u P = zr 159 29 [v0, v1] st u P := zr_Goto k159_25
theorem k159_28 : xcd 159 28 = oI 0 29 := rfl
theorem r159_28 : zr 159 28 [v0, v1] st u P = zr 159 29 [v0, v1] (.int 0 :: st) u P := zr_I k159_28
theorem k159_29 : xcd 159 29 = oRz 0 := rfl
theorem r159_29 : zr 159 29 [v0, v1] [.int y1] u P = ((y1 = 0 ∨ y1 = 1) ∧ P (some (.int y1)) u) := zr_Rz k159_29
theorem k160_0 : xcd 160 0 = oAl 0 1 := rfl
theorem r160_0 : zr 160 0 [.ref a0, v1] st u P = zr 160 1 [.ref a0, v1] (.ref a0 :: st) u P := zr_Al k160_0 rfl
theorem k160_1 : xcd 160 1 = oGI 10 2 4 := rfl
theorem r160_1 : zr 160 1 [v0, v1] (.ref b1 :: st) u P = (xIs u b1 10 ∧ zr 160 4 [v0, v1] (.int (xI u b1 2) :: st) u P) := zr_GI k160_1
theorem k160_4 : xcd 160 4 = oIf (fun x => decide (x = 0)) 28 7 := rfl
theorem r160_4 : zr 160 4 [v0, v1] (.int y1 :: st) u P = (if y1 = 0 then zr 160 28 [v0, v1] st u P else zr 160 7 [v0, v1] st u P) := zr_If k160_4
theorem k160_7 : xcd 160 7 = oIl 1 8 := rfl
theorem r160_7 : zr 160 7 [v0, .int x1] st u P = zr 160 8 [v0, .int x1] (.int x1 :: st) u P := zr_Il k160_7 rfl
theorem k160_8 : xcd 160 8 = oI 0 9 := rfl
theorem r160_8 : zr 160 8 [v0, v1] st u P = zr 160 9 [v0, v1] (.int 0 :: st) u P := zr_I k160_8
theorem k160_9 : xcd 160 9 = oAl 0 10 := rfl
theorem r160_9 : zr 160 9 [.ref a0, v1] st u P = zr 160 10 [.ref a0, v1] (.ref a0 :: st) u P := zr_Al k160_9 rfl
theorem k160_10 : xcd 160 10 = oGR 10 3 13 := rfl
theorem r160_10 : zr 160 10 [v0, v1] (.ref b1 :: st) u P = (xIs u b1 10 ∧ ∃ b, xR u b1 3 = some b ∧ zr 160 13 [v0, v1] (.ref b :: st) u P) := zr_GR k160_10
theorem k160_13 : xcd 160 13 = oGI 1 2 16 := rfl
theorem r160_13 : zr 160 13 [v0, v1] (.ref b1 :: st) u P = (xIs u b1 1 ∧ zr 160 16 [v0, v1] (.int (xI u b1 2) :: st) u P) := zr_GI k160_13
theorem k160_16 : xcd 160 16 = oI 1 17 := rfl
theorem r160_16 : zr 160 16 [v0, v1] st u P = zr 160 17 [v0, v1] (.int 1 :: st) u P := zr_I k160_16
theorem k160_17 : xcd 160 17 = oB (fun x y => x - y) 18 := rfl
theorem r160_17 : zr 160 17 [v0, v1] (.int y1 :: .int y2 :: st) u P = zr 160 18 [v0, v1] (.int (y2 - y1) :: st) u P := zr_B k160_17
theorem k160_18 : xcd 160 18 = oCal 164 3 21 := rfl
theorem r160_18 : zr 160 18 [v0, v1] (.int y3 :: .int y2 :: .int y1 :: st) u P = (xcat st ≤ 8 ∧ zr 164 0 [.int y1, .int y2, .int y3] [] u (fun r u2 => zr 160 21 [v0, v1] (r.toList ++ st) u2 P)) := zr_CS k160_18 (Nat.le_add_left _ _) rfl rfl ⟨Nat.le_of_ble_eq_true rfl, Nat.succ_ne_zero _, by decide⟩ rfl
theorem k160_21 : xcd 160 21 = oIf (fun x => decide (x = 0)) 28 24 := rfl
theorem r160_21 : zr 160 21 [v0, v1] (.int y1 :: st) u P = (if y1 = 0 then zr 160 28 [v0, v1] st u P else zr 160 24 [v0, v1] st u P) := zr_If k160_21
theorem k160_24 : xcd 160 24 = oI 1 25 := rfl
theorem r160_24 : zr 160 24 [v0, v1] st u P = zr 160 25 [v0, v1] (.int 1 :: st) u P := zr_I k160_24
theorem k160_25 : xcd 160 25 = oGoto 29 := rfl
theorem r160_25 : zr 160 25 [v0, v1] st u P = zr 160 29 [v0, v1] st u P := zr_Goto k160_25
theorem k160_28 : xcd 160 28 = oI 0 29 := rfl
theorem r160_28 : zr 160 28 [v0, v1] st u P = zr 160 29 [v0, v1] (.int 0 :: st) u P := zr_I k160_28
theorem k160_29 : xcd 160 29 = oRz 0 := rfl
theorem r160_29 : zr 160 29 [v0, v1] [.int y1] u P = ((y1 = 0 ∨ y1 = 1) ∧ P (some (.int y1)) u) := zr_Rz k160_29
theorem k161_0 : xcd 161 0 = oIl 1 1 := rfl
theorem r161_0 : zr 161 0 [v0, .int x1, v2] st u P = zr 161 1 [v0, .int x1, v2] (.int x1 :: st) u P := zr_Il k161_0 rfl
theorem k161_1 : xcd 161 1 = oI 0 2 := rfl
theorem r161_1 : zr 161 1 [v0, v1, v2] st u P = zr 161 2 [v0, v1, v2] (.int 0 :: st) u P := zr_I k161_1
theorem k161_2 : xcd 161 2 = oAl 0 3 := rfl
theorem r161_2 : zr 161 2 [.ref a0, v1, v2] st u P = zr 161 3 [.ref a0, v1, v2] (.ref a0 :: st) u P := zr_Al k161_2 rfl
theorem k161_3 : xcd 161 3 = oGR 10 1 6 := rfl
theorem r161_3 : zr 161 3 [v0, v1, v2] (.ref b1 :: st) u P = (xIs u b1 10 ∧ ∃ b, xR u b1 1 = some b ∧ zr 161 6 [v0, v1, v2] (.ref b :: st) u P) := zr_GR k161_3
theorem k161_6 : xcd 161 6 = oGR 3 0 9 := rfl
theorem r161_6 : zr 161 6 [v0, v1, v2] (.ref b1 :: st) u P = (xIs u b1 3 ∧ ∃ b, xR u b1 0 = some b ∧ zr 161 9 [v0, v1, v2] (.ref b :: st) u P) := zr_GR k161_6
theorem k161_9 : xcd 161 9 = oGI 4 0 12 := rfl
theorem r161_9 : zr 161 9 [v0, v1, v2] (.ref b1 :: st) u P = (xIs u b1 4 ∧ zr 161 12 [v0, v1, v2] (.int (xI u b1 0) :: st) u P) := zr_GI k161_9
theorem k161_12 : xcd 161 12 = oCal 164 3 15 := rfl
theorem r161_12 : zr 161 12 [v0, v1, v2] (.int y3 :: .int y2 :: .int y1 :: st) u P = (xcat st ≤ 8 ∧ zr 164 0 [.int y1, .int y2, .int y3] [] u (fun r u2 => zr 161 15 [v0, v1, v2] (r.toList ++ st) u2 P)) := zr_CS k161_12 (Nat.le_add_left _ _) rfl rfl ⟨Nat.le_of_ble_eq_true rfl, Nat.succ_ne_zero _, by decide⟩ rfl
theorem k161_15 : xcd 161 15 = oIf (fun x => decide (x = 0)) 40 18 := rfl
theorem r161_15 : zr 161 15 [v0, v1, v2] (.int y1 :: st) u P = (if y1 = 0 then zr 161 40 [v0, v1, v2] st u P else zr 161 18 [v0, v1, v2] st u P) := zr_If k161_15
theorem k161_18 : xcd 161 18 = oIl 2 19 := rfl
theorem r161_18 : zr 161 18 [v0, v1, .int x2] st u P = zr 161 19 [v0, v1, .int x2] (.int x2 :: st) u P := zr_Il k161_18 rfl
theorem k161_19 : xcd 161 19 = oI 0 20 := rfl
theorem r161_19 : zr 161 19 [v0, v1, v2] st u P = zr 161 20 [v0, v1, v2] (.int 0 :: st) u P := zr_I k161_19
theorem k161_20 : xcd 161 20 = oAl 0 21 := rfl
theorem r161_20 : zr 161 20 [.ref a0, v1, v2] st u P = zr 161 21 [.ref a0, v1, v2] (.ref a0 :: st) u P := zr_Al k161_20 rfl
theorem k161_21 : xcd 161 21 = oGR 10 1 24 := rfl
theorem r161_21 : zr 161 21 [v0, v1, v2] (.ref b1 :: st) u P = (xIs u b1 10 ∧ ∃ b, xR u b1 1 = some b ∧ zr 161 24 [v0, v1, v2] (.ref b :: st) u P) := zr_GR k161_21
theorem k161_24 : xcd 161 24 = oGR 3 0 27 := rfl
theorem r161_24 : zr 161 24 [v0, v1, v2] (.ref b1 :: st) u P = (xIs u b1 3 ∧ ∃ b, xR u b1 0 = some b ∧ zr 161 27 [v0, v1, v2] (.ref b :: st) u P) := zr_GR k161_24
theorem k161_27 : xcd 161 27 = oGI 4 0 30 := rfl
theorem r161_27 : zr 161 27 [v0, v1, v2] (.ref b1 :: st) u P = (xIs u b1 4 ∧ zr 161 30 [v0, v1, v2] (.int (xI u b1 0) :: st) u P) := zr_GI k161_27
theorem k161_30 : xcd 161 30 = oCal 164 3 33 := rfl
theorem r161_30 : zr 161 30 [v0, v1, v2] (.int y3 :: .int y2 :: .int y1 :: st) u P = (xcat st ≤ 8 ∧ zr 164 0 [.int y1, .int y2, .int y3] [] u (fun r u2 => zr 161 33 [v0, v1, v2] (r.toList ++ st) u2 P)) := zr_CS k161_30 (Nat.le_add_left _ _) rfl rfl ⟨Nat.le_of_ble_eq_true rfl, Nat.succ_ne_zero _, by decide⟩ rfl
theorem k161_33 : xcd 161 33 = oIf (fun x => decide (x = 0)) 40 36 := rfl
theorem r161_33 : zr 161 33 [v0, v1, v2] (.int y1 :: st) u P = (if y1 = 0 then zr 161 40 [v0, v1, v2] st u P else zr 161 36 [v0, v1, v2] st u P) := zr_If k161_33
theorem k161_36 : xcd 161 36 = oI 1 37 := rfl
theorem r161_36 : zr 161 36 [v0, v1, v2] st u P = zr 161 37 [v0, v1, v2] (.int 1 :: st) u P := zr_I k161_36
theorem k161_37 : xcd 161 37 = oGoto 41 := rfl
theorem r161_37 : zr 161 37 [v0, v1, v2] st u P = zr 161 41 [v0, v1, v2] st u P := zr_Goto k161_37
theorem k161_40 : xcd 161 40 = oI 0 41 := rfl
theorem r161_40 : zr 161 40 [v0, v1, v2] st u P = zr 161 41 [v0, v1, v2] (.int 0 :: st) u P := zr_I k161_40
theorem k161_41 : xcd 161 41 = oRz 0 := rfl
theorem r161_41 : zr 161 41 [v0, v1, v2] [.int y1] u P = ((y1 = 0 ∨ y1 = 1) ∧ P (some (.int y1)) u) := zr_Rz k161_41
theorem k162_0 : xcd 162 0 = oIl 1 1 := rfl
theorem r162_0 : zr 162 0 [v0, .int x1, v2, v3, v4, v5] st u P = zr 162 1 [v0, .int x1, v2, v3, v4, v5] (.int x1 :: st) u P := zr_Il k162_0 rfl
theorem k162_1 : xcd 162 1 = oCal 163 1 4 := rfl
theorem r162_1 : zr 162 1 [v0, v1, v2, v3, v4, v5] (.int y1 :: st) u P = (xcat st ≤ 8 ∧ zr 163 0 [.int y1] [] u (fun r u2 => zr 162 4 [v0, v1, v2, v3, v4, v5] (r.toList ++ st) u2 P)) := zr_CS k162_1 (Nat.le_add_left _ _) rfl rfl ⟨Nat.le_of_ble_eq_true rfl, Nat.succ_ne_zero _, by decide⟩ rfl
theorem k162_4 : xcd 162 4 = oIf (fun x => decide (x = 0)) 43 7 := rfl
theorem r162_4 : zr 162 4 [v0, v1, v2, v3, v4, v5] (.int y1 :: st) u P = (if y1 = 0 then zr 162 43 [v0, v1, v2, v3, v4, v5] st u P else zr 162 7 [v0, v1, v2, v3, v4, v5] st u P) := zr_If k162_4
theorem k162_7 : xcd 162 7 = oAl 0 8 := rfl
theorem r162_7 : zr 162 7 [.ref a0, v1, v2, v3, v4, v5] st u P = zr 162 8 [.ref a0, v1, v2, v3, v4, v5] (.ref a0 :: st) u P := zr_Al k162_7 rfl
theorem k162_8 : xcd 162 8 = oIl 2 9 := rfl
theorem r162_8 : zr 162 8 [v0, v1, .int x2, v3, v4, v5] st u P = zr 162 9 [v0, v1, .int x2, v3, v4, v5] (.int x2 :: st) u P := zr_Il k162_8 rfl
theorem k162_9 : xcd 162 9 = oIl 3 10 := rfl
theorem r162_9 : zr 162 9 [v0, v1, v2, .int x3, v4, v5] st u P = zr 162 10 [v0, v1, v2, .int x3, v4, v5] (.int x3 :: st) u P := zr_Il k162_9 rfl
theorem k162_10 : xcd 162 10 = oCalV 10 161 2 13 := rfl
theorem r162_10 : zr 162 10 [v0, v1, v2, v3, v4, v5] (.int y2 :: .int y1 :: .ref b8 :: st) u P = ((xIs u b8 10 ∧ xcat st ≤ 8) ∧ zr 161 0 [.ref b8, .int y1, .int y2] [] u (fun r u2 => zr 162 13 [v0, v1, v2, v3, v4, v5] (r.toList ++ st) u2 P)) := zr_CV k162_10 rfl rfl rfl ⟨Nat.le_of_ble_eq_true rfl, Nat.succ_ne_zero _, by decide⟩ rfl
theorem k162_13 : xcd 162 13 = oIf (fun x => decide (x = 0)) 43 16 := rfl
theorem r162_13 : zr 162 13 [v0, v1, v2, v3, v4, v5] (.int y1 :: st) u P = (if y1 = 0 then zr 162 43 [v0, v1, v2, v3, v4, v5] st u P else zr 162 16 [v0, v1, v2, v3, v4, v5] st u P) := zr_If k162_13
theorem k162_16 : xcd 162 16 = oIl 4 18 := rfl
theorem r162_16 : zr 162 16 [v0, v1, v2, v3, .int x4, v5] st u P = zr 162 18 [v0, v1, v2, v3, .int x4, v5] (.int x4 :: st) u P := zr_Il k162_16 rfl
theorem k162_18 : xcd 162 18 = oI 1 19 := rfl
theorem r162_18 : zr 162 18 [v0, v1, v2, v3, v4, v5] st u P = zr 162 19 [v0, v1, v2, v3, v4, v5] (.int 1 :: st) u P := zr_I k162_18
theorem k162_19 : xcd 162 19 = oI 99 21 := rfl
theorem r162_19 : zr 162 19 [v0, v1, v2, v3, v4, v5] st u P = zr 162 21 [v0, v1, v2, v3, v4, v5] (.int 99 :: st) u P := zr_I k162_19
theorem k162_21 : xcd 162 21 = oCal 164 3 24 := rfl
theorem r162_21 : zr 162 21 [v0, v1, v2, v3, v4, v5] (.int y3 :: .int y2 :: .int y1 :: st) u P = (xcat st ≤ 8 ∧ zr 164 0 [.int y1, .int y2, .int y3] [] u (fun r u2 => zr 162 24 [v0, v1, v2, v3, v4, v5] (r.toList ++ st) u2 P)) := zr_CS k162_21 (Nat.le_add_left _ _) rfl rfl ⟨Nat.le_of_ble_eq_true rfl, Nat.succ_ne_zero _, by decide⟩ rfl
theorem k162_24 : xcd 162 24 = oIf (fun x => decide (x = 0)) 43 27 := rfl
theorem r162_24 : zr 162 24 [v0, v1, v2, v3, v4, v5] (.int y1 :: st) u P = (if y1 = 0 then zr 162 43 [v0, v1, v2, v3, v4, v5] st u P else zr 162 27 [v0, v1, v2, v3, v4, v5] st u P) := zr_If k162_24
theorem k162_27 : xcd 162 27 = oIl 5 29 := rfl
theorem r162_27 : zr 162 27 [v0, v1, v2, v3, v4, .int x5] st u P = zr 162 29 [v0, v1, v2, v3, v4, .int x5] (.int x5 :: st) u P := zr_Il k162_27 rfl
theorem k162_29 : xcd 162 29 = oI 1 30 := rfl
theorem r162_29 : zr 162 29 [v0, v1, v2, v3, v4, v5] st u P = zr 162 30 [v0, v1, v2, v3, v4, v5] (.int 1 :: st) u P := zr_I k162_29
theorem k162_30 : xcd 162 30 = oI 9999 33 := rfl
theorem r162_30 : zr 162 30 [v0, v1, v2, v3, v4, v5] st u P = zr 162 33 [v0, v1, v2, v3, v4, v5] (.int 9999 :: st) u P := zr_I k162_30
theorem k162_33 : xcd 162 33 = oCal 164 3 36 := rfl
theorem r162_33 : zr 162 33 [v0, v1, v2, v3, v4, v5] (.int y3 :: .int y2 :: .int y1 :: st) u P = (xcat st ≤ 8 ∧ zr 164 0 [.int y1, .int y2, .int y3] [] u (fun r u2 => zr 162 36 [v0, v1, v2, v3, v4, v5] (r.toList ++ st) u2 P)) := zr_CS k162_33 (Nat.le_add_left _ _) rfl rfl ⟨Nat.le_of_ble_eq_true rfl, Nat.succ_ne_zero _, by decide⟩ rfl
theorem k162_36 : xcd 162 36 = oIf (fun x => decide (x = 0)) 43 39 := rfl
theorem r162_36 : zr 162 36 [v0, v1, v2, v3, v4, v5] (.int y1 :: st) u P = (if y1 = 0 then zr 162 43 [v0, v1, v2, v3, v4, v5] st u P else zr 162 39 [v0, v1, v2, v3, v4, v5] st u P) := zr_If k162_36
theorem k162_39 : xcd 162 39 = oI 1 40 := rfl
theorem r162_39 : zr 162 39 [v0, v1, v2, v3, v4, v5] st u P = zr 162 40 [v0, v1, v2, v3, v4, v5] (.int 1 :: st) u P := zr_I k162_39
theorem k162_40 : xcd 162 40 = oGoto 44 := rfl
theorem r162_40 : zr 162 40 [v0, v1, v2, v3, v4, v5] st u P = zr 162 44 [v0, v1, v2, v3, v4, v5] st u P := zr_Goto k162_40
theorem k162_43 : xcd 162 43 = oI 0 44 := rfl
theorem r162_43 : zr 162 43 [v0, v1, v2, v3, v4, v5] st u P = zr 162 44 [v0, v1, v2, v3, v4, v5] (.int 0 :: st) u P := zr_I k162_43
theorem k162_44 : xcd 162 44 = oRz 0 := rfl
theorem r162_44 : zr 162 44 [v0, v1, v2, v3, v4, v5] [.int y1] u P = ((y1 = 0 ∨ y1 = 1) ∧ P (some (.int y1)) u) := zr_Rz k162_44
theorem k163_0 : xcd 163 0 = oIl 0 1 := rfl
theorem r163_0 : zr 163 0 [.int x0] st u P = zr 163 1 [.int x0] (.int x0 :: st) u P := zr_Il k163_0 rfl
theorem k163_1 : xcd 163 1 = oI 0 2 := rfl
theorem r163_1 : zr 163 1 [v0] st u P = zr 163 2 [v0] (.int 0 :: st) u P := zr_I k163_1
theorem k163_2 : xcd 163 2 = oI 999 5 := rfl
theorem r163_2 : zr 163 2 [v0] st u P = zr 163 5 [v0] (.int 999 :: st) u P := zr_I k163_2
theorem k163_5 : xcd 163 5 = oCal 164 3 8 := rfl
theorem r163_5 : zr 163 5 [v0] (.int y3 :: .int y2 :: .int y1 :: st) u P = (xcat st ≤ 8 ∧ zr 164 0 [.int y1, .int y2, .int y3] [] u (fun r u2 => zr 163 8 [v0] (r.toList ++ st) u2 P)) := zr_CS k163_5 (Nat.le_add_left _ _) rfl rfl ⟨Nat.le_of_ble_eq_true rfl, Nat.succ_ne_zero _, by decide⟩ rfl
theorem k163_8 : xcd 163 8 = oRz 0 := rfl
theorem r163_8 : zr 163 8 [v0] [.int y1] u P = ((y1 = 0 ∨ y1 = 1) ∧ P (some (.int y1)) u) := zr_Rz k163_8
theorem k164_0 : xcd 164 0 = oIl 0 1 := rfl
theorem r164_0 : zr 164 0 [.int x0, v1, v2] st u P = zr 164 1 [.int x0, v1, v2] (.int x0 :: st) u P := zr_Il k164_0 rfl
theorem k164_1 : xcd 164 1 = oIl 1 2 := rfl
theorem r164_1 : zr 164 1 [v0, .int x1, v2] st u P = zr 164 2 [v0, .int x1, v2] (.int x1 :: st) u P := zr_Il k164_1 rfl
theorem k164_2 : xcd 164 2 = oCmp (fun x y => decide (x < y)) 14 5 := rfl
theorem r164_2 : zr 164 2 [v0, v1, v2] (.int y1 :: .int y2 :: st) u P = (if y2 < y1 then zr 164 14 [v0, v1, v2] st u P else zr 164 5 [v0, v1, v2] st u P) := zr_Cmp k164_2
theorem k164_5 : xcd 164 5 = oIl 0 6 := rfl
theorem r164_5 : zr 164 5 [.int x0, v1, v2] st u P = zr 164 6 [.int x0, v1, v2] (.int x0 :: st) u P := zr_Il k164_5 rfl
theorem k164_6 : xcd 164 6 = oIl 2 7 := rfl
theorem r164_6 : zr 164 6 [v0, v1, .int x2] st u P = zr 164 7 [v0, v1, .int x2] (.int x2 :: st) u P := zr_Il k164_6 rfl
theorem k164_7 : xcd 164 7 = oCmp (fun x y => decide (y < x)) 14 10 := rfl
theorem r164_7 : zr 164 7 [v0, v1, v2] (.int y1 :: .int y2 :: st) u P = (if y1 < y2 then zr 164 14 [v0, v1, v2] st u P else zr 164 10 [v0, v1, v2] st u P) := zr_Cmp k164_7
theorem k164_10 : xcd 164 10 = oI 1 11 := rfl
theorem r164_10 : zr 164 10 [v0, v1, v2] st u P = zr 164 11 [v0, v1, v2] (.int 1 :: st) u P := zr_I k164_10
theorem k164_11 : xcd 164 11 = oGoto 15 := rfl
theorem r164_11 : zr 164 11 [v0, v1, v2] st u P = zr 164 15 [v0, v1, v2] st u P := zr_Goto k164_11
theorem k164_14 : xcd 164 14 = oI 0 15 := rfl
theorem r164_14 : zr 164 14 [v0, v1, v2] st u P = zr 164 15 [v0, v1, v2] (.int 0 :: st) u P := zr_I k164_14
theorem k164_15 : xcd 164 15 = oRz 0 := rfl
theorem r164_15 : zr 164 15 [v0, v1, v2] [.int y1] u P = ((y1 = 0 ∨ y1 = 1) ∧ P (some (.int y1)) u) := zr_Rz k164_15
theorem k165_0 : xcd 165 0 = oIl 0 1 := rfl
theorem r165_0 : zr 165 0 [.int x0] st u P = zr 165 1 [.int x0] (.int x0 :: st) u P := zr_Il k165_0 rfl
theorem k165_1 : xcd 165 1 = oIf (fun x => decide (x = 0)) 8 4 := rfl
theorem r165_1 : zr 165 1 [v0] (.int y1 :: st) u P = (if y1 = 0 then zr 165 8 [v0] st u P else zr 165 4 [v0] st u P) := zr_If k165_1
theorem k165_4 : xcd 165 4 = oI 1 5 := rfl
theorem r165_4 : zr 165 4 [v0] st u P = zr 165 5 [v0] (.int 1 :: st) u P := zr_I k165_4
theorem k165_5 : xcd 165 5 = oGoto 9 := rfl
theorem r165_5 : zr 165 5 [v0] st u P = zr 165 9 [v0] st u P := zr_Goto k165_5
theorem k165_8 : xcd 165 8 = oI 0 9 := rfl
theorem r165_8 : zr 165 8 [v0] st u P = zr 165 9 [v0] (.int 0 :: st) u P := zr_I k165_8
theorem k165_9 : xcd 165 9 = oRi 0 := rfl
theorem r165_9 : zr 165 9 [v0] [.int y1] u P = P (some (.int y1)) u := zr_Ri k165_9
theorem k166_0 : xcd 166 0 = oAl 0 1 := rfl
theorem r166_0 : zr 166 0 [.ref a0] st u P = zr 166 1 [.ref a0] (.ref a0 :: st) u P := zr_Al k166_0 rfl
theorem k166_1 : xcd 166 1 = oGR 10 1 4 := rfl
theorem r166_1 : zr 166 1 [v0] (.ref b1 :: st) u P = (xIs u b1 10 ∧ ∃ b, xR u b1 1 = some b ∧ zr 166 4 [v0] (.ref b :: st) u P) := zr_GR k166_1
theorem k166_4 : xcd 166 4 = oAl 0 5 := rfl
theorem r166_4 : zr 166 4 [.ref a0] st u P = zr 166 5 [.ref a0] (.ref a0 :: st) u P := zr_Al k166_4 rfl
theorem k166_5 : xcd 166 5 = oGR 10 5 8 := rfl
theorem r166_5 : zr 166 5 [v0] (.ref b1 :: st) u P = (xIs u b1 10 ∧ ∃ b, xR u b1 5 = some b ∧ zr 166 8 [v0] (.ref b :: st) u P) := zr_GR k166_5
theorem k166_8 : xcd 166 8 = oCalV 3 41 1 11 := rfl
theorem r166_8 : zr 166 8 [v0] (.ref b1 :: .ref b8 :: st) u P = ((xIs u b8 3 ∧ xcat st ≤ 8) ∧ zr 41 0 [.ref b8, .ref b1, .null, .null] [] u (fun r u2 => zr 166 11 [v0] (r.toList ++ st) u2 P)) := zr_CV k166_8 rfl rfl rfl ⟨Nat.le_of_ble_eq_true rfl, Nat.succ_ne_zero _, by decide⟩ rfl
theorem k166_11 : xcd 166 11 = oAl 0 12 := rfl
theorem r166_11 : zr 166 11 [.ref a0] st u P = zr 166 12 [.ref a0] (.ref a0 :: st) u P := zr_Al k166_11 rfl
theorem k166_12 : xcd 166 12 = oGR 10 5 15 := rfl
theorem r166_12 : zr 166 12 [v0] (.ref b1 :: st) u P = (xIs u b1 10 ∧ ∃ b, xR u b1 5 = some b ∧ zr 166 15 [v0] (.ref b :: st) u P) := zr_GR k166_12
theorem k166_15 : xcd 166 15 = oI (-1) 16 := rfl
theorem r166_15 : zr 166 15 [v0] st u P = zr 166 16 [v0] (.int (-1) :: st) u P := zr_I k166_15
theorem k166_16 : xcd 166 16 = oCalV 5 58 1 19 := rfl
theorem r166_16 : zr 166 16 [v0] (.int y1 :: .ref b8 :: st) u P = ((xIs u b8 5 ∧ xcat st ≤ 8) ∧ zr 58 0 [.ref b8, .int y1, .null, .null] [] u (fun r u2 => zr 166 19 [v0] (r.toList ++ st) u2 P)) := zr_CV k166_16 rfl rfl rfl ⟨Nat.le_of_ble_eq_true rfl, Nat.succ_ne_zero _, by decide⟩ rfl
theorem k166_19 : xcd 166 19 = oRi 0 := rfl
theorem r166_19 : zr 166 19 [v0] [.int y1] u P = P (some (.int y1)) u := zr_Ri k166_19
theorem k167_0 : xcd 167 0 = oAl 0 1 := rfl
theorem r167_0 : zr 167 0 [.ref a0, v1, v2, v3, v4, v5, v6] st u P = zr 167 1 [.ref a0, v1, v2, v3, v4, v5, v6] (.ref a0 :: st) u P := zr_Al k167_0 rfl
theorem k167_1 : xcd 167 1 = oGR 10 5 4 := rfl
theorem r167_1 : zr 167 1 [v0, v1, v2, v3, v4, v5, v6] (.ref b1 :: st) u P = (xIs u b1 10 ∧ ∃ b, xR u b1 5 = some b ∧ zr 167 4 [v0, v1, v2, v3, v4, v5, v6] (.ref b :: st) u P) := zr_GR k167_1
theorem k167_4 : xcd 167 4 = oGI 5 0 7 := rfl
theorem r167_4 : zr 167 4 [v0, v1, v2, v3, v4, v5, v6] (.ref b1 :: st) u P = (xIs u b1 5 ∧ zr 167 7 [v0, v1, v2, v3, v4, v5, v6] (.int (xI u b1 0) :: st) u P) := zr_GI k167_4
theorem k167_7 : xcd 167 7 = oIs 2 8 := rfl
theorem r167_7 : zr 167 7 [v0, .int x1, v2, v3, v4, v5, v6] (.int y1 :: st) u P = zr 167 8 [v0, .int x1, .int y1, v3, v4, v5, v6] st u P := zr_Is k167_7 ⟨Nat.le_of_ble_eq_true rfl, rfl⟩
theorem k167_8 : xcd 167 8 = oAl 0 9 := rfl
theorem r167_8 : zr 167 8 [.ref a0, v1, v2, v3, v4, v5, v6] st u P = zr 167 9 [.ref a0, v1, v2, v3, v4, v5, v6] (.ref a0 :: st) u P := zr_Al k167_8 rfl
theorem k167_9 : xcd 167 9 = oCalV 10 166 0 12 := rfl
theorem r167_9 : zr 167 9 [v0, v1, v2, v3, v4, v5, v6] (.ref b8 :: st) u P = ((xIs u b8 10 ∧ xcat st ≤ 8) ∧ zr 166 0 [.ref b8] [] u (fun r u2 => zr 167 12 [v0, v1, v2, v3, v4, v5, v6] (r.toList ++ st) u2 P)) := zr_CV k167_9 rfl rfl rfl ⟨Nat.le_of_ble_eq_true rfl, Nat.succ_ne_zero _, by decide⟩ rfl
theorem k167_12 : xcd 167 12 = oIs 3 13 := rfl
theorem r167_12 : zr 167 12 [v0, v1, .int x2, v3, v4, v5, v6] (.int y1 :: st) u P = zr 167 13 [v0, v1, .int x2, .int y1, v4, v5, v6] st u P := zr_Is k167_12 ⟨Nat.le_of_ble_eq_true rfl, rfl⟩
theorem k167_13 : xcd 167 13 = oAl 0 14 := rfl
theorem r167_13 : zr 167 13 [.ref a0, v1, v2, v3, v4, v5, v6] st u P = zr 167 14 [.ref a0, v1, v2, v3, v4, v5, v6] (.ref a0 :: st) u P := zr_Al k167_13 rfl
theorem k167_14 : xcd 167 14 = oGR 10 1 17 := rfl
theorem r167_14 : zr 167 14 [v0, v1, v2, v3, v4, v5, v6] (.ref b1 :: st) u P = (xIs u b1 10 ∧ ∃ b, xR u b1 1 = some b ∧ zr 167 17 [v0, v1, v2, v3, v4, v5, v6] (.ref b :: st) u P) := zr_GR k167_14
theorem k167_17 : xcd 167 17 = oIl 2 18 := rfl
theorem r167_17 : zr 167 17 [v0, v1, .int x2, v3, v4, v5, v6] st u P = zr 167 18 [v0, v1, .int x2, v3, v4, v5, v6] (.int x2 :: st) u P := zr_Il k167_17 rfl
theorem k167_18 : xcd 167 18 = oCalV 3 37 1 21 := rfl
theorem r167_18 : zr 167 18 [v0, v1, v2, v3, v4, v5, v6] (.int y1 :: .ref b8 :: st) u P = ((xIs u b8 3 ∧ xcat st ≤ 8) ∧ zr 37 0 [.ref b8, .int y1] [] u (fun r u2 => zr 167 21 [v0, v1, v2, v3, v4, v5, v6] (r.toList ++ st) u2 P)) := zr_CV k167_18 rfl rfl rfl ⟨Nat.le_of_ble_eq_true rfl, Nat.succ_ne_zero _, by decide⟩ rfl
theorem k167_21 : xcd 167 21 = oIs 4 23 := rfl
theorem r167_21 : zr 167 21 [v0, v1, v2, .int x3, v4, v5, v6] (.int y1 :: st) u P = zr 167 23 [v0, v1, v2, .int x3, .int y1, v5, v6] st u P := zr_Is k167_21 ⟨Nat.le_of_ble_eq_true rfl, rfl⟩
theorem k167_23 : xcd 167 23 = oI 0 24 := rfl
theorem r167_23 : zr 167 23 [v0, v1, v2, v3, v4, v5, v6] st u P = zr 167 24 [v0, v1, v2, v3, v4, v5, v6] (.int 0 :: st) u P := zr_I k167_23
theorem k167_24 : xcd 167 24 = oIs 5 26 := rfl
theorem r167_24 : zr 167 24 [v0, v1, v2, v3, .int x4, v5, v6] (.int y1 :: st) u P = zr 167 26 [v0, v1, v2, v3, .int x4, .int y1, v6] st u P := zr_Is k167_24 ⟨Nat.le_of_ble_eq_true rfl, rfl⟩
theorem k167_26 : xcd 167 26 = oIl 5 28 := rfl
theorem r167_26 : zr 167 26 [v0, v1, v2, v3, v4, .int x5, v6] st u P = zr 167 28 [v0, v1, v2, v3, v4, .int x5, v6] (.int x5 :: st) u P := zr_Il k167_26 rfl
theorem k167_28 : xcd 167 28 = oI 999 31 := rfl
theorem r167_28 : zr 167 28 [v0, v1, v2, v3, v4, v5, v6] st u P = zr 167 31 [v0, v1, v2, v3, v4, v5, v6] (.int 999 :: st) u P := zr_I k167_28
theorem k167_31 : xcd 167 31 = oCmp (fun x y => decide (y < x)) 84 34 := rfl
theorem r167_31 : zr 167 31 [v0, v1, v2, v3, v4, v5, v6] (.int y1 :: .int y2 :: st) u P = (if y1 < y2 then zr 167 84 [v0, v1, v2, v3, v4, v5, v6] st u P else zr 167 34 [v0, v1, v2, v3, v4, v5, v6] st u P) := zr_Cmp k167_31
theorem k167_34 : xcd 167 34 = oIl 4 36 := rfl
theorem r167_34 : zr 167 34 [v0, v1, v2, v3, .int x4, v5, v6] st u P = zr 167 36 [v0, v1, v2, v3, .int x4, v5, v6] (.int x4 :: st) u P := zr_Il k167_34 rfl
theorem k167_36 : xcd 167 36 = oIl 1 37 := rfl
theorem r167_36 : zr 167 36 [v0, .int x1, v2, v3, v4, v5, v6] st u P = zr 167 37 [v0, .int x1, v2, v3, v4, v5, v6] (.int x1 :: st) u P := zr_Il k167_36 rfl
theorem k167_37 : xcd 167 37 = oCmp (fun x y => decide (y < x)) 84 40 := rfl
theorem r167_37 : zr 167 37 [v0, v1, v2, v3, v4, v5, v6] (.int y1 :: .int y2 :: st) u P = (if y1 < y2 then zr 167 84 [v0, v1, v2, v3, v4, v5, v6] st u P else zr 167 40 [v0, v1, v2, v3, v4, v5, v6] st u P) := zr_Cmp k167_37
theorem k167_40 : xcd 167 40 = oAl 0 41 := rfl
theorem r167_40 : zr 167 40 [.ref a0, v1, v2, v3, v4, v5, v6] st u P = zr 167 41 [.ref a0, v1, v2, v3, v4, v5, v6] (.ref a0 :: st) u P := zr_Al k167_40 rfl
theorem k167_41 : xcd 167 41 = oGR 10 5 44 := rfl
theorem r167_41 : zr 167 41 [v0, v1, v2, v3, v4, v5, v6] (.ref b1 :: st) u P = (xIs u b1 10 ∧ ∃ b, xR u b1 5 = some b ∧ zr 167 44 [v0, v1, v2, v3, v4, v5, v6] (.ref b :: st) u P) := zr_GR k167_41
theorem k167_44 : xcd 167 44 = oIl 4 46 := rfl
theorem r167_44 : zr 167 44 [v0, v1, v2, v3, .int x4, v5, v6] st u P = zr 167 46 [v0, v1, v2, v3, .int x4, v5, v6] (.int x4 :: st) u P := zr_Il k167_44 rfl
theorem k167_46 : xcd 167 46 = oPI 5 0 49 := rfl
theorem r167_46 : zr 167 46 [v0, v1, v2, v3, v4, v5, v6] (.int y1 :: .ref b1 :: st) u P = (xIs u b1 5 ∧ zr 167 49 [v0, v1, v2, v3, v4, v5, v6] st (xsI u b1 0 y1) P) := zr_PI k167_46
theorem k167_49 : xcd 167 49 = oAl 0 50 := rfl
theorem r167_49 : zr 167 49 [.ref a0, v1, v2, v3, v4, v5, v6] st u P = zr 167 50 [.ref a0, v1, v2, v3, v4, v5, v6] (.ref a0 :: st) u P := zr_Al k167_49 rfl
theorem k167_50 : xcd 167 50 = oCalV 10 166 0 53 := rfl
theorem r167_50 : zr 167 50 [v0, v1, v2, v3, v4, v5, v6] (.ref b8 :: st) u P = ((xIs u b8 10 ∧ xcat st ≤ 8) ∧ zr 166 0 [.ref b8] [] u (fun r u2 => zr 167 53 [v0, v1, v2, v3, v4, v5, v6] (r.toList ++ st) u2 P)) := zr_CV k167_50 rfl rfl rfl ⟨Nat.le_of_ble_eq_true rfl, Nat.succ_ne_zero _, by decide⟩ rfl
theorem k167_53 : xcd 167 53 = oIs 6 55 := rfl
theorem r167_53 : zr 167 53 [v0, v1, v2, v3, v4, .int x5, v6] (.int y1 :: st) u P = zr 167 55 [v0, v1, v2, v3, v4, .int x5, .int y1] st u P := zr_Is k167_53 ⟨Nat.le_of_ble_eq_true rfl, rfl⟩
theorem k167_55 : xcd 167 55 = oIl 6 57 := rfl
theorem r167_55 : zr 167 55 [v0, v1, v2, v3, v4, v5, .int x6] st u P = zr 167 57 [v0, v1, v2, v3, v4, v5, .int x6] (.int x6 :: st) u P := zr_Il k167_55 rfl
theorem k167_57 : xcd 167 57 = oIl 3 58 := rfl
theorem r167_57 : zr 167 57 [v0, v1, v2, .int x3, v4, v5, v6] st u P = zr 167 58 [v0, v1, v2, .int x3, v4, v5, v6] (.int x3 :: st) u P := zr_Il k167_57 rfl
theorem k167_58 : xcd 167 58 = oCmp (fun x y => decide (y ≤ x)) 67 61 := rfl
theorem r167_58 : zr 167 58 [v0, v1, v2, v3, v4, v5, v6] (.int y1 :: .int y2 :: st) u P = (if y1 ≤ y2 then zr 167 67 [v0, v1, v2, v3, v4, v5, v6] st u P else zr 167 61 [v0, v1, v2, v3, v4, v5, v6] st u P) := zr_Cmp k167_58
theorem k167_61 : xcd 167 61 = oIl 6 63 := rfl
theorem r167_61 : zr 167 61 [v0, v1, v2, v3, v4, v5, .int x6] st u P = zr 167 63 [v0, v1, v2, v3, v4, v5, .int x6] (.int x6 :: st) u P := zr_Il k167_61 rfl
theorem k167_63 : xcd 167 63 = oIs 3 64 := rfl
theorem r167_63 : zr 167 63 [v0, v1, .int x2, v3, v4, v5, v6] (.int y1 :: st) u P = zr 167 64 [v0, v1, .int x2, .int y1, v4, v5, v6] st u P := zr_Is k167_63 ⟨Nat.le_of_ble_eq_true rfl, rfl⟩
theorem k167_64 : xcd 167 64 = oIl 4 66 := rfl
theorem r167_64 : zr 167 64 [v0, v1, v2, v3, .int x4, v5, v6] st u P = zr 167 66 [v0, v1, v2, v3, .int x4, v5, v6] (.int x4 :: st) u P := zr_Il k167_64 rfl
theorem k167_66 : xcd 167 66 = oIs 2 67 := rfl
theorem r167_66 : zr 167 66 [v0, .int x1, v2, v3, v4, v5, v6] (.int y1 :: st) u P = zr 167 67 [v0, .int x1, .int y1, v3, v4, v5, v6] st u P := zr_Is k167_66 ⟨Nat.le_of_ble_eq_true rfl, rfl⟩
theorem k167_67 : xcd 167 67 = oAl 0 68 := rfl
theorem r167_67 : zr 167 67 [.ref a0, v1, v2, v3, v4, v5, v6] st u P = zr 167 68 [.ref a0, v1, v2, v3, v4, v5, v6] (.ref a0 :: st) u P := zr_Al k167_67 rfl
theorem k167_68 : xcd 167 68 = oGR 10 1 71 := rfl
theorem r167_68 : zr 167 68 [v0, v1, v2, v3, v4, v5, v6] (.ref b1 :: st) u P = (xIs u b1 10 ∧ ∃ b, xR u b1 1 = some b ∧ zr 167 71 [v0, v1, v2, v3, v4, v5, v6] (.ref b :: st) u P) := zr_GR k167_68
theorem k167_71 : xcd 167 71 = oIl 4 73 := rfl
theorem r167_71 : zr 167 71 [v0, v1, v2, v3, .int x4, v5, v6] st u P = zr 167 73 [v0, v1, v2, v3, .int x4, v5, v6] (.int x4 :: st) u P := zr_Il k167_71 rfl
theorem k167_73 : xcd 167 73 = oCalV 3 37 1 76 := rfl
theorem r167_73 : zr 167 73 [v0, v1, v2, v3, v4, v5, v6] (.int y1 :: .ref b8 :: st) u P = ((xIs u b8 3 ∧ xcat st ≤ 8) ∧ zr 37 0 [.ref b8, .int y1] [] u (fun r u2 => zr 167 76 [v0, v1, v2, v3, v4, v5, v6] (r.toList ++ st) u2 P)) := zr_CV k167_73 rfl rfl rfl ⟨Nat.le_of_ble_eq_true rfl, Nat.succ_ne_zero _, by decide⟩ rfl
theorem k167_76 : xcd 167 76 = oIs 4 78 := rfl
theorem r167_76 : zr 167 76 [v0, v1, v2, .int x3, v4, v5, v6] (.int y1 :: st) u P = zr 167 78 [v0, v1, v2, .int x3, .int y1, v5, v6] st u P := zr_Is k167_76 ⟨Nat.le_of_ble_eq_true rfl, rfl⟩
theorem k167_78 : xcd 167 78 = oInc 5 1 81 := rfl
theorem r167_78 : zr 167 78 [v0, v1, v2, v3, .int x4, .int x5, v6] st u P = zr 167 81 [v0, v1, v2, v3, .int x4, .int (x5 + 1), v6] st u P := zr_Inc k167_78 rfl rfl
theorem k167_81 : xcd 167 81 = oGoto 26 := rfl
theorem r167_81 : zr 167 81 [v0, v1, v2, v3, v4, v5, v6] st u P = zr 167 26 [v0, v1, v2, v3, v4, v5, v6] st u P := zr_Goto k167_81
theorem k167_84 : xcd 167 84 = oIl 2 85 := rfl
theorem r167_84 : zr 167 84 [v0, v1, .int x2, v3, v4, v5, v6] st u P = zr 167 85 [v0, v1, .int x2, v3, v4, v5, v6] (.int x2 :: st) u P := zr_Il k167_84 rfl
theorem k167_85 : xcd 167 85 = oRi 0 := rfl
theorem r167_85 : zr 167 85 [v0, v1, v2, v3, v4, v5, v6] [.int y1] u P = P (some (.int y1)) u := zr_Ri k167_85
theorem k168_0 : xcd 168 0 = oAl 0 1 := rfl
theorem r168_0 : zr 168 0 [.ref a0, v1] st u P = zr 168 1 [.ref a0, v1] (.ref a0 :: st) u P := zr_Al k168_0 rfl
theorem k168_1 : xcd 168 1 = oGR 10 5 4 := rfl
theorem r168_1 : zr 168 1 [v0, v1] (.ref b1 :: st) u P = (xIs u b1 10 ∧ ∃ b, xR u b1 5 = some b ∧ zr 168 4 [v0, v1] (.ref b :: st) u P) := zr_GR k168_1
theorem k168_4 : xcd 168 4 = oAl 1 5 := rfl
theorem r168_4 : zr 168 4 [v0, .ref a1] st u P = zr 168 5 [v0, .ref a1] (.ref a1 :: st) u P := zr_Al k168_4 rfl
theorem k168_5 : xcd 168 5 = oGI 5 0 8 := rfl
theorem r168_5 : zr 168 5 [v0, v1] (.ref b1 :: st) u P = (xIs u b1 5 ∧ zr 168 8 [v0, v1] (.int (xI u b1 0) :: st) u P) := zr_GI k168_5
theorem k168_8 : xcd 168 8 = oAl 1 9 := rfl
theorem r168_8 : zr 168 8 [v0, .ref a1] st u P = zr 168 9 [v0, .ref a1] (.ref a1 :: st) u P := zr_Al k168_8 rfl
theorem k168_9 : xcd 168 9 = oGI 5 1 12 := rfl
theorem r168_9 : zr 168 9 [v0, v1] (.ref b1 :: st) u P = (xIs u b1 5 ∧ zr 168 12 [v0, v1] (.int (xI u b1 1) :: st) u P) := zr_GI k168_9
theorem k168_12 : xcd 168 12 = oAl 1 13 := rfl
theorem r168_12 : zr 168 12 [v0, .ref a1] st u P = zr 168 13 [v0, .ref a1] (.ref a1 :: st) u P := zr_Al k168_12 rfl
theorem k168_13 : xcd 168 13 = oGI 5 2 16 := rfl
theorem r168_13 : zr 168 13 [v0, v1] (.ref b1 :: st) u P = (xIs u b1 5 ∧ zr 168 16 [v0, v1] (.int (xI u b1 2) :: st) u P) := zr_GI k168_13
theorem k168_16 : xcd 168 16 = oAl 1 17 := rfl
theorem r168_16 : zr 168 16 [v0, .ref a1] st u P = zr 168 17 [v0, .ref a1] (.ref a1 :: st) u P := zr_Al k168_16 rfl
theorem k168_17 : xcd 168 17 = oGI 5 3 20 := rfl
theorem r168_17 : zr 168 17 [v0, v1] (.ref b1 :: st) u P = (xIs u b1 5 ∧ zr 168 20 [v0, v1] (.int (xI u b1 3) :: st) u P) := zr_GI k168_17
theorem k168_20 : xcd 168 20 = oAl 1 21 := rfl
theorem r168_20 : zr 168 20 [v0, .ref a1] st u P = zr 168 21 [v0, .ref a1] (.ref a1 :: st) u P := zr_Al k168_20 rfl
theorem k168_21 : xcd 168 21 = oGI 5 6 24 := rfl
theorem r168_21 : zr 168 21 [v0, v1] (.ref b1 :: st) u P = (xIs u b1 5 ∧ zr 168 24 [v0, v1] (.int (xI u b1 6) :: st) u P) := zr_GI k168_21
theorem k168_24 : xcd 168 24 = oAl 1 25 := rfl
theorem r168_24 : zr 168 24 [v0, .ref a1] st u P = zr 168 25 [v0, .ref a1] (.ref a1 :: st) u P := zr_Al k168_24 rfl
theorem k168_25 : xcd 168 25 = oGI 5 5 28 := rfl
theorem r168_25 : zr 168 25 [v0, v1] (.ref b1 :: st) u P = (xIs u b1 5 ∧ zr 168 28 [v0, v1] (.int (xI u b1 5) :: st) u P) := zr_GI k168_25
theorem k168_28 : xcd 168 28 = oCalV 5 54 6 31 := rfl
theorem r168_28 : zr 168 28 [v0, v1] (.int y6 :: .int y5 :: .int y4 :: .int y3 :: .int y2 :: .int y1 :: .ref b8 :: st) u P = ((xIs u b8 5 ∧ xcat st ≤ 8) ∧ zr 54 0 [.ref b8, .int y1, .int y2, .int y3, .int y4, .int y5, .int y6] [] u (fun r u2 => zr 168 31 [v0, v1] (r.toList ++ st) u2 P)) := zr_CV k168_28 rfl rfl rfl ⟨Nat.le_of_ble_eq_true rfl, Nat.succ_ne_zero _, by decide⟩ rfl
theorem k168_31 : xcd 168 31 = oAl 0 32 := rfl
theorem r168_31 : zr 168 31 [.ref a0, v1] st u P = zr 168 32 [.ref a0, v1] (.ref a0 :: st) u P := zr_Al k168_31 rfl
theorem k168_32 : xcd 168 32 = oCalV 10 166 0 35 := rfl
theorem r168_32 : zr 168 32 [v0, v1] (.ref b8 :: st) u P = ((xIs u b8 10 ∧ xcat st ≤ 8) ∧ zr 166 0 [.ref b8] [] u (fun r u2 => zr 168 35 [v0, v1] (r.toList ++ st) u2 P)) := zr_CV k168_32 rfl rfl rfl ⟨Nat.le_of_ble_eq_true rfl, Nat.succ_ne_zero _, by decide⟩ rfl
theorem k168_35 : xcd 168 35 = oAl 1 36 := rfl
theorem r168_35 : zr 168 35 [v0, .ref a1] st u P = zr 168 36 [v0, .ref a1] (.ref a1 :: st) u P := zr_Al k168_35 rfl
theorem k168_36 : xcd 168 36 = oI (-1) 37 := rfl
theorem r168_36 : zr 168 36 [v0, v1] st u P = zr 168 37 [v0, v1] (.int (-1) :: st) u P := zr_I k168_36
theorem k168_37 : xcd 168 37 = oCalV 5 58 1 40 := rfl
theorem r168_37 : zr 168 37 [v0, v1] (.int y1 :: .ref b8 :: st) u P = ((xIs u b8 5 ∧ xcat st ≤ 8) ∧ zr 58 0 [.ref b8, .int y1, .null, .null] [] u (fun r u2 => zr 168 40 [v0, v1] (r.toList ++ st) u2 P)) := zr_CV k168_37 rfl rfl rfl ⟨Nat.le_of_ble_eq_true rfl, Nat.succ_ne_zero _, by decide⟩ rfl
theorem k168_40 : xcd 168 40 = oB (fun x y => x - y) 41 := rfl
theorem r168_40 : zr 168 40 [v0, v1] (.int y1 :: .int y2 :: st) u P = zr 168 41 [v0, v1] (.int (y2 - y1) :: st) u P := zr_B k168_40
theorem k168_41 : xcd 168 41 = oRi 0 := rfl
theorem r168_41 : zr 168 41 [v0, v1] [.int y1] u P = P (some (.int y1)) u := zr_Ri k168_41
theorem k169_0 : xcd 169 0 = oAl 0 1 := rfl
theorem r169_0 : zr 169 0 [.ref a0, v1] st u P = zr 169 1 [.ref a0, v1] (.ref a0 :: st) u P := zr_Al k169_0 rfl
theorem k169_1 : xcd 169 1 = oGR 10 4 4 := rfl
theorem r169_1 : zr 169 1 [v0, v1] (.ref b1 :: st) u P = (xIs u b1 10 ∧ ∃ b, xR u b1 4 = some b ∧ zr 169 4 [v0, v1] (.ref b :: st) u P) := zr_GR k169_1
theorem k169_4 : xcd 169 4 = oGR 0 1 7 := rfl
theorem r169_4 : zr 169 4 [v0, v1] (.ref b1 :: st) u P = (xIs u b1 0 ∧ ∃ b, xR u b1 1 = some b ∧ zr 169 7 [v0, v1] (.ref b :: st) u P) := zr_GR k169_4
theorem k169_7 : xcd 169 7 = oIl 1 8 := rfl
theorem r169_7 : zr 169 7 [v0, .int x1] st u P = zr 169 8 [v0, .int x1] (.int x1 :: st) u P := zr_Il k169_7 rfl
theorem k169_8 : xcd 169 8 = oLd 13 9 := rfl
theorem r169_8 : zr 169 8 [v0, v1] (.int y1 :: .ref b1 :: st) u P = ((xIs u b1 13 ∧ xinb y1 (xN u b1)) ∧ zr 169 9 [v0, v1] (.int (xI u b1 (xix y1)) :: st) u P) := zr_Ld k169_8
theorem k169_9 : xcd 169 9 = oSw [40, 50, 66, 103] 125 := rfl
theorem r169_9 : zr 169 9 [v0, v1] (.int y1 :: st) u P = zr 169 (if y1 < 0 ∨ 4 ≤ y1 then 125 else [40, 50, 66, 103].getD y1.toNatClampNeg 125) [v0, v1] st u P := zr_Sw k169_9
theorem k169_40 : xcd 169 40 = oAl 0 41 := rfl
theorem r169_40 : zr 169 40 [.ref a0, v1] st u P = zr 169 41 [.ref a0, v1] (.ref a0 :: st) u P := zr_Al k169_40 rfl
theorem k169_41 : xcd 169 41 = oGR 10 3 44 := rfl
theorem r169_41 : zr 169 41 [v0, v1] (.ref b1 :: st) u P = (xIs u b1 10 ∧ ∃ b, xR u b1 3 = some b ∧ zr 169 44 [v0, v1] (.ref b :: st) u P) := zr_GR k169_41
theorem k169_44 : xcd 169 44 = oCalV 1 17 0 47 := rfl
theorem r169_44 : zr 169 44 [v0, v1] (.ref b8 :: st) u P = ((xIs u b8 1 ∧ xcat st ≤ 8) ∧ zr 17 0 [.ref b8, .null] [] u (fun r u2 => zr 169 47 [v0, v1] (r.toList ++ st) u2 P)) := zr_CV k169_44 rfl rfl rfl ⟨Nat.le_of_ble_eq_true rfl, Nat.succ_ne_zero _, by decide⟩ rfl
theorem k169_47 : xcd 169 47 = oGoto 144 := rfl
theorem r169_47 : zr 169 47 [v0, v1] st u P = zr 169 144 [v0, v1] st u P := zr_Goto k169_47
theorem k169_50 : xcd 169 50 = oAl 0 51 := rfl
theorem r169_50 : zr 169 50 [.ref a0, v1] st u P = zr 169 51 [.ref a0, v1] (.ref a0 :: st) u P := zr_Al k169_50 rfl
theorem k169_51 : xcd 169 51 = oGR 10 3 54 := rfl
theorem r169_51 : zr 169 51 [v0, v1] (.ref b1 :: st) u P = (xIs u b1 10 ∧ ∃ b, xR u b1 3 = some b ∧ zr 169 54 [v0, v1] (.ref b :: st) u P) := zr_GR k169_51
theorem k169_54 : xcd 169 54 = oDup 55 := rfl
theorem r169_54 : zr 169 54 [v0, v1] (.ref b1 :: st) u P = zr 169 55 [v0, v1] (.ref b1 :: .ref b1 :: st) u P := zr_DupA k169_54
theorem k169_55 : xcd 169 55 = oGI 1 0 58 := rfl
theorem r169_55 : zr 169 55 [v0, v1] (.ref b1 :: st) u P = (xIs u b1 1 ∧ zr 169 58 [v0, v1] (.int (xI u b1 0) :: st) u P) := zr_GI k169_55
theorem k169_58 : xcd 169 58 = oI 1 59 := rfl
theorem r169_58 : zr 169 58 [v0, v1] st u P = zr 169 59 [v0, v1] (.int 1 :: st) u P := zr_I k169_58
theorem k169_59 : xcd 169 59 = oB (fun x y => x - y) 60 := rfl
theorem r169_59 : zr 169 59 [v0, v1] (.int y1 :: .int y2 :: st) u P = zr 169 60 [v0, v1] (.int (y2 - y1) :: st) u P := zr_B k169_59
theorem k169_60 : xcd 169 60 = oPI 1 0 63 := rfl
theorem r169_60 : zr 169 60 [v0, v1] (.int y1 :: .ref b1 :: st) u P = (xIs u b1 1 ∧ zr 169 63 [v0, v1] st (xsI u b1 0 y1) P) := zr_PI k169_60
theorem k169_63 : xcd 169 63 = oGoto 144 := rfl
theorem r169_63 : zr 169 63 [v0, v1] st u P = zr 169 144 [v0, v1] st u P := zr_Goto k169_63
theorem k169_66 : xcd 169 66 = oAl 0 67 := rfl
theorem r169_66 : zr 169 66 [.ref a0, v1] st u P = zr 169 67 [.ref a0, v1] (.ref a0 :: st) u P := zr_Al k169_66 rfl
theorem k169_67 : xcd 169 67 = oGR 10 3 70 := rfl
theorem r169_67 : zr 169 67 [v0, v1] (.ref b1 :: st) u P = (xIs u b1 10 ∧ ∃ b, xR u b1 3 = some b ∧ zr 169 70 [v0, v1] (.ref b :: st) u P) := zr_GR k169_67
theorem k169_70 : xcd 169 70 = oGR 1 1 73 := rfl
theorem r169_70 : zr 169 70 [v0, v1] (.ref b1 :: st) u P = (xIs u b1 1 ∧ ∃ b, xR u b1 1 = some b ∧ zr 169 73 [v0, v1] (.ref b :: st) u P) := zr_GR k169_70
theorem k169_73 : xcd 169 73 = oAl 0 74 := rfl
theorem r169_73 : zr 169 73 [.ref a0, v1] st u P = zr 169 74 [.ref a0, v1] (.ref a0 :: st) u P := zr_Al k169_73 rfl
theorem k169_74 : xcd 169 74 = oGR 10 4 77 := rfl
theorem r169_74 : zr 169 74 [v0, v1] (.ref b1 :: st) u P = (xIs u b1 10 ∧ ∃ b, xR u b1 4 = some b ∧ zr 169 77 [v0, v1] (.ref b :: st) u P) := zr_GR k169_74
theorem k169_77 : xcd 169 77 = oGR 0 2 80 := rfl
theorem r169_77 : zr 169 77 [v0, v1] (.ref b1 :: st) u P = (xIs u b1 0 ∧ ∃ b, xR u b1 2 = some b ∧ zr 169 80 [v0, v1] (.ref b :: st) u P) := zr_GR k169_77
theorem k169_80 : xcd 169 80 = oIl 1 81 := rfl
theorem r169_80 : zr 169 80 [v0, .int x1] st u P = zr 169 81 [v0, .int x1] (.int x1 :: st) u P := zr_Il k169_80 rfl
theorem k169_81 : xcd 169 81 = oLd 13 82 := rfl
theorem r169_81 : zr 169 81 [v0, v1] (.int y1 :: .ref b1 :: st) u P = ((xIs u b1 13 ∧ xinb y1 (xN u b1)) ∧ zr 169 82 [v0, v1] (.int (xI u b1 (xix y1)) :: st) u P) := zr_Ld k169_81
theorem k169_82 : xcd 169 82 = oLdR 83 := rfl
theorem r169_82 : zr 169 82 [v0, v1] (.int y1 :: .ref b1 :: st) u P = ((xIs u b1 16 ∧ xinb y1 (xN u b1)) ∧ ∃ b, xR u b1 (xix y1) = some b ∧ zr 169 83 [v0, v1] (.ref b :: st) u P) := zr_LdR k169_82
theorem k169_83 : xcd 169 83 = oDup 84 := rfl
theorem r169_83 : zr 169 83 [v0, v1] (.ref b1 :: st) u P = zr 169 84 [v0, v1] (.ref b1 :: .ref b1 :: st) u P := zr_DupA k169_83
theorem k169_84 : xcd 169 84 = oGI 5 6 87 := rfl
theorem r169_84 : zr 169 84 [v0, v1] (.ref b1 :: st) u P = (xIs u b1 5 ∧ zr 169 87 [v0, v1] (.int (xI u b1 6) :: st) u P) := zr_GI k169_84
theorem k169_87 : xcd 169 87 = oAl 0 88 := rfl
theorem r169_87 : zr 169 87 [.ref a0, v1] st u P = zr 169 88 [.ref a0, v1] (.ref a0 :: st) u P := zr_Al k169_87 rfl
theorem k169_88 : xcd 169 88 = oGR 10 4 91 := rfl
theorem r169_88 : zr 169 88 [v0, v1] (.ref b1 :: st) u P = (xIs u b1 10 ∧ ∃ b, xR u b1 4 = some b ∧ zr 169 91 [v0, v1] (.ref b :: st) u P) := zr_GR k169_88
theorem k169_91 : xcd 169 91 = oGR 0 3 94 := rfl
theorem r169_91 : zr 169 91 [v0, v1] (.ref b1 :: st) u P = (xIs u b1 0 ∧ ∃ b, xR u b1 3 = some b ∧ zr 169 94 [v0, v1] (.ref b :: st) u P) := zr_GR k169_91
theorem k169_94 : xcd 169 94 = oIl 1 95 := rfl
theorem r169_94 : zr 169 94 [v0, .int x1] st u P = zr 169 95 [v0, .int x1] (.int x1 :: st) u P := zr_Il k169_94 rfl
theorem k169_95 : xcd 169 95 = oLd 13 96 := rfl
theorem r169_95 : zr 169 95 [v0, v1] (.int y1 :: .ref b1 :: st) u P = ((xIs u b1 13 ∧ xinb y1 (xN u b1)) ∧ zr 169 96 [v0, v1] (.int (xI u b1 (xix y1)) :: st) u P) := zr_Ld k169_95
theorem k169_96 : xcd 169 96 = oB (fun x y => x + y) 97 := rfl
theorem r169_96 : zr 169 96 [v0, v1] (.int y1 :: .int y2 :: st) u P = zr 169 97 [v0, v1] (.int (y2 + y1) :: st) u P := zr_B k169_96
theorem k169_97 : xcd 169 97 = oPI 5 6 100 := rfl
theorem r169_97 : zr 169 97 [v0, v1] (.int y1 :: .ref b1 :: st) u P = (xIs u b1 5 ∧ zr 169 100 [v0, v1] st (xsI u b1 6 y1) P) := zr_PI k169_97
theorem k169_100 : xcd 169 100 = oGoto 144 := rfl
theorem r169_100 : zr 169 100 [v0, v1] st u P = zr 169 144 [v0, v1] st u P := zr_Goto k169_100
theorem k169_103 : xcd 169 103 = oAl 0 104 := rfl
theorem r169_103 : zr 169 103 [.ref a0, v1] st u P = zr 169 104 [.ref a0, v1] (.ref a0 :: st) u P := zr_Al k169_103 rfl
theorem k169_104 : xcd 169 104 = oGR 10 1 107 := rfl
theorem r169_104 : zr 169 104 [v0, v1] (.ref b1 :: st) u P = (xIs u b1 10 ∧ ∃ b, xR u b1 1 = some b ∧ zr 169 107 [v0, v1] (.ref b :: st) u P) := zr_GR k169_104
theorem k169_107 : xcd 169 107 = oGR 3 0 110 := rfl
theorem r169_107 : zr 169 107 [v0, v1] (.ref b1 :: st) u P = (xIs u b1 3 ∧ ∃ b, xR u b1 0 = some b ∧ zr 169 110 [v0, v1] (.ref b :: st) u P) := zr_GR k169_107
theorem k169_110 : xcd 169 110 = oGR 4 5 113 := rfl
theorem r169_110 : zr 169 110 [v0, v1] (.ref b1 :: st) u P = (xIs u b1 4 ∧ ∃ b, xR u b1 5 = some b ∧ zr 169 113 [v0, v1] (.ref b :: st) u P) := zr_GR k169_110
theorem k169_113 : xcd 169 113 = oDup 114 := rfl
theorem r169_113 : zr 169 113 [v0, v1] (.ref b1 :: st) u P = zr 169 114 [v0, v1] (.ref b1 :: .ref b1 :: st) u P := zr_DupA k169_113
theorem k169_114 : xcd 169 114 = oGI 2 0 117 := rfl
theorem r169_114 : zr 169 114 [v0, v1] (.ref b1 :: st) u P = (xIs u b1 2 ∧ zr 169 117 [v0, v1] (.int (xI u b1 0) :: st) u P) := zr_GI k169_114
theorem k169_117 : xcd 169 117 = oI 1 118 := rfl
theorem r169_117 : zr 169 117 [v0, v1] st u P = zr 169 118 [v0, v1] (.int 1 :: st) u P := zr_I k169_117
theorem k169_118 : xcd 169 118 = oB (fun x y => x - y) 119 := rfl
theorem r169_118 : zr 169 118 [v0, v1] (.int y1 :: .int y2 :: st) u P = zr 169 119 [v0, v1] (.int (y2 - y1) :: st) u P := zr_B k169_118
theorem k169_119 : xcd 169 119 = oPI 2 0 122 := rfl
theorem r169_119 : zr 169 119 [v0, v1] (.int y1 :: .ref b1 :: st) u P = (xIs u b1 2 ∧ zr 169 122 [v0, v1] st (xsI u b1 0 y1) P) := zr_PI k169_119
theorem k169_122 : xcd 169 122 = oGoto 144 := rfl
theorem r169_122 : zr 169 122 [v0, v1] st u P = zr 169 144 [v0, v1] st u P := zr_Goto k169_122
theorem k169_125 : xcd 169 125 = oAl 0 126 := rfl
theorem r169_125 : zr 169 125 [.ref a0, v1] st u P = zr 169 126 [.ref a0, v1] (.ref a0 :: st) u P := zr_Al k169_125 rfl
theorem k169_126 : xcd 169 126 = oGR 10 1 129 := rfl
theorem r169_126 : zr 169 126 [v0, v1] (.ref b1 :: st) u P = (xIs u b1 10 ∧ ∃ b, xR u b1 1 = some b ∧ zr 169 129 [v0, v1] (.ref b :: st) u P) := zr_GR k169_126
theorem k169_129 : xcd 169 129 = oGR 3 1 132 := rfl
theorem r169_129 : zr 169 129 [v0, v1] (.ref b1 :: st) u P = (xIs u b1 3 ∧ ∃ b, xR u b1 1 = some b ∧ zr 169 132 [v0, v1] (.ref b :: st) u P) := zr_GR k169_129
theorem k169_132 : xcd 169 132 = oGR 9 2 135 := rfl
theorem r169_132 : zr 169 132 [v0, v1] (.ref b1 :: st) u P = (xIs u b1 9 ∧ ∃ b, xR u b1 2 = some b ∧ zr 169 135 [v0, v1] (.ref b :: st) u P) := zr_GR k169_132
theorem k169_135 : xcd 169 135 = oDup 136 := rfl
theorem r169_135 : zr 169 135 [v0, v1] (.ref b1 :: st) u P = zr 169 136 [v0, v1] (.ref b1 :: .ref b1 :: st) u P := zr_DupA k169_135
theorem k169_136 : xcd 169 136 = oGI 6 0 139 := rfl
theorem r169_136 : zr 169 136 [v0, v1] (.ref b1 :: st) u P = (xIs u b1 6 ∧ zr 169 139 [v0, v1] (.int (xI u b1 0) :: st) u P) := zr_GI k169_136
theorem k169_139 : xcd 169 139 = oI 1 140 := rfl
theorem r169_139 : zr 169 139 [v0, v1] st u P = zr 169 140 [v0, v1] (.int 1 :: st) u P := zr_I k169_139
theorem k169_140 : xcd 169 140 = oB (fun x y => x - y) 141 := rfl
theorem r169_140 : zr 169 140 [v0, v1] (.int y1 :: .int y2 :: st) u P = zr 169 141 [v0, v1] (.int (y2 - y1) :: st) u P := zr_B k169_140
theorem k169_141 : xcd 169 141 = oPI 6 0 144 := rfl
theorem r169_141 : zr 169 141 [v0, v1] (.int y1 :: .ref b1 :: st) u P = (xIs u b1 6 ∧ zr 169 144 [v0, v1] st (xsI u b1 0 y1) P) := zr_PI k169_141
theorem k169_144 : xcd 169 144 = oRv 0 := rfl
theorem r169_144 : zr 169 144 [v0, v1] [] u P = P none u := zr_Rv k169_144
theorem k171_0 : xcd 171 0 = oAl 0 1 := rfl
theorem r171_0 : zr 171 0 [.ref a0] st u P = zr 171 1 [.ref a0] (.ref a0 :: st) u P := zr_Al k171_0 rfl
theorem k171_1 : xcd 171 1 = oGI 11 0 4 := rfl
theorem r171_1 : zr 171 1 [v0] (.ref b1 :: st) u P = (xIs u b1 11 ∧ zr 171 4 [v0] (.int (xI u b1 0) :: st) u P) := zr_GI k171_1
theorem k171_4 : xcd 171 4 = oRi 0 := rfl
theorem r171_4 : zr 171 4 [v0] [.int y1] u P = P (some (.int y1)) u := zr_Ri k171_4
theorem k172_0 : xcd 172 0 = oAl 0 1 := rfl
theorem r172_0 : zr 172 0 [.ref a0, v1] st u P = zr 172 1 [.ref a0, v1] (.ref a0 :: st) u P := zr_Al k172_0 rfl
theorem k172_1 : xcd 172 1 = oIl 1 2 := rfl
theorem r172_1 : zr 172 1 [v0, .int x1] st u P = zr 172 2 [v0, .int x1] (.int x1 :: st) u P := zr_Il k172_1 rfl
theorem k172_2 : xcd 172 2 = oPI 11 1 5 := rfl
theorem r172_2 : zr 172 2 [v0, v1] (.int y1 :: .ref b1 :: st) u P = (xIs u b1 11 ∧ zr 172 5 [v0, v1] st (xsI u b1 1 y1) P) := zr_PI k172_2
theorem k172_5 : xcd 172 5 = oAl 0 6 := rfl
theorem r172_5 : zr 172 5 [.ref a0, v1] st u P = zr 172 6 [.ref a0, v1] (.ref a0 :: st) u P := zr_Al k172_5 rfl
theorem k172_6 : xcd 172 6 = oI (-1) 7 := rfl
theorem r172_6 : zr 172 6 [v0, v1] st u P = zr 172 7 [v0, v1] (.int (-1) :: st) u P := zr_I k172_6
theorem k172_7 : xcd 172 7 = oPI 11 2 10 := rfl
theorem r172_7 : zr 172 7 [v0, v1] (.int y1 :: .ref b1 :: st) u P = (xIs u b1 11 ∧ zr 172 10 [v0, v1] st (xsI u b1 2 y1) P) := zr_PI k172_7
theorem k172_10 : xcd 172 10 = oI (-1) 11 := rfl
theorem r172_10 : zr 172 10 [v0, v1] st u P = zr 172 11 [v0, v1] (.int (-1) :: st) u P := zr_I k172_10
theorem k172_11 : xcd 172 11 = oRi 0 := rfl
theorem r172_11 : zr 172 11 [v0, v1] [.int y1] u P = P (some (.int y1)) u := zr_Ri k172_11
theorem k173_0 : xcd 173 0 = oAl 0 1 := rfl
theorem r173_0 : zr 173 0 [.ref a0, v1] st u P = zr 173 1 [.ref a0, v1] (.ref a0 :: st) u P := zr_Al k173_0 rfl
theorem k173_1 : xcd 173 1 = oIl 1 2 := rfl
theorem r173_1 : zr 173 1 [v0, .int x1] st u P = zr 173 2 [v0, .int x1] (.int x1 :: st) u P := zr_Il k173_1 rfl
theorem k173_2 : xcd 173 2 = oCalV 11 172 1 5 := rfl
theorem r173_2 : zr 173 2 [v0, v1] (.int y1 :: .ref b8 :: st) u P = ((xIs u b8 11 ∧ xcat st ≤ 8) ∧ zr 172 0 [.ref b8, .int y1] [] u (fun r u2 => zr 173 5 [v0, v1] (r.toList ++ st) u2 P)) := zr_CV k173_2 rfl rfl rfl ⟨Nat.le_of_ble_eq_true rfl, Nat.succ_ne_zero _, by decide⟩ rfl
theorem k173_5 : xcd 173 5 = oPop 6 := rfl
theorem r173_5 : zr 173 5 [v0, v1] (.int y1 :: st) u P = zr 173 6 [v0, v1] st u P := zr_PopI k173_5
theorem k173_6 : xcd 173 6 = oI (-2147483648) 8 := rfl
theorem r173_6 : zr 173 6 [v0, v1] st u P = zr 173 8 [v0, v1] (.int (-2147483648) :: st) u P := zr_I k173_6
theorem k173_8 : xcd 173 8 = oRi 0 := rfl
theorem r173_8 : zr 173 8 [v0, v1] [.int y1] u P = P (some (.int y1)) u := zr_Ri k173_8
theorem k174_0 : xcd 174 0 = oAl 0 1 := rfl
theorem r174_0 : zr 174 0 [.ref a0, v1] st u P = zr 174 1 [.ref a0, v1] (.ref a0 :: st) u P := zr_Al k174_0 rfl
theorem k174_1 : xcd 174 1 = oI 0 2 := rfl
theorem r174_1 : zr 174 1 [v0, v1] st u P = zr 174 2 [v0, v1] (.int 0 :: st) u P := zr_I k174_1
theorem k174_2 : xcd 174 2 = oPI 11 1 5 := rfl
theorem r174_2 : zr 174 2 [v0, v1] (.int y1 :: .ref b1 :: st) u P = (xIs u b1 11 ∧ zr 174 5 [v0, v1] st (xsI u b1 1 y1) P) := zr_PI k174_2
theorem k174_5 : xcd 174 5 = oAl 0 6 := rfl
theorem r174_5 : zr 174 5 [.ref a0, v1] st u P = zr 174 6 [.ref a0, v1] (.ref a0 :: st) u P := zr_Al k174_5 rfl
theorem k174_6 : xcd 174 6 = oI (-1) 7 := rfl
theorem r174_6 : zr 174 6 [v0, v1] st u P = zr 174 7 [v0, v1] (.int (-1) :: st) u P := zr_I k174_6
theorem k174_7 : xcd 174 7 = oPI 11 2 10 := rfl
theorem r174_7 : zr 174 7 [v0, v1] (.int y1 :: .ref b1 :: st) u P = (xIs u b1 11 ∧ zr 174 10 [v0, v1] st (xsI u b1 2 y1) P) := zr_PI k174_7
theorem k174_10 : xcd 174 10 = oIl 1 11 := rfl
theorem r174_10 : zr 174 10 [v0, .int x1] st u P = zr 174 11 [v0, .int x1] (.int x1 :: st) u P := zr_Il k174_10 rfl
theorem k174_11 : xcd 174 11 = oRi 0 := rfl
theorem r174_11 : zr 174 11 [v0, v1] [.int y1] u P = P (some (.int y1)) u := zr_Ri k174_11
theorem k175_0 : xcd 175 0 = oIl 0 1 := rfl
theorem r175_0 : zr 175 0 [.int x0, v1, v2] st u P = zr 175 1 [.int x0, v1, v2] (.int x0 :: st) u P := zr_Il k175_0 rfl
theorem k175_1 : xcd 175 1 = oIl 1 2 := rfl
theorem r175_1 : zr 175 1 [v0, .int x1, v2] st u P = zr 175 2 [v0, .int x1, v2] (.int x1 :: st) u P := zr_Il k175_1 rfl
theorem k175_2 : xcd 175 2 = oCmp (fun x y => decide (x < y)) 14 5 := rfl
theorem r175_2 : zr 175 2 [v0, v1, v2] (.int y1 :: .int y2 :: st) u P = (if y2 < y1 then zr 175 14 [v0, v1, v2] st u P else zr 175 5 [v0, v1, v2] st u P) := zr_Cmp k175_2
theorem k175_5 : xcd 175 5 = oIl 0 6 := rfl
theorem r175_5 : zr 175 5 [.int x0, v1, v2] st u P = zr 175 6 [.int x0, v1, v2] (.int x0 :: st) u P := zr_Il k175_5 rfl
theorem k175_6 : xcd 175 6 = oIl 2 7 := rfl
theorem r175_6 : zr 175 6 [v0, v1, .int x2] st u P = zr 175 7 [v0, v1, .int x2] (.int x2 :: st) u P := zr_Il k175_6 rfl
theorem k175_7 : xcd 175 7 = oCmp (fun x y => decide (y < x)) 14 10 := rfl
theorem r175_7 : zr 175 7 [v0, v1, v2] (.int y1 :: .int y2 :: st) u P = (if y1 < y2 then zr 175 14 [v0, v1, v2] st u P else zr 175 10 [v0, v1, v2] st u P) := zr_Cmp k175_7
theorem k175_10 : xcd 175 10 = oI 1 11 := rfl
theorem r175_10 : zr 175 10 [v0, v1, v2] st u P = zr 175 11 [v0, v1, v2] (.int 1 :: st) u P := zr_I k175_10
theorem k175_11 : xcd 175 11 = oGoto 15 := rfl
theorem r175_11 : zr 175 11 [v0, v1, v2] st u P = zr 175 15 [v0, v1, v2] st u P := zr_Goto k175_11
theorem k175_14 : xcd 175 14 = oI 0 15 := rfl
theorem r175_14 : zr 175 14 [v0, v1, v2] st u P = zr 175 15 [v0, v1, v2] (.int 0 :: st) u P := zr_I k175_14
theorem k175_15 : xcd 175 15 = oRz 0 := rfl
theorem r175_15 : zr 175 15 [v0, v1, v2] [.int y1] u P = ((y1 = 0 ∨ y1 = 1) ∧ P (some (.int y1)) u) := zr_Rz k175_15
theorem k176_0 : xcd 176 0 = oIl 1 1 := rfl
theorem r176_0 : zr 176 0 [v0, .int x1] st u P = zr 176 1 [v0, .int x1] (.int x1 :: st) u P := zr_Il k176_0 rfl
theorem k176_1 : xcd 176 1 = oAl 0 2 := rfl
theorem r176_1 : zr 176 1 [.ref a0, v1] st u P = zr 176 2 [.ref a0, v1] (.ref a0 :: st) u P := zr_Al k176_1 rfl
theorem k176_2 : xcd 176 2 = oGI 11 10 5 := rfl
theorem r176_2 : zr 176 2 [v0, v1] (.ref b1 :: st) u P = (xIs u b1 11 ∧ zr 176 5 [v0, v1] (.int (xI u b1 10) :: st) u P) := zr_GI k176_2
theorem k176_5 : xcd 176 5 = oCmp (fun x y => decide (y ≤ x)) 21 8 := rfl
theorem r176_5 : zr 176 5 [v0, v1] (.int y1 :: .int y2 :: st) u P = (if y1 ≤ y2 then zr 176 21 [v0, v1] st u P else zr 176 8 [v0, v1] st u P) := zr_Cmp k176_5
theorem k176_8 : xcd 176 8 = oAl 0 9 := rfl
theorem r176_8 : zr 176 8 [.ref a0, v1] st u P = zr 176 9 [.ref a0, v1] (.ref a0 :: st) u P := zr_Al k176_8 rfl
theorem k176_9 : xcd 176 9 = oGR 11 8 12 := rfl
theorem r176_9 : zr 176 9 [v0, v1] (.ref b1 :: st) u P = (xIs u b1 11 ∧ ∃ b, xR u b1 8 = some b ∧ zr 176 12 [v0, v1] (.ref b :: st) u P) := zr_GR k176_9
theorem k176_12 : xcd 176 12 = oIl 1 13 := rfl
theorem r176_12 : zr 176 12 [v0, .int x1] st u P = zr 176 13 [v0, .int x1] (.int x1 :: st) u P := zr_Il k176_12 rfl
theorem k176_13 : xcd 176 13 = oLd 12 14 := rfl
theorem r176_13 : zr 176 13 [v0, v1] (.int y1 :: .ref b1 :: st) u P = ((xIs u b1 12 ∧ xinb y1 (xN u b1)) ∧ zr 176 14 [v0, v1] (.int (xI u b1 (xix y1)) :: st) u P) := zr_Ld k176_13
theorem k176_14 : xcd 176 14 = oI 255 17 := rfl
theorem r176_14 : zr 176 14 [v0, v1] st u P = zr 176 17 [v0, v1] (.int 255 :: st) u P := zr_I k176_14
theorem k176_17 : xcd 176 17 = oB (fun x y => x &&& y) 18 := rfl
theorem r176_17 : zr 176 17 [v0, v1] (.int y1 :: .int y2 :: st) u P = zr 176 18 [v0, v1] (.int (y2 &&& y1) :: st) u P := zr_B k176_17
theorem k176_18 : xcd 176 18 = oGoto 22 := rfl
theorem r176_18 : zr 176 18 [v0, v1] st u P = zr 176 22 [v0, v1] st u P := zr_Goto k176_18
theorem k176_21 : xcd 176 21 = oI (-1) 22 := rfl
theorem r176_21 : zr 176 21 [v0, v1] st u P = zr 176 22 [v0, v1] (.int (-1) :: st) u P := zr_I k176_21
theorem k176_22 : xcd 176 22 = oRi 0 := rfl
theorem r176_22 : zr 176 22 [v0, v1] [.int y1] u P = P (some (.int y1)) u := zr_Ri k176_22
theorem k177_0 : xcd 177 0 = oAl 0 1 := rfl
theorem r177_0 : zr 177 0 [.ref a0, v1] st u P = zr 177 1 [.ref a0, v1] (.ref a0 :: st) u P := zr_Al k177_0 rfl
theorem k177_1 : xcd 177 1 = oGI 11 15 4 := rfl
theorem r177_1 : zr 177 1 [v0, v1] (.ref b1 :: st) u P = (xIs u b1 11 ∧ zr 177 4 [v0, v1] (.int (xI u b1 15) :: st) u P) := zr_GI k177_1
theorem k177_4 : xcd 177 4 = oIf (fun x => decide (x ≤ 0)) 8 7 := rfl
theorem r177_4 : zr 177 4 [v0, v1] (.int y1 :: st) u P = (if y1 ≤ 0 then zr 177 8 [v0, v1] st u P else zr 177 7 [v0, v1] st u P) := zr_If k177_4
theorem k177_7 : xcd 177 7 = oRv 0 := rfl
theorem r177_7 : zr 177 7 [v0, v1] [] u P = P none u := zr_Rv k177_7
theorem k177_8 : xcd 177 8 = oAl 0 9 := rfl
theorem r177_8 : zr 177 8 [.ref a0, v1] st u P = zr 177 9 [.ref a0, v1] (.ref a0 :: st) u P := zr_Al k177_8 rfl
theorem k177_9 : xcd 177 9 = oAl 0 10 := rfl
theorem r177_9 : zr 177 9 [.ref a0, v1] st u P = zr 177 10 [.ref a0, v1] (.ref a0 :: st) u P := zr_Al k177_9 rfl
theorem k177_10 : xcd 177 10 = oGI 11 11 13 := rfl
theorem r177_10 : zr 177 10 [v0, v1] (.ref b1 :: st) u P = (xIs u b1 11 ∧ zr 177 13 [v0, v1] (.int (xI u b1 11) :: st) u P) := zr_GI k177_10
theorem k177_13 : xcd 177 13 = oCalV 11 176 1 16 := rfl
theorem r177_13 : zr 177 13 [v0, v1] (.int y1 :: .ref b8 :: st) u P = ((xIs u b8 11 ∧ xcat st ≤ 8) ∧ zr 176 0 [.ref b8, .int y1] [] u (fun r u2 => zr 177 16 [v0, v1] (r.toList ++ st) u2 P)) := zr_CV k177_13 rfl rfl rfl ⟨Nat.le_of_ble_eq_true rfl, Nat.succ_ne_zero _, by decide⟩ rfl
theorem k177_16 : xcd 177 16 = oI 32 18 := rfl
theorem r177_16 : zr 177 16 [v0, v1] st u P = zr 177 18 [v0, v1] (.int 32 :: st) u P := zr_I k177_16
theorem k177_18 : xcd 177 18 = oCmp (fun x y => decide (¬ x = y)) 34 21 := rfl
theorem r177_18 : zr 177 18 [v0, v1] (.int y1 :: .int y2 :: st) u P = (if ¬ y2 = y1 then zr 177 34 [v0, v1] st u P else zr 177 21 [v0, v1] st u P) := zr_Cmp k177_18
theorem k177_21 : xcd 177 21 = oAl 0 22 := rfl
theorem r177_21 : zr 177 21 [.ref a0, v1] st u P = zr 177 22 [.ref a0, v1] (.ref a0 :: st) u P := zr_Al k177_21 rfl
theorem k177_22 : xcd 177 22 = oDup 23 := rfl
theorem r177_22 : zr 177 22 [v0, v1] (.ref b1 :: st) u P = zr 177 23 [v0, v1] (.ref b1 :: .ref b1 :: st) u P := zr_DupA k177_22
theorem k177_23 : xcd 177 23 = oGI 11 11 26 := rfl
theorem r177_23 : zr 177 23 [v0, v1] (.ref b1 :: st) u P = (xIs u b1 11 ∧ zr 177 26 [v0, v1] (.int (xI u b1 11) :: st) u P) := zr_GI k177_23
theorem k177_26 : xcd 177 26 = oI 1 27 := rfl
theorem r177_26 : zr 177 26 [v0, v1] st u P = zr 177 27 [v0, v1] (.int 1 :: st) u P := zr_I k177_26
theorem k177_27 : xcd 177 27 = oB (fun x y => x + y) 28 := rfl
theorem r177_27 : zr 177 27 [v0, v1] (.int y1 :: .int y2 :: st) u P = zr 177 28 [v0, v1] (.int (y2 + y1) :: st) u P := zr_B k177_27
theorem k177_28 : xcd 177 28 = oPI 11 11 31 := rfl
theorem r177_28 : zr 177 28 [v0, v1] (.int y1 :: .ref b1 :: st) u P = (xIs u b1 11 ∧ zr 177 31 [v0, v1] st (xsI u b1 11 y1) P) := zr_PI k177_28
theorem k177_31 : xcd 177 31 = oGoto 8 := rfl
theorem r177_31 : zr 177 31 [v0, v1] st u P = zr 177 8 [v0, v1] st u P := zr_Goto k177_31
theorem k177_34 : xcd 177 34 = oAl 0 35 := rfl
theorem r177_34 : zr 177 34 [.ref a0, v1] st u P = zr 177 35 [.ref a0, v1] (.ref a0 :: st) u P := zr_Al k177_34 rfl
theorem k177_35 : xcd 177 35 = oAl 0 36 := rfl
theorem r177_35 : zr 177 35 [.ref a0, v1] st u P = zr 177 36 [.ref a0, v1] (.ref a0 :: st) u P := zr_Al k177_35 rfl
theorem k177_36 : xcd 177 36 = oGI 11 11 39 := rfl
theorem r177_36 : zr 177 36 [v0, v1] (.ref b1 :: st) u P = (xIs u b1 11 ∧ zr 177 39 [v0, v1] (.int (xI u b1 11) :: st) u P) := zr_GI k177_36
theorem k177_39 : xcd 177 39 = oPI 11 13 42 := rfl
theorem r177_39 : zr 177 39 [v0, v1] (.int y1 :: .ref b1 :: st) u P = (xIs u b1 11 ∧ zr 177 42 [v0, v1] st (xsI u b1 13 y1) P) := zr_PI k177_39
theorem k177_42 : xcd 177 42 = oAl 0 43 := rfl
theorem r177_42 : zr 177 42 [.ref a0, v1] st u P = zr 177 43 [.ref a0, v1] (.ref a0 :: st) u P := zr_Al k177_42 rfl
theorem k177_43 : xcd 177 43 = oAl 0 44 := rfl
theorem r177_43 : zr 177 43 [.ref a0, v1] st u P = zr 177 44 [.ref a0, v1] (.ref a0 :: st) u P := zr_Al k177_43 rfl
theorem k177_44 : xcd 177 44 = oGI 11 11 47 := rfl
theorem r177_44 : zr 177 44 [v0, v1] (.ref b1 :: st) u P = (xIs u b1 11 ∧ zr 177 47 [v0, v1] (.int (xI u b1 11) :: st) u P) := zr_GI k177_44
theorem k177_47 : xcd 177 47 = oCalV 11 176 1 50 := rfl
theorem r177_47 : zr 177 47 [v0, v1] (.int y1 :: .ref b8 :: st) u P = ((xIs u b8 11 ∧ xcat st ≤ 8) ∧ zr 176 0 [.ref b8, .int y1] [] u (fun r u2 => zr 177 50 [v0, v1] (r.toList ++ st) u2 P)) := zr_CV k177_47 rfl rfl rfl ⟨Nat.le_of_ble_eq_true rfl, Nat.succ_ne_zero _, by decide⟩ rfl
theorem k177_50 : xcd 177 50 = oIs 1 51 := rfl
theorem r177_50 : zr 177 50 [.ref a0, v1] (.int y1 :: st) u P = zr 177 51 [.ref a0, .int y1] st u P := zr_Is k177_50 ⟨Nat.le_of_ble_eq_true rfl, rfl⟩
theorem k177_51 : xcd 177 51 = oIl 1 52 := rfl
theorem r177_51 : zr 177 51 [v0, .int x1] st u P = zr 177 52 [v0, .int x1] (.int x1 :: st) u P := zr_Il k177_51 rfl
theorem k177_52 : xcd 177 52 = oI (-1) 53 := rfl
theorem r177_52 : zr 177 52 [v0, v1] st u P = zr 177 53 [v0, v1] (.int (-1) :: st) u P := zr_I k177_52
theorem k177_53 : xcd 177 53 = oCmp (fun x y => decide (¬ x = y)) 64 56 := rfl
theorem r177_53 : zr 177 53 [v0, v1] (.int y1 :: .int y2 :: st) u P = (if ¬ y2 = y1 then zr 177 64 [v0, v1] st u P else zr 177 56 [v0, v1] st u P) := zr_Cmp k177_53
theorem k177_56 : xcd 177 56 = oAl 0 57 := rfl
theorem r177_56 : zr 177 56 [.ref a0, v1] st u P = zr 177 57 [.ref a0, v1] (.ref a0 :: st) u P := zr_Al k177_56 rfl
theorem k177_57 : xcd 177 57 = oI 1 58 := rfl
theorem r177_57 : zr 177 57 [v0, v1] st u P = zr 177 58 [v0, v1] (.int 1 :: st) u P := zr_I k177_57
theorem k177_58 : xcd 177 58 = oPI 11 12 61 := rfl
theorem r177_58 : zr 177 58 [v0, v1] (.int y1 :: .ref b1 :: st) u P = (xIs u b1 11 ∧ zr 177 61 [v0, v1] st (xsI u b1 12 y1) P) := zr_PI k177_58
theorem k177_61 : xcd 177 61 = oGoto 105 := rfl
theorem r177_61 : zr 177 61 [v0, v1] st u P = zr 177 105 [v0, v1] st u P := zr_Goto k177_61
theorem k177_64 : xcd 177 64 = oIl 1 65 := rfl
theorem r177_64 : zr 177 64 [v0, .int x1] st u P = zr 177 65 [v0, .int x1] (.int x1 :: st) u P := zr_Il k177_64 rfl
theorem k177_65 : xcd 177 65 = oI 97 67 := rfl
theorem r177_65 : zr 177 65 [v0, v1] st u P = zr 177 67 [v0, v1] (.int 97 :: st) u P := zr_I k177_65
theorem k177_67 : xcd 177 67 = oI 122 69 := rfl
theorem r177_67 : zr 177 67 [v0, v1] st u P = zr 177 69 [v0, v1] (.int 122 :: st) u P := zr_I k177_67
theorem k177_69 : xcd 177 69 = oCal 175 3 72 := rfl
theorem r177_69 : zr 177 69 [v0, v1] (.int y3 :: .int y2 :: .int y1 :: st) u P = (xcat st ≤ 8 ∧ zr 175 0 [.int y1, .int y2, .int y3] [] u (fun r u2 => zr 177 72 [v0, v1] (r.toList ++ st) u2 P)) := zr_CS k177_69 (Nat.le_add_left _ _) rfl rfl ⟨Nat.le_of_ble_eq_true rfl, Nat.succ_ne_zero _, by decide⟩ rfl
theorem k177_72 : xcd 177 72 = oIf (fun x => decide (x = 0)) 82 75 := rfl
theorem r177_72 : zr 177 72 [v0, v1] (.int y1 :: st) u P = (if y1 = 0 then zr 177 82 [v0, v1] st u P else zr 177 75 [v0, v1] st u P) := zr_If k177_72
theorem k177_75 : xcd 177 75 = oAl 0 76 := rfl
theorem r177_75 : zr 177 75 [.ref a0, v1] st u P = zr 177 76 [.ref a0, v1] (.ref a0 :: st) u P := zr_Al k177_75 rfl
theorem k177_76 : xcd 177 76 = oCalV 11 178 0 79 := rfl
theorem r177_76 : zr 177 76 [v0, v1] (.ref b8 :: st) u P = ((xIs u b8 11 ∧ xcat st ≤ 8) ∧ zr 178 0 [.ref b8] [] u (fun r u2 => zr 177 79 [v0, v1] (r.toList ++ st) u2 P)) := zr_CV k177_76 rfl rfl rfl ⟨Nat.le_of_ble_eq_true rfl, Nat.succ_ne_zero _, by decide⟩ rfl
theorem k177_79 : xcd 177 79 = oGoto 105 := rfl
theorem r177_79 : zr 177 79 [v0, v1] st u P = zr 177 105 [v0, v1] st u P := zr_Goto k177_79
theorem k177_82 : xcd 177 82 = oIl 1 83 := rfl
theorem r177_82 : zr 177 82 [v0, .int x1] st u P = zr 177 83 [v0, .int x1] (.int x1 :: st) u P := zr_Il k177_82 rfl
theorem k177_83 : xcd 177 83 = oI 48 85 := rfl
theorem r177_83 : zr 177 83 [v0, v1] st u P = zr 177 85 [v0, v1] (.int 48 :: st) u P := zr_I k177_83
theorem k177_85 : xcd 177 85 = oI 57 87 := rfl
theorem r177_85 : zr 177 85 [v0, v1] st u P = zr 177 87 [v0, v1] (.int 57 :: st) u P := zr_I k177_85
theorem k177_87 : xcd 177 87 = oCal 175 3 90 := rfl
theorem r177_87 : zr 177 87 [v0, v1] (.int y3 :: .int y2 :: .int y1 :: st) u P = (xcat st ≤ 8 ∧ zr 175 0 [.int y1, .int y2, .int y3] [] u (fun r u2 => zr 177 90 [v0, v1] (r.toList ++ st) u2 P)) := zr_CS k177_87 (Nat.le_add_left _ _) rfl rfl ⟨Nat.le_of_ble_eq_true rfl, Nat.succ_ne_zero _, by decide⟩ rfl
theorem k177_90 : xcd 177 90 = oIf (fun x => decide (x = 0)) 100 93 := rfl
theorem r177_90 : zr 177 90 [v0, v1] (.int y1 :: st) u P = (if y1 = 0 then zr 177 100 [v0, v1] st u P else zr 177 93 [v0, v1] st u P) := zr_If k177_90
theorem k177_93 : xcd 177 93 = oAl 0 94 := rfl
theorem r177_93 : zr 177 93 [.ref a0, v1] st u P = zr 177 94 [.ref a0, v1] (.ref a0 :: st) u P := zr_Al k177_93 rfl
theorem k177_94 : xcd 177 94 = oCalV 11 179 0 97 := rfl
theorem r177_94 : zr 177 94 [v0, v1] (.ref b8 :: st) u P = ((xIs u b8 11 ∧ xcat st ≤ 8) ∧ zr 179 0 [.ref b8] [] u (fun r u2 => zr 177 97 [v0, v1] (r.toList ++ st) u2 P)) := zr_CV k177_94 rfl rfl rfl ⟨Nat.le_of_ble_eq_true rfl, Nat.succ_ne_zero _, by decide⟩ rfl
theorem k177_97 : xcd 177 97 = oGoto 105 := rfl
theorem r177_97 : zr 177 97 [v0, v1] st u P = zr 177 105 [v0, v1] st u P := zr_Goto k177_97
theorem k177_100 : xcd 177 100 = oAl 0 101 := rfl
theorem r177_100 : zr 177 100 [.ref a0, v1] st u P = zr 177 101 [.ref a0, v1] (.ref a0 :: st) u P := zr_Al k177_100 rfl
theorem k177_101 : xcd 177 101 = oIl 1 102 := rfl
theorem r177_101 : zr 177 101 [v0, .int x1] st u P = zr 177 102 [v0, .int x1] (.int x1 :: st) u P := zr_Il k177_101 rfl
theorem k177_102 : xcd 177 102 = oCalV 11 180 1 105 := rfl
theorem r177_102 : zr 177 102 [v0, v1] (.int y1 :: .ref b8 :: st) u P = ((xIs u b8 11 ∧ xcat st ≤ 8) ∧ zr 180 0 [.ref b8, .int y1] [] u (fun r u2 => zr 177 105 [v0, v1] (r.toList ++ st) u2 P)) := zr_CV k177_102 rfl rfl rfl ⟨Nat.le_of_ble_eq_true rfl, Nat.succ_ne_zero _, by decide⟩ rfl
theorem k177_105 : xcd 177 105 = oRv 0 := rfl
theorem r177_105 : zr 177 105 [v0, v1] [] u P = P none u := zr_Rv k177_105
theorem k178_0 : xcd 178 0 = oAl 0 1 := rfl
theorem r178_0 : zr 178 0 [.ref a0] st u P = zr 178 1 [.ref a0] (.ref a0 :: st) u P := zr_Al k178_0 rfl
theorem k178_1 : xcd 178 1 = oJ 0 2 := rfl
theorem r178_1 : zr 178 1 [v0] st u P = zr 178 2 [v0] (.long 0 :: st) u P := zr_J k178_1
theorem k178_2 : xcd 178 2 = oPJ 11 16 5 := rfl
theorem r178_2 : zr 178 2 [v0] (.long w1 :: .ref b1 :: st) u P = (xIs u b1 11 ∧ zr 178 5 [v0] st (xsJ u b1 16 w1) P) := zr_PJ k178_2
theorem k178_5 : xcd 178 5 = oAl 0 6 := rfl
theorem r178_5 : zr 178 5 [.ref a0] st u P = zr 178 6 [.ref a0] (.ref a0 :: st) u P := zr_Al k178_5 rfl
theorem k178_6 : xcd 178 6 = oAl 0 7 := rfl
theorem r178_6 : zr 178 6 [.ref a0] st u P = zr 178 7 [.ref a0] (.ref a0 :: st) u P := zr_Al k178_6 rfl
theorem k178_7 : xcd 178 7 = oGI 11 11 10 := rfl
theorem r178_7 : zr 178 7 [v0] (.ref b1 :: st) u P = (xIs u b1 11 ∧ zr 178 10 [v0] (.int (xI u b1 11) :: st) u P) := zr_GI k178_7
theorem k178_10 : xcd 178 10 = oCalV 11 176 1 13 := rfl
theorem r178_10 : zr 178 10 [v0] (.int y1 :: .ref b8 :: st) u P = ((xIs u b8 11 ∧ xcat st ≤ 8) ∧ zr 176 0 [.ref b8, .int y1] [] u (fun r u2 => zr 178 13 [v0] (r.toList ++ st) u2 P)) := zr_CV k178_10 rfl rfl rfl ⟨Nat.le_of_ble_eq_true rfl, Nat.succ_ne_zero _, by decide⟩ rfl
theorem k178_13 : xcd 178 13 = oI 97 15 := rfl
theorem r178_13 : zr 178 13 [v0] st u P = zr 178 15 [v0] (.int 97 :: st) u P := zr_I k178_13
theorem k178_15 : xcd 178 15 = oI 122 17 := rfl
theorem r178_15 : zr 178 15 [v0] st u P = zr 178 17 [v0] (.int 122 :: st) u P := zr_I k178_15
theorem k178_17 : xcd 178 17 = oCal 175 3 20 := rfl
theorem r178_17 : zr 178 17 [v0] (.int y3 :: .int y2 :: .int y1 :: st) u P = (xcat st ≤ 8 ∧ zr 175 0 [.int y1, .int y2, .int y3] [] u (fun r u2 => zr 178 20 [v0] (r.toList ++ st) u2 P)) := zr_CS k178_17 (Nat.le_add_left _ _) rfl rfl ⟨Nat.le_of_ble_eq_true rfl, Nat.succ_ne_zero _, by decide⟩ rfl
theorem k178_20 : xcd 178 20 = oIf (fun x => decide (x = 0)) 71 23 := rfl
theorem r178_20 : zr 178 20 [v0] (.int y1 :: st) u P = (if y1 = 0 then zr 178 71 [v0] st u P else zr 178 23 [v0] st u P) := zr_If k178_20
theorem k178_23 : xcd 178 23 = oAl 0 24 := rfl
theorem r178_23 : zr 178 23 [.ref a0] st u P = zr 178 24 [.ref a0] (.ref a0 :: st) u P := zr_Al k178_23 rfl
theorem k178_24 : xcd 178 24 = oGI 11 11 27 := rfl
theorem r178_24 : zr 178 24 [v0] (.ref b1 :: st) u P = (xIs u b1 11 ∧ zr 178 27 [v0] (.int (xI u b1 11) :: st) u P) := zr_GI k178_24
theorem k178_27 : xcd 178 27 = oAl 0 28 := rfl
theorem r178_27 : zr 178 27 [.ref a0] st u P = zr 178 28 [.ref a0] (.ref a0 :: st) u P := zr_Al k178_27 rfl
theorem k178_28 : xcd 178 28 = oGI 11 13 31 := rfl
theorem r178_28 : zr 178 28 [v0] (.ref b1 :: st) u P = (xIs u b1 11 ∧ zr 178 31 [v0] (.int (xI u b1 13) :: st) u P) := zr_GI k178_28
theorem k178_31 : xcd 178 31 = oB (fun x y => x - y) 32 := rfl
theorem r178_31 : zr 178 31 [v0] (.int y1 :: .int y2 :: st) u P = zr 178 32 [v0] (.int (y2 - y1) :: st) u P := zr_B k178_31
theorem k178_32 : xcd 178 32 = oI 7 34 := rfl
theorem r178_32 : zr 178 32 [v0] st u P = zr 178 34 [v0] (.int 7 :: st) u P := zr_I k178_32
theorem k178_34 : xcd 178 34 = oCmp (fun x y => decide (y ≤ x)) 58 37 := rfl
theorem r178_34 : zr 178 34 [v0] (.int y1 :: .int y2 :: st) u P = (if y1 ≤ y2 then zr 178 58 [v0] st u P else zr 178 37 [v0] st u P) := zr_Cmp k178_34
theorem k178_37 : xcd 178 37 = oAl 0 38 := rfl
theorem r178_37 : zr 178 37 [.ref a0] st u P = zr 178 38 [.ref a0] (.ref a0 :: st) u P := zr_Al k178_37 rfl
theorem k178_38 : xcd 178 38 = oAl 0 39 := rfl
theorem r178_38 : zr 178 38 [.ref a0] st u P = zr 178 39 [.ref a0] (.ref a0 :: st) u P := zr_Al k178_38 rfl
theorem k178_39 : xcd 178 39 = oGJ 11 16 42 := rfl
theorem r178_39 : zr 178 39 [v0] (.ref b1 :: st) u P = (xIs u b1 11 ∧ zr 178 42 [v0] (.long (xJ u b1 16) :: st) u P) := zr_GJ k178_39
theorem k178_42 : xcd 178 42 = oI 8 44 := rfl
theorem r178_42 : zr 178 42 [v0] st u P = zr 178 44 [v0] (.int 8 :: st) u P := zr_I k178_42
theorem k178_44 : xcd 178 44 = oLshl 45 := rfl
theorem r178_44 : zr 178 44 [v0] (.int y1 :: .long w1 :: st) u P = zr 178 45 [v0] (.long (w1 <<< (y1.toInt64 &&& 63)) :: st) u P := zr_Lshl k178_44
theorem k178_45 : xcd 178 45 = oAl 0 46 := rfl
theorem r178_45 : zr 178 45 [.ref a0] st u P = zr 178 46 [.ref a0] (.ref a0 :: st) u P := zr_Al k178_45 rfl
theorem k178_46 : xcd 178 46 = oAl 0 47 := rfl
theorem r178_46 : zr 178 46 [.ref a0] st u P = zr 178 47 [.ref a0] (.ref a0 :: st) u P := zr_Al k178_46 rfl
theorem k178_47 : xcd 178 47 = oGI 11 11 50 := rfl
theorem r178_47 : zr 178 47 [v0] (.ref b1 :: st) u P = (xIs u b1 11 ∧ zr 178 50 [v0] (.int (xI u b1 11) :: st) u P) := zr_GI k178_47
theorem k178_50 : xcd 178 50 = oCalV 11 176 1 53 := rfl
theorem r178_50 : zr 178 50 [v0] (.int y1 :: .ref b8 :: st) u P = ((xIs u b8 11 ∧ xcat st ≤ 8) ∧ zr 176 0 [.ref b8, .int y1] [] u (fun r u2 => zr 178 53 [v0] (r.toList ++ st) u2 P)) := zr_CV k178_50 rfl rfl rfl ⟨Nat.le_of_ble_eq_true rfl, Nat.succ_ne_zero _, by decide⟩ rfl
theorem k178_53 : xcd 178 53 = oI2l 54 := rfl
theorem r178_53 : zr 178 53 [v0] (.int y1 :: st) u P = zr 178 54 [v0] (.long y1.toInt64 :: st) u P := zr_I2l k178_53
theorem k178_54 : xcd 178 54 = oLB (fun x y => x ||| y) 55 := rfl
theorem r178_54 : zr 178 54 [v0] (.long w1 :: .long w2 :: st) u P = zr 178 55 [v0] (.long (w2 ||| w1) :: st) u P := zr_LB k178_54
theorem k178_55 : xcd 178 55 = oPJ 11 16 58 := rfl
theorem r178_55 : zr 178 55 [v0] (.long w1 :: .ref b1 :: st) u P = (xIs u b1 11 ∧ zr 178 58 [v0] st (xsJ u b1 16 w1) P) := zr_PJ k178_55
theorem k178_58 : xcd 178 58 = oAl 0 59 := rfl
theorem r178_58 : zr 178 58 [.ref a0] st u P = zr 178 59 [.ref a0] (.ref a0 :: st) u P := zr_Al k178_58 rfl
theorem k178_59 : xcd 178 59 = oDup 60 := rfl
theorem r178_59 : zr 178 59 [v0] (.ref b1 :: st) u P = zr 178 60 [v0] (.ref b1 :: .ref b1 :: st) u P := zr_DupA k178_59
theorem k178_60 : xcd 178 60 = oGI 11 11 63 := rfl
theorem r178_60 : zr 178 60 [v0] (.ref b1 :: st) u P = (xIs u b1 11 ∧ zr 178 63 [v0] (.int (xI u b1 11) :: st) u P) := zr_GI k178_60
theorem k178_63 : xcd 178 63 = oI 1 64 := rfl
theorem r178_63 : zr 178 63 [v0] st u P = zr 178 64 [v0] (.int 1 :: st) u P := zr_I k178_63
theorem k178_64 : xcd 178 64 = oB (fun x y => x + y) 65 := rfl
theorem r178_64 : zr 178 64 [v0] (.int y1 :: .int y2 :: st) u P = zr 178 65 [v0] (.int (y2 + y1) :: st) u P := zr_B k178_64
theorem k178_65 : xcd 178 65 = oPI 11 11 68 := rfl
theorem r178_65 : zr 178 65 [v0] (.int y1 :: .ref b1 :: st) u P = (xIs u b1 11 ∧ zr 178 68 [v0] st (xsI u b1 11 y1) P) := zr_PI k178_65
theorem k178_68 : xcd 178 68 = oGoto 5 := rfl
theorem r178_68 : zr 178 68 [v0] st u P = zr 178 5 [v0] st u P := zr_Goto k178_68
theorem k178_71 : xcd 178 71 = oAl 0 72 := rfl
theorem r178_71 : zr 178 71 [.ref a0] st u P = zr 178 72 [.ref a0] (.ref a0 :: st) u P := zr_Al k178_71 rfl
theorem k178_72 : xcd 178 72 = oAl 0 73 := rfl
theorem r178_72 : zr 178 72 [.ref a0] st u P = zr 178 73 [.ref a0] (.ref a0 :: st) u P := zr_Al k178_72 rfl
theorem k178_73 : xcd 178 73 = oGI 11 11 76 := rfl
theorem r178_73 : zr 178 73 [v0] (.ref b1 :: st) u P = (xIs u b1 11 ∧ zr 178 76 [v0] (.int (xI u b1 11) :: st) u P) := zr_GI k178_73
theorem k178_76 : xcd 178 76 = oAl 0 77 := rfl
theorem r178_76 : zr 178 76 [.ref a0] st u P = zr 178 77 [.ref a0] (.ref a0 :: st) u P := zr_Al k178_76 rfl
theorem k178_77 : xcd 178 77 = oGI 11 13 80 := rfl
theorem r178_77 : zr 178 77 [v0] (.ref b1 :: st) u P = (xIs u b1 11 ∧ zr 178 80 [v0] (.int (xI u b1 13) :: st) u P) := zr_GI k178_77
theorem k178_80 : xcd 178 80 = oB (fun x y => x - y) 81 := rfl
theorem r178_80 : zr 178 80 [v0] (.int y1 :: .int y2 :: st) u P = zr 178 81 [v0] (.int (y2 - y1) :: st) u P := zr_B k178_80
theorem k178_81 : xcd 178 81 = oI 7 83 := rfl
theorem r178_81 : zr 178 81 [v0] st u P = zr 178 83 [v0] (.int 7 :: st) u P := zr_I k178_81
theorem k178_83 : xcd 178 83 = oCmp (fun x y => decide (x ≤ y)) 90 86 := rfl
theorem r178_83 : zr 178 83 [v0] (.int y1 :: .int y2 :: st) u P = (if y2 ≤ y1 then zr 178 90 [v0] st u P else zr 178 86 [v0] st u P) := zr_Cmp k178_83
theorem k178_86 : xcd 178 86 = oI 0 87 := rfl
theorem r178_86 : zr 178 86 [v0] st u P = zr 178 87 [v0] (.int 0 :: st) u P := zr_I k178_86
theorem k178_87 : xcd 178 87 = oGoto 91 := rfl
theorem r178_87 : zr 178 87 [v0] st u P = zr 178 91 [v0] st u P := zr_Goto k178_87
theorem k178_90 : xcd 178 90 = oI 2 91 := rfl
theorem r178_90 : zr 178 90 [v0] st u P = zr 178 91 [v0] (.int 2 :: st) u P := zr_I k178_90
theorem k178_91 : xcd 178 91 = oPI 11 12 94 := rfl
theorem r178_91 : zr 178 91 [v0] (.int y1 :: .ref b1 :: st) u P = (xIs u b1 11 ∧ zr 178 94 [v0] st (xsI u b1 12 y1) P) := zr_PI k178_91
theorem k178_94 : xcd 178 94 = oRv 0 := rfl
theorem r178_94 : zr 178 94 [v0] [] u P = P none u := zr_Rv k178_94
end
