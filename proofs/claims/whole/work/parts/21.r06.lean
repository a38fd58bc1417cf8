/-! rows of X11_free, X11_cap, X11_stackRateOf, X11_stackRate, X11_cheapest, X11_baseOf, X11_taxOf, X11_dueOf, X11_refusesSale, X11_due, X11_bestDay, X11_isLine, X11_told, X11_partIs, X11_partBase, X11_partTax, X11_lineDue, X11_line, X11_part, X11_entryOf, X11_laysLedger, X11_entries, X11_entry, X11_taxes, X11_filedDay, X11_lineTaxes, X11_wouldPay, X11_isFiling, X11_isPlaceOrAll, X11_filings, X11_filing, X11_pays, X11_canFile, X11_pending, X11_file, X11_unfiles, X11_dueNow, X11_wrong -/
section
variable {u : xMem} {P : Option Value → xMem → Prop} {st : List Value} {v0 v1 v2 v3 v4 v5 v6 v7 v8 v9 v10 v11 v12 v13 v14 v15 : Value} {x0 x1 x2 x3 x4 x5 x6 x7 x8 x9 x10 x11 x12 x13 x14 x15 : Int32} {a0 a1 a2 a3 a4 a5 a6 a7 a8 a9 a10 a11 a12 a13 a14 a15 : Nat} {j0 j1 j2 j3 j4 j5 j6 j7 j8 j9 j10 j11 j12 j13 j14 j15 : Int64} {y1 y2 y3 y4 y5 y6 y7 y8 : Int32} {b1 b2 b3 b4 b5 b6 b7 b8 : Nat} {w1 w2 w3 w4 : Int64}
theorem k250_0 : xcd 250 0 = oAl 0 1 := rfl
theorem r250_0 : zr 250 0 [.ref a0, v1, v2, v3, v4, v5] st u P = zr 250 1 [.ref a0, v1, v2, v3, v4, v5] (.ref a0 :: st) u P := zr_Al k250_0 rfl
theorem k250_1 : xcd 250 1 = oI 0 2 := rfl
theorem r250_1 : zr 250 1 [v0, v1, v2, v3, v4, v5] st u P = zr 250 2 [v0, v1, v2, v3, v4, v5] (.int 0 :: st) u P := zr_I k250_1
theorem k250_2 : xcd 250 2 = oPI 11 0 5 := rfl
theorem r250_2 : zr 250 2 [v0, v1, v2, v3, v4, v5] (.int y1 :: .ref b1 :: st) u P = (xIs u b1 11 ∧ zr 250 5 [v0, v1, v2, v3, v4, v5] st (xsI u b1 0 y1) P) := zr_PI k250_2
theorem k250_5 : xcd 250 5 = oAl 0 6 := rfl
theorem r250_5 : zr 250 5 [.ref a0, v1, v2, v3, v4, v5] st u P = zr 250 6 [.ref a0, v1, v2, v3, v4, v5] (.ref a0 :: st) u P := zr_Al k250_5 rfl
theorem k250_6 : xcd 250 6 = oAl 0 7 := rfl
theorem r250_6 : zr 250 6 [.ref a0, v1, v2, v3, v4, v5] st u P = zr 250 7 [.ref a0, v1, v2, v3, v4, v5] (.ref a0 :: st) u P := zr_Al k250_6 rfl
theorem k250_7 : xcd 250 7 = oIl 1 8 := rfl
theorem r250_7 : zr 250 7 [v0, .int x1, v2, v3, v4, v5] st u P = zr 250 8 [v0, .int x1, v2, v3, v4, v5] (.int x1 :: st) u P := zr_Il k250_7 rfl
theorem k250_8 : xcd 250 8 = oCalV 11 214 1 11 := rfl
theorem r250_8 : zr 250 8 [v0, v1, v2, v3, v4, v5] (.int y1 :: .ref b8 :: st) u P = ((xIs u b8 11 ∧ xcat st ≤ 8) ∧ zr 214 0 [.ref b8, .int y1] [] u (fun r u2 => zr 250 11 [v0, v1, v2, v3, v4, v5] (r.toList ++ st) u2 P)) := zr_CV k250_8 rfl rfl rfl ⟨Nat.le_of_ble_eq_true rfl, Nat.succ_ne_zero _, by decide⟩ rfl
theorem k250_11 : xcd 250 11 = oIf (fun x => decide (x = 0)) 26 14 := rfl
theorem r250_11 : zr 250 11 [v0, v1, v2, v3, v4, v5] (.int y1 :: st) u P = (if y1 = 0 then zr 250 26 [v0, v1, v2, v3, v4, v5] st u P else zr 250 14 [v0, v1, v2, v3, v4, v5] st u P) := zr_If k250_11
theorem k250_14 : xcd 250 14 = oAl 0 15 := rfl
theorem r250_14 : zr 250 14 [.ref a0, v1, v2, v3, v4, v5] st u P = zr 250 15 [.ref a0, v1, v2, v3, v4, v5] (.ref a0 :: st) u P := zr_Al k250_14 rfl
theorem k250_15 : xcd 250 15 = oIl 2 16 := rfl
theorem r250_15 : zr 250 15 [v0, v1, .int x2, v3, v4, v5] st u P = zr 250 16 [v0, v1, .int x2, v3, v4, v5] (.int x2 :: st) u P := zr_Il k250_15 rfl
theorem k250_16 : xcd 250 16 = oCalV 11 213 1 19 := rfl
theorem r250_16 : zr 250 16 [v0, v1, v2, v3, v4, v5] (.int y1 :: .ref b8 :: st) u P = ((xIs u b8 11 ∧ xcat st ≤ 8) ∧ zr 213 0 [.ref b8, .int y1] [] u (fun r u2 => zr 250 19 [v0, v1, v2, v3, v4, v5] (r.toList ++ st) u2 P)) := zr_CV k250_16 rfl rfl rfl ⟨Nat.le_of_ble_eq_true rfl, Nat.succ_ne_zero _, by decide⟩ rfl
theorem k250_19 : xcd 250 19 = oIf (fun x => decide (x = 0)) 26 22 := rfl
theorem r250_19 : zr 250 19 [v0, v1, v2, v3, v4, v5] (.int y1 :: st) u P = (if y1 = 0 then zr 250 26 [v0, v1, v2, v3, v4, v5] st u P else zr 250 22 [v0, v1, v2, v3, v4, v5] st u P) := zr_If k250_19
theorem k250_22 : xcd 250 22 = oI 1 23 := rfl
theorem r250_22 : zr 250 22 [v0, v1, v2, v3, v4, v5] st u P = zr 250 23 [v0, v1, v2, v3, v4, v5] (.int 1 :: st) u P := zr_I k250_22
theorem k250_23 : xcd 250 23 = oGoto 27 := rfl
theorem r250_23 : zr 250 23 [v0, v1, v2, v3, v4, v5] st u P = zr 250 27 [v0, v1, v2, v3, v4, v5] st u P := zr_Goto k250_23
theorem k250_26 : xcd 250 26 = oI 0 27 := rfl
theorem r250_26 : zr 250 26 [v0, v1, v2, v3, v4, v5] st u P = zr 250 27 [v0, v1, v2, v3, v4, v5] (.int 0 :: st) u P := zr_I k250_26
theorem k250_27 : xcd 250 27 = oIl 3 28 := rfl
theorem r250_27 : zr 250 27 [v0, v1, v2, .int x3, v4, v5] st u P = zr 250 28 [v0, v1, v2, .int x3, v4, v5] (.int x3 :: st) u P := zr_Il k250_27 rfl
theorem k250_28 : xcd 250 28 = oCalV 11 224 2 31 := rfl
theorem r250_28 : zr 250 28 [v0, v1, v2, v3, v4, v5] (.int y2 :: .int y1 :: .ref b8 :: st) u P = ((xIs u b8 11 ∧ xcat st ≤ 8) ∧ zr 224 0 [.ref b8, .int y1, .int y2] [] u (fun r u2 => zr 250 31 [v0, v1, v2, v3, v4, v5] (r.toList ++ st) u2 P)) := zr_CV k250_28 rfl rfl rfl ⟨Nat.le_of_ble_eq_true rfl, Nat.succ_ne_zero _, by decide⟩ rfl
theorem k250_31 : xcd 250 31 = oIs 5 33 := rfl
theorem r250_31 : zr 250 31 [v0, v1, v2, v3, .int x4, v5] (.int y1 :: st) u P = zr 250 33 [v0, v1, v2, v3, .int x4, .int y1] st u P := zr_Is k250_31 ⟨Nat.le_of_ble_eq_true rfl, rfl⟩
theorem k250_33 : xcd 250 33 = oIl 5 35 := rfl
theorem r250_33 : zr 250 33 [v0, v1, v2, v3, v4, .int x5] st u P = zr 250 35 [v0, v1, v2, v3, v4, .int x5] (.int x5 :: st) u P := zr_Il k250_33 rfl
theorem k250_35 : xcd 250 35 = oIf (fun x => decide (¬ x = 0)) 53 38 := rfl
theorem r250_35 : zr 250 35 [v0, v1, v2, v3, v4, v5] (.int y1 :: st) u P = (if ¬ y1 = 0 then zr 250 53 [v0, v1, v2, v3, v4, v5] st u P else zr 250 38 [v0, v1, v2, v3, v4, v5] st u P) := zr_If k250_35
theorem k250_38 : xcd 250 38 = oIl 4 40 := rfl
theorem r250_38 : zr 250 38 [v0, v1, v2, v3, .int x4, v5] st u P = zr 250 40 [v0, v1, v2, v3, .int x4, v5] (.int x4 :: st) u P := zr_Il k250_38 rfl
theorem k250_40 : xcd 250 40 = oI 1 41 := rfl
theorem r250_40 : zr 250 40 [v0, v1, v2, v3, v4, v5] st u P = zr 250 41 [v0, v1, v2, v3, v4, v5] (.int 1 :: st) u P := zr_I k250_40
theorem k250_41 : xcd 250 41 = oI 9999 44 := rfl
theorem r250_41 : zr 250 41 [v0, v1, v2, v3, v4, v5] st u P = zr 250 44 [v0, v1, v2, v3, v4, v5] (.int 9999 :: st) u P := zr_I k250_41
theorem k250_44 : xcd 250 44 = oCal 175 3 47 := rfl
theorem r250_44 : zr 250 44 [v0, v1, v2, v3, v4, v5] (.int y3 :: .int y2 :: .int y1 :: st) u P = (xcat st ≤ 8 ∧ zr 175 0 [.int y1, .int y2, .int y3] [] u (fun r u2 => zr 250 47 [v0, v1, v2, v3, v4, v5] (r.toList ++ st) u2 P)) := zr_CS k250_44 (Nat.le_add_left _ _) rfl rfl ⟨Nat.le_of_ble_eq_true rfl, Nat.succ_ne_zero _, by decide⟩ rfl
theorem k250_47 : xcd 250 47 = oIf (fun x => decide (¬ x = 0)) 53 50 := rfl
theorem r250_47 : zr 250 47 [v0, v1, v2, v3, v4, v5] (.int y1 :: st) u P = (if ¬ y1 = 0 then zr 250 53 [v0, v1, v2, v3, v4, v5] st u P else zr 250 50 [v0, v1, v2, v3, v4, v5] st u P) := zr_If k250_47
theorem k250_50 : xcd 250 50 = oI 2 51 := rfl
theorem r250_50 : zr 250 50 [v0, v1, v2, v3, v4, v5] st u P = zr 250 51 [v0, v1, v2, v3, v4, v5] (.int 2 :: st) u P := zr_I k250_50
theorem k250_51 : xcd 250 51 = oIs 5 53 := rfl
theorem r250_51 : zr 250 51 [v0, v1, v2, v3, .int x4, v5] (.int y1 :: st) u P = zr 250 53 [v0, v1, v2, v3, .int x4, .int y1] st u P := zr_Is k250_51 ⟨Nat.le_of_ble_eq_true rfl, rfl⟩
theorem k250_53 : xcd 250 53 = oIl 5 55 := rfl
theorem r250_53 : zr 250 53 [v0, v1, v2, v3, v4, .int x5] st u P = zr 250 55 [v0, v1, v2, v3, v4, .int x5] (.int x5 :: st) u P := zr_Il k250_53 rfl
theorem k250_55 : xcd 250 55 = oIf (fun x => decide (x ≤ 0)) 67 58 := rfl
theorem r250_55 : zr 250 55 [v0, v1, v2, v3, v4, v5] (.int y1 :: st) u P = (if y1 ≤ 0 then zr 250 67 [v0, v1, v2, v3, v4, v5] st u P else zr 250 58 [v0, v1, v2, v3, v4, v5] st u P) := zr_If k250_55
theorem k250_58 : xcd 250 58 = oAl 0 59 := rfl
theorem r250_58 : zr 250 58 [.ref a0, v1, v2, v3, v4, v5] st u P = zr 250 59 [.ref a0, v1, v2, v3, v4, v5] (.ref a0 :: st) u P := zr_Al k250_58 rfl
theorem k250_59 : xcd 250 59 = oIl 5 61 := rfl
theorem r250_59 : zr 250 59 [v0, v1, v2, v3, v4, .int x5] st u P = zr 250 61 [v0, v1, v2, v3, v4, .int x5] (.int x5 :: st) u P := zr_Il k250_59 rfl
theorem k250_61 : xcd 250 61 = oCalV 11 172 1 64 := rfl
theorem r250_61 : zr 250 61 [v0, v1, v2, v3, v4, v5] (.int y1 :: .ref b8 :: st) u P = ((xIs u b8 11 ∧ xcat st ≤ 8) ∧ zr 172 0 [.ref b8, .int y1] [] u (fun r u2 => zr 250 64 [v0, v1, v2, v3, v4, v5] (r.toList ++ st) u2 P)) := zr_CV k250_61 rfl rfl rfl ⟨Nat.le_of_ble_eq_true rfl, Nat.succ_ne_zero _, by decide⟩ rfl
theorem k250_64 : xcd 250 64 = oGoto 88 := rfl
theorem r250_64 : zr 250 64 [v0, v1, v2, v3, v4, v5] st u P = zr 250 88 [v0, v1, v2, v3, v4, v5] st u P := zr_Goto k250_64
theorem k250_67 : xcd 250 67 = oAl 0 68 := rfl
theorem r250_67 : zr 250 67 [.ref a0, v1, v2, v3, v4, v5] st u P = zr 250 68 [.ref a0, v1, v2, v3, v4, v5] (.ref a0 :: st) u P := zr_Al k250_67 rfl
theorem k250_68 : xcd 250 68 = oAl 0 69 := rfl
theorem r250_68 : zr 250 68 [.ref a0, v1, v2, v3, v4, v5] st u P = zr 250 69 [.ref a0, v1, v2, v3, v4, v5] (.ref a0 :: st) u P := zr_Al k250_68 rfl
theorem k250_69 : xcd 250 69 = oIl 1 70 := rfl
theorem r250_69 : zr 250 69 [v0, .int x1, v2, v3, v4, v5] st u P = zr 250 70 [v0, .int x1, v2, v3, v4, v5] (.int x1 :: st) u P := zr_Il k250_69 rfl
theorem k250_70 : xcd 250 70 = oIl 2 71 := rfl
theorem r250_70 : zr 250 70 [v0, v1, .int x2, v3, v4, v5] st u P = zr 250 71 [v0, v1, .int x2, v3, v4, v5] (.int x2 :: st) u P := zr_Il k250_70 rfl
theorem k250_71 : xcd 250 71 = oIl 3 72 := rfl
theorem r250_71 : zr 250 71 [v0, v1, v2, .int x3, v4, v5] st u P = zr 250 72 [v0, v1, v2, .int x3, v4, v5] (.int x3 :: st) u P := zr_Il k250_71 rfl
theorem k250_72 : xcd 250 72 = oIl 4 74 := rfl
theorem r250_72 : zr 250 72 [v0, v1, v2, v3, .int x4, v5] st u P = zr 250 74 [v0, v1, v2, v3, .int x4, v5] (.int x4 :: st) u P := zr_Il k250_72 rfl
theorem k250_74 : xcd 250 74 = oCalV 11 247 4 77 := rfl
theorem r250_74 : zr 250 74 [v0, v1, v2, v3, v4, v5] (.int y4 :: .int y3 :: .int y2 :: .int y1 :: .ref b8 :: st) u P = ((xIs u b8 11 ∧ xcat st ≤ 8) ∧ zr 247 0 [.ref b8, .int y1, .int y2, .int y3, .int y4, .null, .null] [] u (fun r u2 => zr 250 77 [v0, v1, v2, v3, v4, v5] (r.toList ++ st) u2 P)) := zr_CV k250_74 rfl rfl rfl ⟨Nat.le_of_ble_eq_true rfl, Nat.succ_ne_zero _, by decide⟩ rfl
theorem k250_77 : xcd 250 77 = oIf (fun x => decide (x = 0)) 84 80 := rfl
theorem r250_77 : zr 250 77 [v0, v1, v2, v3, v4, v5] (.int y1 :: st) u P = (if y1 = 0 then zr 250 84 [v0, v1, v2, v3, v4, v5] st u P else zr 250 80 [v0, v1, v2, v3, v4, v5] st u P) := zr_If k250_77
theorem k250_80 : xcd 250 80 = oI 1 81 := rfl
theorem r250_80 : zr 250 80 [v0, v1, v2, v3, v4, v5] st u P = zr 250 81 [v0, v1, v2, v3, v4, v5] (.int 1 :: st) u P := zr_I k250_80
theorem k250_81 : xcd 250 81 = oGoto 85 := rfl
theorem r250_81 : zr 250 81 [v0, v1, v2, v3, v4, v5] st u P = zr 250 85 [v0, v1, v2, v3, v4, v5] st u P := zr_Goto k250_81
theorem k250_84 : xcd 250 84 = oI 0 85 := rfl
theorem r250_84 : zr 250 84 [v0, v1, v2, v3, v4, v5] st u P = zr 250 85 [v0, v1, v2, v3, v4, v5] (.int 0 :: st) u P := zr_I k250_84
theorem k250_85 : xcd 250 85 = oCalV 11 174 1 88 := rfl
theorem r250_85 : zr 250 85 [v0, v1, v2, v3, v4, v5] (.int y1 :: .ref b8 :: st) u P = ((xIs u b8 11 ∧ xcat st ≤ 8) ∧ zr 174 0 [.ref b8, .int y1] [] u (fun r u2 => zr 250 88 [v0, v1, v2, v3, v4, v5] (r.toList ++ st) u2 P)) := zr_CV k250_85 rfl rfl rfl ⟨Nat.le_of_ble_eq_true rfl, Nat.succ_ne_zero _, by decide⟩ rfl
theorem k250_88 : xcd 250 88 = oRi 0 := rfl
theorem r250_88 : zr 250 88 [v0, v1, v2, v3, v4, v5] [.int y1] u P = P (some (.int y1)) u := zr_Ri k250_88
theorem k251_0 : xcd 251 0 = oAl 0 1 := rfl
theorem r251_0 : zr 251 0 [.ref a0, v1, v2] st u P = zr 251 1 [.ref a0, v1, v2] (.ref a0 :: st) u P := zr_Al k251_0 rfl
theorem k251_1 : xcd 251 1 = oI 0 2 := rfl
theorem r251_1 : zr 251 1 [v0, v1, v2] st u P = zr 251 2 [v0, v1, v2] (.int 0 :: st) u P := zr_I k251_1
theorem k251_2 : xcd 251 2 = oPI 11 0 5 := rfl
theorem r251_2 : zr 251 2 [v0, v1, v2] (.int y1 :: .ref b1 :: st) u P = (xIs u b1 11 ∧ zr 251 5 [v0, v1, v2] st (xsI u b1 0 y1) P) := zr_PI k251_2
theorem k251_5 : xcd 251 5 = oAl 0 6 := rfl
theorem r251_5 : zr 251 5 [.ref a0, v1, v2] st u P = zr 251 6 [.ref a0, v1, v2] (.ref a0 :: st) u P := zr_Al k251_5 rfl
theorem k251_6 : xcd 251 6 = oIl 1 7 := rfl
theorem r251_6 : zr 251 6 [v0, .int x1, v2] st u P = zr 251 7 [v0, .int x1, v2] (.int x1 :: st) u P := zr_Il k251_6 rfl
theorem k251_7 : xcd 251 7 = oCalV 11 214 1 10 := rfl
theorem r251_7 : zr 251 7 [v0, v1, v2] (.int y1 :: .ref b8 :: st) u P = ((xIs u b8 11 ∧ xcat st ≤ 8) ∧ zr 214 0 [.ref b8, .int y1] [] u (fun r u2 => zr 251 10 [v0, v1, v2] (r.toList ++ st) u2 P)) := zr_CV k251_7 rfl rfl rfl ⟨Nat.le_of_ble_eq_true rfl, Nat.succ_ne_zero _, by decide⟩ rfl
theorem k251_10 : xcd 251 10 = oIf (fun x => decide (x = 0)) 34 13 := rfl
theorem r251_10 : zr 251 10 [v0, v1, v2] (.int y1 :: st) u P = (if y1 = 0 then zr 251 34 [v0, v1, v2] st u P else zr 251 13 [v0, v1, v2] st u P) := zr_If k251_10
theorem k251_13 : xcd 251 13 = oAl 0 14 := rfl
theorem r251_13 : zr 251 13 [.ref a0, v1, v2] st u P = zr 251 14 [.ref a0, v1, v2] (.ref a0 :: st) u P := zr_Al k251_13 rfl
theorem k251_14 : xcd 251 14 = oIl 2 15 := rfl
theorem r251_14 : zr 251 14 [v0, v1, .int x2] st u P = zr 251 15 [v0, v1, .int x2] (.int x2 :: st) u P := zr_Il k251_14 rfl
theorem k251_15 : xcd 251 15 = oCalV 11 213 1 18 := rfl
theorem r251_15 : zr 251 15 [v0, v1, v2] (.int y1 :: .ref b8 :: st) u P = ((xIs u b8 11 ∧ xcat st ≤ 8) ∧ zr 213 0 [.ref b8, .int y1] [] u (fun r u2 => zr 251 18 [v0, v1, v2] (r.toList ++ st) u2 P)) := zr_CV k251_15 rfl rfl rfl ⟨Nat.le_of_ble_eq_true rfl, Nat.succ_ne_zero _, by decide⟩ rfl
theorem k251_18 : xcd 251 18 = oIf (fun x => decide (x = 0)) 34 21 := rfl
theorem r251_18 : zr 251 18 [v0, v1, v2] (.int y1 :: st) u P = (if y1 = 0 then zr 251 34 [v0, v1, v2] st u P else zr 251 21 [v0, v1, v2] st u P) := zr_If k251_18
theorem k251_21 : xcd 251 21 = oAl 0 22 := rfl
theorem r251_21 : zr 251 21 [.ref a0, v1, v2] st u P = zr 251 22 [.ref a0, v1, v2] (.ref a0 :: st) u P := zr_Al k251_21 rfl
theorem k251_22 : xcd 251 22 = oAl 0 23 := rfl
theorem r251_22 : zr 251 22 [.ref a0, v1, v2] st u P = zr 251 23 [.ref a0, v1, v2] (.ref a0 :: st) u P := zr_Al k251_22 rfl
theorem k251_23 : xcd 251 23 = oIl 1 24 := rfl
theorem r251_23 : zr 251 23 [v0, .int x1, v2] st u P = zr 251 24 [v0, .int x1, v2] (.int x1 :: st) u P := zr_Il k251_23 rfl
theorem k251_24 : xcd 251 24 = oIl 2 25 := rfl
theorem r251_24 : zr 251 24 [v0, v1, .int x2] st u P = zr 251 25 [v0, v1, .int x2] (.int x2 :: st) u P := zr_Il k251_24 rfl
theorem k251_25 : xcd 251 25 = oCalV 11 248 2 28 := rfl
theorem r251_25 : zr 251 25 [v0, v1, v2] (.int y2 :: .int y1 :: .ref b8 :: st) u P = ((xIs u b8 11 ∧ xcat st ≤ 8) ∧ zr 248 0 [.ref b8, .int y1, .int y2, .null] [] u (fun r u2 => zr 251 28 [v0, v1, v2] (r.toList ++ st) u2 P)) := zr_CV k251_25 rfl rfl rfl ⟨Nat.le_of_ble_eq_true rfl, Nat.succ_ne_zero _, by decide⟩ rfl
theorem k251_28 : xcd 251 28 = oCalV 11 174 1 31 := rfl
theorem r251_28 : zr 251 28 [v0, v1, v2] (.int y1 :: .ref b8 :: st) u P = ((xIs u b8 11 ∧ xcat st ≤ 8) ∧ zr 174 0 [.ref b8, .int y1] [] u (fun r u2 => zr 251 31 [v0, v1, v2] (r.toList ++ st) u2 P)) := zr_CV k251_28 rfl rfl rfl ⟨Nat.le_of_ble_eq_true rfl, Nat.succ_ne_zero _, by decide⟩ rfl
theorem k251_31 : xcd 251 31 = oGoto 39 := rfl
theorem r251_31 : zr 251 31 [v0, v1, v2] st u P = zr 251 39 [v0, v1, v2] st u P := zr_Goto k251_31
theorem k251_34 : xcd 251 34 = oAl 0 35 := rfl
theorem r251_34 : zr 251 34 [.ref a0, v1, v2] st u P = zr 251 35 [.ref a0, v1, v2] (.ref a0 :: st) u P := zr_Al k251_34 rfl
theorem k251_35 : xcd 251 35 = oI 1 36 := rfl
theorem r251_35 : zr 251 35 [v0, v1, v2] st u P = zr 251 36 [v0, v1, v2] (.int 1 :: st) u P := zr_I k251_35
theorem k251_36 : xcd 251 36 = oCalV 11 172 1 39 := rfl
theorem r251_36 : zr 251 36 [v0, v1, v2] (.int y1 :: .ref b8 :: st) u P = ((xIs u b8 11 ∧ xcat st ≤ 8) ∧ zr 172 0 [.ref b8, .int y1] [] u (fun r u2 => zr 251 39 [v0, v1, v2] (r.toList ++ st) u2 P)) := zr_CV k251_36 rfl rfl rfl ⟨Nat.le_of_ble_eq_true rfl, Nat.succ_ne_zero _, by decide⟩ rfl
theorem k251_39 : xcd 251 39 = oRi 0 := rfl
theorem r251_39 : zr 251 39 [v0, v1, v2] [.int y1] u P = P (some (.int y1)) u := zr_Ri k251_39
theorem k252_0 : xcd 252 0 = oAl 0 1 := rfl
theorem r252_0 : zr 252 0 [.ref a0, v1, v2, v3, v4, v5, v6, v7] st u P = zr 252 1 [.ref a0, v1, v2, v3, v4, v5, v6, v7] (.ref a0 :: st) u P := zr_Al k252_0 rfl
theorem k252_1 : xcd 252 1 = oIl 1 2 := rfl
theorem r252_1 : zr 252 1 [v0, .int x1, v2, v3, v4, v5, v6, v7] st u P = zr 252 2 [v0, .int x1, v2, v3, v4, v5, v6, v7] (.int x1 :: st) u P := zr_Il k252_1 rfl
theorem k252_2 : xcd 252 2 = oIl 2 3 := rfl
theorem r252_2 : zr 252 2 [v0, v1, .int x2, v3, v4, v5, v6, v7] st u P = zr 252 3 [v0, v1, .int x2, v3, v4, v5, v6, v7] (.int x2 :: st) u P := zr_Il k252_2 rfl
theorem k252_3 : xcd 252 3 = oIl 3 4 := rfl
theorem r252_3 : zr 252 3 [v0, v1, v2, .int x3, v4, v5, v6, v7] st u P = zr 252 4 [v0, v1, v2, .int x3, v4, v5, v6, v7] (.int x3 :: st) u P := zr_Il k252_3 rfl
theorem k252_4 : xcd 252 4 = oAl 0 5 := rfl
theorem r252_4 : zr 252 4 [.ref a0, v1, v2, v3, v4, v5, v6, v7] st u P = zr 252 5 [.ref a0, v1, v2, v3, v4, v5, v6, v7] (.ref a0 :: st) u P := zr_Al k252_4 rfl
theorem k252_5 : xcd 252 5 = oGR 11 17 8 := rfl
theorem r252_5 : zr 252 5 [v0, v1, v2, v3, v4, v5, v6, v7] (.ref b1 :: st) u P = (xIs u b1 11 ∧ ∃ b, xR u b1 17 = some b ∧ zr 252 8 [v0, v1, v2, v3, v4, v5, v6, v7] (.ref b :: st) u P) := zr_GR k252_5
theorem k252_8 : xcd 252 8 = oCalV 11 236 4 11 := rfl
theorem r252_8 : zr 252 8 [v0, v1, v2, v3, v4, v5, v6, v7] (.ref b4 :: .int y3 :: .int y2 :: .int y1 :: .ref b8 :: st) u P = ((xIs u b8 11 ∧ xcat st ≤ 8) ∧ zr 236 0 [.ref b8, .int y1, .int y2, .int y3, .ref b4, .null, .null, .null] [] u (fun r u2 => zr 252 11 [v0, v1, v2, v3, v4, v5, v6, v7] (r.toList ++ st) u2 P)) := zr_CV k252_8 rfl rfl rfl ⟨Nat.le_of_ble_eq_true rfl, Nat.succ_ne_zero _, by decide⟩ rfl
theorem k252_11 : xcd 252 11 = oIs 5 13 := rfl
theorem r252_11 : zr 252 11 [v0, v1, v2, v3, .int x4, v5, v6, v7] (.int y1 :: st) u P = zr 252 13 [v0, v1, v2, v3, .int x4, .int y1, v6, v7] st u P := zr_Is k252_11 ⟨Nat.le_of_ble_eq_true rfl, rfl⟩
theorem k252_13 : xcd 252 13 = oI 0 14 := rfl
theorem r252_13 : zr 252 13 [v0, v1, v2, v3, v4, v5, v6, v7] st u P = zr 252 14 [v0, v1, v2, v3, v4, v5, v6, v7] (.int 0 :: st) u P := zr_I k252_13
theorem k252_14 : xcd 252 14 = oIs 6 16 := rfl
theorem r252_14 : zr 252 14 [v0, v1, v2, v3, v4, .int x5, v6, v7] (.int y1 :: st) u P = zr 252 16 [v0, v1, v2, v3, v4, .int x5, .int y1, v7] st u P := zr_Is k252_14 ⟨Nat.le_of_ble_eq_true rfl, rfl⟩
theorem k252_16 : xcd 252 16 = oI 0 17 := rfl
theorem r252_16 : zr 252 16 [v0, v1, v2, v3, v4, v5, v6, v7] st u P = zr 252 17 [v0, v1, v2, v3, v4, v5, v6, v7] (.int 0 :: st) u P := zr_I k252_16
theorem k252_17 : xcd 252 17 = oIs 7 19 := rfl
theorem r252_17 : zr 252 17 [v0, v1, v2, v3, v4, v5, .int x6, v7] (.int y1 :: st) u P = zr 252 19 [v0, v1, v2, v3, v4, v5, .int x6, .int y1] st u P := zr_Is k252_17 ⟨Nat.le_of_ble_eq_true rfl, rfl⟩
theorem k252_19 : xcd 252 19 = oIl 7 21 := rfl
theorem r252_19 : zr 252 19 [v0, v1, v2, v3, v4, v5, v6, .int x7] st u P = zr 252 21 [v0, v1, v2, v3, v4, v5, v6, .int x7] (.int x7 :: st) u P := zr_Il k252_19 rfl
theorem k252_21 : xcd 252 21 = oIl 5 23 := rfl
theorem r252_21 : zr 252 21 [v0, v1, v2, v3, v4, .int x5, v6, v7] st u P = zr 252 23 [v0, v1, v2, v3, v4, .int x5, v6, v7] (.int x5 :: st) u P := zr_Il k252_21 rfl
theorem k252_23 : xcd 252 23 = oCmp (fun x y => decide (y ≤ x)) 51 26 := rfl
theorem r252_23 : zr 252 23 [v0, v1, v2, v3, v4, v5, v6, v7] (.int y1 :: .int y2 :: st) u P = (if y1 ≤ y2 then zr 252 51 [v0, v1, v2, v3, v4, v5, v6, v7] st u P else zr 252 26 [v0, v1, v2, v3, v4, v5, v6, v7] st u P) := zr_Cmp k252_23
theorem k252_26 : xcd 252 26 = oIl 6 28 := rfl
theorem r252_26 : zr 252 26 [v0, v1, v2, v3, v4, v5, .int x6, v7] st u P = zr 252 28 [v0, v1, v2, v3, v4, v5, .int x6, v7] (.int x6 :: st) u P := zr_Il k252_26 rfl
theorem k252_28 : xcd 252 28 = oAl 0 29 := rfl
theorem r252_28 : zr 252 28 [.ref a0, v1, v2, v3, v4, v5, v6, v7] st u P = zr 252 29 [.ref a0, v1, v2, v3, v4, v5, v6, v7] (.ref a0 :: st) u P := zr_Al k252_28 rfl
theorem k252_29 : xcd 252 29 = oAl 0 30 := rfl
theorem r252_29 : zr 252 29 [.ref a0, v1, v2, v3, v4, v5, v6, v7] st u P = zr 252 30 [.ref a0, v1, v2, v3, v4, v5, v6, v7] (.ref a0 :: st) u P := zr_Al k252_29 rfl
theorem k252_30 : xcd 252 30 = oGR 11 17 33 := rfl
theorem r252_30 : zr 252 30 [v0, v1, v2, v3, v4, v5, v6, v7] (.ref b1 :: st) u P = (xIs u b1 11 ∧ ∃ b, xR u b1 17 = some b ∧ zr 252 33 [v0, v1, v2, v3, v4, v5, v6, v7] (.ref b :: st) u P) := zr_GR k252_30
theorem k252_33 : xcd 252 33 = oIl 7 35 := rfl
theorem r252_33 : zr 252 33 [v0, v1, v2, v3, v4, v5, v6, .int x7] st u P = zr 252 35 [v0, v1, v2, v3, v4, v5, v6, .int x7] (.int x7 :: st) u P := zr_Il k252_33 rfl
theorem k252_35 : xcd 252 35 = oLd 13 36 := rfl
theorem r252_35 : zr 252 35 [v0, v1, v2, v3, v4, v5, v6, v7] (.int y1 :: .ref b1 :: st) u P = ((xIs u b1 13 ∧ xinb y1 (xN u b1)) ∧ zr 252 36 [v0, v1, v2, v3, v4, v5, v6, v7] (.int (xI u b1 (xix y1)) :: st) u P) := zr_Ld k252_35
theorem k252_36 : xcd 252 36 = oIl 4 38 := rfl
theorem r252_36 : zr 252 36 [v0, v1, v2, v3, .int x4, v5, v6, v7] st u P = zr 252 38 [v0, v1, v2, v3, .int x4, v5, v6, v7] (.int x4 :: st) u P := zr_Il k252_36 rfl
theorem k252_38 : xcd 252 38 = oIl 1 39 := rfl
theorem r252_38 : zr 252 38 [v0, .int x1, v2, v3, v4, v5, v6, v7] st u P = zr 252 39 [v0, .int x1, v2, v3, v4, v5, v6, v7] (.int x1 :: st) u P := zr_Il k252_38 rfl
theorem k252_39 : xcd 252 39 = oCalV 11 245 3 42 := rfl
theorem r252_39 : zr 252 39 [v0, v1, v2, v3, v4, v5, v6, v7] (.int y3 :: .int y2 :: .int y1 :: .ref b8 :: st) u P = ((xIs u b8 11 ∧ xcat st ≤ 8) ∧ zr 245 0 [.ref b8, .int y1, .int y2, .int y3, .null] [] u (fun r u2 => zr 252 42 [v0, v1, v2, v3, v4, v5, v6, v7] (r.toList ++ st) u2 P)) := zr_CV k252_39 rfl rfl rfl ⟨Nat.le_of_ble_eq_true rfl, Nat.succ_ne_zero _, by decide⟩ rfl
theorem k252_42 : xcd 252 42 = oB (fun x y => x + y) 43 := rfl
theorem r252_42 : zr 252 42 [v0, v1, v2, v3, v4, v5, v6, v7] (.int y1 :: .int y2 :: st) u P = zr 252 43 [v0, v1, v2, v3, v4, v5, v6, v7] (.int (y2 + y1) :: st) u P := zr_B k252_42
theorem k252_43 : xcd 252 43 = oIs 6 45 := rfl
theorem r252_43 : zr 252 43 [v0, v1, v2, v3, v4, .int x5, v6, v7] (.int y1 :: st) u P = zr 252 45 [v0, v1, v2, v3, v4, .int x5, .int y1, v7] st u P := zr_Is k252_43 ⟨Nat.le_of_ble_eq_true rfl, rfl⟩
theorem k252_45 : xcd 252 45 = oInc 7 1 48 := rfl
theorem r252_45 : zr 252 45 [v0, v1, v2, v3, v4, v5, .int x6, .int x7] st u P = zr 252 48 [v0, v1, v2, v3, v4, v5, .int x6, .int (x7 + 1)] st u P := zr_Inc k252_45 rfl rfl
theorem k252_48 : xcd 252 48 = oGoto 19 := rfl
theorem r252_48 : zr 252 48 [v0, v1, v2, v3, v4, v5, v6, v7] st u P = zr 252 19 [v0, v1, v2, v3, v4, v5, v6, v7] st u P := zr_Goto k252_48
theorem k252_51 : xcd 252 51 = oIl 6 53 := rfl
theorem r252_51 : zr 252 51 [v0, v1, v2, v3, v4, v5, .int x6, v7] st u P = zr 252 53 [v0, v1, v2, v3, v4, v5, .int x6, v7] (.int x6 :: st) u P := zr_Il k252_51 rfl
theorem k252_53 : xcd 252 53 = oRi 0 := rfl
theorem r252_53 : zr 252 53 [v0, v1, v2, v3, v4, v5, v6, v7] [.int y1] u P = P (some (.int y1)) u := zr_Ri k252_53
theorem k253_0 : xcd 253 0 = oAl 0 1 := rfl
theorem r253_0 : zr 253 0 [.ref a0, v1, v2, v3, v4, v5] st u P = zr 253 1 [.ref a0, v1, v2, v3, v4, v5] (.ref a0 :: st) u P := zr_Al k253_0 rfl
theorem k253_1 : xcd 253 1 = oI 0 2 := rfl
theorem r253_1 : zr 253 1 [v0, v1, v2, v3, v4, v5] st u P = zr 253 2 [v0, v1, v2, v3, v4, v5] (.int 0 :: st) u P := zr_I k253_1
theorem k253_2 : xcd 253 2 = oPI 11 0 5 := rfl
theorem r253_2 : zr 253 2 [v0, v1, v2, v3, v4, v5] (.int y1 :: .ref b1 :: st) u P = (xIs u b1 11 ∧ zr 253 5 [v0, v1, v2, v3, v4, v5] st (xsI u b1 0 y1) P) := zr_PI k253_2
theorem k253_5 : xcd 253 5 = oAl 0 6 := rfl
theorem r253_5 : zr 253 5 [.ref a0, v1, v2, v3, v4, v5] st u P = zr 253 6 [.ref a0, v1, v2, v3, v4, v5] (.ref a0 :: st) u P := zr_Al k253_5 rfl
theorem k253_6 : xcd 253 6 = oAl 0 7 := rfl
theorem r253_6 : zr 253 6 [.ref a0, v1, v2, v3, v4, v5] st u P = zr 253 7 [.ref a0, v1, v2, v3, v4, v5] (.ref a0 :: st) u P := zr_Al k253_6 rfl
theorem k253_7 : xcd 253 7 = oIl 4 9 := rfl
theorem r253_7 : zr 253 7 [v0, v1, v2, v3, .int x4, v5] st u P = zr 253 9 [v0, v1, v2, v3, .int x4, v5] (.int x4 :: st) u P := zr_Il k253_7 rfl
theorem k253_9 : xcd 253 9 = oCalV 11 213 1 12 := rfl
theorem r253_9 : zr 253 9 [v0, v1, v2, v3, v4, v5] (.int y1 :: .ref b8 :: st) u P = ((xIs u b8 11 ∧ xcat st ≤ 8) ∧ zr 213 0 [.ref b8, .int y1] [] u (fun r u2 => zr 253 12 [v0, v1, v2, v3, v4, v5] (r.toList ++ st) u2 P)) := zr_CV k253_9 rfl rfl rfl ⟨Nat.le_of_ble_eq_true rfl, Nat.succ_ne_zero _, by decide⟩ rfl
theorem k253_12 : xcd 253 12 = oIl 1 13 := rfl
theorem r253_12 : zr 253 12 [v0, .int x1, v2, v3, v4, v5] st u P = zr 253 13 [v0, .int x1, v2, v3, v4, v5] (.int x1 :: st) u P := zr_Il k253_12 rfl
theorem k253_13 : xcd 253 13 = oIl 2 14 := rfl
theorem r253_13 : zr 253 13 [v0, v1, .int x2, v3, v4, v5] st u P = zr 253 14 [v0, v1, .int x2, v3, v4, v5] (.int x2 :: st) u P := zr_Il k253_13 rfl
theorem k253_14 : xcd 253 14 = oIl 3 15 := rfl
theorem r253_14 : zr 253 14 [v0, v1, v2, .int x3, v4, v5] st u P = zr 253 15 [v0, v1, v2, .int x3, v4, v5] (.int x3 :: st) u P := zr_Il k253_14 rfl
theorem k253_15 : xcd 253 15 = oCalV 11 225 4 18 := rfl
theorem r253_15 : zr 253 15 [v0, v1, v2, v3, v4, v5] (.int y4 :: .int y3 :: .int y2 :: .int y1 :: .ref b8 :: st) u P = ((xIs u b8 11 ∧ xcat st ≤ 8) ∧ zr 225 0 [.ref b8, .int y1, .int y2, .int y3, .int y4, .null] [] u (fun r u2 => zr 253 18 [v0, v1, v2, v3, v4, v5] (r.toList ++ st) u2 P)) := zr_CV k253_15 rfl rfl rfl ⟨Nat.le_of_ble_eq_true rfl, Nat.succ_ne_zero _, by decide⟩ rfl
theorem k253_18 : xcd 253 18 = oIs 5 20 := rfl
theorem r253_18 : zr 253 18 [v0, v1, v2, v3, .int x4, v5] (.int y1 :: st) u P = zr 253 20 [v0, v1, v2, v3, .int x4, .int y1] st u P := zr_Is k253_18 ⟨Nat.le_of_ble_eq_true rfl, rfl⟩
theorem k253_20 : xcd 253 20 = oIl 5 22 := rfl
theorem r253_20 : zr 253 20 [v0, v1, v2, v3, v4, .int x5] st u P = zr 253 22 [v0, v1, v2, v3, v4, .int x5] (.int x5 :: st) u P := zr_Il k253_20 rfl
theorem k253_22 : xcd 253 22 = oIf (fun x => decide (x ≤ 0)) 34 25 := rfl
theorem r253_22 : zr 253 22 [v0, v1, v2, v3, v4, v5] (.int y1 :: st) u P = (if y1 ≤ 0 then zr 253 34 [v0, v1, v2, v3, v4, v5] st u P else zr 253 25 [v0, v1, v2, v3, v4, v5] st u P) := zr_If k253_22
theorem k253_25 : xcd 253 25 = oAl 0 26 := rfl
theorem r253_25 : zr 253 25 [.ref a0, v1, v2, v3, v4, v5] st u P = zr 253 26 [.ref a0, v1, v2, v3, v4, v5] (.ref a0 :: st) u P := zr_Al k253_25 rfl
theorem k253_26 : xcd 253 26 = oIl 5 28 := rfl
theorem r253_26 : zr 253 26 [v0, v1, v2, v3, v4, .int x5] st u P = zr 253 28 [v0, v1, v2, v3, v4, .int x5] (.int x5 :: st) u P := zr_Il k253_26 rfl
theorem k253_28 : xcd 253 28 = oCalV 11 172 1 31 := rfl
theorem r253_28 : zr 253 28 [v0, v1, v2, v3, v4, v5] (.int y1 :: .ref b8 :: st) u P = ((xIs u b8 11 ∧ xcat st ≤ 8) ∧ zr 172 0 [.ref b8, .int y1] [] u (fun r u2 => zr 253 31 [v0, v1, v2, v3, v4, v5] (r.toList ++ st) u2 P)) := zr_CV k253_28 rfl rfl rfl ⟨Nat.le_of_ble_eq_true rfl, Nat.succ_ne_zero _, by decide⟩ rfl
theorem k253_31 : xcd 253 31 = oGoto 47 := rfl
theorem r253_31 : zr 253 31 [v0, v1, v2, v3, v4, v5] st u P = zr 253 47 [v0, v1, v2, v3, v4, v5] st u P := zr_Goto k253_31
theorem k253_34 : xcd 253 34 = oAl 0 35 := rfl
theorem r253_34 : zr 253 34 [.ref a0, v1, v2, v3, v4, v5] st u P = zr 253 35 [.ref a0, v1, v2, v3, v4, v5] (.ref a0 :: st) u P := zr_Al k253_34 rfl
theorem k253_35 : xcd 253 35 = oAl 0 36 := rfl
theorem r253_35 : zr 253 35 [.ref a0, v1, v2, v3, v4, v5] st u P = zr 253 36 [.ref a0, v1, v2, v3, v4, v5] (.ref a0 :: st) u P := zr_Al k253_35 rfl
theorem k253_36 : xcd 253 36 = oIl 1 37 := rfl
theorem r253_36 : zr 253 36 [v0, .int x1, v2, v3, v4, v5] st u P = zr 253 37 [v0, .int x1, v2, v3, v4, v5] (.int x1 :: st) u P := zr_Il k253_36 rfl
theorem k253_37 : xcd 253 37 = oIl 2 38 := rfl
theorem r253_37 : zr 253 37 [v0, v1, .int x2, v3, v4, v5] st u P = zr 253 38 [v0, v1, .int x2, v3, v4, v5] (.int x2 :: st) u P := zr_Il k253_37 rfl
theorem k253_38 : xcd 253 38 = oIl 3 39 := rfl
theorem r253_38 : zr 253 38 [v0, v1, v2, .int x3, v4, v5] st u P = zr 253 39 [v0, v1, v2, .int x3, v4, v5] (.int x3 :: st) u P := zr_Il k253_38 rfl
theorem k253_39 : xcd 253 39 = oIl 4 41 := rfl
theorem r253_39 : zr 253 39 [v0, v1, v2, v3, .int x4, v5] st u P = zr 253 41 [v0, v1, v2, v3, .int x4, v5] (.int x4 :: st) u P := zr_Il k253_39 rfl
theorem k253_41 : xcd 253 41 = oCalV 11 252 4 44 := rfl
theorem r253_41 : zr 253 41 [v0, v1, v2, v3, v4, v5] (.int y4 :: .int y3 :: .int y2 :: .int y1 :: .ref b8 :: st) u P = ((xIs u b8 11 ∧ xcat st ≤ 8) ∧ zr 252 0 [.ref b8, .int y1, .int y2, .int y3, .int y4, .null, .null, .null] [] u (fun r u2 => zr 253 44 [v0, v1, v2, v3, v4, v5] (r.toList ++ st) u2 P)) := zr_CV k253_41 rfl rfl rfl ⟨Nat.le_of_ble_eq_true rfl, Nat.succ_ne_zero _, by decide⟩ rfl
theorem k253_44 : xcd 253 44 = oCalV 11 174 1 47 := rfl
theorem r253_44 : zr 253 44 [v0, v1, v2, v3, v4, v5] (.int y1 :: .ref b8 :: st) u P = ((xIs u b8 11 ∧ xcat st ≤ 8) ∧ zr 174 0 [.ref b8, .int y1] [] u (fun r u2 => zr 253 47 [v0, v1, v2, v3, v4, v5] (r.toList ++ st) u2 P)) := zr_CV k253_44 rfl rfl rfl ⟨Nat.le_of_ble_eq_true rfl, Nat.succ_ne_zero _, by decide⟩ rfl
theorem k253_47 : xcd 253 47 = oRi 0 := rfl
theorem r253_47 : zr 253 47 [v0, v1, v2, v3, v4, v5] [.int y1] u P = P (some (.int y1)) u := zr_Ri k253_47
theorem k254_0 : xcd 254 0 = oAl 0 1 := rfl
theorem r254_0 : zr 254 0 [.ref a0, v1, v2, v3, v4, v5, v6, v7, v8] st u P = zr 254 1 [.ref a0, v1, v2, v3, v4, v5, v6, v7, v8] (.ref a0 :: st) u P := zr_Al k254_0 rfl
theorem k254_1 : xcd 254 1 = oI 0 2 := rfl
theorem r254_1 : zr 254 1 [v0, v1, v2, v3, v4, v5, v6, v7, v8] st u P = zr 254 2 [v0, v1, v2, v3, v4, v5, v6, v7, v8] (.int 0 :: st) u P := zr_I k254_1
theorem k254_2 : xcd 254 2 = oPI 11 0 5 := rfl
theorem r254_2 : zr 254 2 [v0, v1, v2, v3, v4, v5, v6, v7, v8] (.int y1 :: .ref b1 :: st) u P = (xIs u b1 11 ∧ zr 254 5 [v0, v1, v2, v3, v4, v5, v6, v7, v8] st (xsI u b1 0 y1) P) := zr_PI k254_2
theorem k254_5 : xcd 254 5 = oAl 0 6 := rfl
theorem r254_5 : zr 254 5 [.ref a0, v1, v2, v3, v4, v5, v6, v7, v8] st u P = zr 254 6 [.ref a0, v1, v2, v3, v4, v5, v6, v7, v8] (.ref a0 :: st) u P := zr_Al k254_5 rfl
theorem k254_6 : xcd 254 6 = oAl 0 7 := rfl
theorem r254_6 : zr 254 6 [.ref a0, v1, v2, v3, v4, v5, v6, v7, v8] st u P = zr 254 7 [.ref a0, v1, v2, v3, v4, v5, v6, v7, v8] (.ref a0 :: st) u P := zr_Al k254_6 rfl
theorem k254_7 : xcd 254 7 = oIl 2 8 := rfl
theorem r254_7 : zr 254 7 [v0, v1, .int x2, v3, v4, v5, v6, v7, v8] st u P = zr 254 8 [v0, v1, .int x2, v3, v4, v5, v6, v7, v8] (.int x2 :: st) u P := zr_Il k254_7 rfl
theorem k254_8 : xcd 254 8 = oCalV 11 213 1 11 := rfl
theorem r254_8 : zr 254 8 [v0, v1, v2, v3, v4, v5, v6, v7, v8] (.int y1 :: .ref b8 :: st) u P = ((xIs u b8 11 ∧ xcat st ≤ 8) ∧ zr 213 0 [.ref b8, .int y1] [] u (fun r u2 => zr 254 11 [v0, v1, v2, v3, v4, v5, v6, v7, v8] (r.toList ++ st) u2 P)) := zr_CV k254_8 rfl rfl rfl ⟨Nat.le_of_ble_eq_true rfl, Nat.succ_ne_zero _, by decide⟩ rfl
theorem k254_11 : xcd 254 11 = oIl 1 12 := rfl
theorem r254_11 : zr 254 11 [v0, .int x1, v2, v3, v4, v5, v6, v7, v8] st u P = zr 254 12 [v0, .int x1, v2, v3, v4, v5, v6, v7, v8] (.int x1 :: st) u P := zr_Il k254_11 rfl
theorem k254_12 : xcd 254 12 = oCalV 11 224 2 15 := rfl
theorem r254_12 : zr 254 12 [v0, v1, v2, v3, v4, v5, v6, v7, v8] (.int y2 :: .int y1 :: .ref b8 :: st) u P = ((xIs u b8 11 ∧ xcat st ≤ 8) ∧ zr 224 0 [.ref b8, .int y1, .int y2] [] u (fun r u2 => zr 254 15 [v0, v1, v2, v3, v4, v5, v6, v7, v8] (r.toList ++ st) u2 P)) := zr_CV k254_12 rfl rfl rfl ⟨Nat.le_of_ble_eq_true rfl, Nat.succ_ne_zero _, by decide⟩ rfl
theorem k254_15 : xcd 254 15 = oIs 3 16 := rfl
theorem r254_15 : zr 254 15 [v0, v1, .int x2, v3, v4, v5, v6, v7, v8] (.int y1 :: st) u P = zr 254 16 [v0, v1, .int x2, .int y1, v4, v5, v6, v7, v8] st u P := zr_Is k254_15 ⟨Nat.le_of_ble_eq_true rfl, rfl⟩
theorem k254_16 : xcd 254 16 = oIl 3 17 := rfl
theorem r254_16 : zr 254 16 [v0, v1, v2, .int x3, v4, v5, v6, v7, v8] st u P = zr 254 17 [v0, v1, v2, .int x3, v4, v5, v6, v7, v8] (.int x3 :: st) u P := zr_Il k254_16 rfl
theorem k254_17 : xcd 254 17 = oIf (fun x => decide (x ≤ 0)) 26 20 := rfl
theorem r254_17 : zr 254 17 [v0, v1, v2, v3, v4, v5, v6, v7, v8] (.int y1 :: st) u P = (if y1 ≤ 0 then zr 254 26 [v0, v1, v2, v3, v4, v5, v6, v7, v8] st u P else zr 254 20 [v0, v1, v2, v3, v4, v5, v6, v7, v8] st u P) := zr_If k254_17
theorem k254_20 : xcd 254 20 = oAl 0 21 := rfl
theorem r254_20 : zr 254 20 [.ref a0, v1, v2, v3, v4, v5, v6, v7, v8] st u P = zr 254 21 [.ref a0, v1, v2, v3, v4, v5, v6, v7, v8] (.ref a0 :: st) u P := zr_Al k254_20 rfl
theorem k254_21 : xcd 254 21 = oIl 3 22 := rfl
theorem r254_21 : zr 254 21 [v0, v1, v2, .int x3, v4, v5, v6, v7, v8] st u P = zr 254 22 [v0, v1, v2, .int x3, v4, v5, v6, v7, v8] (.int x3 :: st) u P := zr_Il k254_21 rfl
theorem k254_22 : xcd 254 22 = oCalV 11 172 1 25 := rfl
theorem r254_22 : zr 254 22 [v0, v1, v2, v3, v4, v5, v6, v7, v8] (.int y1 :: .ref b8 :: st) u P = ((xIs u b8 11 ∧ xcat st ≤ 8) ∧ zr 172 0 [.ref b8, .int y1] [] u (fun r u2 => zr 254 25 [v0, v1, v2, v3, v4, v5, v6, v7, v8] (r.toList ++ st) u2 P)) := zr_CV k254_22 rfl rfl rfl ⟨Nat.le_of_ble_eq_true rfl, Nat.succ_ne_zero _, by decide⟩ rfl
theorem k254_25 : xcd 254 25 = oRi 0 := rfl
theorem r254_25 : zr 254 25 [v0, v1, v2, v3, v4, v5, v6, v7, v8] [.int y1] u P = P (some (.int y1)) u := zr_Ri k254_25
theorem k254_26 : xcd 254 26 = oI 0 27 := rfl
theorem r254_26 : zr 254 26 [v0, v1, v2, v3, v4, v5, v6, v7, v8] st u P = zr 254 27 [v0, v1, v2, v3, v4, v5, v6, v7, v8] (.int 0 :: st) u P := zr_I k254_26
theorem k254_27 : xcd 254 27 = oIs 4 29 := rfl
theorem r254_27 : zr 254 27 [v0, v1, v2, .int x3, v4, v5, v6, v7, v8] (.int y1 :: st) u P = zr 254 29 [v0, v1, v2, .int x3, .int y1, v5, v6, v7, v8] st u P := zr_Is k254_27 ⟨Nat.le_of_ble_eq_true rfl, rfl⟩
theorem k254_29 : xcd 254 29 = oAl 0 30 := rfl
theorem r254_29 : zr 254 29 [.ref a0, v1, v2, v3, v4, v5, v6, v7, v8] st u P = zr 254 30 [.ref a0, v1, v2, v3, v4, v5, v6, v7, v8] (.ref a0 :: st) u P := zr_Al k254_29 rfl
theorem k254_30 : xcd 254 30 = oIl 1 31 := rfl
theorem r254_30 : zr 254 30 [v0, .int x1, v2, v3, v4, v5, v6, v7, v8] st u P = zr 254 31 [v0, .int x1, v2, v3, v4, v5, v6, v7, v8] (.int x1 :: st) u P := zr_Il k254_30 rfl
theorem k254_31 : xcd 254 31 = oI 0 32 := rfl
theorem r254_31 : zr 254 31 [v0, v1, v2, v3, v4, v5, v6, v7, v8] st u P = zr 254 32 [v0, v1, v2, v3, v4, v5, v6, v7, v8] (.int 0 :: st) u P := zr_I k254_31
theorem k254_32 : xcd 254 32 = oI 0 33 := rfl
theorem r254_32 : zr 254 32 [v0, v1, v2, v3, v4, v5, v6, v7, v8] st u P = zr 254 33 [v0, v1, v2, v3, v4, v5, v6, v7, v8] (.int 0 :: st) u P := zr_I k254_32
theorem k254_33 : xcd 254 33 = oIl 2 34 := rfl
theorem r254_33 : zr 254 33 [v0, v1, .int x2, v3, v4, v5, v6, v7, v8] st u P = zr 254 34 [v0, v1, .int x2, v3, v4, v5, v6, v7, v8] (.int x2 :: st) u P := zr_Il k254_33 rfl
theorem k254_34 : xcd 254 34 = oCalV 11 252 4 37 := rfl
theorem r254_34 : zr 254 34 [v0, v1, v2, v3, v4, v5, v6, v7, v8] (.int y4 :: .int y3 :: .int y2 :: .int y1 :: .ref b8 :: st) u P = ((xIs u b8 11 ∧ xcat st ≤ 8) ∧ zr 252 0 [.ref b8, .int y1, .int y2, .int y3, .int y4, .null, .null, .null] [] u (fun r u2 => zr 254 37 [v0, v1, v2, v3, v4, v5, v6, v7, v8] (r.toList ++ st) u2 P)) := zr_CV k254_34 rfl rfl rfl ⟨Nat.le_of_ble_eq_true rfl, Nat.succ_ne_zero _, by decide⟩ rfl
theorem k254_37 : xcd 254 37 = oIs 5 39 := rfl
theorem r254_37 : zr 254 37 [v0, v1, v2, v3, .int x4, v5, v6, v7, v8] (.int y1 :: st) u P = zr 254 39 [v0, v1, v2, v3, .int x4, .int y1, v6, v7, v8] st u P := zr_Is k254_37 ⟨Nat.le_of_ble_eq_true rfl, rfl⟩
theorem k254_39 : xcd 254 39 = oI 0 40 := rfl
theorem r254_39 : zr 254 39 [v0, v1, v2, v3, v4, v5, v6, v7, v8] st u P = zr 254 40 [v0, v1, v2, v3, v4, v5, v6, v7, v8] (.int 0 :: st) u P := zr_I k254_39
theorem k254_40 : xcd 254 40 = oIs 6 42 := rfl
theorem r254_40 : zr 254 40 [v0, v1, v2, v3, v4, .int x5, v6, v7, v8] (.int y1 :: st) u P = zr 254 42 [v0, v1, v2, v3, v4, .int x5, .int y1, v7, v8] st u P := zr_Is k254_40 ⟨Nat.le_of_ble_eq_true rfl, rfl⟩
theorem k254_42 : xcd 254 42 = oIl 6 44 := rfl
theorem r254_42 : zr 254 42 [v0, v1, v2, v3, v4, v5, .int x6, v7, v8] st u P = zr 254 44 [v0, v1, v2, v3, v4, v5, .int x6, v7, v8] (.int x6 :: st) u P := zr_Il k254_42 rfl
theorem k254_44 : xcd 254 44 = oAl 0 45 := rfl
theorem r254_44 : zr 254 44 [.ref a0, v1, v2, v3, v4, v5, v6, v7, v8] st u P = zr 254 45 [.ref a0, v1, v2, v3, v4, v5, v6, v7, v8] (.ref a0 :: st) u P := zr_Al k254_44 rfl
theorem k254_45 : xcd 254 45 = oGR 11 3 48 := rfl
theorem r254_45 : zr 254 45 [v0, v1, v2, v3, v4, v5, v6, v7, v8] (.ref b1 :: st) u P = (xIs u b1 11 ∧ ∃ b, xR u b1 3 = some b ∧ zr 254 48 [v0, v1, v2, v3, v4, v5, v6, v7, v8] (.ref b :: st) u P) := zr_GR k254_45
theorem k254_48 : xcd 254 48 = oI 0 49 := rfl
theorem r254_48 : zr 254 48 [v0, v1, v2, v3, v4, v5, v6, v7, v8] st u P = zr 254 49 [v0, v1, v2, v3, v4, v5, v6, v7, v8] (.int 0 :: st) u P := zr_I k254_48
theorem k254_49 : xcd 254 49 = oLd 13 50 := rfl
theorem r254_49 : zr 254 49 [v0, v1, v2, v3, v4, v5, v6, v7, v8] (.int y1 :: .ref b1 :: st) u P = ((xIs u b1 13 ∧ xinb y1 (xN u b1)) ∧ zr 254 50 [v0, v1, v2, v3, v4, v5, v6, v7, v8] (.int (xI u b1 (xix y1)) :: st) u P) := zr_Ld k254_49
theorem k254_50 : xcd 254 50 = oCmp (fun x y => decide (y < x)) 115 53 := rfl
theorem r254_50 : zr 254 50 [v0, v1, v2, v3, v4, v5, v6, v7, v8] (.int y1 :: .int y2 :: st) u P = (if y1 < y2 then zr 254 115 [v0, v1, v2, v3, v4, v5, v6, v7, v8] st u P else zr 254 53 [v0, v1, v2, v3, v4, v5, v6, v7, v8] st u P) := zr_Cmp k254_50
theorem k254_53 : xcd 254 53 = oI 0 54 := rfl
theorem r254_53 : zr 254 53 [v0, v1, v2, v3, v4, v5, v6, v7, v8] st u P = zr 254 54 [v0, v1, v2, v3, v4, v5, v6, v7, v8] (.int 0 :: st) u P := zr_I k254_53
theorem k254_54 : xcd 254 54 = oIs 7 56 := rfl
theorem r254_54 : zr 254 54 [v0, v1, v2, v3, v4, v5, .int x6, v7, v8] (.int y1 :: st) u P = zr 254 56 [v0, v1, v2, v3, v4, v5, .int x6, .int y1, v8] st u P := zr_Is k254_54 ⟨Nat.le_of_ble_eq_true rfl, rfl⟩
theorem k254_56 : xcd 254 56 = oIl 7 58 := rfl
theorem r254_56 : zr 254 56 [v0, v1, v2, v3, v4, v5, v6, .int x7, v8] st u P = zr 254 58 [v0, v1, v2, v3, v4, v5, v6, .int x7, v8] (.int x7 :: st) u P := zr_Il k254_56 rfl
theorem k254_58 : xcd 254 58 = oAl 0 59 := rfl
theorem r254_58 : zr 254 58 [.ref a0, v1, v2, v3, v4, v5, v6, v7, v8] st u P = zr 254 59 [.ref a0, v1, v2, v3, v4, v5, v6, v7, v8] (.ref a0 :: st) u P := zr_Al k254_58 rfl
theorem k254_59 : xcd 254 59 = oGR 11 3 62 := rfl
theorem r254_59 : zr 254 59 [v0, v1, v2, v3, v4, v5, v6, v7, v8] (.ref b1 :: st) u P = (xIs u b1 11 ∧ ∃ b, xR u b1 3 = some b ∧ zr 254 62 [v0, v1, v2, v3, v4, v5, v6, v7, v8] (.ref b :: st) u P) := zr_GR k254_59
theorem k254_62 : xcd 254 62 = oI 0 63 := rfl
theorem r254_62 : zr 254 62 [v0, v1, v2, v3, v4, v5, v6, v7, v8] st u P = zr 254 63 [v0, v1, v2, v3, v4, v5, v6, v7, v8] (.int 0 :: st) u P := zr_I k254_62
theorem k254_63 : xcd 254 63 = oLd 13 64 := rfl
theorem r254_63 : zr 254 63 [v0, v1, v2, v3, v4, v5, v6, v7, v8] (.int y1 :: .ref b1 :: st) u P = ((xIs u b1 13 ∧ xinb y1 (xN u b1)) ∧ zr 254 64 [v0, v1, v2, v3, v4, v5, v6, v7, v8] (.int (xI u b1 (xix y1)) :: st) u P) := zr_Ld k254_63
theorem k254_64 : xcd 254 64 = oCmp (fun x y => decide (y < x)) 109 67 := rfl
theorem r254_64 : zr 254 64 [v0, v1, v2, v3, v4, v5, v6, v7, v8] (.int y1 :: .int y2 :: st) u P = (if y1 < y2 then zr 254 109 [v0, v1, v2, v3, v4, v5, v6, v7, v8] st u P else zr 254 67 [v0, v1, v2, v3, v4, v5, v6, v7, v8] st u P) := zr_Cmp k254_64
theorem k254_67 : xcd 254 67 = oAl 0 68 := rfl
theorem r254_67 : zr 254 67 [.ref a0, v1, v2, v3, v4, v5, v6, v7, v8] st u P = zr 254 68 [.ref a0, v1, v2, v3, v4, v5, v6, v7, v8] (.ref a0 :: st) u P := zr_Al k254_67 rfl
theorem k254_68 : xcd 254 68 = oIl 1 69 := rfl
theorem r254_68 : zr 254 68 [v0, .int x1, v2, v3, v4, v5, v6, v7, v8] st u P = zr 254 69 [v0, .int x1, v2, v3, v4, v5, v6, v7, v8] (.int x1 :: st) u P := zr_Il k254_68 rfl
theorem k254_69 : xcd 254 69 = oIl 7 71 := rfl
theorem r254_69 : zr 254 69 [v0, v1, v2, v3, v4, v5, v6, .int x7, v8] st u P = zr 254 71 [v0, v1, v2, v3, v4, v5, v6, .int x7, v8] (.int x7 :: st) u P := zr_Il k254_69 rfl
theorem k254_71 : xcd 254 71 = oIl 6 73 := rfl
theorem r254_71 : zr 254 71 [v0, v1, v2, v3, v4, v5, .int x6, v7, v8] st u P = zr 254 73 [v0, v1, v2, v3, v4, v5, .int x6, v7, v8] (.int x6 :: st) u P := zr_Il k254_71 rfl
theorem k254_73 : xcd 254 73 = oIl 2 74 := rfl
theorem r254_73 : zr 254 73 [v0, v1, .int x2, v3, v4, v5, v6, v7, v8] st u P = zr 254 74 [v0, v1, .int x2, v3, v4, v5, v6, v7, v8] (.int x2 :: st) u P := zr_Il k254_73 rfl
theorem k254_74 : xcd 254 74 = oCalV 11 252 4 77 := rfl
theorem r254_74 : zr 254 74 [v0, v1, v2, v3, v4, v5, v6, v7, v8] (.int y4 :: .int y3 :: .int y2 :: .int y1 :: .ref b8 :: st) u P = ((xIs u b8 11 ∧ xcat st ≤ 8) ∧ zr 252 0 [.ref b8, .int y1, .int y2, .int y3, .int y4, .null, .null, .null] [] u (fun r u2 => zr 254 77 [v0, v1, v2, v3, v4, v5, v6, v7, v8] (r.toList ++ st) u2 P)) := zr_CV k254_74 rfl rfl rfl ⟨Nat.le_of_ble_eq_true rfl, Nat.succ_ne_zero _, by decide⟩ rfl
theorem k254_77 : xcd 254 77 = oIs 8 79 := rfl
theorem r254_77 : zr 254 77 [v0, v1, v2, v3, v4, v5, v6, .int x7, v8] (.int y1 :: st) u P = zr 254 79 [v0, v1, v2, v3, v4, v5, v6, .int x7, .int y1] st u P := zr_Is k254_77 ⟨Nat.le_of_ble_eq_true rfl, rfl⟩
theorem k254_79 : xcd 254 79 = oIl 8 81 := rfl
theorem r254_79 : zr 254 79 [v0, v1, v2, v3, v4, v5, v6, v7, .int x8] st u P = zr 254 81 [v0, v1, v2, v3, v4, v5, v6, v7, .int x8] (.int x8 :: st) u P := zr_Il k254_79 rfl
theorem k254_81 : xcd 254 81 = oIl 5 83 := rfl
theorem r254_81 : zr 254 81 [v0, v1, v2, v3, v4, .int x5, v6, v7, v8] st u P = zr 254 83 [v0, v1, v2, v3, v4, .int x5, v6, v7, v8] (.int x5 :: st) u P := zr_Il k254_81 rfl
theorem k254_83 : xcd 254 83 = oCmp (fun x y => decide (x < y)) 89 86 := rfl
theorem r254_83 : zr 254 83 [v0, v1, v2, v3, v4, v5, v6, v7, v8] (.int y1 :: .int y2 :: st) u P = (if y2 < y1 then zr 254 89 [v0, v1, v2, v3, v4, v5, v6, v7, v8] st u P else zr 254 86 [v0, v1, v2, v3, v4, v5, v6, v7, v8] st u P) := zr_Cmp k254_83
theorem k254_86 : xcd 254 86 = oGoto 103 := rfl
theorem r254_86 : zr 254 86 [v0, v1, v2, v3, v4, v5, v6, v7, v8] st u P = zr 254 103 [v0, v1, v2, v3, v4, v5, v6, v7, v8] st u P := zr_Goto k254_86
theorem k254_89 : xcd 254 89 = oIl 8 91 := rfl
theorem r254_89 : zr 254 89 [v0, v1, v2, v3, v4, v5, v6, v7, .int x8] st u P = zr 254 91 [v0, v1, v2, v3, v4, v5, v6, v7, .int x8] (.int x8 :: st) u P := zr_Il k254_89 rfl
theorem k254_91 : xcd 254 91 = oIs 5 93 := rfl
theorem r254_91 : zr 254 91 [v0, v1, v2, v3, .int x4, v5, v6, v7, v8] (.int y1 :: st) u P = zr 254 93 [v0, v1, v2, v3, .int x4, .int y1, v6, v7, v8] st u P := zr_Is k254_91 ⟨Nat.le_of_ble_eq_true rfl, rfl⟩
theorem k254_93 : xcd 254 93 = oIl 7 95 := rfl
theorem r254_93 : zr 254 93 [v0, v1, v2, v3, v4, v5, v6, .int x7, v8] st u P = zr 254 95 [v0, v1, v2, v3, v4, v5, v6, .int x7, v8] (.int x7 :: st) u P := zr_Il k254_93 rfl
theorem k254_95 : xcd 254 95 = oI 100 97 := rfl
theorem r254_95 : zr 254 95 [v0, v1, v2, v3, v4, v5, v6, v7, v8] st u P = zr 254 97 [v0, v1, v2, v3, v4, v5, v6, v7, v8] (.int 100 :: st) u P := zr_I k254_95
theorem k254_97 : xcd 254 97 = oIl 6 99 := rfl
theorem r254_97 : zr 254 97 [v0, v1, v2, v3, v4, v5, .int x6, v7, v8] st u P = zr 254 99 [v0, v1, v2, v3, v4, v5, .int x6, v7, v8] (.int x6 :: st) u P := zr_Il k254_97 rfl
theorem k254_99 : xcd 254 99 = oB (fun x y => x * y) 100 := rfl
theorem r254_99 : zr 254 99 [v0, v1, v2, v3, v4, v5, v6, v7, v8] (.int y1 :: .int y2 :: st) u P = zr 254 100 [v0, v1, v2, v3, v4, v5, v6, v7, v8] (.int (y2 * y1) :: st) u P := zr_B k254_99
theorem k254_100 : xcd 254 100 = oB (fun x y => x + y) 101 := rfl
theorem r254_100 : zr 254 100 [v0, v1, v2, v3, v4, v5, v6, v7, v8] (.int y1 :: .int y2 :: st) u P = zr 254 101 [v0, v1, v2, v3, v4, v5, v6, v7, v8] (.int (y2 + y1) :: st) u P := zr_B k254_100
theorem k254_101 : xcd 254 101 = oIs 4 103 := rfl
theorem r254_101 : zr 254 101 [v0, v1, v2, .int x3, v4, v5, v6, v7, v8] (.int y1 :: st) u P = zr 254 103 [v0, v1, v2, .int x3, .int y1, v5, v6, v7, v8] st u P := zr_Is k254_101 ⟨Nat.le_of_ble_eq_true rfl, rfl⟩
theorem k254_103 : xcd 254 103 = oInc 7 1 106 := rfl
theorem r254_103 : zr 254 103 [v0, v1, v2, v3, v4, v5, .int x6, .int x7, v8] st u P = zr 254 106 [v0, v1, v2, v3, v4, v5, .int x6, .int (x7 + 1), v8] st u P := zr_Inc k254_103 rfl rfl
theorem k254_106 : xcd 254 106 = oGoto 56 := rfl
theorem r254_106 : zr 254 106 [v0, v1, v2, v3, v4, v5, v6, v7, v8] st u P = zr 254 56 [v0, v1, v2, v3, v4, v5, v6, v7, v8] st u P := zr_Goto k254_106
theorem k254_109 : xcd 254 109 = oInc 6 1 112 := rfl
theorem r254_109 : zr 254 109 [v0, v1, v2, v3, v4, .int x5, .int x6, v7, v8] st u P = zr 254 112 [v0, v1, v2, v3, v4, .int x5, .int (x6 + 1), v7, v8] st u P := zr_Inc k254_109 rfl rfl
theorem k254_112 : xcd 254 112 = oGoto 42 := rfl
theorem r254_112 : zr 254 112 [v0, v1, v2, v3, v4, v5, v6, v7, v8] st u P = zr 254 42 [v0, v1, v2, v3, v4, v5, v6, v7, v8] st u P := zr_Goto k254_112
theorem k254_115 : xcd 254 115 = oAl 0 116 := rfl
theorem r254_115 : zr 254 115 [.ref a0, v1, v2, v3, v4, v5, v6, v7, v8] st u P = zr 254 116 [.ref a0, v1, v2, v3, v4, v5, v6, v7, v8] (.ref a0 :: st) u P := zr_Al k254_115 rfl
theorem k254_116 : xcd 254 116 = oIl 4 118 := rfl
theorem r254_116 : zr 254 116 [v0, v1, v2, v3, .int x4, v5, v6, v7, v8] st u P = zr 254 118 [v0, v1, v2, v3, .int x4, v5, v6, v7, v8] (.int x4 :: st) u P := zr_Il k254_116 rfl
theorem k254_118 : xcd 254 118 = oCalV 11 174 1 121 := rfl
theorem r254_118 : zr 254 118 [v0, v1, v2, v3, v4, v5, v6, v7, v8] (.int y1 :: .ref b8 :: st) u P = ((xIs u b8 11 ∧ xcat st ≤ 8) ∧ zr 174 0 [.ref b8, .int y1] [] u (fun r u2 => zr 254 121 [v0, v1, v2, v3, v4, v5, v6, v7, v8] (r.toList ++ st) u2 P)) := zr_CV k254_118 rfl rfl rfl ⟨Nat.le_of_ble_eq_true rfl, Nat.succ_ne_zero _, by decide⟩ rfl
theorem k254_121 : xcd 254 121 = oRi 0 := rfl
theorem r254_121 : zr 254 121 [v0, v1, v2, v3, v4, v5, v6, v7, v8] [.int y1] u P = P (some (.int y1)) u := zr_Ri k254_121
theorem k255_0 : xcd 255 0 = oIl 3 1 := rfl
theorem r255_0 : zr 255 0 [v0, v1, v2, .int x3] st u P = zr 255 1 [v0, v1, v2, .int x3] (.int x3 :: st) u P := zr_Il k255_0 rfl
theorem k255_1 : xcd 255 1 = oIf (fun x => decide (x = 0)) 8 4 := rfl
theorem r255_1 : zr 255 1 [v0, v1, v2, v3] (.int y1 :: st) u P = (if y1 = 0 then zr 255 8 [v0, v1, v2, v3] st u P else zr 255 4 [v0, v1, v2, v3] st u P) := zr_If k255_1
theorem k255_4 : xcd 255 4 = oI 0 5 := rfl
theorem r255_4 : zr 255 4 [v0, v1, v2, v3] st u P = zr 255 5 [v0, v1, v2, v3] (.int 0 :: st) u P := zr_I k255_4
theorem k255_5 : xcd 255 5 = oGoto 26 := rfl
theorem r255_5 : zr 255 5 [v0, v1, v2, v3] st u P = zr 255 26 [v0, v1, v2, v3] st u P := zr_Goto k255_5
theorem k255_8 : xcd 255 8 = oIl 0 9 := rfl
theorem r255_8 : zr 255 8 [.int x0, v1, v2, v3] st u P = zr 255 9 [.int x0, v1, v2, v3] (.int x0 :: st) u P := zr_Il k255_8 rfl
theorem k255_9 : xcd 255 9 = oIl 2 10 := rfl
theorem r255_9 : zr 255 9 [v0, v1, .int x2, v3] st u P = zr 255 10 [v0, v1, .int x2, v3] (.int x2 :: st) u P := zr_Il k255_9 rfl
theorem k255_10 : xcd 255 10 = oI (-2) 12 := rfl
theorem r255_10 : zr 255 10 [v0, v1, v2, v3] st u P = zr 255 12 [v0, v1, v2, v3] (.int (-2) :: st) u P := zr_I k255_10
theorem k255_12 : xcd 255 12 = oCmp (fun x y => decide (x = y)) 20 15 := rfl
theorem r255_12 : zr 255 12 [v0, v1, v2, v3] (.int y1 :: .int y2 :: st) u P = (if y2 = y1 then zr 255 20 [v0, v1, v2, v3] st u P else zr 255 15 [v0, v1, v2, v3] st u P) := zr_Cmp k255_12
theorem k255_15 : xcd 255 15 = oIl 1 16 := rfl
theorem r255_15 : zr 255 15 [v0, .int x1, v2, v3] st u P = zr 255 16 [v0, .int x1, v2, v3] (.int x1 :: st) u P := zr_Il k255_15 rfl
theorem k255_16 : xcd 255 16 = oIl 2 17 := rfl
theorem r255_16 : zr 255 16 [v0, v1, .int x2, v3] st u P = zr 255 17 [v0, v1, .int x2, v3] (.int x2 :: st) u P := zr_Il k255_16 rfl
theorem k255_17 : xcd 255 17 = oCmp (fun x y => decide (y ≤ x)) 24 20 := rfl
theorem r255_17 : zr 255 17 [v0, v1, v2, v3] (.int y1 :: .int y2 :: st) u P = (if y1 ≤ y2 then zr 255 24 [v0, v1, v2, v3] st u P else zr 255 20 [v0, v1, v2, v3] st u P) := zr_Cmp k255_17
theorem k255_20 : xcd 255 20 = oIl 1 21 := rfl
theorem r255_20 : zr 255 20 [v0, .int x1, v2, v3] st u P = zr 255 21 [v0, .int x1, v2, v3] (.int x1 :: st) u P := zr_Il k255_20 rfl
theorem k255_21 : xcd 255 21 = oGoto 25 := rfl
theorem r255_21 : zr 255 21 [v0, v1, v2, v3] st u P = zr 255 25 [v0, v1, v2, v3] st u P := zr_Goto k255_21
theorem k255_24 : xcd 255 24 = oIl 2 25 := rfl
theorem r255_24 : zr 255 24 [v0, v1, .int x2, v3] st u P = zr 255 25 [v0, v1, .int x2, v3] (.int x2 :: st) u P := zr_Il k255_24 rfl
theorem k255_25 : xcd 255 25 = oB (fun x y => x * y) 26 := rfl
theorem r255_25 : zr 255 25 [v0, v1, v2, v3] (.int y1 :: .int y2 :: st) u P = zr 255 26 [v0, v1, v2, v3] (.int (y2 * y1) :: st) u P := zr_B k255_25
theorem k255_26 : xcd 255 26 = oRi 0 := rfl
theorem r255_26 : zr 255 26 [v0, v1, v2, v3] [.int y1] u P = P (some (.int y1)) u := zr_Ri k255_26
theorem k256_0 : xcd 256 0 = oIl 0 1 := rfl
theorem r256_0 : zr 256 0 [.int x0, v1] st u P = zr 256 1 [.int x0, v1] (.int x0 :: st) u P := zr_Il k256_0 rfl
theorem k256_1 : xcd 256 1 = oI2l 2 := rfl
theorem r256_1 : zr 256 1 [v0, v1] (.int y1 :: st) u P = zr 256 2 [v0, v1] (.long y1.toInt64 :: st) u P := zr_I2l k256_1
theorem k256_2 : xcd 256 2 = oIl 1 3 := rfl
theorem r256_2 : zr 256 2 [v0, .int x1] st u P = zr 256 3 [v0, .int x1] (.int x1 :: st) u P := zr_Il k256_2 rfl
theorem k256_3 : xcd 256 3 = oI2l 4 := rfl
theorem r256_3 : zr 256 3 [v0, v1] (.int y1 :: st) u P = zr 256 4 [v0, v1] (.long y1.toInt64 :: st) u P := zr_I2l k256_3
theorem k256_4 : xcd 256 4 = oLB (fun x y => x * y) 5 := rfl
theorem r256_4 : zr 256 4 [v0, v1] (.long w1 :: .long w2 :: st) u P = zr 256 5 [v0, v1] (.long (w2 * w1) :: st) u P := zr_LB k256_4
theorem k256_5 : xcd 256 5 = oJ 5000 8 := rfl
theorem r256_5 : zr 256 5 [v0, v1] st u P = zr 256 8 [v0, v1] (.long 5000 :: st) u P := zr_J k256_5
theorem k256_8 : xcd 256 8 = oLB (fun x y => x + y) 9 := rfl
theorem r256_8 : zr 256 8 [v0, v1] (.long w1 :: .long w2 :: st) u P = zr 256 9 [v0, v1] (.long (w2 + w1) :: st) u P := zr_LB k256_8
theorem k256_9 : xcd 256 9 = oJ 10000 12 := rfl
theorem r256_9 : zr 256 9 [v0, v1] st u P = zr 256 12 [v0, v1] (.long 10000 :: st) u P := zr_J k256_9
theorem k256_12 : xcd 256 12 = oLdiv 13 := rfl
theorem r256_12 : zr 256 12 [v0, v1] (.long w1 :: .long w2 :: st) u P = (¬ w1 = 0 ∧ zr 256 13 [v0, v1] (.long (w2 / w1) :: st) u P) := zr_Ldiv k256_12
theorem k256_13 : xcd 256 13 = oL2i 14 := rfl
theorem r256_13 : zr 256 13 [v0, v1] (.long w1 :: st) u P = zr 256 14 [v0, v1] (.int w1.toInt32 :: st) u P := zr_L2i k256_13
theorem k256_14 : xcd 256 14 = oRi 0 := rfl
theorem r256_14 : zr 256 14 [v0, v1] [.int y1] u P = P (some (.int y1)) u := zr_Ri k256_14
theorem k257_0 : xcd 257 0 = oAl 0 1 := rfl
theorem r257_0 : zr 257 0 [.ref a0, v1, v2, v3, v4, v5, v6, v7, v8, v9] st u P = zr 257 1 [.ref a0, v1, v2, v3, v4, v5, v6, v7, v8, v9] (.ref a0 :: st) u P := zr_Al k257_0 rfl
theorem k257_1 : xcd 257 1 = oIl 1 2 := rfl
theorem r257_1 : zr 257 1 [v0, .int x1, v2, v3, v4, v5, v6, v7, v8, v9] st u P = zr 257 2 [v0, .int x1, v2, v3, v4, v5, v6, v7, v8, v9] (.int x1 :: st) u P := zr_Il k257_1 rfl
theorem k257_2 : xcd 257 2 = oIl 2 3 := rfl
theorem r257_2 : zr 257 2 [v0, v1, .int x2, v3, v4, v5, v6, v7, v8, v9] st u P = zr 257 3 [v0, v1, .int x2, v3, v4, v5, v6, v7, v8, v9] (.int x2 :: st) u P := zr_Il k257_2 rfl
theorem k257_3 : xcd 257 3 = oIl 3 4 := rfl
theorem r257_3 : zr 257 3 [v0, v1, v2, .int x3, v4, v5, v6, v7, v8, v9] st u P = zr 257 4 [v0, v1, v2, .int x3, v4, v5, v6, v7, v8, v9] (.int x3 :: st) u P := zr_Il k257_3 rfl
theorem k257_4 : xcd 257 4 = oAl 0 5 := rfl
theorem r257_4 : zr 257 4 [.ref a0, v1, v2, v3, v4, v5, v6, v7, v8, v9] st u P = zr 257 5 [.ref a0, v1, v2, v3, v4, v5, v6, v7, v8, v9] (.ref a0 :: st) u P := zr_Al k257_4 rfl
theorem k257_5 : xcd 257 5 = oGR 11 17 8 := rfl
theorem r257_5 : zr 257 5 [v0, v1, v2, v3, v4, v5, v6, v7, v8, v9] (.ref b1 :: st) u P = (xIs u b1 11 ∧ ∃ b, xR u b1 17 = some b ∧ zr 257 8 [v0, v1, v2, v3, v4, v5, v6, v7, v8, v9] (.ref b :: st) u P) := zr_GR k257_5
theorem k257_8 : xcd 257 8 = oCalV 11 236 4 11 := rfl
theorem r257_8 : zr 257 8 [v0, v1, v2, v3, v4, v5, v6, v7, v8, v9] (.ref b4 :: .int y3 :: .int y2 :: .int y1 :: .ref b8 :: st) u P = ((xIs u b8 11 ∧ xcat st ≤ 8) ∧ zr 236 0 [.ref b8, .int y1, .int y2, .int y3, .ref b4, .null, .null, .null] [] u (fun r u2 => zr 257 11 [v0, v1, v2, v3, v4, v5, v6, v7, v8, v9] (r.toList ++ st) u2 P)) := zr_CV k257_8 rfl rfl rfl ⟨Nat.le_of_ble_eq_true rfl, Nat.succ_ne_zero _, by decide⟩ rfl
theorem k257_11 : xcd 257 11 = oIs 7 13 := rfl
theorem r257_11 : zr 257 11 [v0, v1, v2, v3, v4, v5, .int x6, v7, v8, v9] (.int y1 :: st) u P = zr 257 13 [v0, v1, v2, v3, v4, v5, .int x6, .int y1, v8, v9] st u P := zr_Is k257_11 ⟨Nat.le_of_ble_eq_true rfl, rfl⟩
theorem k257_13 : xcd 257 13 = oI 0 14 := rfl
theorem r257_13 : zr 257 13 [v0, v1, v2, v3, v4, v5, v6, v7, v8, v9] st u P = zr 257 14 [v0, v1, v2, v3, v4, v5, v6, v7, v8, v9] (.int 0 :: st) u P := zr_I k257_13
theorem k257_14 : xcd 257 14 = oIs 8 16 := rfl
theorem r257_14 : zr 257 14 [v0, v1, v2, v3, v4, v5, v6, .int x7, v8, v9] (.int y1 :: st) u P = zr 257 16 [v0, v1, v2, v3, v4, v5, v6, .int x7, .int y1, v9] st u P := zr_Is k257_14 ⟨Nat.le_of_ble_eq_true rfl, rfl⟩
theorem k257_16 : xcd 257 16 = oI 0 17 := rfl
theorem r257_16 : zr 257 16 [v0, v1, v2, v3, v4, v5, v6, v7, v8, v9] st u P = zr 257 17 [v0, v1, v2, v3, v4, v5, v6, v7, v8, v9] (.int 0 :: st) u P := zr_I k257_16
theorem k257_17 : xcd 257 17 = oIs 9 19 := rfl
theorem r257_17 : zr 257 17 [v0, v1, v2, v3, v4, v5, v6, v7, .int x8, v9] (.int y1 :: st) u P = zr 257 19 [v0, v1, v2, v3, v4, v5, v6, v7, .int x8, .int y1] st u P := zr_Is k257_17 ⟨Nat.le_of_ble_eq_true rfl, rfl⟩
theorem k257_19 : xcd 257 19 = oIl 9 21 := rfl
theorem r257_19 : zr 257 19 [v0, v1, v2, v3, v4, v5, v6, v7, v8, .int x9] st u P = zr 257 21 [v0, v1, v2, v3, v4, v5, v6, v7, v8, .int x9] (.int x9 :: st) u P := zr_Il k257_19 rfl
theorem k257_21 : xcd 257 21 = oIl 7 23 := rfl
theorem r257_21 : zr 257 21 [v0, v1, v2, v3, v4, v5, v6, .int x7, v8, v9] st u P = zr 257 23 [v0, v1, v2, v3, v4, v5, v6, .int x7, v8, v9] (.int x7 :: st) u P := zr_Il k257_21 rfl
theorem k257_23 : xcd 257 23 = oCmp (fun x y => decide (y ≤ x)) 90 26 := rfl
theorem r257_23 : zr 257 23 [v0, v1, v2, v3, v4, v5, v6, v7, v8, v9] (.int y1 :: .int y2 :: st) u P = (if y1 ≤ y2 then zr 257 90 [v0, v1, v2, v3, v4, v5, v6, v7, v8, v9] st u P else zr 257 26 [v0, v1, v2, v3, v4, v5, v6, v7, v8, v9] st u P) := zr_Cmp k257_23
theorem k257_26 : xcd 257 26 = oIl 8 28 := rfl
theorem r257_26 : zr 257 26 [v0, v1, v2, v3, v4, v5, v6, v7, .int x8, v9] st u P = zr 257 28 [v0, v1, v2, v3, v4, v5, v6, v7, .int x8, v9] (.int x8 :: st) u P := zr_Il k257_26 rfl
theorem k257_28 : xcd 257 28 = oIl 5 30 := rfl
theorem r257_28 : zr 257 28 [v0, v1, v2, v3, v4, .int x5, v6, v7, v8, v9] st u P = zr 257 30 [v0, v1, v2, v3, v4, .int x5, v6, v7, v8, v9] (.int x5 :: st) u P := zr_Il k257_28 rfl
theorem k257_30 : xcd 257 30 = oIl 6 32 := rfl
theorem r257_30 : zr 257 30 [v0, v1, v2, v3, v4, v5, .int x6, v7, v8, v9] st u P = zr 257 32 [v0, v1, v2, v3, v4, v5, .int x6, v7, v8, v9] (.int x6 :: st) u P := zr_Il k257_30 rfl
theorem k257_32 : xcd 257 32 = oAl 0 33 := rfl
theorem r257_32 : zr 257 32 [.ref a0, v1, v2, v3, v4, v5, v6, v7, v8, v9] st u P = zr 257 33 [.ref a0, v1, v2, v3, v4, v5, v6, v7, v8, v9] (.ref a0 :: st) u P := zr_Al k257_32 rfl
theorem k257_33 : xcd 257 33 = oAl 0 34 := rfl
theorem r257_33 : zr 257 33 [.ref a0, v1, v2, v3, v4, v5, v6, v7, v8, v9] st u P = zr 257 34 [.ref a0, v1, v2, v3, v4, v5, v6, v7, v8, v9] (.ref a0 :: st) u P := zr_Al k257_33 rfl
theorem k257_34 : xcd 257 34 = oGR 11 17 37 := rfl
theorem r257_34 : zr 257 34 [v0, v1, v2, v3, v4, v5, v6, v7, v8, v9] (.ref b1 :: st) u P = (xIs u b1 11 ∧ ∃ b, xR u b1 17 = some b ∧ zr 257 37 [v0, v1, v2, v3, v4, v5, v6, v7, v8, v9] (.ref b :: st) u P) := zr_GR k257_34
theorem k257_37 : xcd 257 37 = oIl 9 39 := rfl
theorem r257_37 : zr 257 37 [v0, v1, v2, v3, v4, v5, v6, v7, v8, .int x9] st u P = zr 257 39 [v0, v1, v2, v3, v4, v5, v6, v7, v8, .int x9] (.int x9 :: st) u P := zr_Il k257_37 rfl
theorem k257_39 : xcd 257 39 = oLd 13 40 := rfl
theorem r257_39 : zr 257 39 [v0, v1, v2, v3, v4, v5, v6, v7, v8, v9] (.int y1 :: .ref b1 :: st) u P = ((xIs u b1 13 ∧ xinb y1 (xN u b1)) ∧ zr 257 40 [v0, v1, v2, v3, v4, v5, v6, v7, v8, v9] (.int (xI u b1 (xix y1)) :: st) u P) := zr_Ld k257_39
theorem k257_40 : xcd 257 40 = oIl 4 42 := rfl
theorem r257_40 : zr 257 40 [v0, v1, v2, v3, .int x4, v5, v6, v7, v8, v9] st u P = zr 257 42 [v0, v1, v2, v3, .int x4, v5, v6, v7, v8, v9] (.int x4 :: st) u P := zr_Il k257_40 rfl
theorem k257_42 : xcd 257 42 = oCalV 11 248 2 45 := rfl
theorem r257_42 : zr 257 42 [v0, v1, v2, v3, v4, v5, v6, v7, v8, v9] (.int y2 :: .int y1 :: .ref b8 :: st) u P = ((xIs u b8 11 ∧ xcat st ≤ 8) ∧ zr 248 0 [.ref b8, .int y1, .int y2, .null] [] u (fun r u2 => zr 257 45 [v0, v1, v2, v3, v4, v5, v6, v7, v8, v9] (r.toList ++ st) u2 P)) := zr_CV k257_42 rfl rfl rfl ⟨Nat.le_of_ble_eq_true rfl, Nat.succ_ne_zero _, by decide⟩ rfl
theorem k257_45 : xcd 257 45 = oAl 0 46 := rfl
theorem r257_45 : zr 257 45 [.ref a0, v1, v2, v3, v4, v5, v6, v7, v8, v9] st u P = zr 257 46 [.ref a0, v1, v2, v3, v4, v5, v6, v7, v8, v9] (.ref a0 :: st) u P := zr_Al k257_45 rfl
theorem k257_46 : xcd 257 46 = oAl 0 47 := rfl
theorem r257_46 : zr 257 46 [.ref a0, v1, v2, v3, v4, v5, v6, v7, v8, v9] st u P = zr 257 47 [.ref a0, v1, v2, v3, v4, v5, v6, v7, v8, v9] (.ref a0 :: st) u P := zr_Al k257_46 rfl
theorem k257_47 : xcd 257 47 = oGR 11 17 50 := rfl
theorem r257_47 : zr 257 47 [v0, v1, v2, v3, v4, v5, v6, v7, v8, v9] (.ref b1 :: st) u P = (xIs u b1 11 ∧ ∃ b, xR u b1 17 = some b ∧ zr 257 50 [v0, v1, v2, v3, v4, v5, v6, v7, v8, v9] (.ref b :: st) u P) := zr_GR k257_47
theorem k257_50 : xcd 257 50 = oIl 9 52 := rfl
theorem r257_50 : zr 257 50 [v0, v1, v2, v3, v4, v5, v6, v7, v8, .int x9] st u P = zr 257 52 [v0, v1, v2, v3, v4, v5, v6, v7, v8, .int x9] (.int x9 :: st) u P := zr_Il k257_50 rfl
theorem k257_52 : xcd 257 52 = oLd 13 53 := rfl
theorem r257_52 : zr 257 52 [v0, v1, v2, v3, v4, v5, v6, v7, v8, v9] (.int y1 :: .ref b1 :: st) u P = ((xIs u b1 13 ∧ xinb y1 (xN u b1)) ∧ zr 257 53 [v0, v1, v2, v3, v4, v5, v6, v7, v8, v9] (.int (xI u b1 (xix y1)) :: st) u P) := zr_Ld k257_52
theorem k257_53 : xcd 257 53 = oIl 4 55 := rfl
theorem r257_53 : zr 257 53 [v0, v1, v2, v3, .int x4, v5, v6, v7, v8, v9] st u P = zr 257 55 [v0, v1, v2, v3, .int x4, v5, v6, v7, v8, v9] (.int x4 :: st) u P := zr_Il k257_53 rfl
theorem k257_55 : xcd 257 55 = oIl 1 56 := rfl
theorem r257_55 : zr 257 55 [v0, .int x1, v2, v3, v4, v5, v6, v7, v8, v9] st u P = zr 257 56 [v0, .int x1, v2, v3, v4, v5, v6, v7, v8, v9] (.int x1 :: st) u P := zr_Il k257_55 rfl
theorem k257_56 : xcd 257 56 = oIl 6 58 := rfl
theorem r257_56 : zr 257 56 [v0, v1, v2, v3, v4, v5, .int x6, v7, v8, v9] st u P = zr 257 58 [v0, v1, v2, v3, v4, v5, .int x6, v7, v8, v9] (.int x6 :: st) u P := zr_Il k257_56 rfl
theorem k257_58 : xcd 257 58 = oCalV 11 247 4 61 := rfl
theorem r257_58 : zr 257 58 [v0, v1, v2, v3, v4, v5, v6, v7, v8, v9] (.int y4 :: .int y3 :: .int y2 :: .int y1 :: .ref b8 :: st) u P = ((xIs u b8 11 ∧ xcat st ≤ 8) ∧ zr 247 0 [.ref b8, .int y1, .int y2, .int y3, .int y4, .null, .null] [] u (fun r u2 => zr 257 61 [v0, v1, v2, v3, v4, v5, v6, v7, v8, v9] (r.toList ++ st) u2 P)) := zr_CV k257_58 rfl rfl rfl ⟨Nat.le_of_ble_eq_true rfl, Nat.succ_ne_zero _, by decide⟩ rfl
theorem k257_61 : xcd 257 61 = oCal 255 4 64 := rfl
theorem r257_61 : zr 257 61 [v0, v1, v2, v3, v4, v5, v6, v7, v8, v9] (.int y4 :: .int y3 :: .int y2 :: .int y1 :: st) u P = (xcat st ≤ 8 ∧ zr 255 0 [.int y1, .int y2, .int y3, .int y4] [] u (fun r u2 => zr 257 64 [v0, v1, v2, v3, v4, v5, v6, v7, v8, v9] (r.toList ++ st) u2 P)) := zr_CS k257_61 (Nat.le_add_left _ _) rfl rfl ⟨Nat.le_of_ble_eq_true rfl, Nat.succ_ne_zero _, by decide⟩ rfl
theorem k257_64 : xcd 257 64 = oAl 0 65 := rfl
theorem r257_64 : zr 257 64 [.ref a0, v1, v2, v3, v4, v5, v6, v7, v8, v9] st u P = zr 257 65 [.ref a0, v1, v2, v3, v4, v5, v6, v7, v8, v9] (.ref a0 :: st) u P := zr_Al k257_64 rfl
theorem k257_65 : xcd 257 65 = oAl 0 66 := rfl
theorem r257_65 : zr 257 65 [.ref a0, v1, v2, v3, v4, v5, v6, v7, v8, v9] st u P = zr 257 66 [.ref a0, v1, v2, v3, v4, v5, v6, v7, v8, v9] (.ref a0 :: st) u P := zr_Al k257_65 rfl
theorem k257_66 : xcd 257 66 = oGR 11 17 69 := rfl
theorem r257_66 : zr 257 66 [v0, v1, v2, v3, v4, v5, v6, v7, v8, v9] (.ref b1 :: st) u P = (xIs u b1 11 ∧ ∃ b, xR u b1 17 = some b ∧ zr 257 69 [v0, v1, v2, v3, v4, v5, v6, v7, v8, v9] (.ref b :: st) u P) := zr_GR k257_66
theorem k257_69 : xcd 257 69 = oIl 9 71 := rfl
theorem r257_69 : zr 257 69 [v0, v1, v2, v3, v4, v5, v6, v7, v8, .int x9] st u P = zr 257 71 [v0, v1, v2, v3, v4, v5, v6, v7, v8, .int x9] (.int x9 :: st) u P := zr_Il k257_69 rfl
theorem k257_71 : xcd 257 71 = oLd 13 72 := rfl
theorem r257_71 : zr 257 71 [v0, v1, v2, v3, v4, v5, v6, v7, v8, v9] (.int y1 :: .ref b1 :: st) u P = ((xIs u b1 13 ∧ xinb y1 (xN u b1)) ∧ zr 257 72 [v0, v1, v2, v3, v4, v5, v6, v7, v8, v9] (.int (xI u b1 (xix y1)) :: st) u P) := zr_Ld k257_71
theorem k257_72 : xcd 257 72 = oIl 4 74 := rfl
theorem r257_72 : zr 257 72 [v0, v1, v2, v3, .int x4, v5, v6, v7, v8, v9] st u P = zr 257 74 [v0, v1, v2, v3, .int x4, v5, v6, v7, v8, v9] (.int x4 :: st) u P := zr_Il k257_72 rfl
theorem k257_74 : xcd 257 74 = oIl 1 75 := rfl
theorem r257_74 : zr 257 74 [v0, .int x1, v2, v3, v4, v5, v6, v7, v8, v9] st u P = zr 257 75 [v0, .int x1, v2, v3, v4, v5, v6, v7, v8, v9] (.int x1 :: st) u P := zr_Il k257_74 rfl
theorem k257_75 : xcd 257 75 = oCalV 11 245 3 78 := rfl
theorem r257_75 : zr 257 75 [v0, v1, v2, v3, v4, v5, v6, v7, v8, v9] (.int y3 :: .int y2 :: .int y1 :: .ref b8 :: st) u P = ((xIs u b8 11 ∧ xcat st ≤ 8) ∧ zr 245 0 [.ref b8, .int y1, .int y2, .int y3, .null] [] u (fun r u2 => zr 257 78 [v0, v1, v2, v3, v4, v5, v6, v7, v8, v9] (r.toList ++ st) u2 P)) := zr_CV k257_75 rfl rfl rfl ⟨Nat.le_of_ble_eq_true rfl, Nat.succ_ne_zero _, by decide⟩ rfl
theorem k257_78 : xcd 257 78 = oCal 256 2 81 := rfl
theorem r257_78 : zr 257 78 [v0, v1, v2, v3, v4, v5, v6, v7, v8, v9] (.int y2 :: .int y1 :: st) u P = (xcat st ≤ 8 ∧ zr 256 0 [.int y1, .int y2] [] u (fun r u2 => zr 257 81 [v0, v1, v2, v3, v4, v5, v6, v7, v8, v9] (r.toList ++ st) u2 P)) := zr_CS k257_78 (Nat.le_add_left _ _) rfl rfl ⟨Nat.le_of_ble_eq_true rfl, Nat.succ_ne_zero _, by decide⟩ rfl
theorem k257_81 : xcd 257 81 = oB (fun x y => x + y) 82 := rfl
theorem r257_81 : zr 257 81 [v0, v1, v2, v3, v4, v5, v6, v7, v8, v9] (.int y1 :: .int y2 :: st) u P = zr 257 82 [v0, v1, v2, v3, v4, v5, v6, v7, v8, v9] (.int (y2 + y1) :: st) u P := zr_B k257_81
theorem k257_82 : xcd 257 82 = oIs 8 84 := rfl
theorem r257_82 : zr 257 82 [v0, v1, v2, v3, v4, v5, v6, .int x7, v8, v9] (.int y1 :: st) u P = zr 257 84 [v0, v1, v2, v3, v4, v5, v6, .int x7, .int y1, v9] st u P := zr_Is k257_82 ⟨Nat.le_of_ble_eq_true rfl, rfl⟩
theorem k257_84 : xcd 257 84 = oInc 9 1 87 := rfl
theorem r257_84 : zr 257 84 [v0, v1, v2, v3, v4, v5, v6, v7, .int x8, .int x9] st u P = zr 257 87 [v0, v1, v2, v3, v4, v5, v6, v7, .int x8, .int (x9 + 1)] st u P := zr_Inc k257_84 rfl rfl
theorem k257_87 : xcd 257 87 = oGoto 19 := rfl
theorem r257_87 : zr 257 87 [v0, v1, v2, v3, v4, v5, v6, v7, v8, v9] st u P = zr 257 19 [v0, v1, v2, v3, v4, v5, v6, v7, v8, v9] st u P := zr_Goto k257_87
theorem k257_90 : xcd 257 90 = oIl 8 92 := rfl
theorem r257_90 : zr 257 90 [v0, v1, v2, v3, v4, v5, v6, v7, .int x8, v9] st u P = zr 257 92 [v0, v1, v2, v3, v4, v5, v6, v7, .int x8, v9] (.int x8 :: st) u P := zr_Il k257_90 rfl
theorem k257_92 : xcd 257 92 = oRi 0 := rfl
theorem r257_92 : zr 257 92 [v0, v1, v2, v3, v4, v5, v6, v7, v8, v9] [.int y1] u P = P (some (.int y1)) u := zr_Ri k257_92
theorem k258_0 : xcd 258 0 = oAl 0 1 := rfl
theorem r258_0 : zr 258 0 [.ref a0, v1, v2, v3, v4, v5, v6, v7] st u P = zr 258 1 [.ref a0, v1, v2, v3, v4, v5, v6, v7] (.ref a0 :: st) u P := zr_Al k258_0 rfl
theorem k258_1 : xcd 258 1 = oAl 0 2 := rfl
theorem r258_1 : zr 258 1 [.ref a0, v1, v2, v3, v4, v5, v6, v7] st u P = zr 258 2 [.ref a0, v1, v2, v3, v4, v5, v6, v7] (.ref a0 :: st) u P := zr_Al k258_1 rfl
theorem k258_2 : xcd 258 2 = oIl 4 4 := rfl
theorem r258_2 : zr 258 2 [v0, v1, v2, v3, .int x4, v5, v6, v7] st u P = zr 258 4 [v0, v1, v2, v3, .int x4, v5, v6, v7] (.int x4 :: st) u P := zr_Il k258_2 rfl
theorem k258_4 : xcd 258 4 = oCalV 11 213 1 7 := rfl
theorem r258_4 : zr 258 4 [v0, v1, v2, v3, v4, v5, v6, v7] (.int y1 :: .ref b8 :: st) u P = ((xIs u b8 11 ∧ xcat st ≤ 8) ∧ zr 213 0 [.ref b8, .int y1] [] u (fun r u2 => zr 258 7 [v0, v1, v2, v3, v4, v5, v6, v7] (r.toList ++ st) u2 P)) := zr_CV k258_4 rfl rfl rfl ⟨Nat.le_of_ble_eq_true rfl, Nat.succ_ne_zero _, by decide⟩ rfl
theorem k258_7 : xcd 258 7 = oIl 1 8 := rfl
theorem r258_7 : zr 258 7 [v0, .int x1, v2, v3, v4, v5, v6, v7] st u P = zr 258 8 [v0, .int x1, v2, v3, v4, v5, v6, v7] (.int x1 :: st) u P := zr_Il k258_7 rfl
theorem k258_8 : xcd 258 8 = oIl 2 9 := rfl
theorem r258_8 : zr 258 8 [v0, v1, .int x2, v3, v4, v5, v6, v7] st u P = zr 258 9 [v0, v1, .int x2, v3, v4, v5, v6, v7] (.int x2 :: st) u P := zr_Il k258_8 rfl
theorem k258_9 : xcd 258 9 = oIl 3 10 := rfl
theorem r258_9 : zr 258 9 [v0, v1, v2, .int x3, v4, v5, v6, v7] st u P = zr 258 10 [v0, v1, v2, .int x3, v4, v5, v6, v7] (.int x3 :: st) u P := zr_Il k258_9 rfl
theorem k258_10 : xcd 258 10 = oCalV 11 225 4 13 := rfl
theorem r258_10 : zr 258 10 [v0, v1, v2, v3, v4, v5, v6, v7] (.int y4 :: .int y3 :: .int y2 :: .int y1 :: .ref b8 :: st) u P = ((xIs u b8 11 ∧ xcat st ≤ 8) ∧ zr 225 0 [.ref b8, .int y1, .int y2, .int y3, .int y4, .null] [] u (fun r u2 => zr 258 13 [v0, v1, v2, v3, v4, v5, v6, v7] (r.toList ++ st) u2 P)) := zr_CV k258_10 rfl rfl rfl ⟨Nat.le_of_ble_eq_true rfl, Nat.succ_ne_zero _, by decide⟩ rfl
theorem k258_13 : xcd 258 13 = oIs 7 15 := rfl
theorem r258_13 : zr 258 13 [v0, v1, v2, v3, v4, v5, .int x6, v7] (.int y1 :: st) u P = zr 258 15 [v0, v1, v2, v3, v4, v5, .int x6, .int y1] st u P := zr_Is k258_13 ⟨Nat.le_of_ble_eq_true rfl, rfl⟩
theorem k258_15 : xcd 258 15 = oIl 7 17 := rfl
theorem r258_15 : zr 258 15 [v0, v1, v2, v3, v4, v5, v6, .int x7] st u P = zr 258 17 [v0, v1, v2, v3, v4, v5, v6, .int x7] (.int x7 :: st) u P := zr_Il k258_15 rfl
theorem k258_17 : xcd 258 17 = oIf (fun x => decide (¬ x = 0)) 47 20 := rfl
theorem r258_17 : zr 258 17 [v0, v1, v2, v3, v4, v5, v6, v7] (.int y1 :: st) u P = (if ¬ y1 = 0 then zr 258 47 [v0, v1, v2, v3, v4, v5, v6, v7] st u P else zr 258 20 [v0, v1, v2, v3, v4, v5, v6, v7] st u P) := zr_If k258_17
theorem k258_20 : xcd 258 20 = oIl 5 22 := rfl
theorem r258_20 : zr 258 20 [v0, v1, v2, v3, v4, .int x5, v6, v7] st u P = zr 258 22 [v0, v1, v2, v3, v4, .int x5, v6, v7] (.int x5 :: st) u P := zr_Il k258_20 rfl
theorem k258_22 : xcd 258 22 = oI 1 23 := rfl
theorem r258_22 : zr 258 22 [v0, v1, v2, v3, v4, v5, v6, v7] st u P = zr 258 23 [v0, v1, v2, v3, v4, v5, v6, v7] (.int 1 :: st) u P := zr_I k258_22
theorem k258_23 : xcd 258 23 = oI 99 25 := rfl
theorem r258_23 : zr 258 23 [v0, v1, v2, v3, v4, v5, v6, v7] st u P = zr 258 25 [v0, v1, v2, v3, v4, v5, v6, v7] (.int 99 :: st) u P := zr_I k258_23
theorem k258_25 : xcd 258 25 = oCal 175 3 28 := rfl
theorem r258_25 : zr 258 25 [v0, v1, v2, v3, v4, v5, v6, v7] (.int y3 :: .int y2 :: .int y1 :: st) u P = (xcat st ≤ 8 ∧ zr 175 0 [.int y1, .int y2, .int y3] [] u (fun r u2 => zr 258 28 [v0, v1, v2, v3, v4, v5, v6, v7] (r.toList ++ st) u2 P)) := zr_CS k258_25 (Nat.le_add_left _ _) rfl rfl ⟨Nat.le_of_ble_eq_true rfl, Nat.succ_ne_zero _, by decide⟩ rfl
theorem k258_28 : xcd 258 28 = oIf (fun x => decide (x = 0)) 43 31 := rfl
theorem r258_28 : zr 258 28 [v0, v1, v2, v3, v4, v5, v6, v7] (.int y1 :: st) u P = (if y1 = 0 then zr 258 43 [v0, v1, v2, v3, v4, v5, v6, v7] st u P else zr 258 31 [v0, v1, v2, v3, v4, v5, v6, v7] st u P) := zr_If k258_28
theorem k258_31 : xcd 258 31 = oIl 6 33 := rfl
theorem r258_31 : zr 258 31 [v0, v1, v2, v3, v4, v5, .int x6, v7] st u P = zr 258 33 [v0, v1, v2, v3, v4, v5, .int x6, v7] (.int x6 :: st) u P := zr_Il k258_31 rfl
theorem k258_33 : xcd 258 33 = oI 1 34 := rfl
theorem r258_33 : zr 258 33 [v0, v1, v2, v3, v4, v5, v6, v7] st u P = zr 258 34 [v0, v1, v2, v3, v4, v5, v6, v7] (.int 1 :: st) u P := zr_I k258_33
theorem k258_34 : xcd 258 34 = oI 9999 37 := rfl
theorem r258_34 : zr 258 34 [v0, v1, v2, v3, v4, v5, v6, v7] st u P = zr 258 37 [v0, v1, v2, v3, v4, v5, v6, v7] (.int 9999 :: st) u P := zr_I k258_34
theorem k258_37 : xcd 258 37 = oCal 175 3 40 := rfl
theorem r258_37 : zr 258 37 [v0, v1, v2, v3, v4, v5, v6, v7] (.int y3 :: .int y2 :: .int y1 :: st) u P = (xcat st ≤ 8 ∧ zr 175 0 [.int y1, .int y2, .int y3] [] u (fun r u2 => zr 258 40 [v0, v1, v2, v3, v4, v5, v6, v7] (r.toList ++ st) u2 P)) := zr_CS k258_37 (Nat.le_add_left _ _) rfl rfl ⟨Nat.le_of_ble_eq_true rfl, Nat.succ_ne_zero _, by decide⟩ rfl
theorem k258_40 : xcd 258 40 = oIf (fun x => decide (¬ x = 0)) 47 43 := rfl
theorem r258_40 : zr 258 40 [v0, v1, v2, v3, v4, v5, v6, v7] (.int y1 :: st) u P = (if ¬ y1 = 0 then zr 258 47 [v0, v1, v2, v3, v4, v5, v6, v7] st u P else zr 258 43 [v0, v1, v2, v3, v4, v5, v6, v7] st u P) := zr_If k258_40
theorem k258_43 : xcd 258 43 = oI 2 44 := rfl
theorem r258_43 : zr 258 43 [v0, v1, v2, v3, v4, v5, v6, v7] st u P = zr 258 44 [v0, v1, v2, v3, v4, v5, v6, v7] (.int 2 :: st) u P := zr_I k258_43
theorem k258_44 : xcd 258 44 = oGoto 49 := rfl
theorem r258_44 : zr 258 44 [v0, v1, v2, v3, v4, v5, v6, v7] st u P = zr 258 49 [v0, v1, v2, v3, v4, v5, v6, v7] st u P := zr_Goto k258_44
theorem k258_47 : xcd 258 47 = oIl 7 49 := rfl
theorem r258_47 : zr 258 47 [v0, v1, v2, v3, v4, v5, v6, .int x7] st u P = zr 258 49 [v0, v1, v2, v3, v4, v5, v6, .int x7] (.int x7 :: st) u P := zr_Il k258_47 rfl
theorem k258_49 : xcd 258 49 = oRi 0 := rfl
theorem r258_49 : zr 258 49 [v0, v1, v2, v3, v4, v5, v6, v7] [.int y1] u P = P (some (.int y1)) u := zr_Ri k258_49
theorem k259_0 : xcd 259 0 = oAl 0 1 := rfl
theorem r259_0 : zr 259 0 [.ref a0, v1, v2, v3, v4, v5, v6, v7] st u P = zr 259 1 [.ref a0, v1, v2, v3, v4, v5, v6, v7] (.ref a0 :: st) u P := zr_Al k259_0 rfl
theorem k259_1 : xcd 259 1 = oI 0 2 := rfl
theorem r259_1 : zr 259 1 [v0, v1, v2, v3, v4, v5, v6, v7] st u P = zr 259 2 [v0, v1, v2, v3, v4, v5, v6, v7] (.int 0 :: st) u P := zr_I k259_1
theorem k259_2 : xcd 259 2 = oPI 11 0 5 := rfl
theorem r259_2 : zr 259 2 [v0, v1, v2, v3, v4, v5, v6, v7] (.int y1 :: .ref b1 :: st) u P = (xIs u b1 11 ∧ zr 259 5 [v0, v1, v2, v3, v4, v5, v6, v7] st (xsI u b1 0 y1) P) := zr_PI k259_2
theorem k259_5 : xcd 259 5 = oAl 0 6 := rfl
theorem r259_5 : zr 259 5 [.ref a0, v1, v2, v3, v4, v5, v6, v7] st u P = zr 259 6 [.ref a0, v1, v2, v3, v4, v5, v6, v7] (.ref a0 :: st) u P := zr_Al k259_5 rfl
theorem k259_6 : xcd 259 6 = oIl 1 7 := rfl
theorem r259_6 : zr 259 6 [v0, .int x1, v2, v3, v4, v5, v6, v7] st u P = zr 259 7 [v0, .int x1, v2, v3, v4, v5, v6, v7] (.int x1 :: st) u P := zr_Il k259_6 rfl
theorem k259_7 : xcd 259 7 = oIl 2 8 := rfl
theorem r259_7 : zr 259 7 [v0, v1, .int x2, v3, v4, v5, v6, v7] st u P = zr 259 8 [v0, v1, .int x2, v3, v4, v5, v6, v7] (.int x2 :: st) u P := zr_Il k259_7 rfl
theorem k259_8 : xcd 259 8 = oIl 3 9 := rfl
theorem r259_8 : zr 259 8 [v0, v1, v2, .int x3, v4, v5, v6, v7] st u P = zr 259 9 [v0, v1, v2, .int x3, v4, v5, v6, v7] (.int x3 :: st) u P := zr_Il k259_8 rfl
theorem k259_9 : xcd 259 9 = oIl 4 11 := rfl
theorem r259_9 : zr 259 9 [v0, v1, v2, v3, .int x4, v5, v6, v7] st u P = zr 259 11 [v0, v1, v2, v3, .int x4, v5, v6, v7] (.int x4 :: st) u P := zr_Il k259_9 rfl
theorem k259_11 : xcd 259 11 = oIl 5 13 := rfl
theorem r259_11 : zr 259 11 [v0, v1, v2, v3, v4, .int x5, v6, v7] st u P = zr 259 13 [v0, v1, v2, v3, v4, .int x5, v6, v7] (.int x5 :: st) u P := zr_Il k259_11 rfl
theorem k259_13 : xcd 259 13 = oIl 6 15 := rfl
theorem r259_13 : zr 259 13 [v0, v1, v2, v3, v4, v5, .int x6, v7] st u P = zr 259 15 [v0, v1, v2, v3, v4, v5, .int x6, v7] (.int x6 :: st) u P := zr_Il k259_13 rfl
theorem k259_15 : xcd 259 15 = oCalV 11 258 6 18 := rfl
theorem r259_15 : zr 259 15 [v0, v1, v2, v3, v4, v5, v6, v7] (.int y6 :: .int y5 :: .int y4 :: .int y3 :: .int y2 :: .int y1 :: .ref b8 :: st) u P = ((xIs u b8 11 ∧ xcat st ≤ 8) ∧ zr 258 0 [.ref b8, .int y1, .int y2, .int y3, .int y4, .int y5, .int y6, .null] [] u (fun r u2 => zr 259 18 [v0, v1, v2, v3, v4, v5, v6, v7] (r.toList ++ st) u2 P)) := zr_CV k259_15 rfl rfl rfl ⟨Nat.le_of_ble_eq_true rfl, Nat.succ_ne_zero _, by decide⟩ rfl
theorem k259_18 : xcd 259 18 = oIs 7 20 := rfl
theorem r259_18 : zr 259 18 [v0, v1, v2, v3, v4, v5, .int x6, v7] (.int y1 :: st) u P = zr 259 20 [v0, v1, v2, v3, v4, v5, .int x6, .int y1] st u P := zr_Is k259_18 ⟨Nat.le_of_ble_eq_true rfl, rfl⟩
theorem k259_20 : xcd 259 20 = oIl 7 22 := rfl
theorem r259_20 : zr 259 20 [v0, v1, v2, v3, v4, v5, v6, .int x7] st u P = zr 259 22 [v0, v1, v2, v3, v4, v5, v6, .int x7] (.int x7 :: st) u P := zr_Il k259_20 rfl
theorem k259_22 : xcd 259 22 = oIf (fun x => decide (x ≤ 0)) 34 25 := rfl
theorem r259_22 : zr 259 22 [v0, v1, v2, v3, v4, v5, v6, v7] (.int y1 :: st) u P = (if y1 ≤ 0 then zr 259 34 [v0, v1, v2, v3, v4, v5, v6, v7] st u P else zr 259 25 [v0, v1, v2, v3, v4, v5, v6, v7] st u P) := zr_If k259_22
theorem k259_25 : xcd 259 25 = oAl 0 26 := rfl
theorem r259_25 : zr 259 25 [.ref a0, v1, v2, v3, v4, v5, v6, v7] st u P = zr 259 26 [.ref a0, v1, v2, v3, v4, v5, v6, v7] (.ref a0 :: st) u P := zr_Al k259_25 rfl
theorem k259_26 : xcd 259 26 = oIl 7 28 := rfl
theorem r259_26 : zr 259 26 [v0, v1, v2, v3, v4, v5, v6, .int x7] st u P = zr 259 28 [v0, v1, v2, v3, v4, v5, v6, .int x7] (.int x7 :: st) u P := zr_Il k259_26 rfl
theorem k259_28 : xcd 259 28 = oCalV 11 172 1 31 := rfl
theorem r259_28 : zr 259 28 [v0, v1, v2, v3, v4, v5, v6, v7] (.int y1 :: .ref b8 :: st) u P = ((xIs u b8 11 ∧ xcat st ≤ 8) ∧ zr 172 0 [.ref b8, .int y1] [] u (fun r u2 => zr 259 31 [v0, v1, v2, v3, v4, v5, v6, v7] (r.toList ++ st) u2 P)) := zr_CV k259_28 rfl rfl rfl ⟨Nat.le_of_ble_eq_true rfl, Nat.succ_ne_zero _, by decide⟩ rfl
theorem k259_31 : xcd 259 31 = oGoto 51 := rfl
theorem r259_31 : zr 259 31 [v0, v1, v2, v3, v4, v5, v6, v7] st u P = zr 259 51 [v0, v1, v2, v3, v4, v5, v6, v7] st u P := zr_Goto k259_31
theorem k259_34 : xcd 259 34 = oAl 0 35 := rfl
theorem r259_34 : zr 259 34 [.ref a0, v1, v2, v3, v4, v5, v6, v7] st u P = zr 259 35 [.ref a0, v1, v2, v3, v4, v5, v6, v7] (.ref a0 :: st) u P := zr_Al k259_34 rfl
theorem k259_35 : xcd 259 35 = oAl 0 36 := rfl
theorem r259_35 : zr 259 35 [.ref a0, v1, v2, v3, v4, v5, v6, v7] st u P = zr 259 36 [.ref a0, v1, v2, v3, v4, v5, v6, v7] (.ref a0 :: st) u P := zr_Al k259_35 rfl
theorem k259_36 : xcd 259 36 = oIl 1 37 := rfl
theorem r259_36 : zr 259 36 [v0, .int x1, v2, v3, v4, v5, v6, v7] st u P = zr 259 37 [v0, .int x1, v2, v3, v4, v5, v6, v7] (.int x1 :: st) u P := zr_Il k259_36 rfl
theorem k259_37 : xcd 259 37 = oIl 2 38 := rfl
theorem r259_37 : zr 259 37 [v0, v1, .int x2, v3, v4, v5, v6, v7] st u P = zr 259 38 [v0, v1, .int x2, v3, v4, v5, v6, v7] (.int x2 :: st) u P := zr_Il k259_37 rfl
theorem k259_38 : xcd 259 38 = oIl 3 39 := rfl
theorem r259_38 : zr 259 38 [v0, v1, v2, .int x3, v4, v5, v6, v7] st u P = zr 259 39 [v0, v1, v2, .int x3, v4, v5, v6, v7] (.int x3 :: st) u P := zr_Il k259_38 rfl
theorem k259_39 : xcd 259 39 = oIl 4 41 := rfl
theorem r259_39 : zr 259 39 [v0, v1, v2, v3, .int x4, v5, v6, v7] st u P = zr 259 41 [v0, v1, v2, v3, .int x4, v5, v6, v7] (.int x4 :: st) u P := zr_Il k259_39 rfl
theorem k259_41 : xcd 259 41 = oIl 5 43 := rfl
theorem r259_41 : zr 259 41 [v0, v1, v2, v3, v4, .int x5, v6, v7] st u P = zr 259 43 [v0, v1, v2, v3, v4, .int x5, v6, v7] (.int x5 :: st) u P := zr_Il k259_41 rfl
theorem k259_43 : xcd 259 43 = oIl 6 45 := rfl
theorem r259_43 : zr 259 43 [v0, v1, v2, v3, v4, v5, .int x6, v7] st u P = zr 259 45 [v0, v1, v2, v3, v4, v5, .int x6, v7] (.int x6 :: st) u P := zr_Il k259_43 rfl
theorem k259_45 : xcd 259 45 = oCalV 11 257 6 48 := rfl
theorem r259_45 : zr 259 45 [v0, v1, v2, v3, v4, v5, v6, v7] (.int y6 :: .int y5 :: .int y4 :: .int y3 :: .int y2 :: .int y1 :: .ref b8 :: st) u P = ((xIs u b8 11 ∧ xcat st ≤ 8) ∧ zr 257 0 [.ref b8, .int y1, .int y2, .int y3, .int y4, .int y5, .int y6, .null, .null, .null] [] u (fun r u2 => zr 259 48 [v0, v1, v2, v3, v4, v5, v6, v7] (r.toList ++ st) u2 P)) := zr_CV k259_45 rfl rfl rfl ⟨Nat.le_of_ble_eq_true rfl, Nat.succ_ne_zero _, by decide⟩ rfl
theorem k259_48 : xcd 259 48 = oCalV 11 174 1 51 := rfl
theorem r259_48 : zr 259 48 [v0, v1, v2, v3, v4, v5, v6, v7] (.int y1 :: .ref b8 :: st) u P = ((xIs u b8 11 ∧ xcat st ≤ 8) ∧ zr 174 0 [.ref b8, .int y1] [] u (fun r u2 => zr 259 51 [v0, v1, v2, v3, v4, v5, v6, v7] (r.toList ++ st) u2 P)) := zr_CV k259_48 rfl rfl rfl ⟨Nat.le_of_ble_eq_true rfl, Nat.succ_ne_zero _, by decide⟩ rfl
theorem k259_51 : xcd 259 51 = oRi 0 := rfl
theorem r259_51 : zr 259 51 [v0, v1, v2, v3, v4, v5, v6, v7] [.int y1] u P = P (some (.int y1)) u := zr_Ri k259_51
theorem k260_0 : xcd 260 0 = oAl 0 1 := rfl
theorem r260_0 : zr 260 0 [.ref a0, v1, v2, v3, v4, v5, v6, v7, v8, v9, v10, v11, v12] st u P = zr 260 1 [.ref a0, v1, v2, v3, v4, v5, v6, v7, v8, v9, v10, v11, v12] (.ref a0 :: st) u P := zr_Al k260_0 rfl
theorem k260_1 : xcd 260 1 = oI 0 2 := rfl
theorem r260_1 : zr 260 1 [v0, v1, v2, v3, v4, v5, v6, v7, v8, v9, v10, v11, v12] st u P = zr 260 2 [v0, v1, v2, v3, v4, v5, v6, v7, v8, v9, v10, v11, v12] (.int 0 :: st) u P := zr_I k260_1
theorem k260_2 : xcd 260 2 = oPI 11 0 5 := rfl
theorem r260_2 : zr 260 2 [v0, v1, v2, v3, v4, v5, v6, v7, v8, v9, v10, v11, v12] (.int y1 :: .ref b1 :: st) u P = (xIs u b1 11 ∧ zr 260 5 [v0, v1, v2, v3, v4, v5, v6, v7, v8, v9, v10, v11, v12] st (xsI u b1 0 y1) P) := zr_PI k260_2
theorem k260_5 : xcd 260 5 = oAl 0 6 := rfl
theorem r260_5 : zr 260 5 [.ref a0, v1, v2, v3, v4, v5, v6, v7, v8, v9, v10, v11, v12] st u P = zr 260 6 [.ref a0, v1, v2, v3, v4, v5, v6, v7, v8, v9, v10, v11, v12] (.ref a0 :: st) u P := zr_Al k260_5 rfl
theorem k260_6 : xcd 260 6 = oIl 1 7 := rfl
theorem r260_6 : zr 260 6 [v0, .int x1, v2, v3, v4, v5, v6, v7, v8, v9, v10, v11, v12] st u P = zr 260 7 [v0, .int x1, v2, v3, v4, v5, v6, v7, v8, v9, v10, v11, v12] (.int x1 :: st) u P := zr_Il k260_6 rfl
theorem k260_7 : xcd 260 7 = oIl 3 8 := rfl
theorem r260_7 : zr 260 7 [v0, v1, v2, .int x3, v4, v5, v6, v7, v8, v9, v10, v11, v12] st u P = zr 260 8 [v0, v1, v2, .int x3, v4, v5, v6, v7, v8, v9, v10, v11, v12] (.int x3 :: st) u P := zr_Il k260_7 rfl
theorem k260_8 : xcd 260 8 = oIl 4 10 := rfl
theorem r260_8 : zr 260 8 [v0, v1, v2, v3, .int x4, v5, v6, v7, v8, v9, v10, v11, v12] st u P = zr 260 10 [v0, v1, v2, v3, .int x4, v5, v6, v7, v8, v9, v10, v11, v12] (.int x4 :: st) u P := zr_Il k260_8 rfl
theorem k260_10 : xcd 260 10 = oIl 5 12 := rfl
theorem r260_10 : zr 260 10 [v0, v1, v2, v3, v4, .int x5, v6, v7, v8, v9, v10, v11, v12] st u P = zr 260 12 [v0, v1, v2, v3, v4, .int x5, v6, v7, v8, v9, v10, v11, v12] (.int x5 :: st) u P := zr_Il k260_10 rfl
theorem k260_12 : xcd 260 12 = oIl 6 14 := rfl
theorem r260_12 : zr 260 12 [v0, v1, v2, v3, v4, v5, .int x6, v7, v8, v9, v10, v11, v12] st u P = zr 260 14 [v0, v1, v2, v3, v4, v5, .int x6, v7, v8, v9, v10, v11, v12] (.int x6 :: st) u P := zr_Il k260_12 rfl
theorem k260_14 : xcd 260 14 = oIl 7 16 := rfl
theorem r260_14 : zr 260 14 [v0, v1, v2, v3, v4, v5, v6, .int x7, v8, v9, v10, v11, v12] st u P = zr 260 16 [v0, v1, v2, v3, v4, v5, v6, .int x7, v8, v9, v10, v11, v12] (.int x7 :: st) u P := zr_Il k260_14 rfl
theorem k260_16 : xcd 260 16 = oCalV 11 258 6 19 := rfl
theorem r260_16 : zr 260 16 [v0, v1, v2, v3, v4, v5, v6, v7, v8, v9, v10, v11, v12] (.int y6 :: .int y5 :: .int y4 :: .int y3 :: .int y2 :: .int y1 :: .ref b8 :: st) u P = ((xIs u b8 11 ∧ xcat st ≤ 8) ∧ zr 258 0 [.ref b8, .int y1, .int y2, .int y3, .int y4, .int y5, .int y6, .null] [] u (fun r u2 => zr 260 19 [v0, v1, v2, v3, v4, v5, v6, v7, v8, v9, v10, v11, v12] (r.toList ++ st) u2 P)) := zr_CV k260_16 rfl rfl rfl ⟨Nat.le_of_ble_eq_true rfl, Nat.succ_ne_zero _, by decide⟩ rfl
theorem k260_19 : xcd 260 19 = oIs 8 21 := rfl
theorem r260_19 : zr 260 19 [v0, v1, v2, v3, v4, v5, v6, .int x7, v8, v9, v10, v11, v12] (.int y1 :: st) u P = zr 260 21 [v0, v1, v2, v3, v4, v5, v6, .int x7, .int y1, v9, v10, v11, v12] st u P := zr_Is k260_19 ⟨Nat.le_of_ble_eq_true rfl, rfl⟩
theorem k260_21 : xcd 260 21 = oIl 8 23 := rfl
theorem r260_21 : zr 260 21 [v0, v1, v2, v3, v4, v5, v6, v7, .int x8, v9, v10, v11, v12] st u P = zr 260 23 [v0, v1, v2, v3, v4, v5, v6, v7, .int x8, v9, v10, v11, v12] (.int x8 :: st) u P := zr_Il k260_21 rfl
theorem k260_23 : xcd 260 23 = oIf (fun x => decide (¬ x = 0)) 40 26 := rfl
theorem r260_23 : zr 260 23 [v0, v1, v2, v3, v4, v5, v6, v7, v8, v9, v10, v11, v12] (.int y1 :: st) u P = (if ¬ y1 = 0 then zr 260 40 [v0, v1, v2, v3, v4, v5, v6, v7, v8, v9, v10, v11, v12] st u P else zr 260 26 [v0, v1, v2, v3, v4, v5, v6, v7, v8, v9, v10, v11, v12] st u P) := zr_If k260_23
theorem k260_26 : xcd 260 26 = oIl 2 27 := rfl
theorem r260_26 : zr 260 26 [v0, v1, .int x2, v3, v4, v5, v6, v7, v8, v9, v10, v11, v12] st u P = zr 260 27 [v0, v1, .int x2, v3, v4, v5, v6, v7, v8, v9, v10, v11, v12] (.int x2 :: st) u P := zr_Il k260_26 rfl
theorem k260_27 : xcd 260 27 = oIl 1 28 := rfl
theorem r260_27 : zr 260 27 [v0, .int x1, v2, v3, v4, v5, v6, v7, v8, v9, v10, v11, v12] st u P = zr 260 28 [v0, .int x1, v2, v3, v4, v5, v6, v7, v8, v9, v10, v11, v12] (.int x1 :: st) u P := zr_Il k260_27 rfl
theorem k260_28 : xcd 260 28 = oI 999 31 := rfl
theorem r260_28 : zr 260 28 [v0, v1, v2, v3, v4, v5, v6, v7, v8, v9, v10, v11, v12] st u P = zr 260 31 [v0, v1, v2, v3, v4, v5, v6, v7, v8, v9, v10, v11, v12] (.int 999 :: st) u P := zr_I k260_28
theorem k260_31 : xcd 260 31 = oCal 175 3 34 := rfl
theorem r260_31 : zr 260 31 [v0, v1, v2, v3, v4, v5, v6, v7, v8, v9, v10, v11, v12] (.int y3 :: .int y2 :: .int y1 :: st) u P = (xcat st ≤ 8 ∧ zr 175 0 [.int y1, .int y2, .int y3] [] u (fun r u2 => zr 260 34 [v0, v1, v2, v3, v4, v5, v6, v7, v8, v9, v10, v11, v12] (r.toList ++ st) u2 P)) := zr_CS k260_31 (Nat.le_add_left _ _) rfl rfl ⟨Nat.le_of_ble_eq_true rfl, Nat.succ_ne_zero _, by decide⟩ rfl
theorem k260_34 : xcd 260 34 = oIf (fun x => decide (¬ x = 0)) 40 37 := rfl
theorem r260_34 : zr 260 34 [v0, v1, v2, v3, v4, v5, v6, v7, v8, v9, v10, v11, v12] (.int y1 :: st) u P = (if ¬ y1 = 0 then zr 260 40 [v0, v1, v2, v3, v4, v5, v6, v7, v8, v9, v10, v11, v12] st u P else zr 260 37 [v0, v1, v2, v3, v4, v5, v6, v7, v8, v9, v10, v11, v12] st u P) := zr_If k260_34
theorem k260_37 : xcd 260 37 = oI 2 38 := rfl
theorem r260_37 : zr 260 37 [v0, v1, v2, v3, v4, v5, v6, v7, v8, v9, v10, v11, v12] st u P = zr 260 38 [v0, v1, v2, v3, v4, v5, v6, v7, v8, v9, v10, v11, v12] (.int 2 :: st) u P := zr_I k260_37
theorem k260_38 : xcd 260 38 = oIs 8 40 := rfl
theorem r260_38 : zr 260 38 [v0, v1, v2, v3, v4, v5, v6, .int x7, v8, v9, v10, v11, v12] (.int y1 :: st) u P = zr 260 40 [v0, v1, v2, v3, v4, v5, v6, .int x7, .int y1, v9, v10, v11, v12] st u P := zr_Is k260_38 ⟨Nat.le_of_ble_eq_true rfl, rfl⟩
theorem k260_40 : xcd 260 40 = oIl 8 42 := rfl
theorem r260_40 : zr 260 40 [v0, v1, v2, v3, v4, v5, v6, v7, .int x8, v9, v10, v11, v12] st u P = zr 260 42 [v0, v1, v2, v3, v4, v5, v6, v7, .int x8, v9, v10, v11, v12] (.int x8 :: st) u P := zr_Il k260_40 rfl
theorem k260_42 : xcd 260 42 = oIf (fun x => decide (x ≤ 0)) 52 45 := rfl
theorem r260_42 : zr 260 42 [v0, v1, v2, v3, v4, v5, v6, v7, v8, v9, v10, v11, v12] (.int y1 :: st) u P = (if y1 ≤ 0 then zr 260 52 [v0, v1, v2, v3, v4, v5, v6, v7, v8, v9, v10, v11, v12] st u P else zr 260 45 [v0, v1, v2, v3, v4, v5, v6, v7, v8, v9, v10, v11, v12] st u P) := zr_If k260_42
theorem k260_45 : xcd 260 45 = oAl 0 46 := rfl
theorem r260_45 : zr 260 45 [.ref a0, v1, v2, v3, v4, v5, v6, v7, v8, v9, v10, v11, v12] st u P = zr 260 46 [.ref a0, v1, v2, v3, v4, v5, v6, v7, v8, v9, v10, v11, v12] (.ref a0 :: st) u P := zr_Al k260_45 rfl
theorem k260_46 : xcd 260 46 = oIl 8 48 := rfl
theorem r260_46 : zr 260 46 [v0, v1, v2, v3, v4, v5, v6, v7, .int x8, v9, v10, v11, v12] st u P = zr 260 48 [v0, v1, v2, v3, v4, v5, v6, v7, .int x8, v9, v10, v11, v12] (.int x8 :: st) u P := zr_Il k260_46 rfl
theorem k260_48 : xcd 260 48 = oCalV 11 172 1 51 := rfl
theorem r260_48 : zr 260 48 [v0, v1, v2, v3, v4, v5, v6, v7, v8, v9, v10, v11, v12] (.int y1 :: .ref b8 :: st) u P = ((xIs u b8 11 ∧ xcat st ≤ 8) ∧ zr 172 0 [.ref b8, .int y1] [] u (fun r u2 => zr 260 51 [v0, v1, v2, v3, v4, v5, v6, v7, v8, v9, v10, v11, v12] (r.toList ++ st) u2 P)) := zr_CV k260_48 rfl rfl rfl ⟨Nat.le_of_ble_eq_true rfl, Nat.succ_ne_zero _, by decide⟩ rfl
theorem k260_51 : xcd 260 51 = oRi 0 := rfl
theorem r260_51 : zr 260 51 [v0, v1, v2, v3, v4, v5, v6, v7, v8, v9, v10, v11, v12] [.int y1] u P = P (some (.int y1)) u := zr_Ri k260_51
theorem k260_52 : xcd 260 52 = oIl 1 53 := rfl
theorem r260_52 : zr 260 52 [v0, .int x1, v2, v3, v4, v5, v6, v7, v8, v9, v10, v11, v12] st u P = zr 260 53 [v0, .int x1, v2, v3, v4, v5, v6, v7, v8, v9, v10, v11, v12] (.int x1 :: st) u P := zr_Il k260_52 rfl
theorem k260_53 : xcd 260 53 = oIs 9 55 := rfl
theorem r260_53 : zr 260 53 [v0, v1, v2, v3, v4, v5, v6, v7, .int x8, v9, v10, v11, v12] (.int y1 :: st) u P = zr 260 55 [v0, v1, v2, v3, v4, v5, v6, v7, .int x8, .int y1, v10, v11, v12] st u P := zr_Is k260_53 ⟨Nat.le_of_ble_eq_true rfl, rfl⟩
theorem k260_55 : xcd 260 55 = oAl 0 56 := rfl
theorem r260_55 : zr 260 55 [.ref a0, v1, v2, v3, v4, v5, v6, v7, v8, v9, v10, v11, v12] st u P = zr 260 56 [.ref a0, v1, v2, v3, v4, v5, v6, v7, v8, v9, v10, v11, v12] (.ref a0 :: st) u P := zr_Al k260_55 rfl
theorem k260_56 : xcd 260 56 = oIl 1 57 := rfl
theorem r260_56 : zr 260 56 [v0, .int x1, v2, v3, v4, v5, v6, v7, v8, v9, v10, v11, v12] st u P = zr 260 57 [v0, .int x1, v2, v3, v4, v5, v6, v7, v8, v9, v10, v11, v12] (.int x1 :: st) u P := zr_Il k260_56 rfl
theorem k260_57 : xcd 260 57 = oIl 3 58 := rfl
theorem r260_57 : zr 260 57 [v0, v1, v2, .int x3, v4, v5, v6, v7, v8, v9, v10, v11, v12] st u P = zr 260 58 [v0, v1, v2, .int x3, v4, v5, v6, v7, v8, v9, v10, v11, v12] (.int x3 :: st) u P := zr_Il k260_57 rfl
theorem k260_58 : xcd 260 58 = oIl 4 60 := rfl
theorem r260_58 : zr 260 58 [v0, v1, v2, v3, .int x4, v5, v6, v7, v8, v9, v10, v11, v12] st u P = zr 260 60 [v0, v1, v2, v3, .int x4, v5, v6, v7, v8, v9, v10, v11, v12] (.int x4 :: st) u P := zr_Il k260_58 rfl
theorem k260_60 : xcd 260 60 = oIl 5 62 := rfl
theorem r260_60 : zr 260 60 [v0, v1, v2, v3, v4, .int x5, v6, v7, v8, v9, v10, v11, v12] st u P = zr 260 62 [v0, v1, v2, v3, v4, .int x5, v6, v7, v8, v9, v10, v11, v12] (.int x5 :: st) u P := zr_Il k260_60 rfl
theorem k260_62 : xcd 260 62 = oIl 6 64 := rfl
theorem r260_62 : zr 260 62 [v0, v1, v2, v3, v4, v5, .int x6, v7, v8, v9, v10, v11, v12] st u P = zr 260 64 [v0, v1, v2, v3, v4, v5, .int x6, v7, v8, v9, v10, v11, v12] (.int x6 :: st) u P := zr_Il k260_62 rfl
theorem k260_64 : xcd 260 64 = oIl 7 66 := rfl
theorem r260_64 : zr 260 64 [v0, v1, v2, v3, v4, v5, v6, .int x7, v8, v9, v10, v11, v12] st u P = zr 260 66 [v0, v1, v2, v3, v4, v5, v6, .int x7, v8, v9, v10, v11, v12] (.int x7 :: st) u P := zr_Il k260_64 rfl
theorem k260_66 : xcd 260 66 = oCalV 11 257 6 69 := rfl
theorem r260_66 : zr 260 66 [v0, v1, v2, v3, v4, v5, v6, v7, v8, v9, v10, v11, v12] (.int y6 :: .int y5 :: .int y4 :: .int y3 :: .int y2 :: .int y1 :: .ref b8 :: st) u P = ((xIs u b8 11 ∧ xcat st ≤ 8) ∧ zr 257 0 [.ref b8, .int y1, .int y2, .int y3, .int y4, .int y5, .int y6, .null, .null, .null] [] u (fun r u2 => zr 260 69 [v0, v1, v2, v3, v4, v5, v6, v7, v8, v9, v10, v11, v12] (r.toList ++ st) u2 P)) := zr_CV k260_66 rfl rfl rfl ⟨Nat.le_of_ble_eq_true rfl, Nat.succ_ne_zero _, by decide⟩ rfl
theorem k260_69 : xcd 260 69 = oIs 10 71 := rfl
theorem r260_69 : zr 260 69 [v0, v1, v2, v3, v4, v5, v6, v7, v8, .int x9, v10, v11, v12] (.int y1 :: st) u P = zr 260 71 [v0, v1, v2, v3, v4, v5, v6, v7, v8, .int x9, .int y1, v11, v12] st u P := zr_Is k260_69 ⟨Nat.le_of_ble_eq_true rfl, rfl⟩
theorem k260_71 : xcd 260 71 = oIl 1 72 := rfl
theorem r260_71 : zr 260 71 [v0, .int x1, v2, v3, v4, v5, v6, v7, v8, v9, v10, v11, v12] st u P = zr 260 72 [v0, .int x1, v2, v3, v4, v5, v6, v7, v8, v9, v10, v11, v12] (.int x1 :: st) u P := zr_Il k260_71 rfl
theorem k260_72 : xcd 260 72 = oI 1 73 := rfl
theorem r260_72 : zr 260 72 [v0, v1, v2, v3, v4, v5, v6, v7, v8, v9, v10, v11, v12] st u P = zr 260 73 [v0, v1, v2, v3, v4, v5, v6, v7, v8, v9, v10, v11, v12] (.int 1 :: st) u P := zr_I k260_72
theorem k260_73 : xcd 260 73 = oB (fun x y => x + y) 74 := rfl
theorem r260_73 : zr 260 73 [v0, v1, v2, v3, v4, v5, v6, v7, v8, v9, v10, v11, v12] (.int y1 :: .int y2 :: st) u P = zr 260 74 [v0, v1, v2, v3, v4, v5, v6, v7, v8, v9, v10, v11, v12] (.int (y2 + y1) :: st) u P := zr_B k260_73
theorem k260_74 : xcd 260 74 = oIs 11 76 := rfl
theorem r260_74 : zr 260 74 [v0, v1, v2, v3, v4, v5, v6, v7, v8, v9, .int x10, v11, v12] (.int y1 :: st) u P = zr 260 76 [v0, v1, v2, v3, v4, v5, v6, v7, v8, v9, .int x10, .int y1, v12] st u P := zr_Is k260_74 ⟨Nat.le_of_ble_eq_true rfl, rfl⟩
theorem k260_76 : xcd 260 76 = oIl 11 78 := rfl
theorem r260_76 : zr 260 76 [v0, v1, v2, v3, v4, v5, v6, v7, v8, v9, v10, .int x11, v12] st u P = zr 260 78 [v0, v1, v2, v3, v4, v5, v6, v7, v8, v9, v10, .int x11, v12] (.int x11 :: st) u P := zr_Il k260_76 rfl
theorem k260_78 : xcd 260 78 = oIl 2 79 := rfl
theorem r260_78 : zr 260 78 [v0, v1, .int x2, v3, v4, v5, v6, v7, v8, v9, v10, v11, v12] st u P = zr 260 79 [v0, v1, .int x2, v3, v4, v5, v6, v7, v8, v9, v10, v11, v12] (.int x2 :: st) u P := zr_Il k260_78 rfl
theorem k260_79 : xcd 260 79 = oCmp (fun x y => decide (y < x)) 123 82 := rfl
theorem r260_79 : zr 260 79 [v0, v1, v2, v3, v4, v5, v6, v7, v8, v9, v10, v11, v12] (.int y1 :: .int y2 :: st) u P = (if y1 < y2 then zr 260 123 [v0, v1, v2, v3, v4, v5, v6, v7, v8, v9, v10, v11, v12] st u P else zr 260 82 [v0, v1, v2, v3, v4, v5, v6, v7, v8, v9, v10, v11, v12] st u P) := zr_Cmp k260_79
theorem k260_82 : xcd 260 82 = oAl 0 83 := rfl
theorem r260_82 : zr 260 82 [.ref a0, v1, v2, v3, v4, v5, v6, v7, v8, v9, v10, v11, v12] st u P = zr 260 83 [.ref a0, v1, v2, v3, v4, v5, v6, v7, v8, v9, v10, v11, v12] (.ref a0 :: st) u P := zr_Al k260_82 rfl
theorem k260_83 : xcd 260 83 = oIl 11 85 := rfl
theorem r260_83 : zr 260 83 [v0, v1, v2, v3, v4, v5, v6, v7, v8, v9, v10, .int x11, v12] st u P = zr 260 85 [v0, v1, v2, v3, v4, v5, v6, v7, v8, v9, v10, .int x11, v12] (.int x11 :: st) u P := zr_Il k260_83 rfl
theorem k260_85 : xcd 260 85 = oIl 3 86 := rfl
theorem r260_85 : zr 260 85 [v0, v1, v2, .int x3, v4, v5, v6, v7, v8, v9, v10, v11, v12] st u P = zr 260 86 [v0, v1, v2, .int x3, v4, v5, v6, v7, v8, v9, v10, v11, v12] (.int x3 :: st) u P := zr_Il k260_85 rfl
theorem k260_86 : xcd 260 86 = oIl 4 88 := rfl
theorem r260_86 : zr 260 86 [v0, v1, v2, v3, .int x4, v5, v6, v7, v8, v9, v10, v11, v12] st u P = zr 260 88 [v0, v1, v2, v3, .int x4, v5, v6, v7, v8, v9, v10, v11, v12] (.int x4 :: st) u P := zr_Il k260_86 rfl
theorem k260_88 : xcd 260 88 = oIl 5 90 := rfl
theorem r260_88 : zr 260 88 [v0, v1, v2, v3, v4, .int x5, v6, v7, v8, v9, v10, v11, v12] st u P = zr 260 90 [v0, v1, v2, v3, v4, .int x5, v6, v7, v8, v9, v10, v11, v12] (.int x5 :: st) u P := zr_Il k260_88 rfl
theorem k260_90 : xcd 260 90 = oIl 6 92 := rfl
theorem r260_90 : zr 260 90 [v0, v1, v2, v3, v4, v5, .int x6, v7, v8, v9, v10, v11, v12] st u P = zr 260 92 [v0, v1, v2, v3, v4, v5, .int x6, v7, v8, v9, v10, v11, v12] (.int x6 :: st) u P := zr_Il k260_90 rfl
theorem k260_92 : xcd 260 92 = oIl 7 94 := rfl
theorem r260_92 : zr 260 92 [v0, v1, v2, v3, v4, v5, v6, .int x7, v8, v9, v10, v11, v12] st u P = zr 260 94 [v0, v1, v2, v3, v4, v5, v6, .int x7, v8, v9, v10, v11, v12] (.int x7 :: st) u P := zr_Il k260_92 rfl
theorem k260_94 : xcd 260 94 = oCalV 11 257 6 97 := rfl
theorem r260_94 : zr 260 94 [v0, v1, v2, v3, v4, v5, v6, v7, v8, v9, v10, v11, v12] (.int y6 :: .int y5 :: .int y4 :: .int y3 :: .int y2 :: .int y1 :: .ref b8 :: st) u P = ((xIs u b8 11 ∧ xcat st ≤ 8) ∧ zr 257 0 [.ref b8, .int y1, .int y2, .int y3, .int y4, .int y5, .int y6, .null, .null, .null] [] u (fun r u2 => zr 260 97 [v0, v1, v2, v3, v4, v5, v6, v7, v8, v9, v10, v11, v12] (r.toList ++ st) u2 P)) := zr_CV k260_94 rfl rfl rfl ⟨Nat.le_of_ble_eq_true rfl, Nat.succ_ne_zero _, by decide⟩ rfl
theorem k260_97 : xcd 260 97 = oIs 12 99 := rfl
theorem r260_97 : zr 260 97 [v0, v1, v2, v3, v4, v5, v6, v7, v8, v9, v10, .int x11, v12] (.int y1 :: st) u P = zr 260 99 [v0, v1, v2, v3, v4, v5, v6, v7, v8, v9, v10, .int x11, .int y1] st u P := zr_Is k260_97 ⟨Nat.le_of_ble_eq_true rfl, rfl⟩
theorem k260_99 : xcd 260 99 = oIl 12 101 := rfl
theorem r260_99 : zr 260 99 [v0, v1, v2, v3, v4, v5, v6, v7, v8, v9, v10, v11, .int x12] st u P = zr 260 101 [v0, v1, v2, v3, v4, v5, v6, v7, v8, v9, v10, v11, .int x12] (.int x12 :: st) u P := zr_Il k260_99 rfl
theorem k260_101 : xcd 260 101 = oIl 10 103 := rfl
theorem r260_101 : zr 260 101 [v0, v1, v2, v3, v4, v5, v6, v7, v8, v9, .int x10, v11, v12] st u P = zr 260 103 [v0, v1, v2, v3, v4, v5, v6, v7, v8, v9, .int x10, v11, v12] (.int x10 :: st) u P := zr_Il k260_101 rfl
theorem k260_103 : xcd 260 103 = oCmp (fun x y => decide (x < y)) 109 106 := rfl
theorem r260_103 : zr 260 103 [v0, v1, v2, v3, v4, v5, v6, v7, v8, v9, v10, v11, v12] (.int y1 :: .int y2 :: st) u P = (if y2 < y1 then zr 260 109 [v0, v1, v2, v3, v4, v5, v6, v7, v8, v9, v10, v11, v12] st u P else zr 260 106 [v0, v1, v2, v3, v4, v5, v6, v7, v8, v9, v10, v11, v12] st u P) := zr_Cmp k260_103
theorem k260_106 : xcd 260 106 = oGoto 117 := rfl
theorem r260_106 : zr 260 106 [v0, v1, v2, v3, v4, v5, v6, v7, v8, v9, v10, v11, v12] st u P = zr 260 117 [v0, v1, v2, v3, v4, v5, v6, v7, v8, v9, v10, v11, v12] st u P := zr_Goto k260_106
theorem k260_109 : xcd 260 109 = oIl 12 111 := rfl
theorem r260_109 : zr 260 109 [v0, v1, v2, v3, v4, v5, v6, v7, v8, v9, v10, v11, .int x12] st u P = zr 260 111 [v0, v1, v2, v3, v4, v5, v6, v7, v8, v9, v10, v11, .int x12] (.int x12 :: st) u P := zr_Il k260_109 rfl
theorem k260_111 : xcd 260 111 = oIs 10 113 := rfl
theorem r260_111 : zr 260 111 [v0, v1, v2, v3, v4, v5, v6, v7, v8, .int x9, v10, v11, v12] (.int y1 :: st) u P = zr 260 113 [v0, v1, v2, v3, v4, v5, v6, v7, v8, .int x9, .int y1, v11, v12] st u P := zr_Is k260_111 ⟨Nat.le_of_ble_eq_true rfl, rfl⟩
theorem k260_113 : xcd 260 113 = oIl 11 115 := rfl
theorem r260_113 : zr 260 113 [v0, v1, v2, v3, v4, v5, v6, v7, v8, v9, v10, .int x11, v12] st u P = zr 260 115 [v0, v1, v2, v3, v4, v5, v6, v7, v8, v9, v10, .int x11, v12] (.int x11 :: st) u P := zr_Il k260_113 rfl
theorem k260_115 : xcd 260 115 = oIs 9 117 := rfl
theorem r260_115 : zr 260 115 [v0, v1, v2, v3, v4, v5, v6, v7, .int x8, v9, v10, v11, v12] (.int y1 :: st) u P = zr 260 117 [v0, v1, v2, v3, v4, v5, v6, v7, .int x8, .int y1, v10, v11, v12] st u P := zr_Is k260_115 ⟨Nat.le_of_ble_eq_true rfl, rfl⟩
theorem k260_117 : xcd 260 117 = oInc 11 1 120 := rfl
theorem r260_117 : zr 260 117 [v0, v1, v2, v3, v4, v5, v6, v7, v8, v9, .int x10, .int x11, v12] st u P = zr 260 120 [v0, v1, v2, v3, v4, v5, v6, v7, v8, v9, .int x10, .int (x11 + 1), v12] st u P := zr_Inc k260_117 rfl rfl
theorem k260_120 : xcd 260 120 = oGoto 76 := rfl
theorem r260_120 : zr 260 120 [v0, v1, v2, v3, v4, v5, v6, v7, v8, v9, v10, v11, v12] st u P = zr 260 76 [v0, v1, v2, v3, v4, v5, v6, v7, v8, v9, v10, v11, v12] st u P := zr_Goto k260_120
theorem k260_123 : xcd 260 123 = oAl 0 124 := rfl
theorem r260_123 : zr 260 123 [.ref a0, v1, v2, v3, v4, v5, v6, v7, v8, v9, v10, v11, v12] st u P = zr 260 124 [.ref a0, v1, v2, v3, v4, v5, v6, v7, v8, v9, v10, v11, v12] (.ref a0 :: st) u P := zr_Al k260_123 rfl
theorem k260_124 : xcd 260 124 = oIl 9 126 := rfl
theorem r260_124 : zr 260 124 [v0, v1, v2, v3, v4, v5, v6, v7, v8, .int x9, v10, v11, v12] st u P = zr 260 126 [v0, v1, v2, v3, v4, v5, v6, v7, v8, .int x9, v10, v11, v12] (.int x9 :: st) u P := zr_Il k260_124 rfl
theorem k260_126 : xcd 260 126 = oCalV 11 174 1 129 := rfl
theorem r260_126 : zr 260 126 [v0, v1, v2, v3, v4, v5, v6, v7, v8, v9, v10, v11, v12] (.int y1 :: .ref b8 :: st) u P = ((xIs u b8 11 ∧ xcat st ≤ 8) ∧ zr 174 0 [.ref b8, .int y1] [] u (fun r u2 => zr 260 129 [v0, v1, v2, v3, v4, v5, v6, v7, v8, v9, v10, v11, v12] (r.toList ++ st) u2 P)) := zr_CV k260_126 rfl rfl rfl ⟨Nat.le_of_ble_eq_true rfl, Nat.succ_ne_zero _, by decide⟩ rfl
theorem k260_129 : xcd 260 129 = oRi 0 := rfl
theorem r260_129 : zr 260 129 [v0, v1, v2, v3, v4, v5, v6, v7, v8, v9, v10, v11, v12] [.int y1] u P = P (some (.int y1)) u := zr_Ri k260_129
theorem k261_0 : xcd 261 0 = oAl 0 1 := rfl
theorem r261_0 : zr 261 0 [.ref a0, v1] st u P = zr 261 1 [.ref a0, v1] (.ref a0 :: st) u P := zr_Al k261_0 rfl
theorem k261_1 : xcd 261 1 = oGI 11 7 4 := rfl
theorem r261_1 : zr 261 1 [v0, v1] (.ref b1 :: st) u P = (xIs u b1 11 ∧ zr 261 4 [v0, v1] (.int (xI u b1 7) :: st) u P) := zr_GI k261_1
theorem k261_4 : xcd 261 4 = oIf (fun x => decide (x = 0)) 25 7 := rfl
theorem r261_4 : zr 261 4 [v0, v1] (.int y1 :: st) u P = (if y1 = 0 then zr 261 25 [v0, v1] st u P else zr 261 7 [v0, v1] st u P) := zr_If k261_4
theorem k261_7 : xcd 261 7 = oIl 1 8 := rfl
theorem r261_7 : zr 261 7 [v0, .int x1] st u P = zr 261 8 [v0, .int x1] (.int x1 :: st) u P := zr_Il k261_7 rfl
theorem k261_8 : xcd 261 8 = oI 0 9 := rfl
theorem r261_8 : zr 261 8 [v0, v1] st u P = zr 261 9 [v0, v1] (.int 0 :: st) u P := zr_I k261_8
theorem k261_9 : xcd 261 9 = oAl 0 10 := rfl
theorem r261_9 : zr 261 9 [.ref a0, v1] st u P = zr 261 10 [.ref a0, v1] (.ref a0 :: st) u P := zr_Al k261_9 rfl
theorem k261_10 : xcd 261 10 = oGI 11 20 13 := rfl
theorem r261_10 : zr 261 10 [v0, v1] (.ref b1 :: st) u P = (xIs u b1 11 ∧ zr 261 13 [v0, v1] (.int (xI u b1 20) :: st) u P) := zr_GI k261_10
theorem k261_13 : xcd 261 13 = oI 1 14 := rfl
theorem r261_13 : zr 261 13 [v0, v1] st u P = zr 261 14 [v0, v1] (.int 1 :: st) u P := zr_I k261_13
theorem k261_14 : xcd 261 14 = oB (fun x y => x - y) 15 := rfl
theorem r261_14 : zr 261 14 [v0, v1] (.int y1 :: .int y2 :: st) u P = zr 261 15 [v0, v1] (.int (y2 - y1) :: st) u P := zr_B k261_14
theorem k261_15 : xcd 261 15 = oCal 175 3 18 := rfl
theorem r261_15 : zr 261 15 [v0, v1] (.int y3 :: .int y2 :: .int y1 :: st) u P = (xcat st ≤ 8 ∧ zr 175 0 [.int y1, .int y2, .int y3] [] u (fun r u2 => zr 261 18 [v0, v1] (r.toList ++ st) u2 P)) := zr_CS k261_15 (Nat.le_add_left _ _) rfl rfl ⟨Nat.le_of_ble_eq_true rfl, Nat.succ_ne_zero _, by decide⟩ rfl
theorem k261_18 : xcd 261 18 = oIf (fun x => decide (x = 0)) 25 21 := rfl
theorem r261_18 : zr 261 18 [v0, v1] (.int y1 :: st) u P = (if y1 = 0 then zr 261 25 [v0, v1] st u P else zr 261 21 [v0, v1] st u P) := zr_If k261_18
theorem k261_21 : xcd 261 21 = oI 1 22 := rfl
theorem r261_21 : zr 261 21 [v0, v1] st u P = zr 261 22 [v0, v1] (.int 1 :: st) u P := zr_I k261_21
theorem k261_22 : xcd 261 22 = oGoto 26 := rfl
theorem r261_22 : zr 261 22 [v0, v1] st u P = zr 261 26 [v0, v1] st u P := zr_Goto k261_22
theorem k261_25 : xcd 261 25 = oI 0 26 := rfl
theorem r261_25 : zr 261 25 [v0, v1] st u P = zr 261 26 [v0, v1] (.int 0 :: st) u P := zr_I k261_25
theorem k261_26 : xcd 261 26 = oRz 0 := rfl
theorem r261_26 : zr 261 26 [v0, v1] [.int y1] u P = ((y1 = 0 ∨ y1 = 1) ∧ P (some (.int y1)) u) := zr_Rz k261_26
theorem k262_0 : xcd 262 0 = oAl 0 1 := rfl
theorem r262_0 : zr 262 0 [.ref a0, v1, v2] st u P = zr 262 1 [.ref a0, v1, v2] (.ref a0 :: st) u P := zr_Al k262_0 rfl
theorem k262_1 : xcd 262 1 = oGR 11 19 4 := rfl
theorem r262_1 : zr 262 1 [v0, v1, v2] (.ref b1 :: st) u P = (xIs u b1 11 ∧ ∃ b, xR u b1 19 = some b ∧ zr 262 4 [v0, v1, v2] (.ref b :: st) u P) := zr_GR k262_1
theorem k262_4 : xcd 262 4 = oI 25 6 := rfl
theorem r262_4 : zr 262 4 [v0, v1, v2] st u P = zr 262 6 [v0, v1, v2] (.int 25 :: st) u P := zr_I k262_4
theorem k262_6 : xcd 262 6 = oIl 1 7 := rfl
theorem r262_6 : zr 262 6 [v0, .int x1, v2] st u P = zr 262 7 [v0, .int x1, v2] (.int x1 :: st) u P := zr_Il k262_6 rfl
theorem k262_7 : xcd 262 7 = oB (fun x y => x * y) 8 := rfl
theorem r262_7 : zr 262 7 [v0, v1, v2] (.int y1 :: .int y2 :: st) u P = zr 262 8 [v0, v1, v2] (.int (y2 * y1) :: st) u P := zr_B k262_7
theorem k262_8 : xcd 262 8 = oIl 2 9 := rfl
theorem r262_8 : zr 262 8 [v0, v1, .int x2] st u P = zr 262 9 [v0, v1, .int x2] (.int x2 :: st) u P := zr_Il k262_8 rfl
theorem k262_9 : xcd 262 9 = oB (fun x y => x + y) 10 := rfl
theorem r262_9 : zr 262 9 [v0, v1, v2] (.int y1 :: .int y2 :: st) u P = zr 262 10 [v0, v1, v2] (.int (y2 + y1) :: st) u P := zr_B k262_9
theorem k262_10 : xcd 262 10 = oLd 13 11 := rfl
theorem r262_10 : zr 262 10 [v0, v1, v2] (.int y1 :: .ref b1 :: st) u P = ((xIs u b1 13 ∧ xinb y1 (xN u b1)) ∧ zr 262 11 [v0, v1, v2] (.int (xI u b1 (xix y1)) :: st) u P) := zr_Ld k262_10
theorem k262_11 : xcd 262 11 = oRi 0 := rfl
theorem r262_11 : zr 262 11 [v0, v1, v2] [.int y1] u P = P (some (.int y1)) u := zr_Ri k262_11
theorem k263_0 : xcd 263 0 = oAl 0 1 := rfl
theorem r263_0 : zr 263 0 [.ref a0, v1, v2, v3] st u P = zr 263 1 [.ref a0, v1, v2, v3] (.ref a0 :: st) u P := zr_Al k263_0 rfl
theorem k263_1 : xcd 263 1 = oGR 11 19 4 := rfl
theorem r263_1 : zr 263 1 [v0, v1, v2, v3] (.ref b1 :: st) u P = (xIs u b1 11 ∧ ∃ b, xR u b1 19 = some b ∧ zr 263 4 [v0, v1, v2, v3] (.ref b :: st) u P) := zr_GR k263_1
theorem k263_4 : xcd 263 4 = oI 25 6 := rfl
theorem r263_4 : zr 263 4 [v0, v1, v2, v3] st u P = zr 263 6 [v0, v1, v2, v3] (.int 25 :: st) u P := zr_I k263_4
theorem k263_6 : xcd 263 6 = oIl 1 7 := rfl
theorem r263_6 : zr 263 6 [v0, .int x1, v2, v3] st u P = zr 263 7 [v0, .int x1, v2, v3] (.int x1 :: st) u P := zr_Il k263_6 rfl
theorem k263_7 : xcd 263 7 = oB (fun x y => x * y) 8 := rfl
theorem r263_7 : zr 263 7 [v0, v1, v2, v3] (.int y1 :: .int y2 :: st) u P = zr 263 8 [v0, v1, v2, v3] (.int (y2 * y1) :: st) u P := zr_B k263_7
theorem k263_8 : xcd 263 8 = oI 9 10 := rfl
theorem r263_8 : zr 263 8 [v0, v1, v2, v3] st u P = zr 263 10 [v0, v1, v2, v3] (.int 9 :: st) u P := zr_I k263_8
theorem k263_10 : xcd 263 10 = oB (fun x y => x + y) 11 := rfl
theorem r263_10 : zr 263 10 [v0, v1, v2, v3] (.int y1 :: .int y2 :: st) u P = zr 263 11 [v0, v1, v2, v3] (.int (y2 + y1) :: st) u P := zr_B k263_10
theorem k263_11 : xcd 263 11 = oI 4 12 := rfl
theorem r263_11 : zr 263 11 [v0, v1, v2, v3] st u P = zr 263 12 [v0, v1, v2, v3] (.int 4 :: st) u P := zr_I k263_11
theorem k263_12 : xcd 263 12 = oIl 2 13 := rfl
theorem r263_12 : zr 263 12 [v0, v1, .int x2, v3] st u P = zr 263 13 [v0, v1, .int x2, v3] (.int x2 :: st) u P := zr_Il k263_12 rfl
theorem k263_13 : xcd 263 13 = oB (fun x y => x * y) 14 := rfl
theorem r263_13 : zr 263 13 [v0, v1, v2, v3] (.int y1 :: .int y2 :: st) u P = zr 263 14 [v0, v1, v2, v3] (.int (y2 * y1) :: st) u P := zr_B k263_13
theorem k263_14 : xcd 263 14 = oB (fun x y => x + y) 15 := rfl
theorem r263_14 : zr 263 14 [v0, v1, v2, v3] (.int y1 :: .int y2 :: st) u P = zr 263 15 [v0, v1, v2, v3] (.int (y2 + y1) :: st) u P := zr_B k263_14
theorem k263_15 : xcd 263 15 = oIl 3 16 := rfl
theorem r263_15 : zr 263 15 [v0, v1, v2, .int x3] st u P = zr 263 16 [v0, v1, v2, .int x3] (.int x3 :: st) u P := zr_Il k263_15 rfl
theorem k263_16 : xcd 263 16 = oB (fun x y => x + y) 17 := rfl
theorem r263_16 : zr 263 16 [v0, v1, v2, v3] (.int y1 :: .int y2 :: st) u P = zr 263 17 [v0, v1, v2, v3] (.int (y2 + y1) :: st) u P := zr_B k263_16
theorem k263_17 : xcd 263 17 = oLd 13 18 := rfl
theorem r263_17 : zr 263 17 [v0, v1, v2, v3] (.int y1 :: .ref b1 :: st) u P = ((xIs u b1 13 ∧ xinb y1 (xN u b1)) ∧ zr 263 18 [v0, v1, v2, v3] (.int (xI u b1 (xix y1)) :: st) u P) := zr_Ld k263_17
theorem k263_18 : xcd 263 18 = oRi 0 := rfl
theorem r263_18 : zr 263 18 [v0, v1, v2, v3] [.int y1] u P = P (some (.int y1)) u := zr_Ri k263_18
theorem k264_0 : xcd 264 0 = oAl 0 1 := rfl
theorem r264_0 : zr 264 0 [.ref a0, v1, v2] st u P = zr 264 1 [.ref a0, v1, v2] (.ref a0 :: st) u P := zr_Al k264_0 rfl
theorem k264_1 : xcd 264 1 = oIl 1 2 := rfl
theorem r264_1 : zr 264 1 [v0, .int x1, v2] st u P = zr 264 2 [v0, .int x1, v2] (.int x1 :: st) u P := zr_Il k264_1 rfl
theorem k264_2 : xcd 264 2 = oI 6 4 := rfl
theorem r264_2 : zr 264 2 [v0, v1, v2] st u P = zr 264 4 [v0, v1, v2] (.int 6 :: st) u P := zr_I k264_2
theorem k264_4 : xcd 264 4 = oCalV 11 262 2 7 := rfl
theorem r264_4 : zr 264 4 [v0, v1, v2] (.int y2 :: .int y1 :: .ref b8 :: st) u P = ((xIs u b8 11 ∧ xcat st ≤ 8) ∧ zr 262 0 [.ref b8, .int y1, .int y2] [] u (fun r u2 => zr 264 7 [v0, v1, v2] (r.toList ++ st) u2 P)) := zr_CV k264_4 rfl rfl rfl ⟨Nat.le_of_ble_eq_true rfl, Nat.succ_ne_zero _, by decide⟩ rfl
theorem k264_7 : xcd 264 7 = oAl 0 8 := rfl
theorem r264_7 : zr 264 7 [.ref a0, v1, v2] st u P = zr 264 8 [.ref a0, v1, v2] (.ref a0 :: st) u P := zr_Al k264_7 rfl
theorem k264_8 : xcd 264 8 = oIl 1 9 := rfl
theorem r264_8 : zr 264 8 [v0, .int x1, v2] st u P = zr 264 9 [v0, .int x1, v2] (.int x1 :: st) u P := zr_Il k264_8 rfl
theorem k264_9 : xcd 264 9 = oI 5 10 := rfl
theorem r264_9 : zr 264 9 [v0, v1, v2] st u P = zr 264 10 [v0, v1, v2] (.int 5 :: st) u P := zr_I k264_9
theorem k264_10 : xcd 264 10 = oCalV 11 262 2 13 := rfl
theorem r264_10 : zr 264 10 [v0, v1, v2] (.int y2 :: .int y1 :: .ref b8 :: st) u P = ((xIs u b8 11 ∧ xcat st ≤ 8) ∧ zr 262 0 [.ref b8, .int y1, .int y2] [] u (fun r u2 => zr 264 13 [v0, v1, v2] (r.toList ++ st) u2 P)) := zr_CV k264_10 rfl rfl rfl ⟨Nat.le_of_ble_eq_true rfl, Nat.succ_ne_zero _, by decide⟩ rfl
theorem k264_13 : xcd 264 13 = oAl 0 14 := rfl
theorem r264_13 : zr 264 13 [.ref a0, v1, v2] st u P = zr 264 14 [.ref a0, v1, v2] (.ref a0 :: st) u P := zr_Al k264_13 rfl
theorem k264_14 : xcd 264 14 = oIl 1 15 := rfl
theorem r264_14 : zr 264 14 [v0, .int x1, v2] st u P = zr 264 15 [v0, .int x1, v2] (.int x1 :: st) u P := zr_Il k264_14 rfl
theorem k264_15 : xcd 264 15 = oIl 2 16 := rfl
theorem r264_15 : zr 264 15 [v0, v1, .int x2] st u P = zr 264 16 [v0, v1, .int x2] (.int x2 :: st) u P := zr_Il k264_15 rfl
theorem k264_16 : xcd 264 16 = oI 2 17 := rfl
theorem r264_16 : zr 264 16 [v0, v1, v2] st u P = zr 264 17 [v0, v1, v2] (.int 2 :: st) u P := zr_I k264_16
theorem k264_17 : xcd 264 17 = oCalV 11 263 3 20 := rfl
theorem r264_17 : zr 264 17 [v0, v1, v2] (.int y3 :: .int y2 :: .int y1 :: .ref b8 :: st) u P = ((xIs u b8 11 ∧ xcat st ≤ 8) ∧ zr 263 0 [.ref b8, .int y1, .int y2, .int y3] [] u (fun r u2 => zr 264 20 [v0, v1, v2] (r.toList ++ st) u2 P)) := zr_CV k264_17 rfl rfl rfl ⟨Nat.le_of_ble_eq_true rfl, Nat.succ_ne_zero _, by decide⟩ rfl
theorem k264_20 : xcd 264 20 = oAl 0 21 := rfl
theorem r264_20 : zr 264 20 [.ref a0, v1, v2] st u P = zr 264 21 [.ref a0, v1, v2] (.ref a0 :: st) u P := zr_Al k264_20 rfl
theorem k264_21 : xcd 264 21 = oIl 1 22 := rfl
theorem r264_21 : zr 264 21 [v0, .int x1, v2] st u P = zr 264 22 [v0, .int x1, v2] (.int x1 :: st) u P := zr_Il k264_21 rfl
theorem k264_22 : xcd 264 22 = oIl 2 23 := rfl
theorem r264_22 : zr 264 22 [v0, v1, .int x2] st u P = zr 264 23 [v0, v1, .int x2] (.int x2 :: st) u P := zr_Il k264_22 rfl
theorem k264_23 : xcd 264 23 = oI 3 24 := rfl
theorem r264_23 : zr 264 23 [v0, v1, v2] st u P = zr 264 24 [v0, v1, v2] (.int 3 :: st) u P := zr_I k264_23
theorem k264_24 : xcd 264 24 = oCalV 11 263 3 27 := rfl
theorem r264_24 : zr 264 24 [v0, v1, v2] (.int y3 :: .int y2 :: .int y1 :: .ref b8 :: st) u P = ((xIs u b8 11 ∧ xcat st ≤ 8) ∧ zr 263 0 [.ref b8, .int y1, .int y2, .int y3] [] u (fun r u2 => zr 264 27 [v0, v1, v2] (r.toList ++ st) u2 P)) := zr_CV k264_24 rfl rfl rfl ⟨Nat.le_of_ble_eq_true rfl, Nat.succ_ne_zero _, by decide⟩ rfl
theorem k264_27 : xcd 264 27 = oI 1 28 := rfl
theorem r264_27 : zr 264 27 [v0, v1, v2] st u P = zr 264 28 [v0, v1, v2] (.int 1 :: st) u P := zr_I k264_27
theorem k264_28 : xcd 264 28 = oCmp (fun x y => decide (¬ x = y)) 35 31 := rfl
theorem r264_28 : zr 264 28 [v0, v1, v2] (.int y1 :: .int y2 :: st) u P = (if ¬ y2 = y1 then zr 264 35 [v0, v1, v2] st u P else zr 264 31 [v0, v1, v2] st u P) := zr_Cmp k264_28
theorem k264_31 : xcd 264 31 = oI 1 32 := rfl
theorem r264_31 : zr 264 31 [v0, v1, v2] st u P = zr 264 32 [v0, v1, v2] (.int 1 :: st) u P := zr_I k264_31
theorem k264_32 : xcd 264 32 = oGoto 36 := rfl
theorem r264_32 : zr 264 32 [v0, v1, v2] st u P = zr 264 36 [v0, v1, v2] st u P := zr_Goto k264_32
theorem k264_35 : xcd 264 35 = oI 0 36 := rfl
theorem r264_35 : zr 264 35 [v0, v1, v2] st u P = zr 264 36 [v0, v1, v2] (.int 0 :: st) u P := zr_I k264_35
theorem k264_36 : xcd 264 36 = oCal 255 4 39 := rfl
theorem r264_36 : zr 264 36 [v0, v1, v2] (.int y4 :: .int y3 :: .int y2 :: .int y1 :: st) u P = (xcat st ≤ 8 ∧ zr 255 0 [.int y1, .int y2, .int y3, .int y4] [] u (fun r u2 => zr 264 39 [v0, v1, v2] (r.toList ++ st) u2 P)) := zr_CS k264_36 (Nat.le_add_left _ _) rfl rfl ⟨Nat.le_of_ble_eq_true rfl, Nat.succ_ne_zero _, by decide⟩ rfl
theorem k264_39 : xcd 264 39 = oRi 0 := rfl
theorem r264_39 : zr 264 39 [v0, v1, v2] [.int y1] u P = P (some (.int y1)) u := zr_Ri k264_39
theorem k265_0 : xcd 265 0 = oAl 0 1 := rfl
theorem r265_0 : zr 265 0 [.ref a0, v1, v2] st u P = zr 265 1 [.ref a0, v1, v2] (.ref a0 :: st) u P := zr_Al k265_0 rfl
theorem k265_1 : xcd 265 1 = oIl 1 2 := rfl
theorem r265_1 : zr 265 1 [v0, .int x1, v2] st u P = zr 265 2 [v0, .int x1, v2] (.int x1 :: st) u P := zr_Il k265_1 rfl
theorem k265_2 : xcd 265 2 = oIl 2 3 := rfl
theorem r265_2 : zr 265 2 [v0, v1, .int x2] st u P = zr 265 3 [v0, v1, .int x2] (.int x2 :: st) u P := zr_Il k265_2 rfl
theorem k265_3 : xcd 265 3 = oCalV 11 264 2 6 := rfl
theorem r265_3 : zr 265 3 [v0, v1, v2] (.int y2 :: .int y1 :: .ref b8 :: st) u P = ((xIs u b8 11 ∧ xcat st ≤ 8) ∧ zr 264 0 [.ref b8, .int y1, .int y2] [] u (fun r u2 => zr 265 6 [v0, v1, v2] (r.toList ++ st) u2 P)) := zr_CV k265_3 rfl rfl rfl ⟨Nat.le_of_ble_eq_true rfl, Nat.succ_ne_zero _, by decide⟩ rfl
theorem k265_6 : xcd 265 6 = oAl 0 7 := rfl
theorem r265_6 : zr 265 6 [.ref a0, v1, v2] st u P = zr 265 7 [.ref a0, v1, v2] (.ref a0 :: st) u P := zr_Al k265_6 rfl
theorem k265_7 : xcd 265 7 = oIl 1 8 := rfl
theorem r265_7 : zr 265 7 [v0, .int x1, v2] st u P = zr 265 8 [v0, .int x1, v2] (.int x1 :: st) u P := zr_Il k265_7 rfl
theorem k265_8 : xcd 265 8 = oIl 2 9 := rfl
theorem r265_8 : zr 265 8 [v0, v1, .int x2] st u P = zr 265 9 [v0, v1, .int x2] (.int x2 :: st) u P := zr_Il k265_8 rfl
theorem k265_9 : xcd 265 9 = oI 1 10 := rfl
theorem r265_9 : zr 265 9 [v0, v1, v2] st u P = zr 265 10 [v0, v1, v2] (.int 1 :: st) u P := zr_I k265_9
theorem k265_10 : xcd 265 10 = oCalV 11 263 3 13 := rfl
theorem r265_10 : zr 265 10 [v0, v1, v2] (.int y3 :: .int y2 :: .int y1 :: .ref b8 :: st) u P = ((xIs u b8 11 ∧ xcat st ≤ 8) ∧ zr 263 0 [.ref b8, .int y1, .int y2, .int y3] [] u (fun r u2 => zr 265 13 [v0, v1, v2] (r.toList ++ st) u2 P)) := zr_CV k265_10 rfl rfl rfl ⟨Nat.le_of_ble_eq_true rfl, Nat.succ_ne_zero _, by decide⟩ rfl
theorem k265_13 : xcd 265 13 = oCal 256 2 16 := rfl
theorem r265_13 : zr 265 13 [v0, v1, v2] (.int y2 :: .int y1 :: st) u P = (xcat st ≤ 8 ∧ zr 256 0 [.int y1, .int y2] [] u (fun r u2 => zr 265 16 [v0, v1, v2] (r.toList ++ st) u2 P)) := zr_CS k265_13 (Nat.le_add_left _ _) rfl rfl ⟨Nat.le_of_ble_eq_true rfl, Nat.succ_ne_zero _, by decide⟩ rfl
theorem k265_16 : xcd 265 16 = oRi 0 := rfl
theorem r265_16 : zr 265 16 [v0, v1, v2] [.int y1] u P = P (some (.int y1)) u := zr_Ri k265_16
theorem k266_0 : xcd 266 0 = oI 0 1 := rfl
theorem r266_0 : zr 266 0 [v0, v1, v2, v3] st u P = zr 266 1 [v0, v1, v2, v3] (.int 0 :: st) u P := zr_I k266_0
theorem k266_1 : xcd 266 1 = oIs 2 2 := rfl
theorem r266_1 : zr 266 1 [v0, .int x1, v2, v3] (.int y1 :: st) u P = zr 266 2 [v0, .int x1, .int y1, v3] st u P := zr_Is k266_1 ⟨Nat.le_of_ble_eq_true rfl, rfl⟩
theorem k266_2 : xcd 266 2 = oI 0 3 := rfl
theorem r266_2 : zr 266 2 [v0, v1, v2, v3] st u P = zr 266 3 [v0, v1, v2, v3] (.int 0 :: st) u P := zr_I k266_2
theorem k266_3 : xcd 266 3 = oIs 3 4 := rfl
theorem r266_3 : zr 266 3 [v0, v1, .int x2, v3] (.int y1 :: st) u P = zr 266 4 [v0, v1, .int x2, .int y1] st u P := zr_Is k266_3 ⟨Nat.le_of_ble_eq_true rfl, rfl⟩
theorem k266_4 : xcd 266 4 = oIl 3 5 := rfl
theorem r266_4 : zr 266 4 [v0, v1, v2, .int x3] st u P = zr 266 5 [v0, v1, v2, .int x3] (.int x3 :: st) u P := zr_Il k266_4 rfl
theorem k266_5 : xcd 266 5 = oAl 0 6 := rfl
theorem r266_5 : zr 266 5 [.ref a0, v1, v2, v3] st u P = zr 266 6 [.ref a0, v1, v2, v3] (.ref a0 :: st) u P := zr_Al k266_5 rfl
theorem k266_6 : xcd 266 6 = oIl 1 7 := rfl
theorem r266_6 : zr 266 6 [v0, .int x1, v2, v3] st u P = zr 266 7 [v0, .int x1, v2, v3] (.int x1 :: st) u P := zr_Il k266_6 rfl
theorem k266_7 : xcd 266 7 = oI 7 9 := rfl
theorem r266_7 : zr 266 7 [v0, v1, v2, v3] st u P = zr 266 9 [v0, v1, v2, v3] (.int 7 :: st) u P := zr_I k266_7
theorem k266_9 : xcd 266 9 = oCalV 11 262 2 12 := rfl
theorem r266_9 : zr 266 9 [v0, v1, v2, v3] (.int y2 :: .int y1 :: .ref b8 :: st) u P = ((xIs u b8 11 ∧ xcat st ≤ 8) ∧ zr 262 0 [.ref b8, .int y1, .int y2] [] u (fun r u2 => zr 266 12 [v0, v1, v2, v3] (r.toList ++ st) u2 P)) := zr_CV k266_9 rfl rfl rfl ⟨Nat.le_of_ble_eq_true rfl, Nat.succ_ne_zero _, by decide⟩ rfl
theorem k266_12 : xcd 266 12 = oCmp (fun x y => decide (y ≤ x)) 30 15 := rfl
theorem r266_12 : zr 266 12 [v0, v1, v2, v3] (.int y1 :: .int y2 :: st) u P = (if y1 ≤ y2 then zr 266 30 [v0, v1, v2, v3] st u P else zr 266 15 [v0, v1, v2, v3] st u P) := zr_Cmp k266_12
theorem k266_15 : xcd 266 15 = oIl 2 16 := rfl
theorem r266_15 : zr 266 15 [v0, v1, .int x2, v3] st u P = zr 266 16 [v0, v1, .int x2, v3] (.int x2 :: st) u P := zr_Il k266_15 rfl
theorem k266_16 : xcd 266 16 = oAl 0 17 := rfl
theorem r266_16 : zr 266 16 [.ref a0, v1, v2, v3] st u P = zr 266 17 [.ref a0, v1, v2, v3] (.ref a0 :: st) u P := zr_Al k266_16 rfl
theorem k266_17 : xcd 266 17 = oIl 1 18 := rfl
theorem r266_17 : zr 266 17 [v0, .int x1, v2, v3] st u P = zr 266 18 [v0, .int x1, v2, v3] (.int x1 :: st) u P := zr_Il k266_17 rfl
theorem k266_18 : xcd 266 18 = oIl 3 19 := rfl
theorem r266_18 : zr 266 18 [v0, v1, v2, .int x3] st u P = zr 266 19 [v0, v1, v2, .int x3] (.int x3 :: st) u P := zr_Il k266_18 rfl
theorem k266_19 : xcd 266 19 = oCalV 11 265 2 22 := rfl
theorem r266_19 : zr 266 19 [v0, v1, v2, v3] (.int y2 :: .int y1 :: .ref b8 :: st) u P = ((xIs u b8 11 ∧ xcat st ≤ 8) ∧ zr 265 0 [.ref b8, .int y1, .int y2] [] u (fun r u2 => zr 266 22 [v0, v1, v2, v3] (r.toList ++ st) u2 P)) := zr_CV k266_19 rfl rfl rfl ⟨Nat.le_of_ble_eq_true rfl, Nat.succ_ne_zero _, by decide⟩ rfl
theorem k266_22 : xcd 266 22 = oB (fun x y => x + y) 23 := rfl
theorem r266_22 : zr 266 22 [v0, v1, v2, v3] (.int y1 :: .int y2 :: st) u P = zr 266 23 [v0, v1, v2, v3] (.int (y2 + y1) :: st) u P := zr_B k266_22
theorem k266_23 : xcd 266 23 = oIs 2 24 := rfl
theorem r266_23 : zr 266 23 [v0, .int x1, v2, v3] (.int y1 :: st) u P = zr 266 24 [v0, .int x1, .int y1, v3] st u P := zr_Is k266_23 ⟨Nat.le_of_ble_eq_true rfl, rfl⟩
theorem k266_24 : xcd 266 24 = oInc 3 1 27 := rfl
theorem r266_24 : zr 266 24 [v0, v1, .int x2, .int x3] st u P = zr 266 27 [v0, v1, .int x2, .int (x3 + 1)] st u P := zr_Inc k266_24 rfl rfl
theorem k266_27 : xcd 266 27 = oGoto 4 := rfl
theorem r266_27 : zr 266 27 [v0, v1, v2, v3] st u P = zr 266 4 [v0, v1, v2, v3] st u P := zr_Goto k266_27
theorem k266_30 : xcd 266 30 = oIl 2 31 := rfl
theorem r266_30 : zr 266 30 [v0, v1, .int x2, v3] st u P = zr 266 31 [v0, v1, .int x2, v3] (.int x2 :: st) u P := zr_Il k266_30 rfl
theorem k266_31 : xcd 266 31 = oRi 0 := rfl
theorem r266_31 : zr 266 31 [v0, v1, v2, v3] [.int y1] u P = P (some (.int y1)) u := zr_Ri k266_31
theorem k267_0 : xcd 267 0 = oAl 0 1 := rfl
theorem r267_0 : zr 267 0 [.ref a0, v1, v2] st u P = zr 267 1 [.ref a0, v1, v2] (.ref a0 :: st) u P := zr_Al k267_0 rfl
theorem k267_1 : xcd 267 1 = oI 0 2 := rfl
theorem r267_1 : zr 267 1 [v0, v1, v2] st u P = zr 267 2 [v0, v1, v2] (.int 0 :: st) u P := zr_I k267_1
theorem k267_2 : xcd 267 2 = oPI 11 0 5 := rfl
theorem r267_2 : zr 267 2 [v0, v1, v2] (.int y1 :: .ref b1 :: st) u P = (xIs u b1 11 ∧ zr 267 5 [v0, v1, v2] st (xsI u b1 0 y1) P) := zr_PI k267_2
theorem k267_5 : xcd 267 5 = oAl 0 6 := rfl
theorem r267_5 : zr 267 5 [.ref a0, v1, v2] st u P = zr 267 6 [.ref a0, v1, v2] (.ref a0 :: st) u P := zr_Al k267_5 rfl
theorem k267_6 : xcd 267 6 = oIl 1 7 := rfl
theorem r267_6 : zr 267 6 [v0, .int x1, v2] st u P = zr 267 7 [v0, .int x1, v2] (.int x1 :: st) u P := zr_Il k267_6 rfl
theorem k267_7 : xcd 267 7 = oCalV 11 261 1 10 := rfl
theorem r267_7 : zr 267 7 [v0, v1, v2] (.int y1 :: .ref b8 :: st) u P = ((xIs u b8 11 ∧ xcat st ≤ 8) ∧ zr 261 0 [.ref b8, .int y1] [] u (fun r u2 => zr 267 10 [v0, v1, v2] (r.toList ++ st) u2 P)) := zr_CV k267_7 rfl rfl rfl ⟨Nat.le_of_ble_eq_true rfl, Nat.succ_ne_zero _, by decide⟩ rfl
theorem k267_10 : xcd 267 10 = oIf (fun x => decide (x = 0)) 23 13 := rfl
theorem r267_10 : zr 267 10 [v0, v1, v2] (.int y1 :: st) u P = (if y1 = 0 then zr 267 23 [v0, v1, v2] st u P else zr 267 13 [v0, v1, v2] st u P) := zr_If k267_10
theorem k267_13 : xcd 267 13 = oIl 2 14 := rfl
theorem r267_13 : zr 267 13 [v0, v1, .int x2] st u P = zr 267 14 [v0, v1, .int x2] (.int x2 :: st) u P := zr_Il k267_13 rfl
theorem k267_14 : xcd 267 14 = oI 0 15 := rfl
theorem r267_14 : zr 267 14 [v0, v1, v2] st u P = zr 267 15 [v0, v1, v2] (.int 0 :: st) u P := zr_I k267_14
theorem k267_15 : xcd 267 15 = oI 9 17 := rfl
theorem r267_15 : zr 267 15 [v0, v1, v2] st u P = zr 267 17 [v0, v1, v2] (.int 9 :: st) u P := zr_I k267_15
theorem k267_17 : xcd 267 17 = oCal 175 3 20 := rfl
theorem r267_17 : zr 267 17 [v0, v1, v2] (.int y3 :: .int y2 :: .int y1 :: st) u P = (xcat st ≤ 8 ∧ zr 175 0 [.int y1, .int y2, .int y3] [] u (fun r u2 => zr 267 20 [v0, v1, v2] (r.toList ++ st) u2 P)) := zr_CS k267_17 (Nat.le_add_left _ _) rfl rfl ⟨Nat.le_of_ble_eq_true rfl, Nat.succ_ne_zero _, by decide⟩ rfl
theorem k267_20 : xcd 267 20 = oIf (fun x => decide (¬ x = 0)) 29 23 := rfl
theorem r267_20 : zr 267 20 [v0, v1, v2] (.int y1 :: st) u P = (if ¬ y1 = 0 then zr 267 29 [v0, v1, v2] st u P else zr 267 23 [v0, v1, v2] st u P) := zr_If k267_20
theorem k267_23 : xcd 267 23 = oAl 0 24 := rfl
theorem r267_23 : zr 267 23 [.ref a0, v1, v2] st u P = zr 267 24 [.ref a0, v1, v2] (.ref a0 :: st) u P := zr_Al k267_23 rfl
theorem k267_24 : xcd 267 24 = oI 1 25 := rfl
theorem r267_24 : zr 267 24 [v0, v1, v2] st u P = zr 267 25 [v0, v1, v2] (.int 1 :: st) u P := zr_I k267_24
theorem k267_25 : xcd 267 25 = oCalV 11 172 1 28 := rfl
theorem r267_25 : zr 267 25 [v0, v1, v2] (.int y1 :: .ref b8 :: st) u P = ((xIs u b8 11 ∧ xcat st ≤ 8) ∧ zr 172 0 [.ref b8, .int y1] [] u (fun r u2 => zr 267 28 [v0, v1, v2] (r.toList ++ st) u2 P)) := zr_CV k267_25 rfl rfl rfl ⟨Nat.le_of_ble_eq_true rfl, Nat.succ_ne_zero _, by decide⟩ rfl
theorem k267_28 : xcd 267 28 = oRi 0 := rfl
theorem r267_28 : zr 267 28 [v0, v1, v2] [.int y1] u P = P (some (.int y1)) u := zr_Ri k267_28
theorem k267_29 : xcd 267 29 = oAl 0 30 := rfl
theorem r267_29 : zr 267 29 [.ref a0, v1, v2] st u P = zr 267 30 [.ref a0, v1, v2] (.ref a0 :: st) u P := zr_Al k267_29 rfl
theorem k267_30 : xcd 267 30 = oIl 2 31 := rfl
theorem r267_30 : zr 267 30 [v0, v1, .int x2] st u P = zr 267 31 [v0, v1, .int x2] (.int x2 :: st) u P := zr_Il k267_30 rfl
theorem k267_31 : xcd 267 31 = oI 8 33 := rfl
theorem r267_31 : zr 267 31 [v0, v1, v2] st u P = zr 267 33 [v0, v1, v2] (.int 8 :: st) u P := zr_I k267_31
theorem k267_33 : xcd 267 33 = oCmp (fun x y => decide (¬ x = y)) 44 36 := rfl
theorem r267_33 : zr 267 33 [v0, v1, v2] (.int y1 :: .int y2 :: st) u P = (if ¬ y2 = y1 then zr 267 44 [v0, v1, v2] st u P else zr 267 36 [v0, v1, v2] st u P) := zr_Cmp k267_33
theorem k267_36 : xcd 267 36 = oAl 0 37 := rfl
theorem r267_36 : zr 267 36 [.ref a0, v1, v2] st u P = zr 267 37 [.ref a0, v1, v2] (.ref a0 :: st) u P := zr_Al k267_36 rfl
theorem k267_37 : xcd 267 37 = oIl 1 38 := rfl
theorem r267_37 : zr 267 37 [v0, .int x1, v2] st u P = zr 267 38 [v0, .int x1, v2] (.int x1 :: st) u P := zr_Il k267_37 rfl
theorem k267_38 : xcd 267 38 = oCalV 11 266 1 41 := rfl
theorem r267_38 : zr 267 38 [v0, v1, v2] (.int y1 :: .ref b8 :: st) u P = ((xIs u b8 11 ∧ xcat st ≤ 8) ∧ zr 266 0 [.ref b8, .int y1, .null, .null] [] u (fun r u2 => zr 267 41 [v0, v1, v2] (r.toList ++ st) u2 P)) := zr_CV k267_38 rfl rfl rfl ⟨Nat.le_of_ble_eq_true rfl, Nat.succ_ne_zero _, by decide⟩ rfl
theorem k267_41 : xcd 267 41 = oGoto 74 := rfl
theorem r267_41 : zr 267 41 [v0, v1, v2] st u P = zr 267 74 [v0, v1, v2] st u P := zr_Goto k267_41
theorem k267_44 : xcd 267 44 = oIl 2 45 := rfl
theorem r267_44 : zr 267 44 [v0, v1, .int x2] st u P = zr 267 45 [v0, v1, .int x2] (.int x2 :: st) u P := zr_Il k267_44 rfl
theorem k267_45 : xcd 267 45 = oI 9 47 := rfl
theorem r267_45 : zr 267 45 [v0, v1, v2] st u P = zr 267 47 [v0, v1, v2] (.int 9 :: st) u P := zr_I k267_45
theorem k267_47 : xcd 267 47 = oCmp (fun x y => decide (¬ x = y)) 68 50 := rfl
theorem r267_47 : zr 267 47 [v0, v1, v2] (.int y1 :: .int y2 :: st) u P = (if ¬ y2 = y1 then zr 267 68 [v0, v1, v2] st u P else zr 267 50 [v0, v1, v2] st u P) := zr_Cmp k267_47
theorem k267_50 : xcd 267 50 = oAl 0 51 := rfl
theorem r267_50 : zr 267 50 [.ref a0, v1, v2] st u P = zr 267 51 [.ref a0, v1, v2] (.ref a0 :: st) u P := zr_Al k267_50 rfl
theorem k267_51 : xcd 267 51 = oIl 1 52 := rfl
theorem r267_51 : zr 267 51 [v0, .int x1, v2] st u P = zr 267 52 [v0, .int x1, v2] (.int x1 :: st) u P := zr_Il k267_51 rfl
theorem k267_52 : xcd 267 52 = oI 8 54 := rfl
theorem r267_52 : zr 267 52 [v0, v1, v2] st u P = zr 267 54 [v0, v1, v2] (.int 8 :: st) u P := zr_I k267_52
theorem k267_54 : xcd 267 54 = oCalV 11 262 2 57 := rfl
theorem r267_54 : zr 267 54 [v0, v1, v2] (.int y2 :: .int y1 :: .ref b8 :: st) u P = ((xIs u b8 11 ∧ xcat st ≤ 8) ∧ zr 262 0 [.ref b8, .int y1, .int y2] [] u (fun r u2 => zr 267 57 [v0, v1, v2] (r.toList ++ st) u2 P)) := zr_CV k267_54 rfl rfl rfl ⟨Nat.le_of_ble_eq_true rfl, Nat.succ_ne_zero _, by decide⟩ rfl
theorem k267_57 : xcd 267 57 = oIf (fun x => decide (x ≤ 0)) 64 60 := rfl
theorem r267_57 : zr 267 57 [v0, v1, v2] (.int y1 :: st) u P = (if y1 ≤ 0 then zr 267 64 [v0, v1, v2] st u P else zr 267 60 [v0, v1, v2] st u P) := zr_If k267_57
theorem k267_60 : xcd 267 60 = oI 1 61 := rfl
theorem r267_60 : zr 267 60 [v0, v1, v2] st u P = zr 267 61 [v0, v1, v2] (.int 1 :: st) u P := zr_I k267_60
theorem k267_61 : xcd 267 61 = oGoto 74 := rfl
theorem r267_61 : zr 267 61 [v0, v1, v2] st u P = zr 267 74 [v0, v1, v2] st u P := zr_Goto k267_61
theorem k267_64 : xcd 267 64 = oI 0 65 := rfl
theorem r267_64 : zr 267 64 [v0, v1, v2] st u P = zr 267 65 [v0, v1, v2] (.int 0 :: st) u P := zr_I k267_64
theorem k267_65 : xcd 267 65 = oGoto 74 := rfl
theorem r267_65 : zr 267 65 [v0, v1, v2] st u P = zr 267 74 [v0, v1, v2] st u P := zr_Goto k267_65
theorem k267_68 : xcd 267 68 = oAl 0 69 := rfl
theorem r267_68 : zr 267 68 [.ref a0, v1, v2] st u P = zr 267 69 [.ref a0, v1, v2] (.ref a0 :: st) u P := zr_Al k267_68 rfl
theorem k267_69 : xcd 267 69 = oIl 1 70 := rfl
theorem r267_69 : zr 267 69 [v0, .int x1, v2] st u P = zr 267 70 [v0, .int x1, v2] (.int x1 :: st) u P := zr_Il k267_69 rfl
theorem k267_70 : xcd 267 70 = oIl 2 71 := rfl
theorem r267_70 : zr 267 70 [v0, v1, .int x2] st u P = zr 267 71 [v0, v1, .int x2] (.int x2 :: st) u P := zr_Il k267_70 rfl
theorem k267_71 : xcd 267 71 = oCalV 11 262 2 74 := rfl
theorem r267_71 : zr 267 71 [v0, v1, v2] (.int y2 :: .int y1 :: .ref b8 :: st) u P = ((xIs u b8 11 ∧ xcat st ≤ 8) ∧ zr 262 0 [.ref b8, .int y1, .int y2] [] u (fun r u2 => zr 267 74 [v0, v1, v2] (r.toList ++ st) u2 P)) := zr_CV k267_71 rfl rfl rfl ⟨Nat.le_of_ble_eq_true rfl, Nat.succ_ne_zero _, by decide⟩ rfl
theorem k267_74 : xcd 267 74 = oCalV 11 174 1 77 := rfl
theorem r267_74 : zr 267 74 [v0, v1, v2] (.int y1 :: .ref b8 :: st) u P = ((xIs u b8 11 ∧ xcat st ≤ 8) ∧ zr 174 0 [.ref b8, .int y1] [] u (fun r u2 => zr 267 77 [v0, v1, v2] (r.toList ++ st) u2 P)) := zr_CV k267_74 rfl rfl rfl ⟨Nat.le_of_ble_eq_true rfl, Nat.succ_ne_zero _, by decide⟩ rfl
theorem k267_77 : xcd 267 77 = oRi 0 := rfl
theorem r267_77 : zr 267 77 [v0, v1, v2] [.int y1] u P = P (some (.int y1)) u := zr_Ri k267_77
theorem k268_0 : xcd 268 0 = oAl 0 1 := rfl
theorem r268_0 : zr 268 0 [.ref a0, v1, v2, v3] st u P = zr 268 1 [.ref a0, v1, v2, v3] (.ref a0 :: st) u P := zr_Al k268_0 rfl
theorem k268_1 : xcd 268 1 = oI 0 2 := rfl
theorem r268_1 : zr 268 1 [v0, v1, v2, v3] st u P = zr 268 2 [v0, v1, v2, v3] (.int 0 :: st) u P := zr_I k268_1
theorem k268_2 : xcd 268 2 = oPI 11 0 5 := rfl
theorem r268_2 : zr 268 2 [v0, v1, v2, v3] (.int y1 :: .ref b1 :: st) u P = (xIs u b1 11 ∧ zr 268 5 [v0, v1, v2, v3] st (xsI u b1 0 y1) P) := zr_PI k268_2
theorem k268_5 : xcd 268 5 = oAl 0 6 := rfl
theorem r268_5 : zr 268 5 [.ref a0, v1, v2, v3] st u P = zr 268 6 [.ref a0, v1, v2, v3] (.ref a0 :: st) u P := zr_Al k268_5 rfl
theorem k268_6 : xcd 268 6 = oIl 1 7 := rfl
theorem r268_6 : zr 268 6 [v0, .int x1, v2, v3] st u P = zr 268 7 [v0, .int x1, v2, v3] (.int x1 :: st) u P := zr_Il k268_6 rfl
theorem k268_7 : xcd 268 7 = oCalV 11 261 1 10 := rfl
theorem r268_7 : zr 268 7 [v0, v1, v2, v3] (.int y1 :: .ref b8 :: st) u P = ((xIs u b8 11 ∧ xcat st ≤ 8) ∧ zr 261 0 [.ref b8, .int y1] [] u (fun r u2 => zr 268 10 [v0, v1, v2, v3] (r.toList ++ st) u2 P)) := zr_CV k268_7 rfl rfl rfl ⟨Nat.le_of_ble_eq_true rfl, Nat.succ_ne_zero _, by decide⟩ rfl
theorem k268_10 : xcd 268 10 = oIf (fun x => decide (x = 0)) 39 13 := rfl
theorem r268_10 : zr 268 10 [v0, v1, v2, v3] (.int y1 :: st) u P = (if y1 = 0 then zr 268 39 [v0, v1, v2, v3] st u P else zr 268 13 [v0, v1, v2, v3] st u P) := zr_If k268_10
theorem k268_13 : xcd 268 13 = oIl 2 14 := rfl
theorem r268_13 : zr 268 13 [v0, v1, .int x2, v3] st u P = zr 268 14 [v0, v1, .int x2, v3] (.int x2 :: st) u P := zr_Il k268_13 rfl
theorem k268_14 : xcd 268 14 = oI 0 15 := rfl
theorem r268_14 : zr 268 14 [v0, v1, v2, v3] st u P = zr 268 15 [v0, v1, v2, v3] (.int 0 :: st) u P := zr_I k268_14
theorem k268_15 : xcd 268 15 = oAl 0 16 := rfl
theorem r268_15 : zr 268 15 [.ref a0, v1, v2, v3] st u P = zr 268 16 [.ref a0, v1, v2, v3] (.ref a0 :: st) u P := zr_Al k268_15 rfl
theorem k268_16 : xcd 268 16 = oIl 1 17 := rfl
theorem r268_16 : zr 268 16 [v0, .int x1, v2, v3] st u P = zr 268 17 [v0, .int x1, v2, v3] (.int x1 :: st) u P := zr_Il k268_16 rfl
theorem k268_17 : xcd 268 17 = oI 7 19 := rfl
theorem r268_17 : zr 268 17 [v0, v1, v2, v3] st u P = zr 268 19 [v0, v1, v2, v3] (.int 7 :: st) u P := zr_I k268_17
theorem k268_19 : xcd 268 19 = oCalV 11 262 2 22 := rfl
theorem r268_19 : zr 268 19 [v0, v1, v2, v3] (.int y2 :: .int y1 :: .ref b8 :: st) u P = ((xIs u b8 11 ∧ xcat st ≤ 8) ∧ zr 262 0 [.ref b8, .int y1, .int y2] [] u (fun r u2 => zr 268 22 [v0, v1, v2, v3] (r.toList ++ st) u2 P)) := zr_CV k268_19 rfl rfl rfl ⟨Nat.le_of_ble_eq_true rfl, Nat.succ_ne_zero _, by decide⟩ rfl
theorem k268_22 : xcd 268 22 = oI 1 23 := rfl
theorem r268_22 : zr 268 22 [v0, v1, v2, v3] st u P = zr 268 23 [v0, v1, v2, v3] (.int 1 :: st) u P := zr_I k268_22
theorem k268_23 : xcd 268 23 = oB (fun x y => x - y) 24 := rfl
theorem r268_23 : zr 268 23 [v0, v1, v2, v3] (.int y1 :: .int y2 :: st) u P = zr 268 24 [v0, v1, v2, v3] (.int (y2 - y1) :: st) u P := zr_B k268_23
theorem k268_24 : xcd 268 24 = oCal 175 3 27 := rfl
theorem r268_24 : zr 268 24 [v0, v1, v2, v3] (.int y3 :: .int y2 :: .int y1 :: st) u P = (xcat st ≤ 8 ∧ zr 175 0 [.int y1, .int y2, .int y3] [] u (fun r u2 => zr 268 27 [v0, v1, v2, v3] (r.toList ++ st) u2 P)) := zr_CS k268_24 (Nat.le_add_left _ _) rfl rfl ⟨Nat.le_of_ble_eq_true rfl, Nat.succ_ne_zero _, by decide⟩ rfl
theorem k268_27 : xcd 268 27 = oIf (fun x => decide (x = 0)) 39 30 := rfl
theorem r268_27 : zr 268 27 [v0, v1, v2, v3] (.int y1 :: st) u P = (if y1 = 0 then zr 268 39 [v0, v1, v2, v3] st u P else zr 268 30 [v0, v1, v2, v3] st u P) := zr_If k268_27
theorem k268_30 : xcd 268 30 = oIl 3 31 := rfl
theorem r268_30 : zr 268 30 [v0, v1, v2, .int x3] st u P = zr 268 31 [v0, v1, v2, .int x3] (.int x3 :: st) u P := zr_Il k268_30 rfl
theorem k268_31 : xcd 268 31 = oI 0 32 := rfl
theorem r268_31 : zr 268 31 [v0, v1, v2, v3] st u P = zr 268 32 [v0, v1, v2, v3] (.int 0 :: st) u P := zr_I k268_31
theorem k268_32 : xcd 268 32 = oI 5 33 := rfl
theorem r268_32 : zr 268 32 [v0, v1, v2, v3] st u P = zr 268 33 [v0, v1, v2, v3] (.int 5 :: st) u P := zr_I k268_32
theorem k268_33 : xcd 268 33 = oCal 175 3 36 := rfl
theorem r268_33 : zr 268 33 [v0, v1, v2, v3] (.int y3 :: .int y2 :: .int y1 :: st) u P = (xcat st ≤ 8 ∧ zr 175 0 [.int y1, .int y2, .int y3] [] u (fun r u2 => zr 268 36 [v0, v1, v2, v3] (r.toList ++ st) u2 P)) := zr_CS k268_33 (Nat.le_add_left _ _) rfl rfl ⟨Nat.le_of_ble_eq_true rfl, Nat.succ_ne_zero _, by decide⟩ rfl
theorem k268_36 : xcd 268 36 = oIf (fun x => decide (¬ x = 0)) 45 39 := rfl
theorem r268_36 : zr 268 36 [v0, v1, v2, v3] (.int y1 :: st) u P = (if ¬ y1 = 0 then zr 268 45 [v0, v1, v2, v3] st u P else zr 268 39 [v0, v1, v2, v3] st u P) := zr_If k268_36
theorem k268_39 : xcd 268 39 = oAl 0 40 := rfl
theorem r268_39 : zr 268 39 [.ref a0, v1, v2, v3] st u P = zr 268 40 [.ref a0, v1, v2, v3] (.ref a0 :: st) u P := zr_Al k268_39 rfl
theorem k268_40 : xcd 268 40 = oI 1 41 := rfl
theorem r268_40 : zr 268 40 [v0, v1, v2, v3] st u P = zr 268 41 [v0, v1, v2, v3] (.int 1 :: st) u P := zr_I k268_40
theorem k268_41 : xcd 268 41 = oCalV 11 172 1 44 := rfl
theorem r268_41 : zr 268 41 [v0, v1, v2, v3] (.int y1 :: .ref b8 :: st) u P = ((xIs u b8 11 ∧ xcat st ≤ 8) ∧ zr 172 0 [.ref b8, .int y1] [] u (fun r u2 => zr 268 44 [v0, v1, v2, v3] (r.toList ++ st) u2 P)) := zr_CV k268_41 rfl rfl rfl ⟨Nat.le_of_ble_eq_true rfl, Nat.succ_ne_zero _, by decide⟩ rfl
theorem k268_44 : xcd 268 44 = oRi 0 := rfl
theorem r268_44 : zr 268 44 [v0, v1, v2, v3] [.int y1] u P = P (some (.int y1)) u := zr_Ri k268_44
theorem k268_45 : xcd 268 45 = oAl 0 46 := rfl
theorem r268_45 : zr 268 45 [.ref a0, v1, v2, v3] st u P = zr 268 46 [.ref a0, v1, v2, v3] (.ref a0 :: st) u P := zr_Al k268_45 rfl
theorem k268_46 : xcd 268 46 = oIl 3 47 := rfl
theorem r268_46 : zr 268 46 [v0, v1, v2, .int x3] st u P = zr 268 47 [v0, v1, v2, .int x3] (.int x3 :: st) u P := zr_Il k268_46 rfl
theorem k268_47 : xcd 268 47 = oI 4 48 := rfl
theorem r268_47 : zr 268 47 [v0, v1, v2, v3] st u P = zr 268 48 [v0, v1, v2, v3] (.int 4 :: st) u P := zr_I k268_47
theorem k268_48 : xcd 268 48 = oCmp (fun x y => decide (y ≤ x)) 61 51 := rfl
theorem r268_48 : zr 268 48 [v0, v1, v2, v3] (.int y1 :: .int y2 :: st) u P = (if y1 ≤ y2 then zr 268 61 [v0, v1, v2, v3] st u P else zr 268 51 [v0, v1, v2, v3] st u P) := zr_Cmp k268_48
theorem k268_51 : xcd 268 51 = oAl 0 52 := rfl
theorem r268_51 : zr 268 51 [.ref a0, v1, v2, v3] st u P = zr 268 52 [.ref a0, v1, v2, v3] (.ref a0 :: st) u P := zr_Al k268_51 rfl
theorem k268_52 : xcd 268 52 = oIl 1 53 := rfl
theorem r268_52 : zr 268 52 [v0, .int x1, v2, v3] st u P = zr 268 53 [v0, .int x1, v2, v3] (.int x1 :: st) u P := zr_Il k268_52 rfl
theorem k268_53 : xcd 268 53 = oIl 2 54 := rfl
theorem r268_53 : zr 268 53 [v0, v1, .int x2, v3] st u P = zr 268 54 [v0, v1, .int x2, v3] (.int x2 :: st) u P := zr_Il k268_53 rfl
theorem k268_54 : xcd 268 54 = oIl 3 55 := rfl
theorem r268_54 : zr 268 54 [v0, v1, v2, .int x3] st u P = zr 268 55 [v0, v1, v2, .int x3] (.int x3 :: st) u P := zr_Il k268_54 rfl
theorem k268_55 : xcd 268 55 = oCalV 11 263 3 58 := rfl
theorem r268_55 : zr 268 55 [v0, v1, v2, v3] (.int y3 :: .int y2 :: .int y1 :: .ref b8 :: st) u P = ((xIs u b8 11 ∧ xcat st ≤ 8) ∧ zr 263 0 [.ref b8, .int y1, .int y2, .int y3] [] u (fun r u2 => zr 268 58 [v0, v1, v2, v3] (r.toList ++ st) u2 P)) := zr_CV k268_55 rfl rfl rfl ⟨Nat.le_of_ble_eq_true rfl, Nat.succ_ne_zero _, by decide⟩ rfl
theorem k268_58 : xcd 268 58 = oGoto 81 := rfl
theorem r268_58 : zr 268 58 [v0, v1, v2, v3] st u P = zr 268 81 [v0, v1, v2, v3] st u P := zr_Goto k268_58
theorem k268_61 : xcd 268 61 = oIl 3 62 := rfl
theorem r268_61 : zr 268 61 [v0, v1, v2, .int x3] st u P = zr 268 62 [v0, v1, v2, .int x3] (.int x3 :: st) u P := zr_Il k268_61 rfl
theorem k268_62 : xcd 268 62 = oI 4 63 := rfl
theorem r268_62 : zr 268 62 [v0, v1, v2, v3] st u P = zr 268 63 [v0, v1, v2, v3] (.int 4 :: st) u P := zr_I k268_62
theorem k268_63 : xcd 268 63 = oCmp (fun x y => decide (¬ x = y)) 75 66 := rfl
theorem r268_63 : zr 268 63 [v0, v1, v2, v3] (.int y1 :: .int y2 :: st) u P = (if ¬ y2 = y1 then zr 268 75 [v0, v1, v2, v3] st u P else zr 268 66 [v0, v1, v2, v3] st u P) := zr_Cmp k268_63
theorem k268_66 : xcd 268 66 = oAl 0 67 := rfl
theorem r268_66 : zr 268 66 [.ref a0, v1, v2, v3] st u P = zr 268 67 [.ref a0, v1, v2, v3] (.ref a0 :: st) u P := zr_Al k268_66 rfl
theorem k268_67 : xcd 268 67 = oIl 1 68 := rfl
theorem r268_67 : zr 268 67 [v0, .int x1, v2, v3] st u P = zr 268 68 [v0, .int x1, v2, v3] (.int x1 :: st) u P := zr_Il k268_67 rfl
theorem k268_68 : xcd 268 68 = oIl 2 69 := rfl
theorem r268_68 : zr 268 68 [v0, v1, .int x2, v3] st u P = zr 268 69 [v0, v1, .int x2, v3] (.int x2 :: st) u P := zr_Il k268_68 rfl
theorem k268_69 : xcd 268 69 = oCalV 11 264 2 72 := rfl
theorem r268_69 : zr 268 69 [v0, v1, v2, v3] (.int y2 :: .int y1 :: .ref b8 :: st) u P = ((xIs u b8 11 ∧ xcat st ≤ 8) ∧ zr 264 0 [.ref b8, .int y1, .int y2] [] u (fun r u2 => zr 268 72 [v0, v1, v2, v3] (r.toList ++ st) u2 P)) := zr_CV k268_69 rfl rfl rfl ⟨Nat.le_of_ble_eq_true rfl, Nat.succ_ne_zero _, by decide⟩ rfl
theorem k268_72 : xcd 268 72 = oGoto 81 := rfl
theorem r268_72 : zr 268 72 [v0, v1, v2, v3] st u P = zr 268 81 [v0, v1, v2, v3] st u P := zr_Goto k268_72
theorem k268_75 : xcd 268 75 = oAl 0 76 := rfl
theorem r268_75 : zr 268 75 [.ref a0, v1, v2, v3] st u P = zr 268 76 [.ref a0, v1, v2, v3] (.ref a0 :: st) u P := zr_Al k268_75 rfl
theorem k268_76 : xcd 268 76 = oIl 1 77 := rfl
theorem r268_76 : zr 268 76 [v0, .int x1, v2, v3] st u P = zr 268 77 [v0, .int x1, v2, v3] (.int x1 :: st) u P := zr_Il k268_76 rfl
theorem k268_77 : xcd 268 77 = oIl 2 78 := rfl
theorem r268_77 : zr 268 77 [v0, v1, .int x2, v3] st u P = zr 268 78 [v0, v1, .int x2, v3] (.int x2 :: st) u P := zr_Il k268_77 rfl
theorem k268_78 : xcd 268 78 = oCalV 11 265 2 81 := rfl
theorem r268_78 : zr 268 78 [v0, v1, v2, v3] (.int y2 :: .int y1 :: .ref b8 :: st) u P = ((xIs u b8 11 ∧ xcat st ≤ 8) ∧ zr 265 0 [.ref b8, .int y1, .int y2] [] u (fun r u2 => zr 268 81 [v0, v1, v2, v3] (r.toList ++ st) u2 P)) := zr_CV k268_78 rfl rfl rfl ⟨Nat.le_of_ble_eq_true rfl, Nat.succ_ne_zero _, by decide⟩ rfl
theorem k268_81 : xcd 268 81 = oCalV 11 174 1 84 := rfl
theorem r268_81 : zr 268 81 [v0, v1, v2, v3] (.int y1 :: .ref b8 :: st) u P = ((xIs u b8 11 ∧ xcat st ≤ 8) ∧ zr 174 0 [.ref b8, .int y1] [] u (fun r u2 => zr 268 84 [v0, v1, v2, v3] (r.toList ++ st) u2 P)) := zr_CV k268_81 rfl rfl rfl ⟨Nat.le_of_ble_eq_true rfl, Nat.succ_ne_zero _, by decide⟩ rfl
theorem k268_84 : xcd 268 84 = oRi 0 := rfl
theorem r268_84 : zr 268 84 [v0, v1, v2, v3] [.int y1] u P = P (some (.int y1)) u := zr_Ri k268_84
theorem k269_0 : xcd 269 0 = oI 0 1 := rfl
theorem r269_0 : zr 269 0 [v0, v1, v2, v3] st u P = zr 269 1 [v0, v1, v2, v3] (.int 0 :: st) u P := zr_I k269_0
theorem k269_1 : xcd 269 1 = oIs 3 2 := rfl
theorem r269_1 : zr 269 1 [v0, v1, .int x2, v3] (.int y1 :: st) u P = zr 269 2 [v0, v1, .int x2, .int y1] st u P := zr_Is k269_1 ⟨Nat.le_of_ble_eq_true rfl, rfl⟩
theorem k269_2 : xcd 269 2 = oIl 3 3 := rfl
theorem r269_2 : zr 269 2 [v0, v1, v2, .int x3] st u P = zr 269 3 [v0, v1, v2, .int x3] (.int x3 :: st) u P := zr_Il k269_2 rfl
theorem k269_3 : xcd 269 3 = oAl 0 4 := rfl
theorem r269_3 : zr 269 3 [.ref a0, v1, v2, v3] st u P = zr 269 4 [.ref a0, v1, v2, v3] (.ref a0 :: st) u P := zr_Al k269_3 rfl
theorem k269_4 : xcd 269 4 = oGI 11 24 7 := rfl
theorem r269_4 : zr 269 4 [v0, v1, v2, v3] (.ref b1 :: st) u P = (xIs u b1 11 ∧ zr 269 7 [v0, v1, v2, v3] (.int (xI u b1 24) :: st) u P) := zr_GI k269_4
theorem k269_7 : xcd 269 7 = oCmp (fun x y => decide (y ≤ x)) 38 10 := rfl
theorem r269_7 : zr 269 7 [v0, v1, v2, v3] (.int y1 :: .int y2 :: st) u P = (if y1 ≤ y2 then zr 269 38 [v0, v1, v2, v3] st u P else zr 269 10 [v0, v1, v2, v3] st u P) := zr_Cmp k269_7
theorem k269_10 : xcd 269 10 = oAl 0 11 := rfl
theorem r269_10 : zr 269 10 [.ref a0, v1, v2, v3] st u P = zr 269 11 [.ref a0, v1, v2, v3] (.ref a0 :: st) u P := zr_Al k269_10 rfl
theorem k269_11 : xcd 269 11 = oGR 11 21 14 := rfl
theorem r269_11 : zr 269 11 [v0, v1, v2, v3] (.ref b1 :: st) u P = (xIs u b1 11 ∧ ∃ b, xR u b1 21 = some b ∧ zr 269 14 [v0, v1, v2, v3] (.ref b :: st) u P) := zr_GR k269_11
theorem k269_14 : xcd 269 14 = oIl 3 15 := rfl
theorem r269_14 : zr 269 14 [v0, v1, v2, .int x3] st u P = zr 269 15 [v0, v1, v2, .int x3] (.int x3 :: st) u P := zr_Il k269_14 rfl
theorem k269_15 : xcd 269 15 = oLd 13 16 := rfl
theorem r269_15 : zr 269 15 [v0, v1, v2, v3] (.int y1 :: .ref b1 :: st) u P = ((xIs u b1 13 ∧ xinb y1 (xN u b1)) ∧ zr 269 16 [v0, v1, v2, v3] (.int (xI u b1 (xix y1)) :: st) u P) := zr_Ld k269_15
theorem k269_16 : xcd 269 16 = oIl 1 17 := rfl
theorem r269_16 : zr 269 16 [v0, .int x1, v2, v3] st u P = zr 269 17 [v0, .int x1, v2, v3] (.int x1 :: st) u P := zr_Il k269_16 rfl
theorem k269_17 : xcd 269 17 = oCmp (fun x y => decide (¬ x = y)) 32 20 := rfl
theorem r269_17 : zr 269 17 [v0, v1, v2, v3] (.int y1 :: .int y2 :: st) u P = (if ¬ y2 = y1 then zr 269 32 [v0, v1, v2, v3] st u P else zr 269 20 [v0, v1, v2, v3] st u P) := zr_Cmp k269_17
theorem k269_20 : xcd 269 20 = oAl 0 21 := rfl
theorem r269_20 : zr 269 20 [.ref a0, v1, v2, v3] st u P = zr 269 21 [.ref a0, v1, v2, v3] (.ref a0 :: st) u P := zr_Al k269_20 rfl
theorem k269_21 : xcd 269 21 = oGR 11 22 24 := rfl
theorem r269_21 : zr 269 21 [v0, v1, v2, v3] (.ref b1 :: st) u P = (xIs u b1 11 ∧ ∃ b, xR u b1 22 = some b ∧ zr 269 24 [v0, v1, v2, v3] (.ref b :: st) u P) := zr_GR k269_21
theorem k269_24 : xcd 269 24 = oIl 3 25 := rfl
theorem r269_24 : zr 269 24 [v0, v1, v2, .int x3] st u P = zr 269 25 [v0, v1, v2, .int x3] (.int x3 :: st) u P := zr_Il k269_24 rfl
theorem k269_25 : xcd 269 25 = oLd 13 26 := rfl
theorem r269_25 : zr 269 25 [v0, v1, v2, v3] (.int y1 :: .ref b1 :: st) u P = ((xIs u b1 13 ∧ xinb y1 (xN u b1)) ∧ zr 269 26 [v0, v1, v2, v3] (.int (xI u b1 (xix y1)) :: st) u P) := zr_Ld k269_25
theorem k269_26 : xcd 269 26 = oIl 2 27 := rfl
theorem r269_26 : zr 269 26 [v0, v1, .int x2, v3] st u P = zr 269 27 [v0, v1, .int x2, v3] (.int x2 :: st) u P := zr_Il k269_26 rfl
theorem k269_27 : xcd 269 27 = oCmp (fun x y => decide (¬ x = y)) 32 30 := rfl
theorem r269_27 : zr 269 27 [v0, v1, v2, v3] (.int y1 :: .int y2 :: st) u P = (if ¬ y2 = y1 then zr 269 32 [v0, v1, v2, v3] st u P else zr 269 30 [v0, v1, v2, v3] st u P) := zr_Cmp k269_27
theorem k269_30 : xcd 269 30 = oIl 3 31 := rfl
theorem r269_30 : zr 269 30 [v0, v1, v2, .int x3] st u P = zr 269 31 [v0, v1, v2, .int x3] (.int x3 :: st) u P := zr_Il k269_30 rfl
theorem k269_31 : xcd 269 31 = oRi 0 := rfl
theorem r269_31 : zr 269 31 [v0, v1, v2, v3] [.int y1] u P = P (some (.int y1)) u := zr_Ri k269_31
theorem k269_32 : xcd 269 32 = oInc 3 1 35 := rfl
theorem r269_32 : zr 269 32 [v0, v1, .int x2, .int x3] st u P = zr 269 35 [v0, v1, .int x2, .int (x3 + 1)] st u P := zr_Inc k269_32 rfl rfl
theorem k269_35 : xcd 269 35 = oGoto 2 := rfl
theorem r269_35 : zr 269 35 [v0, v1, v2, v3] st u P = zr 269 2 [v0, v1, v2, v3] st u P := zr_Goto k269_35
theorem k269_38 : xcd 269 38 = oAl 0 39 := rfl
theorem r269_38 : zr 269 38 [.ref a0, v1, v2, v3] st u P = zr 269 39 [.ref a0, v1, v2, v3] (.ref a0 :: st) u P := zr_Al k269_38 rfl
theorem k269_39 : xcd 269 39 = oGR 11 21 42 := rfl
theorem r269_39 : zr 269 39 [v0, v1, v2, v3] (.ref b1 :: st) u P = (xIs u b1 11 ∧ ∃ b, xR u b1 21 = some b ∧ zr 269 42 [v0, v1, v2, v3] (.ref b :: st) u P) := zr_GR k269_39
theorem k269_42 : xcd 269 42 = oAl 0 43 := rfl
theorem r269_42 : zr 269 42 [.ref a0, v1, v2, v3] st u P = zr 269 43 [.ref a0, v1, v2, v3] (.ref a0 :: st) u P := zr_Al k269_42 rfl
theorem k269_43 : xcd 269 43 = oGI 11 24 46 := rfl
theorem r269_43 : zr 269 43 [v0, v1, v2, v3] (.ref b1 :: st) u P = (xIs u b1 11 ∧ zr 269 46 [v0, v1, v2, v3] (.int (xI u b1 24) :: st) u P) := zr_GI k269_43
theorem k269_46 : xcd 269 46 = oIl 1 47 := rfl
theorem r269_46 : zr 269 46 [v0, .int x1, v2, v3] st u P = zr 269 47 [v0, .int x1, v2, v3] (.int x1 :: st) u P := zr_Il k269_46 rfl
theorem k269_47 : xcd 269 47 = oSt 13 (fun x => x) 48 := rfl
theorem r269_47 : zr 269 47 [v0, v1, v2, v3] (.int y2 :: .int y1 :: .ref b1 :: st) u P = ((xIs u b1 13 ∧ xinb y1 (xN u b1)) ∧ zr 269 48 [v0, v1, v2, v3] st (xsI u b1 (xix y1) y2) P) := zr_St k269_47
theorem k269_48 : xcd 269 48 = oAl 0 49 := rfl
theorem r269_48 : zr 269 48 [.ref a0, v1, v2, v3] st u P = zr 269 49 [.ref a0, v1, v2, v3] (.ref a0 :: st) u P := zr_Al k269_48 rfl
theorem k269_49 : xcd 269 49 = oGR 11 22 52 := rfl
theorem r269_49 : zr 269 49 [v0, v1, v2, v3] (.ref b1 :: st) u P = (xIs u b1 11 ∧ ∃ b, xR u b1 22 = some b ∧ zr 269 52 [v0, v1, v2, v3] (.ref b :: st) u P) := zr_GR k269_49
theorem k269_52 : xcd 269 52 = oAl 0 53 := rfl
theorem r269_52 : zr 269 52 [.ref a0, v1, v2, v3] st u P = zr 269 53 [.ref a0, v1, v2, v3] (.ref a0 :: st) u P := zr_Al k269_52 rfl
theorem k269_53 : xcd 269 53 = oGI 11 24 56 := rfl
theorem r269_53 : zr 269 53 [v0, v1, v2, v3] (.ref b1 :: st) u P = (xIs u b1 11 ∧ zr 269 56 [v0, v1, v2, v3] (.int (xI u b1 24) :: st) u P) := zr_GI k269_53
theorem k269_56 : xcd 269 56 = oIl 2 57 := rfl
theorem r269_56 : zr 269 56 [v0, v1, .int x2, v3] st u P = zr 269 57 [v0, v1, .int x2, v3] (.int x2 :: st) u P := zr_Il k269_56 rfl
theorem k269_57 : xcd 269 57 = oSt 13 (fun x => x) 58 := rfl
theorem r269_57 : zr 269 57 [v0, v1, v2, v3] (.int y2 :: .int y1 :: .ref b1 :: st) u P = ((xIs u b1 13 ∧ xinb y1 (xN u b1)) ∧ zr 269 58 [v0, v1, v2, v3] st (xsI u b1 (xix y1) y2) P) := zr_St k269_57
theorem k269_58 : xcd 269 58 = oAl 0 59 := rfl
theorem r269_58 : zr 269 58 [.ref a0, v1, v2, v3] st u P = zr 269 59 [.ref a0, v1, v2, v3] (.ref a0 :: st) u P := zr_Al k269_58 rfl
theorem k269_59 : xcd 269 59 = oGR 11 23 62 := rfl
theorem r269_59 : zr 269 59 [v0, v1, v2, v3] (.ref b1 :: st) u P = (xIs u b1 11 ∧ ∃ b, xR u b1 23 = some b ∧ zr 269 62 [v0, v1, v2, v3] (.ref b :: st) u P) := zr_GR k269_59
theorem k269_62 : xcd 269 62 = oAl 0 63 := rfl
theorem r269_62 : zr 269 62 [.ref a0, v1, v2, v3] st u P = zr 269 63 [.ref a0, v1, v2, v3] (.ref a0 :: st) u P := zr_Al k269_62 rfl
theorem k269_63 : xcd 269 63 = oGI 11 24 66 := rfl
theorem r269_63 : zr 269 63 [v0, v1, v2, v3] (.ref b1 :: st) u P = (xIs u b1 11 ∧ zr 269 66 [v0, v1, v2, v3] (.int (xI u b1 24) :: st) u P) := zr_GI k269_63
theorem k269_66 : xcd 269 66 = oI 0 67 := rfl
theorem r269_66 : zr 269 66 [v0, v1, v2, v3] st u P = zr 269 67 [v0, v1, v2, v3] (.int 0 :: st) u P := zr_I k269_66
theorem k269_67 : xcd 269 67 = oSt 13 (fun x => x) 68 := rfl
theorem r269_67 : zr 269 67 [v0, v1, v2, v3] (.int y2 :: .int y1 :: .ref b1 :: st) u P = ((xIs u b1 13 ∧ xinb y1 (xN u b1)) ∧ zr 269 68 [v0, v1, v2, v3] st (xsI u b1 (xix y1) y2) P) := zr_St k269_67
theorem k269_68 : xcd 269 68 = oAl 0 69 := rfl
theorem r269_68 : zr 269 68 [.ref a0, v1, v2, v3] st u P = zr 269 69 [.ref a0, v1, v2, v3] (.ref a0 :: st) u P := zr_Al k269_68 rfl
theorem k269_69 : xcd 269 69 = oDup 70 := rfl
theorem r269_69 : zr 269 69 [v0, v1, v2, v3] (.ref b1 :: st) u P = zr 269 70 [v0, v1, v2, v3] (.ref b1 :: .ref b1 :: st) u P := zr_DupA k269_69
theorem k269_70 : xcd 269 70 = oGI 11 24 73 := rfl
theorem r269_70 : zr 269 70 [v0, v1, v2, v3] (.ref b1 :: st) u P = (xIs u b1 11 ∧ zr 269 73 [v0, v1, v2, v3] (.int (xI u b1 24) :: st) u P) := zr_GI k269_70
theorem k269_73 : xcd 269 73 = oI 1 74 := rfl
theorem r269_73 : zr 269 73 [v0, v1, v2, v3] st u P = zr 269 74 [v0, v1, v2, v3] (.int 1 :: st) u P := zr_I k269_73
theorem k269_74 : xcd 269 74 = oB (fun x y => x + y) 75 := rfl
theorem r269_74 : zr 269 74 [v0, v1, v2, v3] (.int y1 :: .int y2 :: st) u P = zr 269 75 [v0, v1, v2, v3] (.int (y2 + y1) :: st) u P := zr_B k269_74
theorem k269_75 : xcd 269 75 = oPI 11 24 78 := rfl
theorem r269_75 : zr 269 75 [v0, v1, v2, v3] (.int y1 :: .ref b1 :: st) u P = (xIs u b1 11 ∧ zr 269 78 [v0, v1, v2, v3] st (xsI u b1 24 y1) P) := zr_PI k269_75
theorem k269_78 : xcd 269 78 = oAl 0 79 := rfl
theorem r269_78 : zr 269 78 [.ref a0, v1, v2, v3] st u P = zr 269 79 [.ref a0, v1, v2, v3] (.ref a0 :: st) u P := zr_Al k269_78 rfl
theorem k269_79 : xcd 269 79 = oGI 11 24 82 := rfl
theorem r269_79 : zr 269 79 [v0, v1, v2, v3] (.ref b1 :: st) u P = (xIs u b1 11 ∧ zr 269 82 [v0, v1, v2, v3] (.int (xI u b1 24) :: st) u P) := zr_GI k269_79
theorem k269_82 : xcd 269 82 = oI 1 83 := rfl
theorem r269_82 : zr 269 82 [v0, v1, v2, v3] st u P = zr 269 83 [v0, v1, v2, v3] (.int 1 :: st) u P := zr_I k269_82
theorem k269_83 : xcd 269 83 = oB (fun x y => x - y) 84 := rfl
theorem r269_83 : zr 269 83 [v0, v1, v2, v3] (.int y1 :: .int y2 :: st) u P = zr 269 84 [v0, v1, v2, v3] (.int (y2 - y1) :: st) u P := zr_B k269_83
theorem k269_84 : xcd 269 84 = oRi 0 := rfl
theorem r269_84 : zr 269 84 [v0, v1, v2, v3] [.int y1] u P = P (some (.int y1)) u := zr_Ri k269_84
theorem k270_0 : xcd 270 0 = oAl 0 1 := rfl
theorem r270_0 : zr 270 0 [.ref a0, v1, v2] st u P = zr 270 1 [.ref a0, v1, v2] (.ref a0 :: st) u P := zr_Al k270_0 rfl
theorem k270_1 : xcd 270 1 = oI 0 2 := rfl
theorem r270_1 : zr 270 1 [v0, v1, v2] st u P = zr 270 2 [v0, v1, v2] (.int 0 :: st) u P := zr_I k270_1
theorem k270_2 : xcd 270 2 = oPI 11 24 5 := rfl
theorem r270_2 : zr 270 2 [v0, v1, v2] (.int y1 :: .ref b1 :: st) u P = (xIs u b1 11 ∧ zr 270 5 [v0, v1, v2] st (xsI u b1 24 y1) P) := zr_PI k270_2
theorem k270_5 : xcd 270 5 = oI 0 6 := rfl
theorem r270_5 : zr 270 5 [v0, v1, v2] st u P = zr 270 6 [v0, v1, v2] (.int 0 :: st) u P := zr_I k270_5
theorem k270_6 : xcd 270 6 = oIs 1 7 := rfl
theorem r270_6 : zr 270 6 [.ref a0, v1, v2] (.int y1 :: st) u P = zr 270 7 [.ref a0, .int y1, v2] st u P := zr_Is k270_6 ⟨Nat.le_of_ble_eq_true rfl, rfl⟩
theorem k270_7 : xcd 270 7 = oIl 1 8 := rfl
theorem r270_7 : zr 270 7 [v0, .int x1, v2] st u P = zr 270 8 [v0, .int x1, v2] (.int x1 :: st) u P := zr_Il k270_7 rfl
theorem k270_8 : xcd 270 8 = oAl 0 9 := rfl
theorem r270_8 : zr 270 8 [.ref a0, v1, v2] st u P = zr 270 9 [.ref a0, v1, v2] (.ref a0 :: st) u P := zr_Al k270_8 rfl
theorem k270_9 : xcd 270 9 = oGI 11 20 12 := rfl
theorem r270_9 : zr 270 9 [v0, v1, v2] (.ref b1 :: st) u P = (xIs u b1 11 ∧ zr 270 12 [v0, v1, v2] (.int (xI u b1 20) :: st) u P) := zr_GI k270_9
theorem k270_12 : xcd 270 12 = oCmp (fun x y => decide (y ≤ x)) 71 15 := rfl
theorem r270_12 : zr 270 12 [v0, v1, v2] (.int y1 :: .int y2 :: st) u P = (if y1 ≤ y2 then zr 270 71 [v0, v1, v2] st u P else zr 270 15 [v0, v1, v2] st u P) := zr_Cmp k270_12
theorem k270_15 : xcd 270 15 = oI 0 16 := rfl
theorem r270_15 : zr 270 15 [v0, v1, v2] st u P = zr 270 16 [v0, v1, v2] (.int 0 :: st) u P := zr_I k270_15
theorem k270_16 : xcd 270 16 = oIs 2 17 := rfl
theorem r270_16 : zr 270 16 [v0, .int x1, v2] (.int y1 :: st) u P = zr 270 17 [v0, .int x1, .int y1] st u P := zr_Is k270_16 ⟨Nat.le_of_ble_eq_true rfl, rfl⟩
theorem k270_17 : xcd 270 17 = oIl 2 18 := rfl
theorem r270_17 : zr 270 17 [v0, v1, .int x2] st u P = zr 270 18 [v0, v1, .int x2] (.int x2 :: st) u P := zr_Il k270_17 rfl
theorem k270_18 : xcd 270 18 = oAl 0 19 := rfl
theorem r270_18 : zr 270 18 [.ref a0, v1, v2] st u P = zr 270 19 [.ref a0, v1, v2] (.ref a0 :: st) u P := zr_Al k270_18 rfl
theorem k270_19 : xcd 270 19 = oIl 1 20 := rfl
theorem r270_19 : zr 270 19 [v0, .int x1, v2] st u P = zr 270 20 [v0, .int x1, v2] (.int x1 :: st) u P := zr_Il k270_19 rfl
theorem k270_20 : xcd 270 20 = oI 7 22 := rfl
theorem r270_20 : zr 270 20 [v0, v1, v2] st u P = zr 270 22 [v0, v1, v2] (.int 7 :: st) u P := zr_I k270_20
theorem k270_22 : xcd 270 22 = oCalV 11 262 2 25 := rfl
theorem r270_22 : zr 270 22 [v0, v1, v2] (.int y2 :: .int y1 :: .ref b8 :: st) u P = ((xIs u b8 11 ∧ xcat st ≤ 8) ∧ zr 262 0 [.ref b8, .int y1, .int y2] [] u (fun r u2 => zr 270 25 [v0, v1, v2] (r.toList ++ st) u2 P)) := zr_CV k270_22 rfl rfl rfl ⟨Nat.le_of_ble_eq_true rfl, Nat.succ_ne_zero _, by decide⟩ rfl
theorem k270_25 : xcd 270 25 = oCmp (fun x y => decide (y ≤ x)) 65 28 := rfl
theorem r270_25 : zr 270 25 [v0, v1, v2] (.int y1 :: .int y2 :: st) u P = (if y1 ≤ y2 then zr 270 65 [v0, v1, v2] st u P else zr 270 28 [v0, v1, v2] st u P) := zr_Cmp k270_25
theorem k270_28 : xcd 270 28 = oAl 0 29 := rfl
theorem r270_28 : zr 270 28 [.ref a0, v1, v2] st u P = zr 270 29 [.ref a0, v1, v2] (.ref a0 :: st) u P := zr_Al k270_28 rfl
theorem k270_29 : xcd 270 29 = oGR 11 23 32 := rfl
theorem r270_29 : zr 270 29 [v0, v1, v2] (.ref b1 :: st) u P = (xIs u b1 11 ∧ ∃ b, xR u b1 23 = some b ∧ zr 270 32 [v0, v1, v2] (.ref b :: st) u P) := zr_GR k270_29
theorem k270_32 : xcd 270 32 = oAl 0 33 := rfl
theorem r270_32 : zr 270 32 [.ref a0, v1, v2] st u P = zr 270 33 [.ref a0, v1, v2] (.ref a0 :: st) u P := zr_Al k270_32 rfl
theorem k270_33 : xcd 270 33 = oAl 0 34 := rfl
theorem r270_33 : zr 270 33 [.ref a0, v1, v2] st u P = zr 270 34 [.ref a0, v1, v2] (.ref a0 :: st) u P := zr_Al k270_33 rfl
theorem k270_34 : xcd 270 34 = oIl 1 35 := rfl
theorem r270_34 : zr 270 34 [v0, .int x1, v2] st u P = zr 270 35 [v0, .int x1, v2] (.int x1 :: st) u P := zr_Il k270_34 rfl
theorem k270_35 : xcd 270 35 = oIl 2 36 := rfl
theorem r270_35 : zr 270 35 [v0, v1, .int x2] st u P = zr 270 36 [v0, v1, .int x2] (.int x2 :: st) u P := zr_Il k270_35 rfl
theorem k270_36 : xcd 270 36 = oI 0 37 := rfl
theorem r270_36 : zr 270 36 [v0, v1, v2] st u P = zr 270 37 [v0, v1, v2] (.int 0 :: st) u P := zr_I k270_36
theorem k270_37 : xcd 270 37 = oCalV 11 263 3 40 := rfl
theorem r270_37 : zr 270 37 [v0, v1, v2] (.int y3 :: .int y2 :: .int y1 :: .ref b8 :: st) u P = ((xIs u b8 11 ∧ xcat st ≤ 8) ∧ zr 263 0 [.ref b8, .int y1, .int y2, .int y3] [] u (fun r u2 => zr 270 40 [v0, v1, v2] (r.toList ++ st) u2 P)) := zr_CV k270_37 rfl rfl rfl ⟨Nat.le_of_ble_eq_true rfl, Nat.succ_ne_zero _, by decide⟩ rfl
theorem k270_40 : xcd 270 40 = oAl 0 41 := rfl
theorem r270_40 : zr 270 40 [.ref a0, v1, v2] st u P = zr 270 41 [.ref a0, v1, v2] (.ref a0 :: st) u P := zr_Al k270_40 rfl
theorem k270_41 : xcd 270 41 = oIl 1 42 := rfl
theorem r270_41 : zr 270 41 [v0, .int x1, v2] st u P = zr 270 42 [v0, .int x1, v2] (.int x1 :: st) u P := zr_Il k270_41 rfl
theorem k270_42 : xcd 270 42 = oI 3 43 := rfl
theorem r270_42 : zr 270 42 [v0, v1, v2] st u P = zr 270 43 [v0, v1, v2] (.int 3 :: st) u P := zr_I k270_42
theorem k270_43 : xcd 270 43 = oCalV 11 262 2 46 := rfl
theorem r270_43 : zr 270 43 [v0, v1, v2] (.int y2 :: .int y1 :: .ref b8 :: st) u P = ((xIs u b8 11 ∧ xcat st ≤ 8) ∧ zr 262 0 [.ref b8, .int y1, .int y2] [] u (fun r u2 => zr 270 46 [v0, v1, v2] (r.toList ++ st) u2 P)) := zr_CV k270_43 rfl rfl rfl ⟨Nat.le_of_ble_eq_true rfl, Nat.succ_ne_zero _, by decide⟩ rfl
theorem k270_46 : xcd 270 46 = oCalV 11 269 2 49 := rfl
theorem r270_46 : zr 270 46 [v0, v1, v2] (.int y2 :: .int y1 :: .ref b8 :: st) u P = ((xIs u b8 11 ∧ xcat st ≤ 8) ∧ zr 269 0 [.ref b8, .int y1, .int y2, .null] [] u (fun r u2 => zr 270 49 [v0, v1, v2] (r.toList ++ st) u2 P)) := zr_CV k270_46 rfl rfl rfl ⟨Nat.le_of_ble_eq_true rfl, Nat.succ_ne_zero _, by decide⟩ rfl
theorem k270_49 : xcd 270 49 = oDup2 50 := rfl
theorem r270_49 : zr 270 49 [v0, v1, v2] (.int y1 :: .ref b1 :: st) u P = zr 270 50 [v0, v1, v2] (.int y1 :: .ref b1 :: .int y1 :: .ref b1 :: st) u P := zr_Dup2 k270_49
theorem k270_50 : xcd 270 50 = oLd 13 51 := rfl
theorem r270_50 : zr 270 50 [v0, v1, v2] (.int y1 :: .ref b1 :: st) u P = ((xIs u b1 13 ∧ xinb y1 (xN u b1)) ∧ zr 270 51 [v0, v1, v2] (.int (xI u b1 (xix y1)) :: st) u P) := zr_Ld k270_50
theorem k270_51 : xcd 270 51 = oAl 0 52 := rfl
theorem r270_51 : zr 270 51 [.ref a0, v1, v2] st u P = zr 270 52 [.ref a0, v1, v2] (.ref a0 :: st) u P := zr_Al k270_51 rfl
theorem k270_52 : xcd 270 52 = oIl 1 53 := rfl
theorem r270_52 : zr 270 52 [v0, .int x1, v2] st u P = zr 270 53 [v0, .int x1, v2] (.int x1 :: st) u P := zr_Il k270_52 rfl
theorem k270_53 : xcd 270 53 = oIl 2 54 := rfl
theorem r270_53 : zr 270 53 [v0, v1, .int x2] st u P = zr 270 54 [v0, v1, .int x2] (.int x2 :: st) u P := zr_Il k270_53 rfl
theorem k270_54 : xcd 270 54 = oCalV 11 265 2 57 := rfl
theorem r270_54 : zr 270 54 [v0, v1, v2] (.int y2 :: .int y1 :: .ref b8 :: st) u P = ((xIs u b8 11 ∧ xcat st ≤ 8) ∧ zr 265 0 [.ref b8, .int y1, .int y2] [] u (fun r u2 => zr 270 57 [v0, v1, v2] (r.toList ++ st) u2 P)) := zr_CV k270_54 rfl rfl rfl ⟨Nat.le_of_ble_eq_true rfl, Nat.succ_ne_zero _, by decide⟩ rfl
theorem k270_57 : xcd 270 57 = oB (fun x y => x + y) 58 := rfl
theorem r270_57 : zr 270 57 [v0, v1, v2] (.int y1 :: .int y2 :: st) u P = zr 270 58 [v0, v1, v2] (.int (y2 + y1) :: st) u P := zr_B k270_57
theorem k270_58 : xcd 270 58 = oSt 13 (fun x => x) 59 := rfl
theorem r270_58 : zr 270 58 [v0, v1, v2] (.int y2 :: .int y1 :: .ref b1 :: st) u P = ((xIs u b1 13 ∧ xinb y1 (xN u b1)) ∧ zr 270 59 [v0, v1, v2] st (xsI u b1 (xix y1) y2) P) := zr_St k270_58
theorem k270_59 : xcd 270 59 = oInc 2 1 62 := rfl
theorem r270_59 : zr 270 59 [v0, .int x1, .int x2] st u P = zr 270 62 [v0, .int x1, .int (x2 + 1)] st u P := zr_Inc k270_59 rfl rfl
theorem k270_62 : xcd 270 62 = oGoto 17 := rfl
theorem r270_62 : zr 270 62 [v0, v1, v2] st u P = zr 270 17 [v0, v1, v2] st u P := zr_Goto k270_62
theorem k270_65 : xcd 270 65 = oInc 1 1 68 := rfl
theorem r270_65 : zr 270 65 [.ref a0, .int x1, v2] st u P = zr 270 68 [.ref a0, .int (x1 + 1), v2] st u P := zr_Inc k270_65 rfl rfl
theorem k270_68 : xcd 270 68 = oGoto 7 := rfl
theorem r270_68 : zr 270 68 [v0, v1, v2] st u P = zr 270 7 [v0, v1, v2] st u P := zr_Goto k270_68
theorem k270_71 : xcd 270 71 = oRv 0 := rfl
theorem r270_71 : zr 270 71 [v0, v1, v2] [] u P = P none u := zr_Rv k270_71
theorem k271_0 : xcd 271 0 = oAl 0 1 := rfl
theorem r271_0 : zr 271 0 [.ref a0] st u P = zr 271 1 [.ref a0] (.ref a0 :: st) u P := zr_Al k271_0 rfl
theorem k271_1 : xcd 271 1 = oI 0 2 := rfl
theorem r271_1 : zr 271 1 [v0] st u P = zr 271 2 [v0] (.int 0 :: st) u P := zr_I k271_1
theorem k271_2 : xcd 271 2 = oPI 11 0 5 := rfl
theorem r271_2 : zr 271 2 [v0] (.int y1 :: .ref b1 :: st) u P = (xIs u b1 11 ∧ zr 271 5 [v0] st (xsI u b1 0 y1) P) := zr_PI k271_2
theorem k271_5 : xcd 271 5 = oAl 0 6 := rfl
theorem r271_5 : zr 271 5 [.ref a0] st u P = zr 271 6 [.ref a0] (.ref a0 :: st) u P := zr_Al k271_5 rfl
theorem k271_6 : xcd 271 6 = oGI 11 7 9 := rfl
theorem r271_6 : zr 271 6 [v0] (.ref b1 :: st) u P = (xIs u b1 11 ∧ zr 271 9 [v0] (.int (xI u b1 7) :: st) u P) := zr_GI k271_6
theorem k271_9 : xcd 271 9 = oIf (fun x => decide (¬ x = 0)) 18 12 := rfl
theorem r271_9 : zr 271 9 [v0] (.int y1 :: st) u P = (if ¬ y1 = 0 then zr 271 18 [v0] st u P else zr 271 12 [v0] st u P) := zr_If k271_9
theorem k271_12 : xcd 271 12 = oAl 0 13 := rfl
theorem r271_12 : zr 271 12 [.ref a0] st u P = zr 271 13 [.ref a0] (.ref a0 :: st) u P := zr_Al k271_12 rfl
theorem k271_13 : xcd 271 13 = oI 1 14 := rfl
theorem r271_13 : zr 271 13 [v0] st u P = zr 271 14 [v0] (.int 1 :: st) u P := zr_I k271_13
theorem k271_14 : xcd 271 14 = oCalV 11 172 1 17 := rfl
theorem r271_14 : zr 271 14 [v0] (.int y1 :: .ref b8 :: st) u P = ((xIs u b8 11 ∧ xcat st ≤ 8) ∧ zr 172 0 [.ref b8, .int y1] [] u (fun r u2 => zr 271 17 [v0] (r.toList ++ st) u2 P)) := zr_CV k271_14 rfl rfl rfl ⟨Nat.le_of_ble_eq_true rfl, Nat.succ_ne_zero _, by decide⟩ rfl
theorem k271_17 : xcd 271 17 = oRi 0 := rfl
theorem r271_17 : zr 271 17 [v0] [.int y1] u P = P (some (.int y1)) u := zr_Ri k271_17
theorem k271_18 : xcd 271 18 = oAl 0 19 := rfl
theorem r271_18 : zr 271 18 [.ref a0] st u P = zr 271 19 [.ref a0] (.ref a0 :: st) u P := zr_Al k271_18 rfl
theorem k271_19 : xcd 271 19 = oCalV 11 270 0 22 := rfl
theorem r271_19 : zr 271 19 [v0] (.ref b8 :: st) u P = ((xIs u b8 11 ∧ xcat st ≤ 8) ∧ zr 270 0 [.ref b8, .null, .null] [] u (fun r u2 => zr 271 22 [v0] (r.toList ++ st) u2 P)) := zr_CV k271_19 rfl rfl rfl ⟨Nat.le_of_ble_eq_true rfl, Nat.succ_ne_zero _, by decide⟩ rfl
theorem k271_22 : xcd 271 22 = oAl 0 23 := rfl
theorem r271_22 : zr 271 22 [.ref a0] st u P = zr 271 23 [.ref a0] (.ref a0 :: st) u P := zr_Al k271_22 rfl
theorem k271_23 : xcd 271 23 = oAl 0 24 := rfl
theorem r271_23 : zr 271 23 [.ref a0] st u P = zr 271 24 [.ref a0] (.ref a0 :: st) u P := zr_Al k271_23 rfl
theorem k271_24 : xcd 271 24 = oGI 11 24 27 := rfl
theorem r271_24 : zr 271 24 [v0] (.ref b1 :: st) u P = (xIs u b1 11 ∧ zr 271 27 [v0] (.int (xI u b1 24) :: st) u P) := zr_GI k271_24
theorem k271_27 : xcd 271 27 = oCalV 11 174 1 30 := rfl
theorem r271_27 : zr 271 27 [v0] (.int y1 :: .ref b8 :: st) u P = ((xIs u b8 11 ∧ xcat st ≤ 8) ∧ zr 174 0 [.ref b8, .int y1] [] u (fun r u2 => zr 271 30 [v0] (r.toList ++ st) u2 P)) := zr_CV k271_27 rfl rfl rfl ⟨Nat.le_of_ble_eq_true rfl, Nat.succ_ne_zero _, by decide⟩ rfl
theorem k271_30 : xcd 271 30 = oRi 0 := rfl
theorem r271_30 : zr 271 30 [v0] [.int y1] u P = P (some (.int y1)) u := zr_Ri k271_30
theorem k272_0 : xcd 272 0 = oAl 0 1 := rfl
theorem r272_0 : zr 272 0 [.ref a0, v1, v2] st u P = zr 272 1 [.ref a0, v1, v2] (.ref a0 :: st) u P := zr_Al k272_0 rfl
theorem k272_1 : xcd 272 1 = oI 0 2 := rfl
theorem r272_1 : zr 272 1 [v0, v1, v2] st u P = zr 272 2 [v0, v1, v2] (.int 0 :: st) u P := zr_I k272_1
theorem k272_2 : xcd 272 2 = oPI 11 0 5 := rfl
theorem r272_2 : zr 272 2 [v0, v1, v2] (.int y1 :: .ref b1 :: st) u P = (xIs u b1 11 ∧ zr 272 5 [v0, v1, v2] st (xsI u b1 0 y1) P) := zr_PI k272_2
theorem k272_5 : xcd 272 5 = oAl 0 6 := rfl
theorem r272_5 : zr 272 5 [.ref a0, v1, v2] st u P = zr 272 6 [.ref a0, v1, v2] (.ref a0 :: st) u P := zr_Al k272_5 rfl
theorem k272_6 : xcd 272 6 = oGI 11 7 9 := rfl
theorem r272_6 : zr 272 6 [v0, v1, v2] (.ref b1 :: st) u P = (xIs u b1 11 ∧ zr 272 9 [v0, v1, v2] (.int (xI u b1 7) :: st) u P) := zr_GI k272_6
theorem k272_9 : xcd 272 9 = oIf (fun x => decide (x = 0)) 21 12 := rfl
theorem r272_9 : zr 272 9 [v0, v1, v2] (.int y1 :: st) u P = (if y1 = 0 then zr 272 21 [v0, v1, v2] st u P else zr 272 12 [v0, v1, v2] st u P) := zr_If k272_9
theorem k272_12 : xcd 272 12 = oIl 2 13 := rfl
theorem r272_12 : zr 272 12 [v0, v1, .int x2] st u P = zr 272 13 [v0, v1, .int x2] (.int x2 :: st) u P := zr_Il k272_12 rfl
theorem k272_13 : xcd 272 13 = oI 0 14 := rfl
theorem r272_13 : zr 272 13 [v0, v1, v2] st u P = zr 272 14 [v0, v1, v2] (.int 0 :: st) u P := zr_I k272_13
theorem k272_14 : xcd 272 14 = oI 2 15 := rfl
theorem r272_14 : zr 272 14 [v0, v1, v2] st u P = zr 272 15 [v0, v1, v2] (.int 2 :: st) u P := zr_I k272_14
theorem k272_15 : xcd 272 15 = oCal 175 3 18 := rfl
theorem r272_15 : zr 272 15 [v0, v1, v2] (.int y3 :: .int y2 :: .int y1 :: st) u P = (xcat st ≤ 8 ∧ zr 175 0 [.int y1, .int y2, .int y3] [] u (fun r u2 => zr 272 18 [v0, v1, v2] (r.toList ++ st) u2 P)) := zr_CS k272_15 (Nat.le_add_left _ _) rfl rfl ⟨Nat.le_of_ble_eq_true rfl, Nat.succ_ne_zero _, by decide⟩ rfl
theorem k272_18 : xcd 272 18 = oIf (fun x => decide (¬ x = 0)) 27 21 := rfl
theorem r272_18 : zr 272 18 [v0, v1, v2] (.int y1 :: st) u P = (if ¬ y1 = 0 then zr 272 27 [v0, v1, v2] st u P else zr 272 21 [v0, v1, v2] st u P) := zr_If k272_18
theorem k272_21 : xcd 272 21 = oAl 0 22 := rfl
theorem r272_21 : zr 272 21 [.ref a0, v1, v2] st u P = zr 272 22 [.ref a0, v1, v2] (.ref a0 :: st) u P := zr_Al k272_21 rfl
theorem k272_22 : xcd 272 22 = oI 1 23 := rfl
theorem r272_22 : zr 272 22 [v0, v1, v2] st u P = zr 272 23 [v0, v1, v2] (.int 1 :: st) u P := zr_I k272_22
theorem k272_23 : xcd 272 23 = oCalV 11 172 1 26 := rfl
theorem r272_23 : zr 272 23 [v0, v1, v2] (.int y1 :: .ref b8 :: st) u P = ((xIs u b8 11 ∧ xcat st ≤ 8) ∧ zr 172 0 [.ref b8, .int y1] [] u (fun r u2 => zr 272 26 [v0, v1, v2] (r.toList ++ st) u2 P)) := zr_CV k272_23 rfl rfl rfl ⟨Nat.le_of_ble_eq_true rfl, Nat.succ_ne_zero _, by decide⟩ rfl
theorem k272_26 : xcd 272 26 = oRi 0 := rfl
theorem r272_26 : zr 272 26 [v0, v1, v2] [.int y1] u P = P (some (.int y1)) u := zr_Ri k272_26
theorem k272_27 : xcd 272 27 = oAl 0 28 := rfl
theorem r272_27 : zr 272 27 [.ref a0, v1, v2] st u P = zr 272 28 [.ref a0, v1, v2] (.ref a0 :: st) u P := zr_Al k272_27 rfl
theorem k272_28 : xcd 272 28 = oCalV 11 270 0 31 := rfl
theorem r272_28 : zr 272 28 [v0, v1, v2] (.ref b8 :: st) u P = ((xIs u b8 11 ∧ xcat st ≤ 8) ∧ zr 270 0 [.ref b8, .null, .null] [] u (fun r u2 => zr 272 31 [v0, v1, v2] (r.toList ++ st) u2 P)) := zr_CV k272_28 rfl rfl rfl ⟨Nat.le_of_ble_eq_true rfl, Nat.succ_ne_zero _, by decide⟩ rfl
theorem k272_31 : xcd 272 31 = oIl 1 32 := rfl
theorem r272_31 : zr 272 31 [v0, .int x1, v2] st u P = zr 272 32 [v0, .int x1, v2] (.int x1 :: st) u P := zr_Il k272_31 rfl
theorem k272_32 : xcd 272 32 = oI 0 33 := rfl
theorem r272_32 : zr 272 32 [v0, v1, v2] st u P = zr 272 33 [v0, v1, v2] (.int 0 :: st) u P := zr_I k272_32
theorem k272_33 : xcd 272 33 = oAl 0 34 := rfl
theorem r272_33 : zr 272 33 [.ref a0, v1, v2] st u P = zr 272 34 [.ref a0, v1, v2] (.ref a0 :: st) u P := zr_Al k272_33 rfl
theorem k272_34 : xcd 272 34 = oGI 11 24 37 := rfl
theorem r272_34 : zr 272 34 [v0, v1, v2] (.ref b1 :: st) u P = (xIs u b1 11 ∧ zr 272 37 [v0, v1, v2] (.int (xI u b1 24) :: st) u P) := zr_GI k272_34
theorem k272_37 : xcd 272 37 = oI 1 38 := rfl
theorem r272_37 : zr 272 37 [v0, v1, v2] st u P = zr 272 38 [v0, v1, v2] (.int 1 :: st) u P := zr_I k272_37
theorem k272_38 : xcd 272 38 = oB (fun x y => x - y) 39 := rfl
theorem r272_38 : zr 272 38 [v0, v1, v2] (.int y1 :: .int y2 :: st) u P = zr 272 39 [v0, v1, v2] (.int (y2 - y1) :: st) u P := zr_B k272_38
theorem k272_39 : xcd 272 39 = oCal 175 3 42 := rfl
theorem r272_39 : zr 272 39 [v0, v1, v2] (.int y3 :: .int y2 :: .int y1 :: st) u P = (xcat st ≤ 8 ∧ zr 175 0 [.int y1, .int y2, .int y3] [] u (fun r u2 => zr 272 42 [v0, v1, v2] (r.toList ++ st) u2 P)) := zr_CS k272_39 (Nat.le_add_left _ _) rfl rfl ⟨Nat.le_of_ble_eq_true rfl, Nat.succ_ne_zero _, by decide⟩ rfl
theorem k272_42 : xcd 272 42 = oIf (fun x => decide (¬ x = 0)) 51 45 := rfl
theorem r272_42 : zr 272 42 [v0, v1, v2] (.int y1 :: st) u P = (if ¬ y1 = 0 then zr 272 51 [v0, v1, v2] st u P else zr 272 45 [v0, v1, v2] st u P) := zr_If k272_42
theorem k272_45 : xcd 272 45 = oAl 0 46 := rfl
theorem r272_45 : zr 272 45 [.ref a0, v1, v2] st u P = zr 272 46 [.ref a0, v1, v2] (.ref a0 :: st) u P := zr_Al k272_45 rfl
theorem k272_46 : xcd 272 46 = oI 1 47 := rfl
theorem r272_46 : zr 272 46 [v0, v1, v2] st u P = zr 272 47 [v0, v1, v2] (.int 1 :: st) u P := zr_I k272_46
theorem k272_47 : xcd 272 47 = oCalV 11 172 1 50 := rfl
theorem r272_47 : zr 272 47 [v0, v1, v2] (.int y1 :: .ref b8 :: st) u P = ((xIs u b8 11 ∧ xcat st ≤ 8) ∧ zr 172 0 [.ref b8, .int y1] [] u (fun r u2 => zr 272 50 [v0, v1, v2] (r.toList ++ st) u2 P)) := zr_CV k272_47 rfl rfl rfl ⟨Nat.le_of_ble_eq_true rfl, Nat.succ_ne_zero _, by decide⟩ rfl
theorem k272_50 : xcd 272 50 = oRi 0 := rfl
theorem r272_50 : zr 272 50 [v0, v1, v2] [.int y1] u P = P (some (.int y1)) u := zr_Ri k272_50
theorem k272_51 : xcd 272 51 = oAl 0 52 := rfl
theorem r272_51 : zr 272 51 [.ref a0, v1, v2] st u P = zr 272 52 [.ref a0, v1, v2] (.ref a0 :: st) u P := zr_Al k272_51 rfl
theorem k272_52 : xcd 272 52 = oIl 2 53 := rfl
theorem r272_52 : zr 272 52 [v0, v1, .int x2] st u P = zr 272 53 [v0, v1, .int x2] (.int x2 :: st) u P := zr_Il k272_52 rfl
theorem k272_53 : xcd 272 53 = oIf (fun x => decide (¬ x = 0)) 65 56 := rfl
theorem r272_53 : zr 272 53 [v0, v1, v2] (.int y1 :: st) u P = (if ¬ y1 = 0 then zr 272 65 [v0, v1, v2] st u P else zr 272 56 [v0, v1, v2] st u P) := zr_If k272_53
theorem k272_56 : xcd 272 56 = oAl 0 57 := rfl
theorem r272_56 : zr 272 56 [.ref a0, v1, v2] st u P = zr 272 57 [.ref a0, v1, v2] (.ref a0 :: st) u P := zr_Al k272_56 rfl
theorem k272_57 : xcd 272 57 = oGR 11 21 60 := rfl
theorem r272_57 : zr 272 57 [v0, v1, v2] (.ref b1 :: st) u P = (xIs u b1 11 ∧ ∃ b, xR u b1 21 = some b ∧ zr 272 60 [v0, v1, v2] (.ref b :: st) u P) := zr_GR k272_57
theorem k272_60 : xcd 272 60 = oIl 1 61 := rfl
theorem r272_60 : zr 272 60 [v0, .int x1, v2] st u P = zr 272 61 [v0, .int x1, v2] (.int x1 :: st) u P := zr_Il k272_60 rfl
theorem k272_61 : xcd 272 61 = oLd 13 62 := rfl
theorem r272_61 : zr 272 61 [v0, v1, v2] (.int y1 :: .ref b1 :: st) u P = ((xIs u b1 13 ∧ xinb y1 (xN u b1)) ∧ zr 272 62 [v0, v1, v2] (.int (xI u b1 (xix y1)) :: st) u P) := zr_Ld k272_61
theorem k272_62 : xcd 272 62 = oGoto 85 := rfl
theorem r272_62 : zr 272 62 [v0, v1, v2] st u P = zr 272 85 [v0, v1, v2] st u P := zr_Goto k272_62
theorem k272_65 : xcd 272 65 = oIl 2 66 := rfl
theorem r272_65 : zr 272 65 [v0, v1, .int x2] st u P = zr 272 66 [v0, v1, .int x2] (.int x2 :: st) u P := zr_Il k272_65 rfl
theorem k272_66 : xcd 272 66 = oI 1 67 := rfl
theorem r272_66 : zr 272 66 [v0, v1, v2] st u P = zr 272 67 [v0, v1, v2] (.int 1 :: st) u P := zr_I k272_66
theorem k272_67 : xcd 272 67 = oCmp (fun x y => decide (¬ x = y)) 79 70 := rfl
theorem r272_67 : zr 272 67 [v0, v1, v2] (.int y1 :: .int y2 :: st) u P = (if ¬ y2 = y1 then zr 272 79 [v0, v1, v2] st u P else zr 272 70 [v0, v1, v2] st u P) := zr_Cmp k272_67
theorem k272_70 : xcd 272 70 = oAl 0 71 := rfl
theorem r272_70 : zr 272 70 [.ref a0, v1, v2] st u P = zr 272 71 [.ref a0, v1, v2] (.ref a0 :: st) u P := zr_Al k272_70 rfl
theorem k272_71 : xcd 272 71 = oGR 11 22 74 := rfl
theorem r272_71 : zr 272 71 [v0, v1, v2] (.ref b1 :: st) u P = (xIs u b1 11 ∧ ∃ b, xR u b1 22 = some b ∧ zr 272 74 [v0, v1, v2] (.ref b :: st) u P) := zr_GR k272_71
theorem k272_74 : xcd 272 74 = oIl 1 75 := rfl
theorem r272_74 : zr 272 74 [v0, .int x1, v2] st u P = zr 272 75 [v0, .int x1, v2] (.int x1 :: st) u P := zr_Il k272_74 rfl
theorem k272_75 : xcd 272 75 = oLd 13 76 := rfl
theorem r272_75 : zr 272 75 [v0, v1, v2] (.int y1 :: .ref b1 :: st) u P = ((xIs u b1 13 ∧ xinb y1 (xN u b1)) ∧ zr 272 76 [v0, v1, v2] (.int (xI u b1 (xix y1)) :: st) u P) := zr_Ld k272_75
theorem k272_76 : xcd 272 76 = oGoto 85 := rfl
theorem r272_76 : zr 272 76 [v0, v1, v2] st u P = zr 272 85 [v0, v1, v2] st u P := zr_Goto k272_76
theorem k272_79 : xcd 272 79 = oAl 0 80 := rfl
theorem r272_79 : zr 272 79 [.ref a0, v1, v2] st u P = zr 272 80 [.ref a0, v1, v2] (.ref a0 :: st) u P := zr_Al k272_79 rfl
theorem k272_80 : xcd 272 80 = oGR 11 23 83 := rfl
theorem r272_80 : zr 272 80 [v0, v1, v2] (.ref b1 :: st) u P = (xIs u b1 11 ∧ ∃ b, xR u b1 23 = some b ∧ zr 272 83 [v0, v1, v2] (.ref b :: st) u P) := zr_GR k272_80
theorem k272_83 : xcd 272 83 = oIl 1 84 := rfl
theorem r272_83 : zr 272 83 [v0, .int x1, v2] st u P = zr 272 84 [v0, .int x1, v2] (.int x1 :: st) u P := zr_Il k272_83 rfl
theorem k272_84 : xcd 272 84 = oLd 13 85 := rfl
theorem r272_84 : zr 272 84 [v0, v1, v2] (.int y1 :: .ref b1 :: st) u P = ((xIs u b1 13 ∧ xinb y1 (xN u b1)) ∧ zr 272 85 [v0, v1, v2] (.int (xI u b1 (xix y1)) :: st) u P) := zr_Ld k272_84
theorem k272_85 : xcd 272 85 = oCalV 11 174 1 88 := rfl
theorem r272_85 : zr 272 85 [v0, v1, v2] (.int y1 :: .ref b8 :: st) u P = ((xIs u b8 11 ∧ xcat st ≤ 8) ∧ zr 174 0 [.ref b8, .int y1] [] u (fun r u2 => zr 272 88 [v0, v1, v2] (r.toList ++ st) u2 P)) := zr_CV k272_85 rfl rfl rfl ⟨Nat.le_of_ble_eq_true rfl, Nat.succ_ne_zero _, by decide⟩ rfl
theorem k272_88 : xcd 272 88 = oRi 0 := rfl
theorem r272_88 : zr 272 88 [v0, v1, v2] [.int y1] u P = P (some (.int y1)) u := zr_Ri k272_88
theorem k273_0 : xcd 273 0 = oAl 0 1 := rfl
theorem r273_0 : zr 273 0 [.ref a0, v1, v2, v3, v4] st u P = zr 273 1 [.ref a0, v1, v2, v3, v4] (.ref a0 :: st) u P := zr_Al k273_0 rfl
theorem k273_1 : xcd 273 1 = oI 0 2 := rfl
theorem r273_1 : zr 273 1 [v0, v1, v2, v3, v4] st u P = zr 273 2 [v0, v1, v2, v3, v4] (.int 0 :: st) u P := zr_I k273_1
theorem k273_2 : xcd 273 2 = oPI 11 0 5 := rfl
theorem r273_2 : zr 273 2 [v0, v1, v2, v3, v4] (.int y1 :: .ref b1 :: st) u P = (xIs u b1 11 ∧ zr 273 5 [v0, v1, v2, v3, v4] st (xsI u b1 0 y1) P) := zr_PI k273_2
theorem k273_5 : xcd 273 5 = oAl 0 6 := rfl
theorem r273_5 : zr 273 5 [.ref a0, v1, v2, v3, v4] st u P = zr 273 6 [.ref a0, v1, v2, v3, v4] (.ref a0 :: st) u P := zr_Al k273_5 rfl
theorem k273_6 : xcd 273 6 = oGI 11 7 9 := rfl
theorem r273_6 : zr 273 6 [v0, v1, v2, v3, v4] (.ref b1 :: st) u P = (xIs u b1 11 ∧ zr 273 9 [v0, v1, v2, v3, v4] (.int (xI u b1 7) :: st) u P) := zr_GI k273_6
theorem k273_9 : xcd 273 9 = oIf (fun x => decide (x = 0)) 38 12 := rfl
theorem r273_9 : zr 273 9 [v0, v1, v2, v3, v4] (.int y1 :: st) u P = (if y1 = 0 then zr 273 38 [v0, v1, v2, v3, v4] st u P else zr 273 12 [v0, v1, v2, v3, v4] st u P) := zr_If k273_9
theorem k273_12 : xcd 273 12 = oIl 1 13 := rfl
theorem r273_12 : zr 273 12 [v0, .int x1, v2, v3, v4] st u P = zr 273 13 [v0, .int x1, v2, v3, v4] (.int x1 :: st) u P := zr_Il k273_12 rfl
theorem k273_13 : xcd 273 13 = oI (-1) 14 := rfl
theorem r273_13 : zr 273 13 [v0, v1, v2, v3, v4] st u P = zr 273 14 [v0, v1, v2, v3, v4] (.int (-1) :: st) u P := zr_I k273_13
theorem k273_14 : xcd 273 14 = oCmp (fun x y => decide (x = y)) 25 17 := rfl
theorem r273_14 : zr 273 14 [v0, v1, v2, v3, v4] (.int y1 :: .int y2 :: st) u P = (if y2 = y1 then zr 273 25 [v0, v1, v2, v3, v4] st u P else zr 273 17 [v0, v1, v2, v3, v4] st u P) := zr_Cmp k273_14
theorem k273_17 : xcd 273 17 = oAl 0 18 := rfl
theorem r273_17 : zr 273 17 [.ref a0, v1, v2, v3, v4] st u P = zr 273 18 [.ref a0, v1, v2, v3, v4] (.ref a0 :: st) u P := zr_Al k273_17 rfl
theorem k273_18 : xcd 273 18 = oIl 1 19 := rfl
theorem r273_18 : zr 273 18 [v0, .int x1, v2, v3, v4] st u P = zr 273 19 [v0, .int x1, v2, v3, v4] (.int x1 :: st) u P := zr_Il k273_18 rfl
theorem k273_19 : xcd 273 19 = oCalV 11 214 1 22 := rfl
theorem r273_19 : zr 273 19 [v0, v1, v2, v3, v4] (.int y1 :: .ref b8 :: st) u P = ((xIs u b8 11 ∧ xcat st ≤ 8) ∧ zr 214 0 [.ref b8, .int y1] [] u (fun r u2 => zr 273 22 [v0, v1, v2, v3, v4] (r.toList ++ st) u2 P)) := zr_CV k273_19 rfl rfl rfl ⟨Nat.le_of_ble_eq_true rfl, Nat.succ_ne_zero _, by decide⟩ rfl
theorem k273_22 : xcd 273 22 = oIf (fun x => decide (x = 0)) 38 25 := rfl
theorem r273_22 : zr 273 22 [v0, v1, v2, v3, v4] (.int y1 :: st) u P = (if y1 = 0 then zr 273 38 [v0, v1, v2, v3, v4] st u P else zr 273 25 [v0, v1, v2, v3, v4] st u P) := zr_If k273_22
theorem k273_25 : xcd 273 25 = oIl 2 26 := rfl
theorem r273_25 : zr 273 25 [v0, v1, .int x2, v3, v4] st u P = zr 273 26 [v0, v1, .int x2, v3, v4] (.int x2 :: st) u P := zr_Il k273_25 rfl
theorem k273_26 : xcd 273 26 = oI (-1) 27 := rfl
theorem r273_26 : zr 273 26 [v0, v1, v2, v3, v4] st u P = zr 273 27 [v0, v1, v2, v3, v4] (.int (-1) :: st) u P := zr_I k273_26
theorem k273_27 : xcd 273 27 = oCmp (fun x y => decide (x = y)) 44 30 := rfl
theorem r273_27 : zr 273 27 [v0, v1, v2, v3, v4] (.int y1 :: .int y2 :: st) u P = (if y2 = y1 then zr 273 44 [v0, v1, v2, v3, v4] st u P else zr 273 30 [v0, v1, v2, v3, v4] st u P) := zr_Cmp k273_27
theorem k273_30 : xcd 273 30 = oAl 0 31 := rfl
theorem r273_30 : zr 273 30 [.ref a0, v1, v2, v3, v4] st u P = zr 273 31 [.ref a0, v1, v2, v3, v4] (.ref a0 :: st) u P := zr_Al k273_30 rfl
theorem k273_31 : xcd 273 31 = oIl 2 32 := rfl
theorem r273_31 : zr 273 31 [v0, v1, .int x2, v3, v4] st u P = zr 273 32 [v0, v1, .int x2, v3, v4] (.int x2 :: st) u P := zr_Il k273_31 rfl
theorem k273_32 : xcd 273 32 = oCalV 11 213 1 35 := rfl
theorem r273_32 : zr 273 32 [v0, v1, v2, v3, v4] (.int y1 :: .ref b8 :: st) u P = ((xIs u b8 11 ∧ xcat st ≤ 8) ∧ zr 213 0 [.ref b8, .int y1] [] u (fun r u2 => zr 273 35 [v0, v1, v2, v3, v4] (r.toList ++ st) u2 P)) := zr_CV k273_32 rfl rfl rfl ⟨Nat.le_of_ble_eq_true rfl, Nat.succ_ne_zero _, by decide⟩ rfl
theorem k273_35 : xcd 273 35 = oIf (fun x => decide (¬ x = 0)) 44 38 := rfl
theorem r273_35 : zr 273 35 [v0, v1, v2, v3, v4] (.int y1 :: st) u P = (if ¬ y1 = 0 then zr 273 44 [v0, v1, v2, v3, v4] st u P else zr 273 38 [v0, v1, v2, v3, v4] st u P) := zr_If k273_35
theorem k273_38 : xcd 273 38 = oAl 0 39 := rfl
theorem r273_38 : zr 273 38 [.ref a0, v1, v2, v3, v4] st u P = zr 273 39 [.ref a0, v1, v2, v3, v4] (.ref a0 :: st) u P := zr_Al k273_38 rfl
theorem k273_39 : xcd 273 39 = oI 1 40 := rfl
theorem r273_39 : zr 273 39 [v0, v1, v2, v3, v4] st u P = zr 273 40 [v0, v1, v2, v3, v4] (.int 1 :: st) u P := zr_I k273_39
theorem k273_40 : xcd 273 40 = oCalV 11 172 1 43 := rfl
theorem r273_40 : zr 273 40 [v0, v1, v2, v3, v4] (.int y1 :: .ref b8 :: st) u P = ((xIs u b8 11 ∧ xcat st ≤ 8) ∧ zr 172 0 [.ref b8, .int y1] [] u (fun r u2 => zr 273 43 [v0, v1, v2, v3, v4] (r.toList ++ st) u2 P)) := zr_CV k273_40 rfl rfl rfl ⟨Nat.le_of_ble_eq_true rfl, Nat.succ_ne_zero _, by decide⟩ rfl
theorem k273_43 : xcd 273 43 = oRi 0 := rfl
theorem r273_43 : zr 273 43 [v0, v1, v2, v3, v4] [.int y1] u P = P (some (.int y1)) u := zr_Ri k273_43
theorem k273_44 : xcd 273 44 = oAl 0 45 := rfl
theorem r273_44 : zr 273 44 [.ref a0, v1, v2, v3, v4] st u P = zr 273 45 [.ref a0, v1, v2, v3, v4] (.ref a0 :: st) u P := zr_Al k273_44 rfl
theorem k273_45 : xcd 273 45 = oCalV 11 270 0 48 := rfl
theorem r273_45 : zr 273 45 [v0, v1, v2, v3, v4] (.ref b8 :: st) u P = ((xIs u b8 11 ∧ xcat st ≤ 8) ∧ zr 270 0 [.ref b8, .null, .null] [] u (fun r u2 => zr 273 48 [v0, v1, v2, v3, v4] (r.toList ++ st) u2 P)) := zr_CV k273_45 rfl rfl rfl ⟨Nat.le_of_ble_eq_true rfl, Nat.succ_ne_zero _, by decide⟩ rfl
theorem k273_48 : xcd 273 48 = oI 0 49 := rfl
theorem r273_48 : zr 273 48 [v0, v1, v2, v3, v4] st u P = zr 273 49 [v0, v1, v2, v3, v4] (.int 0 :: st) u P := zr_I k273_48
theorem k273_49 : xcd 273 49 = oIs 3 50 := rfl
theorem r273_49 : zr 273 49 [v0, v1, .int x2, v3, v4] (.int y1 :: st) u P = zr 273 50 [v0, v1, .int x2, .int y1, v4] st u P := zr_Is k273_49 ⟨Nat.le_of_ble_eq_true rfl, rfl⟩
theorem k273_50 : xcd 273 50 = oI 0 51 := rfl
theorem r273_50 : zr 273 50 [v0, v1, v2, v3, v4] st u P = zr 273 51 [v0, v1, v2, v3, v4] (.int 0 :: st) u P := zr_I k273_50
theorem k273_51 : xcd 273 51 = oIs 4 53 := rfl
theorem r273_51 : zr 273 51 [v0, v1, v2, .int x3, v4] (.int y1 :: st) u P = zr 273 53 [v0, v1, v2, .int x3, .int y1] st u P := zr_Is k273_51 ⟨Nat.le_of_ble_eq_true rfl, rfl⟩
theorem k273_53 : xcd 273 53 = oIl 4 55 := rfl
theorem r273_53 : zr 273 53 [v0, v1, v2, v3, .int x4] st u P = zr 273 55 [v0, v1, v2, v3, .int x4] (.int x4 :: st) u P := zr_Il k273_53 rfl
theorem k273_55 : xcd 273 55 = oAl 0 56 := rfl
theorem r273_55 : zr 273 55 [.ref a0, v1, v2, v3, v4] st u P = zr 273 56 [.ref a0, v1, v2, v3, v4] (.ref a0 :: st) u P := zr_Al k273_55 rfl
theorem k273_56 : xcd 273 56 = oGI 11 24 59 := rfl
theorem r273_56 : zr 273 56 [v0, v1, v2, v3, v4] (.ref b1 :: st) u P = (xIs u b1 11 ∧ zr 273 59 [v0, v1, v2, v3, v4] (.int (xI u b1 24) :: st) u P) := zr_GI k273_56
theorem k273_59 : xcd 273 59 = oCmp (fun x y => decide (y ≤ x)) 114 62 := rfl
theorem r273_59 : zr 273 59 [v0, v1, v2, v3, v4] (.int y1 :: .int y2 :: st) u P = (if y1 ≤ y2 then zr 273 114 [v0, v1, v2, v3, v4] st u P else zr 273 62 [v0, v1, v2, v3, v4] st u P) := zr_Cmp k273_59
theorem k273_62 : xcd 273 62 = oIl 3 63 := rfl
theorem r273_62 : zr 273 62 [v0, v1, v2, .int x3, v4] st u P = zr 273 63 [v0, v1, v2, .int x3, v4] (.int x3 :: st) u P := zr_Il k273_62 rfl
theorem k273_63 : xcd 273 63 = oIl 1 64 := rfl
theorem r273_63 : zr 273 63 [v0, .int x1, v2, v3, v4] st u P = zr 273 64 [v0, .int x1, v2, v3, v4] (.int x1 :: st) u P := zr_Il k273_63 rfl
theorem k273_64 : xcd 273 64 = oI (-1) 65 := rfl
theorem r273_64 : zr 273 64 [v0, v1, v2, v3, v4] st u P = zr 273 65 [v0, v1, v2, v3, v4] (.int (-1) :: st) u P := zr_I k273_64
theorem k273_65 : xcd 273 65 = oCmp (fun x y => decide (x = y)) 79 68 := rfl
theorem r273_65 : zr 273 65 [v0, v1, v2, v3, v4] (.int y1 :: .int y2 :: st) u P = (if y2 = y1 then zr 273 79 [v0, v1, v2, v3, v4] st u P else zr 273 68 [v0, v1, v2, v3, v4] st u P) := zr_Cmp k273_65
theorem k273_68 : xcd 273 68 = oAl 0 69 := rfl
theorem r273_68 : zr 273 68 [.ref a0, v1, v2, v3, v4] st u P = zr 273 69 [.ref a0, v1, v2, v3, v4] (.ref a0 :: st) u P := zr_Al k273_68 rfl
theorem k273_69 : xcd 273 69 = oGR 11 21 72 := rfl
theorem r273_69 : zr 273 69 [v0, v1, v2, v3, v4] (.ref b1 :: st) u P = (xIs u b1 11 ∧ ∃ b, xR u b1 21 = some b ∧ zr 273 72 [v0, v1, v2, v3, v4] (.ref b :: st) u P) := zr_GR k273_69
theorem k273_72 : xcd 273 72 = oIl 4 74 := rfl
theorem r273_72 : zr 273 72 [v0, v1, v2, v3, .int x4] st u P = zr 273 74 [v0, v1, v2, v3, .int x4] (.int x4 :: st) u P := zr_Il k273_72 rfl
theorem k273_74 : xcd 273 74 = oLd 13 75 := rfl
theorem r273_74 : zr 273 74 [v0, v1, v2, v3, v4] (.int y1 :: .ref b1 :: st) u P = ((xIs u b1 13 ∧ xinb y1 (xN u b1)) ∧ zr 273 75 [v0, v1, v2, v3, v4] (.int (xI u b1 (xix y1)) :: st) u P) := zr_Ld k273_74
theorem k273_75 : xcd 273 75 = oIl 1 76 := rfl
theorem r273_75 : zr 273 75 [v0, .int x1, v2, v3, v4] st u P = zr 273 76 [v0, .int x1, v2, v3, v4] (.int x1 :: st) u P := zr_Il k273_75 rfl
theorem k273_76 : xcd 273 76 = oCmp (fun x y => decide (¬ x = y)) 105 79 := rfl
theorem r273_76 : zr 273 76 [v0, v1, v2, v3, v4] (.int y1 :: .int y2 :: st) u P = (if ¬ y2 = y1 then zr 273 105 [v0, v1, v2, v3, v4] st u P else zr 273 79 [v0, v1, v2, v3, v4] st u P) := zr_Cmp k273_76
theorem k273_79 : xcd 273 79 = oIl 2 80 := rfl
theorem r273_79 : zr 273 79 [v0, v1, .int x2, v3, v4] st u P = zr 273 80 [v0, v1, .int x2, v3, v4] (.int x2 :: st) u P := zr_Il k273_79 rfl
theorem k273_80 : xcd 273 80 = oI (-1) 81 := rfl
theorem r273_80 : zr 273 80 [v0, v1, v2, v3, v4] st u P = zr 273 81 [v0, v1, v2, v3, v4] (.int (-1) :: st) u P := zr_I k273_80
theorem k273_81 : xcd 273 81 = oCmp (fun x y => decide (x = y)) 95 84 := rfl
theorem r273_81 : zr 273 81 [v0, v1, v2, v3, v4] (.int y1 :: .int y2 :: st) u P = (if y2 = y1 then zr 273 95 [v0, v1, v2, v3, v4] st u P else zr 273 84 [v0, v1, v2, v3, v4] st u P) := zr_Cmp k273_81
theorem k273_84 : xcd 273 84 = oAl 0 85 := rfl
theorem r273_84 : zr 273 84 [.ref a0, v1, v2, v3, v4] st u P = zr 273 85 [.ref a0, v1, v2, v3, v4] (.ref a0 :: st) u P := zr_Al k273_84 rfl
theorem k273_85 : xcd 273 85 = oGR 11 22 88 := rfl
theorem r273_85 : zr 273 85 [v0, v1, v2, v3, v4] (.ref b1 :: st) u P = (xIs u b1 11 ∧ ∃ b, xR u b1 22 = some b ∧ zr 273 88 [v0, v1, v2, v3, v4] (.ref b :: st) u P) := zr_GR k273_85
theorem k273_88 : xcd 273 88 = oIl 4 90 := rfl
theorem r273_88 : zr 273 88 [v0, v1, v2, v3, .int x4] st u P = zr 273 90 [v0, v1, v2, v3, .int x4] (.int x4 :: st) u P := zr_Il k273_88 rfl
theorem k273_90 : xcd 273 90 = oLd 13 91 := rfl
theorem r273_90 : zr 273 90 [v0, v1, v2, v3, v4] (.int y1 :: .ref b1 :: st) u P = ((xIs u b1 13 ∧ xinb y1 (xN u b1)) ∧ zr 273 91 [v0, v1, v2, v3, v4] (.int (xI u b1 (xix y1)) :: st) u P) := zr_Ld k273_90
theorem k273_91 : xcd 273 91 = oIl 2 92 := rfl
theorem r273_91 : zr 273 91 [v0, v1, .int x2, v3, v4] st u P = zr 273 92 [v0, v1, .int x2, v3, v4] (.int x2 :: st) u P := zr_Il k273_91 rfl
theorem k273_92 : xcd 273 92 = oCmp (fun x y => decide (¬ x = y)) 105 95 := rfl
theorem r273_92 : zr 273 92 [v0, v1, v2, v3, v4] (.int y1 :: .int y2 :: st) u P = (if ¬ y2 = y1 then zr 273 105 [v0, v1, v2, v3, v4] st u P else zr 273 95 [v0, v1, v2, v3, v4] st u P) := zr_Cmp k273_92
theorem k273_95 : xcd 273 95 = oAl 0 96 := rfl
theorem r273_95 : zr 273 95 [.ref a0, v1, v2, v3, v4] st u P = zr 273 96 [.ref a0, v1, v2, v3, v4] (.ref a0 :: st) u P := zr_Al k273_95 rfl
theorem k273_96 : xcd 273 96 = oGR 11 23 99 := rfl
theorem r273_96 : zr 273 96 [v0, v1, v2, v3, v4] (.ref b1 :: st) u P = (xIs u b1 11 ∧ ∃ b, xR u b1 23 = some b ∧ zr 273 99 [v0, v1, v2, v3, v4] (.ref b :: st) u P) := zr_GR k273_96
theorem k273_99 : xcd 273 99 = oIl 4 101 := rfl
theorem r273_99 : zr 273 99 [v0, v1, v2, v3, .int x4] st u P = zr 273 101 [v0, v1, v2, v3, .int x4] (.int x4 :: st) u P := zr_Il k273_99 rfl
theorem k273_101 : xcd 273 101 = oLd 13 102 := rfl
theorem r273_101 : zr 273 101 [v0, v1, v2, v3, v4] (.int y1 :: .ref b1 :: st) u P = ((xIs u b1 13 ∧ xinb y1 (xN u b1)) ∧ zr 273 102 [v0, v1, v2, v3, v4] (.int (xI u b1 (xix y1)) :: st) u P) := zr_Ld k273_101
theorem k273_102 : xcd 273 102 = oGoto 106 := rfl
theorem r273_102 : zr 273 102 [v0, v1, v2, v3, v4] st u P = zr 273 106 [v0, v1, v2, v3, v4] st u P := zr_Goto k273_102
theorem k273_105 : xcd 273 105 = oI 0 106 := rfl
theorem r273_105 : zr 273 105 [v0, v1, v2, v3, v4] st u P = zr 273 106 [v0, v1, v2, v3, v4] (.int 0 :: st) u P := zr_I k273_105
theorem k273_106 : xcd 273 106 = oB (fun x y => x + y) 107 := rfl
theorem r273_106 : zr 273 106 [v0, v1, v2, v3, v4] (.int y1 :: .int y2 :: st) u P = zr 273 107 [v0, v1, v2, v3, v4] (.int (y2 + y1) :: st) u P := zr_B k273_106
theorem k273_107 : xcd 273 107 = oIs 3 108 := rfl
theorem r273_107 : zr 273 107 [v0, v1, .int x2, v3, v4] (.int y1 :: st) u P = zr 273 108 [v0, v1, .int x2, .int y1, v4] st u P := zr_Is k273_107 ⟨Nat.le_of_ble_eq_true rfl, rfl⟩
theorem k273_108 : xcd 273 108 = oInc 4 1 111 := rfl
theorem r273_108 : zr 273 108 [v0, v1, v2, .int x3, .int x4] st u P = zr 273 111 [v0, v1, v2, .int x3, .int (x4 + 1)] st u P := zr_Inc k273_108 rfl rfl
theorem k273_111 : xcd 273 111 = oGoto 53 := rfl
theorem r273_111 : zr 273 111 [v0, v1, v2, v3, v4] st u P = zr 273 53 [v0, v1, v2, v3, v4] st u P := zr_Goto k273_111
theorem k273_114 : xcd 273 114 = oAl 0 115 := rfl
theorem r273_114 : zr 273 114 [.ref a0, v1, v2, v3, v4] st u P = zr 273 115 [.ref a0, v1, v2, v3, v4] (.ref a0 :: st) u P := zr_Al k273_114 rfl
theorem k273_115 : xcd 273 115 = oIl 3 116 := rfl
theorem r273_115 : zr 273 115 [v0, v1, v2, .int x3, v4] st u P = zr 273 116 [v0, v1, v2, .int x3, v4] (.int x3 :: st) u P := zr_Il k273_115 rfl
theorem k273_116 : xcd 273 116 = oCalV 11 174 1 119 := rfl
theorem r273_116 : zr 273 116 [v0, v1, v2, v3, v4] (.int y1 :: .ref b8 :: st) u P = ((xIs u b8 11 ∧ xcat st ≤ 8) ∧ zr 174 0 [.ref b8, .int y1] [] u (fun r u2 => zr 273 119 [v0, v1, v2, v3, v4] (r.toList ++ st) u2 P)) := zr_CV k273_116 rfl rfl rfl ⟨Nat.le_of_ble_eq_true rfl, Nat.succ_ne_zero _, by decide⟩ rfl
theorem k273_119 : xcd 273 119 = oRi 0 := rfl
theorem r273_119 : zr 273 119 [v0, v1, v2, v3, v4] [.int y1] u P = P (some (.int y1)) u := zr_Ri k273_119
theorem k274_0 : xcd 274 0 = oAl 0 1 := rfl
theorem r274_0 : zr 274 0 [.ref a0] st u P = zr 274 1 [.ref a0] (.ref a0 :: st) u P := zr_Al k274_0 rfl
theorem k274_1 : xcd 274 1 = oGI 11 27 4 := rfl
theorem r274_1 : zr 274 1 [v0] (.ref b1 :: st) u P = (xIs u b1 11 ∧ zr 274 4 [v0] (.int (xI u b1 27) :: st) u P) := zr_GI k274_1
theorem k274_4 : xcd 274 4 = oIf (fun x => decide (¬ x = 0)) 11 7 := rfl
theorem r274_4 : zr 274 4 [v0] (.int y1 :: st) u P = (if ¬ y1 = 0 then zr 274 11 [v0] st u P else zr 274 7 [v0] st u P) := zr_If k274_4
theorem k274_7 : xcd 274 7 = oI (-1) 8 := rfl
theorem r274_7 : zr 274 7 [v0] st u P = zr 274 8 [v0] (.int (-1) :: st) u P := zr_I k274_7
theorem k274_8 : xcd 274 8 = oGoto 22 := rfl
theorem r274_8 : zr 274 8 [v0] st u P = zr 274 22 [v0] st u P := zr_Goto k274_8
theorem k274_11 : xcd 274 11 = oAl 0 12 := rfl
theorem r274_11 : zr 274 11 [.ref a0] st u P = zr 274 12 [.ref a0] (.ref a0 :: st) u P := zr_Al k274_11 rfl
theorem k274_12 : xcd 274 12 = oGR 11 25 15 := rfl
theorem r274_12 : zr 274 12 [v0] (.ref b1 :: st) u P = (xIs u b1 11 ∧ ∃ b, xR u b1 25 = some b ∧ zr 274 15 [v0] (.ref b :: st) u P) := zr_GR k274_12
theorem k274_15 : xcd 274 15 = oAl 0 16 := rfl
theorem r274_15 : zr 274 15 [.ref a0] st u P = zr 274 16 [.ref a0] (.ref a0 :: st) u P := zr_Al k274_15 rfl
theorem k274_16 : xcd 274 16 = oGI 11 27 19 := rfl
theorem r274_16 : zr 274 16 [v0] (.ref b1 :: st) u P = (xIs u b1 11 ∧ zr 274 19 [v0] (.int (xI u b1 27) :: st) u P) := zr_GI k274_16
theorem k274_19 : xcd 274 19 = oI 1 20 := rfl
theorem r274_19 : zr 274 19 [v0] st u P = zr 274 20 [v0] (.int 1 :: st) u P := zr_I k274_19
theorem k274_20 : xcd 274 20 = oB (fun x y => x - y) 21 := rfl
theorem r274_20 : zr 274 20 [v0] (.int y1 :: .int y2 :: st) u P = zr 274 21 [v0] (.int (y2 - y1) :: st) u P := zr_B k274_20
theorem k274_21 : xcd 274 21 = oLd 13 22 := rfl
theorem r274_21 : zr 274 21 [v0] (.int y1 :: .ref b1 :: st) u P = ((xIs u b1 13 ∧ xinb y1 (xN u b1)) ∧ zr 274 22 [v0] (.int (xI u b1 (xix y1)) :: st) u P) := zr_Ld k274_21
theorem k274_22 : xcd 274 22 = oRi 0 := rfl
theorem r274_22 : zr 274 22 [v0] [.int y1] u P = P (some (.int y1)) u := zr_Ri k274_22
theorem k275_0 : xcd 275 0 = oI 0 1 := rfl
theorem r275_0 : zr 275 0 [v0, v1, v2, v3, v4] st u P = zr 275 1 [v0, v1, v2, v3, v4] (.int 0 :: st) u P := zr_I k275_0
theorem k275_1 : xcd 275 1 = oIs 3 2 := rfl
theorem r275_1 : zr 275 1 [v0, v1, .int x2, v3, v4] (.int y1 :: st) u P = zr 275 2 [v0, v1, .int x2, .int y1, v4] st u P := zr_Is k275_1 ⟨Nat.le_of_ble_eq_true rfl, rfl⟩
theorem k275_2 : xcd 275 2 = oI 0 3 := rfl
theorem r275_2 : zr 275 2 [v0, v1, v2, v3, v4] st u P = zr 275 3 [v0, v1, v2, v3, v4] (.int 0 :: st) u P := zr_I k275_2
theorem k275_3 : xcd 275 3 = oIs 4 5 := rfl
theorem r275_3 : zr 275 3 [v0, v1, v2, .int x3, v4] (.int y1 :: st) u P = zr 275 5 [v0, v1, v2, .int x3, .int y1] st u P := zr_Is k275_3 ⟨Nat.le_of_ble_eq_true rfl, rfl⟩
theorem k275_5 : xcd 275 5 = oIl 4 7 := rfl
theorem r275_5 : zr 275 5 [v0, v1, v2, v3, .int x4] st u P = zr 275 7 [v0, v1, v2, v3, .int x4] (.int x4 :: st) u P := zr_Il k275_5 rfl
theorem k275_7 : xcd 275 7 = oAl 0 8 := rfl
theorem r275_7 : zr 275 7 [.ref a0, v1, v2, v3, v4] st u P = zr 275 8 [.ref a0, v1, v2, v3, v4] (.ref a0 :: st) u P := zr_Al k275_7 rfl
theorem k275_8 : xcd 275 8 = oIl 1 9 := rfl
theorem r275_8 : zr 275 8 [v0, .int x1, v2, v3, v4] st u P = zr 275 9 [v0, .int x1, v2, v3, v4] (.int x1 :: st) u P := zr_Il k275_8 rfl
theorem k275_9 : xcd 275 9 = oI 7 11 := rfl
theorem r275_9 : zr 275 9 [v0, v1, v2, v3, v4] st u P = zr 275 11 [v0, v1, v2, v3, v4] (.int 7 :: st) u P := zr_I k275_9
theorem k275_11 : xcd 275 11 = oCalV 11 262 2 14 := rfl
theorem r275_11 : zr 275 11 [v0, v1, v2, v3, v4] (.int y2 :: .int y1 :: .ref b8 :: st) u P = ((xIs u b8 11 ∧ xcat st ≤ 8) ∧ zr 262 0 [.ref b8, .int y1, .int y2] [] u (fun r u2 => zr 275 14 [v0, v1, v2, v3, v4] (r.toList ++ st) u2 P)) := zr_CV k275_11 rfl rfl rfl ⟨Nat.le_of_ble_eq_true rfl, Nat.succ_ne_zero _, by decide⟩ rfl
theorem k275_14 : xcd 275 14 = oCmp (fun x y => decide (y ≤ x)) 49 17 := rfl
theorem r275_14 : zr 275 14 [v0, v1, v2, v3, v4] (.int y1 :: .int y2 :: st) u P = (if y1 ≤ y2 then zr 275 49 [v0, v1, v2, v3, v4] st u P else zr 275 17 [v0, v1, v2, v3, v4] st u P) := zr_Cmp k275_14
theorem k275_17 : xcd 275 17 = oIl 3 18 := rfl
theorem r275_17 : zr 275 17 [v0, v1, v2, .int x3, v4] st u P = zr 275 18 [v0, v1, v2, .int x3, v4] (.int x3 :: st) u P := zr_Il k275_17 rfl
theorem k275_18 : xcd 275 18 = oAl 0 19 := rfl
theorem r275_18 : zr 275 18 [.ref a0, v1, v2, v3, v4] st u P = zr 275 19 [.ref a0, v1, v2, v3, v4] (.ref a0 :: st) u P := zr_Al k275_18 rfl
theorem k275_19 : xcd 275 19 = oIl 1 20 := rfl
theorem r275_19 : zr 275 19 [v0, .int x1, v2, v3, v4] st u P = zr 275 20 [v0, .int x1, v2, v3, v4] (.int x1 :: st) u P := zr_Il k275_19 rfl
theorem k275_20 : xcd 275 20 = oIl 4 22 := rfl
theorem r275_20 : zr 275 20 [v0, v1, v2, v3, .int x4] st u P = zr 275 22 [v0, v1, v2, v3, .int x4] (.int x4 :: st) u P := zr_Il k275_20 rfl
theorem k275_22 : xcd 275 22 = oI 0 23 := rfl
theorem r275_22 : zr 275 22 [v0, v1, v2, v3, v4] st u P = zr 275 23 [v0, v1, v2, v3, v4] (.int 0 :: st) u P := zr_I k275_22
theorem k275_23 : xcd 275 23 = oCalV 11 263 3 26 := rfl
theorem r275_23 : zr 275 23 [v0, v1, v2, v3, v4] (.int y3 :: .int y2 :: .int y1 :: .ref b8 :: st) u P = ((xIs u b8 11 ∧ xcat st ≤ 8) ∧ zr 263 0 [.ref b8, .int y1, .int y2, .int y3] [] u (fun r u2 => zr 275 26 [v0, v1, v2, v3, v4] (r.toList ++ st) u2 P)) := zr_CV k275_23 rfl rfl rfl ⟨Nat.le_of_ble_eq_true rfl, Nat.succ_ne_zero _, by decide⟩ rfl
theorem k275_26 : xcd 275 26 = oIl 2 27 := rfl
theorem r275_26 : zr 275 26 [v0, v1, .int x2, v3, v4] st u P = zr 275 27 [v0, v1, .int x2, v3, v4] (.int x2 :: st) u P := zr_Il k275_26 rfl
theorem k275_27 : xcd 275 27 = oCmp (fun x y => decide (¬ x = y)) 40 30 := rfl
theorem r275_27 : zr 275 27 [v0, v1, v2, v3, v4] (.int y1 :: .int y2 :: st) u P = (if ¬ y2 = y1 then zr 275 40 [v0, v1, v2, v3, v4] st u P else zr 275 30 [v0, v1, v2, v3, v4] st u P) := zr_Cmp k275_27
theorem k275_30 : xcd 275 30 = oAl 0 31 := rfl
theorem r275_30 : zr 275 30 [.ref a0, v1, v2, v3, v4] st u P = zr 275 31 [.ref a0, v1, v2, v3, v4] (.ref a0 :: st) u P := zr_Al k275_30 rfl
theorem k275_31 : xcd 275 31 = oIl 1 32 := rfl
theorem r275_31 : zr 275 31 [v0, .int x1, v2, v3, v4] st u P = zr 275 32 [v0, .int x1, v2, v3, v4] (.int x1 :: st) u P := zr_Il k275_31 rfl
theorem k275_32 : xcd 275 32 = oIl 4 34 := rfl
theorem r275_32 : zr 275 32 [v0, v1, v2, v3, .int x4] st u P = zr 275 34 [v0, v1, v2, v3, .int x4] (.int x4 :: st) u P := zr_Il k275_32 rfl
theorem k275_34 : xcd 275 34 = oCalV 11 265 2 37 := rfl
theorem r275_34 : zr 275 34 [v0, v1, v2, v3, v4] (.int y2 :: .int y1 :: .ref b8 :: st) u P = ((xIs u b8 11 ∧ xcat st ≤ 8) ∧ zr 265 0 [.ref b8, .int y1, .int y2] [] u (fun r u2 => zr 275 37 [v0, v1, v2, v3, v4] (r.toList ++ st) u2 P)) := zr_CV k275_34 rfl rfl rfl ⟨Nat.le_of_ble_eq_true rfl, Nat.succ_ne_zero _, by decide⟩ rfl
theorem k275_37 : xcd 275 37 = oGoto 41 := rfl
theorem r275_37 : zr 275 37 [v0, v1, v2, v3, v4] st u P = zr 275 41 [v0, v1, v2, v3, v4] st u P := zr_Goto k275_37
theorem k275_40 : xcd 275 40 = oI 0 41 := rfl
theorem r275_40 : zr 275 40 [v0, v1, v2, v3, v4] st u P = zr 275 41 [v0, v1, v2, v3, v4] (.int 0 :: st) u P := zr_I k275_40
theorem k275_41 : xcd 275 41 = oB (fun x y => x + y) 42 := rfl
theorem r275_41 : zr 275 41 [v0, v1, v2, v3, v4] (.int y1 :: .int y2 :: st) u P = zr 275 42 [v0, v1, v2, v3, v4] (.int (y2 + y1) :: st) u P := zr_B k275_41
theorem k275_42 : xcd 275 42 = oIs 3 43 := rfl
theorem r275_42 : zr 275 42 [v0, v1, .int x2, v3, v4] (.int y1 :: st) u P = zr 275 43 [v0, v1, .int x2, .int y1, v4] st u P := zr_Is k275_42 ⟨Nat.le_of_ble_eq_true rfl, rfl⟩
theorem k275_43 : xcd 275 43 = oInc 4 1 46 := rfl
theorem r275_43 : zr 275 43 [v0, v1, v2, .int x3, .int x4] st u P = zr 275 46 [v0, v1, v2, .int x3, .int (x4 + 1)] st u P := zr_Inc k275_43 rfl rfl
theorem k275_46 : xcd 275 46 = oGoto 5 := rfl
theorem r275_46 : zr 275 46 [v0, v1, v2, v3, v4] st u P = zr 275 5 [v0, v1, v2, v3, v4] st u P := zr_Goto k275_46
theorem k275_49 : xcd 275 49 = oIl 3 50 := rfl
theorem r275_49 : zr 275 49 [v0, v1, v2, .int x3, v4] st u P = zr 275 50 [v0, v1, v2, .int x3, v4] (.int x3 :: st) u P := zr_Il k275_49 rfl
theorem k275_50 : xcd 275 50 = oRi 0 := rfl
theorem r275_50 : zr 275 50 [v0, v1, v2, v3, v4] [.int y1] u P = P (some (.int y1)) u := zr_Ri k275_50
theorem k276_0 : xcd 276 0 = oI 0 1 := rfl
theorem r276_0 : zr 276 0 [v0, v1, v2, v3, v4] st u P = zr 276 1 [v0, v1, v2, v3, v4] (.int 0 :: st) u P := zr_I k276_0
theorem k276_1 : xcd 276 1 = oIs 3 2 := rfl
theorem r276_1 : zr 276 1 [v0, v1, .int x2, v3, v4] (.int y1 :: st) u P = zr 276 2 [v0, v1, .int x2, .int y1, v4] st u P := zr_Is k276_1 ⟨Nat.le_of_ble_eq_true rfl, rfl⟩
theorem k276_2 : xcd 276 2 = oI 0 3 := rfl
theorem r276_2 : zr 276 2 [v0, v1, v2, v3, v4] st u P = zr 276 3 [v0, v1, v2, v3, v4] (.int 0 :: st) u P := zr_I k276_2
theorem k276_3 : xcd 276 3 = oIs 4 5 := rfl
theorem r276_3 : zr 276 3 [v0, v1, v2, .int x3, v4] (.int y1 :: st) u P = zr 276 5 [v0, v1, v2, .int x3, .int y1] st u P := zr_Is k276_3 ⟨Nat.le_of_ble_eq_true rfl, rfl⟩
theorem k276_5 : xcd 276 5 = oIl 4 7 := rfl
theorem r276_5 : zr 276 5 [v0, v1, v2, v3, .int x4] st u P = zr 276 7 [v0, v1, v2, v3, .int x4] (.int x4 :: st) u P := zr_Il k276_5 rfl
theorem k276_7 : xcd 276 7 = oAl 0 8 := rfl
theorem r276_7 : zr 276 7 [.ref a0, v1, v2, v3, v4] st u P = zr 276 8 [.ref a0, v1, v2, v3, v4] (.ref a0 :: st) u P := zr_Al k276_7 rfl
theorem k276_8 : xcd 276 8 = oGI 11 20 11 := rfl
theorem r276_8 : zr 276 8 [v0, v1, v2, v3, v4] (.ref b1 :: st) u P = (xIs u b1 11 ∧ zr 276 11 [v0, v1, v2, v3, v4] (.int (xI u b1 20) :: st) u P) := zr_GI k276_8
theorem k276_11 : xcd 276 11 = oCmp (fun x y => decide (y ≤ x)) 56 14 := rfl
theorem r276_11 : zr 276 11 [v0, v1, v2, v3, v4] (.int y1 :: .int y2 :: st) u P = (if y1 ≤ y2 then zr 276 56 [v0, v1, v2, v3, v4] st u P else zr 276 14 [v0, v1, v2, v3, v4] st u P) := zr_Cmp k276_11
theorem k276_14 : xcd 276 14 = oIl 3 15 := rfl
theorem r276_14 : zr 276 14 [v0, v1, v2, .int x3, v4] st u P = zr 276 15 [v0, v1, v2, .int x3, v4] (.int x3 :: st) u P := zr_Il k276_14 rfl
theorem k276_15 : xcd 276 15 = oAl 0 16 := rfl
theorem r276_15 : zr 276 15 [.ref a0, v1, v2, v3, v4] st u P = zr 276 16 [.ref a0, v1, v2, v3, v4] (.ref a0 :: st) u P := zr_Al k276_15 rfl
theorem k276_16 : xcd 276 16 = oIl 4 18 := rfl
theorem r276_16 : zr 276 16 [v0, v1, v2, v3, .int x4] st u P = zr 276 18 [v0, v1, v2, v3, .int x4] (.int x4 :: st) u P := zr_Il k276_16 rfl
theorem k276_18 : xcd 276 18 = oI 8 20 := rfl
theorem r276_18 : zr 276 18 [v0, v1, v2, v3, v4] st u P = zr 276 20 [v0, v1, v2, v3, v4] (.int 8 :: st) u P := zr_I k276_18
theorem k276_20 : xcd 276 20 = oCalV 11 262 2 23 := rfl
theorem r276_20 : zr 276 20 [v0, v1, v2, v3, v4] (.int y2 :: .int y1 :: .ref b8 :: st) u P = ((xIs u b8 11 ∧ xcat st ≤ 8) ∧ zr 262 0 [.ref b8, .int y1, .int y2] [] u (fun r u2 => zr 276 23 [v0, v1, v2, v3, v4] (r.toList ++ st) u2 P)) := zr_CV k276_20 rfl rfl rfl ⟨Nat.le_of_ble_eq_true rfl, Nat.succ_ne_zero _, by decide⟩ rfl
theorem k276_23 : xcd 276 23 = oIf (fun x => decide (0 < x)) 37 26 := rfl
theorem r276_23 : zr 276 23 [v0, v1, v2, v3, v4] (.int y1 :: st) u P = (if 0 < y1 then zr 276 37 [v0, v1, v2, v3, v4] st u P else zr 276 26 [v0, v1, v2, v3, v4] st u P) := zr_If k276_23
theorem k276_26 : xcd 276 26 = oAl 0 27 := rfl
theorem r276_26 : zr 276 26 [.ref a0, v1, v2, v3, v4] st u P = zr 276 27 [.ref a0, v1, v2, v3, v4] (.ref a0 :: st) u P := zr_Al k276_26 rfl
theorem k276_27 : xcd 276 27 = oIl 4 29 := rfl
theorem r276_27 : zr 276 27 [v0, v1, v2, v3, .int x4] st u P = zr 276 29 [v0, v1, v2, v3, .int x4] (.int x4 :: st) u P := zr_Il k276_27 rfl
theorem k276_29 : xcd 276 29 = oI 0 30 := rfl
theorem r276_29 : zr 276 29 [v0, v1, v2, v3, v4] st u P = zr 276 30 [v0, v1, v2, v3, v4] (.int 0 :: st) u P := zr_I k276_29
theorem k276_30 : xcd 276 30 = oCalV 11 262 2 33 := rfl
theorem r276_30 : zr 276 30 [v0, v1, v2, v3, v4] (.int y2 :: .int y1 :: .ref b8 :: st) u P = ((xIs u b8 11 ∧ xcat st ≤ 8) ∧ zr 262 0 [.ref b8, .int y1, .int y2] [] u (fun r u2 => zr 276 33 [v0, v1, v2, v3, v4] (r.toList ++ st) u2 P)) := zr_CV k276_30 rfl rfl rfl ⟨Nat.le_of_ble_eq_true rfl, Nat.succ_ne_zero _, by decide⟩ rfl
theorem k276_33 : xcd 276 33 = oIl 1 34 := rfl
theorem r276_33 : zr 276 33 [v0, .int x1, v2, v3, v4] st u P = zr 276 34 [v0, .int x1, v2, v3, v4] (.int x1 :: st) u P := zr_Il k276_33 rfl
theorem k276_34 : xcd 276 34 = oCmp (fun x y => decide (y < x)) 47 37 := rfl
theorem r276_34 : zr 276 34 [v0, v1, v2, v3, v4] (.int y1 :: .int y2 :: st) u P = (if y1 < y2 then zr 276 47 [v0, v1, v2, v3, v4] st u P else zr 276 37 [v0, v1, v2, v3, v4] st u P) := zr_Cmp k276_34
theorem k276_37 : xcd 276 37 = oAl 0 38 := rfl
theorem r276_37 : zr 276 37 [.ref a0, v1, v2, v3, v4] st u P = zr 276 38 [.ref a0, v1, v2, v3, v4] (.ref a0 :: st) u P := zr_Al k276_37 rfl
theorem k276_38 : xcd 276 38 = oIl 4 40 := rfl
theorem r276_38 : zr 276 38 [v0, v1, v2, v3, .int x4] st u P = zr 276 40 [v0, v1, v2, v3, .int x4] (.int x4 :: st) u P := zr_Il k276_38 rfl
theorem k276_40 : xcd 276 40 = oIl 2 41 := rfl
theorem r276_40 : zr 276 40 [v0, v1, .int x2, v3, v4] st u P = zr 276 41 [v0, v1, .int x2, v3, v4] (.int x2 :: st) u P := zr_Il k276_40 rfl
theorem k276_41 : xcd 276 41 = oCalV 11 275 2 44 := rfl
theorem r276_41 : zr 276 41 [v0, v1, v2, v3, v4] (.int y2 :: .int y1 :: .ref b8 :: st) u P = ((xIs u b8 11 ∧ xcat st ≤ 8) ∧ zr 275 0 [.ref b8, .int y1, .int y2, .null, .null] [] u (fun r u2 => zr 276 44 [v0, v1, v2, v3, v4] (r.toList ++ st) u2 P)) := zr_CV k276_41 rfl rfl rfl ⟨Nat.le_of_ble_eq_true rfl, Nat.succ_ne_zero _, by decide⟩ rfl
theorem k276_44 : xcd 276 44 = oGoto 48 := rfl
theorem r276_44 : zr 276 44 [v0, v1, v2, v3, v4] st u P = zr 276 48 [v0, v1, v2, v3, v4] st u P := zr_Goto k276_44
theorem k276_47 : xcd 276 47 = oI 0 48 := rfl
theorem r276_47 : zr 276 47 [v0, v1, v2, v3, v4] st u P = zr 276 48 [v0, v1, v2, v3, v4] (.int 0 :: st) u P := zr_I k276_47
theorem k276_48 : xcd 276 48 = oB (fun x y => x + y) 49 := rfl
theorem r276_48 : zr 276 48 [v0, v1, v2, v3, v4] (.int y1 :: .int y2 :: st) u P = zr 276 49 [v0, v1, v2, v3, v4] (.int (y2 + y1) :: st) u P := zr_B k276_48
theorem k276_49 : xcd 276 49 = oIs 3 50 := rfl
theorem r276_49 : zr 276 49 [v0, v1, .int x2, v3, v4] (.int y1 :: st) u P = zr 276 50 [v0, v1, .int x2, .int y1, v4] st u P := zr_Is k276_49 ⟨Nat.le_of_ble_eq_true rfl, rfl⟩
theorem k276_50 : xcd 276 50 = oInc 4 1 53 := rfl
theorem r276_50 : zr 276 50 [v0, v1, v2, .int x3, .int x4] st u P = zr 276 53 [v0, v1, v2, .int x3, .int (x4 + 1)] st u P := zr_Inc k276_50 rfl rfl
theorem k276_53 : xcd 276 53 = oGoto 5 := rfl
theorem r276_53 : zr 276 53 [v0, v1, v2, v3, v4] st u P = zr 276 5 [v0, v1, v2, v3, v4] st u P := zr_Goto k276_53
theorem k276_56 : xcd 276 56 = oI 0 57 := rfl
theorem r276_56 : zr 276 56 [v0, v1, v2, v3, v4] st u P = zr 276 57 [v0, v1, v2, v3, v4] (.int 0 :: st) u P := zr_I k276_56
theorem k276_57 : xcd 276 57 = oIs 4 59 := rfl
theorem r276_57 : zr 276 57 [v0, v1, v2, .int x3, v4] (.int y1 :: st) u P = zr 276 59 [v0, v1, v2, .int x3, .int y1] st u P := zr_Is k276_57 ⟨Nat.le_of_ble_eq_true rfl, rfl⟩
theorem k276_59 : xcd 276 59 = oIl 4 61 := rfl
theorem r276_59 : zr 276 59 [v0, v1, v2, v3, .int x4] st u P = zr 276 61 [v0, v1, v2, v3, .int x4] (.int x4 :: st) u P := zr_Il k276_59 rfl
theorem k276_61 : xcd 276 61 = oAl 0 62 := rfl
theorem r276_61 : zr 276 61 [.ref a0, v1, v2, v3, v4] st u P = zr 276 62 [.ref a0, v1, v2, v3, v4] (.ref a0 :: st) u P := zr_Al k276_61 rfl
theorem k276_62 : xcd 276 62 = oGI 11 27 65 := rfl
theorem r276_62 : zr 276 62 [v0, v1, v2, v3, v4] (.ref b1 :: st) u P = (xIs u b1 11 ∧ zr 276 65 [v0, v1, v2, v3, v4] (.int (xI u b1 27) :: st) u P) := zr_GI k276_62
theorem k276_65 : xcd 276 65 = oCmp (fun x y => decide (y ≤ x)) 89 68 := rfl
theorem r276_65 : zr 276 65 [v0, v1, v2, v3, v4] (.int y1 :: .int y2 :: st) u P = (if y1 ≤ y2 then zr 276 89 [v0, v1, v2, v3, v4] st u P else zr 276 68 [v0, v1, v2, v3, v4] st u P) := zr_Cmp k276_65
theorem k276_68 : xcd 276 68 = oIl 3 69 := rfl
theorem r276_68 : zr 276 68 [v0, v1, v2, .int x3, v4] st u P = zr 276 69 [v0, v1, v2, .int x3, v4] (.int x3 :: st) u P := zr_Il k276_68 rfl
theorem k276_69 : xcd 276 69 = oAl 0 70 := rfl
theorem r276_69 : zr 276 69 [.ref a0, v1, v2, v3, v4] st u P = zr 276 70 [.ref a0, v1, v2, v3, v4] (.ref a0 :: st) u P := zr_Al k276_69 rfl
theorem k276_70 : xcd 276 70 = oGR 11 26 73 := rfl
theorem r276_70 : zr 276 70 [v0, v1, v2, v3, v4] (.ref b1 :: st) u P = (xIs u b1 11 ∧ ∃ b, xR u b1 26 = some b ∧ zr 276 73 [v0, v1, v2, v3, v4] (.ref b :: st) u P) := zr_GR k276_70
theorem k276_73 : xcd 276 73 = oI 10 75 := rfl
theorem r276_73 : zr 276 73 [v0, v1, v2, v3, v4] st u P = zr 276 75 [v0, v1, v2, v3, v4] (.int 10 :: st) u P := zr_I k276_73
theorem k276_75 : xcd 276 75 = oIl 4 77 := rfl
theorem r276_75 : zr 276 75 [v0, v1, v2, v3, .int x4] st u P = zr 276 77 [v0, v1, v2, v3, .int x4] (.int x4 :: st) u P := zr_Il k276_75 rfl
theorem k276_77 : xcd 276 77 = oB (fun x y => x * y) 78 := rfl
theorem r276_77 : zr 276 77 [v0, v1, v2, v3, v4] (.int y1 :: .int y2 :: st) u P = zr 276 78 [v0, v1, v2, v3, v4] (.int (y2 * y1) :: st) u P := zr_B k276_77
theorem k276_78 : xcd 276 78 = oIl 2 79 := rfl
theorem r276_78 : zr 276 78 [v0, v1, .int x2, v3, v4] st u P = zr 276 79 [v0, v1, .int x2, v3, v4] (.int x2 :: st) u P := zr_Il k276_78 rfl
theorem k276_79 : xcd 276 79 = oB (fun x y => x + y) 80 := rfl
theorem r276_79 : zr 276 79 [v0, v1, v2, v3, v4] (.int y1 :: .int y2 :: st) u P = zr 276 80 [v0, v1, v2, v3, v4] (.int (y2 + y1) :: st) u P := zr_B k276_79
theorem k276_80 : xcd 276 80 = oLd 13 81 := rfl
theorem r276_80 : zr 276 80 [v0, v1, v2, v3, v4] (.int y1 :: .ref b1 :: st) u P = ((xIs u b1 13 ∧ xinb y1 (xN u b1)) ∧ zr 276 81 [v0, v1, v2, v3, v4] (.int (xI u b1 (xix y1)) :: st) u P) := zr_Ld k276_80
theorem k276_81 : xcd 276 81 = oB (fun x y => x - y) 82 := rfl
theorem r276_81 : zr 276 81 [v0, v1, v2, v3, v4] (.int y1 :: .int y2 :: st) u P = zr 276 82 [v0, v1, v2, v3, v4] (.int (y2 - y1) :: st) u P := zr_B k276_81
theorem k276_82 : xcd 276 82 = oIs 3 83 := rfl
theorem r276_82 : zr 276 82 [v0, v1, .int x2, v3, v4] (.int y1 :: st) u P = zr 276 83 [v0, v1, .int x2, .int y1, v4] st u P := zr_Is k276_82 ⟨Nat.le_of_ble_eq_true rfl, rfl⟩
theorem k276_83 : xcd 276 83 = oInc 4 1 86 := rfl
theorem r276_83 : zr 276 83 [v0, v1, v2, .int x3, .int x4] st u P = zr 276 86 [v0, v1, v2, .int x3, .int (x4 + 1)] st u P := zr_Inc k276_83 rfl rfl
theorem k276_86 : xcd 276 86 = oGoto 59 := rfl
theorem r276_86 : zr 276 86 [v0, v1, v2, v3, v4] st u P = zr 276 59 [v0, v1, v2, v3, v4] st u P := zr_Goto k276_86
theorem k276_89 : xcd 276 89 = oIl 3 90 := rfl
theorem r276_89 : zr 276 89 [v0, v1, v2, .int x3, v4] st u P = zr 276 90 [v0, v1, v2, .int x3, v4] (.int x3 :: st) u P := zr_Il k276_89 rfl
theorem k276_90 : xcd 276 90 = oRi 0 := rfl
theorem r276_90 : zr 276 90 [v0, v1, v2, v3, v4] [.int y1] u P = P (some (.int y1)) u := zr_Ri k276_90
theorem k277_0 : xcd 277 0 = oAl 0 1 := rfl
theorem r277_0 : zr 277 0 [.ref a0, v1] st u P = zr 277 1 [.ref a0, v1] (.ref a0 :: st) u P := zr_Al k277_0 rfl
theorem k277_1 : xcd 277 1 = oGI 11 7 4 := rfl
theorem r277_1 : zr 277 1 [v0, v1] (.ref b1 :: st) u P = (xIs u b1 11 ∧ zr 277 4 [v0, v1] (.int (xI u b1 7) :: st) u P) := zr_GI k277_1
theorem k277_4 : xcd 277 4 = oIf (fun x => decide (x = 0)) 25 7 := rfl
theorem r277_4 : zr 277 4 [v0, v1] (.int y1 :: st) u P = (if y1 = 0 then zr 277 25 [v0, v1] st u P else zr 277 7 [v0, v1] st u P) := zr_If k277_4
theorem k277_7 : xcd 277 7 = oIl 1 8 := rfl
theorem r277_7 : zr 277 7 [v0, .int x1] st u P = zr 277 8 [v0, .int x1] (.int x1 :: st) u P := zr_Il k277_7 rfl
theorem k277_8 : xcd 277 8 = oI 0 9 := rfl
theorem r277_8 : zr 277 8 [v0, v1] st u P = zr 277 9 [v0, v1] (.int 0 :: st) u P := zr_I k277_8
theorem k277_9 : xcd 277 9 = oAl 0 10 := rfl
theorem r277_9 : zr 277 9 [.ref a0, v1] st u P = zr 277 10 [.ref a0, v1] (.ref a0 :: st) u P := zr_Al k277_9 rfl
theorem k277_10 : xcd 277 10 = oGI 11 27 13 := rfl
theorem r277_10 : zr 277 10 [v0, v1] (.ref b1 :: st) u P = (xIs u b1 11 ∧ zr 277 13 [v0, v1] (.int (xI u b1 27) :: st) u P) := zr_GI k277_10
theorem k277_13 : xcd 277 13 = oI 1 14 := rfl
theorem r277_13 : zr 277 13 [v0, v1] st u P = zr 277 14 [v0, v1] (.int 1 :: st) u P := zr_I k277_13
theorem k277_14 : xcd 277 14 = oB (fun x y => x - y) 15 := rfl
theorem r277_14 : zr 277 14 [v0, v1] (.int y1 :: .int y2 :: st) u P = zr 277 15 [v0, v1] (.int (y2 - y1) :: st) u P := zr_B k277_14
theorem k277_15 : xcd 277 15 = oCal 175 3 18 := rfl
theorem r277_15 : zr 277 15 [v0, v1] (.int y3 :: .int y2 :: .int y1 :: st) u P = (xcat st ≤ 8 ∧ zr 175 0 [.int y1, .int y2, .int y3] [] u (fun r u2 => zr 277 18 [v0, v1] (r.toList ++ st) u2 P)) := zr_CS k277_15 (Nat.le_add_left _ _) rfl rfl ⟨Nat.le_of_ble_eq_true rfl, Nat.succ_ne_zero _, by decide⟩ rfl
theorem k277_18 : xcd 277 18 = oIf (fun x => decide (x = 0)) 25 21 := rfl
theorem r277_18 : zr 277 18 [v0, v1] (.int y1 :: st) u P = (if y1 = 0 then zr 277 25 [v0, v1] st u P else zr 277 21 [v0, v1] st u P) := zr_If k277_18
theorem k277_21 : xcd 277 21 = oI 1 22 := rfl
theorem r277_21 : zr 277 21 [v0, v1] st u P = zr 277 22 [v0, v1] (.int 1 :: st) u P := zr_I k277_21
theorem k277_22 : xcd 277 22 = oGoto 26 := rfl
theorem r277_22 : zr 277 22 [v0, v1] st u P = zr 277 26 [v0, v1] st u P := zr_Goto k277_22
theorem k277_25 : xcd 277 25 = oI 0 26 := rfl
theorem r277_25 : zr 277 25 [v0, v1] st u P = zr 277 26 [v0, v1] (.int 0 :: st) u P := zr_I k277_25
theorem k277_26 : xcd 277 26 = oRz 0 := rfl
theorem r277_26 : zr 277 26 [v0, v1] [.int y1] u P = ((y1 = 0 ∨ y1 = 1) ∧ P (some (.int y1)) u) := zr_Rz k277_26
theorem k278_0 : xcd 278 0 = oIl 1 1 := rfl
theorem r278_0 : zr 278 0 [v0, .int x1] st u P = zr 278 1 [v0, .int x1] (.int x1 :: st) u P := zr_Il k278_0 rfl
theorem k278_1 : xcd 278 1 = oI (-1) 2 := rfl
theorem r278_1 : zr 278 1 [v0, v1] st u P = zr 278 2 [v0, v1] (.int (-1) :: st) u P := zr_I k278_1
theorem k278_2 : xcd 278 2 = oCmp (fun x y => decide (x = y)) 13 5 := rfl
theorem r278_2 : zr 278 2 [v0, v1] (.int y1 :: .int y2 :: st) u P = (if y2 = y1 then zr 278 13 [v0, v1] st u P else zr 278 5 [v0, v1] st u P) := zr_Cmp k278_2
theorem k278_5 : xcd 278 5 = oAl 0 6 := rfl
theorem r278_5 : zr 278 5 [.ref a0, v1] st u P = zr 278 6 [.ref a0, v1] (.ref a0 :: st) u P := zr_Al k278_5 rfl
theorem k278_6 : xcd 278 6 = oIl 1 7 := rfl
theorem r278_6 : zr 278 6 [v0, .int x1] st u P = zr 278 7 [v0, .int x1] (.int x1 :: st) u P := zr_Il k278_6 rfl
theorem k278_7 : xcd 278 7 = oCalV 11 214 1 10 := rfl
theorem r278_7 : zr 278 7 [v0, v1] (.int y1 :: .ref b8 :: st) u P = ((xIs u b8 11 ∧ xcat st ≤ 8) ∧ zr 214 0 [.ref b8, .int y1] [] u (fun r u2 => zr 278 10 [v0, v1] (r.toList ++ st) u2 P)) := zr_CV k278_7 rfl rfl rfl ⟨Nat.le_of_ble_eq_true rfl, Nat.succ_ne_zero _, by decide⟩ rfl
theorem k278_10 : xcd 278 10 = oIf (fun x => decide (x = 0)) 17 13 := rfl
theorem r278_10 : zr 278 10 [v0, v1] (.int y1 :: st) u P = (if y1 = 0 then zr 278 17 [v0, v1] st u P else zr 278 13 [v0, v1] st u P) := zr_If k278_10
theorem k278_13 : xcd 278 13 = oI 1 14 := rfl
theorem r278_13 : zr 278 13 [v0, v1] st u P = zr 278 14 [v0, v1] (.int 1 :: st) u P := zr_I k278_13
theorem k278_14 : xcd 278 14 = oGoto 18 := rfl
theorem r278_14 : zr 278 14 [v0, v1] st u P = zr 278 18 [v0, v1] st u P := zr_Goto k278_14
theorem k278_17 : xcd 278 17 = oI 0 18 := rfl
theorem r278_17 : zr 278 17 [v0, v1] st u P = zr 278 18 [v0, v1] (.int 0 :: st) u P := zr_I k278_17
theorem k278_18 : xcd 278 18 = oRz 0 := rfl
theorem r278_18 : zr 278 18 [v0, v1] [.int y1] u P = ((y1 = 0 ∨ y1 = 1) ∧ P (some (.int y1)) u) := zr_Rz k278_18
theorem k279_0 : xcd 279 0 = oAl 0 1 := rfl
theorem r279_0 : zr 279 0 [.ref a0] st u P = zr 279 1 [.ref a0] (.ref a0 :: st) u P := zr_Al k279_0 rfl
theorem k279_1 : xcd 279 1 = oI 0 2 := rfl
theorem r279_1 : zr 279 1 [v0] st u P = zr 279 2 [v0] (.int 0 :: st) u P := zr_I k279_1
theorem k279_2 : xcd 279 2 = oPI 11 0 5 := rfl
theorem r279_2 : zr 279 2 [v0] (.int y1 :: .ref b1 :: st) u P = (xIs u b1 11 ∧ zr 279 5 [v0] st (xsI u b1 0 y1) P) := zr_PI k279_2
theorem k279_5 : xcd 279 5 = oAl 0 6 := rfl
theorem r279_5 : zr 279 5 [.ref a0] st u P = zr 279 6 [.ref a0] (.ref a0 :: st) u P := zr_Al k279_5 rfl
theorem k279_6 : xcd 279 6 = oGI 11 7 9 := rfl
theorem r279_6 : zr 279 6 [v0] (.ref b1 :: st) u P = (xIs u b1 11 ∧ zr 279 9 [v0] (.int (xI u b1 7) :: st) u P) := zr_GI k279_6
theorem k279_9 : xcd 279 9 = oIf (fun x => decide (x = 0)) 23 12 := rfl
theorem r279_9 : zr 279 9 [v0] (.int y1 :: st) u P = (if y1 = 0 then zr 279 23 [v0] st u P else zr 279 12 [v0] st u P) := zr_If k279_9
theorem k279_12 : xcd 279 12 = oAl 0 13 := rfl
theorem r279_12 : zr 279 12 [.ref a0] st u P = zr 279 13 [.ref a0] (.ref a0 :: st) u P := zr_Al k279_12 rfl
theorem k279_13 : xcd 279 13 = oAl 0 14 := rfl
theorem r279_13 : zr 279 13 [.ref a0] st u P = zr 279 14 [.ref a0] (.ref a0 :: st) u P := zr_Al k279_13 rfl
theorem k279_14 : xcd 279 14 = oGI 11 27 17 := rfl
theorem r279_14 : zr 279 14 [v0] (.ref b1 :: st) u P = (xIs u b1 11 ∧ zr 279 17 [v0] (.int (xI u b1 27) :: st) u P) := zr_GI k279_14
theorem k279_17 : xcd 279 17 = oCalV 11 174 1 20 := rfl
theorem r279_17 : zr 279 17 [v0] (.int y1 :: .ref b8 :: st) u P = ((xIs u b8 11 ∧ xcat st ≤ 8) ∧ zr 174 0 [.ref b8, .int y1] [] u (fun r u2 => zr 279 20 [v0] (r.toList ++ st) u2 P)) := zr_CV k279_17 rfl rfl rfl ⟨Nat.le_of_ble_eq_true rfl, Nat.succ_ne_zero _, by decide⟩ rfl
theorem k279_20 : xcd 279 20 = oGoto 28 := rfl
theorem r279_20 : zr 279 20 [v0] st u P = zr 279 28 [v0] st u P := zr_Goto k279_20
theorem k279_23 : xcd 279 23 = oAl 0 24 := rfl
theorem r279_23 : zr 279 23 [.ref a0] st u P = zr 279 24 [.ref a0] (.ref a0 :: st) u P := zr_Al k279_23 rfl
theorem k279_24 : xcd 279 24 = oI 1 25 := rfl
theorem r279_24 : zr 279 24 [v0] st u P = zr 279 25 [v0] (.int 1 :: st) u P := zr_I k279_24
theorem k279_25 : xcd 279 25 = oCalV 11 172 1 28 := rfl
theorem r279_25 : zr 279 25 [v0] (.int y1 :: .ref b8 :: st) u P = ((xIs u b8 11 ∧ xcat st ≤ 8) ∧ zr 172 0 [.ref b8, .int y1] [] u (fun r u2 => zr 279 28 [v0] (r.toList ++ st) u2 P)) := zr_CV k279_25 rfl rfl rfl ⟨Nat.le_of_ble_eq_true rfl, Nat.succ_ne_zero _, by decide⟩ rfl
theorem k279_28 : xcd 279 28 = oRi 0 := rfl
theorem r279_28 : zr 279 28 [v0] [.int y1] u P = P (some (.int y1)) u := zr_Ri k279_28
theorem k280_0 : xcd 280 0 = oAl 0 1 := rfl
theorem r280_0 : zr 280 0 [.ref a0, v1, v2, v3, v4] st u P = zr 280 1 [.ref a0, v1, v2, v3, v4] (.ref a0 :: st) u P := zr_Al k280_0 rfl
theorem k280_1 : xcd 280 1 = oI 0 2 := rfl
theorem r280_1 : zr 280 1 [v0, v1, v2, v3, v4] st u P = zr 280 2 [v0, v1, v2, v3, v4] (.int 0 :: st) u P := zr_I k280_1
theorem k280_2 : xcd 280 2 = oPI 11 0 5 := rfl
theorem r280_2 : zr 280 2 [v0, v1, v2, v3, v4] (.int y1 :: .ref b1 :: st) u P = (xIs u b1 11 ∧ zr 280 5 [v0, v1, v2, v3, v4] st (xsI u b1 0 y1) P) := zr_PI k280_2
theorem k280_5 : xcd 280 5 = oAl 0 6 := rfl
theorem r280_5 : zr 280 5 [.ref a0, v1, v2, v3, v4] st u P = zr 280 6 [.ref a0, v1, v2, v3, v4] (.ref a0 :: st) u P := zr_Al k280_5 rfl
theorem k280_6 : xcd 280 6 = oIl 1 7 := rfl
theorem r280_6 : zr 280 6 [v0, .int x1, v2, v3, v4] st u P = zr 280 7 [v0, .int x1, v2, v3, v4] (.int x1 :: st) u P := zr_Il k280_6 rfl
theorem k280_7 : xcd 280 7 = oCalV 11 277 1 10 := rfl
theorem r280_7 : zr 280 7 [v0, v1, v2, v3, v4] (.int y1 :: .ref b8 :: st) u P = ((xIs u b8 11 ∧ xcat st ≤ 8) ∧ zr 277 0 [.ref b8, .int y1] [] u (fun r u2 => zr 280 10 [v0, v1, v2, v3, v4] (r.toList ++ st) u2 P)) := zr_CV k280_7 rfl rfl rfl ⟨Nat.le_of_ble_eq_true rfl, Nat.succ_ne_zero _, by decide⟩ rfl
theorem k280_10 : xcd 280 10 = oIf (fun x => decide (x = 0)) 22 13 := rfl
theorem r280_10 : zr 280 10 [v0, v1, v2, v3, v4] (.int y1 :: st) u P = (if y1 = 0 then zr 280 22 [v0, v1, v2, v3, v4] st u P else zr 280 13 [v0, v1, v2, v3, v4] st u P) := zr_If k280_10
theorem k280_13 : xcd 280 13 = oIl 2 14 := rfl
theorem r280_13 : zr 280 13 [v0, v1, .int x2, v3, v4] st u P = zr 280 14 [v0, v1, .int x2, v3, v4] (.int x2 :: st) u P := zr_Il k280_13 rfl
theorem k280_14 : xcd 280 14 = oI 0 15 := rfl
theorem r280_14 : zr 280 14 [v0, v1, v2, v3, v4] st u P = zr 280 15 [v0, v1, v2, v3, v4] (.int 0 :: st) u P := zr_I k280_14
theorem k280_15 : xcd 280 15 = oI 1 16 := rfl
theorem r280_15 : zr 280 15 [v0, v1, v2, v3, v4] st u P = zr 280 16 [v0, v1, v2, v3, v4] (.int 1 :: st) u P := zr_I k280_15
theorem k280_16 : xcd 280 16 = oCal 175 3 19 := rfl
theorem r280_16 : zr 280 16 [v0, v1, v2, v3, v4] (.int y3 :: .int y2 :: .int y1 :: st) u P = (xcat st ≤ 8 ∧ zr 175 0 [.int y1, .int y2, .int y3] [] u (fun r u2 => zr 280 19 [v0, v1, v2, v3, v4] (r.toList ++ st) u2 P)) := zr_CS k280_16 (Nat.le_add_left _ _) rfl rfl ⟨Nat.le_of_ble_eq_true rfl, Nat.succ_ne_zero _, by decide⟩ rfl
theorem k280_19 : xcd 280 19 = oIf (fun x => decide (¬ x = 0)) 28 22 := rfl
theorem r280_19 : zr 280 19 [v0, v1, v2, v3, v4] (.int y1 :: st) u P = (if ¬ y1 = 0 then zr 280 28 [v0, v1, v2, v3, v4] st u P else zr 280 22 [v0, v1, v2, v3, v4] st u P) := zr_If k280_19
theorem k280_22 : xcd 280 22 = oAl 0 23 := rfl
theorem r280_22 : zr 280 22 [.ref a0, v1, v2, v3, v4] st u P = zr 280 23 [.ref a0, v1, v2, v3, v4] (.ref a0 :: st) u P := zr_Al k280_22 rfl
theorem k280_23 : xcd 280 23 = oI 1 24 := rfl
theorem r280_23 : zr 280 23 [v0, v1, v2, v3, v4] st u P = zr 280 24 [v0, v1, v2, v3, v4] (.int 1 :: st) u P := zr_I k280_23
theorem k280_24 : xcd 280 24 = oCalV 11 172 1 27 := rfl
theorem r280_24 : zr 280 24 [v0, v1, v2, v3, v4] (.int y1 :: .ref b8 :: st) u P = ((xIs u b8 11 ∧ xcat st ≤ 8) ∧ zr 172 0 [.ref b8, .int y1] [] u (fun r u2 => zr 280 27 [v0, v1, v2, v3, v4] (r.toList ++ st) u2 P)) := zr_CV k280_24 rfl rfl rfl ⟨Nat.le_of_ble_eq_true rfl, Nat.succ_ne_zero _, by decide⟩ rfl
theorem k280_27 : xcd 280 27 = oRi 0 := rfl
theorem r280_27 : zr 280 27 [v0, v1, v2, v3, v4] [.int y1] u P = P (some (.int y1)) u := zr_Ri k280_27
theorem k280_28 : xcd 280 28 = oIl 2 29 := rfl
theorem r280_28 : zr 280 28 [v0, v1, .int x2, v3, v4] st u P = zr 280 29 [v0, v1, .int x2, v3, v4] (.int x2 :: st) u P := zr_Il k280_28 rfl
theorem k280_29 : xcd 280 29 = oIf (fun x => decide (¬ x = 0)) 43 32 := rfl
theorem r280_29 : zr 280 29 [v0, v1, v2, v3, v4] (.int y1 :: st) u P = (if ¬ y1 = 0 then zr 280 43 [v0, v1, v2, v3, v4] st u P else zr 280 32 [v0, v1, v2, v3, v4] st u P) := zr_If k280_29
theorem k280_32 : xcd 280 32 = oAl 0 33 := rfl
theorem r280_32 : zr 280 32 [.ref a0, v1, v2, v3, v4] st u P = zr 280 33 [.ref a0, v1, v2, v3, v4] (.ref a0 :: st) u P := zr_Al k280_32 rfl
theorem k280_33 : xcd 280 33 = oAl 0 34 := rfl
theorem r280_33 : zr 280 33 [.ref a0, v1, v2, v3, v4] st u P = zr 280 34 [.ref a0, v1, v2, v3, v4] (.ref a0 :: st) u P := zr_Al k280_33 rfl
theorem k280_34 : xcd 280 34 = oGR 11 25 37 := rfl
theorem r280_34 : zr 280 34 [v0, v1, v2, v3, v4] (.ref b1 :: st) u P = (xIs u b1 11 ∧ ∃ b, xR u b1 25 = some b ∧ zr 280 37 [v0, v1, v2, v3, v4] (.ref b :: st) u P) := zr_GR k280_34
theorem k280_37 : xcd 280 37 = oIl 1 38 := rfl
theorem r280_37 : zr 280 37 [v0, .int x1, v2, v3, v4] st u P = zr 280 38 [v0, .int x1, v2, v3, v4] (.int x1 :: st) u P := zr_Il k280_37 rfl
theorem k280_38 : xcd 280 38 = oLd 13 39 := rfl
theorem r280_38 : zr 280 38 [v0, v1, v2, v3, v4] (.int y1 :: .ref b1 :: st) u P = ((xIs u b1 13 ∧ xinb y1 (xN u b1)) ∧ zr 280 39 [v0, v1, v2, v3, v4] (.int (xI u b1 (xix y1)) :: st) u P) := zr_Ld k280_38
theorem k280_39 : xcd 280 39 = oCalV 11 174 1 42 := rfl
theorem r280_39 : zr 280 39 [v0, v1, v2, v3, v4] (.int y1 :: .ref b8 :: st) u P = ((xIs u b8 11 ∧ xcat st ≤ 8) ∧ zr 174 0 [.ref b8, .int y1] [] u (fun r u2 => zr 280 42 [v0, v1, v2, v3, v4] (r.toList ++ st) u2 P)) := zr_CV k280_39 rfl rfl rfl ⟨Nat.le_of_ble_eq_true rfl, Nat.succ_ne_zero _, by decide⟩ rfl
theorem k280_42 : xcd 280 42 = oRi 0 := rfl
theorem r280_42 : zr 280 42 [v0, v1, v2, v3, v4] [.int y1] u P = P (some (.int y1)) u := zr_Ri k280_42
theorem k280_43 : xcd 280 43 = oI 0 44 := rfl
theorem r280_43 : zr 280 43 [v0, v1, v2, v3, v4] st u P = zr 280 44 [v0, v1, v2, v3, v4] (.int 0 :: st) u P := zr_I k280_43
theorem k280_44 : xcd 280 44 = oIs 3 45 := rfl
theorem r280_44 : zr 280 44 [v0, v1, .int x2, v3, v4] (.int y1 :: st) u P = zr 280 45 [v0, v1, .int x2, .int y1, v4] st u P := zr_Is k280_44 ⟨Nat.le_of_ble_eq_true rfl, rfl⟩
theorem k280_45 : xcd 280 45 = oI 0 46 := rfl
theorem r280_45 : zr 280 45 [v0, v1, v2, v3, v4] st u P = zr 280 46 [v0, v1, v2, v3, v4] (.int 0 :: st) u P := zr_I k280_45
theorem k280_46 : xcd 280 46 = oIs 4 48 := rfl
theorem r280_46 : zr 280 46 [v0, v1, v2, .int x3, v4] (.int y1 :: st) u P = zr 280 48 [v0, v1, v2, .int x3, .int y1] st u P := zr_Is k280_46 ⟨Nat.le_of_ble_eq_true rfl, rfl⟩
theorem k280_48 : xcd 280 48 = oIl 4 50 := rfl
theorem r280_48 : zr 280 48 [v0, v1, v2, v3, .int x4] st u P = zr 280 50 [v0, v1, v2, v3, .int x4] (.int x4 :: st) u P := zr_Il k280_48 rfl
theorem k280_50 : xcd 280 50 = oAl 0 51 := rfl
theorem r280_50 : zr 280 50 [.ref a0, v1, v2, v3, v4] st u P = zr 280 51 [.ref a0, v1, v2, v3, v4] (.ref a0 :: st) u P := zr_Al k280_50 rfl
theorem k280_51 : xcd 280 51 = oGI 11 20 54 := rfl
theorem r280_51 : zr 280 51 [v0, v1, v2, v3, v4] (.ref b1 :: st) u P = (xIs u b1 11 ∧ zr 280 54 [v0, v1, v2, v3, v4] (.int (xI u b1 20) :: st) u P) := zr_GI k280_51
theorem k280_54 : xcd 280 54 = oCmp (fun x y => decide (y ≤ x)) 85 57 := rfl
theorem r280_54 : zr 280 54 [v0, v1, v2, v3, v4] (.int y1 :: .int y2 :: st) u P = (if y1 ≤ y2 then zr 280 85 [v0, v1, v2, v3, v4] st u P else zr 280 57 [v0, v1, v2, v3, v4] st u P) := zr_Cmp k280_54
theorem k280_57 : xcd 280 57 = oIl 3 58 := rfl
theorem r280_57 : zr 280 57 [v0, v1, v2, .int x3, v4] st u P = zr 280 58 [v0, v1, v2, .int x3, v4] (.int x3 :: st) u P := zr_Il k280_57 rfl
theorem k280_58 : xcd 280 58 = oAl 0 59 := rfl
theorem r280_58 : zr 280 58 [.ref a0, v1, v2, v3, v4] st u P = zr 280 59 [.ref a0, v1, v2, v3, v4] (.ref a0 :: st) u P := zr_Al k280_58 rfl
theorem k280_59 : xcd 280 59 = oIl 4 61 := rfl
theorem r280_59 : zr 280 59 [v0, v1, v2, v3, .int x4] st u P = zr 280 61 [v0, v1, v2, v3, .int x4] (.int x4 :: st) u P := zr_Il k280_59 rfl
theorem k280_61 : xcd 280 61 = oI 8 63 := rfl
theorem r280_61 : zr 280 61 [v0, v1, v2, v3, v4] st u P = zr 280 63 [v0, v1, v2, v3, v4] (.int 8 :: st) u P := zr_I k280_61
theorem k280_63 : xcd 280 63 = oCalV 11 262 2 66 := rfl
theorem r280_63 : zr 280 63 [v0, v1, v2, v3, v4] (.int y2 :: .int y1 :: .ref b8 :: st) u P = ((xIs u b8 11 ∧ xcat st ≤ 8) ∧ zr 262 0 [.ref b8, .int y1, .int y2] [] u (fun r u2 => zr 280 66 [v0, v1, v2, v3, v4] (r.toList ++ st) u2 P)) := zr_CV k280_63 rfl rfl rfl ⟨Nat.le_of_ble_eq_true rfl, Nat.succ_ne_zero _, by decide⟩ rfl
theorem k280_66 : xcd 280 66 = oIl 1 67 := rfl
theorem r280_66 : zr 280 66 [v0, .int x1, v2, v3, v4] st u P = zr 280 67 [v0, .int x1, v2, v3, v4] (.int x1 :: st) u P := zr_Il k280_66 rfl
theorem k280_67 : xcd 280 67 = oI 1 68 := rfl
theorem r280_67 : zr 280 67 [v0, v1, v2, v3, v4] st u P = zr 280 68 [v0, v1, v2, v3, v4] (.int 1 :: st) u P := zr_I k280_67
theorem k280_68 : xcd 280 68 = oB (fun x y => x + y) 69 := rfl
theorem r280_68 : zr 280 68 [v0, v1, v2, v3, v4] (.int y1 :: .int y2 :: st) u P = zr 280 69 [v0, v1, v2, v3, v4] (.int (y2 + y1) :: st) u P := zr_B k280_68
theorem k280_69 : xcd 280 69 = oCmp (fun x y => decide (¬ x = y)) 76 72 := rfl
theorem r280_69 : zr 280 69 [v0, v1, v2, v3, v4] (.int y1 :: .int y2 :: st) u P = (if ¬ y2 = y1 then zr 280 76 [v0, v1, v2, v3, v4] st u P else zr 280 72 [v0, v1, v2, v3, v4] st u P) := zr_Cmp k280_69
theorem k280_72 : xcd 280 72 = oI 1 73 := rfl
theorem r280_72 : zr 280 72 [v0, v1, v2, v3, v4] st u P = zr 280 73 [v0, v1, v2, v3, v4] (.int 1 :: st) u P := zr_I k280_72
theorem k280_73 : xcd 280 73 = oGoto 77 := rfl
theorem r280_73 : zr 280 73 [v0, v1, v2, v3, v4] st u P = zr 280 77 [v0, v1, v2, v3, v4] st u P := zr_Goto k280_73
theorem k280_76 : xcd 280 76 = oI 0 77 := rfl
theorem r280_76 : zr 280 76 [v0, v1, v2, v3, v4] st u P = zr 280 77 [v0, v1, v2, v3, v4] (.int 0 :: st) u P := zr_I k280_76
theorem k280_77 : xcd 280 77 = oB (fun x y => x + y) 78 := rfl
theorem r280_77 : zr 280 77 [v0, v1, v2, v3, v4] (.int y1 :: .int y2 :: st) u P = zr 280 78 [v0, v1, v2, v3, v4] (.int (y2 + y1) :: st) u P := zr_B k280_77
theorem k280_78 : xcd 280 78 = oIs 3 79 := rfl
theorem r280_78 : zr 280 78 [v0, v1, .int x2, v3, v4] (.int y1 :: st) u P = zr 280 79 [v0, v1, .int x2, .int y1, v4] st u P := zr_Is k280_78 ⟨Nat.le_of_ble_eq_true rfl, rfl⟩
theorem k280_79 : xcd 280 79 = oInc 4 1 82 := rfl
theorem r280_79 : zr 280 79 [v0, v1, v2, .int x3, .int x4] st u P = zr 280 82 [v0, v1, v2, .int x3, .int (x4 + 1)] st u P := zr_Inc k280_79 rfl rfl
theorem k280_82 : xcd 280 82 = oGoto 48 := rfl
theorem r280_82 : zr 280 82 [v0, v1, v2, v3, v4] st u P = zr 280 48 [v0, v1, v2, v3, v4] st u P := zr_Goto k280_82
theorem k280_85 : xcd 280 85 = oAl 0 86 := rfl
theorem r280_85 : zr 280 85 [.ref a0, v1, v2, v3, v4] st u P = zr 280 86 [.ref a0, v1, v2, v3, v4] (.ref a0 :: st) u P := zr_Al k280_85 rfl
theorem k280_86 : xcd 280 86 = oIl 3 87 := rfl
theorem r280_86 : zr 280 86 [v0, v1, v2, .int x3, v4] st u P = zr 280 87 [v0, v1, v2, .int x3, v4] (.int x3 :: st) u P := zr_Il k280_86 rfl
theorem k280_87 : xcd 280 87 = oCalV 11 174 1 90 := rfl
theorem r280_87 : zr 280 87 [v0, v1, v2, v3, v4] (.int y1 :: .ref b8 :: st) u P = ((xIs u b8 11 ∧ xcat st ≤ 8) ∧ zr 174 0 [.ref b8, .int y1] [] u (fun r u2 => zr 280 90 [v0, v1, v2, v3, v4] (r.toList ++ st) u2 P)) := zr_CV k280_87 rfl rfl rfl ⟨Nat.le_of_ble_eq_true rfl, Nat.succ_ne_zero _, by decide⟩ rfl
theorem k280_90 : xcd 280 90 = oRi 0 := rfl
theorem r280_90 : zr 280 90 [v0, v1, v2, v3, v4] [.int y1] u P = P (some (.int y1)) u := zr_Ri k280_90
theorem k281_0 : xcd 281 0 = oAl 0 1 := rfl
theorem r281_0 : zr 281 0 [.ref a0, v1, v2, v3, v4] st u P = zr 281 1 [.ref a0, v1, v2, v3, v4] (.ref a0 :: st) u P := zr_Al k281_0 rfl
theorem k281_1 : xcd 281 1 = oI 0 2 := rfl
theorem r281_1 : zr 281 1 [v0, v1, v2, v3, v4] st u P = zr 281 2 [v0, v1, v2, v3, v4] (.int 0 :: st) u P := zr_I k281_1
theorem k281_2 : xcd 281 2 = oPI 11 0 5 := rfl
theorem r281_2 : zr 281 2 [v0, v1, v2, v3, v4] (.int y1 :: .ref b1 :: st) u P = (xIs u b1 11 ∧ zr 281 5 [v0, v1, v2, v3, v4] st (xsI u b1 0 y1) P) := zr_PI k281_2
theorem k281_5 : xcd 281 5 = oAl 0 6 := rfl
theorem r281_5 : zr 281 5 [.ref a0, v1, v2, v3, v4] st u P = zr 281 6 [.ref a0, v1, v2, v3, v4] (.ref a0 :: st) u P := zr_Al k281_5 rfl
theorem k281_6 : xcd 281 6 = oIl 1 7 := rfl
theorem r281_6 : zr 281 6 [v0, .int x1, v2, v3, v4] st u P = zr 281 7 [v0, .int x1, v2, v3, v4] (.int x1 :: st) u P := zr_Il k281_6 rfl
theorem k281_7 : xcd 281 7 = oCalV 11 277 1 10 := rfl
theorem r281_7 : zr 281 7 [v0, v1, v2, v3, v4] (.int y1 :: .ref b8 :: st) u P = ((xIs u b8 11 ∧ xcat st ≤ 8) ∧ zr 277 0 [.ref b8, .int y1] [] u (fun r u2 => zr 281 10 [v0, v1, v2, v3, v4] (r.toList ++ st) u2 P)) := zr_CV k281_7 rfl rfl rfl ⟨Nat.le_of_ble_eq_true rfl, Nat.succ_ne_zero _, by decide⟩ rfl
theorem k281_10 : xcd 281 10 = oIf (fun x => decide (x = 0)) 21 13 := rfl
theorem r281_10 : zr 281 10 [v0, v1, v2, v3, v4] (.int y1 :: st) u P = (if y1 = 0 then zr 281 21 [v0, v1, v2, v3, v4] st u P else zr 281 13 [v0, v1, v2, v3, v4] st u P) := zr_If k281_10
theorem k281_13 : xcd 281 13 = oAl 0 14 := rfl
theorem r281_13 : zr 281 13 [.ref a0, v1, v2, v3, v4] st u P = zr 281 14 [.ref a0, v1, v2, v3, v4] (.ref a0 :: st) u P := zr_Al k281_13 rfl
theorem k281_14 : xcd 281 14 = oIl 2 15 := rfl
theorem r281_14 : zr 281 14 [v0, v1, .int x2, v3, v4] st u P = zr 281 15 [v0, v1, .int x2, v3, v4] (.int x2 :: st) u P := zr_Il k281_14 rfl
theorem k281_15 : xcd 281 15 = oCalV 11 278 1 18 := rfl
theorem r281_15 : zr 281 15 [v0, v1, v2, v3, v4] (.int y1 :: .ref b8 :: st) u P = ((xIs u b8 11 ∧ xcat st ≤ 8) ∧ zr 278 0 [.ref b8, .int y1] [] u (fun r u2 => zr 281 18 [v0, v1, v2, v3, v4] (r.toList ++ st) u2 P)) := zr_CV k281_15 rfl rfl rfl ⟨Nat.le_of_ble_eq_true rfl, Nat.succ_ne_zero _, by decide⟩ rfl
theorem k281_18 : xcd 281 18 = oIf (fun x => decide (¬ x = 0)) 27 21 := rfl
theorem r281_18 : zr 281 18 [v0, v1, v2, v3, v4] (.int y1 :: st) u P = (if ¬ y1 = 0 then zr 281 27 [v0, v1, v2, v3, v4] st u P else zr 281 21 [v0, v1, v2, v3, v4] st u P) := zr_If k281_18
theorem k281_21 : xcd 281 21 = oAl 0 22 := rfl
theorem r281_21 : zr 281 21 [.ref a0, v1, v2, v3, v4] st u P = zr 281 22 [.ref a0, v1, v2, v3, v4] (.ref a0 :: st) u P := zr_Al k281_21 rfl
theorem k281_22 : xcd 281 22 = oI 1 23 := rfl
theorem r281_22 : zr 281 22 [v0, v1, v2, v3, v4] st u P = zr 281 23 [v0, v1, v2, v3, v4] (.int 1 :: st) u P := zr_I k281_22
theorem k281_23 : xcd 281 23 = oCalV 11 173 1 26 := rfl
theorem r281_23 : zr 281 23 [v0, v1, v2, v3, v4] (.int y1 :: .ref b8 :: st) u P = ((xIs u b8 11 ∧ xcat st ≤ 8) ∧ zr 173 0 [.ref b8, .int y1] [] u (fun r u2 => zr 281 26 [v0, v1, v2, v3, v4] (r.toList ++ st) u2 P)) := zr_CV k281_23 rfl rfl rfl ⟨Nat.le_of_ble_eq_true rfl, Nat.succ_ne_zero _, by decide⟩ rfl
theorem k281_26 : xcd 281 26 = oRi 0 := rfl
theorem r281_26 : zr 281 26 [v0, v1, v2, v3, v4] [.int y1] u P = P (some (.int y1)) u := zr_Ri k281_26
theorem k281_27 : xcd 281 27 = oI 0 28 := rfl
theorem r281_27 : zr 281 27 [v0, v1, v2, v3, v4] st u P = zr 281 28 [v0, v1, v2, v3, v4] (.int 0 :: st) u P := zr_I k281_27
theorem k281_28 : xcd 281 28 = oIs 3 29 := rfl
theorem r281_28 : zr 281 28 [v0, v1, .int x2, v3, v4] (.int y1 :: st) u P = zr 281 29 [v0, v1, .int x2, .int y1, v4] st u P := zr_Is k281_28 ⟨Nat.le_of_ble_eq_true rfl, rfl⟩
theorem k281_29 : xcd 281 29 = oI 0 30 := rfl
theorem r281_29 : zr 281 29 [v0, v1, v2, v3, v4] st u P = zr 281 30 [v0, v1, v2, v3, v4] (.int 0 :: st) u P := zr_I k281_29
theorem k281_30 : xcd 281 30 = oIs 4 32 := rfl
theorem r281_30 : zr 281 30 [v0, v1, v2, .int x3, v4] (.int y1 :: st) u P = zr 281 32 [v0, v1, v2, .int x3, .int y1] st u P := zr_Is k281_30 ⟨Nat.le_of_ble_eq_true rfl, rfl⟩
theorem k281_32 : xcd 281 32 = oIl 4 34 := rfl
theorem r281_32 : zr 281 32 [v0, v1, v2, v3, .int x4] st u P = zr 281 34 [v0, v1, v2, v3, .int x4] (.int x4 :: st) u P := zr_Il k281_32 rfl
theorem k281_34 : xcd 281 34 = oAl 0 35 := rfl
theorem r281_34 : zr 281 34 [.ref a0, v1, v2, v3, v4] st u P = zr 281 35 [.ref a0, v1, v2, v3, v4] (.ref a0 :: st) u P := zr_Al k281_34 rfl
theorem k281_35 : xcd 281 35 = oGR 11 3 38 := rfl
theorem r281_35 : zr 281 35 [v0, v1, v2, v3, v4] (.ref b1 :: st) u P = (xIs u b1 11 ∧ ∃ b, xR u b1 3 = some b ∧ zr 281 38 [v0, v1, v2, v3, v4] (.ref b :: st) u P) := zr_GR k281_35
theorem k281_38 : xcd 281 38 = oI 3 39 := rfl
theorem r281_38 : zr 281 38 [v0, v1, v2, v3, v4] st u P = zr 281 39 [v0, v1, v2, v3, v4] (.int 3 :: st) u P := zr_I k281_38
theorem k281_39 : xcd 281 39 = oLd 13 40 := rfl
theorem r281_39 : zr 281 39 [v0, v1, v2, v3, v4] (.int y1 :: .ref b1 :: st) u P = ((xIs u b1 13 ∧ xinb y1 (xN u b1)) ∧ zr 281 40 [v0, v1, v2, v3, v4] (.int (xI u b1 (xix y1)) :: st) u P) := zr_Ld k281_39
theorem k281_40 : xcd 281 40 = oCmp (fun x y => decide (y ≤ x)) 79 43 := rfl
theorem r281_40 : zr 281 40 [v0, v1, v2, v3, v4] (.int y1 :: .int y2 :: st) u P = (if y1 ≤ y2 then zr 281 79 [v0, v1, v2, v3, v4] st u P else zr 281 43 [v0, v1, v2, v3, v4] st u P) := zr_Cmp k281_40
theorem k281_43 : xcd 281 43 = oIl 3 44 := rfl
theorem r281_43 : zr 281 43 [v0, v1, v2, .int x3, v4] st u P = zr 281 44 [v0, v1, v2, .int x3, v4] (.int x3 :: st) u P := zr_Il k281_43 rfl
theorem k281_44 : xcd 281 44 = oIl 2 45 := rfl
theorem r281_44 : zr 281 44 [v0, v1, .int x2, v3, v4] st u P = zr 281 45 [v0, v1, .int x2, v3, v4] (.int x2 :: st) u P := zr_Il k281_44 rfl
theorem k281_45 : xcd 281 45 = oI (-1) 46 := rfl
theorem r281_45 : zr 281 45 [v0, v1, v2, v3, v4] st u P = zr 281 46 [v0, v1, v2, v3, v4] (.int (-1) :: st) u P := zr_I k281_45
theorem k281_46 : xcd 281 46 = oCmp (fun x y => decide (x = y)) 55 49 := rfl
theorem r281_46 : zr 281 46 [v0, v1, v2, v3, v4] (.int y1 :: .int y2 :: st) u P = (if y2 = y1 then zr 281 55 [v0, v1, v2, v3, v4] st u P else zr 281 49 [v0, v1, v2, v3, v4] st u P) := zr_Cmp k281_46
theorem k281_49 : xcd 281 49 = oIl 4 51 := rfl
theorem r281_49 : zr 281 49 [v0, v1, v2, v3, .int x4] st u P = zr 281 51 [v0, v1, v2, v3, .int x4] (.int x4 :: st) u P := zr_Il k281_49 rfl
theorem k281_51 : xcd 281 51 = oIl 2 52 := rfl
theorem r281_51 : zr 281 51 [v0, v1, .int x2, v3, v4] st u P = zr 281 52 [v0, v1, .int x2, v3, v4] (.int x2 :: st) u P := zr_Il k281_51 rfl
theorem k281_52 : xcd 281 52 = oCmp (fun x y => decide (¬ x = y)) 70 55 := rfl
theorem r281_52 : zr 281 52 [v0, v1, v2, v3, v4] (.int y1 :: .int y2 :: st) u P = (if ¬ y2 = y1 then zr 281 70 [v0, v1, v2, v3, v4] st u P else zr 281 55 [v0, v1, v2, v3, v4] st u P) := zr_Cmp k281_52
theorem k281_55 : xcd 281 55 = oAl 0 56 := rfl
theorem r281_55 : zr 281 55 [.ref a0, v1, v2, v3, v4] st u P = zr 281 56 [.ref a0, v1, v2, v3, v4] (.ref a0 :: st) u P := zr_Al k281_55 rfl
theorem k281_56 : xcd 281 56 = oGR 11 26 59 := rfl
theorem r281_56 : zr 281 56 [v0, v1, v2, v3, v4] (.ref b1 :: st) u P = (xIs u b1 11 ∧ ∃ b, xR u b1 26 = some b ∧ zr 281 59 [v0, v1, v2, v3, v4] (.ref b :: st) u P) := zr_GR k281_56
theorem k281_59 : xcd 281 59 = oI 10 61 := rfl
theorem r281_59 : zr 281 59 [v0, v1, v2, v3, v4] st u P = zr 281 61 [v0, v1, v2, v3, v4] (.int 10 :: st) u P := zr_I k281_59
theorem k281_61 : xcd 281 61 = oIl 1 62 := rfl
theorem r281_61 : zr 281 61 [v0, .int x1, v2, v3, v4] st u P = zr 281 62 [v0, .int x1, v2, v3, v4] (.int x1 :: st) u P := zr_Il k281_61 rfl
theorem k281_62 : xcd 281 62 = oB (fun x y => x * y) 63 := rfl
theorem r281_62 : zr 281 62 [v0, v1, v2, v3, v4] (.int y1 :: .int y2 :: st) u P = zr 281 63 [v0, v1, v2, v3, v4] (.int (y2 * y1) :: st) u P := zr_B k281_62
theorem k281_63 : xcd 281 63 = oIl 4 65 := rfl
theorem r281_63 : zr 281 63 [v0, v1, v2, v3, .int x4] st u P = zr 281 65 [v0, v1, v2, v3, .int x4] (.int x4 :: st) u P := zr_Il k281_63 rfl
theorem k281_65 : xcd 281 65 = oB (fun x y => x + y) 66 := rfl
theorem r281_65 : zr 281 65 [v0, v1, v2, v3, v4] (.int y1 :: .int y2 :: st) u P = zr 281 66 [v0, v1, v2, v3, v4] (.int (y2 + y1) :: st) u P := zr_B k281_65
theorem k281_66 : xcd 281 66 = oLd 13 67 := rfl
theorem r281_66 : zr 281 66 [v0, v1, v2, v3, v4] (.int y1 :: .ref b1 :: st) u P = ((xIs u b1 13 ∧ xinb y1 (xN u b1)) ∧ zr 281 67 [v0, v1, v2, v3, v4] (.int (xI u b1 (xix y1)) :: st) u P) := zr_Ld k281_66
theorem k281_67 : xcd 281 67 = oGoto 71 := rfl
theorem r281_67 : zr 281 67 [v0, v1, v2, v3, v4] st u P = zr 281 71 [v0, v1, v2, v3, v4] st u P := zr_Goto k281_67
theorem k281_70 : xcd 281 70 = oI 0 71 := rfl
theorem r281_70 : zr 281 70 [v0, v1, v2, v3, v4] st u P = zr 281 71 [v0, v1, v2, v3, v4] (.int 0 :: st) u P := zr_I k281_70
theorem k281_71 : xcd 281 71 = oB (fun x y => x + y) 72 := rfl
theorem r281_71 : zr 281 71 [v0, v1, v2, v3, v4] (.int y1 :: .int y2 :: st) u P = zr 281 72 [v0, v1, v2, v3, v4] (.int (y2 + y1) :: st) u P := zr_B k281_71
theorem k281_72 : xcd 281 72 = oIs 3 73 := rfl
theorem r281_72 : zr 281 72 [v0, v1, .int x2, v3, v4] (.int y1 :: st) u P = zr 281 73 [v0, v1, .int x2, .int y1, v4] st u P := zr_Is k281_72 ⟨Nat.le_of_ble_eq_true rfl, rfl⟩
theorem k281_73 : xcd 281 73 = oInc 4 1 76 := rfl
theorem r281_73 : zr 281 73 [v0, v1, v2, .int x3, .int x4] st u P = zr 281 76 [v0, v1, v2, .int x3, .int (x4 + 1)] st u P := zr_Inc k281_73 rfl rfl
theorem k281_76 : xcd 281 76 = oGoto 32 := rfl
theorem r281_76 : zr 281 76 [v0, v1, v2, v3, v4] st u P = zr 281 32 [v0, v1, v2, v3, v4] st u P := zr_Goto k281_76
theorem k281_79 : xcd 281 79 = oAl 0 80 := rfl
theorem r281_79 : zr 281 79 [.ref a0, v1, v2, v3, v4] st u P = zr 281 80 [.ref a0, v1, v2, v3, v4] (.ref a0 :: st) u P := zr_Al k281_79 rfl
theorem k281_80 : xcd 281 80 = oIl 3 81 := rfl
theorem r281_80 : zr 281 80 [v0, v1, v2, .int x3, v4] st u P = zr 281 81 [v0, v1, v2, .int x3, v4] (.int x3 :: st) u P := zr_Il k281_80 rfl
theorem k281_81 : xcd 281 81 = oCalV 11 174 1 84 := rfl
theorem r281_81 : zr 281 81 [v0, v1, v2, v3, v4] (.int y1 :: .ref b8 :: st) u P = ((xIs u b8 11 ∧ xcat st ≤ 8) ∧ zr 174 0 [.ref b8, .int y1] [] u (fun r u2 => zr 281 84 [v0, v1, v2, v3, v4] (r.toList ++ st) u2 P)) := zr_CV k281_81 rfl rfl rfl ⟨Nat.le_of_ble_eq_true rfl, Nat.succ_ne_zero _, by decide⟩ rfl
theorem k281_84 : xcd 281 84 = oRi 0 := rfl
theorem r281_84 : zr 281 84 [v0, v1, v2, v3, v4] [.int y1] u P = P (some (.int y1)) u := zr_Ri k281_84
theorem k282_0 : xcd 282 0 = oIl 1 1 := rfl
theorem r282_0 : zr 282 0 [v0, .int x1] st u P = zr 282 1 [v0, .int x1] (.int x1 :: st) u P := zr_Il k282_0 rfl
theorem k282_1 : xcd 282 1 = oCal 222 1 4 := rfl
theorem r282_1 : zr 282 1 [v0, v1] (.int y1 :: st) u P = (xcat st ≤ 8 ∧ zr 222 0 [.int y1] [] u (fun r u2 => zr 282 4 [v0, v1] (r.toList ++ st) u2 P)) := zr_CS k282_1 (Nat.le_add_left _ _) rfl rfl ⟨Nat.le_of_ble_eq_true rfl, Nat.succ_ne_zero _, by decide⟩ rfl
theorem k282_4 : xcd 282 4 = oIf (fun x => decide (x = 0)) 19 7 := rfl
theorem r282_4 : zr 282 4 [v0, v1] (.int y1 :: st) u P = (if y1 = 0 then zr 282 19 [v0, v1] st u P else zr 282 7 [v0, v1] st u P) := zr_If k282_4
theorem k282_7 : xcd 282 7 = oIl 1 8 := rfl
theorem r282_7 : zr 282 7 [v0, .int x1] st u P = zr 282 8 [v0, .int x1] (.int x1 :: st) u P := zr_Il k282_7 rfl
theorem k282_8 : xcd 282 8 = oAl 0 9 := rfl
theorem r282_8 : zr 282 8 [.ref a0, v1] st u P = zr 282 9 [.ref a0, v1] (.ref a0 :: st) u P := zr_Al k282_8 rfl
theorem k282_9 : xcd 282 9 = oCalV 11 274 0 12 := rfl
theorem r282_9 : zr 282 9 [v0, v1] (.ref b8 :: st) u P = ((xIs u b8 11 ∧ xcat st ≤ 8) ∧ zr 274 0 [.ref b8] [] u (fun r u2 => zr 282 12 [v0, v1] (r.toList ++ st) u2 P)) := zr_CV k282_9 rfl rfl rfl ⟨Nat.le_of_ble_eq_true rfl, Nat.succ_ne_zero _, by decide⟩ rfl
theorem k282_12 : xcd 282 12 = oCmp (fun x y => decide (x ≤ y)) 19 15 := rfl
theorem r282_12 : zr 282 12 [v0, v1] (.int y1 :: .int y2 :: st) u P = (if y2 ≤ y1 then zr 282 19 [v0, v1] st u P else zr 282 15 [v0, v1] st u P) := zr_Cmp k282_12
theorem k282_15 : xcd 282 15 = oI 1 16 := rfl
theorem r282_15 : zr 282 15 [v0, v1] st u P = zr 282 16 [v0, v1] (.int 1 :: st) u P := zr_I k282_15
theorem k282_16 : xcd 282 16 = oGoto 20 := rfl
theorem r282_16 : zr 282 16 [v0, v1] st u P = zr 282 20 [v0, v1] st u P := zr_Goto k282_16
theorem k282_19 : xcd 282 19 = oI 0 20 := rfl
theorem r282_19 : zr 282 19 [v0, v1] st u P = zr 282 20 [v0, v1] (.int 0 :: st) u P := zr_I k282_19
theorem k282_20 : xcd 282 20 = oRz 0 := rfl
theorem r282_20 : zr 282 20 [v0, v1] [.int y1] u P = ((y1 = 0 ∨ y1 = 1) ∧ P (some (.int y1)) u) := zr_Rz k282_20
theorem k283_0 : xcd 283 0 = oAl 0 1 := rfl
theorem r283_0 : zr 283 0 [.ref a0, v1, v2, v3, v4] st u P = zr 283 1 [.ref a0, v1, v2, v3, v4] (.ref a0 :: st) u P := zr_Al k283_0 rfl
theorem k283_1 : xcd 283 1 = oI 0 2 := rfl
theorem r283_1 : zr 283 1 [v0, v1, v2, v3, v4] st u P = zr 283 2 [v0, v1, v2, v3, v4] (.int 0 :: st) u P := zr_I k283_1
theorem k283_2 : xcd 283 2 = oPI 11 0 5 := rfl
theorem r283_2 : zr 283 2 [v0, v1, v2, v3, v4] (.int y1 :: .ref b1 :: st) u P = (xIs u b1 11 ∧ zr 283 5 [v0, v1, v2, v3, v4] st (xsI u b1 0 y1) P) := zr_PI k283_2
theorem k283_5 : xcd 283 5 = oAl 0 6 := rfl
theorem r283_5 : zr 283 5 [.ref a0, v1, v2, v3, v4] st u P = zr 283 6 [.ref a0, v1, v2, v3, v4] (.ref a0 :: st) u P := zr_Al k283_5 rfl
theorem k283_6 : xcd 283 6 = oGI 11 7 9 := rfl
theorem r283_6 : zr 283 6 [v0, v1, v2, v3, v4] (.ref b1 :: st) u P = (xIs u b1 11 ∧ zr 283 9 [v0, v1, v2, v3, v4] (.int (xI u b1 7) :: st) u P) := zr_GI k283_6
theorem k283_9 : xcd 283 9 = oIf (fun x => decide (x = 0)) 20 12 := rfl
theorem r283_9 : zr 283 9 [v0, v1, v2, v3, v4] (.int y1 :: st) u P = (if y1 = 0 then zr 283 20 [v0, v1, v2, v3, v4] st u P else zr 283 12 [v0, v1, v2, v3, v4] st u P) := zr_If k283_9
theorem k283_12 : xcd 283 12 = oAl 0 13 := rfl
theorem r283_12 : zr 283 12 [.ref a0, v1, v2, v3, v4] st u P = zr 283 13 [.ref a0, v1, v2, v3, v4] (.ref a0 :: st) u P := zr_Al k283_12 rfl
theorem k283_13 : xcd 283 13 = oIl 2 14 := rfl
theorem r283_13 : zr 283 13 [v0, v1, .int x2, v3, v4] st u P = zr 283 14 [v0, v1, .int x2, v3, v4] (.int x2 :: st) u P := zr_Il k283_13 rfl
theorem k283_14 : xcd 283 14 = oCalV 11 278 1 17 := rfl
theorem r283_14 : zr 283 14 [v0, v1, v2, v3, v4] (.int y1 :: .ref b8 :: st) u P = ((xIs u b8 11 ∧ xcat st ≤ 8) ∧ zr 278 0 [.ref b8, .int y1] [] u (fun r u2 => zr 283 17 [v0, v1, v2, v3, v4] (r.toList ++ st) u2 P)) := zr_CV k283_14 rfl rfl rfl ⟨Nat.le_of_ble_eq_true rfl, Nat.succ_ne_zero _, by decide⟩ rfl
theorem k283_17 : xcd 283 17 = oIf (fun x => decide (¬ x = 0)) 26 20 := rfl
theorem r283_17 : zr 283 17 [v0, v1, v2, v3, v4] (.int y1 :: st) u P = (if ¬ y1 = 0 then zr 283 26 [v0, v1, v2, v3, v4] st u P else zr 283 20 [v0, v1, v2, v3, v4] st u P) := zr_If k283_17
theorem k283_20 : xcd 283 20 = oAl 0 21 := rfl
theorem r283_20 : zr 283 20 [.ref a0, v1, v2, v3, v4] st u P = zr 283 21 [.ref a0, v1, v2, v3, v4] (.ref a0 :: st) u P := zr_Al k283_20 rfl
theorem k283_21 : xcd 283 21 = oI 1 22 := rfl
theorem r283_21 : zr 283 21 [v0, v1, v2, v3, v4] st u P = zr 283 22 [v0, v1, v2, v3, v4] (.int 1 :: st) u P := zr_I k283_21
theorem k283_22 : xcd 283 22 = oCalV 11 173 1 25 := rfl
theorem r283_22 : zr 283 22 [v0, v1, v2, v3, v4] (.int y1 :: .ref b8 :: st) u P = ((xIs u b8 11 ∧ xcat st ≤ 8) ∧ zr 173 0 [.ref b8, .int y1] [] u (fun r u2 => zr 283 25 [v0, v1, v2, v3, v4] (r.toList ++ st) u2 P)) := zr_CV k283_22 rfl rfl rfl ⟨Nat.le_of_ble_eq_true rfl, Nat.succ_ne_zero _, by decide⟩ rfl
theorem k283_25 : xcd 283 25 = oRi 0 := rfl
theorem r283_25 : zr 283 25 [v0, v1, v2, v3, v4] [.int y1] u P = P (some (.int y1)) u := zr_Ri k283_25
theorem k283_26 : xcd 283 26 = oAl 0 27 := rfl
theorem r283_26 : zr 283 26 [.ref a0, v1, v2, v3, v4] st u P = zr 283 27 [.ref a0, v1, v2, v3, v4] (.ref a0 :: st) u P := zr_Al k283_26 rfl
theorem k283_27 : xcd 283 27 = oIl 1 28 := rfl
theorem r283_27 : zr 283 27 [v0, .int x1, v2, v3, v4] st u P = zr 283 28 [v0, .int x1, v2, v3, v4] (.int x1 :: st) u P := zr_Il k283_27 rfl
theorem k283_28 : xcd 283 28 = oCalV 11 282 1 31 := rfl
theorem r283_28 : zr 283 28 [v0, v1, v2, v3, v4] (.int y1 :: .ref b8 :: st) u P = ((xIs u b8 11 ∧ xcat st ≤ 8) ∧ zr 282 0 [.ref b8, .int y1] [] u (fun r u2 => zr 283 31 [v0, v1, v2, v3, v4] (r.toList ++ st) u2 P)) := zr_CV k283_28 rfl rfl rfl ⟨Nat.le_of_ble_eq_true rfl, Nat.succ_ne_zero _, by decide⟩ rfl
theorem k283_31 : xcd 283 31 = oIf (fun x => decide (¬ x = 0)) 40 34 := rfl
theorem r283_31 : zr 283 31 [v0, v1, v2, v3, v4] (.int y1 :: st) u P = (if ¬ y1 = 0 then zr 283 40 [v0, v1, v2, v3, v4] st u P else zr 283 34 [v0, v1, v2, v3, v4] st u P) := zr_If k283_31
theorem k283_34 : xcd 283 34 = oAl 0 35 := rfl
theorem r283_34 : zr 283 34 [.ref a0, v1, v2, v3, v4] st u P = zr 283 35 [.ref a0, v1, v2, v3, v4] (.ref a0 :: st) u P := zr_Al k283_34 rfl
theorem k283_35 : xcd 283 35 = oI 2 36 := rfl
theorem r283_35 : zr 283 35 [v0, v1, v2, v3, v4] st u P = zr 283 36 [v0, v1, v2, v3, v4] (.int 2 :: st) u P := zr_I k283_35
theorem k283_36 : xcd 283 36 = oCalV 11 173 1 39 := rfl
theorem r283_36 : zr 283 36 [v0, v1, v2, v3, v4] (.int y1 :: .ref b8 :: st) u P = ((xIs u b8 11 ∧ xcat st ≤ 8) ∧ zr 173 0 [.ref b8, .int y1] [] u (fun r u2 => zr 283 39 [v0, v1, v2, v3, v4] (r.toList ++ st) u2 P)) := zr_CV k283_36 rfl rfl rfl ⟨Nat.le_of_ble_eq_true rfl, Nat.succ_ne_zero _, by decide⟩ rfl
theorem k283_39 : xcd 283 39 = oRi 0 := rfl
theorem r283_39 : zr 283 39 [v0, v1, v2, v3, v4] [.int y1] u P = P (some (.int y1)) u := zr_Ri k283_39
theorem k283_40 : xcd 283 40 = oI 0 41 := rfl
theorem r283_40 : zr 283 40 [v0, v1, v2, v3, v4] st u P = zr 283 41 [v0, v1, v2, v3, v4] (.int 0 :: st) u P := zr_I k283_40
theorem k283_41 : xcd 283 41 = oIs 3 42 := rfl
theorem r283_41 : zr 283 41 [v0, v1, .int x2, v3, v4] (.int y1 :: st) u P = zr 283 42 [v0, v1, .int x2, .int y1, v4] st u P := zr_Is k283_41 ⟨Nat.le_of_ble_eq_true rfl, rfl⟩
theorem k283_42 : xcd 283 42 = oI 0 43 := rfl
theorem r283_42 : zr 283 42 [v0, v1, v2, v3, v4] st u P = zr 283 43 [v0, v1, v2, v3, v4] (.int 0 :: st) u P := zr_I k283_42
theorem k283_43 : xcd 283 43 = oIs 4 45 := rfl
theorem r283_43 : zr 283 43 [v0, v1, v2, .int x3, v4] (.int y1 :: st) u P = zr 283 45 [v0, v1, v2, .int x3, .int y1] st u P := zr_Is k283_43 ⟨Nat.le_of_ble_eq_true rfl, rfl⟩
theorem k283_45 : xcd 283 45 = oIl 4 47 := rfl
theorem r283_45 : zr 283 45 [v0, v1, v2, v3, .int x4] st u P = zr 283 47 [v0, v1, v2, v3, .int x4] (.int x4 :: st) u P := zr_Il k283_45 rfl
theorem k283_47 : xcd 283 47 = oAl 0 48 := rfl
theorem r283_47 : zr 283 47 [.ref a0, v1, v2, v3, v4] st u P = zr 283 48 [.ref a0, v1, v2, v3, v4] (.ref a0 :: st) u P := zr_Al k283_47 rfl
theorem k283_48 : xcd 283 48 = oGR 11 3 51 := rfl
theorem r283_48 : zr 283 48 [v0, v1, v2, v3, v4] (.ref b1 :: st) u P = (xIs u b1 11 ∧ ∃ b, xR u b1 3 = some b ∧ zr 283 51 [v0, v1, v2, v3, v4] (.ref b :: st) u P) := zr_GR k283_48
theorem k283_51 : xcd 283 51 = oI 3 52 := rfl
theorem r283_51 : zr 283 51 [v0, v1, v2, v3, v4] st u P = zr 283 52 [v0, v1, v2, v3, v4] (.int 3 :: st) u P := zr_I k283_51
theorem k283_52 : xcd 283 52 = oLd 13 53 := rfl
theorem r283_52 : zr 283 52 [v0, v1, v2, v3, v4] (.int y1 :: .ref b1 :: st) u P = ((xIs u b1 13 ∧ xinb y1 (xN u b1)) ∧ zr 283 53 [v0, v1, v2, v3, v4] (.int (xI u b1 (xix y1)) :: st) u P) := zr_Ld k283_52
theorem k283_53 : xcd 283 53 = oCmp (fun x y => decide (y ≤ x)) 87 56 := rfl
theorem r283_53 : zr 283 53 [v0, v1, v2, v3, v4] (.int y1 :: .int y2 :: st) u P = (if y1 ≤ y2 then zr 283 87 [v0, v1, v2, v3, v4] st u P else zr 283 56 [v0, v1, v2, v3, v4] st u P) := zr_Cmp k283_53
theorem k283_56 : xcd 283 56 = oIl 3 57 := rfl
theorem r283_56 : zr 283 56 [v0, v1, v2, .int x3, v4] st u P = zr 283 57 [v0, v1, v2, .int x3, v4] (.int x3 :: st) u P := zr_Il k283_56 rfl
theorem k283_57 : xcd 283 57 = oIl 2 58 := rfl
theorem r283_57 : zr 283 57 [v0, v1, .int x2, v3, v4] st u P = zr 283 58 [v0, v1, .int x2, v3, v4] (.int x2 :: st) u P := zr_Il k283_57 rfl
theorem k283_58 : xcd 283 58 = oI (-1) 59 := rfl
theorem r283_58 : zr 283 58 [v0, v1, v2, v3, v4] st u P = zr 283 59 [v0, v1, v2, v3, v4] (.int (-1) :: st) u P := zr_I k283_58
theorem k283_59 : xcd 283 59 = oCmp (fun x y => decide (x = y)) 68 62 := rfl
theorem r283_59 : zr 283 59 [v0, v1, v2, v3, v4] (.int y1 :: .int y2 :: st) u P = (if y2 = y1 then zr 283 68 [v0, v1, v2, v3, v4] st u P else zr 283 62 [v0, v1, v2, v3, v4] st u P) := zr_Cmp k283_59
theorem k283_62 : xcd 283 62 = oIl 4 64 := rfl
theorem r283_62 : zr 283 62 [v0, v1, v2, v3, .int x4] st u P = zr 283 64 [v0, v1, v2, v3, .int x4] (.int x4 :: st) u P := zr_Il k283_62 rfl
theorem k283_64 : xcd 283 64 = oIl 2 65 := rfl
theorem r283_64 : zr 283 64 [v0, v1, .int x2, v3, v4] st u P = zr 283 65 [v0, v1, .int x2, v3, v4] (.int x2 :: st) u P := zr_Il k283_64 rfl
theorem k283_65 : xcd 283 65 = oCmp (fun x y => decide (¬ x = y)) 78 68 := rfl
theorem r283_65 : zr 283 65 [v0, v1, v2, v3, v4] (.int y1 :: .int y2 :: st) u P = (if ¬ y2 = y1 then zr 283 78 [v0, v1, v2, v3, v4] st u P else zr 283 68 [v0, v1, v2, v3, v4] st u P) := zr_Cmp k283_65
theorem k283_68 : xcd 283 68 = oAl 0 69 := rfl
theorem r283_68 : zr 283 68 [.ref a0, v1, v2, v3, v4] st u P = zr 283 69 [.ref a0, v1, v2, v3, v4] (.ref a0 :: st) u P := zr_Al k283_68 rfl
theorem k283_69 : xcd 283 69 = oIl 1 70 := rfl
theorem r283_69 : zr 283 69 [v0, .int x1, v2, v3, v4] st u P = zr 283 70 [v0, .int x1, v2, v3, v4] (.int x1 :: st) u P := zr_Il k283_69 rfl
theorem k283_70 : xcd 283 70 = oIl 4 72 := rfl
theorem r283_70 : zr 283 70 [v0, v1, v2, v3, .int x4] st u P = zr 283 72 [v0, v1, v2, v3, .int x4] (.int x4 :: st) u P := zr_Il k283_70 rfl
theorem k283_72 : xcd 283 72 = oCalV 11 276 2 75 := rfl
theorem r283_72 : zr 283 72 [v0, v1, v2, v3, v4] (.int y2 :: .int y1 :: .ref b8 :: st) u P = ((xIs u b8 11 ∧ xcat st ≤ 8) ∧ zr 276 0 [.ref b8, .int y1, .int y2, .null, .null] [] u (fun r u2 => zr 283 75 [v0, v1, v2, v3, v4] (r.toList ++ st) u2 P)) := zr_CV k283_72 rfl rfl rfl ⟨Nat.le_of_ble_eq_true rfl, Nat.succ_ne_zero _, by decide⟩ rfl
theorem k283_75 : xcd 283 75 = oGoto 79 := rfl
theorem r283_75 : zr 283 75 [v0, v1, v2, v3, v4] st u P = zr 283 79 [v0, v1, v2, v3, v4] st u P := zr_Goto k283_75
theorem k283_78 : xcd 283 78 = oI 0 79 := rfl
theorem r283_78 : zr 283 78 [v0, v1, v2, v3, v4] st u P = zr 283 79 [v0, v1, v2, v3, v4] (.int 0 :: st) u P := zr_I k283_78
theorem k283_79 : xcd 283 79 = oB (fun x y => x + y) 80 := rfl
theorem r283_79 : zr 283 79 [v0, v1, v2, v3, v4] (.int y1 :: .int y2 :: st) u P = zr 283 80 [v0, v1, v2, v3, v4] (.int (y2 + y1) :: st) u P := zr_B k283_79
theorem k283_80 : xcd 283 80 = oIs 3 81 := rfl
theorem r283_80 : zr 283 80 [v0, v1, .int x2, v3, v4] (.int y1 :: st) u P = zr 283 81 [v0, v1, .int x2, .int y1, v4] st u P := zr_Is k283_80 ⟨Nat.le_of_ble_eq_true rfl, rfl⟩
theorem k283_81 : xcd 283 81 = oInc 4 1 84 := rfl
theorem r283_81 : zr 283 81 [v0, v1, v2, .int x3, .int x4] st u P = zr 283 84 [v0, v1, v2, .int x3, .int (x4 + 1)] st u P := zr_Inc k283_81 rfl rfl
theorem k283_84 : xcd 283 84 = oGoto 45 := rfl
theorem r283_84 : zr 283 84 [v0, v1, v2, v3, v4] st u P = zr 283 45 [v0, v1, v2, v3, v4] st u P := zr_Goto k283_84
theorem k283_87 : xcd 283 87 = oAl 0 88 := rfl
theorem r283_87 : zr 283 87 [.ref a0, v1, v2, v3, v4] st u P = zr 283 88 [.ref a0, v1, v2, v3, v4] (.ref a0 :: st) u P := zr_Al k283_87 rfl
theorem k283_88 : xcd 283 88 = oIl 3 89 := rfl
theorem r283_88 : zr 283 88 [v0, v1, v2, .int x3, v4] st u P = zr 283 89 [v0, v1, v2, .int x3, v4] (.int x3 :: st) u P := zr_Il k283_88 rfl
theorem k283_89 : xcd 283 89 = oCalV 11 174 1 92 := rfl
theorem r283_89 : zr 283 89 [v0, v1, v2, v3, v4] (.int y1 :: .ref b8 :: st) u P = ((xIs u b8 11 ∧ xcat st ≤ 8) ∧ zr 174 0 [.ref b8, .int y1] [] u (fun r u2 => zr 283 92 [v0, v1, v2, v3, v4] (r.toList ++ st) u2 P)) := zr_CV k283_89 rfl rfl rfl ⟨Nat.le_of_ble_eq_true rfl, Nat.succ_ne_zero _, by decide⟩ rfl
theorem k283_92 : xcd 283 92 = oRi 0 := rfl
theorem r283_92 : zr 283 92 [v0, v1, v2, v3, v4] [.int y1] u P = P (some (.int y1)) u := zr_Ri k283_92
theorem k284_0 : xcd 284 0 = oAl 0 1 := rfl
theorem r284_0 : zr 284 0 [.ref a0, v1, v2, v3, v4] st u P = zr 284 1 [.ref a0, v1, v2, v3, v4] (.ref a0 :: st) u P := zr_Al k284_0 rfl
theorem k284_1 : xcd 284 1 = oI 0 2 := rfl
theorem r284_1 : zr 284 1 [v0, v1, v2, v3, v4] st u P = zr 284 2 [v0, v1, v2, v3, v4] (.int 0 :: st) u P := zr_I k284_1
theorem k284_2 : xcd 284 2 = oPI 11 0 5 := rfl
theorem r284_2 : zr 284 2 [v0, v1, v2, v3, v4] (.int y1 :: .ref b1 :: st) u P = (xIs u b1 11 ∧ zr 284 5 [v0, v1, v2, v3, v4] st (xsI u b1 0 y1) P) := zr_PI k284_2
theorem k284_5 : xcd 284 5 = oAl 0 6 := rfl
theorem r284_5 : zr 284 5 [.ref a0, v1, v2, v3, v4] st u P = zr 284 6 [.ref a0, v1, v2, v3, v4] (.ref a0 :: st) u P := zr_Al k284_5 rfl
theorem k284_6 : xcd 284 6 = oGI 11 7 9 := rfl
theorem r284_6 : zr 284 6 [v0, v1, v2, v3, v4] (.ref b1 :: st) u P = (xIs u b1 11 ∧ zr 284 9 [v0, v1, v2, v3, v4] (.int (xI u b1 7) :: st) u P) := zr_GI k284_6
theorem k284_9 : xcd 284 9 = oIf (fun x => decide (¬ x = 0)) 18 12 := rfl
theorem r284_9 : zr 284 9 [v0, v1, v2, v3, v4] (.int y1 :: st) u P = (if ¬ y1 = 0 then zr 284 18 [v0, v1, v2, v3, v4] st u P else zr 284 12 [v0, v1, v2, v3, v4] st u P) := zr_If k284_9
theorem k284_12 : xcd 284 12 = oAl 0 13 := rfl
theorem r284_12 : zr 284 12 [.ref a0, v1, v2, v3, v4] st u P = zr 284 13 [.ref a0, v1, v2, v3, v4] (.ref a0 :: st) u P := zr_Al k284_12 rfl
theorem k284_13 : xcd 284 13 = oI 1 14 := rfl
theorem r284_13 : zr 284 13 [v0, v1, v2, v3, v4] st u P = zr 284 14 [v0, v1, v2, v3, v4] (.int 1 :: st) u P := zr_I k284_13
theorem k284_14 : xcd 284 14 = oCalV 11 173 1 17 := rfl
theorem r284_14 : zr 284 14 [v0, v1, v2, v3, v4] (.int y1 :: .ref b8 :: st) u P = ((xIs u b8 11 ∧ xcat st ≤ 8) ∧ zr 173 0 [.ref b8, .int y1] [] u (fun r u2 => zr 284 17 [v0, v1, v2, v3, v4] (r.toList ++ st) u2 P)) := zr_CV k284_14 rfl rfl rfl ⟨Nat.le_of_ble_eq_true rfl, Nat.succ_ne_zero _, by decide⟩ rfl
theorem k284_17 : xcd 284 17 = oRi 0 := rfl
theorem r284_17 : zr 284 17 [v0, v1, v2, v3, v4] [.int y1] u P = P (some (.int y1)) u := zr_Ri k284_17
theorem k284_18 : xcd 284 18 = oAl 0 19 := rfl
theorem r284_18 : zr 284 18 [.ref a0, v1, v2, v3, v4] st u P = zr 284 19 [.ref a0, v1, v2, v3, v4] (.ref a0 :: st) u P := zr_Al k284_18 rfl
theorem k284_19 : xcd 284 19 = oIl 1 20 := rfl
theorem r284_19 : zr 284 19 [v0, .int x1, v2, v3, v4] st u P = zr 284 20 [v0, .int x1, v2, v3, v4] (.int x1 :: st) u P := zr_Il k284_19 rfl
theorem k284_20 : xcd 284 20 = oCalV 11 282 1 23 := rfl
theorem r284_20 : zr 284 20 [v0, v1, v2, v3, v4] (.int y1 :: .ref b8 :: st) u P = ((xIs u b8 11 ∧ xcat st ≤ 8) ∧ zr 282 0 [.ref b8, .int y1] [] u (fun r u2 => zr 284 23 [v0, v1, v2, v3, v4] (r.toList ++ st) u2 P)) := zr_CV k284_20 rfl rfl rfl ⟨Nat.le_of_ble_eq_true rfl, Nat.succ_ne_zero _, by decide⟩ rfl
theorem k284_23 : xcd 284 23 = oIf (fun x => decide (¬ x = 0)) 32 26 := rfl
theorem r284_23 : zr 284 23 [v0, v1, v2, v3, v4] (.int y1 :: st) u P = (if ¬ y1 = 0 then zr 284 32 [v0, v1, v2, v3, v4] st u P else zr 284 26 [v0, v1, v2, v3, v4] st u P) := zr_If k284_23
theorem k284_26 : xcd 284 26 = oAl 0 27 := rfl
theorem r284_26 : zr 284 26 [.ref a0, v1, v2, v3, v4] st u P = zr 284 27 [.ref a0, v1, v2, v3, v4] (.ref a0 :: st) u P := zr_Al k284_26 rfl
theorem k284_27 : xcd 284 27 = oI 2 28 := rfl
theorem r284_27 : zr 284 27 [v0, v1, v2, v3, v4] st u P = zr 284 28 [v0, v1, v2, v3, v4] (.int 2 :: st) u P := zr_I k284_27
theorem k284_28 : xcd 284 28 = oCalV 11 173 1 31 := rfl
theorem r284_28 : zr 284 28 [v0, v1, v2, v3, v4] (.int y1 :: .ref b8 :: st) u P = ((xIs u b8 11 ∧ xcat st ≤ 8) ∧ zr 173 0 [.ref b8, .int y1] [] u (fun r u2 => zr 284 31 [v0, v1, v2, v3, v4] (r.toList ++ st) u2 P)) := zr_CV k284_28 rfl rfl rfl ⟨Nat.le_of_ble_eq_true rfl, Nat.succ_ne_zero _, by decide⟩ rfl
theorem k284_31 : xcd 284 31 = oRi 0 := rfl
theorem r284_31 : zr 284 31 [v0, v1, v2, v3, v4] [.int y1] u P = P (some (.int y1)) u := zr_Ri k284_31
theorem k284_32 : xcd 284 32 = oAl 0 33 := rfl
theorem r284_32 : zr 284 32 [.ref a0, v1, v2, v3, v4] st u P = zr 284 33 [.ref a0, v1, v2, v3, v4] (.ref a0 :: st) u P := zr_Al k284_32 rfl
theorem k284_33 : xcd 284 33 = oGI 11 27 36 := rfl
theorem r284_33 : zr 284 33 [v0, v1, v2, v3, v4] (.ref b1 :: st) u P = (xIs u b1 11 ∧ zr 284 36 [v0, v1, v2, v3, v4] (.int (xI u b1 27) :: st) u P) := zr_GI k284_33
theorem k284_36 : xcd 284 36 = oI 12 38 := rfl
theorem r284_36 : zr 284 36 [v0, v1, v2, v3, v4] st u P = zr 284 38 [v0, v1, v2, v3, v4] (.int 12 :: st) u P := zr_I k284_36
theorem k284_38 : xcd 284 38 = oCmp (fun x y => decide (¬ x = y)) 47 41 := rfl
theorem r284_38 : zr 284 38 [v0, v1, v2, v3, v4] (.int y1 :: .int y2 :: st) u P = (if ¬ y2 = y1 then zr 284 47 [v0, v1, v2, v3, v4] st u P else zr 284 41 [v0, v1, v2, v3, v4] st u P) := zr_Cmp k284_38
theorem k284_41 : xcd 284 41 = oAl 0 42 := rfl
theorem r284_41 : zr 284 41 [.ref a0, v1, v2, v3, v4] st u P = zr 284 42 [.ref a0, v1, v2, v3, v4] (.ref a0 :: st) u P := zr_Al k284_41 rfl
theorem k284_42 : xcd 284 42 = oI 3 43 := rfl
theorem r284_42 : zr 284 42 [v0, v1, v2, v3, v4] st u P = zr 284 43 [v0, v1, v2, v3, v4] (.int 3 :: st) u P := zr_I k284_42
theorem k284_43 : xcd 284 43 = oCalV 11 173 1 46 := rfl
theorem r284_43 : zr 284 43 [v0, v1, v2, v3, v4] (.int y1 :: .ref b8 :: st) u P = ((xIs u b8 11 ∧ xcat st ≤ 8) ∧ zr 173 0 [.ref b8, .int y1] [] u (fun r u2 => zr 284 46 [v0, v1, v2, v3, v4] (r.toList ++ st) u2 P)) := zr_CV k284_43 rfl rfl rfl ⟨Nat.le_of_ble_eq_true rfl, Nat.succ_ne_zero _, by decide⟩ rfl
theorem k284_46 : xcd 284 46 = oRi 0 := rfl
theorem r284_46 : zr 284 46 [v0, v1, v2, v3, v4] [.int y1] u P = P (some (.int y1)) u := zr_Ri k284_46
theorem k284_47 : xcd 284 47 = oI 0 48 := rfl
theorem r284_47 : zr 284 47 [v0, v1, v2, v3, v4] st u P = zr 284 48 [v0, v1, v2, v3, v4] (.int 0 :: st) u P := zr_I k284_47
theorem k284_48 : xcd 284 48 = oIs 2 49 := rfl
theorem r284_48 : zr 284 48 [v0, .int x1, v2, v3, v4] (.int y1 :: st) u P = zr 284 49 [v0, .int x1, .int y1, v3, v4] st u P := zr_Is k284_48 ⟨Nat.le_of_ble_eq_true rfl, rfl⟩
theorem k284_49 : xcd 284 49 = oI 0 50 := rfl
theorem r284_49 : zr 284 49 [v0, v1, v2, v3, v4] st u P = zr 284 50 [v0, v1, v2, v3, v4] (.int 0 :: st) u P := zr_I k284_49
theorem k284_50 : xcd 284 50 = oIs 3 51 := rfl
theorem r284_50 : zr 284 50 [v0, v1, .int x2, v3, v4] (.int y1 :: st) u P = zr 284 51 [v0, v1, .int x2, .int y1, v4] st u P := zr_Is k284_50 ⟨Nat.le_of_ble_eq_true rfl, rfl⟩
theorem k284_51 : xcd 284 51 = oIl 3 52 := rfl
theorem r284_51 : zr 284 51 [v0, v1, v2, .int x3, v4] st u P = zr 284 52 [v0, v1, v2, .int x3, v4] (.int x3 :: st) u P := zr_Il k284_51 rfl
theorem k284_52 : xcd 284 52 = oAl 0 53 := rfl
theorem r284_52 : zr 284 52 [.ref a0, v1, v2, v3, v4] st u P = zr 284 53 [.ref a0, v1, v2, v3, v4] (.ref a0 :: st) u P := zr_Al k284_52 rfl
theorem k284_53 : xcd 284 53 = oGR 11 3 56 := rfl
theorem r284_53 : zr 284 53 [v0, v1, v2, v3, v4] (.ref b1 :: st) u P = (xIs u b1 11 ∧ ∃ b, xR u b1 3 = some b ∧ zr 284 56 [v0, v1, v2, v3, v4] (.ref b :: st) u P) := zr_GR k284_53
theorem k284_56 : xcd 284 56 = oI 3 57 := rfl
theorem r284_56 : zr 284 56 [v0, v1, v2, v3, v4] st u P = zr 284 57 [v0, v1, v2, v3, v4] (.int 3 :: st) u P := zr_I k284_56
theorem k284_57 : xcd 284 57 = oLd 13 58 := rfl
theorem r284_57 : zr 284 57 [v0, v1, v2, v3, v4] (.int y1 :: .ref b1 :: st) u P = ((xIs u b1 13 ∧ xinb y1 (xN u b1)) ∧ zr 284 58 [v0, v1, v2, v3, v4] (.int (xI u b1 (xix y1)) :: st) u P) := zr_Ld k284_57
theorem k284_58 : xcd 284 58 = oCmp (fun x y => decide (y ≤ x)) 96 61 := rfl
theorem r284_58 : zr 284 58 [v0, v1, v2, v3, v4] (.int y1 :: .int y2 :: st) u P = (if y1 ≤ y2 then zr 284 96 [v0, v1, v2, v3, v4] st u P else zr 284 61 [v0, v1, v2, v3, v4] st u P) := zr_Cmp k284_58
theorem k284_61 : xcd 284 61 = oAl 0 62 := rfl
theorem r284_61 : zr 284 61 [.ref a0, v1, v2, v3, v4] st u P = zr 284 62 [.ref a0, v1, v2, v3, v4] (.ref a0 :: st) u P := zr_Al k284_61 rfl
theorem k284_62 : xcd 284 62 = oIl 1 63 := rfl
theorem r284_62 : zr 284 62 [v0, .int x1, v2, v3, v4] st u P = zr 284 63 [v0, .int x1, v2, v3, v4] (.int x1 :: st) u P := zr_Il k284_62 rfl
theorem k284_63 : xcd 284 63 = oIl 3 64 := rfl
theorem r284_63 : zr 284 63 [v0, v1, v2, .int x3, v4] st u P = zr 284 64 [v0, v1, v2, .int x3, v4] (.int x3 :: st) u P := zr_Il k284_63 rfl
theorem k284_64 : xcd 284 64 = oCalV 11 276 2 67 := rfl
theorem r284_64 : zr 284 64 [v0, v1, v2, v3, v4] (.int y2 :: .int y1 :: .ref b8 :: st) u P = ((xIs u b8 11 ∧ xcat st ≤ 8) ∧ zr 276 0 [.ref b8, .int y1, .int y2, .null, .null] [] u (fun r u2 => zr 284 67 [v0, v1, v2, v3, v4] (r.toList ++ st) u2 P)) := zr_CV k284_64 rfl rfl rfl ⟨Nat.le_of_ble_eq_true rfl, Nat.succ_ne_zero _, by decide⟩ rfl
theorem k284_67 : xcd 284 67 = oIs 4 69 := rfl
theorem r284_67 : zr 284 67 [v0, v1, v2, .int x3, v4] (.int y1 :: st) u P = zr 284 69 [v0, v1, v2, .int x3, .int y1] st u P := zr_Is k284_67 ⟨Nat.le_of_ble_eq_true rfl, rfl⟩
theorem k284_69 : xcd 284 69 = oAl 0 70 := rfl
theorem r284_69 : zr 284 69 [.ref a0, v1, v2, v3, v4] st u P = zr 284 70 [.ref a0, v1, v2, v3, v4] (.ref a0 :: st) u P := zr_Al k284_69 rfl
theorem k284_70 : xcd 284 70 = oGR 11 26 73 := rfl
theorem r284_70 : zr 284 70 [v0, v1, v2, v3, v4] (.ref b1 :: st) u P = (xIs u b1 11 ∧ ∃ b, xR u b1 26 = some b ∧ zr 284 73 [v0, v1, v2, v3, v4] (.ref b :: st) u P) := zr_GR k284_70
theorem k284_73 : xcd 284 73 = oI 10 75 := rfl
theorem r284_73 : zr 284 73 [v0, v1, v2, v3, v4] st u P = zr 284 75 [v0, v1, v2, v3, v4] (.int 10 :: st) u P := zr_I k284_73
theorem k284_75 : xcd 284 75 = oAl 0 76 := rfl
theorem r284_75 : zr 284 75 [.ref a0, v1, v2, v3, v4] st u P = zr 284 76 [.ref a0, v1, v2, v3, v4] (.ref a0 :: st) u P := zr_Al k284_75 rfl
theorem k284_76 : xcd 284 76 = oGI 11 27 79 := rfl
theorem r284_76 : zr 284 76 [v0, v1, v2, v3, v4] (.ref b1 :: st) u P = (xIs u b1 11 ∧ zr 284 79 [v0, v1, v2, v3, v4] (.int (xI u b1 27) :: st) u P) := zr_GI k284_76
theorem k284_79 : xcd 284 79 = oB (fun x y => x * y) 80 := rfl
theorem r284_79 : zr 284 79 [v0, v1, v2, v3, v4] (.int y1 :: .int y2 :: st) u P = zr 284 80 [v0, v1, v2, v3, v4] (.int (y2 * y1) :: st) u P := zr_B k284_79
theorem k284_80 : xcd 284 80 = oIl 3 81 := rfl
theorem r284_80 : zr 284 80 [v0, v1, v2, .int x3, v4] st u P = zr 284 81 [v0, v1, v2, .int x3, v4] (.int x3 :: st) u P := zr_Il k284_80 rfl
theorem k284_81 : xcd 284 81 = oB (fun x y => x + y) 82 := rfl
theorem r284_81 : zr 284 81 [v0, v1, v2, v3, v4] (.int y1 :: .int y2 :: st) u P = zr 284 82 [v0, v1, v2, v3, v4] (.int (y2 + y1) :: st) u P := zr_B k284_81
theorem k284_82 : xcd 284 82 = oIl 4 84 := rfl
theorem r284_82 : zr 284 82 [v0, v1, v2, v3, .int x4] st u P = zr 284 84 [v0, v1, v2, v3, .int x4] (.int x4 :: st) u P := zr_Il k284_82 rfl
theorem k284_84 : xcd 284 84 = oSt 13 (fun x => x) 85 := rfl
theorem r284_84 : zr 284 84 [v0, v1, v2, v3, v4] (.int y2 :: .int y1 :: .ref b1 :: st) u P = ((xIs u b1 13 ∧ xinb y1 (xN u b1)) ∧ zr 284 85 [v0, v1, v2, v3, v4] st (xsI u b1 (xix y1) y2) P) := zr_St k284_84
theorem k284_85 : xcd 284 85 = oIl 2 86 := rfl
theorem r284_85 : zr 284 85 [v0, v1, .int x2, v3, v4] st u P = zr 284 86 [v0, v1, .int x2, v3, v4] (.int x2 :: st) u P := zr_Il k284_85 rfl
theorem k284_86 : xcd 284 86 = oIl 4 88 := rfl
theorem r284_86 : zr 284 86 [v0, v1, v2, v3, .int x4] st u P = zr 284 88 [v0, v1, v2, v3, .int x4] (.int x4 :: st) u P := zr_Il k284_86 rfl
theorem k284_88 : xcd 284 88 = oB (fun x y => x + y) 89 := rfl
theorem r284_88 : zr 284 88 [v0, v1, v2, v3, v4] (.int y1 :: .int y2 :: st) u P = zr 284 89 [v0, v1, v2, v3, v4] (.int (y2 + y1) :: st) u P := zr_B k284_88
theorem k284_89 : xcd 284 89 = oIs 2 90 := rfl
theorem r284_89 : zr 284 89 [v0, .int x1, v2, v3, v4] (.int y1 :: st) u P = zr 284 90 [v0, .int x1, .int y1, v3, v4] st u P := zr_Is k284_89 ⟨Nat.le_of_ble_eq_true rfl, rfl⟩
theorem k284_90 : xcd 284 90 = oInc 3 1 93 := rfl
theorem r284_90 : zr 284 90 [v0, v1, .int x2, .int x3, v4] st u P = zr 284 93 [v0, v1, .int x2, .int (x3 + 1), v4] st u P := zr_Inc k284_90 rfl rfl
theorem k284_93 : xcd 284 93 = oGoto 51 := rfl
theorem r284_93 : zr 284 93 [v0, v1, v2, v3, v4] st u P = zr 284 51 [v0, v1, v2, v3, v4] st u P := zr_Goto k284_93
theorem k284_96 : xcd 284 96 = oAl 0 97 := rfl
theorem r284_96 : zr 284 96 [.ref a0, v1, v2, v3, v4] st u P = zr 284 97 [.ref a0, v1, v2, v3, v4] (.ref a0 :: st) u P := zr_Al k284_96 rfl
theorem k284_97 : xcd 284 97 = oGR 11 25 100 := rfl
theorem r284_97 : zr 284 97 [v0, v1, v2, v3, v4] (.ref b1 :: st) u P = (xIs u b1 11 ∧ ∃ b, xR u b1 25 = some b ∧ zr 284 100 [v0, v1, v2, v3, v4] (.ref b :: st) u P) := zr_GR k284_97
theorem k284_100 : xcd 284 100 = oAl 0 101 := rfl
theorem r284_100 : zr 284 100 [.ref a0, v1, v2, v3, v4] st u P = zr 284 101 [.ref a0, v1, v2, v3, v4] (.ref a0 :: st) u P := zr_Al k284_100 rfl
theorem k284_101 : xcd 284 101 = oGI 11 27 104 := rfl
theorem r284_101 : zr 284 101 [v0, v1, v2, v3, v4] (.ref b1 :: st) u P = (xIs u b1 11 ∧ zr 284 104 [v0, v1, v2, v3, v4] (.int (xI u b1 27) :: st) u P) := zr_GI k284_101
theorem k284_104 : xcd 284 104 = oIl 1 105 := rfl
theorem r284_104 : zr 284 104 [v0, .int x1, v2, v3, v4] st u P = zr 284 105 [v0, .int x1, v2, v3, v4] (.int x1 :: st) u P := zr_Il k284_104 rfl
theorem k284_105 : xcd 284 105 = oSt 13 (fun x => x) 106 := rfl
theorem r284_105 : zr 284 105 [v0, v1, v2, v3, v4] (.int y2 :: .int y1 :: .ref b1 :: st) u P = ((xIs u b1 13 ∧ xinb y1 (xN u b1)) ∧ zr 284 106 [v0, v1, v2, v3, v4] st (xsI u b1 (xix y1) y2) P) := zr_St k284_105
theorem k284_106 : xcd 284 106 = oAl 0 107 := rfl
theorem r284_106 : zr 284 106 [.ref a0, v1, v2, v3, v4] st u P = zr 284 107 [.ref a0, v1, v2, v3, v4] (.ref a0 :: st) u P := zr_Al k284_106 rfl
theorem k284_107 : xcd 284 107 = oDup 108 := rfl
theorem r284_107 : zr 284 107 [v0, v1, v2, v3, v4] (.ref b1 :: st) u P = zr 284 108 [v0, v1, v2, v3, v4] (.ref b1 :: .ref b1 :: st) u P := zr_DupA k284_107
theorem k284_108 : xcd 284 108 = oGI 11 27 111 := rfl
theorem r284_108 : zr 284 108 [v0, v1, v2, v3, v4] (.ref b1 :: st) u P = (xIs u b1 11 ∧ zr 284 111 [v0, v1, v2, v3, v4] (.int (xI u b1 27) :: st) u P) := zr_GI k284_108
theorem k284_111 : xcd 284 111 = oI 1 112 := rfl
theorem r284_111 : zr 284 111 [v0, v1, v2, v3, v4] st u P = zr 284 112 [v0, v1, v2, v3, v4] (.int 1 :: st) u P := zr_I k284_111
theorem k284_112 : xcd 284 112 = oB (fun x y => x + y) 113 := rfl
theorem r284_112 : zr 284 112 [v0, v1, v2, v3, v4] (.int y1 :: .int y2 :: st) u P = zr 284 113 [v0, v1, v2, v3, v4] (.int (y2 + y1) :: st) u P := zr_B k284_112
theorem k284_113 : xcd 284 113 = oPI 11 27 116 := rfl
theorem r284_113 : zr 284 113 [v0, v1, v2, v3, v4] (.int y1 :: .ref b1 :: st) u P = (xIs u b1 11 ∧ zr 284 116 [v0, v1, v2, v3, v4] st (xsI u b1 27 y1) P) := zr_PI k284_113
theorem k284_116 : xcd 284 116 = oI 0 117 := rfl
theorem r284_116 : zr 284 116 [v0, v1, v2, v3, v4] st u P = zr 284 117 [v0, v1, v2, v3, v4] (.int 0 :: st) u P := zr_I k284_116
theorem k284_117 : xcd 284 117 = oIs 3 118 := rfl
theorem r284_117 : zr 284 117 [v0, v1, .int x2, v3, v4] (.int y1 :: st) u P = zr 284 118 [v0, v1, .int x2, .int y1, v4] st u P := zr_Is k284_117 ⟨Nat.le_of_ble_eq_true rfl, rfl⟩
theorem k284_118 : xcd 284 118 = oIl 3 119 := rfl
theorem r284_118 : zr 284 118 [v0, v1, v2, .int x3, v4] st u P = zr 284 119 [v0, v1, v2, .int x3, v4] (.int x3 :: st) u P := zr_Il k284_118 rfl
theorem k284_119 : xcd 284 119 = oAl 0 120 := rfl
theorem r284_119 : zr 284 119 [.ref a0, v1, v2, v3, v4] st u P = zr 284 120 [.ref a0, v1, v2, v3, v4] (.ref a0 :: st) u P := zr_Al k284_119 rfl
theorem k284_120 : xcd 284 120 = oGI 11 20 123 := rfl
theorem r284_120 : zr 284 120 [v0, v1, v2, v3, v4] (.ref b1 :: st) u P = (xIs u b1 11 ∧ zr 284 123 [v0, v1, v2, v3, v4] (.int (xI u b1 20) :: st) u P) := zr_GI k284_120
theorem k284_123 : xcd 284 123 = oCmp (fun x y => decide (y ≤ x)) 168 126 := rfl
theorem r284_123 : zr 284 123 [v0, v1, v2, v3, v4] (.int y1 :: .int y2 :: st) u P = (if y1 ≤ y2 then zr 284 168 [v0, v1, v2, v3, v4] st u P else zr 284 126 [v0, v1, v2, v3, v4] st u P) := zr_Cmp k284_123
theorem k284_126 : xcd 284 126 = oAl 0 127 := rfl
theorem r284_126 : zr 284 126 [.ref a0, v1, v2, v3, v4] st u P = zr 284 127 [.ref a0, v1, v2, v3, v4] (.ref a0 :: st) u P := zr_Al k284_126 rfl
theorem k284_127 : xcd 284 127 = oIl 3 128 := rfl
theorem r284_127 : zr 284 127 [v0, v1, v2, .int x3, v4] st u P = zr 284 128 [v0, v1, v2, .int x3, v4] (.int x3 :: st) u P := zr_Il k284_127 rfl
theorem k284_128 : xcd 284 128 = oI 8 130 := rfl
theorem r284_128 : zr 284 128 [v0, v1, v2, v3, v4] st u P = zr 284 130 [v0, v1, v2, v3, v4] (.int 8 :: st) u P := zr_I k284_128
theorem k284_130 : xcd 284 130 = oCalV 11 262 2 133 := rfl
theorem r284_130 : zr 284 130 [v0, v1, v2, v3, v4] (.int y2 :: .int y1 :: .ref b8 :: st) u P = ((xIs u b8 11 ∧ xcat st ≤ 8) ∧ zr 262 0 [.ref b8, .int y1, .int y2] [] u (fun r u2 => zr 284 133 [v0, v1, v2, v3, v4] (r.toList ++ st) u2 P)) := zr_CV k284_130 rfl rfl rfl ⟨Nat.le_of_ble_eq_true rfl, Nat.succ_ne_zero _, by decide⟩ rfl
theorem k284_133 : xcd 284 133 = oIf (fun x => decide (¬ x = 0)) 162 136 := rfl
theorem r284_133 : zr 284 133 [v0, v1, v2, v3, v4] (.int y1 :: st) u P = (if ¬ y1 = 0 then zr 284 162 [v0, v1, v2, v3, v4] st u P else zr 284 136 [v0, v1, v2, v3, v4] st u P) := zr_If k284_133
theorem k284_136 : xcd 284 136 = oAl 0 137 := rfl
theorem r284_136 : zr 284 136 [.ref a0, v1, v2, v3, v4] st u P = zr 284 137 [.ref a0, v1, v2, v3, v4] (.ref a0 :: st) u P := zr_Al k284_136 rfl
theorem k284_137 : xcd 284 137 = oIl 3 138 := rfl
theorem r284_137 : zr 284 137 [v0, v1, v2, .int x3, v4] st u P = zr 284 138 [v0, v1, v2, .int x3, v4] (.int x3 :: st) u P := zr_Il k284_137 rfl
theorem k284_138 : xcd 284 138 = oI 0 139 := rfl
theorem r284_138 : zr 284 138 [v0, v1, v2, v3, v4] st u P = zr 284 139 [v0, v1, v2, v3, v4] (.int 0 :: st) u P := zr_I k284_138
theorem k284_139 : xcd 284 139 = oCalV 11 262 2 142 := rfl
theorem r284_139 : zr 284 139 [v0, v1, v2, v3, v4] (.int y2 :: .int y1 :: .ref b8 :: st) u P = ((xIs u b8 11 ∧ xcat st ≤ 8) ∧ zr 262 0 [.ref b8, .int y1, .int y2] [] u (fun r u2 => zr 284 142 [v0, v1, v2, v3, v4] (r.toList ++ st) u2 P)) := zr_CV k284_139 rfl rfl rfl ⟨Nat.le_of_ble_eq_true rfl, Nat.succ_ne_zero _, by decide⟩ rfl
theorem k284_142 : xcd 284 142 = oIl 1 143 := rfl
theorem r284_142 : zr 284 142 [v0, .int x1, v2, v3, v4] st u P = zr 284 143 [v0, .int x1, v2, v3, v4] (.int x1 :: st) u P := zr_Il k284_142 rfl
theorem k284_143 : xcd 284 143 = oCmp (fun x y => decide (y < x)) 162 146 := rfl
theorem r284_143 : zr 284 143 [v0, v1, v2, v3, v4] (.int y1 :: .int y2 :: st) u P = (if y1 < y2 then zr 284 162 [v0, v1, v2, v3, v4] st u P else zr 284 146 [v0, v1, v2, v3, v4] st u P) := zr_Cmp k284_143
theorem k284_146 : xcd 284 146 = oAl 0 147 := rfl
theorem r284_146 : zr 284 146 [.ref a0, v1, v2, v3, v4] st u P = zr 284 147 [.ref a0, v1, v2, v3, v4] (.ref a0 :: st) u P := zr_Al k284_146 rfl
theorem k284_147 : xcd 284 147 = oGR 11 19 150 := rfl
theorem r284_147 : zr 284 147 [v0, v1, v2, v3, v4] (.ref b1 :: st) u P = (xIs u b1 11 ∧ ∃ b, xR u b1 19 = some b ∧ zr 284 150 [v0, v1, v2, v3, v4] (.ref b :: st) u P) := zr_GR k284_147
theorem k284_150 : xcd 284 150 = oI 25 152 := rfl
theorem r284_150 : zr 284 150 [v0, v1, v2, v3, v4] st u P = zr 284 152 [v0, v1, v2, v3, v4] (.int 25 :: st) u P := zr_I k284_150
theorem k284_152 : xcd 284 152 = oIl 3 153 := rfl
theorem r284_152 : zr 284 152 [v0, v1, v2, .int x3, v4] st u P = zr 284 153 [v0, v1, v2, .int x3, v4] (.int x3 :: st) u P := zr_Il k284_152 rfl
theorem k284_153 : xcd 284 153 = oB (fun x y => x * y) 154 := rfl
theorem r284_153 : zr 284 153 [v0, v1, v2, v3, v4] (.int y1 :: .int y2 :: st) u P = zr 284 154 [v0, v1, v2, v3, v4] (.int (y2 * y1) :: st) u P := zr_B k284_153
theorem k284_154 : xcd 284 154 = oI 8 156 := rfl
theorem r284_154 : zr 284 154 [v0, v1, v2, v3, v4] st u P = zr 284 156 [v0, v1, v2, v3, v4] (.int 8 :: st) u P := zr_I k284_154
theorem k284_156 : xcd 284 156 = oB (fun x y => x + y) 157 := rfl
theorem r284_156 : zr 284 156 [v0, v1, v2, v3, v4] (.int y1 :: .int y2 :: st) u P = zr 284 157 [v0, v1, v2, v3, v4] (.int (y2 + y1) :: st) u P := zr_B k284_156
theorem k284_157 : xcd 284 157 = oAl 0 158 := rfl
theorem r284_157 : zr 284 157 [.ref a0, v1, v2, v3, v4] st u P = zr 284 158 [.ref a0, v1, v2, v3, v4] (.ref a0 :: st) u P := zr_Al k284_157 rfl
theorem k284_158 : xcd 284 158 = oGI 11 27 161 := rfl
theorem r284_158 : zr 284 158 [v0, v1, v2, v3, v4] (.ref b1 :: st) u P = (xIs u b1 11 ∧ zr 284 161 [v0, v1, v2, v3, v4] (.int (xI u b1 27) :: st) u P) := zr_GI k284_158
theorem k284_161 : xcd 284 161 = oSt 13 (fun x => x) 162 := rfl
theorem r284_161 : zr 284 161 [v0, v1, v2, v3, v4] (.int y2 :: .int y1 :: .ref b1 :: st) u P = ((xIs u b1 13 ∧ xinb y1 (xN u b1)) ∧ zr 284 162 [v0, v1, v2, v3, v4] st (xsI u b1 (xix y1) y2) P) := zr_St k284_161
theorem k284_162 : xcd 284 162 = oInc 3 1 165 := rfl
theorem r284_162 : zr 284 162 [v0, v1, .int x2, .int x3, v4] st u P = zr 284 165 [v0, v1, .int x2, .int (x3 + 1), v4] st u P := zr_Inc k284_162 rfl rfl
theorem k284_165 : xcd 284 165 = oGoto 118 := rfl
theorem r284_165 : zr 284 165 [v0, v1, v2, v3, v4] st u P = zr 284 118 [v0, v1, v2, v3, v4] st u P := zr_Goto k284_165
theorem k284_168 : xcd 284 168 = oAl 0 169 := rfl
theorem r284_168 : zr 284 168 [.ref a0, v1, v2, v3, v4] st u P = zr 284 169 [.ref a0, v1, v2, v3, v4] (.ref a0 :: st) u P := zr_Al k284_168 rfl
theorem k284_169 : xcd 284 169 = oI 4 170 := rfl
theorem r284_169 : zr 284 169 [v0, v1, v2, v3, v4] st u P = zr 284 170 [v0, v1, v2, v3, v4] (.int 4 :: st) u P := zr_I k284_169
theorem k284_170 : xcd 284 170 = oI 0 171 := rfl
theorem r284_170 : zr 284 170 [v0, v1, v2, v3, v4] st u P = zr 284 171 [v0, v1, v2, v3, v4] (.int 0 :: st) u P := zr_I k284_170
theorem k284_171 : xcd 284 171 = oI 0 172 := rfl
theorem r284_171 : zr 284 171 [v0, v1, v2, v3, v4] st u P = zr 284 172 [v0, v1, v2, v3, v4] (.int 0 :: st) u P := zr_I k284_171
theorem k284_172 : xcd 284 172 = oCalV 11 289 3 175 := rfl
theorem r284_172 : zr 284 172 [v0, v1, v2, v3, v4] (.int y3 :: .int y2 :: .int y1 :: .ref b8 :: st) u P = ((xIs u b8 11 ∧ xcat st ≤ 8) ∧ zr 289 0 [.ref b8, .int y1, .int y2, .int y3, .null] [] u (fun r u2 => zr 284 175 [v0, v1, v2, v3, v4] (r.toList ++ st) u2 P)) := zr_CV k284_172 rfl rfl rfl ⟨Nat.le_of_ble_eq_true rfl, Nat.succ_ne_zero _, by decide⟩ rfl
theorem k284_175 : xcd 284 175 = oAl 0 176 := rfl
theorem r284_175 : zr 284 175 [.ref a0, v1, v2, v3, v4] st u P = zr 284 176 [.ref a0, v1, v2, v3, v4] (.ref a0 :: st) u P := zr_Al k284_175 rfl
theorem k284_176 : xcd 284 176 = oIl 2 177 := rfl
theorem r284_176 : zr 284 176 [v0, v1, .int x2, v3, v4] st u P = zr 284 177 [v0, v1, .int x2, v3, v4] (.int x2 :: st) u P := zr_Il k284_176 rfl
theorem k284_177 : xcd 284 177 = oCalV 11 174 1 180 := rfl
theorem r284_177 : zr 284 177 [v0, v1, v2, v3, v4] (.int y1 :: .ref b8 :: st) u P = ((xIs u b8 11 ∧ xcat st ≤ 8) ∧ zr 174 0 [.ref b8, .int y1] [] u (fun r u2 => zr 284 180 [v0, v1, v2, v3, v4] (r.toList ++ st) u2 P)) := zr_CV k284_177 rfl rfl rfl ⟨Nat.le_of_ble_eq_true rfl, Nat.succ_ne_zero _, by decide⟩ rfl
theorem k284_180 : xcd 284 180 = oRi 0 := rfl
theorem r284_180 : zr 284 180 [v0, v1, v2, v3, v4] [.int y1] u P = P (some (.int y1)) u := zr_Ri k284_180
theorem k285_0 : xcd 285 0 = oI 0 1 := rfl
theorem r285_0 : zr 285 0 [v0, v1] st u P = zr 285 1 [v0, v1] (.int 0 :: st) u P := zr_I k285_0
theorem k285_1 : xcd 285 1 = oIs 1 2 := rfl
theorem r285_1 : zr 285 1 [.ref a0, v1] (.int y1 :: st) u P = zr 285 2 [.ref a0, .int y1] st u P := zr_Is k285_1 ⟨Nat.le_of_ble_eq_true rfl, rfl⟩
theorem k285_2 : xcd 285 2 = oIl 1 3 := rfl
theorem r285_2 : zr 285 2 [v0, .int x1] st u P = zr 285 3 [v0, .int x1] (.int x1 :: st) u P := zr_Il k285_2 rfl
theorem k285_3 : xcd 285 3 = oAl 0 4 := rfl
theorem r285_3 : zr 285 3 [.ref a0, v1] st u P = zr 285 4 [.ref a0, v1] (.ref a0 :: st) u P := zr_Al k285_3 rfl
theorem k285_4 : xcd 285 4 = oGI 11 20 7 := rfl
theorem r285_4 : zr 285 4 [v0, v1] (.ref b1 :: st) u P = (xIs u b1 11 ∧ zr 285 7 [v0, v1] (.int (xI u b1 20) :: st) u P) := zr_GI k285_4
theorem k285_7 : xcd 285 7 = oCmp (fun x y => decide (y ≤ x)) 43 10 := rfl
theorem r285_7 : zr 285 7 [v0, v1] (.int y1 :: .int y2 :: st) u P = (if y1 ≤ y2 then zr 285 43 [v0, v1] st u P else zr 285 10 [v0, v1] st u P) := zr_Cmp k285_7
theorem k285_10 : xcd 285 10 = oAl 0 11 := rfl
theorem r285_10 : zr 285 10 [.ref a0, v1] st u P = zr 285 11 [.ref a0, v1] (.ref a0 :: st) u P := zr_Al k285_10 rfl
theorem k285_11 : xcd 285 11 = oIl 1 12 := rfl
theorem r285_11 : zr 285 11 [v0, .int x1] st u P = zr 285 12 [v0, .int x1] (.int x1 :: st) u P := zr_Il k285_11 rfl
theorem k285_12 : xcd 285 12 = oI 8 14 := rfl
theorem r285_12 : zr 285 12 [v0, v1] st u P = zr 285 14 [v0, v1] (.int 8 :: st) u P := zr_I k285_12
theorem k285_14 : xcd 285 14 = oCalV 11 262 2 17 := rfl
theorem r285_14 : zr 285 14 [v0, v1] (.int y2 :: .int y1 :: .ref b8 :: st) u P = ((xIs u b8 11 ∧ xcat st ≤ 8) ∧ zr 262 0 [.ref b8, .int y1, .int y2] [] u (fun r u2 => zr 285 17 [v0, v1] (r.toList ++ st) u2 P)) := zr_CV k285_14 rfl rfl rfl ⟨Nat.le_of_ble_eq_true rfl, Nat.succ_ne_zero _, by decide⟩ rfl
theorem k285_17 : xcd 285 17 = oAl 0 18 := rfl
theorem r285_17 : zr 285 17 [.ref a0, v1] st u P = zr 285 18 [.ref a0, v1] (.ref a0 :: st) u P := zr_Al k285_17 rfl
theorem k285_18 : xcd 285 18 = oGI 11 27 21 := rfl
theorem r285_18 : zr 285 18 [v0, v1] (.ref b1 :: st) u P = (xIs u b1 11 ∧ zr 285 21 [v0, v1] (.int (xI u b1 27) :: st) u P) := zr_GI k285_18
theorem k285_21 : xcd 285 21 = oCmp (fun x y => decide (¬ x = y)) 37 24 := rfl
theorem r285_21 : zr 285 21 [v0, v1] (.int y1 :: .int y2 :: st) u P = (if ¬ y2 = y1 then zr 285 37 [v0, v1] st u P else zr 285 24 [v0, v1] st u P) := zr_Cmp k285_21
theorem k285_24 : xcd 285 24 = oAl 0 25 := rfl
theorem r285_24 : zr 285 24 [.ref a0, v1] st u P = zr 285 25 [.ref a0, v1] (.ref a0 :: st) u P := zr_Al k285_24 rfl
theorem k285_25 : xcd 285 25 = oGR 11 19 28 := rfl
theorem r285_25 : zr 285 25 [v0, v1] (.ref b1 :: st) u P = (xIs u b1 11 ∧ ∃ b, xR u b1 19 = some b ∧ zr 285 28 [v0, v1] (.ref b :: st) u P) := zr_GR k285_25
theorem k285_28 : xcd 285 28 = oI 25 30 := rfl
theorem r285_28 : zr 285 28 [v0, v1] st u P = zr 285 30 [v0, v1] (.int 25 :: st) u P := zr_I k285_28
theorem k285_30 : xcd 285 30 = oIl 1 31 := rfl
theorem r285_30 : zr 285 30 [v0, .int x1] st u P = zr 285 31 [v0, .int x1] (.int x1 :: st) u P := zr_Il k285_30 rfl
theorem k285_31 : xcd 285 31 = oB (fun x y => x * y) 32 := rfl
theorem r285_31 : zr 285 31 [v0, v1] (.int y1 :: .int y2 :: st) u P = zr 285 32 [v0, v1] (.int (y2 * y1) :: st) u P := zr_B k285_31
theorem k285_32 : xcd 285 32 = oI 8 34 := rfl
theorem r285_32 : zr 285 32 [v0, v1] st u P = zr 285 34 [v0, v1] (.int 8 :: st) u P := zr_I k285_32
theorem k285_34 : xcd 285 34 = oB (fun x y => x + y) 35 := rfl
theorem r285_34 : zr 285 34 [v0, v1] (.int y1 :: .int y2 :: st) u P = zr 285 35 [v0, v1] (.int (y2 + y1) :: st) u P := zr_B k285_34
theorem k285_35 : xcd 285 35 = oI 0 36 := rfl
theorem r285_35 : zr 285 35 [v0, v1] st u P = zr 285 36 [v0, v1] (.int 0 :: st) u P := zr_I k285_35
theorem k285_36 : xcd 285 36 = oSt 13 (fun x => x) 37 := rfl
theorem r285_36 : zr 285 36 [v0, v1] (.int y2 :: .int y1 :: .ref b1 :: st) u P = ((xIs u b1 13 ∧ xinb y1 (xN u b1)) ∧ zr 285 37 [v0, v1] st (xsI u b1 (xix y1) y2) P) := zr_St k285_36
theorem k285_37 : xcd 285 37 = oInc 1 1 40 := rfl
theorem r285_37 : zr 285 37 [.ref a0, .int x1] st u P = zr 285 40 [.ref a0, .int (x1 + 1)] st u P := zr_Inc k285_37 rfl rfl
theorem k285_40 : xcd 285 40 = oGoto 2 := rfl
theorem r285_40 : zr 285 40 [v0, v1] st u P = zr 285 2 [v0, v1] st u P := zr_Goto k285_40
theorem k285_43 : xcd 285 43 = oAl 0 44 := rfl
theorem r285_43 : zr 285 43 [.ref a0, v1] st u P = zr 285 44 [.ref a0, v1] (.ref a0 :: st) u P := zr_Al k285_43 rfl
theorem k285_44 : xcd 285 44 = oDup 45 := rfl
theorem r285_44 : zr 285 44 [v0, v1] (.ref b1 :: st) u P = zr 285 45 [v0, v1] (.ref b1 :: .ref b1 :: st) u P := zr_DupA k285_44
theorem k285_45 : xcd 285 45 = oGI 11 27 48 := rfl
theorem r285_45 : zr 285 45 [v0, v1] (.ref b1 :: st) u P = (xIs u b1 11 ∧ zr 285 48 [v0, v1] (.int (xI u b1 27) :: st) u P) := zr_GI k285_45
theorem k285_48 : xcd 285 48 = oI 1 49 := rfl
theorem r285_48 : zr 285 48 [v0, v1] st u P = zr 285 49 [v0, v1] (.int 1 :: st) u P := zr_I k285_48
theorem k285_49 : xcd 285 49 = oB (fun x y => x - y) 50 := rfl
theorem r285_49 : zr 285 49 [v0, v1] (.int y1 :: .int y2 :: st) u P = zr 285 50 [v0, v1] (.int (y2 - y1) :: st) u P := zr_B k285_49
theorem k285_50 : xcd 285 50 = oPI 11 27 53 := rfl
theorem r285_50 : zr 285 50 [v0, v1] (.int y1 :: .ref b1 :: st) u P = (xIs u b1 11 ∧ zr 285 53 [v0, v1] st (xsI u b1 27 y1) P) := zr_PI k285_50
theorem k285_53 : xcd 285 53 = oRv 0 := rfl
theorem r285_53 : zr 285 53 [v0, v1] [] u P = P none u := zr_Rv k285_53
theorem k286_0 : xcd 286 0 = oAl 0 1 := rfl
theorem r286_0 : zr 286 0 [.ref a0, v1] st u P = zr 286 1 [.ref a0, v1] (.ref a0 :: st) u P := zr_Al k286_0 rfl
theorem k286_1 : xcd 286 1 = oAl 0 2 := rfl
theorem r286_1 : zr 286 1 [.ref a0, v1] st u P = zr 286 2 [.ref a0, v1] (.ref a0 :: st) u P := zr_Al k286_1 rfl
theorem k286_2 : xcd 286 2 = oIl 1 3 := rfl
theorem r286_2 : zr 286 2 [v0, .int x1] st u P = zr 286 3 [v0, .int x1] (.int x1 :: st) u P := zr_Il k286_2 rfl
theorem k286_3 : xcd 286 3 = oI 0 4 := rfl
theorem r286_3 : zr 286 3 [v0, v1] st u P = zr 286 4 [v0, v1] (.int 0 :: st) u P := zr_I k286_3
theorem k286_4 : xcd 286 4 = oCalV 11 262 2 7 := rfl
theorem r286_4 : zr 286 4 [v0, v1] (.int y2 :: .int y1 :: .ref b8 :: st) u P = ((xIs u b8 11 ∧ xcat st ≤ 8) ∧ zr 262 0 [.ref b8, .int y1, .int y2] [] u (fun r u2 => zr 286 7 [v0, v1] (r.toList ++ st) u2 P)) := zr_CV k286_4 rfl rfl rfl ⟨Nat.le_of_ble_eq_true rfl, Nat.succ_ne_zero _, by decide⟩ rfl
theorem k286_7 : xcd 286 7 = oAl 0 8 := rfl
theorem r286_7 : zr 286 7 [.ref a0, v1] st u P = zr 286 8 [.ref a0, v1] (.ref a0 :: st) u P := zr_Al k286_7 rfl
theorem k286_8 : xcd 286 8 = oIl 1 9 := rfl
theorem r286_8 : zr 286 8 [v0, .int x1] st u P = zr 286 9 [v0, .int x1] (.int x1 :: st) u P := zr_Il k286_8 rfl
theorem k286_9 : xcd 286 9 = oI 1 10 := rfl
theorem r286_9 : zr 286 9 [v0, v1] st u P = zr 286 10 [v0, v1] (.int 1 :: st) u P := zr_I k286_9
theorem k286_10 : xcd 286 10 = oCalV 11 262 2 13 := rfl
theorem r286_10 : zr 286 10 [v0, v1] (.int y2 :: .int y1 :: .ref b8 :: st) u P = ((xIs u b8 11 ∧ xcat st ≤ 8) ∧ zr 262 0 [.ref b8, .int y1, .int y2] [] u (fun r u2 => zr 286 13 [v0, v1] (r.toList ++ st) u2 P)) := zr_CV k286_10 rfl rfl rfl ⟨Nat.le_of_ble_eq_true rfl, Nat.succ_ne_zero _, by decide⟩ rfl
theorem k286_13 : xcd 286 13 = oAl 0 14 := rfl
theorem r286_13 : zr 286 13 [.ref a0, v1] st u P = zr 286 14 [.ref a0, v1] (.ref a0 :: st) u P := zr_Al k286_13 rfl
theorem k286_14 : xcd 286 14 = oIl 1 15 := rfl
theorem r286_14 : zr 286 14 [v0, .int x1] st u P = zr 286 15 [v0, .int x1] (.int x1 :: st) u P := zr_Il k286_14 rfl
theorem k286_15 : xcd 286 15 = oI 2 16 := rfl
theorem r286_15 : zr 286 15 [v0, v1] st u P = zr 286 16 [v0, v1] (.int 2 :: st) u P := zr_I k286_15
theorem k286_16 : xcd 286 16 = oCalV 11 262 2 19 := rfl
theorem r286_16 : zr 286 16 [v0, v1] (.int y2 :: .int y1 :: .ref b8 :: st) u P = ((xIs u b8 11 ∧ xcat st ≤ 8) ∧ zr 262 0 [.ref b8, .int y1, .int y2] [] u (fun r u2 => zr 286 19 [v0, v1] (r.toList ++ st) u2 P)) := zr_CV k286_16 rfl rfl rfl ⟨Nat.le_of_ble_eq_true rfl, Nat.succ_ne_zero _, by decide⟩ rfl
theorem k286_19 : xcd 286 19 = oAl 0 20 := rfl
theorem r286_19 : zr 286 19 [.ref a0, v1] st u P = zr 286 20 [.ref a0, v1] (.ref a0 :: st) u P := zr_Al k286_19 rfl
theorem k286_20 : xcd 286 20 = oIl 1 21 := rfl
theorem r286_20 : zr 286 20 [v0, .int x1] st u P = zr 286 21 [v0, .int x1] (.int x1 :: st) u P := zr_Il k286_20 rfl
theorem k286_21 : xcd 286 21 = oI 3 22 := rfl
theorem r286_21 : zr 286 21 [v0, v1] st u P = zr 286 22 [v0, v1] (.int 3 :: st) u P := zr_I k286_21
theorem k286_22 : xcd 286 22 = oCalV 11 262 2 25 := rfl
theorem r286_22 : zr 286 22 [v0, v1] (.int y2 :: .int y1 :: .ref b8 :: st) u P = ((xIs u b8 11 ∧ xcat st ≤ 8) ∧ zr 262 0 [.ref b8, .int y1, .int y2] [] u (fun r u2 => zr 286 25 [v0, v1] (r.toList ++ st) u2 P)) := zr_CV k286_22 rfl rfl rfl ⟨Nat.le_of_ble_eq_true rfl, Nat.succ_ne_zero _, by decide⟩ rfl
theorem k286_25 : xcd 286 25 = oAl 0 26 := rfl
theorem r286_25 : zr 286 25 [.ref a0, v1] st u P = zr 286 26 [.ref a0, v1] (.ref a0 :: st) u P := zr_Al k286_25 rfl
theorem k286_26 : xcd 286 26 = oIl 1 27 := rfl
theorem r286_26 : zr 286 26 [v0, .int x1] st u P = zr 286 27 [v0, .int x1] (.int x1 :: st) u P := zr_Il k286_26 rfl
theorem k286_27 : xcd 286 27 = oI 6 29 := rfl
theorem r286_27 : zr 286 27 [v0, v1] st u P = zr 286 29 [v0, v1] (.int 6 :: st) u P := zr_I k286_27
theorem k286_29 : xcd 286 29 = oCalV 11 262 2 32 := rfl
theorem r286_29 : zr 286 29 [v0, v1] (.int y2 :: .int y1 :: .ref b8 :: st) u P = ((xIs u b8 11 ∧ xcat st ≤ 8) ∧ zr 262 0 [.ref b8, .int y1, .int y2] [] u (fun r u2 => zr 286 32 [v0, v1] (r.toList ++ st) u2 P)) := zr_CV k286_29 rfl rfl rfl ⟨Nat.le_of_ble_eq_true rfl, Nat.succ_ne_zero _, by decide⟩ rfl
theorem k286_32 : xcd 286 32 = oAl 0 33 := rfl
theorem r286_32 : zr 286 32 [.ref a0, v1] st u P = zr 286 33 [.ref a0, v1] (.ref a0 :: st) u P := zr_Al k286_32 rfl
theorem k286_33 : xcd 286 33 = oIl 1 34 := rfl
theorem r286_33 : zr 286 33 [v0, .int x1] st u P = zr 286 34 [v0, .int x1] (.int x1 :: st) u P := zr_Il k286_33 rfl
theorem k286_34 : xcd 286 34 = oI 5 35 := rfl
theorem r286_34 : zr 286 34 [v0, v1] st u P = zr 286 35 [v0, v1] (.int 5 :: st) u P := zr_I k286_34
theorem k286_35 : xcd 286 35 = oCalV 11 262 2 38 := rfl
theorem r286_35 : zr 286 35 [v0, v1] (.int y2 :: .int y1 :: .ref b8 :: st) u P = ((xIs u b8 11 ∧ xcat st ≤ 8) ∧ zr 262 0 [.ref b8, .int y1, .int y2] [] u (fun r u2 => zr 286 38 [v0, v1] (r.toList ++ st) u2 P)) := zr_CV k286_35 rfl rfl rfl ⟨Nat.le_of_ble_eq_true rfl, Nat.succ_ne_zero _, by decide⟩ rfl
theorem k286_38 : xcd 286 38 = oCalV 11 257 6 41 := rfl
theorem r286_38 : zr 286 38 [v0, v1] (.int y6 :: .int y5 :: .int y4 :: .int y3 :: .int y2 :: .int y1 :: .ref b8 :: st) u P = ((xIs u b8 11 ∧ xcat st ≤ 8) ∧ zr 257 0 [.ref b8, .int y1, .int y2, .int y3, .int y4, .int y5, .int y6, .null, .null, .null] [] u (fun r u2 => zr 286 41 [v0, v1] (r.toList ++ st) u2 P)) := zr_CV k286_38 rfl rfl rfl ⟨Nat.le_of_ble_eq_true rfl, Nat.succ_ne_zero _, by decide⟩ rfl
theorem k286_41 : xcd 286 41 = oRi 0 := rfl
theorem r286_41 : zr 286 41 [v0, v1] [.int y1] u P = P (some (.int y1)) u := zr_Ri k286_41
theorem k287_0 : xcd 287 0 = oAl 0 1 := rfl
theorem r287_0 : zr 287 0 [.ref a0, v1, v2] st u P = zr 287 1 [.ref a0, v1, v2] (.ref a0 :: st) u P := zr_Al k287_0 rfl
theorem k287_1 : xcd 287 1 = oI 0 2 := rfl
theorem r287_1 : zr 287 1 [v0, v1, v2] st u P = zr 287 2 [v0, v1, v2] (.int 0 :: st) u P := zr_I k287_1
theorem k287_2 : xcd 287 2 = oPI 11 0 5 := rfl
theorem r287_2 : zr 287 2 [v0, v1, v2] (.int y1 :: .ref b1 :: st) u P = (xIs u b1 11 ∧ zr 287 5 [v0, v1, v2] st (xsI u b1 0 y1) P) := zr_PI k287_2
theorem k287_5 : xcd 287 5 = oAl 0 6 := rfl
theorem r287_5 : zr 287 5 [.ref a0, v1, v2] st u P = zr 287 6 [.ref a0, v1, v2] (.ref a0 :: st) u P := zr_Al k287_5 rfl
theorem k287_6 : xcd 287 6 = oGI 11 7 9 := rfl
theorem r287_6 : zr 287 6 [v0, v1, v2] (.ref b1 :: st) u P = (xIs u b1 11 ∧ zr 287 9 [v0, v1, v2] (.int (xI u b1 7) :: st) u P) := zr_GI k287_6
theorem k287_9 : xcd 287 9 = oIf (fun x => decide (¬ x = 0)) 18 12 := rfl
theorem r287_9 : zr 287 9 [v0, v1, v2] (.int y1 :: st) u P = (if ¬ y1 = 0 then zr 287 18 [v0, v1, v2] st u P else zr 287 12 [v0, v1, v2] st u P) := zr_If k287_9
theorem k287_12 : xcd 287 12 = oAl 0 13 := rfl
theorem r287_12 : zr 287 12 [.ref a0, v1, v2] st u P = zr 287 13 [.ref a0, v1, v2] (.ref a0 :: st) u P := zr_Al k287_12 rfl
theorem k287_13 : xcd 287 13 = oI 1 14 := rfl
theorem r287_13 : zr 287 13 [v0, v1, v2] st u P = zr 287 14 [v0, v1, v2] (.int 1 :: st) u P := zr_I k287_13
theorem k287_14 : xcd 287 14 = oCalV 11 172 1 17 := rfl
theorem r287_14 : zr 287 14 [v0, v1, v2] (.int y1 :: .ref b8 :: st) u P = ((xIs u b8 11 ∧ xcat st ≤ 8) ∧ zr 172 0 [.ref b8, .int y1] [] u (fun r u2 => zr 287 17 [v0, v1, v2] (r.toList ++ st) u2 P)) := zr_CV k287_14 rfl rfl rfl ⟨Nat.le_of_ble_eq_true rfl, Nat.succ_ne_zero _, by decide⟩ rfl
theorem k287_17 : xcd 287 17 = oRi 0 := rfl
theorem r287_17 : zr 287 17 [v0, v1, v2] [.int y1] u P = P (some (.int y1)) u := zr_Ri k287_17
theorem k287_18 : xcd 287 18 = oI 0 19 := rfl
theorem r287_18 : zr 287 18 [v0, v1, v2] st u P = zr 287 19 [v0, v1, v2] (.int 0 :: st) u P := zr_I k287_18
theorem k287_19 : xcd 287 19 = oIs 1 20 := rfl
theorem r287_19 : zr 287 19 [.ref a0, v1, v2] (.int y1 :: st) u P = zr 287 20 [.ref a0, .int y1, v2] st u P := zr_Is k287_19 ⟨Nat.le_of_ble_eq_true rfl, rfl⟩
theorem k287_20 : xcd 287 20 = oI 0 21 := rfl
theorem r287_20 : zr 287 20 [v0, v1, v2] st u P = zr 287 21 [v0, v1, v2] (.int 0 :: st) u P := zr_I k287_20
theorem k287_21 : xcd 287 21 = oIs 2 22 := rfl
theorem r287_21 : zr 287 21 [v0, .int x1, v2] (.int y1 :: st) u P = zr 287 22 [v0, .int x1, .int y1] st u P := zr_Is k287_21 ⟨Nat.le_of_ble_eq_true rfl, rfl⟩
theorem k287_22 : xcd 287 22 = oIl 2 23 := rfl
theorem r287_22 : zr 287 22 [v0, v1, .int x2] st u P = zr 287 23 [v0, v1, .int x2] (.int x2 :: st) u P := zr_Il k287_22 rfl
theorem k287_23 : xcd 287 23 = oAl 0 24 := rfl
theorem r287_23 : zr 287 23 [.ref a0, v1, v2] st u P = zr 287 24 [.ref a0, v1, v2] (.ref a0 :: st) u P := zr_Al k287_23 rfl
theorem k287_24 : xcd 287 24 = oGI 11 20 27 := rfl
theorem r287_24 : zr 287 24 [v0, v1, v2] (.ref b1 :: st) u P = (xIs u b1 11 ∧ zr 287 27 [v0, v1, v2] (.int (xI u b1 20) :: st) u P) := zr_GI k287_24
theorem k287_27 : xcd 287 27 = oCmp (fun x y => decide (y ≤ x)) 57 30 := rfl
theorem r287_27 : zr 287 27 [v0, v1, v2] (.int y1 :: .int y2 :: st) u P = (if y1 ≤ y2 then zr 287 57 [v0, v1, v2] st u P else zr 287 30 [v0, v1, v2] st u P) := zr_Cmp k287_27
theorem k287_30 : xcd 287 30 = oIl 1 31 := rfl
theorem r287_30 : zr 287 30 [v0, .int x1, v2] st u P = zr 287 31 [v0, .int x1, v2] (.int x1 :: st) u P := zr_Il k287_30 rfl
theorem k287_31 : xcd 287 31 = oAl 0 32 := rfl
theorem r287_31 : zr 287 31 [.ref a0, v1, v2] st u P = zr 287 32 [.ref a0, v1, v2] (.ref a0 :: st) u P := zr_Al k287_31 rfl
theorem k287_32 : xcd 287 32 = oIl 2 33 := rfl
theorem r287_32 : zr 287 32 [v0, v1, .int x2] st u P = zr 287 33 [v0, v1, .int x2] (.int x2 :: st) u P := zr_Il k287_32 rfl
theorem k287_33 : xcd 287 33 = oCalV 11 286 1 36 := rfl
theorem r287_33 : zr 287 33 [v0, v1, v2] (.int y1 :: .ref b8 :: st) u P = ((xIs u b8 11 ∧ xcat st ≤ 8) ∧ zr 286 0 [.ref b8, .int y1] [] u (fun r u2 => zr 287 36 [v0, v1, v2] (r.toList ++ st) u2 P)) := zr_CV k287_33 rfl rfl rfl ⟨Nat.le_of_ble_eq_true rfl, Nat.succ_ne_zero _, by decide⟩ rfl
theorem k287_36 : xcd 287 36 = oAl 0 37 := rfl
theorem r287_36 : zr 287 36 [.ref a0, v1, v2] st u P = zr 287 37 [.ref a0, v1, v2] (.ref a0 :: st) u P := zr_Al k287_36 rfl
theorem k287_37 : xcd 287 37 = oIl 2 38 := rfl
theorem r287_37 : zr 287 37 [v0, v1, .int x2] st u P = zr 287 38 [v0, v1, .int x2] (.int x2 :: st) u P := zr_Il k287_37 rfl
theorem k287_38 : xcd 287 38 = oCalV 11 266 1 41 := rfl
theorem r287_38 : zr 287 38 [v0, v1, v2] (.int y1 :: .ref b8 :: st) u P = ((xIs u b8 11 ∧ xcat st ≤ 8) ∧ zr 266 0 [.ref b8, .int y1, .null, .null] [] u (fun r u2 => zr 287 41 [v0, v1, v2] (r.toList ++ st) u2 P)) := zr_CV k287_38 rfl rfl rfl ⟨Nat.le_of_ble_eq_true rfl, Nat.succ_ne_zero _, by decide⟩ rfl
theorem k287_41 : xcd 287 41 = oCmp (fun x y => decide (¬ x = y)) 48 44 := rfl
theorem r287_41 : zr 287 41 [v0, v1, v2] (.int y1 :: .int y2 :: st) u P = (if ¬ y2 = y1 then zr 287 48 [v0, v1, v2] st u P else zr 287 44 [v0, v1, v2] st u P) := zr_Cmp k287_41
theorem k287_44 : xcd 287 44 = oI 0 45 := rfl
theorem r287_44 : zr 287 44 [v0, v1, v2] st u P = zr 287 45 [v0, v1, v2] (.int 0 :: st) u P := zr_I k287_44
theorem k287_45 : xcd 287 45 = oGoto 49 := rfl
theorem r287_45 : zr 287 45 [v0, v1, v2] st u P = zr 287 49 [v0, v1, v2] st u P := zr_Goto k287_45
theorem k287_48 : xcd 287 48 = oI 1 49 := rfl
theorem r287_48 : zr 287 48 [v0, v1, v2] st u P = zr 287 49 [v0, v1, v2] (.int 1 :: st) u P := zr_I k287_48
theorem k287_49 : xcd 287 49 = oB (fun x y => x + y) 50 := rfl
theorem r287_49 : zr 287 49 [v0, v1, v2] (.int y1 :: .int y2 :: st) u P = zr 287 50 [v0, v1, v2] (.int (y2 + y1) :: st) u P := zr_B k287_49
theorem k287_50 : xcd 287 50 = oIs 1 51 := rfl
theorem r287_50 : zr 287 50 [.ref a0, v1, v2] (.int y1 :: st) u P = zr 287 51 [.ref a0, .int y1, v2] st u P := zr_Is k287_50 ⟨Nat.le_of_ble_eq_true rfl, rfl⟩
theorem k287_51 : xcd 287 51 = oInc 2 1 54 := rfl
theorem r287_51 : zr 287 51 [v0, .int x1, .int x2] st u P = zr 287 54 [v0, .int x1, .int (x2 + 1)] st u P := zr_Inc k287_51 rfl rfl
theorem k287_54 : xcd 287 54 = oGoto 22 := rfl
theorem r287_54 : zr 287 54 [v0, v1, v2] st u P = zr 287 22 [v0, v1, v2] st u P := zr_Goto k287_54
theorem k287_57 : xcd 287 57 = oAl 0 58 := rfl
theorem r287_57 : zr 287 57 [.ref a0, v1, v2] st u P = zr 287 58 [.ref a0, v1, v2] (.ref a0 :: st) u P := zr_Al k287_57 rfl
theorem k287_58 : xcd 287 58 = oIl 1 59 := rfl
theorem r287_58 : zr 287 58 [v0, .int x1, v2] st u P = zr 287 59 [v0, .int x1, v2] (.int x1 :: st) u P := zr_Il k287_58 rfl
theorem k287_59 : xcd 287 59 = oCalV 11 174 1 62 := rfl
theorem r287_59 : zr 287 59 [v0, v1, v2] (.int y1 :: .ref b8 :: st) u P = ((xIs u b8 11 ∧ xcat st ≤ 8) ∧ zr 174 0 [.ref b8, .int y1] [] u (fun r u2 => zr 287 62 [v0, v1, v2] (r.toList ++ st) u2 P)) := zr_CV k287_59 rfl rfl rfl ⟨Nat.le_of_ble_eq_true rfl, Nat.succ_ne_zero _, by decide⟩ rfl
theorem k287_62 : xcd 287 62 = oRi 0 := rfl
theorem r287_62 : zr 287 62 [v0, v1, v2] [.int y1] u P = P (some (.int y1)) u := zr_Ri k287_62
end
