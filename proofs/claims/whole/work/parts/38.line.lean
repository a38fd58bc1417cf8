/-! LINES -/
def fPb (ex cap price left : Int32) : Int32 := if ex = 0 then left * (if 0 ≤ cap then (if cap < price then cap else price) else price) else 0
def fPt (base rate : Int32) : Int32 := ((base.toInt64 * rate.toInt64 + 5000) / 10000).toInt32
/-- base and tax of part i of the line at a -/
def lBase (u : xMem) (a i : Nat) : Int32 := fPb (xI u (a + 4) i) (xI u (a + 3) i) (xI u a 5) (xI u a 6)
def lTax (u : xMem) (a i : Nat) : Int32 := fPt (lBase u a i) (xI u (a + 2) i)
def fTx (pl tax : Nat → Int32) (p : Int32) : Nat → Int32
  | 0 => 0
  | k + 1 => if p = -1 ∨ pl k = p then fTx pl tax p k + tax k else fTx pl tax p k
def fMe (pl : Nat → Int32) (p : Int32) : Nat → Nat → Bool
  | 0, _ => false
  | r + 1, i => decide (pl i = p) || fMe pl p r (i + 1)
def mSell (u : xMem) (a : Nat) (d x y c n e : Int32) : xMem := xsI (xsI (xsI (xsI (xsI (xsI (xsI (xsI (xsI u a 0 d) a 1 x) a 2 y) a 3 c) a 4 n) a 6 n) a 5 e) a 7 (-1)) a 8 0
def mPart (u : xMem) (a n : Nat) (p r c f : Int32) : xMem := xsI (xsI (xsI (xsI (xsI u (a + 1) n p) (a + 2) n r) (a + 3) n c) (a + 4) n f) a 8 (nI (n + 1))
theorem vp_nar_bI (b : Bool) : vp_nar .boolean (bI b) = bI b := by cases b <;> rfl
theorem sw_in {ts : List Nat} {d k : Nat} (h : k < ts.length) (h2 : ts.length < 1000) : (if nI k < 0 ∨ nI ts.length ≤ nI k then d else ts.getD (nI k).toNatClampNeg d) = ts.getD k d := by
  rw [if_neg (by rintro (q | q); exact nI_pos (by omega) q; exact nI_ge (b := ts.length) (by omega) (by omega) q), nI_clamp (by omega)]
section
variable {u : xMem} {P : Option Value → xMem → Prop} {a n i : Nat} {p d x y c e r f : Int32}
theorem partBase_run (hL : sLn u a) (hi : i < 4) : zr 56 0 [.ref a, .int (nI i)] [] u P = P (some (.int (lBase u a i))) u := by
  obtain ⟨h0, ⟨e9, e10, e11, e12⟩, ⟨i1, n1⟩, ⟨i2, n2⟩, ⟨i3, n3⟩, ⟨i4, n4⟩⟩ := hL
  have q1 : xinb (nI i) 4 := xinb_nI hi (by omega)
  have q2 : xix (nI i) = i := xix_nI (by omega)
  simp only [r56_0, r56_1, r56_4, r56_5, r56_6, r56_9, r56_10, r56_11, r56_12, r56_15, r56_16, r56_19, r56_20, r56_21, r56_24, r56_25, r56_28, r56_31, r56_32, r56_35, r56_36, r56_39, r56_40, r56_41, r56_44, r56_45, h0, e11, e12, i3, i4, n3, n4, q1, q2, lBase, fPb, true_and, and_true, Option.some.injEq, exists_eq_left', Option.toList_some, Option.toList_none, List.cons_append, List.nil_append, xcat_nil, xcat_int, xcat_ref, xcat_long, not_true, not_false_iff, if_true, if_false, and_self, and_false, false_and, or_true, true_or, or_self, z01, z10, zle8, Nat.reduceAdd, Nat.reduceLeDiff]
  by_cases c1 : xI u (a + 4) i = 0
  · by_cases c2 : 0 ≤ xI u (a + 3) i <;> simp only [c1, c2, true_and, and_true, Option.some.injEq, exists_eq_left', Option.toList_some, Option.toList_none, List.cons_append, List.nil_append, xcat_nil, xcat_int, xcat_ref, xcat_long, not_true, not_false_iff, if_true, if_false, and_self, and_false, false_and, or_true, true_or, or_self, z01, z10, zle8, Nat.reduceAdd, Nat.reduceLeDiff]
  · simp only [c1, true_and, and_true, Option.some.injEq, exists_eq_left', Option.toList_some, Option.toList_none, List.cons_append, List.nil_append, xcat_nil, xcat_int, xcat_ref, xcat_long, not_true, not_false_iff, if_true, if_false, and_self, and_false, false_and, or_true, true_or, or_self, z01, z10, zle8, Nat.reduceAdd, Nat.reduceLeDiff]
theorem partTax_run (hL : sLn u a) (hi : i < 4) : zr 57 0 [.ref a, .int (nI i)] [] u P = P (some (.int (lTax u a i))) u := by
  have hb := fun P => partBase_run (P := P) hL hi
  obtain ⟨h0, ⟨e9, e10, e11, e12⟩, ⟨i1, n1⟩, ⟨i2, n2⟩, -⟩ := hL
  have q1 : xinb (nI i) 4 := xinb_nI hi (by omega)
  have q2 : xix (nI i) = i := xix_nI (by omega)
  have t : ¬ (10000 : Int64) = 0 := by decide
  simp only [r57_0, r57_1, r57_2, r57_5, r57_6, r57_7, r57_10, r57_11, r57_12, r57_13, r57_14, r57_17, r57_18, r57_21, r57_22, r57_23, h0, hb, e10, i2, n2, q1, q2, t, lTax, fPt, true_and, and_true, Option.some.injEq, exists_eq_left', Option.toList_some, Option.toList_none, List.cons_append, List.nil_append, xcat_nil, xcat_int, xcat_ref, xcat_long, not_true, not_false_iff, if_true, if_false, and_self, and_false, false_and, or_true, true_or, or_self, z01, z10, zle8, Nat.reduceAdd, Nat.reduceLeDiff]
theorem taxOf_loop (hL : sLn u a) (hn : xI u a 8 = nI n) (h4 : n ≤ 4) : ∀ k i, i + k = n → zr 58 4 [.ref a, .int p, .int (fTx (xI u (a + 1)) (lTax u a) p i), .int (nI i)] [] u P = P (some (.int (fTx (xI u (a + 1)) (lTax u a) p n))) u := by
  have hb := fun i hi P => partTax_run (i := i) (P := P) hL hi
  obtain ⟨h0, ⟨e9, e10, e11, e12⟩, ⟨i1, n1⟩, -⟩ := hL
  intro k
  induction k with
  | zero =>
    intro i hi
    have : i = n := by omega
    subst this
    rw [r58_4]
    simp only [r58_5, r58_6, r58_9, r58_41, r58_42, h0, hn, true_and, and_true, Option.some.injEq, exists_eq_left', Option.toList_some, Option.toList_none, List.cons_append, List.nil_append, xcat_nil, xcat_int, xcat_ref, xcat_long, not_true, not_false_iff, if_true, if_false, and_self, and_false, false_and, or_true, true_or, or_self, z01, z10, zle8, Nat.reduceAdd, Nat.reduceLeDiff]
    rw [if_pos (nI_le (Nat.le_refl _) (by omega))]
  | succ k ih =>
    intro i hi
    have q0 : ¬ nI n ≤ nI i := nI_ge (by omega) (by omega)
    have q1 : xinb (nI i) 4 := xinb_nI (by omega) (by omega)
    have q2 : xix (nI i) = i := xix_nI (by omega)
    have hb := hb i (by omega)
    have ih := ih (i + 1) (by omega)
    simp only [fTx] at ih
    rw [r58_4]
    simp only [r58_5, r58_6, r58_9, r58_12, r58_13, r58_14, r58_17, r58_18, r58_21, r58_22, r58_23, r58_24, r58_27, r58_28, r58_29, r58_30, r58_33, r58_34, r58_35, r58_38, h0, hn, hb, e9, i1, n1, q0, q1, q2, nI_1, true_and, and_true, Option.some.injEq, exists_eq_left', Option.toList_some, Option.toList_none, List.cons_append, List.nil_append, xcat_nil, xcat_int, xcat_ref, xcat_long, not_true, not_false_iff, if_true, if_false, and_self, and_false, false_and, or_true, true_or, or_self, z01, z10, zle8, Nat.reduceAdd, Nat.reduceLeDiff]
    by_cases c1 : p = -1
    · simp only [c1, true_and, and_true, Option.some.injEq, exists_eq_left', Option.toList_some, Option.toList_none, List.cons_append, List.nil_append, xcat_nil, xcat_int, xcat_ref, xcat_long, not_true, not_false_iff, if_true, if_false, and_self, and_false, false_and, or_true, true_or, or_self, z01, z10, zle8, Nat.reduceAdd, Nat.reduceLeDiff] at ih ⊢
      exact ih
    · by_cases c2 : xI u (a + 1) i = p <;> simp only [c1, c2, false_or, true_and, and_true, Option.some.injEq, exists_eq_left', Option.toList_some, Option.toList_none, List.cons_append, List.nil_append, xcat_nil, xcat_int, xcat_ref, xcat_long, not_true, not_false_iff, if_true, if_false, and_self, and_false, false_and, or_true, true_or, or_self, z01, z10, zle8, Nat.reduceAdd, Nat.reduceLeDiff] at ih ⊢ <;> exact ih
theorem taxOf_run (hL : sLn u a) (hn : xI u a 8 = nI n) (h4 : n ≤ 4) : zr 58 0 [.ref a, .int p, .null, .null] [] u P = P (some (.int (fTx (xI u (a + 1)) (lTax u a) p n))) u := by
  simp only [r58_0, r58_1, r58_2, r58_3]
  exact taxOf_loop hL hn h4 n 0 (by omega)
theorem lmentions_loop (hL : sLn u a) (hn : xI u a 8 = nI n) (h4 : n ≤ 4) : ∀ k i, i + k = n → zr 59 2 [.ref a, .int p, .int (nI i)] [] u P = P (some (.int (bI (fMe (xI u (a + 1)) p k i)))) u := by
  obtain ⟨h0, ⟨e9, e10, e11, e12⟩, ⟨i1, n1⟩, -⟩ := hL
  intro k
  induction k with
  | zero =>
    intro i hi
    have : i = n := by omega
    subst this
    rw [r59_2]
    simp only [r59_0, r59_1, r59_3, r59_4, r59_7, r59_10, r59_11, r59_14, r59_15, r59_16, r59_17, r59_20, r59_21, r59_22, r59_25, r59_28, r59_29, h0, hn, fMe, bI_f, true_and, and_true, Option.some.injEq, exists_eq_left', Option.toList_some, Option.toList_none, List.cons_append, List.nil_append, xcat_nil, xcat_int, xcat_ref, xcat_long, not_true, not_false_iff, if_true, if_false, and_self, and_false, false_and, or_true, true_or, or_self, z01, z10, zle8, Nat.reduceAdd, Nat.reduceLeDiff]
    rw [if_pos (nI_le (Nat.le_refl _) (by omega))]
  | succ k ih =>
    intro i hi
    have q0 : ¬ nI n ≤ nI i := nI_ge (by omega) (by omega)
    have q1 : xinb (nI i) 4 := xinb_nI (by omega) (by omega)
    have q2 : xix (nI i) = i := xix_nI (by omega)
    have ih := ih (i + 1) (by omega)
    rw [r59_2]
    simp only [r59_0, r59_1, r59_3, r59_4, r59_7, r59_10, r59_11, r59_14, r59_15, r59_16, r59_17, r59_20, r59_21, r59_22, r59_25, r59_28, r59_29, h0, hn, e9, i1, n1, q0, q1, q2, nI_1, ih, fMe, true_and, and_true, Option.some.injEq, exists_eq_left', Option.toList_some, Option.toList_none, List.cons_append, List.nil_append, xcat_nil, xcat_int, xcat_ref, xcat_long, not_true, not_false_iff, if_true, if_false, and_self, and_false, false_and, or_true, true_or, or_self, z01, z10, zle8, Nat.reduceAdd, Nat.reduceLeDiff]
    by_cases c1 : xI u (a + 1) i = p <;> simp only [c1, decide_true, decide_false, Bool.true_or, Bool.false_or, bI_t, true_and, and_true, Option.some.injEq, exists_eq_left', Option.toList_some, Option.toList_none, List.cons_append, List.nil_append, xcat_nil, xcat_int, xcat_ref, xcat_long, not_true, not_false_iff, if_true, if_false, and_self, and_false, false_and, or_true, true_or, or_self, z01, z10, zle8, Nat.reduceAdd, Nat.reduceLeDiff]
theorem lmentions_run (hL : sLn u a) (hn : xI u a 8 = nI n) (h4 : n ≤ 4) : zr 59 0 [.ref a, .int p, .null] [] u P = P (some (.int (bI (fMe (xI u (a + 1)) p n 0)))) u := by
  simp only [r59_0, r59_1]
  exact lmentions_loop hL hn h4 n 0 (by omega)
theorem sell_run (hL : sLn u a) : zr 54 0 [.ref a, .int d, .int x, .int y, .int c, .int r, .int e] [] u P = P none (mSell u a d x y c r e) := by
  simp only [r54_0, r54_1, r54_2, r54_5, r54_6, r54_7, r54_10, r54_11, r54_12, r54_15, r54_16, r54_18, r54_21, r54_22, r54_24, r54_27, r54_28, r54_30, r54_33, r54_34, r54_36, r54_39, r54_40, r54_41, r54_44, r54_45, r54_46, r54_49, xIs_sI, hL.1, mSell, true_and, and_true, Option.some.injEq, exists_eq_left', Option.toList_some, Option.toList_none, List.cons_append, List.nil_append, xcat_nil, xcat_int, xcat_ref, xcat_long, not_true, not_false_iff, if_true, if_false, and_self, and_false, false_and, or_true, true_or, or_self, z01, z10, zle8, Nat.reduceAdd, Nat.reduceLeDiff]
theorem addPart_run (hL : sLn u a) (hn : xI u a 8 = nI n) (h4 : n < 4) {fb : Bool} : zr 55 0 [.ref a, .int p, .int r, .int c, .int (bI fb)] [] u P = P none (mPart u a n p r c (bI fb)) := by
  obtain ⟨h0, ⟨e9, e10, e11, e12⟩, ⟨i1, n1⟩, ⟨i2, n2⟩, ⟨i3, n3⟩, ⟨i4, n4⟩⟩ := hL
  have q1 : xinb (nI n) 4 := xinb_nI h4 (by omega)
  have q2 : xix (nI n) = n := xix_nI (by omega)
  have g1 : ¬ a = a + 1 := by omega
  have g2 : ¬ a = a + 2 := by omega
  have g3 : ¬ a = a + 3 := by omega
  have g4 : ¬ a = a + 4 := by omega
  simp only [r55_0, r55_1, r55_4, r55_5, r55_8, r55_9, r55_10, r55_11, r55_14, r55_15, r55_18, r55_19, r55_20, r55_21, r55_24, r55_25, r55_28, r55_29, r55_30, r55_31, r55_34, r55_35, r55_38, r55_40, r55_41, r55_42, r55_43, r55_46, r55_47, r55_48, r55_51, xIs_sI, xR_sI, xN_sI, xI_sI, h0, hn, e9, e10, e11, e12, i1, i2, i3, i4, n1, n2, n3, n4, q1, q2, g1, g2, g3, g4, vp_nar_bI, nI_1, mPart, true_and, and_true, Option.some.injEq, exists_eq_left', Option.toList_some, Option.toList_none, List.cons_append, List.nil_append, xcat_nil, xcat_int, xcat_ref, xcat_long, not_true, not_false_iff, if_true, if_false, and_self, and_false, false_and, or_true, true_or, or_self, z01, z10, zle8, Nat.reduceAdd, Nat.reduceLeDiff]
/-! what a line tells -/
def fTell (u : xMem) (a : Nat) (n k : Nat) : Int32 := if k = 7 then nI n else if k = 8 then fTx (xI u (a + 1)) (lTax u a) (-1) n else if k = 9 then (if 0 ≤ xI u a 7 then 1 else 0) else xI u a k
theorem tells_run (hL : sLn u a) (hn : xI u a 8 = nI n) (h4 : n ≤ 4) {k : Nat} (hk : k < 10) : zr 60 0 [.ref a, .int (nI k)] [] u P = P (some (.int (fTell u a n k))) u := by
  have ht := fun p P => taxOf_run (p := p) (P := P) hL hn h4
  have h0 := hL.1
  have hc : k = 0 ∨ k = 1 ∨ k = 2 ∨ k = 3 ∨ k = 4 ∨ k = 5 ∨ k = 6 ∨ k = 7 ∨ k = 8 ∨ k = 9 := by omega
  rw [r60_0, r60_1]
  by_cases h9 : k = 9
  · subst h9
    rw [if_pos (show nI 9 < 0 ∨ (9 : Int32) ≤ nI 9 by decide)]
    simp only [r60_0, r60_1, r60_52, r60_53, r60_56, r60_57, r60_58, r60_61, r60_62, r60_63, r60_66, r60_67, r60_68, r60_71, r60_72, r60_73, r60_76, r60_77, r60_78, r60_81, r60_82, r60_83, r60_86, r60_87, r60_88, r60_91, r60_92, r60_93, r60_94, r60_97, r60_98, r60_99, r60_102, r60_105, r60_106, r60_109, r60_110, r60_113, bit_run, h0, fTell, true_and, and_true, Option.some.injEq, exists_eq_left', Option.toList_some, Option.toList_none, List.cons_append, List.nil_append, xcat_nil, xcat_int, xcat_ref, xcat_long, not_true, not_false_iff, if_true, if_false, and_self, and_false, false_and, or_true, true_or, or_self, z01, z10, zle8, Nat.reduceAdd, Nat.reduceLeDiff]
    by_cases c1 : xI u a 7 < 0
    · simp only [c1, i32_nle.mpr c1, true_and, and_true, Option.some.injEq, exists_eq_left', Option.toList_some, Option.toList_none, List.cons_append, List.nil_append, xcat_nil, xcat_int, xcat_ref, xcat_long, not_true, not_false_iff, if_true, if_false, and_self, and_false, false_and, or_true, true_or, or_self, z01, z10, zle8, Nat.reduceAdd, Nat.reduceLeDiff] <;> rfl
    · simp only [c1, i32_nlt.mp c1, true_and, and_true, Option.some.injEq, exists_eq_left', Option.toList_some, Option.toList_none, List.cons_append, List.nil_append, xcat_nil, xcat_int, xcat_ref, xcat_long, not_true, not_false_iff, if_true, if_false, and_self, and_false, false_and, or_true, true_or, or_self, z01, z10, zle8, Nat.reduceAdd, Nat.reduceLeDiff] <;> rfl
  · refine (congrArg (fun pc => zr 60 pc [.ref a, .int (nI k)] [] u P) (sw_in (ts := [52, 57, 62, 67, 72, 77, 82, 87, 92]) (d := 98) (k := k) (by simp only [List.length]; omega) (by simp only [List.length]; omega))).trans ?_
    rcases hc with rfl | rfl | rfl | rfl | rfl | rfl | rfl | rfl | rfl | rfl <;> simp only [List.getD_cons_zero, List.getD_cons_succ, r60_0, r60_1, r60_52, r60_53, r60_56, r60_57, r60_58, r60_61, r60_62, r60_63, r60_66, r60_67, r60_68, r60_71, r60_72, r60_73, r60_76, r60_77, r60_78, r60_81, r60_82, r60_83, r60_86, r60_87, r60_88, r60_91, r60_92, r60_93, r60_94, r60_97, r60_98, r60_99, r60_102, r60_105, r60_106, r60_109, r60_110, r60_113, h0, hn, ht, fTell, true_and, and_true, Option.some.injEq, exists_eq_left', Option.toList_some, Option.toList_none, List.cons_append, List.nil_append, xcat_nil, xcat_int, xcat_ref, xcat_long, not_true, not_false_iff, if_true, if_false, and_self, and_false, false_and, or_true, true_or, or_self, z01, z10, zle8, Nat.reduceAdd, Nat.reduceLeDiff] <;> first | rfl | exact absurd rfl h9
def fTellP (u : xMem) (a i k : Nat) : Int32 := if k = 0 then xI u (a + 1) i else if k = 1 then xI u (a + 2) i else if k = 2 then xI u (a + 3) i else if k = 3 then (if xI u (a + 4) i = 0 then 0 else 1) else if k = 4 then lBase u a i else lTax u a i
theorem tellsPart_run (hL : sLn u a) (hi : i < 4) {k : Nat} (hk : k < 6) : zr 61 0 [.ref a, .int (nI i), .int (nI k)] [] u P = P (some (.int (fTellP u a i k))) u := by
  have hb := fun P => partBase_run (P := P) hL hi
  have ht := fun P => partTax_run (P := P) hL hi
  obtain ⟨h0, ⟨e9, e10, e11, e12⟩, ⟨i1, n1⟩, ⟨i2, n2⟩, ⟨i3, n3⟩, ⟨i4, n4⟩⟩ := hL
  have q1 : xinb (nI i) 4 := xinb_nI hi (by omega)
  have q2 : xix (nI i) = i := xix_nI (by omega)
  have hc : k = 0 ∨ k = 1 ∨ k = 2 ∨ k = 3 ∨ k = 4 ∨ k = 5 := by omega
  rw [r61_0, r61_1]
  by_cases h9 : k = 5
  · subst h9
    rw [if_pos (show nI 5 < 0 ∨ (5 : Int32) ≤ nI 5 by decide)]
    simp only [r61_0, r61_1, r61_36, r61_37, r61_40, r61_41, r61_42, r61_43, r61_44, r61_47, r61_48, r61_49, r61_50, r61_51, r61_54, r61_55, r61_56, r61_57, r61_58, r61_61, r61_62, r61_63, r61_66, r61_67, r61_68, r61_69, r61_72, r61_73, r61_74, r61_75, r61_78, h0, ht, fTellP, true_and, and_true, Option.some.injEq, exists_eq_left', Option.toList_some, Option.toList_none, List.cons_append, List.nil_append, xcat_nil, xcat_int, xcat_ref, xcat_long, not_true, not_false_iff, if_true, if_false, and_self, and_false, false_and, or_true, true_or, or_self, z01, z10, zle8, Nat.reduceAdd, Nat.reduceLeDiff] <;> rfl
  · refine (congrArg (fun pc => zr 61 pc [.ref a, .int (nI i), .int (nI k)] [] u P) (sw_in (ts := [36, 43, 50, 57, 67]) (d := 73) (k := k) (by simp only [List.length]; omega) (by simp only [List.length]; omega))).trans ?_
    rcases hc with rfl | rfl | rfl | rfl | rfl | rfl <;> simp only [List.getD_cons_zero, List.getD_cons_succ, r61_0, r61_1, r61_36, r61_37, r61_40, r61_41, r61_42, r61_43, r61_44, r61_47, r61_48, r61_49, r61_50, r61_51, r61_54, r61_55, r61_56, r61_57, r61_58, r61_61, r61_62, r61_63, r61_66, r61_67, r61_68, r61_69, r61_72, r61_73, r61_74, r61_75, r61_78, bit_run, h0, e9, e10, e11, e12, i1, i2, i3, i4, n1, n2, n3, n4, q1, q2, hb, ht, fTellP, true_and, and_true, Option.some.injEq, exists_eq_left', Option.toList_some, Option.toList_none, List.cons_append, List.nil_append, xcat_nil, xcat_int, xcat_ref, xcat_long, not_true, not_false_iff, if_true, if_false, and_self, and_false, false_and, or_true, true_or, or_self, z01, z10, zle8, Nat.reduceAdd, Nat.reduceLeDiff] <;> first | rfl | exact absurd rfl h9
end
