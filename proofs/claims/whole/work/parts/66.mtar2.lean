/-! THE MODEL: reading its row; holidays, caps; latest bounds and rates -/
section
variable {M : Nat → Int32} {u g : xMem} {P : Option Value → xMem → Prop} {D s nl np nb nc nr nh nk ra n : Nat} {p d x y c price : Int32}
theorem cpD.rt (hc : cpD M g D np nb nc nr nh nk) {i : Nat} (hi : i < nr) : M (274 + 4 * i) = xI g (D + 15) i ∧ M (274 + 4 * i + 1) = xI g (D + 16) i ∧ M (274 + 4 * i + 2) = xI g (D + 17) i ∧ M (274 + 4 * i + 3) = xI g (D + 18) i := by
  obtain ⟨a, b, c, d⟩ := hc.2.2.2.2.1 i hi
  rw [show 274 + 4 * i + 1 = 275 + 4 * i by omega, show 274 + 4 * i + 2 = 276 + 4 * i by omega, show 274 + 4 * i + 3 = 277 + 4 * i by omega]
  exact ⟨a, b, c, d⟩
theorem cpD.ho (hc : cpD M g D np nb nc nr nh nk) {i : Nat} (hi : i < nh) : M (354 + 5 * i) = xI g (D + 19) i ∧ M (354 + 5 * i + 1) = xI g (D + 20) i ∧ M (354 + 5 * i + 2) = xI g (D + 21) i ∧ M (354 + 5 * i + 3) = xI g (D + 22) i ∧ M (354 + 5 * i + 4) = xI g (D + 23) i := by
  obtain ⟨a, b, c, d, e⟩ := hc.2.2.2.2.2.1 i hi
  rw [show 354 + 5 * i + 1 = 355 + 5 * i by omega, show 354 + 5 * i + 2 = 356 + 5 * i by omega, show 354 + 5 * i + 3 = 357 + 5 * i by omega, show 354 + 5 * i + 4 = 358 + 5 * i by omega]
  exact ⟨a, b, c, d, e⟩
theorem cpD.ca (hc : cpD M g D np nb nc nr nh nk) {i : Nat} (hi : i < nk) : M (384 + 3 * i) = xI g (D + 24) i ∧ M (384 + 3 * i + 1) = xI g (D + 25) i ∧ M (384 + 3 * i + 2) = xI g (D + 26) i := by
  obtain ⟨a, b, c⟩ := hc.2.2.2.2.2.2 i hi
  rw [show 384 + 3 * i + 1 = 385 + 3 * i by omega, show 384 + 3 * i + 2 = 386 + 3 * i by omega]
  exact ⟨a, b, c⟩
theorem cpD.bo (hc : cpD M g D np nb nc nr nh nk) {i : Nat} (hi : i < nb) : M (34 + 15 * i) = xI g (D + 5) i ∧ M (34 + 15 * i + 1) = xI g (D + 6) i ∧ M (34 + 15 * i + 2) = xI g (D + 7) i := by
  obtain ⟨a, b, c, d⟩ := hc.2.2.2.1 i hi
  rw [show 34 + 15 * i + 1 = 35 + 15 * i by omega, show 34 + 15 * i + 2 = 36 + 15 * i by omega]
  exact ⟨a, b, c⟩
theorem okD.e (h : okD g D s nl np nb nc nr nh nk) (hc : cpD M g D np nb nc nr nh nk) : M 0 = nI s ∧ M 1 = nI nl ∧ M 2 = nI nc ∧ M 3 = nI np ∧ M 4 = nI nb ∧ M 5 = nI nr ∧ M 6 = nI nh ∧ M 7 = nI nk := by
  obtain ⟨-, ⟨e0, -⟩, ⟨e1, -⟩, ⟨e2, -⟩, ⟨e3, -⟩, ⟨e4, -⟩, ⟨e5, -⟩, ⟨e6, -⟩, ⟨e7, -⟩, -⟩ := h
  obtain ⟨f0, f1, f2, f3, f4, f5, f6, f7⟩ := hc.1
  exact ⟨f0.trans e0, f1.trans e1, f2.trans e4, f3.trans e2, f4.trans e3, f5.trans e5, f6.trans e6, f7.trans e7⟩
theorem okD.b (h : okD g D s nl np nb nc nr nh nk) : s ≤ 40 ∧ nl ≤ 4 ∧ np ≤ 10 ∧ nb ≤ 16 ∧ nc ≤ 6 ∧ nr ≤ 20 ∧ nh ≤ 6 ∧ nk ≤ 6 := by
  obtain ⟨-, ⟨-, e0⟩, ⟨-, e1⟩, ⟨-, e2⟩, ⟨-, e3⟩, ⟨-, e4⟩, ⟨-, e5⟩, ⟨-, e6⟩, ⟨-, e7⟩, -⟩ := h
  exact ⟨e0, e1, e2, e3, e4, e5, e6, e7⟩
theorem isFreeM_run (hM : sMd u) (h : okD g D s nl np nb nc nr nh nk) (hc : cpD (xI u 279) g D np nb nc nr nh nk) {j : Nat} (hj : j < nc) :
    zr 247 0 [.ref 278, .int p, .int (nI j), .int d, .int price, .null, .null] [] u P = P (some (.int (bI (tFree g (D + 12) nh p (nI j) d price)))) u := by
  have hO := fun top P => isOf_run (top := top) (P := P) hM h hc hj
  have hb := h.b
  obtain ⟨-, -, -, -, -, -, h6, -⟩ := h.e hc
  obtain ⟨h0, ⟨r3, -⟩, ⟨j0, k0⟩, -⟩ := hM
  have lp : ∀ r i v, i + r = nh → zr 247 3 [.ref 278, .int p, .int (nI j), .int d, .int price, .int (nI i), v] [] u P = P (some (.int (bI (fFr (xI g (D + 19)) (xI g (D + 20)) (xI g (D + 21)) (xI g (D + 22)) (xI g (D + 23)) (xI g (D + 13)) p (nI j) d price r i)))) u := by
    intro r
    induction r with
    | zero =>
      intro i v hi
      have : i = nh := by omega
      subst this
      rw [r247_3]
      simp (disch := omega) only [r247_0, r247_1, r247_5, r247_6, r247_9, r247_11, r247_12, r247_15, r247_18, r247_19, r247_21, r247_22, r247_23, r247_25, r247_26, r247_29, r247_31, r247_32, r247_33, r247_36, r247_37, r247_38, r247_39, r247_42, r247_44, r247_45, r247_46, r247_47, r247_50, r247_53, r247_54, r247_55, r247_58, r247_60, r247_61, r247_62, r247_63, r247_64, r247_67, r247_69, r247_70, r247_71, r247_72, r247_75, r247_78, r247_80, r247_81, r247_84, r247_86, r247_87, r247_88, r247_89, r247_92, r247_93, r247_94, r247_97, r247_100, r247_101, h0, r3, j0, k0, h6, fFr, bI_f, xinbT, xixT, leT, leF, ltT, ltF, ngF, psT, n1F, n2F, km2, km3, km4, km5, km10, km15, km25, kl8, kl14, kl24, kl34, kl274, kl354, kl384, kr1, kr2, kr3, kr4, kr5, kr6, kr7, kr8, kr9, kaa, lb0, lb1, lb2, lb3, lb4, lb5, lb6, lb7, li0, li1, li2, li3, li4, li5, li6, li7, true_and, and_true, Option.some.injEq, exists_eq_left', Option.toList_some, Option.toList_none, List.cons_append, List.nil_append, xcat_nil, xcat_int, xcat_ref, xcat_long, not_true, not_false_iff, if_true, if_false, and_self, and_false, false_and, or_true, true_or, or_self, z01, z10, zle8, Nat.reduceAdd, Nat.reduceLeDiff]
    | succ r ih =>
      intro i v hi
      have ih := ih (i + 1) (.int (nI (354 + 5 * i))) (by omega)
      obtain ⟨a1, a2, a3, a4, a5⟩ := hc.ho (i := i) (by omega)
      rw [r247_3]
      simp (disch := omega) only [r247_0, r247_1, r247_5, r247_6, r247_9, r247_11, r247_12, r247_15, r247_18, r247_19, r247_21, r247_22, r247_23, r247_25, r247_26, r247_29, r247_31, r247_32, r247_33, r247_36, r247_37, r247_38, r247_39, r247_42, r247_44, r247_45, r247_46, r247_47, r247_50, r247_53, r247_54, r247_55, r247_58, r247_60, r247_61, r247_62, r247_63, r247_64, r247_67, r247_69, r247_70, r247_71, r247_72, r247_75, r247_78, r247_80, r247_81, r247_84, r247_86, r247_87, r247_88, r247_89, r247_92, r247_93, r247_94, r247_97, r247_100, r247_101, h0, r3, j0, k0, h6, hO, in_run, a1, a2, a3, a4, a5, ih, fFr, bI_0, xinbT, xixT, leT, leF, ltT, ltF, ngF, psT, n1F, n2F, km2, km3, km4, km5, km10, km15, km25, kl8, kl14, kl24, kl34, kl274, kl354, kl384, kr1, kr2, kr3, kr4, kr5, kr6, kr7, kr8, kr9, kaa, lb0, lb1, lb2, lb3, lb4, lb5, lb6, lb7, li0, li1, li2, li3, li4, li5, li6, li7, true_and, and_true, Option.some.injEq, exists_eq_left', Option.toList_some, Option.toList_none, List.cons_append, List.nil_append, xcat_nil, xcat_int, xcat_ref, xcat_long, not_true, not_false_iff, if_true, if_false, and_self, and_false, false_and, or_true, true_or, or_self, z01, z10, zle8, Nat.reduceAdd, Nat.reduceLeDiff]
      by_cases g1 : xI g (D + 19) i = p
      · by_cases g2 : xI g (D + 21) i ≤ d ∧ d ≤ xI g (D + 22) i
        · by_cases g3 : price ≤ xI g (D + 23) i
          · cases hf : fUn (xI g (D + 13)) (nI j) (xI g (D + 20) i) <;> simp [g1, g2, g3, hf, i32_nlt.mpr g3, bI_t]
          · cases hf : fUn (xI g (D + 13)) (nI j) (xI g (D + 20) i) <;> simp [g1, g2, g3, hf, i32_nle.mp g3]
        · cases hf : fUn (xI g (D + 13)) (nI j) (xI g (D + 20) i) <;> simp [g1, g2, hf]
      · simp [g1]
  simp only [r247_0, r247_1]
  exact lp nh 0 .null (by omega)
theorem capOf_run (hM : sMd u) (h : okD g D s nl np nb nc nr nh nk) (hc : cpD (xI u 279) g D np nb nc nr nh nk) (hV : okRv g D nr nk) {j : Nat} (hj : j < nc) :
    zr 248 0 [.ref 278, .int p, .int (nI j), .null] [] u P = P (some (.int (tCap g (D + 12) nk p (nI j)))) u := by
  have hb := h.b
  obtain ⟨-, -, -, -, -, -, -, h7⟩ := h.e hc
  have hI := fun c P => capIn_run (A := xI g (D + 24)) (B := xI g (D + 25)) (C := xI g (D + 26)) (p := p) (c := c) (P := P) hM.2.2.1 h7 (by omega) (fun k hk => hc.ca hk)
  have hcof : okCof (xI g (D + 13)) nc := h.2.2.2.2.2.2.2.2.2.1
  obtain ⟨h0, ⟨r3, -⟩, ⟨j0, k0⟩, -⟩ := hM
  have lp : ∀ r (k : Int32), (k = -2 ∨ ∃ i, i < nc ∧ i < r ∧ k = nI i) → zr 248 2 [.ref 278, .int p, .int (nI j), .int k] [] u P
      = P (some (.int (if fUp (xI g (D + 13)) (fun k => decide (0 ≤ fCt (xI g (D + 24)) (xI g (D + 25)) p k nk 0)) r k < 0 then -2 else xI g (D + 26) (xix (fCt (xI g (D + 24)) (xI g (D + 25)) p (fUp (xI g (D + 13)) (fun k => decide (0 ≤ fCt (xI g (D + 24)) (xI g (D + 25)) p k nk 0)) r k) nk 0))))) u := by
    intro r
    have m2 : ∀ r, fUp (xI g (D + 13)) (fun k => decide (0 ≤ fCt (xI g (D + 24)) (xI g (D + 25)) p k nk 0)) r (-2) < 0 := by
      intro r
      cases r with
      | zero => exact (by decide : (-2 : Int32) < 0)
      | succ r =>
        unfold fUp
        rw [if_pos (by decide)]
        decide
    induction r with
    | zero =>
      intro k hk
      rcases hk with rfl | ⟨i, -, hi, -⟩
      · rw [r248_2, if_pos (m2 0)]
        simp only [r248_3, r248_5, r248_45, r248_47, true_and, and_true, Option.some.injEq, exists_eq_left', Option.toList_some, Option.toList_none, List.cons_append, List.nil_append, xcat_nil, xcat_int, xcat_ref, xcat_long, not_true, not_false_iff, if_true, if_false, and_self, and_false, false_and, or_true, true_or, or_self, z01, z10, zle8, Nat.reduceAdd, Nat.reduceLeDiff]
      · omega
    | succ r ih =>
      intro k hk
      rcases hk with rfl | ⟨i, hi, hir, rfl⟩
      · rw [r248_2, if_pos (m2 (r + 1))]
        simp only [r248_3, r248_5, r248_45, r248_47, true_and, and_true, Option.some.injEq, exists_eq_left', Option.toList_some, Option.toList_none, List.cons_append, List.nil_append, xcat_nil, xcat_int, xcat_ref, xcat_long, not_true, not_false_iff, if_true, if_false, and_self, and_false, false_and, or_true, true_or, or_self, z01, z10, zle8, Nat.reduceAdd, Nat.reduceLeDiff]
      · have q1 : ¬ nI i < 0 := nI_pos (by omega)
        have q3 : xix (nI i) = i := xix_nI (by omega)
        have c1 := hc.2.1 i hi
        have ih := ih (xI g (D + 13) i) (by
          rcases hcof i hi with q | ⟨i', hi', q⟩
          · exact Or.inl q
          · exact Or.inr ⟨i', by omega, by omega, q⟩)
        rw [r248_2]
        rcases fCt_cases (xI g (D + 24)) (xI g (D + 25)) p (nI i) nk 0 with q | ⟨z, -, hz, q, -⟩
        · have g0 : ¬ 0 ≤ fCt (xI g (D + 24)) (xI g (D + 25)) p (nI i) nk 0 := by rw [q]; decide
          have e : fCi (xI g (D + 24)) (xI g (D + 25)) (xI g (D + 26)) p (nI i) nk = -2 := by unfold fCi; rw [if_neg g0]
          have e2 : fUp (xI g (D + 13)) (fun k => decide (0 ≤ fCt (xI g (D + 24)) (xI g (D + 25)) p k nk 0)) (r + 1) (nI i) = fUp (xI g (D + 13)) (fun k => decide (0 ≤ fCt (xI g (D + 24)) (xI g (D + 25)) p k nk 0)) r (xI g (D + 13) i) := by
            rw [fUp, if_neg q1, decide_eq_false g0, if_neg (by simp), q3]
          rw [e2]
          simp (disch := omega) only [r248_3, r248_5, r248_8, r248_9, r248_12, r248_13, r248_14, r248_17, r248_19, r248_22, r248_23, r248_26, r248_27, r248_28, r248_31, r248_32, r248_33, r248_36, r248_38, r248_39, r248_40, r248_41, r248_42, h0, r3, j0, k0, hI, e, c1, xinbT, xixT, leT, leF, ltT, ltF, ngF, psT, n1F, n2F, km2, km3, km4, km5, km10, km15, km25, kl8, kl14, kl24, kl34, kl274, kl354, kl384, kr1, kr2, kr3, kr4, kr5, kr6, kr7, kr8, kr9, kaa, lb0, lb1, lb2, lb3, lb4, lb5, lb6, lb7, li0, li1, li2, li3, li4, li5, li6, li7, true_and, and_true, Option.some.injEq, exists_eq_left', Option.toList_some, Option.toList_none, List.cons_append, List.nil_append, xcat_nil, xcat_int, xcat_ref, xcat_long, not_true, not_false_iff, if_true, if_false, and_self, and_false, false_and, or_true, true_or, or_self, z01, z10, zle8, Nat.reduceAdd, Nat.reduceLeDiff]
          exact ih
        · have g0 : 0 ≤ fCt (xI g (D + 24)) (xI g (D + 25)) p (nI i) nk 0 := by rw [q]; exact nI_pos' (by omega)
          have zz : xix (nI z) = z := xix_nI (by omega)
          have e : fCi (xI g (D + 24)) (xI g (D + 25)) (xI g (D + 26)) p (nI i) nk = xI g (D + 26) z := by unfold fCi; rw [if_pos g0, q, zz]
          have e1 : ¬ xI g (D + 26) z = -2 := fun w => by have := hV.2 z (by omega); rw [w] at this; exact absurd this (by decide)
          have e2 : fUp (xI g (D + 13)) (fun k => decide (0 ≤ fCt (xI g (D + 24)) (xI g (D + 25)) p k nk 0)) (r + 1) (nI i) = nI i := by
            rw [fUp, if_neg q1, decide_eq_true g0, if_pos rfl]
          rw [e2, if_neg q1, q, zz]
          simp (disch := omega) only [r248_3, r248_5, r248_8, r248_9, r248_12, r248_13, r248_14, r248_17, r248_19, r248_22, r248_23, r248_26, r248_27, r248_28, r248_31, r248_32, r248_33, r248_36, r248_38, r248_39, r248_40, r248_41, r248_42, h0, r3, j0, k0, hI, e, e1, xinbT, xixT, leT, leF, ltT, ltF, ngF, psT, n1F, n2F, km2, km3, km4, km5, km10, km15, km25, kl8, kl14, kl24, kl34, kl274, kl354, kl384, kr1, kr2, kr3, kr4, kr5, kr6, kr7, kr8, kr9, kaa, lb0, lb1, lb2, lb3, lb4, lb5, lb6, lb7, li0, li1, li2, li3, li4, li5, li6, li7, true_and, and_true, Option.some.injEq, exists_eq_left', Option.toList_some, Option.toList_none, List.cons_append, List.nil_append, xcat_nil, xcat_int, xcat_ref, xcat_long, not_true, not_false_iff, if_true, if_false, and_self, and_false, false_and, or_true, true_or, or_self, z01, z10, zle8, Nat.reduceAdd, Nat.reduceLeDiff]
  simp only [r248_0, r248_1]
  exact lp 6 (nI j) (Or.inr ⟨j, hj, by omega, rfl⟩)
theorem baseOf_run {n cap : Int32} {f : Bool} (hcap : cap = -2 ∨ 0 ≤ cap) : zr 255 0 [.int n, .int price, .int cap, .int (bI f)] [] u P = P (some (.int (fPb (bI f) cap price n))) u := by
  cases f
  · rcases hcap with rfl | hcap
    · simp only [r255_0, r255_1, r255_4, r255_5, r255_8, r255_9, r255_10, r255_12, r255_15, r255_16, r255_17, r255_20, r255_21, r255_24, r255_25, r255_26, bI_f, fPb, show ¬ (0 : Int32) ≤ -2 by decide, true_and, and_true, Option.some.injEq, exists_eq_left', Option.toList_some, Option.toList_none, List.cons_append, List.nil_append, xcat_nil, xcat_int, xcat_ref, xcat_long, not_true, not_false_iff, if_true, if_false, and_self, and_false, false_and, or_true, true_or, or_self, z01, z10, zle8, Nat.reduceAdd, Nat.reduceLeDiff]
    · have q : ¬ cap = -2 := fun w => by rw [w] at hcap; exact absurd hcap (by decide)
      simp only [r255_0, r255_1, r255_4, r255_5, r255_8, r255_9, r255_10, r255_12, r255_15, r255_16, r255_17, r255_20, r255_21, r255_24, r255_25, r255_26, bI_f, fPb, q, hcap, true_and, and_true, Option.some.injEq, exists_eq_left', Option.toList_some, Option.toList_none, List.cons_append, List.nil_append, xcat_nil, xcat_int, xcat_ref, xcat_long, not_true, not_false_iff, if_true, if_false, and_self, and_false, false_and, or_true, true_or, or_self, z01, z10, zle8, Nat.reduceAdd, Nat.reduceLeDiff]
      by_cases c1 : cap ≤ price
      · rw [if_pos c1]
        by_cases c2 : cap < price
        · rw [if_pos c2]
        · have : cap = price := by rw [i32_eq]; have := i32_le.mp c1; have := mt i32_lt.mpr c2; omega
          rw [this, if_neg (by rw [i32_lt]; omega)]
      · rw [if_neg c1, if_neg (fun q => c1 (by rw [i32_le]; have := i32_lt.mp q; omega))]
  · simp only [r255_0, r255_1, r255_4, r255_5, r255_8, r255_9, r255_10, r255_12, r255_15, r255_16, r255_17, r255_20, r255_21, r255_24, r255_25, r255_26, bI_t, fPb, z10, true_and, and_true, Option.some.injEq, exists_eq_left', Option.toList_some, Option.toList_none, List.cons_append, List.nil_append, xcat_nil, xcat_int, xcat_ref, xcat_long, not_true, not_false_iff, if_true, if_false, and_self, and_false, false_and, or_true, true_or, or_self, z01, z10, zle8, Nat.reduceAdd, Nat.reduceLeDiff]
theorem taxOfM_run {b r : Int32} : zr 256 0 [.int b, .int r] [] u P = P (some (.int (fPt b r))) u := by
  simp only [r256_0, r256_1, r256_2, r256_3, r256_4, r256_5, r256_8, r256_9, r256_12, r256_13, r256_14, fPt, show ¬ (10000 : Int64) = 0 by decide, true_and, and_true, Option.some.injEq, exists_eq_left', Option.toList_some, Option.toList_none, List.cons_append, List.nil_append, xcat_nil, xcat_int, xcat_ref, xcat_long, not_true, not_false_iff, if_true, if_false, and_self, and_false, false_and, or_true, true_or, or_self, z01, z10, zle8, Nat.reduceAdd, Nat.reduceLeDiff]
theorem latestBound_run {A B : Nat → Int32} (h1 : sA u ra 13 402) (h4 : xI u ra 4 = nI n) (hn : n ≤ 16) (hA : ∀ k, k < n → xI u ra (34 + 15 * k) = A k ∧ B k ≤ 999) : zr 200 0 [.ref ra, .int p, .null] [] u P = P (some (.int (fLat A B p 999 n))) u := by
  obtain ⟨i1, n1⟩ := h1
  have lp : ∀ k, k ≤ n → zr 200 6 [.ref ra, .int p, .int (nI k - 1)] [] u P = P (some (.int (fLat A B p 999 k))) u := by
    intro k
    induction k with
    | zero =>
      intro _
      rw [r200_6, show nI 0 - 1 = -1 by decide]
      simp only [r200_7, r200_10, r200_11, r200_12, r200_15, r200_16, r200_17, r200_20, r200_21, r200_22, r200_25, r200_28, r200_29, show (-1 : Int32) < 0 by decide, fLat, true_and, and_true, Option.some.injEq, exists_eq_left', Option.toList_some, Option.toList_none, List.cons_append, List.nil_append, xcat_nil, xcat_int, xcat_ref, xcat_long, not_true, not_false_iff, if_true, if_false, and_self, and_false, false_and, or_true, true_or, or_self, z01, z10, zle8, Nat.reduceAdd, Nat.reduceLeDiff]
    | succ k ih =>
      intro hk
      have ih := ih (by omega)
      obtain ⟨a1, a2⟩ := hA k (by omega)
      have e : nI (k + 1) - 1 = nI k := by rw [← nI_1]; exact Int32.add_sub_cancel ..
      rw [r200_6, e]
      simp (disch := omega) only [r200_7, r200_10, r200_11, r200_12, r200_15, r200_16, r200_17, r200_20, r200_21, r200_22, r200_25, boundAt_run, i1, n1, a1, xneg1, ih, fLat, xinbT, xixT, leT, leF, ltT, ltF, ngF, psT, n1F, n2F, km2, km3, km4, km5, km10, km15, km25, kl8, kl14, kl24, kl34, kl274, kl354, kl384, kr1, kr2, kr3, kr4, kr5, kr6, kr7, kr8, kr9, kaa, lb0, lb1, lb2, lb3, lb4, lb5, lb6, lb7, li0, li1, li2, li3, li4, li5, li6, li7, true_and, and_true, Option.some.injEq, exists_eq_left', Option.toList_some, Option.toList_none, List.cons_append, List.nil_append, xcat_nil, xcat_int, xcat_ref, xcat_long, not_true, not_false_iff, if_true, if_false, and_self, and_false, false_and, or_true, true_or, or_self, z01, z10, zle8, Nat.reduceAdd, Nat.reduceLeDiff]
      by_cases g1 : A k = p
      · simp only [g1, a2, true_and, and_true, Option.some.injEq, exists_eq_left', Option.toList_some, Option.toList_none, List.cons_append, List.nil_append, xcat_nil, xcat_int, xcat_ref, xcat_long, not_true, not_false_iff, if_true, if_false, and_self, and_false, false_and, or_true, true_or, or_self, z01, z10, zle8, Nat.reduceAdd, Nat.reduceLeDiff]
      · simp only [g1, true_and, and_true, Option.some.injEq, exists_eq_left', Option.toList_some, Option.toList_none, List.cons_append, List.nil_append, xcat_nil, xcat_int, xcat_ref, xcat_long, not_true, not_false_iff, if_true, if_false, and_self, and_false, false_and, or_true, true_or, or_self, z01, z10, zle8, Nat.reduceAdd, Nat.reduceLeDiff]
  simp (disch := omega) only [r200_0, r200_1, r200_2, r200_3, r200_4, r200_5, i1, n1, h4, xinbT, xixT, leT, leF, ltT, ltF, ngF, psT, n1F, n2F, km2, km3, km4, km5, km10, km15, km25, kl8, kl14, kl24, kl34, kl274, kl354, kl384, kr1, kr2, kr3, kr4, kr5, kr6, kr7, kr8, kr9, kaa, lb0, lb1, lb2, lb3, lb4, lb5, lb6, lb7, li0, li1, li2, li3, li4, li5, li6, li7, true_and, and_true, Option.some.injEq, exists_eq_left', Option.toList_some, Option.toList_none, List.cons_append, List.nil_append, xcat_nil, xcat_int, xcat_ref, xcat_long, not_true, not_false_iff, if_true, if_false, and_self, and_false, false_and, or_true, true_or, or_self, z01, z10, zle8, Nat.reduceAdd, Nat.reduceLeDiff]
  exact lp n (Nat.le_refl _)
theorem latestRate_run {A B C : Nat → Int32} (h1 : sA u ra 13 402) (h4 : xI u ra 5 = nI n) (hn : n ≤ 20) (hA : ∀ k, k < n → xI u ra (274 + 4 * k) = A k ∧ xI u ra (274 + 4 * k + 1) = B k ∧ C k ≤ 999) : zr 202 0 [.ref ra, .int p, .int c, .null] [] u P = P (some (.int (fRl A B C p c 999 n))) u := by
  obtain ⟨i1, n1⟩ := h1
  have lp : ∀ k, k ≤ n → zr 202 6 [.ref ra, .int p, .int c, .int (nI k - 1)] [] u P = P (some (.int (fRl A B C p c 999 k))) u := by
    intro k
    induction k with
    | zero =>
      intro _
      rw [r202_6, show nI 0 - 1 = -1 by decide]
      simp only [r202_7, r202_10, r202_11, r202_14, r202_15, r202_16, r202_17, r202_18, r202_19, r202_20, r202_23, r202_24, r202_27, r202_28, r202_29, r202_30, r202_31, r202_32, r202_33, r202_34, r202_35, r202_38, r202_39, r202_40, r202_43, r202_46, r202_47, show (-1 : Int32) < 0 by decide, fRl, true_and, and_true, Option.some.injEq, exists_eq_left', Option.toList_some, Option.toList_none, List.cons_append, List.nil_append, xcat_nil, xcat_int, xcat_ref, xcat_long, not_true, not_false_iff, if_true, if_false, and_self, and_false, false_and, or_true, true_or, or_self, z01, z10, zle8, Nat.reduceAdd, Nat.reduceLeDiff]
    | succ k ih =>
      intro hk
      have ih := ih (by omega)
      obtain ⟨a1, a2, a3⟩ := hA k (by omega)
      have e : nI (k + 1) - 1 = nI k := by rw [← nI_1]; exact Int32.add_sub_cancel ..
      rw [r202_6, e]
      simp (disch := omega) only [r202_7, r202_10, r202_11, r202_14, r202_15, r202_16, r202_17, r202_18, r202_19, r202_20, r202_23, r202_24, r202_27, r202_28, r202_29, r202_30, r202_31, r202_32, r202_33, r202_34, r202_35, r202_38, r202_39, r202_40, r202_43, i1, n1, a1, a2, xneg1, ih, fRl, xinbT, xixT, leT, leF, ltT, ltF, ngF, psT, n1F, n2F, km2, km3, km4, km5, km10, km15, km25, kl8, kl14, kl24, kl34, kl274, kl354, kl384, kr1, kr2, kr3, kr4, kr5, kr6, kr7, kr8, kr9, kaa, lb0, lb1, lb2, lb3, lb4, lb5, lb6, lb7, li0, li1, li2, li3, li4, li5, li6, li7, true_and, and_true, Option.some.injEq, exists_eq_left', Option.toList_some, Option.toList_none, List.cons_append, List.nil_append, xcat_nil, xcat_int, xcat_ref, xcat_long, not_true, not_false_iff, if_true, if_false, and_self, and_false, false_and, or_true, true_or, or_self, z01, z10, zle8, Nat.reduceAdd, Nat.reduceLeDiff]
      by_cases g1 : A k = p
      · by_cases g2 : B k = c
        · simp only [g1, g2, a3, true_and, and_true, Option.some.injEq, exists_eq_left', Option.toList_some, Option.toList_none, List.cons_append, List.nil_append, xcat_nil, xcat_int, xcat_ref, xcat_long, not_true, not_false_iff, if_true, if_false, and_self, and_false, false_and, or_true, true_or, or_self, z01, z10, zle8, Nat.reduceAdd, Nat.reduceLeDiff]
        · simp only [g1, g2, true_and, and_true, Option.some.injEq, exists_eq_left', Option.toList_some, Option.toList_none, List.cons_append, List.nil_append, xcat_nil, xcat_int, xcat_ref, xcat_long, not_true, not_false_iff, if_true, if_false, and_self, and_false, false_and, or_true, true_or, or_self, z01, z10, zle8, Nat.reduceAdd, Nat.reduceLeDiff]
      · simp only [g1, true_and, and_true, Option.some.injEq, exists_eq_left', Option.toList_some, Option.toList_none, List.cons_append, List.nil_append, xcat_nil, xcat_int, xcat_ref, xcat_long, not_true, not_false_iff, if_true, if_false, and_self, and_false, false_and, or_true, true_or, or_self, z01, z10, zle8, Nat.reduceAdd, Nat.reduceLeDiff]
  simp (disch := omega) only [r202_0, r202_1, r202_2, r202_3, r202_4, r202_5, i1, n1, h4, xinbT, xixT, leT, leF, ltT, ltF, ngF, psT, n1F, n2F, km2, km3, km4, km5, km10, km15, km25, kl8, kl14, kl24, kl34, kl274, kl354, kl384, kr1, kr2, kr3, kr4, kr5, kr6, kr7, kr8, kr9, kaa, lb0, lb1, lb2, lb3, lb4, lb5, lb6, lb7, li0, li1, li2, li3, li4, li5, li6, li7, true_and, and_true, Option.some.injEq, exists_eq_left', Option.toList_some, Option.toList_none, List.cons_append, List.nil_append, xcat_nil, xcat_int, xcat_ref, xcat_long, not_true, not_false_iff, if_true, if_false, and_self, and_false, false_and, or_true, true_or, or_self, z01, z10, zle8, Nat.reduceAdd, Nat.reduceLeDiff]
  exact lp n (Nat.le_refl _)
theorem boundMany_run (hM : sMd u) (h : okD g D s nl np nb nc nr nh nk) (hc : cpD (xI u 279) g D np nb nc nr nh nk) : zr 217 0 [.ref 278, .int p, .null, .null] [] u P = P (some (.int (fCnt (xI g (D + 5)) p nb))) u := by
  have hb := h.b
  obtain ⟨-, -, -, -, h4, -⟩ := h.e hc
  obtain ⟨h0, ⟨r3, -⟩, ⟨j0, k0⟩, -⟩ := hM
  have lp : ∀ r i, i + r = nb → zr 217 4 [.ref 278, .int p, .int (fCnt (xI g (D + 5)) p i), .int (nI i)] [] u P = P (some (.int (fCnt (xI g (D + 5)) p nb))) u := by
    intro r
    induction r with
    | zero =>
      intro i hi
      have : i = nb := by omega
      subst this
      rw [r217_4]
      simp (disch := omega) only [r217_0, r217_1, r217_2, r217_3, r217_5, r217_6, r217_9, r217_10, r217_11, r217_14, r217_15, r217_16, r217_19, r217_20, r217_23, r217_24, r217_25, r217_28, r217_29, r217_32, r217_33, r217_34, r217_35, r217_38, r217_41, r217_42, h0, r3, j0, k0, h4, xinbT, xixT, leT, leF, ltT, ltF, ngF, psT, n1F, n2F, km2, km3, km4, km5, km10, km15, km25, kl8, kl14, kl24, kl34, kl274, kl354, kl384, kr1, kr2, kr3, kr4, kr5, kr6, kr7, kr8, kr9, kaa, lb0, lb1, lb2, lb3, lb4, lb5, lb6, lb7, li0, li1, li2, li3, li4, li5, li6, li7, true_and, and_true, Option.some.injEq, exists_eq_left', Option.toList_some, Option.toList_none, List.cons_append, List.nil_append, xcat_nil, xcat_int, xcat_ref, xcat_long, not_true, not_false_iff, if_true, if_false, and_self, and_false, false_and, or_true, true_or, or_self, z01, z10, zle8, Nat.reduceAdd, Nat.reduceLeDiff]
    | succ r ih =>
      intro i hi
      have ih := ih (i + 1) (by omega)
      obtain ⟨a1, -⟩ := hc.bo (i := i) (by omega)
      simp only [fCnt] at ih
      rw [r217_4]
      simp (disch := omega) only [r217_0, r217_1, r217_2, r217_3, r217_5, r217_6, r217_9, r217_10, r217_11, r217_14, r217_15, r217_16, r217_19, r217_20, r217_23, r217_24, r217_25, r217_28, r217_29, r217_32, r217_33, r217_34, r217_35, r217_38, r217_41, r217_42, boundAt_run, h0, r3, j0, k0, h4, a1, xinbT, xixT, leT, leF, ltT, ltF, ngF, psT, n1F, n2F, km2, km3, km4, km5, km10, km15, km25, kl8, kl14, kl24, kl34, kl274, kl354, kl384, kr1, kr2, kr3, kr4, kr5, kr6, kr7, kr8, kr9, kaa, lb0, lb1, lb2, lb3, lb4, lb5, lb6, lb7, li0, li1, li2, li3, li4, li5, li6, li7, true_and, and_true, Option.some.injEq, exists_eq_left', Option.toList_some, Option.toList_none, List.cons_append, List.nil_append, xcat_nil, xcat_int, xcat_ref, xcat_long, not_true, not_false_iff, if_true, if_false, and_self, and_false, false_and, or_true, true_or, or_self, z01, z10, zle8, Nat.reduceAdd, Nat.reduceLeDiff]
      by_cases g1 : xI g (D + 5) i = p
      · simp only [g1, true_and, and_true, Option.some.injEq, exists_eq_left', Option.toList_some, Option.toList_none, List.cons_append, List.nil_append, xcat_nil, xcat_int, xcat_ref, xcat_long, not_true, not_false_iff, if_true, if_false, and_self, and_false, false_and, or_true, true_or, or_self, z01, z10, zle8, Nat.reduceAdd, Nat.reduceLeDiff] at ih ⊢
        exact ih
      · simp only [g1, true_and, and_true, Option.some.injEq, exists_eq_left', Option.toList_some, Option.toList_none, List.cons_append, List.nil_append, xcat_nil, xcat_int, xcat_ref, xcat_long, not_true, not_false_iff, if_true, if_false, and_self, and_false, false_and, or_true, true_or, or_self, z01, z10, zle8, Nat.reduceAdd, Nat.reduceLeDiff] at ih ⊢
        exact ih
  simp only [r217_0, r217_1, r217_2, r217_3]
  exact lp nb 0 (by omega)
end
