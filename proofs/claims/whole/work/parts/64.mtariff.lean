/-! THE MODEL: rates, holidays, caps -/
section
variable {u g : xMem} {P : Option Value → xMem → Prop} {D s nl np nb nc nr nh nk : Nat} {p d x y c price : Int32}
/-- rates are not below 0, caps above 0 -/
def okRv (g : xMem) (D nr nk : Nat) : Prop := (∀ r, r < nr → 0 ≤ xI g (D + 18) r) ∧ ∀ k, k < nk → 0 < xI g (D + 26) k
def fOr (own good day val : Nat → Int32) (p c d : Int32) (n : Nat) : Int32 := if 0 ≤ fRl own good day p c d n then val (xix (fRl own good day p c d n)) else -1
theorem ownRate_run (hM : sMd u) (h : okD g D s nl np nb nc nr nh nk) (hc : cpD (xI u 279) g D np nb nc nr nh nk) : zr 244 0 [.ref 278, .int p, .int c, .int d, .null, .null, .null] [] u P = P (some (.int (fOr (xI g (D + 15)) (xI g (D + 16)) (xI g (D + 17)) (xI g (D + 18)) p c d nr))) u := by
  have hn := h.2.2.2.2.2.2.1
  have h5 : xI u 279 5 = nI nr := hc.1.2.2.2.2.2.1.trans hn.1
  obtain ⟨h0, ⟨r3, -⟩, ⟨j0, k0⟩, -⟩ := hM
  have a1 : xinb 5 402 := xinb_nI (k := 5) (by omega) (by omega)
  have a2 : xix 5 = 5 := xix_nI (k := 5) (by omega)
  have lp : ∀ r i v, i + r = nr → zr 244 6 [.ref 278, .int p, .int c, .int d, .int (fOr (xI g (D + 15)) (xI g (D + 16)) (xI g (D + 17)) (xI g (D + 18)) p c d i), .int (nI i), v] [] u P = P (some (.int (fOr (xI g (D + 15)) (xI g (D + 16)) (xI g (D + 17)) (xI g (D + 18)) p c d nr))) u := by
    intro r
    induction r with
    | zero =>
      intro i v hi
      have : i = nr := by omega
      subst this
      rw [r244_6]
      simp only [r244_8, r244_9, r244_12, r244_13, r244_14, r244_81, r244_83, h0, r3, j0, k0, a1, a2, h5, true_and, and_true, Option.some.injEq, exists_eq_left', Option.toList_some, Option.toList_none, List.cons_append, List.nil_append, xcat_nil, xcat_int, xcat_ref, xcat_long, not_true, not_false_iff, if_true, if_false, and_self, and_false, false_and, or_true, true_or, or_self, z01, z10, zle8, Nat.reduceAdd, Nat.reduceLeDiff]
      rw [if_pos (nI_le (Nat.le_refl _) (by omega))]
    | succ r ih =>
      intro i v hi
      have q0 : ¬ nI nr ≤ nI i := nI_ge (by omega) (by omega)
      have e0 : 274 + 4 * nI i = nI (274 + 4 * i) := by rw [show (274 : Int32) = nI 274 from rfl, show (4 : Int32) = nI 4 from rfl, pk_mul, nI_add]
      have e1 : nI (274 + 4 * i) + 1 = nI (275 + 4 * i) := by rw [show (1 : Int32) = nI 1 from rfl, nI_add]; congr 1; omega
      have e2 : nI (274 + 4 * i) + 2 = nI (276 + 4 * i) := by rw [show (2 : Int32) = nI 2 from rfl, nI_add]; congr 1; omega
      have e3 : nI (274 + 4 * i) + 3 = nI (277 + 4 * i) := by rw [show (3 : Int32) = nI 3 from rfl, nI_add]; congr 1; omega
      have q1 : xinb (nI (274 + 4 * i)) 402 := xinb_nI (by omega) (by omega)
      have q2 : xix (nI (274 + 4 * i)) = 274 + 4 * i := xix_nI (by omega)
      have q3 : xinb (nI (275 + 4 * i)) 402 := xinb_nI (by omega) (by omega)
      have q4 : xix (nI (275 + 4 * i)) = 275 + 4 * i := xix_nI (by omega)
      have q5 : xinb (nI (276 + 4 * i)) 402 := xinb_nI (by omega) (by omega)
      have q6 : xix (nI (276 + 4 * i)) = 276 + 4 * i := xix_nI (by omega)
      have q7 : xinb (nI (277 + 4 * i)) 402 := xinb_nI (by omega) (by omega)
      have q8 : xix (nI (277 + 4 * i)) = 277 + 4 * i := xix_nI (by omega)
      have q9 : nI i + 1 = nI (i + 1) := nI_1 i
      obtain ⟨c1, c2, c3, c4⟩ := hc.2.2.2.2.1 i (by omega)
      have ih := ih (i + 1) (.int (nI (274 + 4 * i))) (by omega)
      have z1 : 0 ≤ nI i := nI_pos' (by omega)
      have z2 : xix (nI i) = i := xix_nI (by omega)
      rw [r244_6]
      simp only [r244_8, r244_9, r244_12, r244_13, r244_14, r244_17, r244_20, r244_21, r244_23, r244_24, r244_25, r244_27, r244_28, r244_31, r244_33, r244_34, r244_35, r244_38, r244_39, r244_42, r244_44, r244_45, r244_46, r244_47, r244_48, r244_51, r244_52, r244_55, r244_57, r244_58, r244_59, r244_60, r244_61, r244_64, r244_65, r244_68, r244_70, r244_71, r244_72, r244_73, r244_75, r244_78, h0, r3, j0, k0, a1, a2, h5, q0, e0, e1, e2, e3, q1, q2, q3, q4, q5, q6, q7, q8, q9, c1, c2, c3, c4, true_and, and_true, Option.some.injEq, exists_eq_left', Option.toList_some, Option.toList_none, List.cons_append, List.nil_append, xcat_nil, xcat_int, xcat_ref, xcat_long, not_true, not_false_iff, if_true, if_false, and_self, and_false, false_and, or_true, true_or, or_self, z01, z10, zle8, Nat.reduceAdd, Nat.reduceLeDiff]
      by_cases g1 : xI g (D + 15) i = p
      · by_cases g2 : xI g (D + 16) i = c
        · by_cases g3 : d < xI g (D + 17) i
          · have e : fOr (xI g (D + 15)) (xI g (D + 16)) (xI g (D + 17)) (xI g (D + 18)) p c d (i + 1) = fOr (xI g (D + 15)) (xI g (D + 16)) (xI g (D + 17)) (xI g (D + 18)) p c d i := by
              have e0 : fRl (xI g (D + 15)) (xI g (D + 16)) (xI g (D + 17)) p c d (i + 1) = fRl (xI g (D + 15)) (xI g (D + 16)) (xI g (D + 17)) p c d i := by rw [fRl, if_neg (fun q => i32_nle.mpr g3 q.2.2)]
              unfold fOr
              rw [e0]
            rw [e] at ih
            simp only [g1, g2, g3, true_and, and_true, Option.some.injEq, exists_eq_left', Option.toList_some, Option.toList_none, List.cons_append, List.nil_append, xcat_nil, xcat_int, xcat_ref, xcat_long, not_true, not_false_iff, if_true, if_false, and_self, and_false, false_and, or_true, true_or, or_self, z01, z10, zle8, Nat.reduceAdd, Nat.reduceLeDiff]
            exact ih
          · have e : fOr (xI g (D + 15)) (xI g (D + 16)) (xI g (D + 17)) (xI g (D + 18)) p c d (i + 1) = xI g (D + 18) i := by
              have e0 : fRl (xI g (D + 15)) (xI g (D + 16)) (xI g (D + 17)) p c d (i + 1) = nI i := by rw [fRl, if_pos ⟨g1, g2, i32_nlt.mp g3⟩]
              unfold fOr
              rw [e0, if_pos z1, z2]
            rw [e] at ih
            simp only [g1, g2, g3, true_and, and_true, Option.some.injEq, exists_eq_left', Option.toList_some, Option.toList_none, List.cons_append, List.nil_append, xcat_nil, xcat_int, xcat_ref, xcat_long, not_true, not_false_iff, if_true, if_false, and_self, and_false, false_and, or_true, true_or, or_self, z01, z10, zle8, Nat.reduceAdd, Nat.reduceLeDiff]
            exact ih
        · have e : fOr (xI g (D + 15)) (xI g (D + 16)) (xI g (D + 17)) (xI g (D + 18)) p c d (i + 1) = fOr (xI g (D + 15)) (xI g (D + 16)) (xI g (D + 17)) (xI g (D + 18)) p c d i := by
              have e0 : fRl (xI g (D + 15)) (xI g (D + 16)) (xI g (D + 17)) p c d (i + 1) = fRl (xI g (D + 15)) (xI g (D + 16)) (xI g (D + 17)) p c d i := by rw [fRl, if_neg (fun q => g2 q.2.1)]
              unfold fOr
              rw [e0]
          rw [e] at ih
          simp only [g1, g2, true_and, and_true, Option.some.injEq, exists_eq_left', Option.toList_some, Option.toList_none, List.cons_append, List.nil_append, xcat_nil, xcat_int, xcat_ref, xcat_long, not_true, not_false_iff, if_true, if_false, and_self, and_false, false_and, or_true, true_or, or_self, z01, z10, zle8, Nat.reduceAdd, Nat.reduceLeDiff]
          exact ih
      · have e : fOr (xI g (D + 15)) (xI g (D + 16)) (xI g (D + 17)) (xI g (D + 18)) p c d (i + 1) = fOr (xI g (D + 15)) (xI g (D + 16)) (xI g (D + 17)) (xI g (D + 18)) p c d i := by
              have e0 : fRl (xI g (D + 15)) (xI g (D + 16)) (xI g (D + 17)) p c d (i + 1) = fRl (xI g (D + 15)) (xI g (D + 16)) (xI g (D + 17)) p c d i := by rw [fRl, if_neg (fun q => g1 q.1)]
              unfold fOr
              rw [e0]
        rw [e] at ih
        simp only [g1, true_and, and_true, Option.some.injEq, exists_eq_left', Option.toList_some, Option.toList_none, List.cons_append, List.nil_append, xcat_nil, xcat_int, xcat_ref, xcat_long, not_true, not_false_iff, if_true, if_false, and_self, and_false, false_and, or_true, true_or, or_self, z01, z10, zle8, Nat.reduceAdd, Nat.reduceLeDiff]
        exact ih
  simp only [r244_0, r244_1, r244_3, r244_4]
  exact lp nr 0 .null (by omega)
theorem a8 (k : Nat) : 8 + nI k = nI (8 + k) := by rw [show (8 : Int32) = nI 8 from rfl, nI_add]
theorem rateOf_run (hM : sMd u) (h : okD g D s nl np nb nc nr nh nk) (hc : cpD (xI u 279) g D np nb nc nr nh nk) (hV : okRv g D nr nk) {j : Nat} (hj : j < nc) :
    zr 245 0 [.ref 278, .int p, .int (nI j), .int d, .null] [] u P = P (some (.int (tRate g (D + 12) nr p (nI j) d))) u := by
  have hR := fun k P => ownRate_run (p := p) (c := k) (d := d) (P := P) hM h hc
  have hnc := h.2.2.2.2.2.1
  have hnr := h.2.2.2.2.2.2.1
  have hcof : okCof (xI g (D + 13)) nc := h.2.2.2.2.2.2.2.2.2.1
  obtain ⟨h0, ⟨r3, -⟩, ⟨j0, k0⟩, -⟩ := hM
  have lp : ∀ r (k : Int32), (k = -2 ∨ ∃ i, i < nc ∧ i < r ∧ k = nI i) → zr 245 3 [.ref 278, .int p, .int (nI j), .int d, .int k] [] u P
      = P (some (.int (if fRf (xI g (D + 15)) (xI g (D + 16)) (xI g (D + 17)) (xI g (D + 13)) p d nr r k < 0 then 0 else xI g (D + 18) (xix (fRl (xI g (D + 15)) (xI g (D + 16)) (xI g (D + 17)) p (fRf (xI g (D + 15)) (xI g (D + 16)) (xI g (D + 17)) (xI g (D + 13)) p d nr r k) d nr))))) u := by
    intro r
    have m2 : ∀ r, fRf (xI g (D + 15)) (xI g (D + 16)) (xI g (D + 17)) (xI g (D + 13)) p d nr r (-2) < 0 := by
      intro r
      cases r with
      | zero => exact (by decide : (-2 : Int32) < 0)
      | succ r =>
        unfold fRf fUp
        rw [if_pos (by decide)]
        decide
    induction r with
    | zero =>
      intro k hk
      rcases hk with rfl | ⟨i, -, hi, -⟩
      · rw [r245_3, if_pos (m2 0)]
        simp only [r245_5, r245_7, r245_46, r245_47, true_and, and_true, Option.some.injEq, exists_eq_left', Option.toList_some, Option.toList_none, List.cons_append, List.nil_append, xcat_nil, xcat_int, xcat_ref, xcat_long, not_true, not_false_iff, if_true, if_false, and_self, and_false, false_and, or_true, true_or, or_self, z01, z10, zle8, Nat.reduceAdd, Nat.reduceLeDiff]
      · omega
    | succ r ih =>
      intro k hk
      rcases hk with rfl | ⟨i, hi, hir, rfl⟩
      · rw [r245_3, if_pos (m2 (r + 1))]
        simp only [r245_5, r245_7, r245_46, r245_47, true_and, and_true, Option.some.injEq, exists_eq_left', Option.toList_some, Option.toList_none, List.cons_append, List.nil_append, xcat_nil, xcat_int, xcat_ref, xcat_long, not_true, not_false_iff, if_true, if_false, and_self, and_false, false_and, or_true, true_or, or_self, z01, z10, zle8, Nat.reduceAdd, Nat.reduceLeDiff]
      · have q1 : ¬ nI i < 0 := nI_pos (by omega)
        have q2 : ¬ nI i = -2 := fun z => by rw [z] at q1; exact q1 (by decide)
        have q3 : xix (nI i) = i := xix_nI (by omega)
        have q4 : xinb (nI (8 + i)) 402 := xinb_nI (by omega) (by omega)
        have q5 : xix (nI (8 + i)) = 8 + i := xix_nI (by omega)
        have c1 := hc.2.1 i hi
        have ih := ih (xI g (D + 13) i) (by
          rcases hcof i hi with q | ⟨i', hi', q⟩
          · exact Or.inl q
          · exact Or.inr ⟨i', by omega, by omega, q⟩)
        rw [r245_3]
        rcases fRl_cases (xI g (D + 15)) (xI g (D + 16)) (xI g (D + 17)) p (nI i) d nr with q | ⟨z, hz, q, -⟩
        · have g0 : ¬ 0 ≤ fRl (xI g (D + 15)) (xI g (D + 16)) (xI g (D + 17)) p (nI i) d nr := by rw [q]; decide
          have e : fOr (xI g (D + 15)) (xI g (D + 16)) (xI g (D + 17)) (xI g (D + 18)) p (nI i) d nr = -1 := by unfold fOr; rw [if_neg g0]
          have e2 : fRf (xI g (D + 15)) (xI g (D + 16)) (xI g (D + 17)) (xI g (D + 13)) p d nr (r + 1) (nI i) = fRf (xI g (D + 15)) (xI g (D + 16)) (xI g (D + 17)) (xI g (D + 13)) p d nr r (xI g (D + 13) i) := by
            unfold fRf
            rw [fUp, if_neg q1, decide_eq_false g0, if_neg (by simp), q3]
          rw [e2]
          simp only [r245_5, r245_7, r245_10, r245_11, r245_12, r245_14, r245_15, r245_18, r245_19, r245_22, r245_23, r245_24, r245_26, r245_27, r245_30, r245_31, r245_32, r245_35, r245_37, r245_39, r245_40, r245_41, r245_43, h0, r3, j0, k0, hR, e, q2, q4, q5, a8, c1, true_and, and_true, Option.some.injEq, exists_eq_left', Option.toList_some, Option.toList_none, List.cons_append, List.nil_append, xcat_nil, xcat_int, xcat_ref, xcat_long, not_true, not_false_iff, if_true, if_false, and_self, and_false, false_and, or_true, true_or, or_self, z01, z10, zle8, Nat.reduceAdd, Nat.reduceLeDiff]
          exact ih
        · have g0 : 0 ≤ fRl (xI g (D + 15)) (xI g (D + 16)) (xI g (D + 17)) p (nI i) d nr := by rw [q]; exact nI_pos' (by omega)
          have zz : xix (nI z) = z := xix_nI (by omega)
          have e : fOr (xI g (D + 15)) (xI g (D + 16)) (xI g (D + 17)) (xI g (D + 18)) p (nI i) d nr = xI g (D + 18) z := by unfold fOr; rw [if_pos g0, q, zz]
          have e1 : ¬ xI g (D + 18) z = -1 := fun w => by have := hV.1 z hz; rw [w] at this; exact absurd this (by decide)
          have e2 : fRf (xI g (D + 15)) (xI g (D + 16)) (xI g (D + 17)) (xI g (D + 13)) p d nr (r + 1) (nI i) = nI i := by
            unfold fRf
            rw [fUp, if_neg q1, decide_eq_true g0, if_pos rfl]
          rw [e2, if_neg q1, q, zz]
          simp only [r245_5, r245_7, r245_10, r245_11, r245_12, r245_14, r245_15, r245_18, r245_19, r245_22, r245_23, r245_24, r245_26, r245_27, r245_30, r245_31, r245_32, r245_35, r245_37, r245_39, r245_40, r245_41, r245_43, h0, r3, j0, k0, hR, e, e1, q2, true_and, and_true, Option.some.injEq, exists_eq_left', Option.toList_some, Option.toList_none, List.cons_append, List.nil_append, xcat_nil, xcat_int, xcat_ref, xcat_long, not_true, not_false_iff, if_true, if_false, and_self, and_false, false_and, or_true, true_or, or_self, z01, z10, zle8, Nat.reduceAdd, Nat.reduceLeDiff]
  simp only [r245_0, r245_1]
  exact lp 6 (nI j) (Or.inr ⟨j, hj, by omega, rfl⟩)
theorem isOf_run (hM : sMd u) (h : okD g D s nl np nb nc nr nh nk) (hc : cpD (xI u 279) g D np nb nc nr nh nk) {j : Nat} (hj : j < nc) {top : Int32} :
    zr 246 0 [.ref 278, .int (nI j), .int top, .null] [] u P = P (some (.int (bI (fUn (xI g (D + 13)) (nI j) top)))) u := by
  have hnc := h.2.2.2.2.2.1
  have hcof : okCof (xI g (D + 13)) nc := h.2.2.2.2.2.2.2.2.2.1
  obtain ⟨h0, ⟨r3, -⟩, ⟨j0, k0⟩, -⟩ := hM
  have lp : ∀ r (k : Int32), (k = -2 ∨ ∃ i, i < nc ∧ i < r ∧ k = nI i) → zr 246 2 [.ref 278, .int (nI j), .int top, .int k] [] u P = P (some (.int (bI (decide (0 ≤ fUp (xI g (D + 13)) (fun k => decide (k = top)) r k))))) u := by
    intro r
    have m2 : ∀ r, decide (0 ≤ fUp (xI g (D + 13)) (fun k => decide (k = top)) r (-2)) = false := by
      intro r
      cases r with
      | zero => exact (by decide : decide ((0 : Int32) ≤ -2) = false)
      | succ r =>
        unfold fUp
        rw [if_pos (by decide)]
        decide
    induction r with
    | zero =>
      intro k hk
      rcases hk with rfl | ⟨i, -, hi, -⟩
      · rw [r246_2, m2 0]
        simp only [r246_3, r246_5, r246_28, r246_29, bI_f, true_and, and_true, Option.some.injEq, exists_eq_left', Option.toList_some, Option.toList_none, List.cons_append, List.nil_append, xcat_nil, xcat_int, xcat_ref, xcat_long, not_true, not_false_iff, if_true, if_false, and_self, and_false, false_and, or_true, true_or, or_self, z01, z10, zle8, Nat.reduceAdd, Nat.reduceLeDiff]
      · omega
    | succ r ih =>
      intro k hk
      rcases hk with rfl | ⟨i, hi, hir, rfl⟩
      · rw [r246_2, m2 (r + 1)]
        simp only [r246_3, r246_5, r246_28, r246_29, bI_f, true_and, and_true, Option.some.injEq, exists_eq_left', Option.toList_some, Option.toList_none, List.cons_append, List.nil_append, xcat_nil, xcat_int, xcat_ref, xcat_long, not_true, not_false_iff, if_true, if_false, and_self, and_false, false_and, or_true, true_or, or_self, z01, z10, zle8, Nat.reduceAdd, Nat.reduceLeDiff]
      · have q1 : ¬ nI i < 0 := nI_pos (by omega)
        have q2 : ¬ nI i = -2 := fun z => by rw [z] at q1; exact q1 (by decide)
        have q3 : xix (nI i) = i := xix_nI (by omega)
        have q4 : xinb (nI (8 + i)) 402 := xinb_nI (by omega) (by omega)
        have q5 : xix (nI (8 + i)) = 8 + i := xix_nI (by omega)
        have c1 := hc.2.1 i hi
        have ih := ih (xI g (D + 13) i) (by
          rcases hcof i hi with q | ⟨i', hi', q⟩
          · exact Or.inl q
          · exact Or.inr ⟨i', by omega, by omega, q⟩)
        rw [r246_2, fUp, if_neg q1]
        by_cases g0 : nI i = top
        · rw [decide_eq_true g0, if_pos rfl, decide_eq_true (nI_pos' (n := i) (by omega))]
          simp only [r246_3, r246_5, r246_8, r246_9, r246_10, r246_13, r246_14, r246_15, r246_16, r246_19, r246_21, r246_22, r246_23, r246_24, r246_25, q2, eq_true g0, bI_t, true_and, and_true, Option.some.injEq, exists_eq_left', Option.toList_some, Option.toList_none, List.cons_append, List.nil_append, xcat_nil, xcat_int, xcat_ref, xcat_long, not_true, not_false_iff, if_true, if_false, and_self, and_false, false_and, or_true, true_or, or_self, z01, z10, zle8, Nat.reduceAdd, Nat.reduceLeDiff]
        · rw [decide_eq_false g0, if_neg (by simp), q3]
          simp only [r246_3, r246_5, r246_8, r246_9, r246_10, r246_13, r246_14, r246_15, r246_16, r246_19, r246_21, r246_22, r246_23, r246_24, r246_25, h0, r3, j0, k0, q2, g0, q4, q5, a8, c1, true_and, and_true, Option.some.injEq, exists_eq_left', Option.toList_some, Option.toList_none, List.cons_append, List.nil_append, xcat_nil, xcat_int, xcat_ref, xcat_long, not_true, not_false_iff, if_true, if_false, and_self, and_false, false_and, or_true, true_or, or_self, z01, z10, zle8, Nat.reduceAdd, Nat.reduceLeDiff]
          exact ih
  simp only [r246_0, r246_1]
  exact lp 6 (nI j) (Or.inr ⟨j, hj, by omega, rfl⟩)
end
