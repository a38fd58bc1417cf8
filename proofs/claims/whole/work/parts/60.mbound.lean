/-! THE MODEL: bounds and points -/
/-- the model's row M tells the desk of g at D -/
def cpD (M : Nat → Int32) (g : xMem) (D np nb nc nr nh nk : Nat) : Prop :=
  (M 0 = xI g (D + 1) 0 ∧ M 1 = xI g (D + 1) 1 ∧ M 2 = xI g (D + 12) 0 ∧ M 3 = xI g (D + 1) 2 ∧ M 4 = xI g (D + 4) 0 ∧ M 5 = xI g (D + 14) 0 ∧ M 6 = xI g (D + 12) 3 ∧ M 7 = xI g (D + 12) 9) ∧
  (∀ c, c < nc → M (8 + c) = xI g (D + 13) c) ∧ (∀ p, p < np → M (14 + p) = xI g (D + 2) p ∧ M (24 + p) = xI g (D + 3) p) ∧
  (∀ b, b < nb → M (34 + 15 * b) = xI g (D + 5) b ∧ M (35 + 15 * b) = xI g (D + 6) b ∧ M (36 + 15 * b) = xI g (D + 7) b ∧ ∀ i, i < xix (xI g (D + 7) b) → M (37 + 15 * b + 2 * i) = xI g (D + 8) (6 * b + i) ∧ M (38 + 15 * b + 2 * i) = xI g (D + 9) (6 * b + i)) ∧
  (∀ r, r < nr → M (274 + 4 * r) = xI g (D + 15) r ∧ M (275 + 4 * r) = xI g (D + 16) r ∧ M (276 + 4 * r) = xI g (D + 17) r ∧ M (277 + 4 * r) = xI g (D + 18) r) ∧
  (∀ h, h < nh → M (354 + 5 * h) = xI g (D + 19) h ∧ M (355 + 5 * h) = xI g (D + 20) h ∧ M (356 + 5 * h) = xI g (D + 21) h ∧ M (357 + 5 * h) = xI g (D + 22) h ∧ M (358 + 5 * h) = xI g (D + 23) h) ∧
  ∀ k, k < nk → M (384 + 3 * k) = xI g (D + 24) k ∧ M (385 + 3 * k) = xI g (D + 25) k ∧ M (386 + 3 * k) = xI g (D + 26) k
section
variable {u g : xMem} {P : Option Value → xMem → Prop} {D s nl np nb nc nr nh nk : Nat} {p d x y c : Int32}
theorem mul_nI (a b : Nat) : nI a * nI b = nI (a * b) := pk_mul a b
theorem m15 (k : Nat) : 15 * nI k = nI (15 * k) := by rw [show (15 : Int32) = nI 15 from rfl, pk_mul]
theorem a34 (k : Nat) : 34 + nI k = nI (34 + k) := by rw [show (34 : Int32) = nI 34 from rfl, nI_add]
theorem boundAt_run {b : Nat} : zr 199 0 [.int (nI b)] [] u P = P (some (.int (nI (34 + 15 * b)))) u := by
  simp only [r199_0, r199_2, r199_4, r199_5, r199_6, r199_7, m15, a34, true_and, and_true, Option.some.injEq, exists_eq_left', Option.toList_some, Option.toList_none, List.cons_append, List.nil_append, xcat_nil, xcat_int, xcat_ref, xcat_long, not_true, not_false_iff, if_true, if_false, and_self, and_false, false_and, or_true, true_or, or_self, z01, z10, zle8, Nat.reduceAdd, Nat.reduceLeDiff]
theorem in_run {lo hi : Int32} : zr 175 0 [.int x, .int lo, .int hi] [] u P = P (some (.int (bI (decide (lo ≤ x ∧ x ≤ hi))))) u := by
  simp only [r175_0, r175_1, r175_2, r175_5, r175_6, r175_7, r175_10, r175_11, r175_14, r175_15, true_and, and_true, Option.some.injEq, exists_eq_left', Option.toList_some, Option.toList_none, List.cons_append, List.nil_append, xcat_nil, xcat_int, xcat_ref, xcat_long, not_true, not_false_iff, if_true, if_false, and_self, and_false, false_and, or_true, true_or, or_self, z01, z10, zle8, Nat.reduceAdd, Nat.reduceLeDiff]
  by_cases c1 : x < lo
  · rw [if_pos c1, decide_eq_false (fun q => i32_nle.mpr c1 q.1)]
    rfl
  · rw [if_neg c1]
    by_cases c2 : hi < x
    · rw [if_pos c2, decide_eq_false (fun q => i32_nle.mpr c2 q.2)]
      rfl
    · rw [if_neg c2, decide_eq_true (⟨i32_nlt.mp c1, i32_nlt.mp c2⟩ : lo ≤ x ∧ x ≤ hi)]
      rfl
theorem boundOn_run (hM : sMd u) (h : okD g D s nl np nb nc nr nh nk) (hc : cpD (xI u 279) g D np nb nc nr nh nk) : zr 218 0 [.ref 278, .int p, .int d, .null, .null] [] u P = P (some (.int (fLat (xI g (D + 5)) (xI g (D + 6)) p d nb))) u := by
  obtain ⟨h0, ⟨r3, -⟩, ⟨j0, k0⟩, -⟩ := hM
  have hb := h.2.2.2.2.1
  have h4 : xI u 279 4 = nI nb := hc.1.2.2.2.2.1.trans hb.1
  have a1 : xinb 4 402 := xinb_nI (k := 4) (by omega) (by omega)
  have a2 : xix 4 = 4 := xix_nI (k := 4) (by omega)
  have lp : ∀ r i, i + r = nb → zr 218 5 [.ref 278, .int p, .int d, .int (fLat (xI g (D + 5)) (xI g (D + 6)) p d i), .int (nI i)] [] u P = P (some (.int (fLat (xI g (D + 5)) (xI g (D + 6)) p d nb))) u := by
    intro r
    induction r with
    | zero =>
      intro i hi
      have : i = nb := by omega
      subst this
      rw [r218_5]
      simp only [r218_7, r218_8, r218_11, r218_12, r218_13, r218_55, r218_56, h0, r3, j0, k0, a1, a2, h4, true_and, and_true, Option.some.injEq, exists_eq_left', Option.toList_some, Option.toList_none, List.cons_append, List.nil_append, xcat_nil, xcat_int, xcat_ref, xcat_long, not_true, not_false_iff, if_true, if_false, and_self, and_false, false_and, or_true, true_or, or_self, z01, z10, zle8, Nat.reduceAdd, Nat.reduceLeDiff]
      rw [if_pos (nI_le (Nat.le_refl _) (by omega))]
    | succ r ih =>
      intro i hi
      have q0 : ¬ nI nb ≤ nI i := nI_ge (by omega) (by omega)
      have q1 : xinb (nI (34 + 15 * i)) 402 := xinb_nI (by omega) (by omega)
      have q2 : xix (nI (34 + 15 * i)) = 34 + 15 * i := xix_nI (by omega)
      have q3 : xinb (nI (34 + 15 * i + 1)) 402 := xinb_nI (by omega) (by omega)
      have q4 : xix (nI (34 + 15 * i + 1)) = 35 + 15 * i := by rw [xix_nI (by omega)]; omega
      obtain ⟨c1, c2, -⟩ := hc.2.2.2.1 i (by omega)
      have ih := ih (i + 1) (by omega)
      simp only [fLat] at ih
      rw [r218_5]
      simp only [r218_7, r218_8, r218_11, r218_12, r218_13, r218_16, r218_17, r218_20, r218_22, r218_25, r218_26, r218_27, r218_30, r218_31, r218_34, r218_36, r218_39, r218_40, r218_41, r218_42, r218_43, r218_46, r218_48, r218_49, r218_52, boundAt_run, h0, r3, j0, k0, a1, a2, h4, q0, q1, q2, q3, q4, c1, c2, nI_1, true_and, and_true, Option.some.injEq, exists_eq_left', Option.toList_some, Option.toList_none, List.cons_append, List.nil_append, xcat_nil, xcat_int, xcat_ref, xcat_long, not_true, not_false_iff, if_true, if_false, and_self, and_false, false_and, or_true, true_or, or_self, z01, z10, zle8, Nat.reduceAdd, Nat.reduceLeDiff]
      by_cases g1 : xI g (D + 5) i = p
      · by_cases g2 : d < xI g (D + 6) i
        · simp only [g1, g2, i32_nle.mpr g2, true_and, and_true, Option.some.injEq, exists_eq_left', Option.toList_some, Option.toList_none, List.cons_append, List.nil_append, xcat_nil, xcat_int, xcat_ref, xcat_long, not_true, not_false_iff, if_true, if_false, and_self, and_false, false_and, or_true, true_or, or_self, z01, z10, zle8, Nat.reduceAdd, Nat.reduceLeDiff] at ih ⊢
          exact ih
        · simp only [g1, g2, i32_nlt.mp g2, true_and, and_true, Option.some.injEq, exists_eq_left', Option.toList_some, Option.toList_none, List.cons_append, List.nil_append, xcat_nil, xcat_int, xcat_ref, xcat_long, not_true, not_false_iff, if_true, if_false, and_self, and_false, false_and, or_true, true_or, or_self, z01, z10, zle8, Nat.reduceAdd, Nat.reduceLeDiff] at ih ⊢
          exact ih
      · simp only [g1, true_and, and_true, Option.some.injEq, exists_eq_left', Option.toList_some, Option.toList_none, List.cons_append, List.nil_append, xcat_nil, xcat_int, xcat_ref, xcat_long, not_true, not_false_iff, if_true, if_false, and_self, and_false, false_and, or_true, true_or, or_self, z01, z10, zle8, Nat.reduceAdd, Nat.reduceLeDiff] at ih ⊢
        exact ih
  simp only [r218_0, r218_1, r218_2, r218_3]
  exact lp nb 0 (by omega)
theorem manyOn_run (hM : sMd u) (h : okD g D s nl np nb nc nr nh nk) (hc : cpD (xI u 279) g D np nb nc nr nh nk) : zr 219 0 [.ref 278, .int p, .int d, .null] [] u P = P (some (.int (fCo (xI g (D + 5)) (xI g (D + 6)) (xI g (D + 7)) p d nb))) u := by
  have hB := fun P => boundOn_run (p := p) (d := d) (P := P) hM h hc
  obtain ⟨h0, ⟨r3, -⟩, ⟨j0, k0⟩, -⟩ := hM
  have hb := h.2.2.2.2.1
  rcases fLat_cases (xI g (D + 5)) (xI g (D + 6)) p d nb with q | ⟨k, hk, q, -⟩
  · simp only [r219_0, r219_1, r219_2, r219_3, r219_6, r219_7, r219_8, r219_9, r219_12, r219_13, r219_16, r219_17, r219_20, r219_21, r219_24, r219_25, r219_26, r219_27, h0, hB, q, fCo, show ¬ (0 : Int32) ≤ -1 by decide, true_and, and_true, Option.some.injEq, exists_eq_left', Option.toList_some, Option.toList_none, List.cons_append, List.nil_append, xcat_nil, xcat_int, xcat_ref, xcat_long, not_true, not_false_iff, if_true, if_false, and_self, and_false, false_and, or_true, true_or, or_self, z01, z10, zle8, Nat.reduceAdd, Nat.reduceLeDiff]
  · have q1 : ¬ nI k = -1 := fun z => by have := nI_pos (n := k) (by omega); rw [z] at this; exact this (by decide)
    have q3 : xinb (nI (34 + 15 * k + 2)) 402 := xinb_nI (by omega) (by omega)
    have q4 : xix (nI (34 + 15 * k + 2)) = 36 + 15 * k := by rw [xix_nI (by omega)]; omega
    have q5 : nI (34 + 15 * k) + 2 = nI (34 + 15 * k + 2) := by rw [show (2 : Int32) = nI 2 from rfl, nI_add]
    obtain ⟨-, -, c3, -⟩ := hc.2.2.2.1 k hk
    have q6 : xix (nI k) = k := xix_nI (by omega)
    simp only [r219_0, r219_1, r219_2, r219_3, r219_6, r219_7, r219_8, r219_9, r219_12, r219_13, r219_16, r219_17, r219_20, r219_21, r219_24, r219_25, r219_26, r219_27, boundAt_run, h0, hB, q, q1, q3, q4, q5, q6, c3, r3, j0, k0, fCo, nI_pos' (show k < 2 ^ 31 by omega), true_and, and_true, Option.some.injEq, exists_eq_left', Option.toList_some, Option.toList_none, List.cons_append, List.nil_append, xcat_nil, xcat_int, xcat_ref, xcat_long, not_true, not_false_iff, if_true, if_false, and_self, and_false, false_and, or_true, true_or, or_self, z01, z10, zle8, Nat.reduceAdd, Nat.reduceLeDiff]
theorem xOf_run (hM : sMd u) (hc : cpD (xI u 279) g D np nb nc nr nh nk) {b i : Nat} (hb : b < nb) (hb16 : b < 16) (hi : i < xix (xI g (D + 7) b)) (h6 : i < 6) : zr 220 0 [.ref 278, .int (nI b), .int (nI i)] [] u P = P (some (.int (xI g (D + 8) (6 * b + i)))) u := by
  obtain ⟨h0, ⟨r3, -⟩, ⟨j0, k0⟩, -⟩ := hM
  obtain ⟨-, -, -, c4⟩ := hc.2.2.2.1 b hb
  have c4 := (c4 i hi).1
  have q5 : nI (34 + 15 * b) + 3 + 2 * nI i = nI (37 + 15 * b + 2 * i) := by
    rw [show (3 : Int32) = nI 3 from rfl, show (2 : Int32) = nI 2 from rfl, pk_mul, nI_add, nI_add]
    congr 1
    omega
  have q3 : xinb (nI (37 + 15 * b + 2 * i)) 402 := xinb_nI (by omega) (by omega)
  have q4 : xix (nI (37 + 15 * b + 2 * i)) = 37 + 15 * b + 2 * i := xix_nI (by omega)
  simp only [r220_0, r220_1, r220_4, r220_5, r220_8, r220_9, r220_10, r220_11, r220_12, r220_13, r220_14, r220_15, boundAt_run, h0, r3, j0, k0, q3, q4, q5, c4, true_and, and_true, Option.some.injEq, exists_eq_left', Option.toList_some, Option.toList_none, List.cons_append, List.nil_append, xcat_nil, xcat_int, xcat_ref, xcat_long, not_true, not_false_iff, if_true, if_false, and_self, and_false, false_and, or_true, true_or, or_self, z01, z10, zle8, Nat.reduceAdd, Nat.reduceLeDiff]
theorem yOf_run (hM : sMd u) (hc : cpD (xI u 279) g D np nb nc nr nh nk) {b i : Nat} (hb : b < nb) (hb16 : b < 16) (hi : i < xix (xI g (D + 7) b)) (h6 : i < 6) : zr 221 0 [.ref 278, .int (nI b), .int (nI i)] [] u P = P (some (.int (xI g (D + 9) (6 * b + i)))) u := by
  obtain ⟨h0, ⟨r3, -⟩, ⟨j0, k0⟩, -⟩ := hM
  obtain ⟨-, -, -, c4⟩ := hc.2.2.2.1 b hb
  have c4 := (c4 i hi).2
  have q5 : nI (34 + 15 * b) + 4 + 2 * nI i = nI (38 + 15 * b + 2 * i) := by
    rw [show (4 : Int32) = nI 4 from rfl, show (2 : Int32) = nI 2 from rfl, pk_mul, nI_add, nI_add]
    congr 1
    omega
  have q3 : xinb (nI (38 + 15 * b + 2 * i)) 402 := xinb_nI (by omega) (by omega)
  have q4 : xix (nI (38 + 15 * b + 2 * i)) = 38 + 15 * b + 2 * i := xix_nI (by omega)
  simp only [r221_0, r221_1, r221_4, r221_5, r221_8, r221_9, r221_10, r221_11, r221_12, r221_13, r221_14, r221_15, boundAt_run, h0, r3, j0, k0, q3, q4, q5, c4, true_and, and_true, Option.some.injEq, exists_eq_left', Option.toList_some, Option.toList_none, List.cons_append, List.nil_append, xcat_nil, xcat_int, xcat_ref, xcat_long, not_true, not_false_iff, if_true, if_false, and_self, and_false, false_and, or_true, true_or, or_self, z01, z10, zle8, Nat.reduceAdd, Nat.reduceLeDiff]
end
