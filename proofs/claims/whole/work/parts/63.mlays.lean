/-! THE MODEL: stacks laid into a row -/
def xrow (u : xMem) (a : Nat) (A : List Int32) : xMem := xfill u a A.length (fun j => A.getD j 0)
theorem xrow_snoc {u : xMem} {a : Nat} {A : List Int32} {p : Int32} : xsI (xrow u a A) a A.length p = xrow u a (A ++ [p]) := by
  unfold xrow xsI xfill xu2
  refine Prod.ext rfl (Prod.ext ?_ rfl)
  funext b j
  simp only [List.length_append, List.length_cons, List.length_nil, Nat.zero_add]
  by_cases hb : b = a
  · subst hb
    by_cases hj : j = A.length
    · subst hj
      simp
    · by_cases hl : j < A.length
      · have h2 : j < A.length + 1 := by omega
        simp [hj, hl, h2, List.getElem?_append_left hl]
      · have h2 : ¬ j < A.length + 1 := by omega
        simp [hj, hl, h2]
  · simp [hb]
theorem xrow_nil {u : xMem} {a : Nat} : xrow u a [] = u := xfill_0
theorem xIf_row {u : xMem} {a b : Nat} {A : List Int32} (h : b ≠ a) : xI (xrow u a A) b = xI u b := xIf_fill h
theorem xI_row {u : xMem} {a j : Nat} {A : List Int32} (h : j < A.length) : xI (xrow u a A) a j = A.getD j 0 := by
  unfold xrow
  rw [xI_fill, if_pos ⟨rfl, h⟩]
section
variable {u g : xMem} {P : Option Value → xMem → Prop} {D s nl np nb nc nr nh nk ra : Nat} {p d x y c layer : Int32}
def okOn (g : xMem) (D np : Nat) : Prop := ∀ p, p < np → xI g (D + 3) p = 0 ∨ xI g (D + 3) p = 1
theorem laysStack_run (hM : sMd u) (h : okD g D s nl np nb nc nr nh nk) (hc : cpD (xI u 279) g D np nb nc nr nh nk) (hX : okXY g D nb) (hO : okOn g D np) (hra : ra = 284 ∨ ra = 285) {px py : Nat} (hx : px ≤ 40) (hy : py ≤ 40) :
    zr 236 0 [.ref 278, .int d, .int (nI px), .int (nI py), .ref ra, .null, .null, .null] [] u P = P (some (.int (nI (dStk g D nb np nl d (nI px) (nI py)).length))) (xrow u ra (dStk g D nb np nl d (nI px) (nI py))) := by
  have hS : ∀ (A : List Int32) (layer : Int32) (P : Option Value → xMem → Prop), zr 235 0 [.ref 278, .int layer, .int d, .int (nI px), .int (nI py), .null] [] (xrow u ra A) P = P (some (.int (fSet (xI g (D + 2)) (dCh g D nb d) (xI g (D + 8)) (xI g (D + 9)) (xI g (D + 7)) layer (nI px) (nI py) np 0))) (xrow u ra A) := by
    intro A layer P
    exact settledIn_run (u := xrow u ra A) hM h (by rw [xIf_row (by omega)]; exact hc) hX hx hy
  have hp := h.2.2.2.1
  have hl := h.2.2.1
  have h1 : xI u 279 1 = nI nl := hc.1.2.1.trans hl.1
  have hA4 : sA u ra 13 4 := by
    rcases hra with q | q
    · subst q; exact hM.2.2.2.2.2.2.2.1
    · subst q; exact hM.2.2.2.2.2.2.2.2.1
  obtain ⟨i4, n4⟩ := hA4
  obtain ⟨h0, ⟨r3, -⟩, ⟨j0, k0⟩, -⟩ := hM
  have a1 : xinb 1 402 := xinb_nI (k := 1) (by omega) (by omega)
  have a2 : xix 1 = 1 := xix_nI (k := 1) (by omega)
  have t1 : ∀ {A a c}, xIs (xrow u ra A) a c = xIs u a c := rfl
  have t2 : ∀ {A a k}, xR (xrow u ra A) a k = xR u a k := rfl
  have t3 : ∀ {A a}, xN (xrow u ra A) a = xN u a := rfl
  have lp : ∀ r i (A : List Int32) v, i + r = nl → A.length ≤ i → zr 236 6 [.ref 278, .int d, .int (nI px), .int (nI py), .ref ra, .int (nI A.length), .int (nI i), v] [] (xrow u ra A) P
      = P (some (.int (nI (A ++ fPile (fun l => fSet (xI g (D + 2)) (dCh g D nb d) (xI g (D + 8)) (xI g (D + 9)) (xI g (D + 7)) (nI l) (nI px) (nI py) np 0) (xI g (D + 3)) r i).length))) (xrow u ra (A ++ fPile (fun l => fSet (xI g (D + 2)) (dCh g D nb d) (xI g (D + 8)) (xI g (D + 9)) (xI g (D + 7)) (nI l) (nI px) (nI py) np 0) (xI g (D + 3)) r i)) := by
    intro r
    induction r with
    | zero =>
      intro i A v hi hA
      have : i = nl := by omega
      subst this
      rw [r236_6]
      simp only [r236_8, r236_9, r236_12, r236_13, r236_14, r236_71, r236_73, t1, t2, t3, h0, r3, j0, k0, a1, a2, xIf_row (show 279 ≠ ra by omega), h1, fPile, List.append_nil, true_and, and_true, Option.some.injEq, exists_eq_left', Option.toList_some, Option.toList_none, List.cons_append, List.nil_append, xcat_nil, xcat_int, xcat_ref, xcat_long, not_true, not_false_iff, if_true, if_false, and_self, and_false, false_and, or_true, true_or, or_self, z01, z10, zle8, Nat.reduceAdd, Nat.reduceLeDiff]
      rw [if_pos (nI_le (Nat.le_refl _) (by omega))]
    | succ r ih =>
      intro i A v hi hA
      have q0 : ¬ nI nl ≤ nI i := nI_ge (by omega) (by omega)
      have b1 : xinb (nI A.length) 4 := xinb_nI (by omega) (by omega)
      have b2 : xix (nI A.length) = A.length := xix_nI (by omega)
      rw [r236_6]
      rcases fSet_cases (xI g (D + 2)) (dCh g D nb d) (xI g (D + 8)) (xI g (D + 9)) (xI g (D + 7)) (nI i) (nI px) (nI py) np 0 with hs | ⟨k, -, hk, hs, -⟩
      · have ih := ih (i + 1) A (.int (-2)) (by omega) (by omega)
        simp only [r236_8, r236_9, r236_12, r236_13, r236_14, r236_17, r236_18, r236_20, r236_21, r236_22, r236_23, r236_26, r236_28, r236_30, r236_32, r236_35, r236_38, r236_40, r236_42, r236_44, r236_45, r236_48, r236_49, r236_52, r236_54, r236_56, r236_57, r236_58, r236_59, r236_62, r236_64, r236_65, r236_68, t1, t2, t3, h0, r3, j0, k0, a1, a2, xIf_row (show 279 ≠ ra by omega), h1, hS, hs, q0, nI_1, ih, fPile, show (-2 : Int32) < 0 by decide, true_and, and_true, Option.some.injEq, exists_eq_left', Option.toList_some, Option.toList_none, List.cons_append, List.nil_append, xcat_nil, xcat_int, xcat_ref, xcat_long, not_true, not_false_iff, if_true, if_false, and_self, and_false, false_and, or_true, true_or, or_self, z01, z10, zle8, Nat.reduceAdd, Nat.reduceLeDiff]
      · have c0 : ¬ nI k < 0 := nI_pos (by omega)
        have c1 : ¬ nI k = -2 := fun z => by rw [z] at c0; exact c0 (by decide)
        have k1 : xinb (nI (24 + k)) 402 := xinb_nI (by omega) (by omega)
        have k2 : xix (nI (24 + k)) = 24 + k := xix_nI (by omega)
        have k3 : 24 + nI k = nI (24 + k) := by rw [show (24 : Int32) = nI 24 from rfl, nI_add]
        have k4 : xix (nI k) = k := xix_nI (by omega)
        have hon := (hc.2.2.1 k (by omega)).2
        have ih := ih (i + 1) (A ++ [nI k]) (.int (nI k)) (by omega) (by simp; omega)
        simp only [List.length_append, List.length_cons, List.length_nil, Nat.zero_add, List.append_assoc, List.cons_append, List.nil_append] at ih
        simp only [r236_8, r236_9, r236_12, r236_13, r236_14, r236_17, r236_18, r236_20, r236_21, r236_22, r236_23, r236_26, r236_28, r236_30, r236_32, r236_35, r236_38, r236_40, r236_42, r236_44, r236_45, r236_48, r236_49, r236_52, r236_54, r236_56, r236_57, r236_58, r236_59, r236_62, r236_64, r236_65, r236_68, t1, t2, t3, xIs_sI, xR_sI, xN_sI, h0, r3, j0, k0, a1, a2, i4, n4, xIf_row (show 279 ≠ ra by omega), xIf_sI (show 279 ≠ ra by omega), h1, hS, hs, q0, c0, c1, b1, b2, k1, k2, k3, k4, hon, xrow_snoc, nI_1, fPile, true_and, and_true, Option.some.injEq, exists_eq_left', Option.toList_some, Option.toList_none, List.cons_append, List.nil_append, xcat_nil, xcat_int, xcat_ref, xcat_long, not_true, not_false_iff, if_true, if_false, and_self, and_false, false_and, or_true, true_or, or_self, z01, z10, zle8, Nat.reduceAdd, Nat.reduceLeDiff]
        rcases hO k (by omega) with o | o
        · simp only [o, ih, List.length_append, List.length_cons, true_and, and_true, Option.some.injEq, exists_eq_left', Option.toList_some, Option.toList_none, List.cons_append, List.nil_append, xcat_nil, xcat_int, xcat_ref, xcat_long, not_true, not_false_iff, if_true, if_false, and_self, and_false, false_and, or_true, true_or, or_self, z01, z10, zle8, Nat.reduceAdd, Nat.reduceLeDiff]
        · simp only [o, List.length_append, List.length_cons, List.length_nil, true_and, and_true, Option.some.injEq, exists_eq_left', Option.toList_some, Option.toList_none, List.cons_append, List.nil_append, xcat_nil, xcat_int, xcat_ref, xcat_long, not_true, not_false_iff, if_true, if_false, and_self, and_false, false_and, or_true, true_or, or_self, z01, z10, zle8, Nat.reduceAdd, Nat.reduceLeDiff]
  have := lp nl 0 [] .null (by omega) (by simp)
  rw [xrow_nil] at this
  simp only [r236_0, r236_1, r236_3, r236_4]
  exact this
end
