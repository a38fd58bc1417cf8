/-! THE LAW'S LOOP -/
/-- what the law's own idle does -/
def IdOk (I : xOp) : Prop := ∀ (k : Int32) (u : xMem), xIs u 0 10 → xIs u 295 14 → 0 < xN u 295 →
  (∀ q, (∀ P, zr 2 0 [.ref 0, .int k, .null, .null] [] u P = P (some (.int q)) u) → I [.ref 0, .int k, .ref 295, .null, .null, .null] [] u = xend (some (.int 0)) (xsJ u 295 0 q.toInt64)) ∧
  ((∀ P, zr 2 0 [.ref 0, .int k, .null, .null] [] u P = P (some (.retAddr 0)) u) → I [.ref 0, .int k, .ref 295, .null, .null, .null] [] u = xend (some (.int 1)) u)
section
variable {I : xOp} {u w : xMem} {P Q : Option Value → xMem → Prop} {m m' : Nat} {ls ls' : List Value} {i : Int32} {v5 v6 : Value} {r : Option Value}
theorem law_op (hB : Both m m' ls ls' u) (h : ∀ x u1, Fr u u1 → zr m' 0 ls' [] u1 (fun r u2 => r = some (.int x) ∧ Fr u u2 ∧ Inv u2) → Q (some (.int x)) u1) : zl I m 0 ls [] u Q := by
  obtain ⟨n, r, u1, e, f, n', r', u2, e', ⟨x, rfl, rfl⟩, f2, i2⟩ := hB
  exact zl_of ⟨n, _, u1, e, h x u1 f ⟨n', _, u2, e', rfl, f2, i2⟩⟩
theorem Fr.is {a c : Nat} (f : Fr u w) (h : xIs u a c) : xIs w a c := by
  unfold xIs xW xK at h ⊢
  rw [f.1, f.2.1]
  exact h
theorem Fr.n {a : Nat} (f : Fr u w) : xN w a = xN u a := by
  unfold xN
  rw [f.2.1]
theorem law_0 (hI : Inv u) (b1 : xinb (i + 1) (xN u 2000000)) (b2 : xinb (i + 2) (xN u 2000000)) (b3 : xinb (i + 3) (xN u 2000000)) (b4 : xinb (i + 4) (xN u 2000000)) (b5 : xinb (i + 5) (xN u 2000000)) (b6 : xinb (i + 6) (xN u 2000000)) (b7 : xinb (i + 7) (xN u 2000000)) (hn : ∀ u2, Fr u u2 → Inv u2 → zl I 0 2238 [.ref 2000000, .ref 0, .ref 278, .ref 295, .int i, v5, v6] [] u2 P) : zl I 0 244 [.ref 2000000, .ref 0, .ref 278, .ref 295, .int i, v5, v6] [] u P := by
  obtain ⟨hT, D, E, s, nl, np, nb, nc, nr, nh, nk, n, nf, na, f, op, h⟩ := hI
  have g1 := h.sp.1
  have g2 : xIs u 278 11 := h.1.2.2.2.2.2.2.2.2.2.1.1
  simp only [q0_244, q0_245, q0_246, q0_248, q0_249, q0_250, q0_251, q0_252, q0_254, q0_255, q0_256, q0_257, q0_258, q0_260, q0_261, q0_262, q0_263, q0_264, q0_266, q0_267, q0_268, q0_269, q0_270, q0_272, q0_273, q0_274, q0_275, g1, b1, b2, b3, b4, b5, b6, b7, true_and, and_true, Option.some.injEq, exists_eq_left', Option.toList_some, Option.toList_none, List.cons_append, List.nil_append, xcat_nil, xcat_int, xcat_ref, xcat_long, not_true, not_false_iff, if_true, if_false, and_self, and_false, false_and, or_true, true_or, or_self, z01, z10, zle8, Nat.reduceAdd, Nat.reduceLeDiff]
  refine law_op (both_feed hT h) (fun x u1 f1 z1 => ?_)
  have j2 := f1.is g2
  have e1 := f1.2.2
  have e2 : xN u1 2000000 = xN u 2000000 := f1.n
  simp only [q0_278, q0_279, q0_280, q0_282, q0_283, q0_284, q0_285, q0_286, q0_288, q0_289, q0_290, q0_291, q0_292, q0_294, q0_295, q0_296, q0_297, q0_298, q0_300, q0_301, q0_302, q0_303, q0_304, q0_306, q0_307, q0_308, q0_309, j2, e1, e2, b1, b2, b3, b4, b5, b6, b7, true_and, and_true, Option.some.injEq, exists_eq_left', Option.toList_some, Option.toList_none, List.cons_append, List.nil_append, xcat_nil, xcat_int, xcat_ref, xcat_long, not_true, not_false_iff, if_true, if_false, and_self, and_false, false_and, or_true, true_or, or_self, z01, z10, zle8, Nat.reduceAdd, Nat.reduceLeDiff]
  refine zl_of (z1.mono (fun r u2 z => ?_))
  obtain ⟨rfl, f2, i2⟩ := z
  simp only [q0_312, true_and, and_true, Option.some.injEq, exists_eq_left', Option.toList_some, Option.toList_none, List.cons_append, List.nil_append, xcat_nil, xcat_int, xcat_ref, xcat_long, not_true, not_false_iff, if_true, if_false, and_self, and_false, false_and, or_true, true_or, or_self, z01, z10, zle8, Nat.reduceAdd, Nat.reduceLeDiff]
  exact hn u2 f2 i2
theorem law_1 (hI : Inv u) (b1 : xinb (i + 1) (xN u 2000000)) (b2 : xinb (i + 2) (xN u 2000000)) (b3 : xinb (i + 3) (xN u 2000000)) (b4 : xinb (i + 4) (xN u 2000000)) (b5 : xinb (i + 5) (xN u 2000000)) (b6 : xinb (i + 6) (xN u 2000000)) (b7 : xinb (i + 7) (xN u 2000000)) (hn : ∀ u2, Fr u u2 → Inv u2 → zl I 0 2238 [.ref 2000000, .ref 0, .ref 278, .ref 295, .int i, v5, v6] [] u2 P) : zl I 0 317 [.ref 2000000, .ref 0, .ref 278, .ref 295, .int i, v5, v6] [] u P := by
  obtain ⟨hT, D, E, s, nl, np, nb, nc, nr, nh, nk, n, nf, na, f, op, h⟩ := hI
  have g1 := h.sp.1
  have g2 : xIs u 278 11 := h.1.2.2.2.2.2.2.2.2.2.1.1
  simp only [q0_317, q0_318, q0_319, q0_321, q0_322, q0_323, q0_324, g1, b1, b2, b3, b4, b5, b6, b7, true_and, and_true, Option.some.injEq, exists_eq_left', Option.toList_some, Option.toList_none, List.cons_append, List.nil_append, xcat_nil, xcat_int, xcat_ref, xcat_long, not_true, not_false_iff, if_true, if_false, and_self, and_false, false_and, or_true, true_or, or_self, z01, z10, zle8, Nat.reduceAdd, Nat.reduceLeDiff]
  refine law_op (both_desk hT h) (fun x u1 f1 z1 => ?_)
  have j2 := f1.is g2
  have e1 := f1.2.2
  have e2 : xN u1 2000000 = xN u 2000000 := f1.n
  simp only [q0_327, q0_328, q0_329, q0_331, q0_332, q0_333, q0_334, j2, e1, e2, b1, b2, b3, b4, b5, b6, b7, true_and, and_true, Option.some.injEq, exists_eq_left', Option.toList_some, Option.toList_none, List.cons_append, List.nil_append, xcat_nil, xcat_int, xcat_ref, xcat_long, not_true, not_false_iff, if_true, if_false, and_self, and_false, false_and, or_true, true_or, or_self, z01, z10, zle8, Nat.reduceAdd, Nat.reduceLeDiff]
  refine zl_of (z1.mono (fun r u2 z => ?_))
  obtain ⟨rfl, f2, i2⟩ := z
  simp only [q0_337, true_and, and_true, Option.some.injEq, exists_eq_left', Option.toList_some, Option.toList_none, List.cons_append, List.nil_append, xcat_nil, xcat_int, xcat_ref, xcat_long, not_true, not_false_iff, if_true, if_false, and_self, and_false, false_and, or_true, true_or, or_self, z01, z10, zle8, Nat.reduceAdd, Nat.reduceLeDiff]
  exact hn u2 f2 i2
theorem law_2 (hI : Inv u) (b1 : xinb (i + 1) (xN u 2000000)) (b2 : xinb (i + 2) (xN u 2000000)) (b3 : xinb (i + 3) (xN u 2000000)) (b4 : xinb (i + 4) (xN u 2000000)) (b5 : xinb (i + 5) (xN u 2000000)) (b6 : xinb (i + 6) (xN u 2000000)) (b7 : xinb (i + 7) (xN u 2000000)) (hn : ∀ u2, Fr u u2 → Inv u2 → zl I 0 2238 [.ref 2000000, .ref 0, .ref 278, .ref 295, .int i, v5, v6] [] u2 P) : zl I 0 342 [.ref 2000000, .ref 0, .ref 278, .ref 295, .int i, v5, v6] [] u P := by
  obtain ⟨hT, D, E, s, nl, np, nb, nc, nr, nh, nk, n, nf, na, f, op, h⟩ := hI
  have g1 := h.sp.1
  have g2 : xIs u 278 11 := h.1.2.2.2.2.2.2.2.2.2.1.1
  simp only [q0_342, q0_343, g1, b1, b2, b3, b4, b5, b6, b7, true_and, and_true, Option.some.injEq, exists_eq_left', Option.toList_some, Option.toList_none, List.cons_append, List.nil_append, xcat_nil, xcat_int, xcat_ref, xcat_long, not_true, not_false_iff, if_true, if_false, and_self, and_false, false_and, or_true, true_or, or_self, z01, z10, zle8, Nat.reduceAdd, Nat.reduceLeDiff]
  refine law_op (both_fault hT h) (fun x u1 f1 z1 => ?_)
  have j2 := f1.is g2
  have e1 := f1.2.2
  have e2 : xN u1 2000000 = xN u 2000000 := f1.n
  simp only [q0_346, q0_347, j2, e1, e2, b1, b2, b3, b4, b5, b6, b7, true_and, and_true, Option.some.injEq, exists_eq_left', Option.toList_some, Option.toList_none, List.cons_append, List.nil_append, xcat_nil, xcat_int, xcat_ref, xcat_long, not_true, not_false_iff, if_true, if_false, and_self, and_false, false_and, or_true, true_or, or_self, z01, z10, zle8, Nat.reduceAdd, Nat.reduceLeDiff]
  refine zl_of (z1.mono (fun r u2 z => ?_))
  obtain ⟨rfl, f2, i2⟩ := z
  simp only [q0_350, true_and, and_true, Option.some.injEq, exists_eq_left', Option.toList_some, Option.toList_none, List.cons_append, List.nil_append, xcat_nil, xcat_int, xcat_ref, xcat_long, not_true, not_false_iff, if_true, if_false, and_self, and_false, false_and, or_true, true_or, or_self, z01, z10, zle8, Nat.reduceAdd, Nat.reduceLeDiff]
  exact hn u2 f2 i2
theorem law_3 (hI : Inv u) (b1 : xinb (i + 1) (xN u 2000000)) (b2 : xinb (i + 2) (xN u 2000000)) (b3 : xinb (i + 3) (xN u 2000000)) (b4 : xinb (i + 4) (xN u 2000000)) (b5 : xinb (i + 5) (xN u 2000000)) (b6 : xinb (i + 6) (xN u 2000000)) (b7 : xinb (i + 7) (xN u 2000000)) (hn : ∀ u2, Fr u u2 → Inv u2 → zl I 0 2238 [.ref 2000000, .ref 0, .ref 278, .ref 295, .int i, v5, v6] [] u2 P) : zl I 0 355 [.ref 2000000, .ref 0, .ref 278, .ref 295, .int i, v5, v6] [] u P := by
  obtain ⟨hT, D, E, s, nl, np, nb, nc, nr, nh, nk, n, nf, na, f, op, h⟩ := hI
  have g1 := h.sp.1
  have g2 : xIs u 278 11 := h.1.2.2.2.2.2.2.2.2.2.1.1
  simp only [q0_355, q0_356, g1, b1, b2, b3, b4, b5, b6, b7, true_and, and_true, Option.some.injEq, exists_eq_left', Option.toList_some, Option.toList_none, List.cons_append, List.nil_append, xcat_nil, xcat_int, xcat_ref, xcat_long, not_true, not_false_iff, if_true, if_false, and_self, and_false, false_and, or_true, true_or, or_self, z01, z10, zle8, Nat.reduceAdd, Nat.reduceLeDiff]
  refine law_op (both_where hT h) (fun x u1 f1 z1 => ?_)
  have j2 := f1.is g2
  have e1 := f1.2.2
  have e2 : xN u1 2000000 = xN u 2000000 := f1.n
  simp only [q0_359, q0_360, j2, e1, e2, b1, b2, b3, b4, b5, b6, b7, true_and, and_true, Option.some.injEq, exists_eq_left', Option.toList_some, Option.toList_none, List.cons_append, List.nil_append, xcat_nil, xcat_int, xcat_ref, xcat_long, not_true, not_false_iff, if_true, if_false, and_self, and_false, false_and, or_true, true_or, or_self, z01, z10, zle8, Nat.reduceAdd, Nat.reduceLeDiff]
  refine zl_of (z1.mono (fun r u2 z => ?_))
  obtain ⟨rfl, f2, i2⟩ := z
  simp only [q0_363, true_and, and_true, Option.some.injEq, exists_eq_left', Option.toList_some, Option.toList_none, List.cons_append, List.nil_append, xcat_nil, xcat_int, xcat_ref, xcat_long, not_true, not_false_iff, if_true, if_false, and_self, and_false, false_and, or_true, true_or, or_self, z01, z10, zle8, Nat.reduceAdd, Nat.reduceLeDiff]
  exact hn u2 f2 i2
theorem law_4 (hI : Inv u) (b1 : xinb (i + 1) (xN u 2000000)) (b2 : xinb (i + 2) (xN u 2000000)) (b3 : xinb (i + 3) (xN u 2000000)) (b4 : xinb (i + 4) (xN u 2000000)) (b5 : xinb (i + 5) (xN u 2000000)) (b6 : xinb (i + 6) (xN u 2000000)) (b7 : xinb (i + 7) (xN u 2000000)) (hn : ∀ u2, Fr u u2 → Inv u2 → zl I 0 2238 [.ref 2000000, .ref 0, .ref 278, .ref 295, .int i, v5, v6] [] u2 P) : zl I 0 368 [.ref 2000000, .ref 0, .ref 278, .ref 295, .int i, v5, v6] [] u P := by
  obtain ⟨hT, D, E, s, nl, np, nb, nc, nr, nh, nk, n, nf, na, f, op, h⟩ := hI
  have g1 := h.sp.1
  have g2 : xIs u 278 11 := h.1.2.2.2.2.2.2.2.2.2.1.1
  simp only [q0_368, q0_369, q0_370, q0_372, q0_373, q0_374, q0_375, g1, b1, b2, b3, b4, b5, b6, b7, true_and, and_true, Option.some.injEq, exists_eq_left', Option.toList_some, Option.toList_none, List.cons_append, List.nil_append, xcat_nil, xcat_int, xcat_ref, xcat_long, not_true, not_false_iff, if_true, if_false, and_self, and_false, false_and, or_true, true_or, or_self, z01, z10, zle8, Nat.reduceAdd, Nat.reduceLeDiff]
  refine law_op (both_about h) (fun x u1 f1 z1 => ?_)
  have j2 := f1.is g2
  have e1 := f1.2.2
  have e2 : xN u1 2000000 = xN u 2000000 := f1.n
  simp only [q0_378, q0_379, q0_380, q0_382, q0_383, q0_384, q0_385, j2, e1, e2, b1, b2, b3, b4, b5, b6, b7, true_and, and_true, Option.some.injEq, exists_eq_left', Option.toList_some, Option.toList_none, List.cons_append, List.nil_append, xcat_nil, xcat_int, xcat_ref, xcat_long, not_true, not_false_iff, if_true, if_false, and_self, and_false, false_and, or_true, true_or, or_self, z01, z10, zle8, Nat.reduceAdd, Nat.reduceLeDiff]
  refine zl_of (z1.mono (fun r u2 z => ?_))
  obtain ⟨rfl, f2, i2⟩ := z
  simp only [q0_388, true_and, and_true, Option.some.injEq, exists_eq_left', Option.toList_some, Option.toList_none, List.cons_append, List.nil_append, xcat_nil, xcat_int, xcat_ref, xcat_long, not_true, not_false_iff, if_true, if_false, and_self, and_false, false_and, or_true, true_or, or_self, z01, z10, zle8, Nat.reduceAdd, Nat.reduceLeDiff]
  exact hn u2 f2 i2
theorem law_5 (hI : Inv u) (b1 : xinb (i + 1) (xN u 2000000)) (b2 : xinb (i + 2) (xN u 2000000)) (b3 : xinb (i + 3) (xN u 2000000)) (b4 : xinb (i + 4) (xN u 2000000)) (b5 : xinb (i + 5) (xN u 2000000)) (b6 : xinb (i + 6) (xN u 2000000)) (b7 : xinb (i + 7) (xN u 2000000)) (hn : ∀ u2, Fr u u2 → Inv u2 → zl I 0 2238 [.ref 2000000, .ref 0, .ref 278, .ref 295, .int i, v5, v6] [] u2 P) : zl I 0 393 [.ref 2000000, .ref 0, .ref 278, .ref 295, .int i, v5, v6] [] u P := by
  obtain ⟨hT, D, E, s, nl, np, nb, nc, nr, nh, nk, n, nf, na, f, op, h⟩ := hI
  have g1 := h.sp.1
  have g2 : xIs u 278 11 := h.1.2.2.2.2.2.2.2.2.2.1.1
  simp only [q0_393, q0_394, q0_395, q0_397, q0_398, q0_399, q0_400, g1, b1, b2, b3, b4, b5, b6, b7, true_and, and_true, Option.some.injEq, exists_eq_left', Option.toList_some, Option.toList_none, List.cons_append, List.nil_append, xcat_nil, xcat_int, xcat_ref, xcat_long, not_true, not_false_iff, if_true, if_false, and_self, and_false, false_and, or_true, true_or, or_self, z01, z10, zle8, Nat.reduceAdd, Nat.reduceLeDiff]
  refine law_op (both_above h) (fun x u1 f1 z1 => ?_)
  have j2 := f1.is g2
  have e1 := f1.2.2
  have e2 : xN u1 2000000 = xN u 2000000 := f1.n
  simp only [q0_403, q0_404, q0_405, q0_407, q0_408, q0_409, q0_410, j2, e1, e2, b1, b2, b3, b4, b5, b6, b7, true_and, and_true, Option.some.injEq, exists_eq_left', Option.toList_some, Option.toList_none, List.cons_append, List.nil_append, xcat_nil, xcat_int, xcat_ref, xcat_long, not_true, not_false_iff, if_true, if_false, and_self, and_false, false_and, or_true, true_or, or_self, z01, z10, zle8, Nat.reduceAdd, Nat.reduceLeDiff]
  refine zl_of (z1.mono (fun r u2 z => ?_))
  obtain ⟨rfl, f2, i2⟩ := z
  simp only [q0_413, true_and, and_true, Option.some.injEq, exists_eq_left', Option.toList_some, Option.toList_none, List.cons_append, List.nil_append, xcat_nil, xcat_int, xcat_ref, xcat_long, not_true, not_false_iff, if_true, if_false, and_self, and_false, false_and, or_true, true_or, or_self, z01, z10, zle8, Nat.reduceAdd, Nat.reduceLeDiff]
  exact hn u2 f2 i2
theorem law_6 (hI : Inv u) (b1 : xinb (i + 1) (xN u 2000000)) (b2 : xinb (i + 2) (xN u 2000000)) (b3 : xinb (i + 3) (xN u 2000000)) (b4 : xinb (i + 4) (xN u 2000000)) (b5 : xinb (i + 5) (xN u 2000000)) (b6 : xinb (i + 6) (xN u 2000000)) (b7 : xinb (i + 7) (xN u 2000000)) (hn : ∀ u2, Fr u u2 → Inv u2 → zl I 0 2238 [.ref 2000000, .ref 0, .ref 278, .ref 295, .int i, v5, v6] [] u2 P) : zl I 0 418 [.ref 2000000, .ref 0, .ref 278, .ref 295, .int i, v5, v6] [] u P := by
  obtain ⟨hT, D, E, s, nl, np, nb, nc, nr, nh, nk, n, nf, na, f, op, h⟩ := hI
  have g1 := h.sp.1
  have g2 : xIs u 278 11 := h.1.2.2.2.2.2.2.2.2.2.1.1
  simp only [q0_418, q0_419, q0_420, q0_422, q0_423, q0_424, q0_425, q0_426, q0_428, q0_429, q0_430, q0_431, g1, b1, b2, b3, b4, b5, b6, b7, true_and, and_true, Option.some.injEq, exists_eq_left', Option.toList_some, Option.toList_none, List.cons_append, List.nil_append, xcat_nil, xcat_int, xcat_ref, xcat_long, not_true, not_false_iff, if_true, if_false, and_self, and_false, false_and, or_true, true_or, or_self, z01, z10, zle8, Nat.reduceAdd, Nat.reduceLeDiff]
  refine law_op (both_place h) (fun x u1 f1 z1 => ?_)
  have j2 := f1.is g2
  have e1 := f1.2.2
  have e2 : xN u1 2000000 = xN u 2000000 := f1.n
  simp only [q0_434, q0_435, q0_436, q0_438, q0_439, q0_440, q0_441, q0_442, q0_444, q0_445, q0_446, q0_447, j2, e1, e2, b1, b2, b3, b4, b5, b6, b7, true_and, and_true, Option.some.injEq, exists_eq_left', Option.toList_some, Option.toList_none, List.cons_append, List.nil_append, xcat_nil, xcat_int, xcat_ref, xcat_long, not_true, not_false_iff, if_true, if_false, and_self, and_false, false_and, or_true, true_or, or_self, z01, z10, zle8, Nat.reduceAdd, Nat.reduceLeDiff]
  refine zl_of (z1.mono (fun r u2 z => ?_))
  obtain ⟨rfl, f2, i2⟩ := z
  simp only [q0_450, true_and, and_true, Option.some.injEq, exists_eq_left', Option.toList_some, Option.toList_none, List.cons_append, List.nil_append, xcat_nil, xcat_int, xcat_ref, xcat_long, not_true, not_false_iff, if_true, if_false, and_self, and_false, false_and, or_true, true_or, or_self, z01, z10, zle8, Nat.reduceAdd, Nat.reduceLeDiff]
  exact hn u2 f2 i2
theorem law_7 (hI : Inv u) (b1 : xinb (i + 1) (xN u 2000000)) (b2 : xinb (i + 2) (xN u 2000000)) (b3 : xinb (i + 3) (xN u 2000000)) (b4 : xinb (i + 4) (xN u 2000000)) (b5 : xinb (i + 5) (xN u 2000000)) (b6 : xinb (i + 6) (xN u 2000000)) (b7 : xinb (i + 7) (xN u 2000000)) (hn : ∀ u2, Fr u u2 → Inv u2 → zl I 0 2238 [.ref 2000000, .ref 0, .ref 278, .ref 295, .int i, v5, v6] [] u2 P) : zl I 0 455 [.ref 2000000, .ref 0, .ref 278, .ref 295, .int i, v5, v6] [] u P := by
  obtain ⟨hT, D, E, s, nl, np, nb, nc, nr, nh, nk, n, nf, na, f, op, h⟩ := hI
  have g1 := h.sp.1
  have g2 : xIs u 278 11 := h.1.2.2.2.2.2.2.2.2.2.1.1
  simp only [q0_455, q0_456, q0_457, q0_459, q0_460, q0_461, q0_462, q0_463, q0_465, q0_466, q0_467, q0_468, g1, b1, b2, b3, b4, b5, b6, b7, true_and, and_true, Option.some.injEq, exists_eq_left', Option.toList_some, Option.toList_none, List.cons_append, List.nil_append, xcat_nil, xcat_int, xcat_ref, xcat_long, not_true, not_false_iff, if_true, if_false, and_self, and_false, false_and, or_true, true_or, or_self, z01, z10, zle8, Nat.reduceAdd, Nat.reduceLeDiff]
  refine law_op (both_corners h) (fun x u1 f1 z1 => ?_)
  have j2 := f1.is g2
  have e1 := f1.2.2
  have e2 : xN u1 2000000 = xN u 2000000 := f1.n
  simp only [q0_471, q0_472, q0_473, q0_475, q0_476, q0_477, q0_478, q0_479, q0_481, q0_482, q0_483, q0_484, j2, e1, e2, b1, b2, b3, b4, b5, b6, b7, true_and, and_true, Option.some.injEq, exists_eq_left', Option.toList_some, Option.toList_none, List.cons_append, List.nil_append, xcat_nil, xcat_int, xcat_ref, xcat_long, not_true, not_false_iff, if_true, if_false, and_self, and_false, false_and, or_true, true_or, or_self, z01, z10, zle8, Nat.reduceAdd, Nat.reduceLeDiff]
  refine zl_of (z1.mono (fun r u2 z => ?_))
  obtain ⟨rfl, f2, i2⟩ := z
  simp only [q0_487, true_and, and_true, Option.some.injEq, exists_eq_left', Option.toList_some, Option.toList_none, List.cons_append, List.nil_append, xcat_nil, xcat_int, xcat_ref, xcat_long, not_true, not_false_iff, if_true, if_false, and_self, and_false, false_and, or_true, true_or, or_self, z01, z10, zle8, Nat.reduceAdd, Nat.reduceLeDiff]
  exact hn u2 f2 i2
theorem law_8 (hI : Inv u) (b1 : xinb (i + 1) (xN u 2000000)) (b2 : xinb (i + 2) (xN u 2000000)) (b3 : xinb (i + 3) (xN u 2000000)) (b4 : xinb (i + 4) (xN u 2000000)) (b5 : xinb (i + 5) (xN u 2000000)) (b6 : xinb (i + 6) (xN u 2000000)) (b7 : xinb (i + 7) (xN u 2000000)) (hn : ∀ u2, Fr u u2 → Inv u2 → zl I 0 2238 [.ref 2000000, .ref 0, .ref 278, .ref 295, .int i, v5, v6] [] u2 P) : zl I 0 492 [.ref 2000000, .ref 0, .ref 278, .ref 295, .int i, v5, v6] [] u P := by
  obtain ⟨hT, D, E, s, nl, np, nb, nc, nr, nh, nk, n, nf, na, f, op, h⟩ := hI
  have g1 := h.sp.1
  have g2 : xIs u 278 11 := h.1.2.2.2.2.2.2.2.2.2.1.1
  simp only [q0_492, q0_493, q0_494, q0_496, q0_497, q0_498, q0_499, q0_500, q0_502, q0_503, q0_504, q0_505, q0_506, q0_508, q0_509, q0_510, q0_511, q0_512, q0_514, q0_515, q0_516, q0_517, g1, b1, b2, b3, b4, b5, b6, b7, true_and, and_true, Option.some.injEq, exists_eq_left', Option.toList_some, Option.toList_none, List.cons_append, List.nil_append, xcat_nil, xcat_int, xcat_ref, xcat_long, not_true, not_false_iff, if_true, if_false, and_self, and_false, false_and, or_true, true_or, or_self, z01, z10, zle8, Nat.reduceAdd, Nat.reduceLeDiff]
  refine law_op (both_corner h) (fun x u1 f1 z1 => ?_)
  have j2 := f1.is g2
  have e1 := f1.2.2
  have e2 : xN u1 2000000 = xN u 2000000 := f1.n
  simp only [q0_520, q0_521, q0_522, q0_524, q0_525, q0_526, q0_527, q0_528, q0_530, q0_531, q0_532, q0_533, q0_534, q0_536, q0_537, q0_538, q0_539, q0_540, q0_542, q0_543, q0_544, q0_545, j2, e1, e2, b1, b2, b3, b4, b5, b6, b7, true_and, and_true, Option.some.injEq, exists_eq_left', Option.toList_some, Option.toList_none, List.cons_append, List.nil_append, xcat_nil, xcat_int, xcat_ref, xcat_long, not_true, not_false_iff, if_true, if_false, and_self, and_false, false_and, or_true, true_or, or_self, z01, z10, zle8, Nat.reduceAdd, Nat.reduceLeDiff]
  refine zl_of (z1.mono (fun r u2 z => ?_))
  obtain ⟨rfl, f2, i2⟩ := z
  simp only [q0_548, true_and, and_true, Option.some.injEq, exists_eq_left', Option.toList_some, Option.toList_none, List.cons_append, List.nil_append, xcat_nil, xcat_int, xcat_ref, xcat_long, not_true, not_false_iff, if_true, if_false, and_self, and_false, false_and, or_true, true_or, or_self, z01, z10, zle8, Nat.reduceAdd, Nat.reduceLeDiff]
  exact hn u2 f2 i2
theorem law_9 (hI : Inv u) (b1 : xinb (i + 1) (xN u 2000000)) (b2 : xinb (i + 2) (xN u 2000000)) (b3 : xinb (i + 3) (xN u 2000000)) (b4 : xinb (i + 4) (xN u 2000000)) (b5 : xinb (i + 5) (xN u 2000000)) (b6 : xinb (i + 6) (xN u 2000000)) (b7 : xinb (i + 7) (xN u 2000000)) (hn : ∀ u2, Fr u u2 → Inv u2 → zl I 0 2238 [.ref 2000000, .ref 0, .ref 278, .ref 295, .int i, v5, v6] [] u2 P) : zl I 0 553 [.ref 2000000, .ref 0, .ref 278, .ref 295, .int i, v5, v6] [] u P := by
  obtain ⟨hT, D, E, s, nl, np, nb, nc, nr, nh, nk, n, nf, na, f, op, h⟩ := hI
  have g1 := h.sp.1
  have g2 : xIs u 278 11 := h.1.2.2.2.2.2.2.2.2.2.1.1
  simp only [q0_553, q0_554, q0_555, q0_557, q0_558, q0_559, q0_560, q0_561, q0_563, q0_564, q0_565, q0_566, g1, b1, b2, b3, b4, b5, b6, b7, true_and, and_true, Option.some.injEq, exists_eq_left', Option.toList_some, Option.toList_none, List.cons_append, List.nil_append, xcat_nil, xcat_int, xcat_ref, xcat_long, not_true, not_false_iff, if_true, if_false, and_self, and_false, false_and, or_true, true_or, or_self, z01, z10, zle8, Nat.reduceAdd, Nat.reduceLeDiff]
  refine law_op (both_area h) (fun x u1 f1 z1 => ?_)
  have j2 := f1.is g2
  have e1 := f1.2.2
  have e2 : xN u1 2000000 = xN u 2000000 := f1.n
  simp only [q0_569, q0_570, q0_571, q0_573, q0_574, q0_575, q0_576, q0_577, q0_579, q0_580, q0_581, q0_582, j2, e1, e2, b1, b2, b3, b4, b5, b6, b7, true_and, and_true, Option.some.injEq, exists_eq_left', Option.toList_some, Option.toList_none, List.cons_append, List.nil_append, xcat_nil, xcat_int, xcat_ref, xcat_long, not_true, not_false_iff, if_true, if_false, and_self, and_false, false_and, or_true, true_or, or_self, z01, z10, zle8, Nat.reduceAdd, Nat.reduceLeDiff]
  refine zl_of (z1.mono (fun r u2 z => ?_))
  obtain ⟨rfl, f2, i2⟩ := z
  simp only [q0_585, true_and, and_true, Option.some.injEq, exists_eq_left', Option.toList_some, Option.toList_none, List.cons_append, List.nil_append, xcat_nil, xcat_int, xcat_ref, xcat_long, not_true, not_false_iff, if_true, if_false, and_self, and_false, false_and, or_true, true_or, or_self, z01, z10, zle8, Nat.reduceAdd, Nat.reduceLeDiff]
  exact hn u2 f2 i2
theorem law_10 (hI : Inv u) (b1 : xinb (i + 1) (xN u 2000000)) (b2 : xinb (i + 2) (xN u 2000000)) (b3 : xinb (i + 3) (xN u 2000000)) (b4 : xinb (i + 4) (xN u 2000000)) (b5 : xinb (i + 5) (xN u 2000000)) (b6 : xinb (i + 6) (xN u 2000000)) (b7 : xinb (i + 7) (xN u 2000000)) (hn : ∀ u2, Fr u u2 → Inv u2 → zl I 0 2238 [.ref 2000000, .ref 0, .ref 278, .ref 295, .int i, v5, v6] [] u2 P) : zl I 0 590 [.ref 2000000, .ref 0, .ref 278, .ref 295, .int i, v5, v6] [] u P := by
  obtain ⟨hT, D, E, s, nl, np, nb, nc, nr, nh, nk, n, nf, na, f, op, h⟩ := hI
  have g1 := h.sp.1
  have g2 : xIs u 278 11 := h.1.2.2.2.2.2.2.2.2.2.1.1
  simp only [q0_590, q0_591, q0_592, q0_594, q0_595, q0_596, q0_597, q0_598, q0_600, q0_601, q0_602, q0_603, q0_604, q0_606, q0_607, q0_608, q0_609, q0_610, q0_612, q0_613, q0_614, q0_615, g1, b1, b2, b3, b4, b5, b6, b7, true_and, and_true, Option.some.injEq, exists_eq_left', Option.toList_some, Option.toList_none, List.cons_append, List.nil_append, xcat_nil, xcat_int, xcat_ref, xcat_long, not_true, not_false_iff, if_true, if_false, and_self, and_false, false_and, or_true, true_or, or_self, z01, z10, zle8, Nat.reduceAdd, Nat.reduceLeDiff]
  refine law_op (both_inside h) (fun x u1 f1 z1 => ?_)
  have j2 := f1.is g2
  have e1 := f1.2.2
  have e2 : xN u1 2000000 = xN u 2000000 := f1.n
  simp only [q0_618, q0_619, q0_620, q0_622, q0_623, q0_624, q0_625, q0_626, q0_628, q0_629, q0_630, q0_631, q0_632, q0_634, q0_635, q0_636, q0_637, q0_638, q0_640, q0_641, q0_642, q0_643, j2, e1, e2, b1, b2, b3, b4, b5, b6, b7, true_and, and_true, Option.some.injEq, exists_eq_left', Option.toList_some, Option.toList_none, List.cons_append, List.nil_append, xcat_nil, xcat_int, xcat_ref, xcat_long, not_true, not_false_iff, if_true, if_false, and_self, and_false, false_and, or_true, true_or, or_self, z01, z10, zle8, Nat.reduceAdd, Nat.reduceLeDiff]
  refine zl_of (z1.mono (fun r u2 z => ?_))
  obtain ⟨rfl, f2, i2⟩ := z
  simp only [q0_646, true_and, and_true, Option.some.injEq, exists_eq_left', Option.toList_some, Option.toList_none, List.cons_append, List.nil_append, xcat_nil, xcat_int, xcat_ref, xcat_long, not_true, not_false_iff, if_true, if_false, and_self, and_false, false_and, or_true, true_or, or_self, z01, z10, zle8, Nat.reduceAdd, Nat.reduceLeDiff]
  exact hn u2 f2 i2
theorem law_11 (hI : Inv u) (b1 : xinb (i + 1) (xN u 2000000)) (b2 : xinb (i + 2) (xN u 2000000)) (b3 : xinb (i + 3) (xN u 2000000)) (b4 : xinb (i + 4) (xN u 2000000)) (b5 : xinb (i + 5) (xN u 2000000)) (b6 : xinb (i + 6) (xN u 2000000)) (b7 : xinb (i + 7) (xN u 2000000)) (hn : ∀ u2, Fr u u2 → Inv u2 → zl I 0 2238 [.ref 2000000, .ref 0, .ref 278, .ref 295, .int i, v5, v6] [] u2 P) : zl I 0 651 [.ref 2000000, .ref 0, .ref 278, .ref 295, .int i, v5, v6] [] u P := by
  obtain ⟨hT, D, E, s, nl, np, nb, nc, nr, nh, nk, n, nf, na, f, op, h⟩ := hI
  have g1 := h.sp.1
  have g2 : xIs u 278 11 := h.1.2.2.2.2.2.2.2.2.2.1.1
  simp only [q0_651, q0_652, q0_653, q0_655, q0_656, q0_657, q0_658, q0_659, q0_661, q0_662, q0_663, q0_664, q0_665, q0_667, q0_668, q0_669, q0_670, q0_671, q0_673, q0_674, q0_675, q0_676, g1, b1, b2, b3, b4, b5, b6, b7, true_and, and_true, Option.some.injEq, exists_eq_left', Option.toList_some, Option.toList_none, List.cons_append, List.nil_append, xcat_nil, xcat_int, xcat_ref, xcat_long, not_true, not_false_iff, if_true, if_false, and_self, and_false, false_and, or_true, true_or, or_self, z01, z10, zle8, Nat.reduceAdd, Nat.reduceLeDiff]
  refine law_op (both_onEdge h) (fun x u1 f1 z1 => ?_)
  have j2 := f1.is g2
  have e1 := f1.2.2
  have e2 : xN u1 2000000 = xN u 2000000 := f1.n
  simp only [q0_679, q0_680, q0_681, q0_683, q0_684, q0_685, q0_686, q0_687, q0_689, q0_690, q0_691, q0_692, q0_693, q0_695, q0_696, q0_697, q0_698, q0_699, q0_701, q0_702, q0_703, q0_704, j2, e1, e2, b1, b2, b3, b4, b5, b6, b7, true_and, and_true, Option.some.injEq, exists_eq_left', Option.toList_some, Option.toList_none, List.cons_append, List.nil_append, xcat_nil, xcat_int, xcat_ref, xcat_long, not_true, not_false_iff, if_true, if_false, and_self, and_false, false_and, or_true, true_or, or_self, z01, z10, zle8, Nat.reduceAdd, Nat.reduceLeDiff]
  refine zl_of (z1.mono (fun r u2 z => ?_))
  obtain ⟨rfl, f2, i2⟩ := z
  simp only [q0_707, true_and, and_true, Option.some.injEq, exists_eq_left', Option.toList_some, Option.toList_none, List.cons_append, List.nil_append, xcat_nil, xcat_int, xcat_ref, xcat_long, not_true, not_false_iff, if_true, if_false, and_self, and_false, false_and, or_true, true_or, or_self, z01, z10, zle8, Nat.reduceAdd, Nat.reduceLeDiff]
  exact hn u2 f2 i2
theorem law_12 (hI : Inv u) (b1 : xinb (i + 1) (xN u 2000000)) (b2 : xinb (i + 2) (xN u 2000000)) (b3 : xinb (i + 3) (xN u 2000000)) (b4 : xinb (i + 4) (xN u 2000000)) (b5 : xinb (i + 5) (xN u 2000000)) (b6 : xinb (i + 6) (xN u 2000000)) (b7 : xinb (i + 7) (xN u 2000000)) (hn : ∀ u2, Fr u u2 → Inv u2 → zl I 0 2238 [.ref 2000000, .ref 0, .ref 278, .ref 295, .int i, v5, v6] [] u2 P) : zl I 0 712 [.ref 2000000, .ref 0, .ref 278, .ref 295, .int i, v5, v6] [] u P := by
  obtain ⟨hT, D, E, s, nl, np, nb, nc, nr, nh, nk, n, nf, na, f, op, h⟩ := hI
  have g1 := h.sp.1
  have g2 : xIs u 278 11 := h.1.2.2.2.2.2.2.2.2.2.1.1
  simp only [q0_712, q0_713, q0_714, q0_716, q0_717, q0_718, q0_719, q0_720, q0_722, q0_723, q0_724, q0_725, g1, b1, b2, b3, b4, b5, b6, b7, true_and, and_true, Option.some.injEq, exists_eq_left', Option.toList_some, Option.toList_none, List.cons_append, List.nil_append, xcat_nil, xcat_int, xcat_ref, xcat_long, not_true, not_false_iff, if_true, if_false, and_self, and_false, false_and, or_true, true_or, or_self, z01, z10, zle8, Nat.reduceAdd, Nat.reduceLeDiff]
  refine law_op (both_nextMove h) (fun x u1 f1 z1 => ?_)
  have j2 := f1.is g2
  have e1 := f1.2.2
  have e2 : xN u1 2000000 = xN u 2000000 := f1.n
  simp only [q0_728, q0_729, q0_730, q0_732, q0_733, q0_734, q0_735, q0_736, q0_738, q0_739, q0_740, q0_741, j2, e1, e2, b1, b2, b3, b4, b5, b6, b7, true_and, and_true, Option.some.injEq, exists_eq_left', Option.toList_some, Option.toList_none, List.cons_append, List.nil_append, xcat_nil, xcat_int, xcat_ref, xcat_long, not_true, not_false_iff, if_true, if_false, and_self, and_false, false_and, or_true, true_or, or_self, z01, z10, zle8, Nat.reduceAdd, Nat.reduceLeDiff]
  refine zl_of (z1.mono (fun r u2 z => ?_))
  obtain ⟨rfl, f2, i2⟩ := z
  simp only [q0_744, true_and, and_true, Option.some.injEq, exists_eq_left', Option.toList_some, Option.toList_none, List.cons_append, List.nil_append, xcat_nil, xcat_int, xcat_ref, xcat_long, not_true, not_false_iff, if_true, if_false, and_self, and_false, false_and, or_true, true_or, or_self, z01, z10, zle8, Nat.reduceAdd, Nat.reduceLeDiff]
  exact hn u2 f2 i2
theorem law_13 (hI : Inv u) (b1 : xinb (i + 1) (xN u 2000000)) (b2 : xinb (i + 2) (xN u 2000000)) (b3 : xinb (i + 3) (xN u 2000000)) (b4 : xinb (i + 4) (xN u 2000000)) (b5 : xinb (i + 5) (xN u 2000000)) (b6 : xinb (i + 6) (xN u 2000000)) (b7 : xinb (i + 7) (xN u 2000000)) (hn : ∀ u2, Fr u u2 → Inv u2 → zl I 0 2238 [.ref 2000000, .ref 0, .ref 278, .ref 295, .int i, v5, v6] [] u2 P) : zl I 0 749 [.ref 2000000, .ref 0, .ref 278, .ref 295, .int i, v5, v6] [] u P := by
  obtain ⟨hT, D, E, s, nl, np, nb, nc, nr, nh, nk, n, nf, na, f, op, h⟩ := hI
  have g1 := h.sp.1
  have g2 : xIs u 278 11 := h.1.2.2.2.2.2.2.2.2.2.1.1
  simp only [q0_749, q0_750, q0_751, q0_753, q0_754, q0_755, q0_756, q0_757, q0_759, q0_760, q0_761, q0_762, q0_763, q0_765, q0_766, q0_767, q0_768, q0_769, q0_771, q0_772, q0_773, q0_774, g1, b1, b2, b3, b4, b5, b6, b7, true_and, and_true, Option.some.injEq, exists_eq_left', Option.toList_some, Option.toList_none, List.cons_append, List.nil_append, xcat_nil, xcat_int, xcat_ref, xcat_long, not_true, not_false_iff, if_true, if_false, and_self, and_false, false_and, or_true, true_or, or_self, z01, z10, zle8, Nat.reduceAdd, Nat.reduceLeDiff]
  refine law_op (both_settled h) (fun x u1 f1 z1 => ?_)
  have j2 := f1.is g2
  have e1 := f1.2.2
  have e2 : xN u1 2000000 = xN u 2000000 := f1.n
  simp only [q0_777, q0_778, q0_779, q0_781, q0_782, q0_783, q0_784, q0_785, q0_787, q0_788, q0_789, q0_790, q0_791, q0_793, q0_794, q0_795, q0_796, q0_797, q0_799, q0_800, q0_801, q0_802, j2, e1, e2, b1, b2, b3, b4, b5, b6, b7, true_and, and_true, Option.some.injEq, exists_eq_left', Option.toList_some, Option.toList_none, List.cons_append, List.nil_append, xcat_nil, xcat_int, xcat_ref, xcat_long, not_true, not_false_iff, if_true, if_false, and_self, and_false, false_and, or_true, true_or, or_self, z01, z10, zle8, Nat.reduceAdd, Nat.reduceLeDiff]
  refine zl_of (z1.mono (fun r u2 z => ?_))
  obtain ⟨rfl, f2, i2⟩ := z
  simp only [q0_805, true_and, and_true, Option.some.injEq, exists_eq_left', Option.toList_some, Option.toList_none, List.cons_append, List.nil_append, xcat_nil, xcat_int, xcat_ref, xcat_long, not_true, not_false_iff, if_true, if_false, and_self, and_false, false_and, or_true, true_or, or_self, z01, z10, zle8, Nat.reduceAdd, Nat.reduceLeDiff]
  exact hn u2 f2 i2
theorem law_14 (hI : Inv u) (b1 : xinb (i + 1) (xN u 2000000)) (b2 : xinb (i + 2) (xN u 2000000)) (b3 : xinb (i + 3) (xN u 2000000)) (b4 : xinb (i + 4) (xN u 2000000)) (b5 : xinb (i + 5) (xN u 2000000)) (b6 : xinb (i + 6) (xN u 2000000)) (b7 : xinb (i + 7) (xN u 2000000)) (hn : ∀ u2, Fr u u2 → Inv u2 → zl I 0 2238 [.ref 2000000, .ref 0, .ref 278, .ref 295, .int i, v5, v6] [] u2 P) : zl I 0 810 [.ref 2000000, .ref 0, .ref 278, .ref 295, .int i, v5, v6] [] u P := by
  obtain ⟨hT, D, E, s, nl, np, nb, nc, nr, nh, nk, n, nf, na, f, op, h⟩ := hI
  have g1 := h.sp.1
  have g2 : xIs u 278 11 := h.1.2.2.2.2.2.2.2.2.2.1.1
  simp only [q0_810, q0_811, q0_812, q0_814, q0_815, q0_816, q0_817, q0_818, q0_820, q0_821, q0_822, q0_823, q0_824, q0_826, q0_827, q0_828, q0_829, g1, b1, b2, b3, b4, b5, b6, b7, true_and, and_true, Option.some.injEq, exists_eq_left', Option.toList_some, Option.toList_none, List.cons_append, List.nil_append, xcat_nil, xcat_int, xcat_ref, xcat_long, not_true, not_false_iff, if_true, if_false, and_self, and_false, false_and, or_true, true_or, or_self, z01, z10, zle8, Nat.reduceAdd, Nat.reduceLeDiff]
  refine law_op (both_stack h) (fun x u1 f1 z1 => ?_)
  have j2 := f1.is g2
  have e1 := f1.2.2
  have e2 : xN u1 2000000 = xN u 2000000 := f1.n
  simp only [q0_832, q0_833, q0_834, q0_836, q0_837, q0_838, q0_839, q0_840, q0_842, q0_843, q0_844, q0_845, q0_846, q0_848, q0_849, q0_850, q0_851, j2, e1, e2, b1, b2, b3, b4, b5, b6, b7, true_and, and_true, Option.some.injEq, exists_eq_left', Option.toList_some, Option.toList_none, List.cons_append, List.nil_append, xcat_nil, xcat_int, xcat_ref, xcat_long, not_true, not_false_iff, if_true, if_false, and_self, and_false, false_and, or_true, true_or, or_self, z01, z10, zle8, Nat.reduceAdd, Nat.reduceLeDiff]
  refine zl_of (z1.mono (fun r u2 z => ?_))
  obtain ⟨rfl, f2, i2⟩ := z
  simp only [q0_854, true_and, and_true, Option.some.injEq, exists_eq_left', Option.toList_some, Option.toList_none, List.cons_append, List.nil_append, xcat_nil, xcat_int, xcat_ref, xcat_long, not_true, not_false_iff, if_true, if_false, and_self, and_false, false_and, or_true, true_or, or_self, z01, z10, zle8, Nat.reduceAdd, Nat.reduceLeDiff]
  exact hn u2 f2 i2
theorem law_15 (hI : Inv u) (b1 : xinb (i + 1) (xN u 2000000)) (b2 : xinb (i + 2) (xN u 2000000)) (b3 : xinb (i + 3) (xN u 2000000)) (b4 : xinb (i + 4) (xN u 2000000)) (b5 : xinb (i + 5) (xN u 2000000)) (b6 : xinb (i + 6) (xN u 2000000)) (b7 : xinb (i + 7) (xN u 2000000)) (hn : ∀ u2, Fr u u2 → Inv u2 → zl I 0 2238 [.ref 2000000, .ref 0, .ref 278, .ref 295, .int i, v5, v6] [] u2 P) : zl I 0 859 [.ref 2000000, .ref 0, .ref 278, .ref 295, .int i, v5, v6] [] u P := by
  obtain ⟨hT, D, E, s, nl, np, nb, nc, nr, nh, nk, n, nf, na, f, op, h⟩ := hI
  have g1 := h.sp.1
  have g2 : xIs u 278 11 := h.1.2.2.2.2.2.2.2.2.2.1.1
  simp only [q0_859, q0_860, q0_861, q0_863, q0_864, q0_865, q0_866, q0_867, q0_869, q0_870, q0_871, q0_872, q0_873, q0_875, q0_876, q0_877, q0_878, q0_879, q0_881, q0_882, q0_883, q0_884, g1, b1, b2, b3, b4, b5, b6, b7, true_and, and_true, Option.some.injEq, exists_eq_left', Option.toList_some, Option.toList_none, List.cons_append, List.nil_append, xcat_nil, xcat_int, xcat_ref, xcat_long, not_true, not_false_iff, if_true, if_false, and_self, and_false, false_and, or_true, true_or, or_self, z01, z10, zle8, Nat.reduceAdd, Nat.reduceLeDiff]
  refine law_op (both_stackAt h) (fun x u1 f1 z1 => ?_)
  have j2 := f1.is g2
  have e1 := f1.2.2
  have e2 : xN u1 2000000 = xN u 2000000 := f1.n
  simp only [q0_887, q0_888, q0_889, q0_891, q0_892, q0_893, q0_894, q0_895, q0_897, q0_898, q0_899, q0_900, q0_901, q0_903, q0_904, q0_905, q0_906, q0_907, q0_909, q0_910, q0_911, q0_912, j2, e1, e2, b1, b2, b3, b4, b5, b6, b7, true_and, and_true, Option.some.injEq, exists_eq_left', Option.toList_some, Option.toList_none, List.cons_append, List.nil_append, xcat_nil, xcat_int, xcat_ref, xcat_long, not_true, not_false_iff, if_true, if_false, and_self, and_false, false_and, or_true, true_or, or_self, z01, z10, zle8, Nat.reduceAdd, Nat.reduceLeDiff]
  refine zl_of (z1.mono (fun r u2 z => ?_))
  obtain ⟨rfl, f2, i2⟩ := z
  simp only [q0_915, true_and, and_true, Option.some.injEq, exists_eq_left', Option.toList_some, Option.toList_none, List.cons_append, List.nil_append, xcat_nil, xcat_int, xcat_ref, xcat_long, not_true, not_false_iff, if_true, if_false, and_self, and_false, false_and, or_true, true_or, or_self, z01, z10, zle8, Nat.reduceAdd, Nat.reduceLeDiff]
  exact hn u2 f2 i2
theorem law_16 (hI : Inv u) (b1 : xinb (i + 1) (xN u 2000000)) (b2 : xinb (i + 2) (xN u 2000000)) (b3 : xinb (i + 3) (xN u 2000000)) (b4 : xinb (i + 4) (xN u 2000000)) (b5 : xinb (i + 5) (xN u 2000000)) (b6 : xinb (i + 6) (xN u 2000000)) (b7 : xinb (i + 7) (xN u 2000000)) (hn : ∀ u2, Fr u u2 → Inv u2 → zl I 0 2238 [.ref 2000000, .ref 0, .ref 278, .ref 295, .int i, v5, v6] [] u2 P) : zl I 0 920 [.ref 2000000, .ref 0, .ref 278, .ref 295, .int i, v5, v6] [] u P := by
  obtain ⟨hT, D, E, s, nl, np, nb, nc, nr, nh, nk, n, nf, na, f, op, h⟩ := hI
  have g1 := h.sp.1
  have g2 : xIs u 278 11 := h.1.2.2.2.2.2.2.2.2.2.1.1
  simp only [q0_920, q0_921, q0_922, q0_924, q0_925, q0_926, q0_927, q0_928, q0_930, q0_931, q0_932, q0_933, q0_934, q0_936, q0_937, q0_938, q0_939, g1, b1, b2, b3, b4, b5, b6, b7, true_and, and_true, Option.some.injEq, exists_eq_left', Option.toList_some, Option.toList_none, List.cons_append, List.nil_append, xcat_nil, xcat_int, xcat_ref, xcat_long, not_true, not_false_iff, if_true, if_false, and_self, and_false, false_and, or_true, true_or, or_self, z01, z10, zle8, Nat.reduceAdd, Nat.reduceLeDiff]
  refine law_op (both_nextStack h) (fun x u1 f1 z1 => ?_)
  have j2 := f1.is g2
  have e1 := f1.2.2
  have e2 : xN u1 2000000 = xN u 2000000 := f1.n
  simp only [q0_942, q0_943, q0_944, q0_946, q0_947, q0_948, q0_949, q0_950, q0_952, q0_953, q0_954, q0_955, q0_956, q0_958, q0_959, q0_960, q0_961, j2, e1, e2, b1, b2, b3, b4, b5, b6, b7, true_and, and_true, Option.some.injEq, exists_eq_left', Option.toList_some, Option.toList_none, List.cons_append, List.nil_append, xcat_nil, xcat_int, xcat_ref, xcat_long, not_true, not_false_iff, if_true, if_false, and_self, and_false, false_and, or_true, true_or, or_self, z01, z10, zle8, Nat.reduceAdd, Nat.reduceLeDiff]
  refine zl_of (z1.mono (fun r u2 z => ?_))
  obtain ⟨rfl, f2, i2⟩ := z
  simp only [q0_964, true_and, and_true, Option.some.injEq, exists_eq_left', Option.toList_some, Option.toList_none, List.cons_append, List.nil_append, xcat_nil, xcat_int, xcat_ref, xcat_long, not_true, not_false_iff, if_true, if_false, and_self, and_false, false_and, or_true, true_or, or_self, z01, z10, zle8, Nat.reduceAdd, Nat.reduceLeDiff]
  exact hn u2 f2 i2
theorem law_17 (hI : Inv u) (b1 : xinb (i + 1) (xN u 2000000)) (b2 : xinb (i + 2) (xN u 2000000)) (b3 : xinb (i + 3) (xN u 2000000)) (b4 : xinb (i + 4) (xN u 2000000)) (b5 : xinb (i + 5) (xN u 2000000)) (b6 : xinb (i + 6) (xN u 2000000)) (b7 : xinb (i + 7) (xN u 2000000)) (hn : ∀ u2, Fr u u2 → Inv u2 → zl I 0 2238 [.ref 2000000, .ref 0, .ref 278, .ref 295, .int i, v5, v6] [] u2 P) : zl I 0 969 [.ref 2000000, .ref 0, .ref 278, .ref 295, .int i, v5, v6] [] u P := by
  obtain ⟨hT, D, E, s, nl, np, nb, nc, nr, nh, nk, n, nf, na, f, op, h⟩ := hI
  have g1 := h.sp.1
  have g2 : xIs u 278 11 := h.1.2.2.2.2.2.2.2.2.2.1.1
  simp only [q0_969, q0_970, q0_971, q0_973, q0_974, q0_975, q0_976, q0_977, q0_979, q0_980, q0_981, q0_982, q0_983, q0_985, q0_986, q0_987, q0_988, g1, b1, b2, b3, b4, b5, b6, b7, true_and, and_true, Option.some.injEq, exists_eq_left', Option.toList_some, Option.toList_none, List.cons_append, List.nil_append, xcat_nil, xcat_int, xcat_ref, xcat_long, not_true, not_false_iff, if_true, if_false, and_self, and_false, false_and, or_true, true_or, or_self, z01, z10, zle8, Nat.reduceAdd, Nat.reduceLeDiff]
  refine law_op (both_overlap h) (fun x u1 f1 z1 => ?_)
  have j2 := f1.is g2
  have e1 := f1.2.2
  have e2 : xN u1 2000000 = xN u 2000000 := f1.n
  simp only [q0_991, q0_992, q0_993, q0_995, q0_996, q0_997, q0_998, q0_999, q0_1001, q0_1002, q0_1003, q0_1004, q0_1005, q0_1007, q0_1008, q0_1009, q0_1010, j2, e1, e2, b1, b2, b3, b4, b5, b6, b7, true_and, and_true, Option.some.injEq, exists_eq_left', Option.toList_some, Option.toList_none, List.cons_append, List.nil_append, xcat_nil, xcat_int, xcat_ref, xcat_long, not_true, not_false_iff, if_true, if_false, and_self, and_false, false_and, or_true, true_or, or_self, z01, z10, zle8, Nat.reduceAdd, Nat.reduceLeDiff]
  refine zl_of (z1.mono (fun r u2 z => ?_))
  obtain ⟨rfl, f2, i2⟩ := z
  simp only [q0_1013, true_and, and_true, Option.some.injEq, exists_eq_left', Option.toList_some, Option.toList_none, List.cons_append, List.nil_append, xcat_nil, xcat_int, xcat_ref, xcat_long, not_true, not_false_iff, if_true, if_false, and_self, and_false, false_and, or_true, true_or, or_self, z01, z10, zle8, Nat.reduceAdd, Nat.reduceLeDiff]
  exact hn u2 f2 i2
theorem law_18 (hI : Inv u) (b1 : xinb (i + 1) (xN u 2000000)) (b2 : xinb (i + 2) (xN u 2000000)) (b3 : xinb (i + 3) (xN u 2000000)) (b4 : xinb (i + 4) (xN u 2000000)) (b5 : xinb (i + 5) (xN u 2000000)) (b6 : xinb (i + 6) (xN u 2000000)) (b7 : xinb (i + 7) (xN u 2000000)) (hn : ∀ u2, Fr u u2 → Inv u2 → zl I 0 2238 [.ref 2000000, .ref 0, .ref 278, .ref 295, .int i, v5, v6] [] u2 P) : zl I 0 1018 [.ref 2000000, .ref 0, .ref 278, .ref 295, .int i, v5, v6] [] u P := by
  obtain ⟨hT, D, E, s, nl, np, nb, nc, nr, nh, nk, n, nf, na, f, op, h⟩ := hI
  have g1 := h.sp.1
  have g2 : xIs u 278 11 := h.1.2.2.2.2.2.2.2.2.2.1.1
  simp only [q0_1018, q0_1019, q0_1020, q0_1022, q0_1023, q0_1024, q0_1025, q0_1026, q0_1028, q0_1029, q0_1030, q0_1031, g1, b1, b2, b3, b4, b5, b6, b7, true_and, and_true, Option.some.injEq, exists_eq_left', Option.toList_some, Option.toList_none, List.cons_append, List.nil_append, xcat_nil, xcat_int, xcat_ref, xcat_long, not_true, not_false_iff, if_true, if_false, and_self, and_false, false_and, or_true, true_or, or_self, z01, z10, zle8, Nat.reduceAdd, Nat.reduceLeDiff]
  refine law_op (both_points h) (fun x u1 f1 z1 => ?_)
  have j2 := f1.is g2
  have e1 := f1.2.2
  have e2 : xN u1 2000000 = xN u 2000000 := f1.n
  simp only [q0_1034, q0_1035, q0_1036, q0_1038, q0_1039, q0_1040, q0_1041, q0_1042, q0_1044, q0_1045, q0_1046, q0_1047, j2, e1, e2, b1, b2, b3, b4, b5, b6, b7, true_and, and_true, Option.some.injEq, exists_eq_left', Option.toList_some, Option.toList_none, List.cons_append, List.nil_append, xcat_nil, xcat_int, xcat_ref, xcat_long, not_true, not_false_iff, if_true, if_false, and_self, and_false, false_and, or_true, true_or, or_self, z01, z10, zle8, Nat.reduceAdd, Nat.reduceLeDiff]
  refine zl_of (z1.mono (fun r u2 z => ?_))
  obtain ⟨rfl, f2, i2⟩ := z
  simp only [q0_1050, true_and, and_true, Option.some.injEq, exists_eq_left', Option.toList_some, Option.toList_none, List.cons_append, List.nil_append, xcat_nil, xcat_int, xcat_ref, xcat_long, not_true, not_false_iff, if_true, if_false, and_self, and_false, false_and, or_true, true_or, or_self, z01, z10, zle8, Nat.reduceAdd, Nat.reduceLeDiff]
  exact hn u2 f2 i2
theorem law_19 (hI : Inv u) (b1 : xinb (i + 1) (xN u 2000000)) (b2 : xinb (i + 2) (xN u 2000000)) (b3 : xinb (i + 3) (xN u 2000000)) (b4 : xinb (i + 4) (xN u 2000000)) (b5 : xinb (i + 5) (xN u 2000000)) (b6 : xinb (i + 6) (xN u 2000000)) (b7 : xinb (i + 7) (xN u 2000000)) (hn : ∀ u2, Fr u u2 → Inv u2 → zl I 0 2238 [.ref 2000000, .ref 0, .ref 278, .ref 295, .int i, v5, v6] [] u2 P) : zl I 0 1055 [.ref 2000000, .ref 0, .ref 278, .ref 295, .int i, v5, v6] [] u P := by
  obtain ⟨hT, D, E, s, nl, np, nb, nc, nr, nh, nk, n, nf, na, f, op, h⟩ := hI
  have g1 := h.sp.1
  have g2 : xIs u 278 11 := h.1.2.2.2.2.2.2.2.2.2.1.1
  simp only [q0_1055, q0_1056, q0_1057, q0_1059, q0_1060, q0_1061, q0_1062, q0_1063, q0_1065, q0_1066, q0_1067, q0_1068, g1, b1, b2, b3, b4, b5, b6, b7, true_and, and_true, Option.some.injEq, exists_eq_left', Option.toList_some, Option.toList_none, List.cons_append, List.nil_append, xcat_nil, xcat_int, xcat_ref, xcat_long, not_true, not_false_iff, if_true, if_false, and_self, and_false, false_and, or_true, true_or, or_self, z01, z10, zle8, Nat.reduceAdd, Nat.reduceLeDiff]
  refine law_op (both_stacked h) (fun x u1 f1 z1 => ?_)
  have j2 := f1.is g2
  have e1 := f1.2.2
  have e2 : xN u1 2000000 = xN u 2000000 := f1.n
  simp only [q0_1071, q0_1072, q0_1073, q0_1075, q0_1076, q0_1077, q0_1078, q0_1079, q0_1081, q0_1082, q0_1083, q0_1084, j2, e1, e2, b1, b2, b3, b4, b5, b6, b7, true_and, and_true, Option.some.injEq, exists_eq_left', Option.toList_some, Option.toList_none, List.cons_append, List.nil_append, xcat_nil, xcat_int, xcat_ref, xcat_long, not_true, not_false_iff, if_true, if_false, and_self, and_false, false_and, or_true, true_or, or_self, z01, z10, zle8, Nat.reduceAdd, Nat.reduceLeDiff]
  refine zl_of (z1.mono (fun r u2 z => ?_))
  obtain ⟨rfl, f2, i2⟩ := z
  simp only [q0_1087, true_and, and_true, Option.some.injEq, exists_eq_left', Option.toList_some, Option.toList_none, List.cons_append, List.nil_append, xcat_nil, xcat_int, xcat_ref, xcat_long, not_true, not_false_iff, if_true, if_false, and_self, and_false, false_and, or_true, true_or, or_self, z01, z10, zle8, Nat.reduceAdd, Nat.reduceLeDiff]
  exact hn u2 f2 i2
theorem law_20 (hI : Inv u) (b1 : xinb (i + 1) (xN u 2000000)) (b2 : xinb (i + 2) (xN u 2000000)) (b3 : xinb (i + 3) (xN u 2000000)) (b4 : xinb (i + 4) (xN u 2000000)) (b5 : xinb (i + 5) (xN u 2000000)) (b6 : xinb (i + 6) (xN u 2000000)) (b7 : xinb (i + 7) (xN u 2000000)) (hn : ∀ u2, Fr u u2 → Inv u2 → zl I 0 2238 [.ref 2000000, .ref 0, .ref 278, .ref 295, .int i, v5, v6] [] u2 P) : zl I 0 1092 [.ref 2000000, .ref 0, .ref 278, .ref 295, .int i, v5, v6] [] u P := by
  obtain ⟨hT, D, E, s, nl, np, nb, nc, nr, nh, nk, n, nf, na, f, op, h⟩ := hI
  have g1 := h.sp.1
  have g2 : xIs u 278 11 := h.1.2.2.2.2.2.2.2.2.2.1.1
  simp only [q0_1092, q0_1093, q0_1094, q0_1096, q0_1097, q0_1098, q0_1099, q0_1100, q0_1102, q0_1103, q0_1104, q0_1105, q0_1106, q0_1108, q0_1109, q0_1110, q0_1111, g1, b1, b2, b3, b4, b5, b6, b7, true_and, and_true, Option.some.injEq, exists_eq_left', Option.toList_some, Option.toList_none, List.cons_append, List.nil_append, xcat_nil, xcat_int, xcat_ref, xcat_long, not_true, not_false_iff, if_true, if_false, and_self, and_false, false_and, or_true, true_or, or_self, z01, z10, zle8, Nat.reduceAdd, Nat.reduceLeDiff]
  refine law_op (both_rate h) (fun x u1 f1 z1 => ?_)
  have j2 := f1.is g2
  have e1 := f1.2.2
  have e2 : xN u1 2000000 = xN u 2000000 := f1.n
  simp only [q0_1114, q0_1115, q0_1116, q0_1118, q0_1119, q0_1120, q0_1121, q0_1122, q0_1124, q0_1125, q0_1126, q0_1127, q0_1128, q0_1130, q0_1131, q0_1132, q0_1133, j2, e1, e2, b1, b2, b3, b4, b5, b6, b7, true_and, and_true, Option.some.injEq, exists_eq_left', Option.toList_some, Option.toList_none, List.cons_append, List.nil_append, xcat_nil, xcat_int, xcat_ref, xcat_long, not_true, not_false_iff, if_true, if_false, and_self, and_false, false_and, or_true, true_or, or_self, z01, z10, zle8, Nat.reduceAdd, Nat.reduceLeDiff]
  refine zl_of (z1.mono (fun r u2 z => ?_))
  obtain ⟨rfl, f2, i2⟩ := z
  simp only [q0_1136, true_and, and_true, Option.some.injEq, exists_eq_left', Option.toList_some, Option.toList_none, List.cons_append, List.nil_append, xcat_nil, xcat_int, xcat_ref, xcat_long, not_true, not_false_iff, if_true, if_false, and_self, and_false, false_and, or_true, true_or, or_self, z01, z10, zle8, Nat.reduceAdd, Nat.reduceLeDiff]
  exact hn u2 f2 i2
theorem law_21 (hI : Inv u) (b1 : xinb (i + 1) (xN u 2000000)) (b2 : xinb (i + 2) (xN u 2000000)) (b3 : xinb (i + 3) (xN u 2000000)) (b4 : xinb (i + 4) (xN u 2000000)) (b5 : xinb (i + 5) (xN u 2000000)) (b6 : xinb (i + 6) (xN u 2000000)) (b7 : xinb (i + 7) (xN u 2000000)) (hn : ∀ u2, Fr u u2 → Inv u2 → zl I 0 2238 [.ref 2000000, .ref 0, .ref 278, .ref 295, .int i, v5, v6] [] u2 P) : zl I 0 1141 [.ref 2000000, .ref 0, .ref 278, .ref 295, .int i, v5, v6] [] u P := by
  obtain ⟨hT, D, E, s, nl, np, nb, nc, nr, nh, nk, n, nf, na, f, op, h⟩ := hI
  have g1 := h.sp.1
  have g2 : xIs u 278 11 := h.1.2.2.2.2.2.2.2.2.2.1.1
  simp only [q0_1141, q0_1142, q0_1143, q0_1145, q0_1146, q0_1147, q0_1148, q0_1149, q0_1151, q0_1152, q0_1153, q0_1154, q0_1155, q0_1157, q0_1158, q0_1159, q0_1160, q0_1161, q0_1163, q0_1164, q0_1165, q0_1166, g1, b1, b2, b3, b4, b5, b6, b7, true_and, and_true, Option.some.injEq, exists_eq_left', Option.toList_some, Option.toList_none, List.cons_append, List.nil_append, xcat_nil, xcat_int, xcat_ref, xcat_long, not_true, not_false_iff, if_true, if_false, and_self, and_false, false_and, or_true, true_or, or_self, z01, z10, zle8, Nat.reduceAdd, Nat.reduceLeDiff]
  refine law_op (both_free h) (fun x u1 f1 z1 => ?_)
  have j2 := f1.is g2
  have e1 := f1.2.2
  have e2 : xN u1 2000000 = xN u 2000000 := f1.n
  simp only [q0_1169, q0_1170, q0_1171, q0_1173, q0_1174, q0_1175, q0_1176, q0_1177, q0_1179, q0_1180, q0_1181, q0_1182, q0_1183, q0_1185, q0_1186, q0_1187, q0_1188, q0_1189, q0_1191, q0_1192, q0_1193, q0_1194, j2, e1, e2, b1, b2, b3, b4, b5, b6, b7, true_and, and_true, Option.some.injEq, exists_eq_left', Option.toList_some, Option.toList_none, List.cons_append, List.nil_append, xcat_nil, xcat_int, xcat_ref, xcat_long, not_true, not_false_iff, if_true, if_false, and_self, and_false, false_and, or_true, true_or, or_self, z01, z10, zle8, Nat.reduceAdd, Nat.reduceLeDiff]
  refine zl_of (z1.mono (fun r u2 z => ?_))
  obtain ⟨rfl, f2, i2⟩ := z
  simp only [q0_1197, true_and, and_true, Option.some.injEq, exists_eq_left', Option.toList_some, Option.toList_none, List.cons_append, List.nil_append, xcat_nil, xcat_int, xcat_ref, xcat_long, not_true, not_false_iff, if_true, if_false, and_self, and_false, false_and, or_true, true_or, or_self, z01, z10, zle8, Nat.reduceAdd, Nat.reduceLeDiff]
  exact hn u2 f2 i2
theorem law_22 (hI : Inv u) (b1 : xinb (i + 1) (xN u 2000000)) (b2 : xinb (i + 2) (xN u 2000000)) (b3 : xinb (i + 3) (xN u 2000000)) (b4 : xinb (i + 4) (xN u 2000000)) (b5 : xinb (i + 5) (xN u 2000000)) (b6 : xinb (i + 6) (xN u 2000000)) (b7 : xinb (i + 7) (xN u 2000000)) (hn : ∀ u2, Fr u u2 → Inv u2 → zl I 0 2238 [.ref 2000000, .ref 0, .ref 278, .ref 295, .int i, v5, v6] [] u2 P) : zl I 0 1202 [.ref 2000000, .ref 0, .ref 278, .ref 295, .int i, v5, v6] [] u P := by
  obtain ⟨hT, D, E, s, nl, np, nb, nc, nr, nh, nk, n, nf, na, f, op, h⟩ := hI
  have g1 := h.sp.1
  have g2 : xIs u 278 11 := h.1.2.2.2.2.2.2.2.2.2.1.1
  simp only [q0_1202, q0_1203, q0_1204, q0_1206, q0_1207, q0_1208, q0_1209, q0_1210, q0_1212, q0_1213, q0_1214, q0_1215, g1, b1, b2, b3, b4, b5, b6, b7, true_and, and_true, Option.some.injEq, exists_eq_left', Option.toList_some, Option.toList_none, List.cons_append, List.nil_append, xcat_nil, xcat_int, xcat_ref, xcat_long, not_true, not_false_iff, if_true, if_false, and_self, and_false, false_and, or_true, true_or, or_self, z01, z10, zle8, Nat.reduceAdd, Nat.reduceLeDiff]
  refine law_op (both_cap h) (fun x u1 f1 z1 => ?_)
  have j2 := f1.is g2
  have e1 := f1.2.2
  have e2 : xN u1 2000000 = xN u 2000000 := f1.n
  simp only [q0_1218, q0_1219, q0_1220, q0_1222, q0_1223, q0_1224, q0_1225, q0_1226, q0_1228, q0_1229, q0_1230, q0_1231, j2, e1, e2, b1, b2, b3, b4, b5, b6, b7, true_and, and_true, Option.some.injEq, exists_eq_left', Option.toList_some, Option.toList_none, List.cons_append, List.nil_append, xcat_nil, xcat_int, xcat_ref, xcat_long, not_true, not_false_iff, if_true, if_false, and_self, and_false, false_and, or_true, true_or, or_self, z01, z10, zle8, Nat.reduceAdd, Nat.reduceLeDiff]
  refine zl_of (z1.mono (fun r u2 z => ?_))
  obtain ⟨rfl, f2, i2⟩ := z
  simp only [q0_1234, true_and, and_true, Option.some.injEq, exists_eq_left', Option.toList_some, Option.toList_none, List.cons_append, List.nil_append, xcat_nil, xcat_int, xcat_ref, xcat_long, not_true, not_false_iff, if_true, if_false, and_self, and_false, false_and, or_true, true_or, or_self, z01, z10, zle8, Nat.reduceAdd, Nat.reduceLeDiff]
  exact hn u2 f2 i2
theorem law_23 (hI : Inv u) (b1 : xinb (i + 1) (xN u 2000000)) (b2 : xinb (i + 2) (xN u 2000000)) (b3 : xinb (i + 3) (xN u 2000000)) (b4 : xinb (i + 4) (xN u 2000000)) (b5 : xinb (i + 5) (xN u 2000000)) (b6 : xinb (i + 6) (xN u 2000000)) (b7 : xinb (i + 7) (xN u 2000000)) (hn : ∀ u2, Fr u u2 → Inv u2 → zl I 0 2238 [.ref 2000000, .ref 0, .ref 278, .ref 295, .int i, v5, v6] [] u2 P) : zl I 0 1239 [.ref 2000000, .ref 0, .ref 278, .ref 295, .int i, v5, v6] [] u P := by
  obtain ⟨hT, D, E, s, nl, np, nb, nc, nr, nh, nk, n, nf, na, f, op, h⟩ := hI
  have g1 := h.sp.1
  have g2 : xIs u 278 11 := h.1.2.2.2.2.2.2.2.2.2.1.1
  simp only [q0_1239, q0_1240, q0_1241, q0_1243, q0_1244, q0_1245, q0_1246, q0_1247, q0_1249, q0_1250, q0_1251, q0_1252, q0_1253, q0_1255, q0_1256, q0_1257, q0_1258, q0_1259, q0_1261, q0_1262, q0_1263, q0_1264, g1, b1, b2, b3, b4, b5, b6, b7, true_and, and_true, Option.some.injEq, exists_eq_left', Option.toList_some, Option.toList_none, List.cons_append, List.nil_append, xcat_nil, xcat_int, xcat_ref, xcat_long, not_true, not_false_iff, if_true, if_false, and_self, and_false, false_and, or_true, true_or, or_self, z01, z10, zle8, Nat.reduceAdd, Nat.reduceLeDiff]
  refine law_op (both_stackRate h) (fun x u1 f1 z1 => ?_)
  have j2 := f1.is g2
  have e1 := f1.2.2
  have e2 : xN u1 2000000 = xN u 2000000 := f1.n
  simp only [q0_1267, q0_1268, q0_1269, q0_1271, q0_1272, q0_1273, q0_1274, q0_1275, q0_1277, q0_1278, q0_1279, q0_1280, q0_1281, q0_1283, q0_1284, q0_1285, q0_1286, q0_1287, q0_1289, q0_1290, q0_1291, q0_1292, j2, e1, e2, b1, b2, b3, b4, b5, b6, b7, true_and, and_true, Option.some.injEq, exists_eq_left', Option.toList_some, Option.toList_none, List.cons_append, List.nil_append, xcat_nil, xcat_int, xcat_ref, xcat_long, not_true, not_false_iff, if_true, if_false, and_self, and_false, false_and, or_true, true_or, or_self, z01, z10, zle8, Nat.reduceAdd, Nat.reduceLeDiff]
  refine zl_of (z1.mono (fun r u2 z => ?_))
  obtain ⟨rfl, f2, i2⟩ := z
  simp only [q0_1295, true_and, and_true, Option.some.injEq, exists_eq_left', Option.toList_some, Option.toList_none, List.cons_append, List.nil_append, xcat_nil, xcat_int, xcat_ref, xcat_long, not_true, not_false_iff, if_true, if_false, and_self, and_false, false_and, or_true, true_or, or_self, z01, z10, zle8, Nat.reduceAdd, Nat.reduceLeDiff]
  exact hn u2 f2 i2
theorem law_24 (hI : Inv u) (b1 : xinb (i + 1) (xN u 2000000)) (b2 : xinb (i + 2) (xN u 2000000)) (b3 : xinb (i + 3) (xN u 2000000)) (b4 : xinb (i + 4) (xN u 2000000)) (b5 : xinb (i + 5) (xN u 2000000)) (b6 : xinb (i + 6) (xN u 2000000)) (b7 : xinb (i + 7) (xN u 2000000)) (hn : ∀ u2, Fr u u2 → Inv u2 → zl I 0 2238 [.ref 2000000, .ref 0, .ref 278, .ref 295, .int i, v5, v6] [] u2 P) : zl I 0 1300 [.ref 2000000, .ref 0, .ref 278, .ref 295, .int i, v5, v6] [] u P := by
  obtain ⟨hT, D, E, s, nl, np, nb, nc, nr, nh, nk, n, nf, na, f, op, h⟩ := hI
  have g1 := h.sp.1
  have g2 : xIs u 278 11 := h.1.2.2.2.2.2.2.2.2.2.1.1
  simp only [q0_1300, q0_1301, q0_1302, q0_1304, q0_1305, q0_1306, q0_1307, q0_1308, q0_1310, q0_1311, q0_1312, q0_1313, g1, b1, b2, b3, b4, b5, b6, b7, true_and, and_true, Option.some.injEq, exists_eq_left', Option.toList_some, Option.toList_none, List.cons_append, List.nil_append, xcat_nil, xcat_int, xcat_ref, xcat_long, not_true, not_false_iff, if_true, if_false, and_self, and_false, false_and, or_true, true_or, or_self, z01, z10, zle8, Nat.reduceAdd, Nat.reduceLeDiff]
  refine law_op (both_cheapest h) (fun x u1 f1 z1 => ?_)
  have j2 := f1.is g2
  have e1 := f1.2.2
  have e2 : xN u1 2000000 = xN u 2000000 := f1.n
  simp only [q0_1316, q0_1317, q0_1318, q0_1320, q0_1321, q0_1322, q0_1323, q0_1324, q0_1326, q0_1327, q0_1328, q0_1329, j2, e1, e2, b1, b2, b3, b4, b5, b6, b7, true_and, and_true, Option.some.injEq, exists_eq_left', Option.toList_some, Option.toList_none, List.cons_append, List.nil_append, xcat_nil, xcat_int, xcat_ref, xcat_long, not_true, not_false_iff, if_true, if_false, and_self, and_false, false_and, or_true, true_or, or_self, z01, z10, zle8, Nat.reduceAdd, Nat.reduceLeDiff]
  refine zl_of (z1.mono (fun r u2 z => ?_))
  obtain ⟨rfl, f2, i2⟩ := z
  simp only [q0_1332, true_and, and_true, Option.some.injEq, exists_eq_left', Option.toList_some, Option.toList_none, List.cons_append, List.nil_append, xcat_nil, xcat_int, xcat_ref, xcat_long, not_true, not_false_iff, if_true, if_false, and_self, and_false, false_and, or_true, true_or, or_self, z01, z10, zle8, Nat.reduceAdd, Nat.reduceLeDiff]
  exact hn u2 f2 i2
theorem law_25 (hI : Inv u) (b1 : xinb (i + 1) (xN u 2000000)) (b2 : xinb (i + 2) (xN u 2000000)) (b3 : xinb (i + 3) (xN u 2000000)) (b4 : xinb (i + 4) (xN u 2000000)) (b5 : xinb (i + 5) (xN u 2000000)) (b6 : xinb (i + 6) (xN u 2000000)) (b7 : xinb (i + 7) (xN u 2000000)) (hn : ∀ u2, Fr u u2 → Inv u2 → zl I 0 2238 [.ref 2000000, .ref 0, .ref 278, .ref 295, .int i, v5, v6] [] u2 P) : zl I 0 1337 [.ref 2000000, .ref 0, .ref 278, .ref 295, .int i, v5, v6] [] u P := by
  obtain ⟨hT, D, E, s, nl, np, nb, nc, nr, nh, nk, n, nf, na, f, op, h⟩ := hI
  have g1 := h.sp.1
  have g2 : xIs u 278 11 := h.1.2.2.2.2.2.2.2.2.2.1.1
  simp only [q0_1337, q0_1338, q0_1339, q0_1341, q0_1342, q0_1343, q0_1344, q0_1345, q0_1347, q0_1348, q0_1349, q0_1350, q0_1351, q0_1353, q0_1354, q0_1355, q0_1356, q0_1357, q0_1359, q0_1360, q0_1361, q0_1362, q0_1363, q0_1365, q0_1366, q0_1367, q0_1368, q0_1369, q0_1371, q0_1373, q0_1374, q0_1375, g1, b1, b2, b3, b4, b5, b6, b7, true_and, and_true, Option.some.injEq, exists_eq_left', Option.toList_some, Option.toList_none, List.cons_append, List.nil_append, xcat_nil, xcat_int, xcat_ref, xcat_long, not_true, not_false_iff, if_true, if_false, and_self, and_false, false_and, or_true, true_or, or_self, z01, z10, zle8, Nat.reduceAdd, Nat.reduceLeDiff]
  refine law_op (both_due h) (fun x u1 f1 z1 => ?_)
  have j2 := f1.is g2
  have e1 := f1.2.2
  have e2 : xN u1 2000000 = xN u 2000000 := f1.n
  simp only [q0_1378, q0_1379, q0_1380, q0_1382, q0_1383, q0_1384, q0_1385, q0_1386, q0_1388, q0_1389, q0_1390, q0_1391, q0_1392, q0_1394, q0_1395, q0_1396, q0_1397, q0_1398, q0_1400, q0_1401, q0_1402, q0_1403, q0_1404, q0_1406, q0_1407, q0_1408, q0_1409, q0_1410, q0_1412, q0_1414, q0_1415, q0_1416, j2, e1, e2, b1, b2, b3, b4, b5, b6, b7, true_and, and_true, Option.some.injEq, exists_eq_left', Option.toList_some, Option.toList_none, List.cons_append, List.nil_append, xcat_nil, xcat_int, xcat_ref, xcat_long, not_true, not_false_iff, if_true, if_false, and_self, and_false, false_and, or_true, true_or, or_self, z01, z10, zle8, Nat.reduceAdd, Nat.reduceLeDiff]
  refine zl_of (z1.mono (fun r u2 z => ?_))
  obtain ⟨rfl, f2, i2⟩ := z
  simp only [q0_1419, true_and, and_true, Option.some.injEq, exists_eq_left', Option.toList_some, Option.toList_none, List.cons_append, List.nil_append, xcat_nil, xcat_int, xcat_ref, xcat_long, not_true, not_false_iff, if_true, if_false, and_self, and_false, false_and, or_true, true_or, or_self, z01, z10, zle8, Nat.reduceAdd, Nat.reduceLeDiff]
  exact hn u2 f2 i2
theorem law_26 (hI : Inv u) (b1 : xinb (i + 1) (xN u 2000000)) (b2 : xinb (i + 2) (xN u 2000000)) (b3 : xinb (i + 3) (xN u 2000000)) (b4 : xinb (i + 4) (xN u 2000000)) (b5 : xinb (i + 5) (xN u 2000000)) (b6 : xinb (i + 6) (xN u 2000000)) (b7 : xinb (i + 7) (xN u 2000000)) (hn : ∀ u2, Fr u u2 → Inv u2 → zl I 0 2238 [.ref 2000000, .ref 0, .ref 278, .ref 295, .int i, v5, v6] [] u2 P) : zl I 0 1424 [.ref 2000000, .ref 0, .ref 278, .ref 295, .int i, v5, v6] [] u P := by
  obtain ⟨hT, D, E, s, nl, np, nb, nc, nr, nh, nk, n, nf, na, f, op, h⟩ := hI
  have g1 := h.sp.1
  have g2 : xIs u 278 11 := h.1.2.2.2.2.2.2.2.2.2.1.1
  simp only [q0_1424, q0_1425, q0_1426, q0_1428, q0_1429, q0_1430, q0_1431, q0_1432, q0_1434, q0_1435, q0_1436, q0_1437, q0_1438, q0_1440, q0_1441, q0_1442, q0_1443, q0_1444, q0_1446, q0_1447, q0_1448, q0_1449, q0_1450, q0_1452, q0_1453, q0_1454, q0_1455, q0_1456, q0_1458, q0_1460, q0_1461, q0_1462, q0_1463, q0_1465, q0_1467, q0_1468, q0_1469, g1, b1, b2, b3, b4, b5, b6, b7, true_and, and_true, Option.some.injEq, exists_eq_left', Option.toList_some, Option.toList_none, List.cons_append, List.nil_append, xcat_nil, xcat_int, xcat_ref, xcat_long, not_true, not_false_iff, if_true, if_false, and_self, and_false, false_and, or_true, true_or, or_self, z01, z10, zle8, Nat.reduceAdd, Nat.reduceLeDiff]
  refine law_op (both_bestDay h) (fun x u1 f1 z1 => ?_)
  have j2 := f1.is g2
  have e1 := f1.2.2
  have e2 : xN u1 2000000 = xN u 2000000 := f1.n
  simp only [q0_1472, q0_1473, q0_1474, q0_1476, q0_1477, q0_1478, q0_1479, q0_1480, q0_1482, q0_1483, q0_1484, q0_1485, q0_1486, q0_1488, q0_1489, q0_1490, q0_1491, q0_1492, q0_1494, q0_1495, q0_1496, q0_1497, q0_1498, q0_1500, q0_1501, q0_1502, q0_1503, q0_1504, q0_1506, q0_1508, q0_1509, q0_1510, q0_1511, q0_1513, q0_1515, q0_1516, q0_1517, j2, e1, e2, b1, b2, b3, b4, b5, b6, b7, true_and, and_true, Option.some.injEq, exists_eq_left', Option.toList_some, Option.toList_none, List.cons_append, List.nil_append, xcat_nil, xcat_int, xcat_ref, xcat_long, not_true, not_false_iff, if_true, if_false, and_self, and_false, false_and, or_true, true_or, or_self, z01, z10, zle8, Nat.reduceAdd, Nat.reduceLeDiff]
  refine zl_of (z1.mono (fun r u2 z => ?_))
  obtain ⟨rfl, f2, i2⟩ := z
  simp only [q0_1520, true_and, and_true, Option.some.injEq, exists_eq_left', Option.toList_some, Option.toList_none, List.cons_append, List.nil_append, xcat_nil, xcat_int, xcat_ref, xcat_long, not_true, not_false_iff, if_true, if_false, and_self, and_false, false_and, or_true, true_or, or_self, z01, z10, zle8, Nat.reduceAdd, Nat.reduceLeDiff]
  exact hn u2 f2 i2
theorem law_27 (hI : Inv u) (b1 : xinb (i + 1) (xN u 2000000)) (b2 : xinb (i + 2) (xN u 2000000)) (b3 : xinb (i + 3) (xN u 2000000)) (b4 : xinb (i + 4) (xN u 2000000)) (b5 : xinb (i + 5) (xN u 2000000)) (b6 : xinb (i + 6) (xN u 2000000)) (b7 : xinb (i + 7) (xN u 2000000)) (hn : ∀ u2, Fr u u2 → Inv u2 → zl I 0 2238 [.ref 2000000, .ref 0, .ref 278, .ref 295, .int i, v5, v6] [] u2 P) : zl I 0 1525 [.ref 2000000, .ref 0, .ref 278, .ref 295, .int i, v5, v6] [] u P := by
  obtain ⟨hT, D, E, s, nl, np, nb, nc, nr, nh, nk, n, nf, na, f, op, h⟩ := hI
  have g1 := h.sp.1
  have g2 : xIs u 278 11 := h.1.2.2.2.2.2.2.2.2.2.1.1
  simp only [q0_1525, q0_1526, q0_1527, q0_1529, q0_1530, q0_1531, q0_1532, q0_1533, q0_1535, q0_1536, q0_1537, q0_1538, g1, b1, b2, b3, b4, b5, b6, b7, true_and, and_true, Option.some.injEq, exists_eq_left', Option.toList_some, Option.toList_none, List.cons_append, List.nil_append, xcat_nil, xcat_int, xcat_ref, xcat_long, not_true, not_false_iff, if_true, if_false, and_self, and_false, false_and, or_true, true_or, or_self, z01, z10, zle8, Nat.reduceAdd, Nat.reduceLeDiff]
  refine law_op (both_line h) (fun x u1 f1 z1 => ?_)
  have j2 := f1.is g2
  have e1 := f1.2.2
  have e2 : xN u1 2000000 = xN u 2000000 := f1.n
  simp only [q0_1541, q0_1542, q0_1543, q0_1545, q0_1546, q0_1547, q0_1548, q0_1549, q0_1551, q0_1552, q0_1553, q0_1554, j2, e1, e2, b1, b2, b3, b4, b5, b6, b7, true_and, and_true, Option.some.injEq, exists_eq_left', Option.toList_some, Option.toList_none, List.cons_append, List.nil_append, xcat_nil, xcat_int, xcat_ref, xcat_long, not_true, not_false_iff, if_true, if_false, and_self, and_false, false_and, or_true, true_or, or_self, z01, z10, zle8, Nat.reduceAdd, Nat.reduceLeDiff]
  refine zl_of (z1.mono (fun r u2 z => ?_))
  obtain ⟨rfl, f2, i2⟩ := z
  simp only [q0_1557, true_and, and_true, Option.some.injEq, exists_eq_left', Option.toList_some, Option.toList_none, List.cons_append, List.nil_append, xcat_nil, xcat_int, xcat_ref, xcat_long, not_true, not_false_iff, if_true, if_false, and_self, and_false, false_and, or_true, true_or, or_self, z01, z10, zle8, Nat.reduceAdd, Nat.reduceLeDiff]
  exact hn u2 f2 i2
theorem law_28 (hI : Inv u) (b1 : xinb (i + 1) (xN u 2000000)) (b2 : xinb (i + 2) (xN u 2000000)) (b3 : xinb (i + 3) (xN u 2000000)) (b4 : xinb (i + 4) (xN u 2000000)) (b5 : xinb (i + 5) (xN u 2000000)) (b6 : xinb (i + 6) (xN u 2000000)) (b7 : xinb (i + 7) (xN u 2000000)) (hn : ∀ u2, Fr u u2 → Inv u2 → zl I 0 2238 [.ref 2000000, .ref 0, .ref 278, .ref 295, .int i, v5, v6] [] u2 P) : zl I 0 1562 [.ref 2000000, .ref 0, .ref 278, .ref 295, .int i, v5, v6] [] u P := by
  obtain ⟨hT, D, E, s, nl, np, nb, nc, nr, nh, nk, n, nf, na, f, op, h⟩ := hI
  have g1 := h.sp.1
  have g2 : xIs u 278 11 := h.1.2.2.2.2.2.2.2.2.2.1.1
  simp only [q0_1562, q0_1563, q0_1564, q0_1566, q0_1567, q0_1568, q0_1569, q0_1570, q0_1572, q0_1573, q0_1574, q0_1575, q0_1576, q0_1578, q0_1579, q0_1580, q0_1581, g1, b1, b2, b3, b4, b5, b6, b7, true_and, and_true, Option.some.injEq, exists_eq_left', Option.toList_some, Option.toList_none, List.cons_append, List.nil_append, xcat_nil, xcat_int, xcat_ref, xcat_long, not_true, not_false_iff, if_true, if_false, and_self, and_false, false_and, or_true, true_or, or_self, z01, z10, zle8, Nat.reduceAdd, Nat.reduceLeDiff]
  refine law_op (both_part h) (fun x u1 f1 z1 => ?_)
  have j2 := f1.is g2
  have e1 := f1.2.2
  have e2 : xN u1 2000000 = xN u 2000000 := f1.n
  simp only [q0_1584, q0_1585, q0_1586, q0_1588, q0_1589, q0_1590, q0_1591, q0_1592, q0_1594, q0_1595, q0_1596, q0_1597, q0_1598, q0_1600, q0_1601, q0_1602, q0_1603, j2, e1, e2, b1, b2, b3, b4, b5, b6, b7, true_and, and_true, Option.some.injEq, exists_eq_left', Option.toList_some, Option.toList_none, List.cons_append, List.nil_append, xcat_nil, xcat_int, xcat_ref, xcat_long, not_true, not_false_iff, if_true, if_false, and_self, and_false, false_and, or_true, true_or, or_self, z01, z10, zle8, Nat.reduceAdd, Nat.reduceLeDiff]
  refine zl_of (z1.mono (fun r u2 z => ?_))
  obtain ⟨rfl, f2, i2⟩ := z
  simp only [q0_1606, true_and, and_true, Option.some.injEq, exists_eq_left', Option.toList_some, Option.toList_none, List.cons_append, List.nil_append, xcat_nil, xcat_int, xcat_ref, xcat_long, not_true, not_false_iff, if_true, if_false, and_self, and_false, false_and, or_true, true_or, or_self, z01, z10, zle8, Nat.reduceAdd, Nat.reduceLeDiff]
  exact hn u2 f2 i2
theorem law_29 (hI : Inv u) (b1 : xinb (i + 1) (xN u 2000000)) (b2 : xinb (i + 2) (xN u 2000000)) (b3 : xinb (i + 3) (xN u 2000000)) (b4 : xinb (i + 4) (xN u 2000000)) (b5 : xinb (i + 5) (xN u 2000000)) (b6 : xinb (i + 6) (xN u 2000000)) (b7 : xinb (i + 7) (xN u 2000000)) (hn : ∀ u2, Fr u u2 → Inv u2 → zl I 0 2238 [.ref 2000000, .ref 0, .ref 278, .ref 295, .int i, v5, v6] [] u2 P) : zl I 0 1611 [.ref 2000000, .ref 0, .ref 278, .ref 295, .int i, v5, v6] [] u P := by
  obtain ⟨hT, D, E, s, nl, np, nb, nc, nr, nh, nk, n, nf, na, f, op, h⟩ := hI
  have g1 := h.sp.1
  have g2 : xIs u 278 11 := h.1.2.2.2.2.2.2.2.2.2.1.1
  simp only [q0_1611, q0_1612, g1, b1, b2, b3, b4, b5, b6, b7, true_and, and_true, Option.some.injEq, exists_eq_left', Option.toList_some, Option.toList_none, List.cons_append, List.nil_append, xcat_nil, xcat_int, xcat_ref, xcat_long, not_true, not_false_iff, if_true, if_false, and_self, and_false, false_and, or_true, true_or, or_self, z01, z10, zle8, Nat.reduceAdd, Nat.reduceLeDiff]
  refine law_op (both_entries h) (fun x u1 f1 z1 => ?_)
  have j2 := f1.is g2
  have e1 := f1.2.2
  have e2 : xN u1 2000000 = xN u 2000000 := f1.n
  simp only [q0_1615, q0_1616, j2, e1, e2, b1, b2, b3, b4, b5, b6, b7, true_and, and_true, Option.some.injEq, exists_eq_left', Option.toList_some, Option.toList_none, List.cons_append, List.nil_append, xcat_nil, xcat_int, xcat_ref, xcat_long, not_true, not_false_iff, if_true, if_false, and_self, and_false, false_and, or_true, true_or, or_self, z01, z10, zle8, Nat.reduceAdd, Nat.reduceLeDiff]
  refine zl_of (z1.mono (fun r u2 z => ?_))
  obtain ⟨rfl, f2, i2⟩ := z
  simp only [q0_1619, true_and, and_true, Option.some.injEq, exists_eq_left', Option.toList_some, Option.toList_none, List.cons_append, List.nil_append, xcat_nil, xcat_int, xcat_ref, xcat_long, not_true, not_false_iff, if_true, if_false, and_self, and_false, false_and, or_true, true_or, or_self, z01, z10, zle8, Nat.reduceAdd, Nat.reduceLeDiff]
  exact hn u2 f2 i2
theorem law_30 (hI : Inv u) (b1 : xinb (i + 1) (xN u 2000000)) (b2 : xinb (i + 2) (xN u 2000000)) (b3 : xinb (i + 3) (xN u 2000000)) (b4 : xinb (i + 4) (xN u 2000000)) (b5 : xinb (i + 5) (xN u 2000000)) (b6 : xinb (i + 6) (xN u 2000000)) (b7 : xinb (i + 7) (xN u 2000000)) (hn : ∀ u2, Fr u u2 → Inv u2 → zl I 0 2238 [.ref 2000000, .ref 0, .ref 278, .ref 295, .int i, v5, v6] [] u2 P) : zl I 0 1624 [.ref 2000000, .ref 0, .ref 278, .ref 295, .int i, v5, v6] [] u P := by
  obtain ⟨hT, D, E, s, nl, np, nb, nc, nr, nh, nk, n, nf, na, f, op, h⟩ := hI
  have g1 := h.sp.1
  have g2 : xIs u 278 11 := h.1.2.2.2.2.2.2.2.2.2.1.1
  simp only [q0_1624, q0_1625, q0_1626, q0_1628, q0_1629, q0_1630, q0_1631, q0_1632, q0_1634, q0_1635, q0_1636, q0_1637, g1, b1, b2, b3, b4, b5, b6, b7, true_and, and_true, Option.some.injEq, exists_eq_left', Option.toList_some, Option.toList_none, List.cons_append, List.nil_append, xcat_nil, xcat_int, xcat_ref, xcat_long, not_true, not_false_iff, if_true, if_false, and_self, and_false, false_and, or_true, true_or, or_self, z01, z10, zle8, Nat.reduceAdd, Nat.reduceLeDiff]
  refine law_op (both_entry h) (fun x u1 f1 z1 => ?_)
  have j2 := f1.is g2
  have e1 := f1.2.2
  have e2 : xN u1 2000000 = xN u 2000000 := f1.n
  simp only [q0_1640, q0_1641, q0_1642, q0_1644, q0_1645, q0_1646, q0_1647, q0_1648, q0_1650, q0_1651, q0_1652, q0_1653, j2, e1, e2, b1, b2, b3, b4, b5, b6, b7, true_and, and_true, Option.some.injEq, exists_eq_left', Option.toList_some, Option.toList_none, List.cons_append, List.nil_append, xcat_nil, xcat_int, xcat_ref, xcat_long, not_true, not_false_iff, if_true, if_false, and_self, and_false, false_and, or_true, true_or, or_self, z01, z10, zle8, Nat.reduceAdd, Nat.reduceLeDiff]
  refine zl_of (z1.mono (fun r u2 z => ?_))
  obtain ⟨rfl, f2, i2⟩ := z
  simp only [q0_1656, true_and, and_true, Option.some.injEq, exists_eq_left', Option.toList_some, Option.toList_none, List.cons_append, List.nil_append, xcat_nil, xcat_int, xcat_ref, xcat_long, not_true, not_false_iff, if_true, if_false, and_self, and_false, false_and, or_true, true_or, or_self, z01, z10, zle8, Nat.reduceAdd, Nat.reduceLeDiff]
  exact hn u2 f2 i2
theorem law_31 (hI : Inv u) (b1 : xinb (i + 1) (xN u 2000000)) (b2 : xinb (i + 2) (xN u 2000000)) (b3 : xinb (i + 3) (xN u 2000000)) (b4 : xinb (i + 4) (xN u 2000000)) (b5 : xinb (i + 5) (xN u 2000000)) (b6 : xinb (i + 6) (xN u 2000000)) (b7 : xinb (i + 7) (xN u 2000000)) (hn : ∀ u2, Fr u u2 → Inv u2 → zl I 0 2238 [.ref 2000000, .ref 0, .ref 278, .ref 295, .int i, v5, v6] [] u2 P) : zl I 0 1661 [.ref 2000000, .ref 0, .ref 278, .ref 295, .int i, v5, v6] [] u P := by
  obtain ⟨hT, D, E, s, nl, np, nb, nc, nr, nh, nk, n, nf, na, f, op, h⟩ := hI
  have g1 := h.sp.1
  have g2 : xIs u 278 11 := h.1.2.2.2.2.2.2.2.2.2.1.1
  simp only [q0_1661, q0_1662, q0_1663, q0_1665, q0_1666, q0_1667, q0_1668, q0_1669, q0_1671, q0_1672, q0_1673, q0_1674, g1, b1, b2, b3, b4, b5, b6, b7, true_and, and_true, Option.some.injEq, exists_eq_left', Option.toList_some, Option.toList_none, List.cons_append, List.nil_append, xcat_nil, xcat_int, xcat_ref, xcat_long, not_true, not_false_iff, if_true, if_false, and_self, and_false, false_and, or_true, true_or, or_self, z01, z10, zle8, Nat.reduceAdd, Nat.reduceLeDiff]
  refine law_op (both_taxes h) (fun x u1 f1 z1 => ?_)
  have j2 := f1.is g2
  have e1 := f1.2.2
  have e2 : xN u1 2000000 = xN u 2000000 := f1.n
  simp only [q0_1677, q0_1678, q0_1679, q0_1681, q0_1682, q0_1683, q0_1684, q0_1685, q0_1687, q0_1688, q0_1689, q0_1690, j2, e1, e2, b1, b2, b3, b4, b5, b6, b7, true_and, and_true, Option.some.injEq, exists_eq_left', Option.toList_some, Option.toList_none, List.cons_append, List.nil_append, xcat_nil, xcat_int, xcat_ref, xcat_long, not_true, not_false_iff, if_true, if_false, and_self, and_false, false_and, or_true, true_or, or_self, z01, z10, zle8, Nat.reduceAdd, Nat.reduceLeDiff]
  refine zl_of (z1.mono (fun r u2 z => ?_))
  obtain ⟨rfl, f2, i2⟩ := z
  simp only [q0_1693, true_and, and_true, Option.some.injEq, exists_eq_left', Option.toList_some, Option.toList_none, List.cons_append, List.nil_append, xcat_nil, xcat_int, xcat_ref, xcat_long, not_true, not_false_iff, if_true, if_false, and_self, and_false, false_and, or_true, true_or, or_self, z01, z10, zle8, Nat.reduceAdd, Nat.reduceLeDiff]
  exact hn u2 f2 i2
theorem law_32 (hI : Inv u) (b1 : xinb (i + 1) (xN u 2000000)) (b2 : xinb (i + 2) (xN u 2000000)) (b3 : xinb (i + 3) (xN u 2000000)) (b4 : xinb (i + 4) (xN u 2000000)) (b5 : xinb (i + 5) (xN u 2000000)) (b6 : xinb (i + 6) (xN u 2000000)) (b7 : xinb (i + 7) (xN u 2000000)) (hn : ∀ u2, Fr u u2 → Inv u2 → zl I 0 2238 [.ref 2000000, .ref 0, .ref 278, .ref 295, .int i, v5, v6] [] u2 P) : zl I 0 1698 [.ref 2000000, .ref 0, .ref 278, .ref 295, .int i, v5, v6] [] u P := by
  obtain ⟨hT, D, E, s, nl, np, nb, nc, nr, nh, nk, n, nf, na, f, op, h⟩ := hI
  have g1 := h.sp.1
  have g2 : xIs u 278 11 := h.1.2.2.2.2.2.2.2.2.2.1.1
  simp only [q0_1698, q0_1699, g1, b1, b2, b3, b4, b5, b6, b7, true_and, and_true, Option.some.injEq, exists_eq_left', Option.toList_some, Option.toList_none, List.cons_append, List.nil_append, xcat_nil, xcat_int, xcat_ref, xcat_long, not_true, not_false_iff, if_true, if_false, and_self, and_false, false_and, or_true, true_or, or_self, z01, z10, zle8, Nat.reduceAdd, Nat.reduceLeDiff]
  refine law_op (both_filings h) (fun x u1 f1 z1 => ?_)
  have j2 := f1.is g2
  have e1 := f1.2.2
  have e2 : xN u1 2000000 = xN u 2000000 := f1.n
  simp only [q0_1702, q0_1703, j2, e1, e2, b1, b2, b3, b4, b5, b6, b7, true_and, and_true, Option.some.injEq, exists_eq_left', Option.toList_some, Option.toList_none, List.cons_append, List.nil_append, xcat_nil, xcat_int, xcat_ref, xcat_long, not_true, not_false_iff, if_true, if_false, and_self, and_false, false_and, or_true, true_or, or_self, z01, z10, zle8, Nat.reduceAdd, Nat.reduceLeDiff]
  refine zl_of (z1.mono (fun r u2 z => ?_))
  obtain ⟨rfl, f2, i2⟩ := z
  simp only [q0_1706, true_and, and_true, Option.some.injEq, exists_eq_left', Option.toList_some, Option.toList_none, List.cons_append, List.nil_append, xcat_nil, xcat_int, xcat_ref, xcat_long, not_true, not_false_iff, if_true, if_false, and_self, and_false, false_and, or_true, true_or, or_self, z01, z10, zle8, Nat.reduceAdd, Nat.reduceLeDiff]
  exact hn u2 f2 i2
theorem law_33 (hI : Inv u) (b1 : xinb (i + 1) (xN u 2000000)) (b2 : xinb (i + 2) (xN u 2000000)) (b3 : xinb (i + 3) (xN u 2000000)) (b4 : xinb (i + 4) (xN u 2000000)) (b5 : xinb (i + 5) (xN u 2000000)) (b6 : xinb (i + 6) (xN u 2000000)) (b7 : xinb (i + 7) (xN u 2000000)) (hn : ∀ u2, Fr u u2 → Inv u2 → zl I 0 2238 [.ref 2000000, .ref 0, .ref 278, .ref 295, .int i, v5, v6] [] u2 P) : zl I 0 1711 [.ref 2000000, .ref 0, .ref 278, .ref 295, .int i, v5, v6] [] u P := by
  obtain ⟨hT, D, E, s, nl, np, nb, nc, nr, nh, nk, n, nf, na, f, op, h⟩ := hI
  have g1 := h.sp.1
  have g2 : xIs u 278 11 := h.1.2.2.2.2.2.2.2.2.2.1.1
  simp only [q0_1711, q0_1712, q0_1713, q0_1715, q0_1716, q0_1717, q0_1718, q0_1719, q0_1721, q0_1722, q0_1723, q0_1724, g1, b1, b2, b3, b4, b5, b6, b7, true_and, and_true, Option.some.injEq, exists_eq_left', Option.toList_some, Option.toList_none, List.cons_append, List.nil_append, xcat_nil, xcat_int, xcat_ref, xcat_long, not_true, not_false_iff, if_true, if_false, and_self, and_false, false_and, or_true, true_or, or_self, z01, z10, zle8, Nat.reduceAdd, Nat.reduceLeDiff]
  refine law_op (both_filing h) (fun x u1 f1 z1 => ?_)
  have j2 := f1.is g2
  have e1 := f1.2.2
  have e2 : xN u1 2000000 = xN u 2000000 := f1.n
  simp only [q0_1727, q0_1728, q0_1729, q0_1731, q0_1732, q0_1733, q0_1734, q0_1735, q0_1737, q0_1738, q0_1739, q0_1740, j2, e1, e2, b1, b2, b3, b4, b5, b6, b7, true_and, and_true, Option.some.injEq, exists_eq_left', Option.toList_some, Option.toList_none, List.cons_append, List.nil_append, xcat_nil, xcat_int, xcat_ref, xcat_long, not_true, not_false_iff, if_true, if_false, and_self, and_false, false_and, or_true, true_or, or_self, z01, z10, zle8, Nat.reduceAdd, Nat.reduceLeDiff]
  refine zl_of (z1.mono (fun r u2 z => ?_))
  obtain ⟨rfl, f2, i2⟩ := z
  simp only [q0_1743, true_and, and_true, Option.some.injEq, exists_eq_left', Option.toList_some, Option.toList_none, List.cons_append, List.nil_append, xcat_nil, xcat_int, xcat_ref, xcat_long, not_true, not_false_iff, if_true, if_false, and_self, and_false, false_and, or_true, true_or, or_self, z01, z10, zle8, Nat.reduceAdd, Nat.reduceLeDiff]
  exact hn u2 f2 i2
theorem law_34 (hI : Inv u) (b1 : xinb (i + 1) (xN u 2000000)) (b2 : xinb (i + 2) (xN u 2000000)) (b3 : xinb (i + 3) (xN u 2000000)) (b4 : xinb (i + 4) (xN u 2000000)) (b5 : xinb (i + 5) (xN u 2000000)) (b6 : xinb (i + 6) (xN u 2000000)) (b7 : xinb (i + 7) (xN u 2000000)) (hn : ∀ u2, Fr u u2 → Inv u2 → zl I 0 2238 [.ref 2000000, .ref 0, .ref 278, .ref 295, .int i, v5, v6] [] u2 P) : zl I 0 1748 [.ref 2000000, .ref 0, .ref 278, .ref 295, .int i, v5, v6] [] u P := by
  obtain ⟨hT, D, E, s, nl, np, nb, nc, nr, nh, nk, n, nf, na, f, op, h⟩ := hI
  have g1 := h.sp.1
  have g2 : xIs u 278 11 := h.1.2.2.2.2.2.2.2.2.2.1.1
  simp only [q0_1748, q0_1749, q0_1750, q0_1752, q0_1753, q0_1754, q0_1755, q0_1756, q0_1758, q0_1759, q0_1760, q0_1761, g1, b1, b2, b3, b4, b5, b6, b7, true_and, and_true, Option.some.injEq, exists_eq_left', Option.toList_some, Option.toList_none, List.cons_append, List.nil_append, xcat_nil, xcat_int, xcat_ref, xcat_long, not_true, not_false_iff, if_true, if_false, and_self, and_false, false_and, or_true, true_or, or_self, z01, z10, zle8, Nat.reduceAdd, Nat.reduceLeDiff]
  refine law_op (both_pays h) (fun x u1 f1 z1 => ?_)
  have j2 := f1.is g2
  have e1 := f1.2.2
  have e2 : xN u1 2000000 = xN u 2000000 := f1.n
  simp only [q0_1764, q0_1765, q0_1766, q0_1768, q0_1769, q0_1770, q0_1771, q0_1772, q0_1774, q0_1775, q0_1776, q0_1777, j2, e1, e2, b1, b2, b3, b4, b5, b6, b7, true_and, and_true, Option.some.injEq, exists_eq_left', Option.toList_some, Option.toList_none, List.cons_append, List.nil_append, xcat_nil, xcat_int, xcat_ref, xcat_long, not_true, not_false_iff, if_true, if_false, and_self, and_false, false_and, or_true, true_or, or_self, z01, z10, zle8, Nat.reduceAdd, Nat.reduceLeDiff]
  refine zl_of (z1.mono (fun r u2 z => ?_))
  obtain ⟨rfl, f2, i2⟩ := z
  simp only [q0_1780, true_and, and_true, Option.some.injEq, exists_eq_left', Option.toList_some, Option.toList_none, List.cons_append, List.nil_append, xcat_nil, xcat_int, xcat_ref, xcat_long, not_true, not_false_iff, if_true, if_false, and_self, and_false, false_and, or_true, true_or, or_self, z01, z10, zle8, Nat.reduceAdd, Nat.reduceLeDiff]
  exact hn u2 f2 i2
theorem law_35 (hI : Inv u) (b1 : xinb (i + 1) (xN u 2000000)) (b2 : xinb (i + 2) (xN u 2000000)) (b3 : xinb (i + 3) (xN u 2000000)) (b4 : xinb (i + 4) (xN u 2000000)) (b5 : xinb (i + 5) (xN u 2000000)) (b6 : xinb (i + 6) (xN u 2000000)) (b7 : xinb (i + 7) (xN u 2000000)) (hn : ∀ u2, Fr u u2 → Inv u2 → zl I 0 2238 [.ref 2000000, .ref 0, .ref 278, .ref 295, .int i, v5, v6] [] u2 P) : zl I 0 1785 [.ref 2000000, .ref 0, .ref 278, .ref 295, .int i, v5, v6] [] u P := by
  obtain ⟨hT, D, E, s, nl, np, nb, nc, nr, nh, nk, n, nf, na, f, op, h⟩ := hI
  have g1 := h.sp.1
  have g2 : xIs u 278 11 := h.1.2.2.2.2.2.2.2.2.2.1.1
  simp only [q0_1785, q0_1786, q0_1787, q0_1789, q0_1790, q0_1791, q0_1792, q0_1793, q0_1795, q0_1796, q0_1797, q0_1798, g1, b1, b2, b3, b4, b5, b6, b7, true_and, and_true, Option.some.injEq, exists_eq_left', Option.toList_some, Option.toList_none, List.cons_append, List.nil_append, xcat_nil, xcat_int, xcat_ref, xcat_long, not_true, not_false_iff, if_true, if_false, and_self, and_false, false_and, or_true, true_or, or_self, z01, z10, zle8, Nat.reduceAdd, Nat.reduceLeDiff]
  refine law_op (both_pending h) (fun x u1 f1 z1 => ?_)
  have j2 := f1.is g2
  have e1 := f1.2.2
  have e2 : xN u1 2000000 = xN u 2000000 := f1.n
  simp only [q0_1801, q0_1802, q0_1803, q0_1805, q0_1806, q0_1807, q0_1808, q0_1809, q0_1811, q0_1812, q0_1813, q0_1814, j2, e1, e2, b1, b2, b3, b4, b5, b6, b7, true_and, and_true, Option.some.injEq, exists_eq_left', Option.toList_some, Option.toList_none, List.cons_append, List.nil_append, xcat_nil, xcat_int, xcat_ref, xcat_long, not_true, not_false_iff, if_true, if_false, and_self, and_false, false_and, or_true, true_or, or_self, z01, z10, zle8, Nat.reduceAdd, Nat.reduceLeDiff]
  refine zl_of (z1.mono (fun r u2 z => ?_))
  obtain ⟨rfl, f2, i2⟩ := z
  simp only [q0_1817, true_and, and_true, Option.some.injEq, exists_eq_left', Option.toList_some, Option.toList_none, List.cons_append, List.nil_append, xcat_nil, xcat_int, xcat_ref, xcat_long, not_true, not_false_iff, if_true, if_false, and_self, and_false, false_and, or_true, true_or, or_self, z01, z10, zle8, Nat.reduceAdd, Nat.reduceLeDiff]
  exact hn u2 f2 i2
theorem law_36 (hI : Inv u) (b1 : xinb (i + 1) (xN u 2000000)) (b2 : xinb (i + 2) (xN u 2000000)) (b3 : xinb (i + 3) (xN u 2000000)) (b4 : xinb (i + 4) (xN u 2000000)) (b5 : xinb (i + 5) (xN u 2000000)) (b6 : xinb (i + 6) (xN u 2000000)) (b7 : xinb (i + 7) (xN u 2000000)) (hn : ∀ u2, Fr u u2 → Inv u2 → zl I 0 2238 [.ref 2000000, .ref 0, .ref 278, .ref 295, .int i, v5, v6] [] u2 P) : zl I 0 1822 [.ref 2000000, .ref 0, .ref 278, .ref 295, .int i, v5, v6] [] u P := by
  obtain ⟨hT, D, E, s, nl, np, nb, nc, nr, nh, nk, n, nf, na, f, op, h⟩ := hI
  have g1 := h.sp.1
  have g2 : xIs u 278 11 := h.1.2.2.2.2.2.2.2.2.2.1.1
  simp only [q0_1822, q0_1823, g1, b1, b2, b3, b4, b5, b6, b7, true_and, and_true, Option.some.injEq, exists_eq_left', Option.toList_some, Option.toList_none, List.cons_append, List.nil_append, xcat_nil, xcat_int, xcat_ref, xcat_long, not_true, not_false_iff, if_true, if_false, and_self, and_false, false_and, or_true, true_or, or_self, z01, z10, zle8, Nat.reduceAdd, Nat.reduceLeDiff]
  refine law_op (both_wrong h) (fun x u1 f1 z1 => ?_)
  have j2 := f1.is g2
  have e1 := f1.2.2
  have e2 : xN u1 2000000 = xN u 2000000 := f1.n
  simp only [q0_1826, q0_1827, j2, e1, e2, b1, b2, b3, b4, b5, b6, b7, true_and, and_true, Option.some.injEq, exists_eq_left', Option.toList_some, Option.toList_none, List.cons_append, List.nil_append, xcat_nil, xcat_int, xcat_ref, xcat_long, not_true, not_false_iff, if_true, if_false, and_self, and_false, false_and, or_true, true_or, or_self, z01, z10, zle8, Nat.reduceAdd, Nat.reduceLeDiff]
  refine zl_of (z1.mono (fun r u2 z => ?_))
  obtain ⟨rfl, f2, i2⟩ := z
  simp only [q0_1830, true_and, and_true, Option.some.injEq, exists_eq_left', Option.toList_some, Option.toList_none, List.cons_append, List.nil_append, xcat_nil, xcat_int, xcat_ref, xcat_long, not_true, not_false_iff, if_true, if_false, and_self, and_false, false_and, or_true, true_or, or_self, z01, z10, zle8, Nat.reduceAdd, Nat.reduceLeDiff]
  exact hn u2 f2 i2
theorem law_37 (hI : Inv u) (b1 : xinb (i + 1) (xN u 2000000)) (b2 : xinb (i + 2) (xN u 2000000)) (b3 : xinb (i + 3) (xN u 2000000)) (b4 : xinb (i + 4) (xN u 2000000)) (b5 : xinb (i + 5) (xN u 2000000)) (b6 : xinb (i + 6) (xN u 2000000)) (b7 : xinb (i + 7) (xN u 2000000)) (hn : ∀ u2, Fr u u2 → Inv u2 → zl I 0 2238 [.ref 2000000, .ref 0, .ref 278, .ref 295, .int i, v5, v6] [] u2 P) : zl I 0 1835 [.ref 2000000, .ref 0, .ref 278, .ref 295, .int i, v5, v6] [] u P := by
  obtain ⟨hT, D, E, s, nl, np, nb, nc, nr, nh, nk, n, nf, na, f, op, h⟩ := hI
  have g1 := h.sp.1
  have g2 : xIs u 278 11 := h.1.2.2.2.2.2.2.2.2.2.1.1
  simp only [q0_1835, q0_1836, q0_1837, q0_1839, q0_1840, q0_1841, q0_1842, g1, b1, b2, b3, b4, b5, b6, b7, true_and, and_true, Option.some.injEq, exists_eq_left', Option.toList_some, Option.toList_none, List.cons_append, List.nil_append, xcat_nil, xcat_int, xcat_ref, xcat_long, not_true, not_false_iff, if_true, if_false, and_self, and_false, false_and, or_true, true_or, or_self, z01, z10, zle8, Nat.reduceAdd, Nat.reduceLeDiff]
  refine law_op (both_owed h) (fun x u1 f1 z1 => ?_)
  have j2 := f1.is g2
  have e1 := f1.2.2
  have e2 : xN u1 2000000 = xN u 2000000 := f1.n
  simp only [q0_1845, q0_1846, q0_1847, q0_1849, q0_1850, q0_1851, q0_1852, j2, e1, e2, b1, b2, b3, b4, b5, b6, b7, true_and, and_true, Option.some.injEq, exists_eq_left', Option.toList_some, Option.toList_none, List.cons_append, List.nil_append, xcat_nil, xcat_int, xcat_ref, xcat_long, not_true, not_false_iff, if_true, if_false, and_self, and_false, false_and, or_true, true_or, or_self, z01, z10, zle8, Nat.reduceAdd, Nat.reduceLeDiff]
  refine zl_of (z1.mono (fun r u2 z => ?_))
  obtain ⟨rfl, f2, i2⟩ := z
  simp only [q0_1855, true_and, and_true, Option.some.injEq, exists_eq_left', Option.toList_some, Option.toList_none, List.cons_append, List.nil_append, xcat_nil, xcat_int, xcat_ref, xcat_long, not_true, not_false_iff, if_true, if_false, and_self, and_false, false_and, or_true, true_or, or_self, z01, z10, zle8, Nat.reduceAdd, Nat.reduceLeDiff]
  exact hn u2 f2 i2
theorem law_38 (hI : Inv u) (b1 : xinb (i + 1) (xN u 2000000)) (b2 : xinb (i + 2) (xN u 2000000)) (b3 : xinb (i + 3) (xN u 2000000)) (b4 : xinb (i + 4) (xN u 2000000)) (b5 : xinb (i + 5) (xN u 2000000)) (b6 : xinb (i + 6) (xN u 2000000)) (b7 : xinb (i + 7) (xN u 2000000)) (hn : ∀ u2, Fr u u2 → Inv u2 → zl I 0 2238 [.ref 2000000, .ref 0, .ref 278, .ref 295, .int i, v5, v6] [] u2 P) : zl I 0 1860 [.ref 2000000, .ref 0, .ref 278, .ref 295, .int i, v5, v6] [] u P := by
  obtain ⟨hT, D, E, s, nl, np, nb, nc, nr, nh, nk, n, nf, na, f, op, h⟩ := hI
  have g1 := h.sp.1
  have g2 : xIs u 278 11 := h.1.2.2.2.2.2.2.2.2.2.1.1
  simp only [q0_1860, q0_1861, q0_1862, q0_1864, q0_1865, q0_1866, q0_1867, g1, b1, b2, b3, b4, b5, b6, b7, true_and, and_true, Option.some.injEq, exists_eq_left', Option.toList_some, Option.toList_none, List.cons_append, List.nil_append, xcat_nil, xcat_int, xcat_ref, xcat_long, not_true, not_false_iff, if_true, if_false, and_self, and_false, false_and, or_true, true_or, or_self, z01, z10, zle8, Nat.reduceAdd, Nat.reduceLeDiff]
  refine law_op (both_file h) (fun x u1 f1 z1 => ?_)
  have j2 := f1.is g2
  have e1 := f1.2.2
  have e2 : xN u1 2000000 = xN u 2000000 := f1.n
  simp only [q0_1870, q0_1871, q0_1872, q0_1874, q0_1875, q0_1876, q0_1877, j2, e1, e2, b1, b2, b3, b4, b5, b6, b7, true_and, and_true, Option.some.injEq, exists_eq_left', Option.toList_some, Option.toList_none, List.cons_append, List.nil_append, xcat_nil, xcat_int, xcat_ref, xcat_long, not_true, not_false_iff, if_true, if_false, and_self, and_false, false_and, or_true, true_or, or_self, z01, z10, zle8, Nat.reduceAdd, Nat.reduceLeDiff]
  refine zl_of (z1.mono (fun r u2 z => ?_))
  obtain ⟨rfl, f2, i2⟩ := z
  simp only [q0_1880, true_and, and_true, Option.some.injEq, exists_eq_left', Option.toList_some, Option.toList_none, List.cons_append, List.nil_append, xcat_nil, xcat_int, xcat_ref, xcat_long, not_true, not_false_iff, if_true, if_false, and_self, and_false, false_and, or_true, true_or, or_self, z01, z10, zle8, Nat.reduceAdd, Nat.reduceLeDiff]
  exact hn u2 f2 i2
theorem law_39 (hI : Inv u) (b1 : xinb (i + 1) (xN u 2000000)) (b2 : xinb (i + 2) (xN u 2000000)) (b3 : xinb (i + 3) (xN u 2000000)) (b4 : xinb (i + 4) (xN u 2000000)) (b5 : xinb (i + 5) (xN u 2000000)) (b6 : xinb (i + 6) (xN u 2000000)) (b7 : xinb (i + 7) (xN u 2000000)) (hn : ∀ u2, Fr u u2 → Inv u2 → zl I 0 2238 [.ref 2000000, .ref 0, .ref 278, .ref 295, .int i, v5, v6] [] u2 P) : zl I 0 1885 [.ref 2000000, .ref 0, .ref 278, .ref 295, .int i, v5, v6] [] u P := by
  obtain ⟨hT, D, E, s, nl, np, nb, nc, nr, nh, nk, n, nf, na, f, op, h⟩ := hI
  have g1 := h.sp.1
  have g2 : xIs u 278 11 := h.1.2.2.2.2.2.2.2.2.2.1.1
  simp only [q0_1885, q0_1886, q0_1887, q0_1889, q0_1890, q0_1891, q0_1892, q0_1893, q0_1895, q0_1896, q0_1897, q0_1898, q0_1899, q0_1901, q0_1902, q0_1903, q0_1904, q0_1905, q0_1907, q0_1908, q0_1909, q0_1910, q0_1911, q0_1913, q0_1914, q0_1915, q0_1916, q0_1917, q0_1919, q0_1921, q0_1922, q0_1923, g1, b1, b2, b3, b4, b5, b6, b7, true_and, and_true, Option.some.injEq, exists_eq_left', Option.toList_some, Option.toList_none, List.cons_append, List.nil_append, xcat_nil, xcat_int, xcat_ref, xcat_long, not_true, not_false_iff, if_true, if_false, and_self, and_false, false_and, or_true, true_or, or_self, z01, z10, zle8, Nat.reduceAdd, Nat.reduceLeDiff]
  refine law_op (both_sale h) (fun x u1 f1 z1 => ?_)
  have j2 := f1.is g2
  have e1 := f1.2.2
  have e2 : xN u1 2000000 = xN u 2000000 := f1.n
  simp only [q0_1926, q0_1927, q0_1928, q0_1930, q0_1931, q0_1932, q0_1933, q0_1934, q0_1936, q0_1937, q0_1938, q0_1939, q0_1940, q0_1942, q0_1943, q0_1944, q0_1945, q0_1946, q0_1948, q0_1949, q0_1950, q0_1951, q0_1952, q0_1954, q0_1955, q0_1956, q0_1957, q0_1958, q0_1960, q0_1962, q0_1963, q0_1964, j2, e1, e2, b1, b2, b3, b4, b5, b6, b7, true_and, and_true, Option.some.injEq, exists_eq_left', Option.toList_some, Option.toList_none, List.cons_append, List.nil_append, xcat_nil, xcat_int, xcat_ref, xcat_long, not_true, not_false_iff, if_true, if_false, and_self, and_false, false_and, or_true, true_or, or_self, z01, z10, zle8, Nat.reduceAdd, Nat.reduceLeDiff]
  refine zl_of (z1.mono (fun r u2 z => ?_))
  obtain ⟨rfl, f2, i2⟩ := z
  simp only [q0_1967, true_and, and_true, Option.some.injEq, exists_eq_left', Option.toList_some, Option.toList_none, List.cons_append, List.nil_append, xcat_nil, xcat_int, xcat_ref, xcat_long, not_true, not_false_iff, if_true, if_false, and_self, and_false, false_and, or_true, true_or, or_self, z01, z10, zle8, Nat.reduceAdd, Nat.reduceLeDiff]
  exact hn u2 f2 i2
theorem law_40 (hI : Inv u) (b1 : xinb (i + 1) (xN u 2000000)) (b2 : xinb (i + 2) (xN u 2000000)) (b3 : xinb (i + 3) (xN u 2000000)) (b4 : xinb (i + 4) (xN u 2000000)) (b5 : xinb (i + 5) (xN u 2000000)) (b6 : xinb (i + 6) (xN u 2000000)) (b7 : xinb (i + 7) (xN u 2000000)) (hn : ∀ u2, Fr u u2 → Inv u2 → zl I 0 2238 [.ref 2000000, .ref 0, .ref 278, .ref 295, .int i, v5, v6] [] u2 P) : zl I 0 1972 [.ref 2000000, .ref 0, .ref 278, .ref 295, .int i, v5, v6] [] u P := by
  obtain ⟨hT, D, E, s, nl, np, nb, nc, nr, nh, nk, n, nf, na, f, op, h⟩ := hI
  have g1 := h.sp.1
  have g2 : xIs u 278 11 := h.1.2.2.2.2.2.2.2.2.2.1.1
  simp only [q0_1972, q0_1973, q0_1974, q0_1976, q0_1977, q0_1978, q0_1979, q0_1980, q0_1982, q0_1983, q0_1984, q0_1985, g1, b1, b2, b3, b4, b5, b6, b7, true_and, and_true, Option.some.injEq, exists_eq_left', Option.toList_some, Option.toList_none, List.cons_append, List.nil_append, xcat_nil, xcat_int, xcat_ref, xcat_long, not_true, not_false_iff, if_true, if_false, and_self, and_false, false_and, or_true, true_or, or_self, z01, z10, zle8, Nat.reduceAdd, Nat.reduceLeDiff]
  refine law_op (both_refund h) (fun x u1 f1 z1 => ?_)
  have j2 := f1.is g2
  have e1 := f1.2.2
  have e2 : xN u1 2000000 = xN u 2000000 := f1.n
  simp only [q0_1988, q0_1989, q0_1990, q0_1992, q0_1993, q0_1994, q0_1995, q0_1996, q0_1998, q0_1999, q0_2000, q0_2001, j2, e1, e2, b1, b2, b3, b4, b5, b6, b7, true_and, and_true, Option.some.injEq, exists_eq_left', Option.toList_some, Option.toList_none, List.cons_append, List.nil_append, xcat_nil, xcat_int, xcat_ref, xcat_long, not_true, not_false_iff, if_true, if_false, and_self, and_false, false_and, or_true, true_or, or_self, z01, z10, zle8, Nat.reduceAdd, Nat.reduceLeDiff]
  refine zl_of (z1.mono (fun r u2 z => ?_))
  obtain ⟨rfl, f2, i2⟩ := z
  simp only [q0_2004, true_and, and_true, Option.some.injEq, exists_eq_left', Option.toList_some, Option.toList_none, List.cons_append, List.nil_append, xcat_nil, xcat_int, xcat_ref, xcat_long, not_true, not_false_iff, if_true, if_false, and_self, and_false, false_and, or_true, true_or, or_self, z01, z10, zle8, Nat.reduceAdd, Nat.reduceLeDiff]
  exact hn u2 f2 i2
theorem law_41 (hI : Inv u) (b1 : xinb (i + 1) (xN u 2000000)) (b2 : xinb (i + 2) (xN u 2000000)) (b3 : xinb (i + 3) (xN u 2000000)) (b4 : xinb (i + 4) (xN u 2000000)) (b5 : xinb (i + 5) (xN u 2000000)) (b6 : xinb (i + 6) (xN u 2000000)) (b7 : xinb (i + 7) (xN u 2000000)) (hn : ∀ u2, Fr u u2 → Inv u2 → zl I 0 2238 [.ref 2000000, .ref 0, .ref 278, .ref 295, .int i, v5, v6] [] u2 P) : zl I 0 2009 [.ref 2000000, .ref 0, .ref 278, .ref 295, .int i, v5, v6] [] u P := by
  obtain ⟨hT, D, E, s, nl, np, nb, nc, nr, nh, nk, n, nf, na, f, op, h⟩ := hI
  have g1 := h.sp.1
  have g2 : xIs u 278 11 := h.1.2.2.2.2.2.2.2.2.2.1.1
  simp only [q0_2009, q0_2010, q0_2011, q0_2013, q0_2014, q0_2015, q0_2016, q0_2017, q0_2019, q0_2020, q0_2021, q0_2022, q0_2023, q0_2025, q0_2026, q0_2027, q0_2028, q0_2029, q0_2031, q0_2032, q0_2033, q0_2034, g1, b1, b2, b3, b4, b5, b6, b7, true_and, and_true, Option.some.injEq, exists_eq_left', Option.toList_some, Option.toList_none, List.cons_append, List.nil_append, xcat_nil, xcat_int, xcat_ref, xcat_long, not_true, not_false_iff, if_true, if_false, and_self, and_false, false_and, or_true, true_or, or_self, z01, z10, zle8, Nat.reduceAdd, Nat.reduceLeDiff]
  refine law_op (both_move h) (fun x u1 f1 z1 => ?_)
  have j2 := f1.is g2
  have e1 := f1.2.2
  have e2 : xN u1 2000000 = xN u 2000000 := f1.n
  simp only [q0_2037, q0_2038, q0_2039, q0_2041, q0_2042, q0_2043, q0_2044, q0_2045, q0_2047, q0_2048, q0_2049, q0_2050, q0_2051, q0_2053, q0_2054, q0_2055, q0_2056, q0_2057, q0_2059, q0_2060, q0_2061, q0_2062, j2, e1, e2, b1, b2, b3, b4, b5, b6, b7, true_and, and_true, Option.some.injEq, exists_eq_left', Option.toList_some, Option.toList_none, List.cons_append, List.nil_append, xcat_nil, xcat_int, xcat_ref, xcat_long, not_true, not_false_iff, if_true, if_false, and_self, and_false, false_and, or_true, true_or, or_self, z01, z10, zle8, Nat.reduceAdd, Nat.reduceLeDiff]
  refine zl_of (z1.mono (fun r u2 z => ?_))
  obtain ⟨rfl, f2, i2⟩ := z
  simp only [q0_2065, true_and, and_true, Option.some.injEq, exists_eq_left', Option.toList_some, Option.toList_none, List.cons_append, List.nil_append, xcat_nil, xcat_int, xcat_ref, xcat_long, not_true, not_false_iff, if_true, if_false, and_self, and_false, false_and, or_true, true_or, or_self, z01, z10, zle8, Nat.reduceAdd, Nat.reduceLeDiff]
  exact hn u2 f2 i2
theorem law_42 (hI : Inv u) (b1 : xinb (i + 1) (xN u 2000000)) (b2 : xinb (i + 2) (xN u 2000000)) (b3 : xinb (i + 3) (xN u 2000000)) (b4 : xinb (i + 4) (xN u 2000000)) (b5 : xinb (i + 5) (xN u 2000000)) (b6 : xinb (i + 6) (xN u 2000000)) (b7 : xinb (i + 7) (xN u 2000000)) (hn : ∀ u2, Fr u u2 → Inv u2 → zl I 0 2238 [.ref 2000000, .ref 0, .ref 278, .ref 295, .int i, v5, v6] [] u2 P) : zl I 0 2070 [.ref 2000000, .ref 0, .ref 278, .ref 295, .int i, v5, v6] [] u P := by
  obtain ⟨hT, D, E, s, nl, np, nb, nc, nr, nh, nk, n, nf, na, f, op, h⟩ := hI
  have g1 := h.sp.1
  have g2 : xIs u 278 11 := h.1.2.2.2.2.2.2.2.2.2.1.1
  simp only [q0_2070, q0_2071, q0_2072, q0_2074, q0_2075, q0_2076, q0_2077, q0_2078, q0_2080, q0_2081, q0_2082, q0_2083, q0_2084, q0_2086, q0_2087, q0_2088, q0_2089, q0_2090, q0_2092, q0_2093, q0_2094, q0_2095, g1, b1, b2, b3, b4, b5, b6, b7, true_and, and_true, Option.some.injEq, exists_eq_left', Option.toList_some, Option.toList_none, List.cons_append, List.nil_append, xcat_nil, xcat_int, xcat_ref, xcat_long, not_true, not_false_iff, if_true, if_false, and_self, and_false, false_and, or_true, true_or, or_self, z01, z10, zle8, Nat.reduceAdd, Nat.reduceLeDiff]
  refine law_op (both_turn h) (fun x u1 f1 z1 => ?_)
  have j2 := f1.is g2
  have e1 := f1.2.2
  have e2 : xN u1 2000000 = xN u 2000000 := f1.n
  simp only [q0_2098, q0_2099, q0_2100, q0_2102, q0_2103, q0_2104, q0_2105, q0_2106, q0_2108, q0_2109, q0_2110, q0_2111, q0_2112, q0_2114, q0_2115, q0_2116, q0_2117, q0_2118, q0_2120, q0_2121, q0_2122, q0_2123, j2, e1, e2, b1, b2, b3, b4, b5, b6, b7, true_and, and_true, Option.some.injEq, exists_eq_left', Option.toList_some, Option.toList_none, List.cons_append, List.nil_append, xcat_nil, xcat_int, xcat_ref, xcat_long, not_true, not_false_iff, if_true, if_false, and_self, and_false, false_and, or_true, true_or, or_self, z01, z10, zle8, Nat.reduceAdd, Nat.reduceLeDiff]
  refine zl_of (z1.mono (fun r u2 z => ?_))
  obtain ⟨rfl, f2, i2⟩ := z
  simp only [q0_2126, true_and, and_true, Option.some.injEq, exists_eq_left', Option.toList_some, Option.toList_none, List.cons_append, List.nil_append, xcat_nil, xcat_int, xcat_ref, xcat_long, not_true, not_false_iff, if_true, if_false, and_self, and_false, false_and, or_true, true_or, or_self, z01, z10, zle8, Nat.reduceAdd, Nat.reduceLeDiff]
  exact hn u2 f2 i2
theorem law_43 (hI : Inv u) (b1 : xinb (i + 1) (xN u 2000000)) (b2 : xinb (i + 2) (xN u 2000000)) (b3 : xinb (i + 3) (xN u 2000000)) (b4 : xinb (i + 4) (xN u 2000000)) (b5 : xinb (i + 5) (xN u 2000000)) (b6 : xinb (i + 6) (xN u 2000000)) (b7 : xinb (i + 7) (xN u 2000000)) (hn : ∀ u2, Fr u u2 → Inv u2 → zl I 0 2238 [.ref 2000000, .ref 0, .ref 278, .ref 295, .int i, v5, v6] [] u2 P) : zl I 0 2131 [.ref 2000000, .ref 0, .ref 278, .ref 295, .int i, v5, v6] [] u P := by
  obtain ⟨hT, D, E, s, nl, np, nb, nc, nr, nh, nk, n, nf, na, f, op, h⟩ := hI
  have g1 := h.sp.1
  have g2 : xIs u 278 11 := h.1.2.2.2.2.2.2.2.2.2.1.1
  simp only [q0_2131, q0_2132, g1, b1, b2, b3, b4, b5, b6, b7, true_and, and_true, Option.some.injEq, exists_eq_left', Option.toList_some, Option.toList_none, List.cons_append, List.nil_append, xcat_nil, xcat_int, xcat_ref, xcat_long, not_true, not_false_iff, if_true, if_false, and_self, and_false, false_and, or_true, true_or, or_self, z01, z10, zle8, Nat.reduceAdd, Nat.reduceLeDiff]
  refine law_op (both_undo h) (fun x u1 f1 z1 => ?_)
  have j2 := f1.is g2
  have e1 := f1.2.2
  have e2 : xN u1 2000000 = xN u 2000000 := f1.n
  simp only [q0_2135, q0_2136, j2, e1, e2, b1, b2, b3, b4, b5, b6, b7, true_and, and_true, Option.some.injEq, exists_eq_left', Option.toList_some, Option.toList_none, List.cons_append, List.nil_append, xcat_nil, xcat_int, xcat_ref, xcat_long, not_true, not_false_iff, if_true, if_false, and_self, and_false, false_and, or_true, true_or, or_self, z01, z10, zle8, Nat.reduceAdd, Nat.reduceLeDiff]
  refine zl_of (z1.mono (fun r u2 z => ?_))
  obtain ⟨rfl, f2, i2⟩ := z
  simp only [q0_2139, true_and, and_true, Option.some.injEq, exists_eq_left', Option.toList_some, Option.toList_none, List.cons_append, List.nil_append, xcat_nil, xcat_int, xcat_ref, xcat_long, not_true, not_false_iff, if_true, if_false, and_self, and_false, false_and, or_true, true_or, or_self, z01, z10, zle8, Nat.reduceAdd, Nat.reduceLeDiff]
  exact hn u2 f2 i2
theorem law_45 (hI : Inv u) (b1 : xinb (i + 1) (xN u 2000000)) (b2 : xinb (i + 2) (xN u 2000000)) (b3 : xinb (i + 3) (xN u 2000000)) (b4 : xinb (i + 4) (xN u 2000000)) (b5 : xinb (i + 5) (xN u 2000000)) (b6 : xinb (i + 6) (xN u 2000000)) (b7 : xinb (i + 7) (xN u 2000000)) (hn : ∀ u2, Fr u u2 → Inv u2 → zl I 0 2238 [.ref 2000000, .ref 0, .ref 278, .ref 295, .int i, v5, v6] [] u2 P) : zl I 0 2200 [.ref 2000000, .ref 0, .ref 278, .ref 295, .int i, v5, v6] [] u P := by
  obtain ⟨hT, D, E, s, nl, np, nb, nc, nr, nh, nk, n, nf, na, f, op, h⟩ := hI
  have g1 := h.sp.1
  have g2 : xIs u 278 11 := h.1.2.2.2.2.2.2.2.2.2.1.1
  simp only [q0_2200, q0_2201, q0_2202, q0_2204, q0_2205, q0_2206, q0_2207, g1, b1, b2, b3, b4, b5, b6, b7, true_and, and_true, Option.some.injEq, exists_eq_left', Option.toList_some, Option.toList_none, List.cons_append, List.nil_append, xcat_nil, xcat_int, xcat_ref, xcat_long, not_true, not_false_iff, if_true, if_false, and_self, and_false, false_and, or_true, true_or, or_self, z01, z10, zle8, Nat.reduceAdd, Nat.reduceLeDiff]
  refine law_op (both_size hT h) (fun x u1 f1 z1 => ?_)
  have j2 := f1.is g2
  have e1 := f1.2.2
  have e2 : xN u1 2000000 = xN u 2000000 := f1.n
  simp only [q0_2210, q0_2211, q0_2212, q0_2214, q0_2215, q0_2216, q0_2217, j2, e1, e2, b1, b2, b3, b4, b5, b6, b7, true_and, and_true, Option.some.injEq, exists_eq_left', Option.toList_some, Option.toList_none, List.cons_append, List.nil_append, xcat_nil, xcat_int, xcat_ref, xcat_long, not_true, not_false_iff, if_true, if_false, and_self, and_false, false_and, or_true, true_or, or_self, z01, z10, zle8, Nat.reduceAdd, Nat.reduceLeDiff]
  refine zl_of (z1.mono (fun r u2 z => ?_))
  obtain ⟨rfl, f2, i2⟩ := z
  simp only [q0_2220, true_and, and_true, Option.some.injEq, exists_eq_left', Option.toList_some, Option.toList_none, List.cons_append, List.nil_append, xcat_nil, xcat_int, xcat_ref, xcat_long, not_true, not_false_iff, if_true, if_false, and_self, and_false, false_and, or_true, true_or, or_self, z01, z10, zle8, Nat.reduceAdd, Nat.reduceLeDiff]
  exact hn u2 f2 i2
theorem law_46 (hI : Inv u) (b1 : xinb (i + 1) (xN u 2000000)) (b2 : xinb (i + 2) (xN u 2000000)) (b3 : xinb (i + 3) (xN u 2000000)) (b4 : xinb (i + 4) (xN u 2000000)) (b5 : xinb (i + 5) (xN u 2000000)) (b6 : xinb (i + 6) (xN u 2000000)) (b7 : xinb (i + 7) (xN u 2000000)) (hn : ∀ u2, Fr u u2 → Inv u2 → zl I 0 2238 [.ref 2000000, .ref 0, .ref 278, .ref 295, .int i, v5, v6] [] u2 P) : zl I 0 2225 [.ref 2000000, .ref 0, .ref 278, .ref 295, .int i, v5, v6] [] u P := by
  obtain ⟨hT, D, E, s, nl, np, nb, nc, nr, nh, nk, n, nf, na, f, op, h⟩ := hI
  have g1 := h.sp.1
  have g2 : xIs u 278 11 := h.1.2.2.2.2.2.2.2.2.2.1.1
  simp only [q0_2225, q0_2226, g1, b1, b2, b3, b4, b5, b6, b7, true_and, and_true, Option.some.injEq, exists_eq_left', Option.toList_some, Option.toList_none, List.cons_append, List.nil_append, xcat_nil, xcat_int, xcat_ref, xcat_long, not_true, not_false_iff, if_true, if_false, and_self, and_false, false_and, or_true, true_or, or_self, z01, z10, zle8, Nat.reduceAdd, Nat.reduceLeDiff]
  refine law_op (both_trouble hT h) (fun x u1 f1 z1 => ?_)
  have j2 := f1.is g2
  have e1 := f1.2.2
  have e2 : xN u1 2000000 = xN u 2000000 := f1.n
  simp only [q0_2229, q0_2230, j2, e1, e2, b1, b2, b3, b4, b5, b6, b7, true_and, and_true, Option.some.injEq, exists_eq_left', Option.toList_some, Option.toList_none, List.cons_append, List.nil_append, xcat_nil, xcat_int, xcat_ref, xcat_long, not_true, not_false_iff, if_true, if_false, and_self, and_false, false_and, or_true, true_or, or_self, z01, z10, zle8, Nat.reduceAdd, Nat.reduceLeDiff]
  refine zl_of (z1.mono (fun r u2 z => ?_))
  obtain ⟨rfl, f2, i2⟩ := z
  simp only [q0_2233, true_and, and_true, Option.some.injEq, exists_eq_left', Option.toList_some, Option.toList_none, List.cons_append, List.nil_append, xcat_nil, xcat_int, xcat_ref, xcat_long, not_true, not_false_iff, if_true, if_false, and_self, and_false, false_and, or_true, true_or, or_self, z01, z10, zle8, Nat.reduceAdd, Nat.reduceLeDiff]
  exact hn u2 f2 i2
theorem thrown_run (h : xIs u 278 11) : zr 171 0 [.ref 278] [] u P = P (some (.int (xI u 278 0))) u := by
  simp only [r171_0, r171_1, r171_4, h, true_and, and_true, Option.some.injEq, exists_eq_left', Option.toList_some, Option.toList_none, List.cons_append, List.nil_append, xcat_nil, xcat_int, xcat_ref, xcat_long, not_true, not_false_iff, if_true, if_false, and_self, and_false, false_and, or_true, true_or, or_self, z01, z10, zle8, Nat.reduceAdd, Nat.reduceLeDiff]
theorem zl_idl (hI : xcd2 I 1 0 ls [] u = xend r w) : zl I 1 0 ls [] u P = P r w := xRun_end hI
theorem lgc0 {x : Int64} : lg_cmp x x = 0 := by unfold lg_cmp; simp
theorem law_44 (hId : IdOk I) (hI : Inv u) (b1 : xinb (i + 1) (xN u 2000000)) (b2 : xinb (i + 2) (xN u 2000000)) (b3 : xinb (i + 3) (xN u 2000000)) (b4 : xinb (i + 4) (xN u 2000000)) (b5 : xinb (i + 5) (xN u 2000000)) (b6 : xinb (i + 6) (xN u 2000000)) (b7 : xinb (i + 7) (xN u 2000000)) (hn : ∀ u2 v5 v6, Fr u u2 → Inv u2 → zl I 0 2238 [.ref 2000000, .ref 0, .ref 278, .ref 295, .int i, v5, v6] [] u2 P) : zl I 0 2144 [.ref 2000000, .ref 0, .ref 278, .ref 295, .int i, v5, v6] [] u P := by
  obtain ⟨hT, D, E, s, nl, np, nb, nc, nr, nh, nk, n, nf, na, f, op, h⟩ := hI
  have g1 := h.sp.1
  have g2 : xIs u 278 11 := h.1.2.2.2.2.2.2.2.2.2.1.1
  have g3 : xIs u 295 14 := h.1.2.2.2.2.2.2.2.2.2.2.1
  have g4 : xN u 295 = 1 := h.1.2.2.2.2.2.2.2.2.2.2.2
  simp only [q0_2144, q0_2145, q0_2146, q0_2148, q0_2149, q0_2150, q0_2151, q0_2152, b1, true_and, and_true, Option.some.injEq, exists_eq_left', Option.toList_some, Option.toList_none, List.cons_append, List.nil_append, xcat_nil, xcat_int, xcat_ref, xcat_long, not_true, not_false_iff, if_true, if_false, and_self, and_false, false_and, or_true, true_or, or_self, z01, z10, zle8, Nat.reduceAdd, Nat.reduceLeDiff]
  generalize hk : xI u 2000000 (xix (i + 1)) = k
  have iC := fun P => idleC_t (k := k) (P := P) h
  obtain ⟨d1, d2⟩ := hId k u g1 g3 (by omega)
  have tr : ∀ w z, Tr w → Tr (xsI (mThr w) 278 0 z) := fun w z q => by
    unfold Tr at q ⊢
    unfold mThr
    rw [xI_ne (by omega), xI_ne (by omega), xI_ne (by omega), xI_ne (by omega), xI_ne (by omega), xI_ne (by omega), xI_ne (by omega), xI_ne (by omega)]
    exact q
  have ag : ∀ (w : xMem) z, xag SC w (xsI (mThr w) 278 0 z) := fun w z => ⟨rfl, rfl, fun a j q => by
    have : a ≠ 278 ∨ j ≠ 0 := by
      by_cases y : a = 278
      · exact Or.inr (fun y2 => q (by unfold SC; omega))
      · exact Or.inl y
    unfold mThr
    rw [xI_ne this, xI_ne this]⟩
  generalize hr : (if op = true then fId (fun j => anyR (bMe u (nI j)) n 0) np 0 k else none) = r at iC
  cases r with
  | none =>
    rw [zl_idl (d2 iC)]
    have iM := fun P => idleM_t (k := k) (P := P) h xag.rf
    simp only [hr, if_true, Option.getD_none] at iM
    simp only [q0_2155, q0_2157, q0_2158, q0_2159, q0_2161, q0_2162, q0_2163, q0_2164, g2, b1, hk, true_and, and_true, Option.some.injEq, exists_eq_left', Option.toList_some, Option.toList_none, List.cons_append, List.nil_append, xcat_nil, xcat_int, xcat_ref, xcat_long, not_true, not_false_iff, if_true, if_false, and_self, and_false, false_and, or_true, true_or, or_self, z01, z10, zle8, Nat.reduceAdd, Nat.reduceLeDiff]
    refine zl_of ?_
    rw [iM]
    have i1 : xIs (xsI (mThr u) 278 0 1) 278 11 := g2
    have et : xI (xsI (mThr u) 278 0 1) 278 0 = 1 := xI_at
    simp only [q0_2167, q0_2169, q0_2170, i1, true_and, and_true, Option.some.injEq, exists_eq_left', Option.toList_some, Option.toList_none, List.cons_append, List.nil_append, xcat_nil, xcat_int, xcat_ref, xcat_long, not_true, not_false_iff, if_true, if_false, and_self, and_false, false_and, or_true, true_or, or_self, z01, z10, zle8, Nat.reduceAdd, Nat.reduceLeDiff]
    refine zl_of ?_
    rw [thrown_run i1, et]
    simp only [q0_2173, q0_2175, q0_2178, q0_2179, q0_2180, q0_2182, q0_2185, q0_2186, q0_2187, q0_2188, q0_2190, q0_2191, q0_2192, q0_2195, q0_2196, q0_2197, true_and, and_true, Option.some.injEq, exists_eq_left', Option.toList_some, Option.toList_none, List.cons_append, List.nil_append, xcat_nil, xcat_int, xcat_ref, xcat_long, not_true, not_false_iff, if_true, if_false, and_self, and_false, false_and, or_true, true_or, or_self, z01, z10, zle8, Nat.reduceAdd, Nat.reduceLeDiff]
    exact hn _ _ _ ⟨rfl, rfl, funext fun j => (xI_ne (by omega)).trans (xI_ne (by omega))⟩ ⟨tr u 1 hT, D, E, s, nl, np, nb, nc, nr, nh, nk, n, nf, na, f, op, h.ag (ag u 1)⟩
  | some p =>
    rw [zl_idl (d1 p iC)]
    have h' : St (xsJ u 295 0 p.toInt64) D E s nl np nb nc nr nh nk n nf na f op := h
    have hT' : Tr (xsJ u 295 0 p.toInt64) := hT
    have iM := fun P => idleM_t (k := k) (P := P) h' xag.rf
    have hr' : (if op = true then fId (fun j => anyR (bMe (xsJ u 295 0 p.toInt64) (nI j)) n 0) np 0 k else none) = some p := hr
    simp only [hr', reduceCtorEq, if_false, Option.getD_some] at iM
    have g2' : xIs (xsJ u 295 0 p.toInt64) 278 11 := g2
    have b1' : xinb (i + 1) (xN (xsJ u 295 0 p.toInt64) 2000000) := b1
    have hk' : xI (xsJ u 295 0 p.toInt64) 2000000 (xix (i + 1)) = k := hk
    simp only [q0_2155, q0_2157, q0_2158, q0_2159, q0_2161, q0_2162, q0_2163, q0_2164, g2', b1', hk', true_and, and_true, Option.some.injEq, exists_eq_left', Option.toList_some, Option.toList_none, List.cons_append, List.nil_append, xcat_nil, xcat_int, xcat_ref, xcat_long, not_true, not_false_iff, if_true, if_false, and_self, and_false, false_and, or_true, true_or, or_self, z01, z10, zle8, Nat.reduceAdd, Nat.reduceLeDiff]
    refine zl_of ?_
    rw [iM]
    have i1 : xIs (xsI (mThr (xsJ u 295 0 p.toInt64)) 278 0 0) 278 11 := g2
    have et : xI (xsI (mThr (xsJ u 295 0 p.toInt64)) 278 0 0) 278 0 = 0 := xI_at
    simp only [q0_2167, q0_2169, q0_2170, i1, true_and, and_true, Option.some.injEq, exists_eq_left', Option.toList_some, Option.toList_none, List.cons_append, List.nil_append, xcat_nil, xcat_int, xcat_ref, xcat_long, not_true, not_false_iff, if_true, if_false, and_self, and_false, false_and, or_true, true_or, or_self, z01, z10, zle8, Nat.reduceAdd, Nat.reduceLeDiff]
    refine zl_of ?_
    rw [thrown_run i1, et]
    have i3 : xIs (xsI (mThr (xsJ u 295 0 p.toInt64)) 278 0 0) 295 14 := g3
    have i4 : xN (xsI (mThr (xsJ u 295 0 p.toInt64)) 278 0 0) 295 = 1 := g4
    have ej : xJ (xsI (mThr (xsJ u 295 0 p.toInt64)) 278 0 0) 295 (xix 0) = p.toInt64 := by
      show (if 295 = 295 ∧ xix 0 = 0 then p.toInt64 else xJ u 295 (xix 0)) = p.toInt64
      exact if_pos ⟨rfl, rfl⟩
    have ib : xinb 0 1 := ⟨by decide, by decide⟩
    simp only [q0_2173, q0_2175, q0_2178, q0_2179, q0_2180, q0_2182, q0_2185, q0_2186, q0_2187, q0_2188, q0_2190, q0_2191, q0_2192, q0_2195, q0_2196, q0_2197, i3, i4, ib, ej, lgc0, true_and, and_true, Option.some.injEq, exists_eq_left', Option.toList_some, Option.toList_none, List.cons_append, List.nil_append, xcat_nil, xcat_int, xcat_ref, xcat_long, not_true, not_false_iff, if_true, if_false, and_self, and_false, false_and, or_true, true_or, or_self, z01, z10, zle8, Nat.reduceAdd, Nat.reduceLeDiff]
    exact hn _ _ _ ⟨rfl, rfl, funext fun j => (xI_ne (by omega)).trans (xI_ne (by omega))⟩ ⟨tr _ 0 hT', D, E, s, nl, np, nb, nc, nr, nh, nk, n, nf, na, f, op, h'.ag (ag _ 0)⟩
end
