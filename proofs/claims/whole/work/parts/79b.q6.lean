/-! QUERIES of points: the model's loops -/
section
variable {u w g : xMem} {P : Option Value → xMem → Prop} {D E s nl np nb nc nr nh nk n nf na f : Nat} {p q d x y c e k a t i l what many layer till price units : Int32} {op : Bool}
theorem Mx.cf (h : Mx u g D s nl np nb nc nr nh nk) : xIs u 278 11 ∧ xR u 278 3 = some 279 ∧ xIs u 279 13 ∧ xN u 279 = 402 ∧ xI u 279 0 = nI s ∧ xI u 279 1 = nI nl ∧ xR u 278 17 = some 284 ∧ xR u 278 18 = some 285 ∧ (xIs u 284 13 ∧ xN u 284 = 4) ∧ xIs u 285 13 ∧ xN u 285 = 4 := by
  obtain ⟨e0, e1, -⟩ := h.2.1.1.e h.2.2
  obtain ⟨h0, ⟨r3, -, -, -, -, r17, r18, -⟩, ⟨j0, k0⟩, -, -, -, -, j4, j5, -⟩ := h.1
  exact ⟨h0, r3, j0, k0, e0, e1, r17, r18, j4, j5⟩
theorem overlapM_row (h : Mx u g D s nl np nb nc nr nh nk) {i j yy : Nat} (hy : yy ≤ s) {A : Int32} : ∀ r x, x + r = s + 1 →
    zr 241 92 [.ref 278, .int (nI i), .int (nI j), .int d, .int (A + sumN (fSh (xI g (D + 8)) (xI g (D + 9)) (xI g (D + 7)) (dCh g D nb d i) (dCh g D nb d j) yy) x), .int (nI yy), .int (nI x)] [] u P
      = zr 241 145 [.ref 278, .int (nI i), .int (nI j), .int d, .int (A + sumN (fSh (xI g (D + 8)) (xI g (D + 9)) (xI g (D + 7)) (dCh g D nb d i) (dCh g D nb d j) yy) (s + 1)), .int (nI yy), .int (nI (s + 1))] [] u P := by
  have hb := h.2.1.1.b
  obtain ⟨h0, r3, j0, k0, e0, -⟩ := h.cf
  intro r
  induction r with
  | zero =>
    intro x hx
    have : x = s + 1 := by omega
    subst this
    rw [r241_92]
    simp (disch := omega) only [r241_94, r241_95, r241_98, r241_99, r241_100, h0, r3, j0, k0, e0, xinbT, xixT, leT, leF, ltT, ltF, ngF, psT, n1F, n2F, km2, km3, km4, km5, km10, km15, km25, kl8, kl14, kl24, kl34, kl274, kl354, kl384, kr1, kr2, kr3, kr4, kr5, kr6, kr7, kr8, kr9, kaa, lb0, lb1, lb2, lb3, lb4, lb5, lb6, lb7, li0, li1, li2, li3, li4, li5, li6, li7, true_and, and_true, Option.some.injEq, exists_eq_left', Option.toList_some, Option.toList_none, List.cons_append, List.nil_append, xcat_nil, xcat_int, xcat_ref, xcat_long, not_true, not_false_iff, if_true, if_false, and_self, and_false, false_and, or_true, true_or, or_self, z01, z10, zle8, Nat.reduceAdd, Nat.reduceLeDiff]
  | succ r ih =>
    intro x hx
    have ih := ih (x + 1) (by omega)
    simp only [sumN, fSh] at ih
    have h1 : ∀ P, zr 230 0 [.ref 278, .int (nI i), .int d, .int (nI x), .int (nI yy), .null, .null, .null, .null] [] u P = P (some (.int (bI (fHold (xI g (D + 8)) (xI g (D + 9)) (xI g (D + 7)) (nI x) (nI yy) (dCh g D nb d i))))) u := fun P => isIn_run h.1 h.2.1.1 h.2.2 h.2.1.2.1 (by omega) (by omega)
    have h2 : ∀ P, zr 230 0 [.ref 278, .int (nI j), .int d, .int (nI x), .int (nI yy), .null, .null, .null, .null] [] u P = P (some (.int (bI (fHold (xI g (D + 8)) (xI g (D + 9)) (xI g (D + 7)) (nI x) (nI yy) (dCh g D nb d j))))) u := fun P => isIn_run h.1 h.2.1.1 h.2.2 h.2.1.2.1 (by omega) (by omega)
    rw [r241_92]
    simp (disch := omega) only [r241_94, r241_95, r241_98, r241_99, r241_100, r241_103, r241_105, r241_106, r241_107, r241_108, r241_110, r241_112, r241_115, r241_118, r241_119, r241_120, r241_121, r241_123, r241_125, r241_128, r241_131, r241_132, r241_135, r241_136, r241_137, r241_139, r241_142, h0, r3, j0, k0, e0, h1, h2, bI_0, xinbT, xixT, leT, leF, ltT, ltF, ngF, psT, n1F, n2F, km2, km3, km4, km5, km10, km15, km25, kl8, kl14, kl24, kl34, kl274, kl354, kl384, kr1, kr2, kr3, kr4, kr5, kr6, kr7, kr8, kr9, kaa, lb0, lb1, lb2, lb3, lb4, lb5, lb6, lb7, li0, li1, li2, li3, li4, li5, li6, li7, true_and, and_true, Option.some.injEq, exists_eq_left', Option.toList_some, Option.toList_none, List.cons_append, List.nil_append, xcat_nil, xcat_int, xcat_ref, xcat_long, not_true, not_false_iff, if_true, if_false, and_self, and_false, false_and, or_true, true_or, or_self, z01, z10, zle8, Nat.reduceAdd, Nat.reduceLeDiff]
    rw [Int32.add_assoc]
    cases c1 : fHold (xI g (D + 8)) (xI g (D + 9)) (xI g (D + 7)) (nI x) (nI yy) (dCh g D nb d i) <;> cases c2 : fHold (xI g (D + 8)) (xI g (D + 9)) (xI g (D + 7)) (nI x) (nI yy) (dCh g D nb d j) <;> simp only [c1, c2, Bool.true_eq_false, Bool.false_eq_true, Int32.add_assoc, true_and, and_true, Option.some.injEq, exists_eq_left', Option.toList_some, Option.toList_none, List.cons_append, List.nil_append, xcat_nil, xcat_int, xcat_ref, xcat_long, not_true, not_false_iff, if_true, if_false, and_self, and_false, false_and, or_true, true_or, or_self, z01, z10, zle8, Nat.reduceAdd, Nat.reduceLeDiff] at ih ⊢ <;> exact ih
theorem overlapM_tail (h : Mx u g D s nl np nb nc nr nh nk) {i j : Nat} : zr 241 72 [.ref 278, .int (nI i), .int (nI j), .int d, .null, .null, .null] [] u P = P (some (.int (dShr g D nb s d i j))) (mGood u) := by
  have hb := h.2.1.1.b
  have hr := fun yy (hy : yy ≤ s) A P => overlapM_row (P := P) (d := d) (i := i) (j := j) (A := A) h hy (s + 1) 0 (by omega)
  obtain ⟨h0, r3, j0, k0, e0, -⟩ := h.cf
  unfold dShr
  have lp : ∀ r yy (v : Value), yy + r = s + 1 → zr 241 78 [.ref 278, .int (nI i), .int (nI j), .int d, .int (sumN (fun yy => sumN (fSh (xI g (D + 8)) (xI g (D + 9)) (xI g (D + 7)) (dCh g D nb d i) (dCh g D nb d j) yy) (s + 1)) yy), .int (nI yy), v] [] u P = P (some (.int (sumN (fun yy => sumN (fSh (xI g (D + 8)) (xI g (D + 9)) (xI g (D + 7)) (dCh g D nb d i) (dCh g D nb d j) yy) (s + 1)) (s + 1)))) (mGood u) := by
    intro r
    induction r with
    | zero =>
      intro yy v hy
      have : yy = s + 1 := by omega
      subst this
      rw [r241_78]
      simp (disch := omega) only [r241_80, r241_81, r241_84, r241_85, r241_86, r241_151, r241_152, r241_154, r241_157, h0, r3, j0, k0, e0, good_run h0, xinbT, xixT, leT, leF, ltT, ltF, ngF, psT, n1F, n2F, km2, km3, km4, km5, km10, km15, km25, kl8, kl14, kl24, kl34, kl274, kl354, kl384, kr1, kr2, kr3, kr4, kr5, kr6, kr7, kr8, kr9, kaa, lb0, lb1, lb2, lb3, lb4, lb5, lb6, lb7, li0, li1, li2, li3, li4, li5, li6, li7, true_and, and_true, Option.some.injEq, exists_eq_left', Option.toList_some, Option.toList_none, List.cons_append, List.nil_append, xcat_nil, xcat_int, xcat_ref, xcat_long, not_true, not_false_iff, if_true, if_false, and_self, and_false, false_and, or_true, true_or, or_self, z01, z10, zle8, Nat.reduceAdd, Nat.reduceLeDiff]
    | succ r ih =>
      intro yy v hy
      have ih := ih (yy + 1) (.int (nI (s + 1))) (by omega)
      have hr := hr yy (by omega) (sumN (fun yy => sumN (fSh (xI g (D + 8)) (xI g (D + 9)) (xI g (D + 7)) (dCh g D nb d i) (dCh g D nb d j) yy) (s + 1)) yy) P
      simp only [sumN, Int32.add_zero] at hr ih
      rw [r241_78]
      simp (disch := omega) only [r241_80, r241_81, r241_84, r241_85, r241_86, r241_89, r241_90, h0, r3, j0, k0, e0, xinbT, xixT, leT, leF, ltT, ltF, ngF, psT, n1F, n2F, km2, km3, km4, km5, km10, km15, km25, kl8, kl14, kl24, kl34, kl274, kl354, kl384, kr1, kr2, kr3, kr4, kr5, kr6, kr7, kr8, kr9, kaa, lb0, lb1, lb2, lb3, lb4, lb5, lb6, lb7, li0, li1, li2, li3, li4, li5, li6, li7, true_and, and_true, Option.some.injEq, exists_eq_left', Option.toList_some, Option.toList_none, List.cons_append, List.nil_append, xcat_nil, xcat_int, xcat_ref, xcat_long, not_true, not_false_iff, if_true, if_false, and_self, and_false, false_and, or_true, true_or, or_self, z01, z10, zle8, Nat.reduceAdd, Nat.reduceLeDiff]
      refine hr.trans ?_
      rw [r241_145, r241_148, nI_1]
      exact ih
  simp only [r241_72, r241_73, r241_75, r241_76]
  exact lp (s + 1) 0 .null (by omega)
theorem pointsM_row (h : Mx u g D s nl np nb nc nr nh nk) {i yy : Nat} (hi : i < np) (hy : yy ≤ s) {A k' : Int32} : ∀ r x, x + r = s + 1 →
    zr 242 46 [.ref 278, .int (nI i), .int d, .int k', .int (A + sumN (fStl (xI g (D + 2)) (dCh g D nb d) (xI g (D + 8)) (xI g (D + 9)) (xI g (D + 7)) np i yy) x), .int (nI yy), .int (nI x)] [] u P
      = zr 242 95 [.ref 278, .int (nI i), .int d, .int k', .int (A + sumN (fStl (xI g (D + 2)) (dCh g D nb d) (xI g (D + 8)) (xI g (D + 9)) (xI g (D + 7)) np i yy) (s + 1)), .int (nI yy), .int (nI (s + 1))] [] u P := by
  have hb := h.2.1.1.b
  have hl := (h.2.2.2.2.1 i hi).1
  obtain ⟨h0, r3, j0, k0, e0, -⟩ := h.cf
  intro r
  induction r with
  | zero =>
    intro x hx
    have : x = s + 1 := by omega
    subst this
    rw [r242_46]
    simp (disch := omega) only [r242_48, r242_49, r242_52, r242_53, r242_54, h0, r3, j0, k0, e0, xinbT, xixT, leT, leF, ltT, ltF, ngF, psT, n1F, n2F, km2, km3, km4, km5, km10, km15, km25, kl8, kl14, kl24, kl34, kl274, kl354, kl384, kr1, kr2, kr3, kr4, kr5, kr6, kr7, kr8, kr9, kaa, lb0, lb1, lb2, lb3, lb4, lb5, lb6, lb7, li0, li1, li2, li3, li4, li5, li6, li7, true_and, and_true, Option.some.injEq, exists_eq_left', Option.toList_some, Option.toList_none, List.cons_append, List.nil_append, xcat_nil, xcat_int, xcat_ref, xcat_long, not_true, not_false_iff, if_true, if_false, and_self, and_false, false_and, or_true, true_or, or_self, z01, z10, zle8, Nat.reduceAdd, Nat.reduceLeDiff]
  | succ r ih =>
    intro x hx
    have ih := ih (x + 1) (by omega)
    simp only [sumN, fStl] at ih
    have h1 := fun layer P => settledIn_run (P := P) (layer := layer) (d := d) h.1 h.2.1.1 h.2.2 h.2.1.2.1 (px := x) (py := yy) (by omega) (by omega)
    rw [r242_46]
    simp (disch := omega) only [r242_48, r242_49, r242_52, r242_53, r242_54, r242_57, r242_59, r242_60, r242_61, r242_64, r242_66, r242_67, r242_68, r242_69, r242_70, r242_72, r242_74, r242_77, r242_78, r242_81, r242_82, r242_85, r242_86, r242_87, r242_89, r242_92, h0, r3, j0, k0, e0, hl, h1, xinbT, xixT, leT, leF, ltT, ltF, ngF, psT, n1F, n2F, km2, km3, km4, km5, km10, km15, km25, kl8, kl14, kl24, kl34, kl274, kl354, kl384, kr1, kr2, kr3, kr4, kr5, kr6, kr7, kr8, kr9, kaa, lb0, lb1, lb2, lb3, lb4, lb5, lb6, lb7, li0, li1, li2, li3, li4, li5, li6, li7, true_and, and_true, Option.some.injEq, exists_eq_left', Option.toList_some, Option.toList_none, List.cons_append, List.nil_append, xcat_nil, xcat_int, xcat_ref, xcat_long, not_true, not_false_iff, if_true, if_false, and_self, and_false, false_and, or_true, true_or, or_self, z01, z10, zle8, Nat.reduceAdd, Nat.reduceLeDiff]
    rw [Int32.add_assoc]
    by_cases c1 : fSet (xI g (D + 2)) (dCh g D nb d) (xI g (D + 8)) (xI g (D + 9)) (xI g (D + 7)) (xI g (D + 2) i) (nI x) (nI yy) np 0 = nI i <;> simp only [c1, Int32.add_assoc, true_and, and_true, Option.some.injEq, exists_eq_left', Option.toList_some, Option.toList_none, List.cons_append, List.nil_append, xcat_nil, xcat_int, xcat_ref, xcat_long, not_true, not_false_iff, if_true, if_false, and_self, and_false, false_and, or_true, true_or, or_self, z01, z10, zle8, Nat.reduceAdd, Nat.reduceLeDiff] at ih ⊢ <;> exact ih
theorem pointsM_tail (h : Mx u g D s nl np nb nc nr nh nk) {i : Nat} {k' : Int32} (hi : i < np) : zr 242 26 [.ref 278, .int (nI i), .int d, .int k', .null, .null, .null] [] u P = P (some (.int (dPts g D nb np s d i))) (mGood u) := by
  have hb := h.2.1.1.b
  have hr := fun yy (hy : yy ≤ s) A P => pointsM_row (P := P) (d := d) (k' := k') (A := A) h hi hy (s + 1) 0 (by omega)
  obtain ⟨h0, r3, j0, k0, e0, -⟩ := h.cf
  unfold dPts
  have lp : ∀ r yy (v : Value), yy + r = s + 1 → zr 242 32 [.ref 278, .int (nI i), .int d, .int k', .int (sumN (fun yy => sumN (fStl (xI g (D + 2)) (dCh g D nb d) (xI g (D + 8)) (xI g (D + 9)) (xI g (D + 7)) np i yy) (s + 1)) yy), .int (nI yy), v] [] u P = P (some (.int (sumN (fun yy => sumN (fStl (xI g (D + 2)) (dCh g D nb d) (xI g (D + 8)) (xI g (D + 9)) (xI g (D + 7)) np i yy) (s + 1)) (s + 1)))) (mGood u) := by
    intro r
    induction r with
    | zero =>
      intro yy v hy
      have : yy = s + 1 := by omega
      subst this
      rw [r242_32]
      simp (disch := omega) only [r242_34, r242_35, r242_38, r242_39, r242_40, r242_101, r242_102, r242_104, r242_107, h0, r3, j0, k0, e0, good_run h0, xinbT, xixT, leT, leF, ltT, ltF, ngF, psT, n1F, n2F, km2, km3, km4, km5, km10, km15, km25, kl8, kl14, kl24, kl34, kl274, kl354, kl384, kr1, kr2, kr3, kr4, kr5, kr6, kr7, kr8, kr9, kaa, lb0, lb1, lb2, lb3, lb4, lb5, lb6, lb7, li0, li1, li2, li3, li4, li5, li6, li7, true_and, and_true, Option.some.injEq, exists_eq_left', Option.toList_some, Option.toList_none, List.cons_append, List.nil_append, xcat_nil, xcat_int, xcat_ref, xcat_long, not_true, not_false_iff, if_true, if_false, and_self, and_false, false_and, or_true, true_or, or_self, z01, z10, zle8, Nat.reduceAdd, Nat.reduceLeDiff]
    | succ r ih =>
      intro yy v hy
      have ih := ih (yy + 1) (.int (nI (s + 1))) (by omega)
      have hr := hr yy (by omega) (sumN (fun yy => sumN (fStl (xI g (D + 2)) (dCh g D nb d) (xI g (D + 8)) (xI g (D + 9)) (xI g (D + 7)) np i yy) (s + 1)) yy) P
      simp only [sumN, Int32.add_zero] at hr ih
      rw [r242_32]
      simp (disch := omega) only [r242_34, r242_35, r242_38, r242_39, r242_40, r242_43, r242_44, h0, r3, j0, k0, e0, xinbT, xixT, leT, leF, ltT, ltF, ngF, psT, n1F, n2F, km2, km3, km4, km5, km10, km15, km25, kl8, kl14, kl24, kl34, kl274, kl354, kl384, kr1, kr2, kr3, kr4, kr5, kr6, kr7, kr8, kr9, kaa, lb0, lb1, lb2, lb3, lb4, lb5, lb6, lb7, li0, li1, li2, li3, li4, li5, li6, li7, true_and, and_true, Option.some.injEq, exists_eq_left', Option.toList_some, Option.toList_none, List.cons_append, List.nil_append, xcat_nil, xcat_int, xcat_ref, xcat_long, not_true, not_false_iff, if_true, if_false, and_self, and_false, false_and, or_true, true_or, or_self, z01, z10, zle8, Nat.reduceAdd, Nat.reduceLeDiff]
      refine hr.trans ?_
      rw [r242_95, r242_98, nI_1]
      exact ih
  simp only [r242_26, r242_27, r242_29, r242_30]
  exact lp (s + 1) 0 .null (by omega)
theorem stackedM_row (h : Mx u g D s nl np nb nc nr nh nk) {yy : Nat} (hy : yy ≤ s) {A : Int32} (hP : ∀ v, xag SCm u v → zr 243 101 [.ref 278, .int many, .int d, .int (A + sumN (dMn1 g D nb np nl d many yy) (s + 1)), .int (nI yy), .int (nI (s + 1))] [] v P) : ∀ r x w, x + r = s + 1 → xag SCm u w →
    zr 243 59 [.ref 278, .int many, .int d, .int (A + sumN (dMn1 g D nb np nl d many yy) x), .int (nI yy), .int (nI x)] [] w P := by
  have hb := h.2.1.1.b
  intro r
  induction r with
  | zero =>
    intro x w hx hw
    have : x = s + 1 := by omega
    subst this
    obtain ⟨h0, r3, j0, k0, e0, -⟩ := (h.ag hw.m).cf
    rw [r243_59]
    simp (disch := omega) only [r243_61, r243_62, r243_65, r243_66, r243_67, h0, r3, j0, k0, e0, xinbT, xixT, leT, leF, ltT, ltF, ngF, psT, n1F, n2F, km2, km3, km4, km5, km10, km15, km25, kl8, kl14, kl24, kl34, kl274, kl354, kl384, kr1, kr2, kr3, kr4, kr5, kr6, kr7, kr8, kr9, kaa, lb0, lb1, lb2, lb3, lb4, lb5, lb6, lb7, li0, li1, li2, li3, li4, li5, li6, li7, true_and, and_true, Option.some.injEq, exists_eq_left', Option.toList_some, Option.toList_none, List.cons_append, List.nil_append, xcat_nil, xcat_int, xcat_ref, xcat_long, not_true, not_false_iff, if_true, if_false, and_self, and_false, false_and, or_true, true_or, or_self, z01, z10, zle8, Nat.reduceAdd, Nat.reduceLeDiff]
    exact hP w hw
  | succ r ih =>
    intro x w hx hw
    have hx' := h.ag hw.m
    obtain ⟨h0, r3, j0, k0, e0, -, r17, -⟩ := hx'.cf
    have hl : (dStk g D nb np nl d (nI x) (nI yy)).length ≤ nl := dStk_len
    have h1 := fun P => laysStack_run (P := P) (d := d) (ra := 284) hx'.1 hx'.2.1.1 hx'.2.2 hx'.2.1.2.1 hx'.2.1.2.2.1 (Or.inl rfl) (px := x) (py := yy) (by omega) (by omega)
    have ih := ih (x + 1) (xrow w 284 (dStk g D nb np nl d (nI x) (nI yy))) (by omega) (hw.tr (ag_row (Or.inl rfl)))
    simp only [sumN, dMn1] at ih
    rw [r243_59]
    simp (disch := omega) only [r243_61, r243_62, r243_65, r243_66, r243_67, r243_70, r243_71, r243_72, r243_73, r243_75, r243_77, r243_78, r243_81, r243_84, r243_85, r243_88, r243_89, r243_92, r243_93, r243_94, r243_95, r243_98, h0, r3, j0, k0, e0, r17, h1, xinbT, xixT, leT, leF, ltT, ltF, ngF, psT, n1F, n2F, km2, km3, km4, km5, km10, km15, km25, kl8, kl14, kl24, kl34, kl274, kl354, kl384, kr1, kr2, kr3, kr4, kr5, kr6, kr7, kr8, kr9, kaa, lb0, lb1, lb2, lb3, lb4, lb5, lb6, lb7, li0, li1, li2, li3, li4, li5, li6, li7, true_and, and_true, Option.some.injEq, exists_eq_left', Option.toList_some, Option.toList_none, List.cons_append, List.nil_append, xcat_nil, xcat_int, xcat_ref, xcat_long, not_true, not_false_iff, if_true, if_false, and_self, and_false, false_and, or_true, true_or, or_self, z01, z10, zle8, Nat.reduceAdd, Nat.reduceLeDiff]
    rw [Int32.add_assoc]
    by_cases c1 : nI (dStk g D nb np nl d (nI x) (nI yy)).length = many <;> simp only [c1, Int32.add_assoc, true_and, and_true, Option.some.injEq, exists_eq_left', Option.toList_some, Option.toList_none, List.cons_append, List.nil_append, xcat_nil, xcat_int, xcat_ref, xcat_long, not_true, not_false_iff, if_true, if_false, and_self, and_false, false_and, or_true, true_or, or_self, z01, z10, zle8, Nat.reduceAdd, Nat.reduceLeDiff] at ih ⊢ <;> exact ih
theorem stackedM_tail (h : Mx u g D s nl np nb nc nr nh nk) (hP : ∀ v, xag SCm u v → xI v 278 1 = 0 → xI v 278 2 = -1 → P (some (.int (dMny g D nb np nl s d many))) v) : zr 243 40 [.ref 278, .int many, .int d, .null, .null, .null] [] u P := by
  have hb := h.2.1.1.b
  unfold dMny at hP
  have lp : ∀ r yy w (v : Value), yy + r = s + 1 → xag SCm u w → zr 243 45 [.ref 278, .int many, .int d, .int (sumN (fun yy => sumN (dMn1 g D nb np nl d many yy) (s + 1)) yy), .int (nI yy), v] [] w P := by
    intro r
    induction r with
    | zero =>
      intro yy w v hy hw
      have : yy = s + 1 := by omega
      subst this
      obtain ⟨h0, r3, j0, k0, e0, -⟩ := (h.ag hw.m).cf
      rw [r243_45]
      simp (disch := omega) only [r243_47, r243_48, r243_51, r243_52, r243_53, r243_107, r243_108, r243_109, r243_112, h0, r3, j0, k0, e0, good_run h0, xinbT, xixT, leT, leF, ltT, ltF, ngF, psT, n1F, n2F, km2, km3, km4, km5, km10, km15, km25, kl8, kl14, kl24, kl34, kl274, kl354, kl384, kr1, kr2, kr3, kr4, kr5, kr6, kr7, kr8, kr9, kaa, lb0, lb1, lb2, lb3, lb4, lb5, lb6, lb7, li0, li1, li2, li3, li4, li5, li6, li7, true_and, and_true, Option.some.injEq, exists_eq_left', Option.toList_some, Option.toList_none, List.cons_append, List.nil_append, xcat_nil, xcat_int, xcat_ref, xcat_long, not_true, not_false_iff, if_true, if_false, and_self, and_false, false_and, or_true, true_or, or_self, z01, z10, zle8, Nat.reduceAdd, Nat.reduceLeDiff]
      exact QM.good hP hw
    | succ r ih =>
      intro yy w v hy hw
      have hx' := h.ag hw.m
      obtain ⟨h0, r3, j0, k0, e0, -⟩ := hx'.cf
      have hr := stackedM_row (P := P) (d := d) (many := many) (A := sumN (fun yy => sumN (dMn1 g D nb np nl d many yy) (s + 1)) yy) hx' (yy := yy) (by omega) (fun v hv => by
        have ih := ih (yy + 1) v (.int (nI (s + 1))) (by omega) (hw.tr hv)
        simp only [sumN] at ih
        rw [r243_101, r243_104, nI_1]
        exact ih) (s + 1) 0 w (by omega) xag.rf
      simp only [sumN, Int32.add_zero] at hr
      rw [r243_45]
      simp (disch := omega) only [r243_47, r243_48, r243_51, r243_52, r243_53, r243_56, r243_57, h0, r3, j0, k0, e0, xinbT, xixT, leT, leF, ltT, ltF, ngF, psT, n1F, n2F, km2, km3, km4, km5, km10, km15, km25, kl8, kl14, kl24, kl34, kl274, kl354, kl384, kr1, kr2, kr3, kr4, kr5, kr6, kr7, kr8, kr9, kaa, lb0, lb1, lb2, lb3, lb4, lb5, lb6, lb7, li0, li1, li2, li3, li4, li5, li6, li7, true_and, and_true, Option.some.injEq, exists_eq_left', Option.toList_some, Option.toList_none, List.cons_append, List.nil_append, xcat_nil, xcat_int, xcat_ref, xcat_long, not_true, not_false_iff, if_true, if_false, and_self, and_false, false_and, or_true, true_or, or_self, z01, z10, zle8, Nat.reduceAdd, Nat.reduceLeDiff]
      exact hr
  simp only [r243_40, r243_41, r243_42, r243_43]
  exact lp (s + 1) 0 u .null (by omega) xag.rf
/-! the cheapest point -/
def mChp (f : Nat → Nat → Int32) (y : Nat) : Nat → Int32 × Int32 → Int32 × Int32
  | 0, z => z
  | k + 1, z => if f y k < (mChp f y k z).1 then (f y k, nI k + 100 * nI y) else mChp f y k z
def mChq (f : Nat → Nat → Int32) (s : Nat) : Nat → Int32 × Int32 → Int32 × Int32
  | 0, z => z
  | k + 1, z => mChp f k (s + 1) (mChq f s k z)
theorem cheapM_row (h : Mx u g D s nl np nb nc nr nh nk) {j : Nat} (hj : j < nc) {yy : Nat} (hy : yy ≤ s) {z : Int32 × Int32} {k' : Int32} (hP : ∀ v v8, xag SCm u v → zr 254 109 [.ref 278, .int d, .int (nI j), .int k', .int (mChp (fun y x => dSr g D nb np nl nr (nI j) d (nI x) (nI y)) yy (s + 1) z).2, .int (mChp (fun y x => dSr g D nb np nl nr (nI j) d (nI x) (nI y)) yy (s + 1) z).1, .int (nI yy), .int (nI (s + 1)), v8] [] v P) : ∀ r x w v8, x + r = s + 1 → xag SCm u w →
    zr 254 56 [.ref 278, .int d, .int (nI j), .int k', .int (mChp (fun y x => dSr g D nb np nl nr (nI j) d (nI x) (nI y)) yy x z).2, .int (mChp (fun y x => dSr g D nb np nl nr (nI j) d (nI x) (nI y)) yy x z).1, .int (nI yy), .int (nI x), v8] [] w P := by
  have hb := h.2.1.1.b
  intro r
  induction r with
  | zero =>
    intro x w v8 hx hw
    have : x = s + 1 := by omega
    subst this
    obtain ⟨h0, r3, j0, k0, e0, -⟩ := (h.ag hw.m).cf
    rw [r254_56]
    simp (disch := omega) only [r254_58, r254_59, r254_62, r254_63, r254_64, h0, r3, j0, k0, e0, xinbT, xixT, leT, leF, ltT, ltF, ngF, psT, n1F, n2F, km2, km3, km4, km5, km10, km15, km25, kl8, kl14, kl24, kl34, kl274, kl354, kl384, kr1, kr2, kr3, kr4, kr5, kr6, kr7, kr8, kr9, kaa, lb0, lb1, lb2, lb3, lb4, lb5, lb6, lb7, li0, li1, li2, li3, li4, li5, li6, li7, true_and, and_true, Option.some.injEq, exists_eq_left', Option.toList_some, Option.toList_none, List.cons_append, List.nil_append, xcat_nil, xcat_int, xcat_ref, xcat_long, not_true, not_false_iff, if_true, if_false, and_self, and_false, false_and, or_true, true_or, or_self, z01, z10, zle8, Nat.reduceAdd, Nat.reduceLeDiff]
    exact hP w v8 hw
  | succ r ih =>
    intro x w v8 hx hw
    have hx' := h.ag hw.m
    obtain ⟨h0, r3, j0, k0, e0, -⟩ := hx'.cf
    have h1 := fun P => stackRateOf_run (P := P) (d := d) hx' hj (px := x) (py := yy) (by omega) (by omega)
    have ih := ih (x + 1) (xrow w 284 (dStk g D nb np nl d (nI x) (nI yy))) (.int (dSr g D nb np nl nr (nI j) d (nI x) (nI yy))) (by omega) (hw.tr (ag_row (Or.inl rfl)))
    simp only [mChp] at ih
    rw [r254_56]
    simp (disch := omega) only [r254_58, r254_59, r254_62, r254_63, r254_64, r254_67, r254_68, r254_69, r254_71, r254_73, r254_74, r254_77, r254_79, r254_81, r254_83, r254_86, r254_89, r254_91, r254_93, r254_95, r254_97, r254_99, r254_100, r254_101, r254_103, r254_106, h0, r3, j0, k0, e0, h1, kr1, leT, leF, ltT, ltF, lb0, li0, true_and, and_true, Option.some.injEq, exists_eq_left', Option.toList_some, Option.toList_none, List.cons_append, List.nil_append, xcat_nil, xcat_int, xcat_ref, xcat_long, not_true, not_false_iff, if_true, if_false, and_self, and_false, false_and, or_true, true_or, or_self, z01, z10, zle8, Nat.reduceAdd, Nat.reduceLeDiff]
    by_cases c1 : dSr g D nb np nl nr (nI j) d (nI x) (nI yy) < (mChp (fun y x => dSr g D nb np nl nr (nI j) d (nI x) (nI y)) yy x z).1 <;> simp only [c1, true_and, and_true, Option.some.injEq, exists_eq_left', Option.toList_some, Option.toList_none, List.cons_append, List.nil_append, xcat_nil, xcat_int, xcat_ref, xcat_long, not_true, not_false_iff, if_true, if_false, and_self, and_false, false_and, or_true, true_or, or_self, z01, z10, zle8, Nat.reduceAdd, Nat.reduceLeDiff] at ih ⊢ <;> exact ih
theorem cheapM_tail (h : Mx u g D s nl np nb nc nr nh nk) {j : Nat} {k' : Int32} (hj : j < nc) (hP : ∀ v, xag SCm u v → xI v 278 1 = 0 → xI v 278 2 = -1 → P (some (.int (mChq (fun y x => dSr g D nb np nl nr (nI j) d (nI x) (nI y)) s (s + 1) (dSr g D nb np nl nr (nI j) d 0 0, 0)).2)) v) : zr 254 26 [.ref 278, .int d, .int (nI j), .int k', .null, .null, .null, .null, .null] [] u P := by
  have hb := h.2.1.1.b
  have lp : ∀ r yy w (v7 v8 : Value), yy + r = s + 1 → xag SCm u w → zr 254 42 [.ref 278, .int d, .int (nI j), .int k', .int (mChq (fun y x => dSr g D nb np nl nr (nI j) d (nI x) (nI y)) s yy (dSr g D nb np nl nr (nI j) d 0 0, 0)).2, .int (mChq (fun y x => dSr g D nb np nl nr (nI j) d (nI x) (nI y)) s yy (dSr g D nb np nl nr (nI j) d 0 0, 0)).1, .int (nI yy), v7, v8] [] w P := by
    intro r
    induction r with
    | zero =>
      intro yy w v7 v8 hy hw
      have : yy = s + 1 := by omega
      subst this
      obtain ⟨h0, r3, j0, k0, e0, -⟩ := (h.ag hw.m).cf
      rw [r254_42]
      simp (disch := omega) only [r254_44, r254_45, r254_48, r254_49, r254_50, r254_115, r254_116, r254_118, r254_121, h0, r3, j0, k0, e0, good_run h0, leT, leF, ltT, ltF, lb0, li0, true_and, and_true, Option.some.injEq, exists_eq_left', Option.toList_some, Option.toList_none, List.cons_append, List.nil_append, xcat_nil, xcat_int, xcat_ref, xcat_long, not_true, not_false_iff, if_true, if_false, and_self, and_false, false_and, or_true, true_or, or_self, z01, z10, zle8, Nat.reduceAdd, Nat.reduceLeDiff]
      exact QM.good hP hw
    | succ r ih =>
      intro yy w v7 v8 hy hw
      have hx' := h.ag hw.m
      obtain ⟨h0, r3, j0, k0, e0, -⟩ := hx'.cf
      have hr := cheapM_row (P := P) (d := d) (k' := k') (z := mChq (fun y x => dSr g D nb np nl nr (nI j) d (nI x) (nI y)) s yy (dSr g D nb np nl nr (nI j) d 0 0, 0)) hx' hj (yy := yy) (by omega) (fun v v8 hv => by
        have ih := ih (yy + 1) v (.int (nI (s + 1))) v8 (by omega) (hw.tr hv)
        rw [r254_109, r254_112, nI_1]
        exact ih) (s + 1) 0 w v8 (by omega) xag.rf
      rw [r254_42]
      simp (disch := omega) only [r254_44, r254_45, r254_48, r254_49, r254_50, r254_53, r254_54, h0, r3, j0, k0, e0, leT, leF, ltT, ltF, lb0, li0, true_and, and_true, Option.some.injEq, exists_eq_left', Option.toList_some, Option.toList_none, List.cons_append, List.nil_append, xcat_nil, xcat_int, xcat_ref, xcat_long, not_true, not_false_iff, if_true, if_false, and_self, and_false, false_and, or_true, true_or, or_self, z01, z10, zle8, Nat.reduceAdd, Nat.reduceLeDiff]
      exact hr
  obtain ⟨h0, r3, j0, k0, e0, -⟩ := h.cf
  have h1 : ∀ P, zr 252 0 [.ref 278, .int d, .int 0, .int 0, .int (nI j), .null, .null, .null] [] u P = P (some (.int (dSr g D nb np nl nr (nI j) d 0 0))) (xrow u 284 (dStk g D nb np nl d 0 0)) := fun P => stackRateOf_run (d := d) h hj (px := 0) (py := 0) (by omega) (by omega)
  simp only [r254_26, r254_27, r254_29, r254_30, r254_31, r254_32, r254_33, r254_34, r254_37, r254_39, r254_40, h0, h1, true_and, and_true, Option.some.injEq, exists_eq_left', Option.toList_some, Option.toList_none, List.cons_append, List.nil_append, xcat_nil, xcat_int, xcat_ref, xcat_long, not_true, not_false_iff, if_true, if_false, and_self, and_false, false_and, or_true, true_or, or_self, z01, z10, zle8, Nat.reduceAdd, Nat.reduceLeDiff]
  exact lp (s + 1) 0 _ .null .null (by omega) (ag_row (Or.inl rfl))
/-- what class and model find cheapest is the same -/
theorem chp_le {f : Nat → Nat → Int32} {y : Nat} {z : Int32 × Int32} : ∀ k, (mChp f y k z).1 ≤ z.1 := by
  intro k
  induction k with
  | zero => show z.1 ≤ z.1; rw [i32_le]; omega
  | succ k ih =>
    unfold mChp
    split
    · next c => show f y k ≤ z.1; have := i32_lt.mp c; have := i32_le.mp ih; rw [i32_le]; omega
    · exact ih
theorem chp_eq {f : Nat → Nat → Int32} {y : Nat} (hf : ∀ y x, 0 ≤ f y x) {z : Int32 × Int32} : ∀ k, fChp f y k z = mChp f y k z := by
  intro k
  induction k with
  | zero => rfl
  | succ k ih =>
    unfold fChp mChp
    rw [ih]
    by_cases c : f y k < (mChp f y k z).1
    · have c0 : 0 < (mChp f y k z).1 := by have := i32_le.mp (hf y k); have := i32_lt.mp c; rw [i32_lt]; omega
      rw [if_pos ⟨c0, c⟩, if_pos c]
    · rw [if_neg (fun q => c q.2), if_neg c]
theorem chq_eq {f : Nat → Nat → Int32} {s : Nat} (hf : ∀ y x, 0 ≤ f y x) {z : Int32 × Int32} : ∀ k, fChq f s k z = mChq f s k z := by
  intro k
  induction k with
  | zero => rfl
  | succ k ih =>
    unfold fChq mChq
    rw [ih, chp_eq hf]
/-- the first point: begun with it, or with more -/
theorem chp_0 {f : Nat → Nat → Int32} (h : f 0 0 < 2147483647) : ∀ k, mChp f 0 (k + 1) (2147483647, 0) = mChp f 0 (k + 1) (f 0 0, 0) := by
  intro k
  induction k with
  | zero =>
    have e1 : mChp f 0 1 (2147483647, 0) = (f 0 0, nI 0 + 100 * nI 0) := by
      show (if f 0 0 < 2147483647 then _ else _) = _
      rw [if_pos h]
    have e2 : mChp f 0 1 (f 0 0, 0) = (f 0 0, 0) := by
      show (if f 0 0 < f 0 0 then _ else _) = _
      rw [if_neg (by rw [i32_lt]; omega)]
      rfl
    show mChp f 0 1 (2147483647, 0) = mChp f 0 1 (f 0 0, 0)
    rw [e1, e2]
    rfl
  | succ k ih =>
    show (if f 0 (k + 1) < (mChp f 0 (k + 1) (2147483647, 0)).1 then _ else mChp f 0 (k + 1) (2147483647, 0)) = (if f 0 (k + 1) < (mChp f 0 (k + 1) (f 0 0, 0)).1 then _ else mChp f 0 (k + 1) (f 0 0, 0))
    rw [ih]
theorem chq_0 {f : Nat → Nat → Int32} {s : Nat} (h : f 0 0 < 2147483647) : ∀ k, mChq f s (k + 1) (2147483647, 0) = mChq f s (k + 1) (f 0 0, 0) := by
  intro k
  induction k with
  | zero => exact chp_0 h s
  | succ k ih =>
    show mChp f (k + 1) (s + 1) (mChq f s (k + 1) (2147483647, 0)) = mChp f (k + 1) (s + 1) (mChq f s (k + 1) (f 0 0, 0))
    rw [ih]
theorem lSumN_b {F : Int32 → Int32} (hF : ∀ q, ∃ a, a ≤ 2500 ∧ F q = nI a) (L : List Int32) : ∀ k, ∃ a, a ≤ 2500 * k ∧ lSumN F L k = nI a := by
  intro k
  induction k with
  | zero => exact ⟨0, by omega, rfl⟩
  | succ k ih =>
    obtain ⟨a, ha, e⟩ := ih
    obtain ⟨b, hb, e2⟩ := hF (L.getD k 0)
    refine ⟨a + b, by omega, ?_⟩
    show lSumN F L k + F (L.getD k 0) = _
    rw [e, e2, nI_add]
theorem dSr_b (h : okG g D s nl np nb nc nr nh nk) : ∃ a, a ≤ 10000 ∧ dSr g D nb np nl nr c d x y = nI a := by
  have hb := h.1.b
  obtain ⟨a, ha, e⟩ := lSumN_b (F := fun q => tRate g (D + 12) nr q c d) (fun q => tRate_ok hb.2.2.2.2.2.1 h.2.2.2.1 h.2.2.2.2.1) (dStk g D nb np nl d x y) (dStk g D nb np nl d x y).length
  have hl : (dStk g D nb np nl d x y).length ≤ nl := dStk_len
  exact ⟨a, by omega, e⟩
theorem cheap_eq (h : okG g D s nl np nb nc nr nh nk) : fChq (fun y x => dSr g D nb np nl nr c d (nI x) (nI y)) s (s + 1) (2147483647, 0) = mChq (fun y x => dSr g D nb np nl nr c d (nI x) (nI y)) s (s + 1) (dSr g D nb np nl nr c d 0 0, 0) := by
  rw [chq_eq (fun y x => by obtain ⟨a, ha, e⟩ := dSr_b (c := c) (d := d) (x := nI x) (y := nI y) h; show 0 ≤ dSr g D nb np nl nr c d (nI x) (nI y); rw [e]; exact nI_pos' (by omega))]
  exact chq_0 (f := fun y x => dSr g D nb np nl nr c d (nI x) (nI y)) (by
    obtain ⟨a, ha, e⟩ := dSr_b (c := c) (d := d) (x := nI 0) (y := nI 0) h
    show dSr g D nb np nl nr c d (nI 0) (nI 0) < 2147483647
    rw [e, i32_lt, nI_toI (by omega)]
    have e2 : (2147483647 : Int32).toInt = 2147483647 := rfl
    omega) s
end
