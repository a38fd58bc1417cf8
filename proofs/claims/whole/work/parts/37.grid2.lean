/-! COUNTS of settled points and of stacks -/
section
variable {u : xMem} {P : Option Value → xMem → Prop} {g n np nl s : Nat} {p q d x y layer many : Int32}
def fStl (lay ch X Y nc : Nat → Int32) (np : Nat) (p : Nat) (yy xx : Nat) : Int32 := if fSet lay ch X Y nc (lay p) (nI xx) (nI yy) np 0 = nI p then 1 else 0
theorem settled_row (hG : sGr u g) (hs : xI u g 0 = nI s) (hs40 : s ≤ 40) (hp : xI u g 2 = nI np) (hp10 : np ≤ 10) (hch : okCh (xI u (g + 9)) (xI u (g + 6)) np) {i : Nat} (hi : i < np) {yy : Nat} {A : Int32} : ∀ r x, x + r = s + 1 →
    zr 51 15 [.ref g, .int (nI i), .int (A + sumN (fStl (xI u (g + 1)) (xI u (g + 9)) (xI u (g + 7)) (xI u (g + 8)) (xI u (g + 6)) np i yy) x), .int (nI yy), .int (nI x)] [] u P
      = zr 51 58 [.ref g, .int (nI i), .int (A + sumN (fStl (xI u (g + 1)) (xI u (g + 9)) (xI u (g + 7)) (xI u (g + 8)) (xI u (g + 6)) np i yy) (s + 1)), .int (nI yy), .int (nI (s + 1))] [] u P := by
  have hh := fun layer x y P => firstWith_run (layer := layer) (x := x) (y := y) (P := P) hG hp hp10 hch
  obtain ⟨h0, ⟨e3, e4, e5, e6, e7⟩, ⟨i3, n3⟩, -⟩ := hG
  have a1 : xinb (nI i) 10 := xinb_nI (by omega) (by omega)
  have a2 : xix (nI i) = i := xix_nI (by omega)
  intro r
  induction r with
  | zero =>
    intro x hx
    have : x = s + 1 := by omega
    subst this
    rw [r51_15]
    simp only [r51_17, r51_18, r51_21, h0, hs, nI_lt (show s < s + 1 by omega) (by omega), true_and, and_true, Option.some.injEq, exists_eq_left', Option.toList_some, Option.toList_none, List.cons_append, List.nil_append, xcat_nil, xcat_int, xcat_ref, xcat_long, not_true, not_false_iff, if_true, if_false, and_self, and_false, false_and, or_true, true_or, or_self, z01, z10, zle8, Nat.reduceAdd, Nat.reduceLeDiff]
  | succ r ih =>
    intro x hx
    have q0 : ¬ nI s < nI x := nI_nlt (by omega) (by omega)
    have ih := ih (x + 1) (by omega)
    simp only [sumN, fStl] at ih
    rw [r51_15]
    simp only [r51_17, r51_18, r51_21, r51_24, r51_25, r51_26, r51_27, r51_30, r51_31, r51_32, r51_34, r51_35, r51_38, r51_39, r51_42, r51_43, r51_46, r51_47, r51_50, r51_51, r51_52, r51_55, bit_run, h0, hh, e3, i3, n3, hs, q0, a1, a2, nI_1, true_and, and_true, Option.some.injEq, exists_eq_left', Option.toList_some, Option.toList_none, List.cons_append, List.nil_append, xcat_nil, xcat_int, xcat_ref, xcat_long, not_true, not_false_iff, if_true, if_false, and_self, and_false, false_and, or_true, true_or, or_self, z01, z10, zle8, Nat.reduceAdd, Nat.reduceLeDiff]
    by_cases c1 : fSet (xI u (g + 1)) (xI u (g + 9)) (xI u (g + 7)) (xI u (g + 8)) (xI u (g + 6)) (xI u (g + 1) i) (nI x) (nI yy) np 0 = nI i <;> simp only [c1, Int32.add_assoc, fStl, true_and, and_true, Option.some.injEq, exists_eq_left', Option.toList_some, Option.toList_none, List.cons_append, List.nil_append, xcat_nil, xcat_int, xcat_ref, xcat_long, not_true, not_false_iff, if_true, if_false, and_self, and_false, false_and, or_true, true_or, or_self, z01, z10, zle8, Nat.reduceAdd, Nat.reduceLeDiff] at ih ⊢ <;> exact ih
theorem settled_run (hG : sGr u g) (hs : xI u g 0 = nI s) (hs40 : s ≤ 40) (hp : xI u g 2 = nI np) (hp10 : np ≤ 10) (hch : okCh (xI u (g + 9)) (xI u (g + 6)) np) {i : Nat} (hi : i < np) :
    zr 51 0 [.ref g, .int (nI i), .null, .null, .null] [] u P = P (some (.int (sumN (fun yy => sumN (fStl (xI u (g + 1)) (xI u (g + 9)) (xI u (g + 7)) (xI u (g + 8)) (xI u (g + 6)) np i yy) (s + 1)) (s + 1)))) u := by
  have hr := fun yy A P => settled_row (P := P) (yy := yy) (A := A) hG hs hs40 hp hp10 hch hi (s + 1) 0 (by omega)
  have lp : ∀ r yy (v : Value), yy + r = s + 1 → zr 51 4 [.ref g, .int (nI i), .int (sumN (fun yy => sumN (fStl (xI u (g + 1)) (xI u (g + 9)) (xI u (g + 7)) (xI u (g + 8)) (xI u (g + 6)) np i yy) (s + 1)) yy), .int (nI yy), v] [] u P = P (some (.int (sumN (fun yy => sumN (fStl (xI u (g + 1)) (xI u (g + 9)) (xI u (g + 7)) (xI u (g + 8)) (xI u (g + 6)) np i yy) (s + 1)) (s + 1)))) u := by
    intro r
    induction r with
    | zero =>
      intro yy v hy
      have : yy = s + 1 := by omega
      subst this
      rw [r51_4]
      simp only [r51_5, r51_6, r51_9, r51_64, r51_65, hG.1, hs, nI_lt (show s < s + 1 by omega) (by omega), true_and, and_true, Option.some.injEq, exists_eq_left', Option.toList_some, Option.toList_none, List.cons_append, List.nil_append, xcat_nil, xcat_int, xcat_ref, xcat_long, not_true, not_false_iff, if_true, if_false, and_self, and_false, false_and, or_true, true_or, or_self, z01, z10, zle8, Nat.reduceAdd, Nat.reduceLeDiff]
    | succ r ih =>
      intro yy v hy
      have q0 : ¬ nI s < nI yy := nI_nlt (by omega) (by omega)
      have ih := ih (yy + 1) (.int (nI (s + 1))) (by omega)
      have hr := hr yy (sumN (fun yy => sumN (fStl (xI u (g + 1)) (xI u (g + 9)) (xI u (g + 7)) (xI u (g + 8)) (xI u (g + 6)) np i yy) (s + 1)) yy) P
      simp only [sumN, Int32.add_zero] at hr ih
      rw [r51_4]
      simp only [r51_5, r51_6, r51_9, r51_12, r51_13, hG.1, hs, q0, true_and, and_true, Option.some.injEq, exists_eq_left', Option.toList_some, Option.toList_none, List.cons_append, List.nil_append, xcat_nil, xcat_int, xcat_ref, xcat_long, not_true, not_false_iff, if_true, if_false, and_self, and_false, false_and, or_true, true_or, or_self, z01, z10, zle8, Nat.reduceAdd, Nat.reduceLeDiff]
      refine hr.trans ?_
      rw [r51_58, r51_61, nI_1]
      exact ih
  simp only [r51_0, r51_1, r51_2, r51_3]
  exact lp (s + 1) 0 .null (by omega)
/-- the stack at a point, out of the bounds chosen -/
def fStk (lay only ch X Y nc : Nat → Int32) (np nl : Nat) (x y : Int32) : List Int32 := fPile (fun l => fSet lay ch X Y nc (nI l) x y np 0) only nl 0
def fMny (lay only ch X Y nc : Nat → Int32) (np nl : Nat) (many : Int32) (yy xx : Nat) : Int32 := if nI (fStk lay only ch X Y nc np nl (nI xx) (nI yy)).length = many then 1 else 0
theorem pile_ag {w : xMem} (hw : xag (SGp g) u w) (hG : sGr u g) (hp : xI u g 2 = nI np) (hp10 : np ≤ 10) (hl : xI u g 1 = nI nl) (hl4 : nl ≤ 4) (hch : okCh (xI u (g + 9)) (xI u (g + 6)) np) :
    zr 47 0 [.ref g, .int x, .int y, .null, .null] [] w P = P none (xpile w g (fStk (xI u (g + 1)) (xI u (g + 2)) (xI u (g + 9)) (xI u (g + 7)) (xI u (g + 8)) (xI u (g + 6)) np nl x y)) := by
  have f : ∀ a, a ≠ g → a ≠ g + 10 → xI w a = xI u a := fun a h1 h2 => hw.f (fun j q => by rcases q with q | q <;> omega)
  have f0 : ∀ j, j ≠ 8 → xI w g j = xI u g j := fun j h => hw.2.2 g j (fun q => by rcases q with q | q <;> omega)
  have hq := pile_run (P := P) (x := x) (y := y) (u := w) (hw.gr hG) (by rw [f0 2 (by omega)]; exact hp) hp10 (by rw [f0 1 (by omega)]; exact hl) hl4 (by rw [f _ (by omega) (by omega), f _ (by omega) (by omega)]; exact hch)
  rw [f _ (by omega) (by omega), f (g + 9) (by omega) (by omega), f (g + 7) (by omega) (by omega), f (g + 8) (by omega) (by omega), f (g + 6) (by omega) (by omega), f (g + 2) (by omega) (by omega)] at hq
  exact hq
theorem piled_row (hG : sGr u g) (hs : xI u g 0 = nI s) (hs40 : s ≤ 40) (hp : xI u g 2 = nI np) (hp10 : np ≤ 10) (hl : xI u g 1 = nI nl) (hl4 : nl ≤ 4) (hch : okCh (xI u (g + 9)) (xI u (g + 6)) np) {yy : Nat} {A : Int32}
    (hP : ∀ w, xag (SGp g) u w → zr 52 56 [.ref g, .int many, .int (A + sumN (fMny (xI u (g + 1)) (xI u (g + 2)) (xI u (g + 9)) (xI u (g + 7)) (xI u (g + 8)) (xI u (g + 6)) np nl many yy) (s + 1)), .int (nI yy), .int (nI (s + 1))] [] w P) : ∀ r x w, x + r = s + 1 → xag (SGp g) u w →
    zr 52 15 [.ref g, .int many, .int (A + sumN (fMny (xI u (g + 1)) (xI u (g + 2)) (xI u (g + 9)) (xI u (g + 7)) (xI u (g + 8)) (xI u (g + 6)) np nl many yy) x), .int (nI yy), .int (nI x)] [] w P := by
  have h0 := hG.1
  have f0 : ∀ {w}, xag (SGp g) u w → ∀ j, j ≠ 8 → xI w g j = xI u g j := fun hw j h => hw.2.2 g j (fun q => by rcases q with q | q <;> omega)
  intro r
  induction r with
  | zero =>
    intro x w hx hw
    have : x = s + 1 := by omega
    subst this
    rw [r52_15]
    simp only [r52_17, r52_18, r52_21, hw.is, h0, f0 hw 0 (by omega), hs, nI_lt (show s < s + 1 by omega) (by omega), true_and, and_true, Option.some.injEq, exists_eq_left', Option.toList_some, Option.toList_none, List.cons_append, List.nil_append, xcat_nil, xcat_int, xcat_ref, xcat_long, not_true, not_false_iff, if_true, if_false, and_self, and_false, false_and, or_true, true_or, or_self, z01, z10, zle8, Nat.reduceAdd, Nat.reduceLeDiff]
    exact hP w hw
  | succ r ih =>
    intro x w hx hw
    have q0 : ¬ nI s < nI x := nI_nlt (by omega) (by omega)
    have hpl := fun x y P => pile_ag (x := x) (y := y) (P := P) hw hG hp hp10 hl hl4 hch
    have hw2 : ∀ L, xag (SGp g) u (xpile w g L) := fun L => hw.tr (xag.pile (Or.inl ⟨rfl, rfl⟩) (fun _ => Or.inr rfl))
    have ih := ih (x + 1) (xpile w g (fStk (xI u (g + 1)) (xI u (g + 2)) (xI u (g + 9)) (xI u (g + 7)) (xI u (g + 8)) (xI u (g + 6)) np nl (nI x) (nI yy))) (by omega) (hw2 _)
    simp only [sumN, fMny] at ih
    have t1 : ∀ {L a c}, xIs (xpile w g L) a c = xIs w a c := rfl
    rw [r52_15]
    simp only [r52_17, r52_18, r52_21, r52_24, r52_25, r52_27, r52_28, r52_31, r52_32, r52_33, r52_36, r52_37, r52_40, r52_41, r52_44, r52_45, r52_48, r52_49, r52_50, r52_53, bit_run, t1, hw.is, h0, f0 hw 0 (by omega), hpl, xI_pile8, hs, q0, nI_1, true_and, and_true, Option.some.injEq, exists_eq_left', Option.toList_some, Option.toList_none, List.cons_append, List.nil_append, xcat_nil, xcat_int, xcat_ref, xcat_long, not_true, not_false_iff, if_true, if_false, and_self, and_false, false_and, or_true, true_or, or_self, z01, z10, zle8, Nat.reduceAdd, Nat.reduceLeDiff]
    by_cases c1 : nI (fStk (xI u (g + 1)) (xI u (g + 2)) (xI u (g + 9)) (xI u (g + 7)) (xI u (g + 8)) (xI u (g + 6)) np nl (nI x) (nI yy)).length = many <;> simp only [c1, Int32.add_assoc, fMny, true_and, and_true, Option.some.injEq, exists_eq_left', Option.toList_some, Option.toList_none, List.cons_append, List.nil_append, xcat_nil, xcat_int, xcat_ref, xcat_long, not_true, not_false_iff, if_true, if_false, and_self, and_false, false_and, or_true, true_or, or_self, z01, z10, zle8, Nat.reduceAdd, Nat.reduceLeDiff] at ih ⊢ <;> exact ih
theorem piled_run (hG : sGr u g) (hs : xI u g 0 = nI s) (hs40 : s ≤ 40) (hp : xI u g 2 = nI np) (hp10 : np ≤ 10) (hl : xI u g 1 = nI nl) (hl4 : nl ≤ 4) (hch : okCh (xI u (g + 9)) (xI u (g + 6)) np)
    (hP : ∀ w, xag (SGp g) u w → P (some (.int (sumN (fun yy => sumN (fMny (xI u (g + 1)) (xI u (g + 2)) (xI u (g + 9)) (xI u (g + 7)) (xI u (g + 8)) (xI u (g + 6)) np nl many yy) (s + 1)) (s + 1)))) w) : zr 52 0 [.ref g, .int many, .null, .null, .null] [] u P := by
  have f0 : ∀ {w}, xag (SGp g) u w → ∀ j, j ≠ 8 → xI w g j = xI u g j := fun hw j h => hw.2.2 g j (fun q => by rcases q with q | q <;> omega)
  have lp : ∀ r yy (v : Value) w, yy + r = s + 1 → xag (SGp g) u w → zr 52 4 [.ref g, .int many, .int (sumN (fun yy => sumN (fMny (xI u (g + 1)) (xI u (g + 2)) (xI u (g + 9)) (xI u (g + 7)) (xI u (g + 8)) (xI u (g + 6)) np nl many yy) (s + 1)) yy), .int (nI yy), v] [] w P := by
    intro r
    induction r with
    | zero =>
      intro yy v w hy hw
      have : yy = s + 1 := by omega
      subst this
      rw [r52_4]
      simp only [r52_5, r52_6, r52_9, r52_62, r52_63, hw.is, hG.1, f0 hw 0 (by omega), hs, nI_lt (show s < s + 1 by omega) (by omega), true_and, and_true, Option.some.injEq, exists_eq_left', Option.toList_some, Option.toList_none, List.cons_append, List.nil_append, xcat_nil, xcat_int, xcat_ref, xcat_long, not_true, not_false_iff, if_true, if_false, and_self, and_false, false_and, or_true, true_or, or_self, z01, z10, zle8, Nat.reduceAdd, Nat.reduceLeDiff]
      exact hP w hw
    | succ r ih =>
      intro yy v w hy hw
      have q0 : ¬ nI s < nI yy := nI_nlt (by omega) (by omega)
      have hr := piled_row (P := P) (many := many) (yy := yy) (A := sumN (fun yy => sumN (fMny (xI u (g + 1)) (xI u (g + 2)) (xI u (g + 9)) (xI u (g + 7)) (xI u (g + 8)) (xI u (g + 6)) np nl many yy) (s + 1)) yy) hG hs hs40 hp hp10 hl hl4 hch (fun w hw => ?_) (s + 1) 0 w (by omega) hw
      · simp only [sumN, Int32.add_zero] at hr
        rw [r52_4]
        simp only [r52_5, r52_6, r52_9, r52_12, r52_13, hw.is, hG.1, f0 hw 0 (by omega), hs, q0, true_and, and_true, Option.some.injEq, exists_eq_left', Option.toList_some, Option.toList_none, List.cons_append, List.nil_append, xcat_nil, xcat_int, xcat_ref, xcat_long, not_true, not_false_iff, if_true, if_false, and_self, and_false, false_and, or_true, true_or, or_self, z01, z10, zle8, Nat.reduceAdd, Nat.reduceLeDiff]
        exact hr
      · rw [r52_56, r52_59, nI_1]
        exact ih (yy + 1) (.int (nI (s + 1))) w (by omega) hw
  simp only [r52_0, r52_1, r52_2, r52_3]
  exact lp (s + 1) 0 .null u (by omega) xag.rf
end
