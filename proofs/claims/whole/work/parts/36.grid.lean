/-! GRIDS: counts over all points -/
/-- w is u but for the places S -/
def xag (S : Nat → Nat → Prop) (u w : xMem) : Prop := w.1 = u.1 ∧ w.2.2 = u.2.2 ∧ ∀ a j, ¬ S a j → xI w a j = xI u a j
section
variable {S S' : Nat → Nat → Prop} {u v w : xMem} {a k n : Nat}
theorem xag.rf : xag S u u := ⟨rfl, rfl, fun _ _ _ => rfl⟩
theorem xag.tr (h : xag S u v) (k : xag S v w) : xag S u w := ⟨k.1.trans h.1, k.2.1.trans h.2.1, fun a j q => (k.2.2 a j q).trans (h.2.2 a j q)⟩
theorem xag.wk (h : xag S u w) (hS : ∀ a j, S a j → S' a j) : xag S' u w := ⟨h.1, h.2.1, fun a j q => h.2.2 a j (fun z => q (hS a j z))⟩
theorem xag.sI {x : Int32} (h : S a k) : xag S u (xsI u a k x) := ⟨rfl, rfl, fun b j q => by rw [xI_sI, if_neg (fun z => q (by rw [z.1, z.2]; exact h))]⟩
theorem xag.fill {f : Nat → Int32} (h : ∀ j, S a j) : xag S u (xfill u a n f) := ⟨rfl, rfl, fun b j q => by rw [xI_fill, if_neg (fun z => q (by rw [z.1]; exact h j))]⟩
theorem xag.pile {g : Nat} {L : List Int32} (h : S g 8) (h2 : ∀ j, S (g + 10) j) : xag S u (xpile u g L) := (xag.fill h2).tr (xag.sI h)
theorem xag.eq (h : xag S u w) : w = (u.1, w.2.1, u.2.2) := by
  obtain ⟨h1, h2, -⟩ := h
  obtain ⟨w1, w2, w3⟩ := w
  cases h1
  cases h2
  rfl
theorem xag.f (h : xag S u w) (ha : ∀ j, ¬ S a j) : xI w a = xI u a := funext fun j => h.2.2 a j (ha j)
theorem xag.gr {g : Nat} (h : xag S u w) (k : sGr u g) : sGr w g := by rw [h.eq]; exact k
theorem xag.dk {g : Nat} (h : xag S u w) (k : sDk u g) : sDk w g := by rw [h.eq]; exact k
theorem xag.tf {g : Nat} (h : xag S u w) (k : sTf u g) : sTf w g := by rw [h.eq]; exact k
theorem xag.ln {g : Nat} (h : xag S u w) (k : sLn u g) : sLn w g := by rw [h.eq]; exact k
theorem xag.bk {g : Nat} (h : xag S u w) (k : sBk u g) : sBk w g := by rw [h.eq]; exact k
theorem xag.is {b c : Nat} (h : xag S u w) : xIs w b c = xIs u b c := by rw [h.eq]; rfl
theorem xag.r {b c : Nat} (h : xag S u w) : xR w b c = xR u b c := by rw [h.eq]; rfl
theorem xag.nn {b : Nat} (h : xag S u w) : xN w b = xN u b := by rw [h.eq]; rfl
end
/-- the scratch of a ground -/
def SG (g : Nat) : Nat → Nat → Prop := fun a j => (a = g ∧ j = 8) ∨ a = g + 9 ∨ a = g + 10
/-- of a ground, the stack alone -/
def SGp (g : Nat) : Nat → Nat → Prop := fun a j => (a = g ∧ j = 8) ∨ a = g + 10
def sumN (f : Nat → Int32) : Nat → Int32
  | 0 => 0
  | k + 1 => sumN f k + f k
theorem nI_nlt1 {a b : Nat} (h : a ≤ b) (hb : b < 2 ^ 31) : ¬ nI b < nI a := nI_nlt h hb
section
variable {u : xMem} {P : Option Value → xMem → Prop} {g n np nl s : Nat} {p q d x y layer : Int32}
/-- where p and q both hold -/
def fSh (X Y nc : Nat → Int32) (b c : Int32) (y x : Nat) : Int32 := if fHold X Y nc (nI x) (nI y) b = true ∧ fHold X Y nc (nI x) (nI y) c = true then 1 else 0
theorem shared_row (hG : sGr u g) (hs : xI u g 0 = nI s) (hs40 : s ≤ 40) {i j : Nat} (hi : i < 10) (hj : j < 10) (hbi : 0 ≤ xI u (g + 9) i → ∃ k c, k < 16 ∧ xI u (g + 9) i = nI k ∧ xI u (g + 6) k = nI c ∧ c ≤ 6) (hbj : 0 ≤ xI u (g + 9) j → ∃ k c, k < 16 ∧ xI u (g + 9) j = nI k ∧ xI u (g + 6) k = nI c ∧ c ≤ 6) {yy : Nat} {A : Int32} : ∀ r x, x + r = s + 1 →
    zr 50 17 [.ref g, .int (nI i), .int (nI j), .int (A + sumN (fSh (xI u (g + 7)) (xI u (g + 8)) (xI u (g + 6)) (xI u (g + 9) i) (xI u (g + 9) j) yy) x), .int (nI yy), .int (nI x)] [] u P
      = zr 50 83 [.ref g, .int (nI i), .int (nI j), .int (A + sumN (fSh (xI u (g + 7)) (xI u (g + 8)) (xI u (g + 6)) (xI u (g + 9) i) (xI u (g + 9) j) yy) (s + 1)), .int (nI yy), .int (nI (s + 1))] [] u P := by
  have hh := fun x y bd hbd P => holds_run (x := x) (y := y) (bd := bd) (P := P) hG.2.2.2.2.1 hbd
  obtain ⟨h0, ⟨e3, e4, e5, e6, e7⟩, -, -, hB2, ⟨i6, n6⟩, -⟩ := hG
  have hB0 := hB2.1
  have a1 : xinb (nI i) 10 := xinb_nI (by omega) (by omega)
  have a2 : xix (nI i) = i := xix_nI (by omega)
  have b1 : xinb (nI j) 10 := xinb_nI (by omega) (by omega)
  have b2 : xix (nI j) = j := xix_nI (by omega)
  intro r
  induction r with
  | zero =>
    intro x hx
    have : x = s + 1 := by omega
    subst this
    rw [r50_17]
    simp only [r50_19, r50_20, r50_23, h0, hs, nI_lt (show s < s + 1 by omega) (by omega), true_and, and_true, Option.some.injEq, exists_eq_left', Option.toList_some, Option.toList_none, List.cons_append, List.nil_append, xcat_nil, xcat_int, xcat_ref, xcat_long, not_true, not_false_iff, if_true, if_false, and_self, and_false, false_and, or_true, true_or, or_self, z01, z10, zle8, Nat.reduceAdd, Nat.reduceLeDiff]
  | succ r ih =>
    intro x hx
    have q0 : ¬ nI s < nI x := nI_nlt (by omega) (by omega)
    have ih := ih (x + 1) (by omega)
    simp only [sumN, fSh] at ih
    have h1 := hh (nI x) (nI yy) _ hbi
    have h2 := hh (nI x) (nI yy) _ hbj
    rw [r50_17]
    simp only [r50_19, r50_20, r50_23, r50_26, r50_27, r50_28, r50_31, r50_32, r50_35, r50_36, r50_37, r50_39, r50_41, r50_44, r50_47, r50_48, r50_51, r50_52, r50_55, r50_56, r50_57, r50_59, r50_61, r50_64, r50_67, r50_68, r50_71, r50_72, r50_75, r50_76, r50_77, r50_80, bit_run, h0, hB0, h1, h2, e5, e6, i6, n6, hs, q0, a1, a2, b1, b2, nI_1, bI_0, true_and, and_true, Option.some.injEq, exists_eq_left', Option.toList_some, Option.toList_none, List.cons_append, List.nil_append, xcat_nil, xcat_int, xcat_ref, xcat_long, not_true, not_false_iff, if_true, if_false, and_self, and_false, false_and, or_true, true_or, or_self, z01, z10, zle8, Nat.reduceAdd, Nat.reduceLeDiff]
    have f1 : ∀ z, fHold (xI u (g + 3 + 4)) (xI u (g + 3 + 5)) (xI u (g + 3 + 3)) (nI x) (nI yy) z = fHold (xI u (g + 7)) (xI u (g + 8)) (xI u (g + 6)) (nI x) (nI yy) z := fun _ => rfl
    simp only [f1]
    rw [Int32.add_assoc]
    cases c1 : fHold (xI u (g + 7)) (xI u (g + 8)) (xI u (g + 6)) (nI x) (nI yy) (xI u (g + 9) i) <;> cases c2 : fHold (xI u (g + 7)) (xI u (g + 8)) (xI u (g + 6)) (nI x) (nI yy) (xI u (g + 9) j) <;> simp only [c1, c2, Bool.true_eq_false, Bool.false_eq_true, Int32.add_assoc, true_and, and_true, Option.some.injEq, exists_eq_left', Option.toList_some, Option.toList_none, List.cons_append, List.nil_append, xcat_nil, xcat_int, xcat_ref, xcat_long, not_true, not_false_iff, if_true, if_false, and_self, and_false, false_and, or_true, true_or, or_self, z01, z10, zle8, Nat.reduceAdd, Nat.reduceLeDiff] at ih ⊢ <;> exact ih
theorem shared_run (hG : sGr u g) (hs : xI u g 0 = nI s) (hs40 : s ≤ 40) {i j : Nat} (hi : i < 10) (hj : j < 10) (hbi : 0 ≤ xI u (g + 9) i → ∃ k c, k < 16 ∧ xI u (g + 9) i = nI k ∧ xI u (g + 6) k = nI c ∧ c ≤ 6) (hbj : 0 ≤ xI u (g + 9) j → ∃ k c, k < 16 ∧ xI u (g + 9) j = nI k ∧ xI u (g + 6) k = nI c ∧ c ≤ 6) :
    zr 50 0 [.ref g, .int (nI i), .int (nI j), .null, .null, .null] [] u P = P (some (.int (sumN (fun yy => sumN (fSh (xI u (g + 7)) (xI u (g + 8)) (xI u (g + 6)) (xI u (g + 9) i) (xI u (g + 9) j) yy) (s + 1)) (s + 1)))) u := by
  have hr := fun yy A P => shared_row (P := P) (yy := yy) (A := A) hG hs hs40 hi hj hbi hbj (s + 1) 0 (by omega)
  have lp : ∀ r yy (v : Value), yy + r = s + 1 → zr 50 5 [.ref g, .int (nI i), .int (nI j), .int (sumN (fun yy => sumN (fSh (xI u (g + 7)) (xI u (g + 8)) (xI u (g + 6)) (xI u (g + 9) i) (xI u (g + 9) j) yy) (s + 1)) yy), .int (nI yy), v] [] u P = P (some (.int (sumN (fun yy => sumN (fSh (xI u (g + 7)) (xI u (g + 8)) (xI u (g + 6)) (xI u (g + 9) i) (xI u (g + 9) j) yy) (s + 1)) (s + 1)))) u := by
    intro r
    induction r with
    | zero =>
      intro yy v hy
      have : yy = s + 1 := by omega
      subst this
      rw [r50_5]
      simp only [r50_7, r50_8, r50_11, r50_89, r50_90, hG.1, hs, nI_lt (show s < s + 1 by omega) (by omega), true_and, and_true, Option.some.injEq, exists_eq_left', Option.toList_some, Option.toList_none, List.cons_append, List.nil_append, xcat_nil, xcat_int, xcat_ref, xcat_long, not_true, not_false_iff, if_true, if_false, and_self, and_false, false_and, or_true, true_or, or_self, z01, z10, zle8, Nat.reduceAdd, Nat.reduceLeDiff]
    | succ r ih =>
      intro yy v hy
      have q0 : ¬ nI s < nI yy := nI_nlt (by omega) (by omega)
      have ih := ih (yy + 1) (.int (nI (s + 1))) (by omega)
      have hr := hr yy (sumN (fun yy => sumN (fSh (xI u (g + 7)) (xI u (g + 8)) (xI u (g + 6)) (xI u (g + 9) i) (xI u (g + 9) j) yy) (s + 1)) yy) P
      simp only [sumN, Int32.add_zero] at hr ih
      rw [r50_5]
      simp only [r50_7, r50_8, r50_11, r50_14, r50_15, hG.1, hs, q0, true_and, and_true, Option.some.injEq, exists_eq_left', Option.toList_some, Option.toList_none, List.cons_append, List.nil_append, xcat_nil, xcat_int, xcat_ref, xcat_long, not_true, not_false_iff, if_true, if_false, and_self, and_false, false_and, or_true, true_or, or_self, z01, z10, zle8, Nat.reduceAdd, Nat.reduceLeDiff]
      refine hr.trans ?_
      rw [r50_83, r50_86, nI_1]
      exact ih
  simp only [r50_0, r50_1, r50_2, r50_3]
  exact lp (s + 1) 0 .null (by omega)
end
