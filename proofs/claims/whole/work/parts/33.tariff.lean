/-! RATES AND TARIFF -/
def fRl (own good day : Nat → Int32) (p c d : Int32) : Nat → Int32
  | 0 => -1
  | k + 1 => if own k = p ∧ good k = c ∧ day k ≤ d then nI k else fRl own good day p c d k
theorem fRl_cases (own good day : Nat → Int32) (p c d : Int32) : ∀ n, fRl own good day p c d n = -1 ∨ ∃ k, k < n ∧ fRl own good day p c d n = nI k ∧ own k = p ∧ good k = c ∧ day k ≤ d := by
  intro n
  induction n with
  | zero => exact Or.inl rfl
  | succ n ih =>
    unfold fRl
    by_cases h : own n = p ∧ good n = c ∧ day n ≤ d
    · rw [if_pos h]
      exact Or.inr ⟨n, by omega, rfl, h⟩
    · rw [if_neg h]
      rcases ih with h1 | ⟨k, hk, h2⟩
      · exact Or.inl h1
      · exact Or.inr ⟨k, by omega, h2⟩
theorem fRl_in {own good day : Nat → Int32} {p c d : Int32} {n m : Nat} (h : 0 ≤ fRl own good day p c d n) (hn : n ≤ m) (hm : m < 2 ^ 31) : xinb (fRl own good day p c d n) m := by
  rcases fRl_cases own good day p c d n with q | ⟨k, hk, q, -⟩
  · rw [q] at h
    exact absurd h (by decide)
  · rw [q]
    exact xinb_nI (by omega) hm
/-- up the classes, to the first that is hit -/
def fUp (cof : Nat → Int32) (hit : Int32 → Bool) : Nat → Int32 → Int32
  | 0, _ => -2
  | r + 1, k => if k < 0 then -2 else if hit k then k else fUp cof hit r (cof (xix k))
/-- the classes of one another: each of an earlier one -/
def okCof (cof : Nat → Int32) (n : Nat) : Prop := ∀ j, j < n → cof j = -2 ∨ ∃ i, i < j ∧ cof j = nI i
def fRf (own good day cof : Nat → Int32) (p d : Int32) (n r : Nat) (c : Int32) : Int32 := fUp cof (fun k => decide (0 ≤ fRl own good day p k d n)) r c
def fRate (own good day val cof : Nat → Int32) (p c d : Int32) (n : Nat) : Int32 :=
  if fRf own good day cof p d n 6 c < 0 then 0 else val (xix (fRl own good day p (fRf own good day cof p d n 6 c) d n))
def fUn (cof : Nat → Int32) (c top : Int32) : Bool := decide (0 ≤ fUp cof (fun k => decide (k = top)) 6 c)
def fCt (own good : Nat → Int32) (p c : Int32) : Nat → Nat → Int32
  | 0, _ => -1
  | r + 1, i => if own i = p ∧ good i = c then nI i else fCt own good p c r (i + 1)
theorem fCt_cases (own good : Nat → Int32) (p c : Int32) : ∀ r i, fCt own good p c r i = -1 ∨ ∃ k, i ≤ k ∧ k < i + r ∧ fCt own good p c r i = nI k ∧ own k = p ∧ good k = c := by
  intro r
  induction r with
  | zero => exact fun _ => Or.inl rfl
  | succ r ih =>
    intro i
    unfold fCt
    by_cases h : own i = p ∧ good i = c
    · rw [if_pos h]
      exact Or.inr ⟨i, by omega, by omega, rfl, h⟩
    · rw [if_neg h]
      rcases ih (i + 1) with h1 | ⟨k, hk, hk2, h2⟩
      · exact Or.inl h1
      · exact Or.inr ⟨k, by omega, by omega, h2⟩
def fCap (own good amt cof : Nat → Int32) (p c : Int32) (n : Nat) : Int32 :=
  if fUp cof (fun k => decide (0 ≤ fCt own good p k n 0)) 6 c < 0 then -2 else amt (xix (fCt own good p (fUp cof (fun k => decide (0 ≤ fCt own good p k n 0)) 6 c) n 0))
def fFr (pl cl fi la pr cof : Nat → Int32) (p c d price : Int32) : Nat → Nat → Bool
  | 0, _ => false
  | r + 1, i => (decide (pl i = p) && (decide (fi i ≤ d ∧ d ≤ la i) && (decide (price ≤ pr i) && fUn cof c (cl i)))) || fFr pl cl fi la pr cof p c d price r (i + 1)
section
variable {u : xMem} {P : Option Value → xMem → Prop} {b n m k : Nat} {p c d price : Int32}
theorem rlatest_loop (hB : sRt u b) : ∀ k, k ≤ 20 → zr 63 8 [.ref b, .int p, .int c, .int d, .int (nI k - 1)] [] u P = P (some (.int (fRl (xI u (b + 1)) (xI u (b + 2)) (xI u (b + 3)) p c d k))) u := by
  obtain ⟨h0, ⟨e1, e2, e3, e4⟩, ⟨i1, n1⟩, ⟨i2, n2⟩, ⟨i3, n3⟩, -⟩ := hB
  intro k
  induction k with
  | zero =>
    intro _
    rw [r63_8]
    simp only [r63_10, r63_55, r63_56, if_pos (show nI 0 - 1 < 0 by decide), fRl]
  | succ k ih =>
    intro hk
    have q0 : ¬ nI k < 0 := nI_pos (by omega)
    have q1 : xinb (nI k) 20 := xinb_nI (by omega) (by omega)
    have q2 : xix (nI k) = k := xix_nI (by omega)
    have ih := ih (by omega)
    rw [nI_pred, r63_8]
    simp only [r63_0, r63_1, r63_4, r63_5, r63_6, r63_10, r63_13, r63_14, r63_17, r63_19, r63_20, r63_21, r63_24, r63_25, r63_28, r63_30, r63_31, r63_32, r63_35, r63_36, r63_39, r63_41, r63_42, r63_43, r63_46, r63_48, r63_49, r63_52, r63_55, r63_56, q0, h0, e1, e2, e3, i1, i2, i3, n1, n2, n3, q1, q2, fRl, xneg1, ih, true_and, and_true, Option.some.injEq, exists_eq_left', Option.toList_some, Option.toList_none, List.cons_append, List.nil_append, xcat_nil, xcat_int, xcat_ref, xcat_long, not_true, not_false_iff, if_true, if_false, and_self, and_false, false_and, or_true, true_or, or_self, z01, z10, zle8, Nat.reduceAdd, Nat.reduceLeDiff]
    by_cases c1 : xI u (b + 1) k = p
    · by_cases c2 : xI u (b + 2) k = c
      · by_cases c3 : xI u (b + 3) k ≤ d
        · simp only [c1, c2, c3, i32_nlt.mpr c3, true_and, and_true, Option.some.injEq, exists_eq_left', Option.toList_some, Option.toList_none, List.cons_append, List.nil_append, xcat_nil, xcat_int, xcat_ref, xcat_long, not_true, not_false_iff, if_true, if_false, and_self, and_false, false_and, or_true, true_or, or_self, z01, z10, zle8, Nat.reduceAdd, Nat.reduceLeDiff]
        · simp only [c1, c2, c3, i32_nle.mp c3, true_and, and_true, Option.some.injEq, exists_eq_left', Option.toList_some, Option.toList_none, List.cons_append, List.nil_append, xcat_nil, xcat_int, xcat_ref, xcat_long, not_true, not_false_iff, if_true, if_false, and_self, and_false, false_and, or_true, true_or, or_self, z01, z10, zle8, Nat.reduceAdd, Nat.reduceLeDiff]
      · simp only [c1, c2, true_and, and_true, Option.some.injEq, exists_eq_left', Option.toList_some, Option.toList_none, List.cons_append, List.nil_append, xcat_nil, xcat_int, xcat_ref, xcat_long, not_true, not_false_iff, if_true, if_false, and_self, and_false, false_and, or_true, true_or, or_self, z01, z10, zle8, Nat.reduceAdd, Nat.reduceLeDiff]
    · simp only [c1, true_and, and_true, Option.some.injEq, exists_eq_left', Option.toList_some, Option.toList_none, List.cons_append, List.nil_append, xcat_nil, xcat_int, xcat_ref, xcat_long, not_true, not_false_iff, if_true, if_false, and_self, and_false, false_and, or_true, true_or, or_self, z01, z10, zle8, Nat.reduceAdd, Nat.reduceLeDiff]
theorem rlatest_run (hB : sRt u b) (hn : xI u b 0 = nI n) (h : n ≤ 20) : zr 63 0 [.ref b, .int p, .int c, .int d, .null] [] u P = P (some (.int (fRl (xI u (b + 1)) (xI u (b + 2)) (xI u (b + 3)) p c d n))) u := by
  simp only [r63_0, r63_1, r63_4, r63_5, r63_6, hB.1, hn, true_and, and_true, Option.some.injEq, exists_eq_left', Option.toList_some, Option.toList_none, List.cons_append, List.nil_append, xcat_nil, xcat_int, xcat_ref, xcat_long, not_true, not_false_iff, if_true, if_false, and_self, and_false, false_and, or_true, true_or, or_self, z01, z10, zle8, Nat.reduceAdd, Nat.reduceLeDiff]
  exact rlatest_loop hB n h
def fRn (own good day : Nat → Int32) (p c : Int32) (n : Nat) : Int32 := if 0 ≤ fRl own good day p c 999 n then day (xix (fRl own good day p c 999 n)) + 1 else 0
theorem rnextFree_run (hB : sRt u b) (hn : xI u b 0 = nI n) (h : n ≤ 20) : zr 64 0 [.ref b, .int p, .int c, .null] [] u P = P (some (.int (fRn (xI u (b + 1)) (xI u (b + 2)) (xI u (b + 3)) p c n))) u := by
  have hl := fun P => rlatest_run (p := p) (c := c) (d := 999) (P := P) hB hn h
  obtain ⟨h0, ⟨e1, e2, e3, e4⟩, ⟨i1, n1⟩, ⟨i2, n2⟩, ⟨i3, n3⟩, -⟩ := hB
  simp only [r64_0, r64_1, r64_2, r64_3, r64_6, r64_9, r64_10, r64_11, r64_14, r64_15, r64_18, r64_19, r64_22, r64_23, r64_24, r64_25, r64_26, h0, hl, e3, i3, n3, fRn, true_and, and_true, Option.some.injEq, exists_eq_left', Option.toList_some, Option.toList_none, List.cons_append, List.nil_append, xcat_nil, xcat_int, xcat_ref, xcat_long, not_true, not_false_iff, if_true, if_false, and_self, and_false, false_and, or_true, true_or, or_self, z01, z10, zle8, Nat.reduceAdd, Nat.reduceLeDiff]
  by_cases q : 0 ≤ fRl (xI u (b + 1)) (xI u (b + 2)) (xI u (b + 3)) p c 999 n
  · simp only [q, fRl_in q h (by omega), true_and, and_true, Option.some.injEq, exists_eq_left', Option.toList_some, Option.toList_none, List.cons_append, List.nil_append, xcat_nil, xcat_int, xcat_ref, xcat_long, not_true, not_false_iff, if_true, if_false, and_self, and_false, false_and, or_true, true_or, or_self, z01, z10, zle8, Nat.reduceAdd, Nat.reduceLeDiff]
  · simp only [q, true_and, and_true, Option.some.injEq, exists_eq_left', Option.toList_some, Option.toList_none, List.cons_append, List.nil_append, xcat_nil, xcat_int, xcat_ref, xcat_long, not_true, not_false_iff, if_true, if_false, and_self, and_false, false_and, or_true, true_or, or_self, z01, z10, zle8, Nat.reduceAdd, Nat.reduceLeDiff]
theorem rateFor_loop (hT : sTf u b) (hn : xI u (b + 2) 0 = nI n) (h : n ≤ 20) (hc : okCof (xI u (b + 1)) m) (hm : m ≤ 6) {v : Value} : ∀ r (s : Nat) (k : Int32) (v : Value), s + r = 6 → (k = -2 ∨ ∃ j, j < m ∧ k = nI j) →
    zr 99 6 [.ref b, .int p, .int c, .int d, .int k, .int (nI s), v] [] u P = P (some (.int (if fRf (xI u (b + 3)) (xI u (b + 4)) (xI u (b + 5)) (xI u (b + 1)) p d n r k < 0 then 0 else xI u (b + 6) (xix (fRl (xI u (b + 3)) (xI u (b + 4)) (xI u (b + 5)) p (fRf (xI u (b + 3)) (xI u (b + 4)) (xI u (b + 5)) (xI u (b + 1)) p d n r k) d n))))) u := by
  obtain ⟨h0, ⟨e1, e2, -⟩, ⟨i1, n1⟩, hR, -⟩ := hT
  have hl := fun k P => rlatest_run (p := p) (c := k) (d := d) (P := P) hR hn h
  obtain ⟨hr0, ⟨-, -, -, r4⟩, -, -, -, ⟨j4, m4⟩⟩ := hR
  intro r
  induction r with
  | zero =>
    intro s k v hs hk
    have : s = 6 := by omega
    subst this
    rw [r99_6]
    simp only [r99_8, r99_10, r99_62, r99_63, if_pos (show (6 : Int32) ≤ nI 6 by decide), fRf, fUp, if_pos (show (-2 : Int32) < 0 by decide), true_and, and_true, Option.some.injEq, exists_eq_left', Option.toList_some, Option.toList_none, List.cons_append, List.nil_append, xcat_nil, xcat_int, xcat_ref, xcat_long, not_true, not_false_iff, if_true, if_false, and_self, and_false, false_and, or_true, true_or, or_self, z01, z10, zle8, Nat.reduceAdd, Nat.reduceLeDiff] <;> rfl
  | succ r ih =>
    intro s k v hs hk
    have q0 : ¬ (6 : Int32) ≤ nI s := nI_ge (b := 6) (by omega) (by omega)
    rw [r99_6]
    rcases hk with hk | ⟨j, hj, hk⟩
    · subst hk
      simp only [r99_8, r99_10, r99_13, r99_15, r99_62, r99_63, q0, if_pos (show (-2 : Int32) < 0 by decide), fRf, fUp, true_and, and_true, Option.some.injEq, exists_eq_left', Option.toList_some, Option.toList_none, List.cons_append, List.nil_append, xcat_nil, xcat_int, xcat_ref, xcat_long, not_true, not_false_iff, if_true, if_false, and_self, and_false, false_and, or_true, true_or, or_self, z01, z10, zle8, Nat.reduceAdd, Nat.reduceLeDiff] <;> rfl
    · subst hk
      have q1 : ¬ nI j < 0 := nI_pos (by omega)
      have q2 : xinb (nI j) 6 := xinb_nI (by omega) (by omega)
      have q3 : xix (nI j) = j := xix_nI (by omega)
      have hc' : xI u (b + 1) j = -2 ∨ ∃ i, i < m ∧ xI u (b + 1) j = nI i := by
        rcases hc j hj with q | ⟨i, hi, q⟩
        · exact Or.inl q
        · exact Or.inr ⟨i, by omega, q⟩
      have ih := ih (s + 1) (xI u (b + 1) j) (.int (fRl (xI u (b + 3)) (xI u (b + 4)) (xI u (b + 5)) p (nI j) d n)) (by omega) hc'
      simp only [r99_0, r99_1, r99_3, r99_4, r99_8, r99_10, r99_13, r99_15, r99_18, r99_19, r99_22, r99_23, r99_25, r99_26, r99_29, r99_31, r99_33, r99_36, r99_37, r99_40, r99_43, r99_45, r99_46, r99_47, r99_48, r99_51, r99_53, r99_54, r99_56, r99_59, r99_62, r99_63, q0, q1, q2, q3, h0, e1, e2, i1, n1, hr0, hl, r4, j4, m4, nI_1, ih, true_and, and_true, Option.some.injEq, exists_eq_left', Option.toList_some, Option.toList_none, List.cons_append, List.nil_append, xcat_nil, xcat_int, xcat_ref, xcat_long, not_true, not_false_iff, if_true, if_false, and_self, and_false, false_and, or_true, true_or, or_self, z01, z10, zle8, Nat.reduceAdd, Nat.reduceLeDiff]
      by_cases g : fRl (xI u (b + 3)) (xI u (b + 4)) (xI u (b + 5)) p (nI j) d n < 0
      · have g' : decide (0 ≤ fRl (xI u (b + 3)) (xI u (b + 4)) (xI u (b + 5)) p (nI j) d n) = false := decide_eq_false (i32_nle.mpr g)
        simp only [g, fRf, fUp, q1, g', q3, Bool.false_eq_true, true_and, and_true, Option.some.injEq, exists_eq_left', Option.toList_some, Option.toList_none, List.cons_append, List.nil_append, xcat_nil, xcat_int, xcat_ref, xcat_long, not_true, not_false_iff, if_true, if_false, and_self, and_false, false_and, or_true, true_or, or_self, z01, z10, zle8, Nat.reduceAdd, Nat.reduceLeDiff] <;> rfl
      · have g0 := i32_nlt.mp g
        have g' : decide (0 ≤ fRl (xI u (b + 3)) (xI u (b + 4)) (xI u (b + 5)) p (nI j) d n) = true := decide_eq_true g0
        simp only [g, fRf, fUp, q1, g', fRl_in g0 h (by omega), true_and, and_true, Option.some.injEq, exists_eq_left', Option.toList_some, Option.toList_none, List.cons_append, List.nil_append, xcat_nil, xcat_int, xcat_ref, xcat_long, not_true, not_false_iff, if_true, if_false, and_self, and_false, false_and, or_true, true_or, or_self, z01, z10, zle8, Nat.reduceAdd, Nat.reduceLeDiff] <;> rfl
theorem rateFor_run (hT : sTf u b) (hn : xI u (b + 2) 0 = nI n) (h : n ≤ 20) (hc : okCof (xI u (b + 1)) m) (hm : m ≤ 6) (hk : ∃ j, j < m ∧ c = nI j) :
    zr 99 0 [.ref b, .int p, .int c, .int d, .null, .null, .null] [] u P = P (some (.int (fRate (xI u (b + 3)) (xI u (b + 4)) (xI u (b + 5)) (xI u (b + 6)) (xI u (b + 1)) p c d n))) u := by
  simp only [r99_0, r99_1, r99_3, r99_4]
  exact rateFor_loop (v := .null) hT hn h hc hm 6 0 c .null (by omega) (Or.inr hk)
theorem isUnder_loop (hT : sTf u b) (hc : okCof (xI u (b + 1)) m) (hm : m ≤ 6) {top : Int32} : ∀ r (s : Nat) (k : Int32), s + r = 6 → (k = -2 ∨ ∃ j, j < m ∧ k = nI j) →
    zr 101 5 [.ref b, .int c, .int top, .int k, .int (nI s)] [] u P = P (some (.int (bI (decide (0 ≤ fUp (xI u (b + 1)) (fun k => decide (k = top)) r k))))) u := by
  obtain ⟨h0, ⟨e1, -⟩, ⟨i1, n1⟩, -⟩ := hT
  intro r
  induction r with
  | zero =>
    intro s k hs hk
    have : s = 6 := by omega
    subst this
    rw [r101_5]
    simp only [r101_7, r101_9, r101_36, r101_37, if_pos (show (6 : Int32) ≤ nI 6 by decide), fUp, decide_eq_false (show ¬ (0 : Int32) ≤ -2 by decide), bI_f, true_and, and_true, Option.some.injEq, exists_eq_left', Option.toList_some, Option.toList_none, List.cons_append, List.nil_append, xcat_nil, xcat_int, xcat_ref, xcat_long, not_true, not_false_iff, if_true, if_false, and_self, and_false, false_and, or_true, true_or, or_self, z01, z10, zle8, Nat.reduceAdd, Nat.reduceLeDiff] <;> rfl
  | succ r ih =>
    intro s k hs hk
    have q0 : ¬ (6 : Int32) ≤ nI s := nI_ge (b := 6) (by omega) (by omega)
    rw [r101_5]
    rcases hk with hk | ⟨j, hj, hk⟩
    · subst hk
      simp only [r101_7, r101_9, r101_12, r101_13, r101_36, r101_37, q0, if_pos (show (-2 : Int32) < 0 by decide), fUp, decide_eq_false (show ¬ (0 : Int32) ≤ -2 by decide), bI_f, true_and, and_true, Option.some.injEq, exists_eq_left', Option.toList_some, Option.toList_none, List.cons_append, List.nil_append, xcat_nil, xcat_int, xcat_ref, xcat_long, not_true, not_false_iff, if_true, if_false, and_self, and_false, false_and, or_true, true_or, or_self, z01, z10, zle8, Nat.reduceAdd, Nat.reduceLeDiff] <;> rfl
    · subst hk
      have q1 : ¬ nI j < 0 := nI_pos (by omega)
      have q2 : xinb (nI j) 6 := xinb_nI (by omega) (by omega)
      have q3 : xix (nI j) = j := xix_nI (by omega)
      have hc' : xI u (b + 1) j = -2 ∨ ∃ i, i < m ∧ xI u (b + 1) j = nI i := by
        rcases hc j hj with q | ⟨i, hi, q⟩
        · exact Or.inl q
        · exact Or.inr ⟨i, by omega, q⟩
      have ih := ih (s + 1) (xI u (b + 1) j) (by omega) hc'
      simp only [r101_0, r101_1, r101_2, r101_3, r101_7, r101_9, r101_12, r101_13, r101_16, r101_17, r101_18, r101_21, r101_22, r101_23, r101_24, r101_27, r101_28, r101_29, r101_30, r101_33, r101_36, r101_37, q0, q1, q2, q3, h0, e1, i1, n1, nI_1, ih, fUp, true_and, and_true, Option.some.injEq, exists_eq_left', Option.toList_some, Option.toList_none, List.cons_append, List.nil_append, xcat_nil, xcat_int, xcat_ref, xcat_long, not_true, not_false_iff, if_true, if_false, and_self, and_false, false_and, or_true, true_or, or_self, z01, z10, zle8, Nat.reduceAdd, Nat.reduceLeDiff]
      by_cases g : nI j = top
      · simp only [g, decide_true, decide_eq_true (show (0 : Int32) ≤ top by rw [← g]; exact nI_pos' (by omega)), bI_t, true_and, and_true, Option.some.injEq, exists_eq_left', Option.toList_some, Option.toList_none, List.cons_append, List.nil_append, xcat_nil, xcat_int, xcat_ref, xcat_long, not_true, not_false_iff, if_true, if_false, and_self, and_false, false_and, or_true, true_or, or_self, z01, z10, zle8, Nat.reduceAdd, Nat.reduceLeDiff]
      · simp only [g, decide_false, Bool.false_eq_true, true_and, and_true, Option.some.injEq, exists_eq_left', Option.toList_some, Option.toList_none, List.cons_append, List.nil_append, xcat_nil, xcat_int, xcat_ref, xcat_long, not_true, not_false_iff, if_true, if_false, and_self, and_false, false_and, or_true, true_or, or_self, z01, z10, zle8, Nat.reduceAdd, Nat.reduceLeDiff]
theorem isUnder_run (hT : sTf u b) (hc : okCof (xI u (b + 1)) m) (hm : m ≤ 6) {top : Int32} (hk : ∃ j, j < m ∧ c = nI j) : zr 101 0 [.ref b, .int c, .int top, .null, .null] [] u P = P (some (.int (bI (fUn (xI u (b + 1)) c top)))) u := by
  simp only [r101_0, r101_1, r101_2, r101_3]
  exact isUnder_loop hT hc hm 6 0 c (by omega) (Or.inr hk)
theorem capTold_loop (hT : sTf u b) (hn : xI u b 9 = nI n) (h : n ≤ 6) : ∀ r i, i + r = n → zr 103 2 [.ref b, .int p, .int c, .int (nI i)] [] u P = P (some (.int (fCt (xI u (b + 12)) (xI u (b + 13)) p c r i))) u := by
  obtain ⟨h0, ⟨-, -, -, -, -, -, -, e10, e11, -⟩, -, -, -, -, -, -, -, ⟨i1, n1⟩, ⟨i2, n2⟩, -⟩ := hT
  intro r
  induction r with
  | zero =>
    intro i hi
    have : i = n := by omega
    subst this
    rw [r103_2]
    simp only [r103_0, r103_1, r103_3, r103_4, r103_7, r103_10, r103_11, r103_14, r103_15, r103_16, r103_17, r103_20, r103_21, r103_24, r103_25, r103_26, r103_27, r103_30, r103_31, r103_32, r103_35, r103_38, r103_39, h0, hn, fCt, true_and, and_true, Option.some.injEq, exists_eq_left', Option.toList_some, Option.toList_none, List.cons_append, List.nil_append, xcat_nil, xcat_int, xcat_ref, xcat_long, not_true, not_false_iff, if_true, if_false, and_self, and_false, false_and, or_true, true_or, or_self, z01, z10, zle8, Nat.reduceAdd, Nat.reduceLeDiff]
    rw [if_pos (nI_le (Nat.le_refl i) (by omega))]
  | succ r ih =>
    intro i hi
    have q0 : ¬ nI n ≤ nI i := nI_ge (by omega) (by omega)
    have q1 : xinb (nI i) 6 := xinb_nI (by omega) (by omega)
    have q2 : xix (nI i) = i := xix_nI (by omega)
    have ih := ih (i + 1) (by omega)
    rw [r103_2]
    simp only [r103_0, r103_1, r103_3, r103_4, r103_7, r103_10, r103_11, r103_14, r103_15, r103_16, r103_17, r103_20, r103_21, r103_24, r103_25, r103_26, r103_27, r103_30, r103_31, r103_32, r103_35, r103_38, r103_39, h0, hn, e10, e11, i1, i2, n1, n2, q0, q1, q2, nI_1, ih, fCt, true_and, and_true, Option.some.injEq, exists_eq_left', Option.toList_some, Option.toList_none, List.cons_append, List.nil_append, xcat_nil, xcat_int, xcat_ref, xcat_long, not_true, not_false_iff, if_true, if_false, and_self, and_false, false_and, or_true, true_or, or_self, z01, z10, zle8, Nat.reduceAdd, Nat.reduceLeDiff]
    by_cases c1 : xI u (b + 12) i = p
    · by_cases c2 : xI u (b + 13) i = c
      · simp only [c1, c2, true_and, and_true, Option.some.injEq, exists_eq_left', Option.toList_some, Option.toList_none, List.cons_append, List.nil_append, xcat_nil, xcat_int, xcat_ref, xcat_long, not_true, not_false_iff, if_true, if_false, and_self, and_false, false_and, or_true, true_or, or_self, z01, z10, zle8, Nat.reduceAdd, Nat.reduceLeDiff]
      · simp only [c1, c2, true_and, and_true, Option.some.injEq, exists_eq_left', Option.toList_some, Option.toList_none, List.cons_append, List.nil_append, xcat_nil, xcat_int, xcat_ref, xcat_long, not_true, not_false_iff, if_true, if_false, and_self, and_false, false_and, or_true, true_or, or_self, z01, z10, zle8, Nat.reduceAdd, Nat.reduceLeDiff]
    · simp only [c1, true_and, and_true, Option.some.injEq, exists_eq_left', Option.toList_some, Option.toList_none, List.cons_append, List.nil_append, xcat_nil, xcat_int, xcat_ref, xcat_long, not_true, not_false_iff, if_true, if_false, and_self, and_false, false_and, or_true, true_or, or_self, z01, z10, zle8, Nat.reduceAdd, Nat.reduceLeDiff]
theorem capTold_run (hT : sTf u b) (hn : xI u b 9 = nI n) (h : n ≤ 6) : zr 103 0 [.ref b, .int p, .int c, .null] [] u P = P (some (.int (fCt (xI u (b + 12)) (xI u (b + 13)) p c n 0))) u := by
  simp only [r103_0, r103_1]
  exact capTold_loop hT hn h n 0 (by omega)
theorem capFor_loop (hT : sTf u b) (hn : xI u b 9 = nI n) (h : n ≤ 6) (hc : okCof (xI u (b + 1)) m) (hm : m ≤ 6) : ∀ r (s : Nat) (k : Int32) (v : Value), s + r = 6 → (k = -2 ∨ ∃ j, j < m ∧ k = nI j) →
    zr 102 5 [.ref b, .int p, .int c, .int k, .int (nI s), v] [] u P = P (some (.int (if fUp (xI u (b + 1)) (fun k => decide (0 ≤ fCt (xI u (b + 12)) (xI u (b + 13)) p k n 0)) r k < 0 then -2 else xI u (b + 14) (xix (fCt (xI u (b + 12)) (xI u (b + 13)) p (fUp (xI u (b + 1)) (fun k => decide (0 ≤ fCt (xI u (b + 12)) (xI u (b + 13)) p k n 0)) r k) n 0))))) u := by
  have hl := fun k P => capTold_run (p := p) (c := k) (P := P) hT hn h
  obtain ⟨h0, ⟨e1, -, -, -, -, -, -, e10, e11, e12⟩, ⟨i1, n1⟩, -, -, -, -, -, -, -, -, ⟨i4, n4⟩⟩ := hT
  intro r
  induction r with
  | zero =>
    intro s k v hs hk
    have : s = 6 := by omega
    subst this
    rw [r102_5]
    simp only [r102_7, r102_9, r102_50, r102_52, if_pos (show (6 : Int32) ≤ nI 6 by decide), fUp, if_pos (show (-2 : Int32) < 0 by decide), true_and, and_true, Option.some.injEq, exists_eq_left', Option.toList_some, Option.toList_none, List.cons_append, List.nil_append, xcat_nil, xcat_int, xcat_ref, xcat_long, not_true, not_false_iff, if_true, if_false, and_self, and_false, false_and, or_true, true_or, or_self, z01, z10, zle8, Nat.reduceAdd, Nat.reduceLeDiff] <;> rfl
  | succ r ih =>
    intro s k v hs hk
    have q0 : ¬ (6 : Int32) ≤ nI s := nI_ge (b := 6) (by omega) (by omega)
    rw [r102_5]
    rcases hk with hk | ⟨j, hj, hk⟩
    · subst hk
      simp only [r102_7, r102_9, r102_12, r102_13, r102_50, r102_52, q0, if_pos (show (-2 : Int32) < 0 by decide), fUp, true_and, and_true, Option.some.injEq, exists_eq_left', Option.toList_some, Option.toList_none, List.cons_append, List.nil_append, xcat_nil, xcat_int, xcat_ref, xcat_long, not_true, not_false_iff, if_true, if_false, and_self, and_false, false_and, or_true, true_or, or_self, z01, z10, zle8, Nat.reduceAdd, Nat.reduceLeDiff] <;> rfl
    · subst hk
      have q1 : ¬ nI j < 0 := nI_pos (by omega)
      have q2 : xinb (nI j) 6 := xinb_nI (by omega) (by omega)
      have q3 : xix (nI j) = j := xix_nI (by omega)
      have hc' : xI u (b + 1) j = -2 ∨ ∃ i, i < m ∧ xI u (b + 1) j = nI i := by
        rcases hc j hj with q | ⟨i, hi, q⟩
        · exact Or.inl q
        · exact Or.inr ⟨i, by omega, q⟩
      have ih := ih (s + 1) (xI u (b + 1) j) (.int (fCt (xI u (b + 12)) (xI u (b + 13)) p (nI j) n 0)) (by omega) hc'
      simp only [r102_0, r102_1, r102_2, r102_3, r102_7, r102_9, r102_12, r102_13, r102_16, r102_17, r102_18, r102_19, r102_22, r102_24, r102_26, r102_29, r102_30, r102_33, r102_35, r102_36, r102_37, r102_38, r102_41, r102_42, r102_43, r102_44, r102_47, r102_50, r102_52, q0, q1, q2, q3, h0, e1, i1, n1, hl, e12, i4, n4, nI_1, ih, true_and, and_true, Option.some.injEq, exists_eq_left', Option.toList_some, Option.toList_none, List.cons_append, List.nil_append, xcat_nil, xcat_int, xcat_ref, xcat_long, not_true, not_false_iff, if_true, if_false, and_self, and_false, false_and, or_true, true_or, or_self, z01, z10, zle8, Nat.reduceAdd, Nat.reduceLeDiff]
      rcases fCt_cases (xI u (b + 12)) (xI u (b + 13)) p (nI j) n 0 with g | ⟨z, -, hz, g, -⟩
      · have g0 : fCt (xI u (b + 12)) (xI u (b + 13)) p (nI j) n 0 < 0 := by rw [g]; decide
        have g' : decide (0 ≤ fCt (xI u (b + 12)) (xI u (b + 13)) p (nI j) n 0) = false := decide_eq_false (i32_nle.mpr g0)
        simp only [g0, fUp, q1, g', q3, Bool.false_eq_true, true_and, and_true, Option.some.injEq, exists_eq_left', Option.toList_some, Option.toList_none, List.cons_append, List.nil_append, xcat_nil, xcat_int, xcat_ref, xcat_long, not_true, not_false_iff, if_true, if_false, and_self, and_false, false_and, or_true, true_or, or_self, z01, z10, zle8, Nat.reduceAdd, Nat.reduceLeDiff] <;> rfl
      · have g0 : ¬ fCt (xI u (b + 12)) (xI u (b + 13)) p (nI j) n 0 < 0 := by rw [g]; exact nI_pos (by omega)
        have g' : decide (0 ≤ fCt (xI u (b + 12)) (xI u (b + 13)) p (nI j) n 0) = true := decide_eq_true (i32_nlt.mp g0)
        have g2 : xinb (fCt (xI u (b + 12)) (xI u (b + 13)) p (nI j) n 0) 6 := by rw [g]; exact xinb_nI (by omega) (by omega)
        simp only [g0, fUp, q1, g', g2, true_and, and_true, Option.some.injEq, exists_eq_left', Option.toList_some, Option.toList_none, List.cons_append, List.nil_append, xcat_nil, xcat_int, xcat_ref, xcat_long, not_true, not_false_iff, if_true, if_false, and_self, and_false, false_and, or_true, true_or, or_self, z01, z10, zle8, Nat.reduceAdd, Nat.reduceLeDiff] <;> rfl
theorem capFor_run (hT : sTf u b) (hn : xI u b 9 = nI n) (h : n ≤ 6) (hc : okCof (xI u (b + 1)) m) (hm : m ≤ 6) (hk : ∃ j, j < m ∧ c = nI j) : zr 102 0 [.ref b, .int p, .int c, .null, .null, .null] [] u P = P (some (.int (fCap (xI u (b + 12)) (xI u (b + 13)) (xI u (b + 14)) (xI u (b + 1)) p c n))) u := by
  simp only [r102_0, r102_1, r102_2, r102_3]
  exact capFor_loop hT hn h hc hm 6 0 c .null (by omega) (Or.inr hk)
theorem isFree_loop (hT : sTf u b) (hn : xI u b 3 = nI n) (h : n ≤ 6) (hc : okCof (xI u (b + 1)) m) (hm : m ≤ 6) (hk : ∃ j, j < m ∧ c = nI j) : ∀ r i, i + r = n →
    zr 100 3 [.ref b, .int p, .int c, .int d, .int price, .int (nI i)] [] u P = P (some (.int (bI (fFr (xI u (b + 7)) (xI u (b + 8)) (xI u (b + 9)) (xI u (b + 10)) (xI u (b + 11)) (xI u (b + 1)) p c d price r i)))) u := by
  have hU := fun top P => isUnder_run (c := c) (top := top) (P := P) hT hc hm hk
  obtain ⟨h0, ⟨-, -, e4, e5, e6, e7, e8, -⟩, -, -, ⟨i4, n4⟩, ⟨i5, n5⟩, ⟨i6, n6⟩, ⟨i7, n7⟩, ⟨i8, n8⟩, -⟩ := hT
  intro r
  induction r with
  | zero =>
    intro i hi
    have : i = n := by omega
    subst this
    rw [r100_3]
    simp only [r100_0, r100_1, r100_5, r100_6, r100_9, r100_12, r100_13, r100_16, r100_18, r100_19, r100_20, r100_23, r100_24, r100_25, r100_28, r100_30, r100_31, r100_32, r100_35, r100_37, r100_38, r100_41, r100_44, r100_46, r100_47, r100_50, r100_52, r100_53, r100_56, r100_57, r100_58, r100_59, r100_62, r100_64, r100_65, r100_68, r100_71, r100_72, r100_73, r100_76, r100_79, r100_80, h0, hn, fFr, bI_f, true_and, and_true, Option.some.injEq, exists_eq_left', Option.toList_some, Option.toList_none, List.cons_append, List.nil_append, xcat_nil, xcat_int, xcat_ref, xcat_long, not_true, not_false_iff, if_true, if_false, and_self, and_false, false_and, or_true, true_or, or_self, z01, z10, zle8, Nat.reduceAdd, Nat.reduceLeDiff]
    rw [if_pos (nI_le (Nat.le_refl i) (by omega))]
  | succ r ih =>
    intro i hi
    have q0 : ¬ nI n ≤ nI i := nI_ge (by omega) (by omega)
    have q1 : xinb (nI i) 6 := xinb_nI (by omega) (by omega)
    have q2 : xix (nI i) = i := xix_nI (by omega)
    have ih := ih (i + 1) (by omega)
    rw [r100_3]
    simp only [r100_0, r100_1, r100_5, r100_6, r100_9, r100_12, r100_13, r100_16, r100_18, r100_19, r100_20, r100_23, r100_24, r100_25, r100_28, r100_30, r100_31, r100_32, r100_35, r100_37, r100_38, r100_41, r100_44, r100_46, r100_47, r100_50, r100_52, r100_53, r100_56, r100_57, r100_58, r100_59, r100_62, r100_64, r100_65, r100_68, r100_71, r100_72, r100_73, r100_76, r100_79, r100_80, within_run, h0, hn, e4, e5, e6, e7, e8, i4, i5, i6, i7, i8, n4, n5, n6, n7, n8, q0, q1, q2, nI_1, ih, hU, fFr, bI_0, true_and, and_true, Option.some.injEq, exists_eq_left', Option.toList_some, Option.toList_none, List.cons_append, List.nil_append, xcat_nil, xcat_int, xcat_ref, xcat_long, not_true, not_false_iff, if_true, if_false, and_self, and_false, false_and, or_true, true_or, or_self, z01, z10, zle8, Nat.reduceAdd, Nat.reduceLeDiff]
    by_cases c1 : xI u (b + 7) i = p
    · by_cases c2 : xI u (b + 9) i ≤ d ∧ d ≤ xI u (b + 10) i
      · by_cases c3 : xI u (b + 11) i < price
        · simp only [c1, c2, c3, i32_nle.mpr c3, decide_true, decide_false, Bool.true_and, Bool.false_and, Bool.false_or, Bool.true_eq_false, and_self, true_and, and_true, Option.some.injEq, exists_eq_left', Option.toList_some, Option.toList_none, List.cons_append, List.nil_append, xcat_nil, xcat_int, xcat_ref, xcat_long, not_true, not_false_iff, if_true, if_false, and_self, and_false, false_and, or_true, true_or, or_self, z01, z10, zle8, Nat.reduceAdd, Nat.reduceLeDiff]
        · have c3' := i32_nlt.mp c3
          cases hu : fUn (xI u (b + 1)) c (xI u (b + 8) i) <;> simp only [c1, c2, c3, c3', decide_true, Bool.true_and, Bool.true_eq_false, Bool.false_or, Bool.true_or, bI_t, and_self, true_and, and_true, Option.some.injEq, exists_eq_left', Option.toList_some, Option.toList_none, List.cons_append, List.nil_append, xcat_nil, xcat_int, xcat_ref, xcat_long, not_true, not_false_iff, if_true, if_false, and_self, and_false, false_and, or_true, true_or, or_self, z01, z10, zle8, Nat.reduceAdd, Nat.reduceLeDiff] <;> rfl
      · simp only [c1, c2, decide_true, decide_false, Bool.true_and, Bool.false_and, Bool.false_or, true_and, and_true, Option.some.injEq, exists_eq_left', Option.toList_some, Option.toList_none, List.cons_append, List.nil_append, xcat_nil, xcat_int, xcat_ref, xcat_long, not_true, not_false_iff, if_true, if_false, and_self, and_false, false_and, or_true, true_or, or_self, z01, z10, zle8, Nat.reduceAdd, Nat.reduceLeDiff]
    · simp only [c1, decide_false, Bool.false_and, Bool.false_or, true_and, and_true, Option.some.injEq, exists_eq_left', Option.toList_some, Option.toList_none, List.cons_append, List.nil_append, xcat_nil, xcat_int, xcat_ref, xcat_long, not_true, not_false_iff, if_true, if_false, and_self, and_false, false_and, or_true, true_or, or_self, z01, z10, zle8, Nat.reduceAdd, Nat.reduceLeDiff]
theorem isFree_run (hT : sTf u b) (hn : xI u b 3 = nI n) (h : n ≤ 6) (hc : okCof (xI u (b + 1)) m) (hm : m ≤ 6) (hk : ∃ j, j < m ∧ c = nI j) :
    zr 100 0 [.ref b, .int p, .int c, .int d, .int price, .null] [] u P = P (some (.int (bI (fFr (xI u (b + 7)) (xI u (b + 8)) (xI u (b + 9)) (xI u (b + 10)) (xI u (b + 11)) (xI u (b + 1)) p c d price n 0)))) u := by
  simp only [r100_0, r100_1]
  exact isFree_loop hT hn h hc hm hk n 0 (by omega)
end
