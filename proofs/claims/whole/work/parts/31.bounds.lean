/-! BOUNDS -/
def fLat (own day : Nat → Int32) (p d : Int32) : Nat → Int32
  | 0 => -1
  | k + 1 => if own k = p ∧ day k ≤ d then nI k else fLat own day p d k
theorem fLat_cases (own day : Nat → Int32) (p d : Int32) : ∀ n, fLat own day p d n = -1 ∨ ∃ k, k < n ∧ fLat own day p d n = nI k ∧ own k = p ∧ day k ≤ d := by
  intro n
  induction n with
  | zero => exact Or.inl rfl
  | succ n ih =>
    unfold fLat
    by_cases h : own n = p ∧ day n ≤ d
    · rw [if_pos h]
      exact Or.inr ⟨n, by omega, rfl, h.1, h.2⟩
    · rw [if_neg h]
      rcases ih with h1 | ⟨k, hk, h2⟩
      · exact Or.inl h1
      · exact Or.inr ⟨k, by omega, h2⟩
def fNf (own day : Nat → Int32) (p : Int32) (n : Nat) : Int32 := if 0 ≤ fLat own day p 999 n then day (xix (fLat own day p 999 n)) + 1 else 0
def fCnt (own : Nat → Int32) (p : Int32) : Nat → Int32
  | 0 => 0
  | k + 1 => fCnt own p k + (if own k = p then 1 else 0)
def fCo (own day nc : Nat → Int32) (p d : Int32) (n : Nat) : Int32 := if 0 ≤ fLat own day p d n then nc (xix (fLat own day p d n)) else 0
def fNx (own day : Nat → Int32) (p d : Int32) : Nat → Nat → Int32
  | 0, _ => -2
  | r + 1, i => if own i = p ∧ d < day i then day i else fNx own day p d r (i + 1)
def fNa (day : Nat → Int32) (d : Int32) : Nat → Int32
  | 0 => 1000
  | k + 1 => if d < day k ∧ day k < fNa day d k then day k else fNa day d k
section
variable {u : xMem} {P : Option Value → xMem → Prop} {b n : Nat} {p d x y lo hi : Int32}
theorem bit_run : zr 165 0 [.int x] [] u P = P (some (.int (if x = 0 then 0 else 1))) u := by
  simp only [r165_0, r165_1, r165_4, r165_5, r165_8, r165_9, true_and, and_true, Option.some.injEq, exists_eq_left', Option.toList_some, Option.toList_none, List.cons_append, List.nil_append, xcat_nil, xcat_int, xcat_ref, xcat_long, not_true, not_false_iff, if_true, if_false, and_self, and_false, false_and, or_true, true_or, or_self, z01, z10, zle8, Nat.reduceAdd, Nat.reduceLeDiff]
  split <;> rfl
theorem within_run : zr 164 0 [.int x, .int lo, .int hi] [] u P = P (some (.int (bI (decide (lo ≤ x ∧ x ≤ hi))))) u := by
  simp only [r164_0, r164_1, r164_2, r164_5, r164_6, r164_7, r164_10, r164_11, r164_14, r164_15, true_and, and_true, Option.some.injEq, exists_eq_left', Option.toList_some, Option.toList_none, List.cons_append, List.nil_append, xcat_nil, xcat_int, xcat_ref, xcat_long, not_true, not_false_iff, if_true, if_false, and_self, and_false, false_and, or_true, true_or, or_self, z01, z10, zle8, Nat.reduceAdd, Nat.reduceLeDiff]
  by_cases c1 : x < lo
  · rw [if_pos c1, decide_eq_false (fun q => i32_nle.mpr c1 q.1)]
    rfl
  · rw [if_neg c1]
    by_cases c2 : hi < x
    · rw [if_pos c2, decide_eq_false (fun q => i32_nle.mpr c2 q.2)]
      rfl
    · rw [if_neg c2, decide_eq_true (⟨i32_nlt.mp c1, i32_nlt.mp c2⟩ : lo ≤ x ∧ x ≤ hi)]
      rfl
theorem latest_loop (hB : sB u b) : ∀ k, k ≤ 16 → zr 19 7 [.ref b, .int p, .int d, .int (nI k - 1)] [] u P = P (some (.int (fLat (xI u (b + 1)) (xI u (b + 2)) p d k))) u := by
  obtain ⟨h0, ⟨e1, e2, -⟩, ⟨i1, n1⟩, ⟨i2, n2⟩, -⟩ := hB
  intro k
  induction k with
  | zero =>
    intro _
    rw [r19_7]
    simp only [r19_8, r19_39, r19_40, if_pos (show nI 0 - 1 < 0 by decide), fLat]
  | succ k ih =>
    intro hk
    have q0 : ¬ nI k < 0 := nI_pos (by omega)
    have q1 : xinb (nI k) 16 := xinb_nI (by omega) (by omega)
    have q2 : xix (nI k) = k := xix_nI (by omega)
    have ih := ih (by omega)
    rw [nI_pred, r19_7]
    simp only [r19_0, r19_1, r19_4, r19_5, r19_6, r19_8, r19_11, r19_12, r19_15, r19_16, r19_17, r19_18, r19_21, r19_22, r19_25, r19_26, r19_27, r19_28, r19_31, r19_32, r19_33, r19_36, r19_39, r19_40, q0, h0, e1, e2, i1, i2, n1, n2, q1, q2, fLat, xneg1, ih, true_and, and_true, Option.some.injEq, exists_eq_left', Option.toList_some, Option.toList_none, List.cons_append, List.nil_append, xcat_nil, xcat_int, xcat_ref, xcat_long, not_true, not_false_iff, if_true, if_false, and_self, and_false, false_and, or_true, true_or, or_self, z01, z10, zle8, Nat.reduceAdd, Nat.reduceLeDiff]
    by_cases c1 : xI u (b + 1) k = p
    · by_cases c2 : xI u (b + 2) k ≤ d
      · simp only [c1, c2, i32_nlt.mpr c2, true_and, and_true, Option.some.injEq, exists_eq_left', Option.toList_some, Option.toList_none, List.cons_append, List.nil_append, xcat_nil, xcat_int, xcat_ref, xcat_long, not_true, not_false_iff, if_true, if_false, and_self, and_false, false_and, or_true, true_or, or_self, z01, z10, zle8, Nat.reduceAdd, Nat.reduceLeDiff]
      · simp only [c1, c2, i32_nle.mp c2, true_and, and_true, Option.some.injEq, exists_eq_left', Option.toList_some, Option.toList_none, List.cons_append, List.nil_append, xcat_nil, xcat_int, xcat_ref, xcat_long, not_true, not_false_iff, if_true, if_false, and_self, and_false, false_and, or_true, true_or, or_self, z01, z10, zle8, Nat.reduceAdd, Nat.reduceLeDiff]
    · simp only [c1, true_and, and_true, Option.some.injEq, exists_eq_left', Option.toList_some, Option.toList_none, List.cons_append, List.nil_append, xcat_nil, xcat_int, xcat_ref, xcat_long, not_true, not_false_iff, if_true, if_false, and_self, and_false, false_and, or_true, true_or, or_self, z01, z10, zle8, Nat.reduceAdd, Nat.reduceLeDiff]
theorem latest_run (hB : sB u b) (hn : xI u b 0 = nI n) (h : n ≤ 16) : zr 19 0 [.ref b, .int p, .int d, .null] [] u P = P (some (.int (fLat (xI u (b + 1)) (xI u (b + 2)) p d n))) u := by
  simp only [r19_0, r19_1, r19_4, r19_5, r19_6, hB.1, hn, true_and, and_true, Option.some.injEq, exists_eq_left', Option.toList_some, Option.toList_none, List.cons_append, List.nil_append, xcat_nil, xcat_int, xcat_ref, xcat_long, not_true, not_false_iff, if_true, if_false, and_self, and_false, false_and, or_true, true_or, or_self, z01, z10, zle8, Nat.reduceAdd, Nat.reduceLeDiff]
  exact latest_loop hB n h
theorem fLat_in {own day : Nat → Int32} (h : 0 ≤ fLat own day p d n) (hn : n ≤ 16) : xinb (fLat own day p d n) 16 := by
  rcases fLat_cases own day p d n with q | ⟨k, hk, q, -⟩
  · rw [q] at h
    exact absurd h (by decide)
  · rw [q]
    exact xinb_nI (by omega) (by omega)
theorem nextFree_run (hB : sB u b) (hn : xI u b 0 = nI n) (h : n ≤ 16) : zr 20 0 [.ref b, .int p, .null] [] u P = P (some (.int (fNf (xI u (b + 1)) (xI u (b + 2)) p n))) u := by
  have hl := fun P => latest_run (p := p) (d := 999) (P := P) hB hn h
  obtain ⟨h0, ⟨e1, e2, -⟩, ⟨i1, n1⟩, ⟨i2, n2⟩, -⟩ := hB
  simp only [r20_0, r20_1, r20_2, r20_5, r20_8, r20_9, r20_10, r20_13, r20_14, r20_17, r20_18, r20_21, r20_22, r20_23, r20_24, r20_25, h0, hl, e2, i2, n2, fNf, true_and, and_true, Option.some.injEq, exists_eq_left', Option.toList_some, Option.toList_none, List.cons_append, List.nil_append, xcat_nil, xcat_int, xcat_ref, xcat_long, not_true, not_false_iff, if_true, if_false, and_self, and_false, false_and, or_true, true_or, or_self, z01, z10, zle8, Nat.reduceAdd, Nat.reduceLeDiff]
  by_cases c : 0 ≤ fLat (xI u (b + 1)) (xI u (b + 2)) p 999 n
  · simp only [c, fLat_in c h, true_and, and_true, Option.some.injEq, exists_eq_left', Option.toList_some, Option.toList_none, List.cons_append, List.nil_append, xcat_nil, xcat_int, xcat_ref, xcat_long, not_true, not_false_iff, if_true, if_false, and_self, and_false, false_and, or_true, true_or, or_self, z01, z10, zle8, Nat.reduceAdd, Nat.reduceLeDiff]
  · simp only [c, true_and, and_true, Option.some.injEq, exists_eq_left', Option.toList_some, Option.toList_none, List.cons_append, List.nil_append, xcat_nil, xcat_int, xcat_ref, xcat_long, not_true, not_false_iff, if_true, if_false, and_self, and_false, false_and, or_true, true_or, or_self, z01, z10, zle8, Nat.reduceAdd, Nat.reduceLeDiff]
theorem cornersOn_run (hB : sB u b) (hn : xI u b 0 = nI n) (h : n ≤ 16) : zr 22 0 [.ref b, .int p, .int d, .null] [] u P = P (some (.int (fCo (xI u (b + 1)) (xI u (b + 2)) (xI u (b + 3)) p d n))) u := by
  have hl := fun P => latest_run (p := p) (d := d) (P := P) hB hn h
  obtain ⟨h0, ⟨e1, e2, e3, -⟩, -, -, ⟨i3, n3⟩, -⟩ := hB
  simp only [r22_0, r22_1, r22_2, r22_3, r22_6, r22_7, r22_8, r22_11, r22_12, r22_15, r22_16, r22_19, r22_20, r22_21, h0, hl, e3, i3, n3, fCo, true_and, and_true, Option.some.injEq, exists_eq_left', Option.toList_some, Option.toList_none, List.cons_append, List.nil_append, xcat_nil, xcat_int, xcat_ref, xcat_long, not_true, not_false_iff, if_true, if_false, and_self, and_false, false_and, or_true, true_or, or_self, z01, z10, zle8, Nat.reduceAdd, Nat.reduceLeDiff]
  by_cases c : 0 ≤ fLat (xI u (b + 1)) (xI u (b + 2)) p d n
  · simp only [c, fLat_in c h, true_and, and_true, Option.some.injEq, exists_eq_left', Option.toList_some, Option.toList_none, List.cons_append, List.nil_append, xcat_nil, xcat_int, xcat_ref, xcat_long, not_true, not_false_iff, if_true, if_false, and_self, and_false, false_and, or_true, true_or, or_self, z01, z10, zle8, Nat.reduceAdd, Nat.reduceLeDiff]
  · simp only [c, true_and, and_true, Option.some.injEq, exists_eq_left', Option.toList_some, Option.toList_none, List.cons_append, List.nil_append, xcat_nil, xcat_int, xcat_ref, xcat_long, not_true, not_false_iff, if_true, if_false, and_self, and_false, false_and, or_true, true_or, or_self, z01, z10, zle8, Nat.reduceAdd, Nat.reduceLeDiff]
theorem countOf_loop (hB : sB u b) (hn : xI u b 0 = nI n) (h : n ≤ 16) : ∀ r i, i + r = n → zr 21 4 [.ref b, .int p, .int (fCnt (xI u (b + 1)) p i), .int (nI i)] [] u P = P (some (.int (fCnt (xI u (b + 1)) p n))) u := by
  obtain ⟨h0, ⟨e1, -⟩, ⟨i1, n1⟩, -⟩ := hB
  intro r
  induction r with
  | zero =>
    intro i hi
    have : i = n := by omega
    subst this
    rw [r21_4]
    simp only [r21_0, r21_1, r21_2, r21_3, r21_5, r21_6, r21_9, r21_12, r21_13, r21_14, r21_17, r21_18, r21_19, r21_20, r21_23, r21_24, r21_27, r21_28, r21_31, r21_32, r21_33, r21_36, r21_39, r21_40, h0, hn, true_and, and_true, Option.some.injEq, exists_eq_left', Option.toList_some, Option.toList_none, List.cons_append, List.nil_append, xcat_nil, xcat_int, xcat_ref, xcat_long, not_true, not_false_iff, if_true, if_false, and_self, and_false, false_and, or_true, true_or, or_self, z01, z10, zle8, Nat.reduceAdd, Nat.reduceLeDiff]
    rw [if_pos (nI_le (Nat.le_refl i) (by omega))]
  | succ r ih =>
    intro i hi
    have q0 : ¬ nI n ≤ nI i := nI_ge (by omega) (by omega)
    have q1 : xinb (nI i) 16 := xinb_nI (by omega) (by omega)
    have q2 : xix (nI i) = i := xix_nI (by omega)
    have ih := ih (i + 1) (by omega)
    simp only [fCnt] at ih
    rw [r21_4]
    simp only [r21_0, r21_1, r21_2, r21_3, r21_5, r21_6, r21_9, r21_12, r21_13, r21_14, r21_17, r21_18, r21_19, r21_20, r21_23, r21_24, r21_27, r21_28, r21_31, r21_32, r21_33, r21_36, r21_39, r21_40, bit_run, h0, hn, e1, i1, n1, q0, q1, q2, nI_1, true_and, and_true, Option.some.injEq, exists_eq_left', Option.toList_some, Option.toList_none, List.cons_append, List.nil_append, xcat_nil, xcat_int, xcat_ref, xcat_long, not_true, not_false_iff, if_true, if_false, and_self, and_false, false_and, or_true, true_or, or_self, z01, z10, zle8, Nat.reduceAdd, Nat.reduceLeDiff]
    by_cases c : xI u (b + 1) i = p <;> simp only [c, true_and, and_true, Option.some.injEq, exists_eq_left', Option.toList_some, Option.toList_none, List.cons_append, List.nil_append, xcat_nil, xcat_int, xcat_ref, xcat_long, not_true, not_false_iff, if_true, if_false, and_self, and_false, false_and, or_true, true_or, or_self, z01, z10, zle8, Nat.reduceAdd, Nat.reduceLeDiff] at ih ⊢ <;> exact ih
theorem nextOf_loop (hB : sB u b) (hn : xI u b 0 = nI n) (h : n ≤ 16) : ∀ r i, i + r = n → zr 23 2 [.ref b, .int p, .int d, .int (nI i)] [] u P = P (some (.int (fNx (xI u (b + 1)) (xI u (b + 2)) p d r i))) u := by
  obtain ⟨h0, ⟨e1, e2, -⟩, ⟨i1, n1⟩, ⟨i2, n2⟩, -⟩ := hB
  intro r
  induction r with
  | zero =>
    intro i hi
    have : i = n := by omega
    subst this
    rw [r23_2]
    simp only [r23_0, r23_1, r23_3, r23_4, r23_7, r23_10, r23_11, r23_14, r23_15, r23_16, r23_17, r23_20, r23_21, r23_24, r23_25, r23_26, r23_27, r23_30, r23_31, r23_34, r23_35, r23_36, r23_37, r23_40, r23_43, r23_45, h0, hn, fNx, true_and, and_true, Option.some.injEq, exists_eq_left', Option.toList_some, Option.toList_none, List.cons_append, List.nil_append, xcat_nil, xcat_int, xcat_ref, xcat_long, not_true, not_false_iff, if_true, if_false, and_self, and_false, false_and, or_true, true_or, or_self, z01, z10, zle8, Nat.reduceAdd, Nat.reduceLeDiff]
    rw [if_pos (nI_le (Nat.le_refl i) (by omega))]
  | succ r ih =>
    intro i hi
    have q0 : ¬ nI n ≤ nI i := nI_ge (by omega) (by omega)
    have q1 : xinb (nI i) 16 := xinb_nI (by omega) (by omega)
    have q2 : xix (nI i) = i := xix_nI (by omega)
    have ih := ih (i + 1) (by omega)
    rw [r23_2]
    simp only [r23_0, r23_1, r23_3, r23_4, r23_7, r23_10, r23_11, r23_14, r23_15, r23_16, r23_17, r23_20, r23_21, r23_24, r23_25, r23_26, r23_27, r23_30, r23_31, r23_34, r23_35, r23_36, r23_37, r23_40, r23_43, r23_45, h0, hn, e1, e2, i1, i2, n1, n2, q0, q1, q2, nI_1, ih, fNx, true_and, and_true, Option.some.injEq, exists_eq_left', Option.toList_some, Option.toList_none, List.cons_append, List.nil_append, xcat_nil, xcat_int, xcat_ref, xcat_long, not_true, not_false_iff, if_true, if_false, and_self, and_false, false_and, or_true, true_or, or_self, z01, z10, zle8, Nat.reduceAdd, Nat.reduceLeDiff]
    by_cases c1 : xI u (b + 1) i = p
    · by_cases c2 : xI u (b + 2) i ≤ d
      · simp only [c1, c2, i32_nlt.mpr c2, true_and, and_true, Option.some.injEq, exists_eq_left', Option.toList_some, Option.toList_none, List.cons_append, List.nil_append, xcat_nil, xcat_int, xcat_ref, xcat_long, not_true, not_false_iff, if_true, if_false, and_self, and_false, false_and, or_true, true_or, or_self, z01, z10, zle8, Nat.reduceAdd, Nat.reduceLeDiff]
      · simp only [c1, c2, i32_nle.mp c2, true_and, and_true, Option.some.injEq, exists_eq_left', Option.toList_some, Option.toList_none, List.cons_append, List.nil_append, xcat_nil, xcat_int, xcat_ref, xcat_long, not_true, not_false_iff, if_true, if_false, and_self, and_false, false_and, or_true, true_or, or_self, z01, z10, zle8, Nat.reduceAdd, Nat.reduceLeDiff]
    · simp only [c1, true_and, and_true, Option.some.injEq, exists_eq_left', Option.toList_some, Option.toList_none, List.cons_append, List.nil_append, xcat_nil, xcat_int, xcat_ref, xcat_long, not_true, not_false_iff, if_true, if_false, and_self, and_false, false_and, or_true, true_or, or_self, z01, z10, zle8, Nat.reduceAdd, Nat.reduceLeDiff]
theorem nextOf_run (hB : sB u b) (hn : xI u b 0 = nI n) (h : n ≤ 16) : zr 23 0 [.ref b, .int p, .int d, .null] [] u P = P (some (.int (fNx (xI u (b + 1)) (xI u (b + 2)) p d n 0))) u := by
  simp only [r23_0, r23_1]
  exact nextOf_loop hB hn h n 0 (by omega)
theorem nextOfAll_loop (hB : sB u b) (hn : xI u b 0 = nI n) (h : n ≤ 16) : ∀ r i, i + r = n → zr 24 6 [.ref b, .int d, .int (fNa (xI u (b + 2)) d i), .int (nI i)] [] u P = P (some (.int (fNa (xI u (b + 2)) d n))) u := by
  obtain ⟨h0, ⟨e1, e2, -⟩, ⟨i1, n1⟩, ⟨i2, n2⟩, -⟩ := hB
  intro r
  induction r with
  | zero =>
    intro i hi
    have : i = n := by omega
    subst this
    rw [r24_6]
    simp only [r24_0, r24_3, r24_4, r24_5, r24_7, r24_8, r24_11, r24_14, r24_15, r24_18, r24_19, r24_20, r24_21, r24_24, r24_25, r24_28, r24_29, r24_30, r24_31, r24_34, r24_35, r24_38, r24_39, r24_40, r24_41, r24_44, r24_47, r24_48, h0, hn, true_and, and_true, Option.some.injEq, exists_eq_left', Option.toList_some, Option.toList_none, List.cons_append, List.nil_append, xcat_nil, xcat_int, xcat_ref, xcat_long, not_true, not_false_iff, if_true, if_false, and_self, and_false, false_and, or_true, true_or, or_self, z01, z10, zle8, Nat.reduceAdd, Nat.reduceLeDiff]
    rw [if_pos (nI_le (Nat.le_refl i) (by omega))]
  | succ r ih =>
    intro i hi
    have q0 : ¬ nI n ≤ nI i := nI_ge (by omega) (by omega)
    have q1 : xinb (nI i) 16 := xinb_nI (by omega) (by omega)
    have q2 : xix (nI i) = i := xix_nI (by omega)
    have ih := ih (i + 1) (by omega)
    simp only [fNa] at ih
    rw [r24_6]
    simp only [r24_0, r24_3, r24_4, r24_5, r24_7, r24_8, r24_11, r24_14, r24_15, r24_18, r24_19, r24_20, r24_21, r24_24, r24_25, r24_28, r24_29, r24_30, r24_31, r24_34, r24_35, r24_38, r24_39, r24_40, r24_41, r24_44, r24_47, r24_48, h0, hn, e2, i2, n2, q0, q1, q2, nI_1, true_and, and_true, Option.some.injEq, exists_eq_left', Option.toList_some, Option.toList_none, List.cons_append, List.nil_append, xcat_nil, xcat_int, xcat_ref, xcat_long, not_true, not_false_iff, if_true, if_false, and_self, and_false, false_and, or_true, true_or, or_self, z01, z10, zle8, Nat.reduceAdd, Nat.reduceLeDiff]
    by_cases c1 : xI u (b + 2) i ≤ d
    · simp only [c1, i32_nlt.mpr c1, true_and, and_true, Option.some.injEq, exists_eq_left', Option.toList_some, Option.toList_none, List.cons_append, List.nil_append, xcat_nil, xcat_int, xcat_ref, xcat_long, not_true, not_false_iff, if_true, if_false, and_self, and_false, false_and, or_true, true_or, or_self, z01, z10, zle8, Nat.reduceAdd, Nat.reduceLeDiff] at ih ⊢
      exact ih
    · by_cases c2 : fNa (xI u (b + 2)) d i ≤ xI u (b + 2) i
      · simp only [c1, c2, i32_nle.mp c1, i32_nlt.mpr c2, true_and, and_true, Option.some.injEq, exists_eq_left', Option.toList_some, Option.toList_none, List.cons_append, List.nil_append, xcat_nil, xcat_int, xcat_ref, xcat_long, not_true, not_false_iff, if_true, if_false, and_self, and_false, false_and, or_true, true_or, or_self, z01, z10, zle8, Nat.reduceAdd, Nat.reduceLeDiff] at ih ⊢
        exact ih
      · simp only [c1, c2, i32_nle.mp c1, i32_nle.mp c2, true_and, and_true, Option.some.injEq, exists_eq_left', Option.toList_some, Option.toList_none, List.cons_append, List.nil_append, xcat_nil, xcat_int, xcat_ref, xcat_long, not_true, not_false_iff, if_true, if_false, and_self, and_false, false_and, or_true, true_or, or_self, z01, z10, zle8, Nat.reduceAdd, Nat.reduceLeDiff] at ih ⊢
        exact ih
theorem nextOfAll_run (hB : sB u b) (hn : xI u b 0 = nI n) (h : n ≤ 16) : zr 24 0 [.ref b, .int d, .null, .null] [] u P = P (some (.int (fNa (xI u (b + 2)) d n))) u := by
  simp only [r24_0, r24_3, r24_4, r24_5]
  exact nextOfAll_loop hB hn h n 0 (by omega)
theorem countOf_run (hB : sB u b) (hn : xI u b 0 = nI n) (h : n ≤ 16) : zr 21 0 [.ref b, .int p, .null, .null] [] u P = P (some (.int (fCnt (xI u (b + 1)) p n))) u := by
  simp only [r21_0, r21_1, r21_2, r21_3]
  exact countOf_loop hB hn h n 0 (by omega)
end
