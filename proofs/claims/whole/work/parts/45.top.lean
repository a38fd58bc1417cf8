/-! THE WHOLE SHAPE, and the class's small helpers -/
def sMd (u : xMem) : Prop := xIs u 278 11 ∧ (xR u 278 3 = some 279 ∧ xR u 278 4 = some 280 ∧ xR u 278 5 = some 281 ∧ xR u 278 6 = some 282 ∧ xR u 278 8 = some 283 ∧ xR u 278 17 = some 284 ∧ xR u 278 18 = some 285 ∧ xR u 278 19 = some 286 ∧ xR u 278 21 = some 287 ∧ xR u 278 22 = some 288 ∧ xR u 278 23 = some 289 ∧ xR u 278 25 = some 290 ∧ xR u 278 26 = some 291 ∧ xR u 278 28 = some 292 ∧ xR u 278 29 = some 293 ∧ xR u 278 30 = some 294) ∧
  sA u 279 13 402 ∧ sA u 280 13 402 ∧ sA u 281 14 6 ∧ sA u 282 14 10 ∧ sA u 283 12 1200 ∧ sA u 284 13 4 ∧ sA u 285 13 4 ∧ sA u 286 13 1000 ∧ sA u 287 13 60 ∧ sA u 288 13 60 ∧ sA u 289 13 60 ∧ sA u 290 13 12 ∧ sA u 291 13 120 ∧ sA u 292 13 8 ∧ sA u 293 13 8 ∧ sA u 294 13 8
def sSP (u : xMem) (D : Nat) : Prop := xIs u 0 10 ∧ xR u 0 0 = some 1 ∧ xR u 0 1 = some D ∧ xR u 0 3 = some 62 ∧ xR u 0 4 = some 269 ∧ xR u 0 5 = some 273
def sRd (u : xMem) (E : Nat) : Prop := xIs u 1 7 ∧ (xR u 1 0 = some 2 ∧ xR u 1 1 = some 4 ∧ xR u 1 2 = some 5 ∧ xR u 1 3 = some E) ∧ sA u 4 14 6 ∧ sA u 5 14 10
def Sh (u : xMem) (D E : Nat) : Prop := (D = 6 ∧ E = 34 ∨ D = 34 ∧ E = 6) ∧ sSP u D ∧ sRd u E ∧ sTp u 2 ∧ sDk u 6 ∧ sDk u 34 ∧ sBk u 62 ∧ sAc u 269 ∧ sLn u 273 ∧ sMd u ∧ sA u 295 14 1
theorem pred_lt {n : Nat} {p : Int32} (hn : n ≤ 1000000) : p ≤ nI n - 1 ↔ p < nI n := by
  cases n with
  | zero =>
    rw [show nI 0 - 1 = -1 by decide, i32_le, i32_lt]
    have : (-1 : Int32).toInt = -1 := rfl
    have : (nI 0).toInt = 0 := rfl
    omega
  | succ n =>
    rw [nI_pred, i32_le, i32_lt, nI_toInt (by omega), nI_toInt (by omega)]
    omega
section
variable {u w : xMem} {P : Option Value → xMem → Prop} {D s nl np nb nc nr nh nk n a : Nat} {p c d x y e k r : Int32} {op : Bool}
theorem grant_run (h : xIs u 0 10) : zr 153 0 [.ref 0, .int x] [] u P = P (some (.int x)) (xsI u 0 6 0) := by
  simp only [r153_0, r153_1, r153_2, r153_5, r153_6, h, true_and, and_true, Option.some.injEq, exists_eq_left', Option.toList_some, Option.toList_none, List.cons_append, List.nil_append, xcat_nil, xcat_int, xcat_ref, xcat_long, not_true, not_false_iff, if_true, if_false, and_self, and_false, false_and, or_true, true_or, or_self, z01, z10, zle8, Nat.reduceAdd, Nat.reduceLeDiff]
theorem refuse_run (h : xIs u 0 10) : zr 154 0 [.ref 0, .int x] [] u P = P (some (.int (-1))) (xsI u 0 6 x) := by
  simp only [r154_0, r154_1, r154_2, r154_5, r154_6, h, true_and, and_true, Option.some.injEq, exists_eq_left', Option.toList_some, Option.toList_none, List.cons_append, List.nil_append, xcat_nil, xcat_int, xcat_ref, xcat_long, not_true, not_false_iff, if_true, if_false, and_self, and_false, false_and, or_true, true_or, or_self, z01, z10, zle8, Nat.reduceAdd, Nat.reduceLeDiff]
theorem refuseFar_run (h : xIs u 0 10) : zr 155 0 [.ref 0, .int x] [] u P = P (some (.int (-2147483648))) (xsI u 0 6 x) := by
  simp only [r155_0, r155_1, r155_2, r155_5, r155_8, h, true_and, and_true, Option.some.injEq, exists_eq_left', Option.toList_some, Option.toList_none, List.cons_append, List.nil_append, xcat_nil, xcat_int, xcat_ref, xcat_long, not_true, not_false_iff, if_true, if_false, and_self, and_false, false_and, or_true, true_or, or_self, z01, z10, zle8, Nat.reduceAdd, Nat.reduceLeDiff]
theorem isDay_run : zr 163 0 [.int d] [] u P = P (some (.int (bI (decide (0 ≤ d ∧ d ≤ 999))))) u := by
  simp only [r163_0, r163_1, r163_2, r163_5, r163_8, within_run, bI_01, true_and, and_true, Option.some.injEq, exists_eq_left', Option.toList_some, Option.toList_none, List.cons_append, List.nil_append, xcat_nil, xcat_int, xcat_ref, xcat_long, not_true, not_false_iff, if_true, if_false, and_self, and_false, false_and, or_true, true_or, or_self, z01, z10, zle8, Nat.reduceAdd, Nat.reduceLeDiff]
theorem dec_pred {n : Nat} (hn : n ≤ 1000000) : decide (x ≤ p ∧ p ≤ nI n - 1) = decide (x ≤ p ∧ p < nI n) := by
  rw [decide_eq_decide, pred_lt hn]
theorem isPlace_run (hS : sSP u D) (h : okD u D s nl np nb nc nr nh nk) (ho : xI u 0 2 = bI op) : zr 156 0 [.ref 0, .int p] [] u P = P (some (.int (bI (op && decide (0 ≤ p ∧ p < nI np))))) u := by
  obtain ⟨h0, r0, r1, r3, r4, r5⟩ := hS
  obtain ⟨d0, ⟨e0, e1, e2⟩, hG, hT, -⟩ := h.1
  have hp := h.2.2.2.1
  simp only [r156_0, r156_1, r156_4, r156_7, r156_8, r156_9, r156_10, r156_13, r156_16, r156_19, r156_20, r156_21, r156_24, r156_27, r156_28, r156_31, r156_32, within_run, h0, r1, d0, e0, hG.1, hp.1, ho, bI_0, dec_pred (show np ≤ 1000000 by omega), true_and, and_true, Option.some.injEq, exists_eq_left', Option.toList_some, Option.toList_none, List.cons_append, List.nil_append, xcat_nil, xcat_int, xcat_ref, xcat_long, not_true, not_false_iff, if_true, if_false, and_self, and_false, false_and, or_true, true_or, or_self, z01, z10, zle8, Nat.reduceAdd, Nat.reduceLeDiff]
  cases op
  · simp only [Bool.false_and, bI_f, true_and, and_true, Option.some.injEq, exists_eq_left', Option.toList_some, Option.toList_none, List.cons_append, List.nil_append, xcat_nil, xcat_int, xcat_ref, xcat_long, not_true, not_false_iff, if_true, if_false, and_self, and_false, false_and, or_true, true_or, or_self, z01, z10, zle8, Nat.reduceAdd, Nat.reduceLeDiff]
  · cases decide (0 ≤ p ∧ p < nI np) <;> simp only [Bool.true_and, Bool.true_eq_false, bI_f, bI_t, true_and, and_true, Option.some.injEq, exists_eq_left', Option.toList_some, Option.toList_none, List.cons_append, List.nil_append, xcat_nil, xcat_int, xcat_ref, xcat_long, not_true, not_false_iff, if_true, if_false, and_self, and_false, false_and, or_true, true_or, or_self, z01, z10, zle8, Nat.reduceAdd, Nat.reduceLeDiff]
theorem isPlaceOrAll_run (hS : sSP u D) (h : okD u D s nl np nb nc nr nh nk) (ho : xI u 0 2 = bI op) : zr 157 0 [.ref 0, .int p] [] u P = P (some (.int (bI (op && decide (-1 ≤ p ∧ p < nI np))))) u := by
  obtain ⟨h0, r0, r1, r3, r4, r5⟩ := hS
  obtain ⟨d0, ⟨e0, e1, e2⟩, hG, hT, -⟩ := h.1
  have hp := h.2.2.2.1
  simp only [r157_0, r157_1, r157_4, r157_7, r157_8, r157_9, r157_10, r157_13, r157_16, r157_19, r157_20, r157_21, r157_24, r157_27, r157_28, r157_31, r157_32, within_run, h0, r1, d0, e0, hG.1, hp.1, ho, bI_0, dec_pred (show np ≤ 1000000 by omega), true_and, and_true, Option.some.injEq, exists_eq_left', Option.toList_some, Option.toList_none, List.cons_append, List.nil_append, xcat_nil, xcat_int, xcat_ref, xcat_long, not_true, not_false_iff, if_true, if_false, and_self, and_false, false_and, or_true, true_or, or_self, z01, z10, zle8, Nat.reduceAdd, Nat.reduceLeDiff]
  cases op
  · simp only [Bool.false_and, bI_f, true_and, and_true, Option.some.injEq, exists_eq_left', Option.toList_some, Option.toList_none, List.cons_append, List.nil_append, xcat_nil, xcat_int, xcat_ref, xcat_long, not_true, not_false_iff, if_true, if_false, and_self, and_false, false_and, or_true, true_or, or_self, z01, z10, zle8, Nat.reduceAdd, Nat.reduceLeDiff]
  · cases decide (-1 ≤ p ∧ p < nI np) <;> simp only [Bool.true_and, Bool.true_eq_false, bI_f, bI_t, true_and, and_true, Option.some.injEq, exists_eq_left', Option.toList_some, Option.toList_none, List.cons_append, List.nil_append, xcat_nil, xcat_int, xcat_ref, xcat_long, not_true, not_false_iff, if_true, if_false, and_self, and_false, false_and, or_true, true_or, or_self, z01, z10, zle8, Nat.reduceAdd, Nat.reduceLeDiff]
theorem isClass_run (hS : sSP u D) (h : okD u D s nl np nb nc nr nh nk) (ho : xI u 0 2 = bI op) : zr 158 0 [.ref 0, .int c] [] u P = P (some (.int (bI (op && decide (0 ≤ c ∧ c < nI nc))))) u := by
  obtain ⟨h0, r0, r1, r3, r4, r5⟩ := hS
  obtain ⟨d0, ⟨e0, e1, e2⟩, hG, hT, -⟩ := h.1
  have hp := h.2.2.2.2.2.1
  simp only [r158_0, r158_1, r158_4, r158_7, r158_8, r158_9, r158_10, r158_13, r158_16, r158_19, r158_20, r158_21, r158_24, r158_27, r158_28, r158_31, r158_32, within_run, h0, r1, d0, e1, hT.1, hp.1, ho, bI_0, dec_pred (show nc ≤ 1000000 by omega), true_and, and_true, Option.some.injEq, exists_eq_left', Option.toList_some, Option.toList_none, List.cons_append, List.nil_append, xcat_nil, xcat_int, xcat_ref, xcat_long, not_true, not_false_iff, if_true, if_false, and_self, and_false, false_and, or_true, true_or, or_self, z01, z10, zle8, Nat.reduceAdd, Nat.reduceLeDiff]
  cases op
  · simp only [Bool.false_and, bI_f, true_and, and_true, Option.some.injEq, exists_eq_left', Option.toList_some, Option.toList_none, List.cons_append, List.nil_append, xcat_nil, xcat_int, xcat_ref, xcat_long, not_true, not_false_iff, if_true, if_false, and_self, and_false, false_and, or_true, true_or, or_self, z01, z10, zle8, Nat.reduceAdd, Nat.reduceLeDiff]
  · cases decide (0 ≤ c ∧ c < nI nc) <;> simp only [Bool.true_and, Bool.true_eq_false, bI_f, bI_t, true_and, and_true, Option.some.injEq, exists_eq_left', Option.toList_some, Option.toList_none, List.cons_append, List.nil_append, xcat_nil, xcat_int, xcat_ref, xcat_long, not_true, not_false_iff, if_true, if_false, and_self, and_false, false_and, or_true, true_or, or_self, z01, z10, zle8, Nat.reduceAdd, Nat.reduceLeDiff]
theorem isLine_run (hS : sSP u D) (hB : xIs u 62 1) (hn : xI u 62 0 = nI n) (hn4 : n ≤ 40) (ho : xI u 0 2 = bI op) : zr 159 0 [.ref 0, .int c] [] u P = P (some (.int (bI (op && decide (0 ≤ c ∧ c < nI n))))) u := by
  obtain ⟨h0, r0, r1, r3, r4, r5⟩ := hS
  simp only [r159_0, r159_1, r159_4, r159_7, r159_8, r159_9, r159_10, r159_13, r159_16, r159_17, r159_18, r159_21, r159_24, r159_25, r159_28, r159_29, within_run, h0, r3, hB, hn, ho, bI_0, dec_pred (show n ≤ 1000000 by omega), true_and, and_true, Option.some.injEq, exists_eq_left', Option.toList_some, Option.toList_none, List.cons_append, List.nil_append, xcat_nil, xcat_int, xcat_ref, xcat_long, not_true, not_false_iff, if_true, if_false, and_self, and_false, false_and, or_true, true_or, or_self, z01, z10, zle8, Nat.reduceAdd, Nat.reduceLeDiff]
  cases op
  · simp only [Bool.false_and, bI_f, true_and, and_true, Option.some.injEq, exists_eq_left', Option.toList_some, Option.toList_none, List.cons_append, List.nil_append, xcat_nil, xcat_int, xcat_ref, xcat_long, not_true, not_false_iff, if_true, if_false, and_self, and_false, false_and, or_true, true_or, or_self, z01, z10, zle8, Nat.reduceAdd, Nat.reduceLeDiff]
  · cases decide (0 ≤ c ∧ c < nI n) <;> simp only [Bool.true_and, Bool.true_eq_false, bI_f, bI_t, true_and, and_true, Option.some.injEq, exists_eq_left', Option.toList_some, Option.toList_none, List.cons_append, List.nil_append, xcat_nil, xcat_int, xcat_ref, xcat_long, not_true, not_false_iff, if_true, if_false, and_self, and_false, false_and, or_true, true_or, or_self, z01, z10, zle8, Nat.reduceAdd, Nat.reduceLeDiff]
theorem isFiling_run (hS : sSP u D) (hB : xIs u 62 1) (hn : xI u 62 2 = nI n) (hn4 : n ≤ 12) (ho : xI u 0 2 = bI op) : zr 160 0 [.ref 0, .int c] [] u P = P (some (.int (bI (op && decide (0 ≤ c ∧ c < nI n))))) u := by
  obtain ⟨h0, r0, r1, r3, r4, r5⟩ := hS
  simp only [r160_0, r160_1, r160_4, r160_7, r160_8, r160_9, r160_10, r160_13, r160_16, r160_17, r160_18, r160_21, r160_24, r160_25, r160_28, r160_29, within_run, h0, r3, hB, hn, ho, bI_0, dec_pred (show n ≤ 1000000 by omega), true_and, and_true, Option.some.injEq, exists_eq_left', Option.toList_some, Option.toList_none, List.cons_append, List.nil_append, xcat_nil, xcat_int, xcat_ref, xcat_long, not_true, not_false_iff, if_true, if_false, and_self, and_false, false_and, or_true, true_or, or_self, z01, z10, zle8, Nat.reduceAdd, Nat.reduceLeDiff]
  cases op
  · simp only [Bool.false_and, bI_f, true_and, and_true, Option.some.injEq, exists_eq_left', Option.toList_some, Option.toList_none, List.cons_append, List.nil_append, xcat_nil, xcat_int, xcat_ref, xcat_long, not_true, not_false_iff, if_true, if_false, and_self, and_false, false_and, or_true, true_or, or_self, z01, z10, zle8, Nat.reduceAdd, Nat.reduceLeDiff]
  · cases decide (0 ≤ c ∧ c < nI n) <;> simp only [Bool.true_and, Bool.true_eq_false, bI_f, bI_t, true_and, and_true, Option.some.injEq, exists_eq_left', Option.toList_some, Option.toList_none, List.cons_append, List.nil_append, xcat_nil, xcat_int, xcat_ref, xcat_long, not_true, not_false_iff, if_true, if_false, and_self, and_false, false_and, or_true, true_or, or_self, z01, z10, zle8, Nat.reduceAdd, Nat.reduceLeDiff]
theorem isPoint_run (hS : sSP u D) (h : okD u D s nl np nb nc nr nh nk) : zr 161 0 [.ref 0, .int x, .int y] [] u P = P (some (.int (bI (decide (0 ≤ x ∧ x ≤ nI s) && decide (0 ≤ y ∧ y ≤ nI s))))) u := by
  obtain ⟨h0, r0, r1, r3, r4, r5⟩ := hS
  obtain ⟨d0, ⟨e0, e1, e2⟩, hG, hT, -⟩ := h.1
  have hp := h.2.1
  simp only [r161_0, r161_1, r161_2, r161_3, r161_6, r161_9, r161_12, r161_15, r161_18, r161_19, r161_20, r161_21, r161_24, r161_27, r161_30, r161_33, r161_36, r161_37, r161_40, r161_41, within_run, h0, r1, d0, e0, hG.1, hp.1, bI_0, true_and, and_true, Option.some.injEq, exists_eq_left', Option.toList_some, Option.toList_none, List.cons_append, List.nil_append, xcat_nil, xcat_int, xcat_ref, xcat_long, not_true, not_false_iff, if_true, if_false, and_self, and_false, false_and, or_true, true_or, or_self, z01, z10, zle8, Nat.reduceAdd, Nat.reduceLeDiff]
  cases decide (0 ≤ x ∧ x ≤ nI s) <;> cases decide (0 ≤ y ∧ y ≤ nI s) <;> simp only [Bool.and_self, Bool.and_false, Bool.false_and, Bool.true_and, Bool.true_eq_false, bI_f, bI_t, true_and, and_true, Option.some.injEq, exists_eq_left', Option.toList_some, Option.toList_none, List.cons_append, List.nil_append, xcat_nil, xcat_int, xcat_ref, xcat_long, not_true, not_false_iff, if_true, if_false, and_self, and_false, false_and, or_true, true_or, or_self, z01, z10, zle8, Nat.reduceAdd, Nat.reduceLeDiff]
def okSale (s : Nat) (d x y n e : Int32) : Bool := decide (0 ≤ d ∧ d ≤ 999) && ((decide (0 ≤ x ∧ x ≤ nI s) && decide (0 ≤ y ∧ y ≤ nI s)) && (decide (1 ≤ n ∧ n ≤ 99) && decide (1 ≤ e ∧ e ≤ 9999)))
theorem isSale_run (hS : sSP u D) (h : okD u D s nl np nb nc nr nh nk) : zr 162 0 [.ref 0, .int d, .int x, .int y, .int k, .int e] [] u P = P (some (.int (bI (okSale s d x y k e)))) u := by
  have hp := fun P => isPoint_run (x := x) (y := y) (P := P) hS h
  simp only [r162_0, r162_1, r162_4, r162_7, r162_8, r162_9, r162_10, r162_13, r162_16, r162_18, r162_19, r162_21, r162_24, r162_27, r162_29, r162_30, r162_33, r162_36, r162_39, r162_40, r162_43, r162_44, isDay_run, within_run, hp, hS.1, bI_0, okSale, true_and, and_true, Option.some.injEq, exists_eq_left', Option.toList_some, Option.toList_none, List.cons_append, List.nil_append, xcat_nil, xcat_int, xcat_ref, xcat_long, not_true, not_false_iff, if_true, if_false, and_self, and_false, false_and, or_true, true_or, or_self, z01, z10, zle8, Nat.reduceAdd, Nat.reduceLeDiff]
  cases decide (0 ≤ d ∧ d ≤ 999) <;> cases (decide (0 ≤ x ∧ x ≤ nI s) && decide (0 ≤ y ∧ y ≤ nI s)) <;> cases decide (1 ≤ k ∧ k ≤ 99) <;> cases decide (1 ≤ e ∧ e ≤ 9999) <;> simp only [Bool.and_self, Bool.and_false, Bool.false_and, Bool.true_and, Bool.true_eq_false, bI_f, bI_t, true_and, and_true, Option.some.injEq, exists_eq_left', Option.toList_some, Option.toList_none, List.cons_append, List.nil_append, xcat_nil, xcat_int, xcat_ref, xcat_long, not_true, not_false_iff, if_true, if_false, and_self, and_false, false_and, or_true, true_or, or_self, z01, z10, zle8, Nat.reduceAdd, Nat.reduceLeDiff]
/-- the trial line holds a sale -/
def Tri (u : xMem) (d x y c n e : Int32) : Prop := xI u 273 0 = d ∧ xI u 273 1 = x ∧ xI u 273 2 = y ∧ xI u 273 3 = c ∧ xI u 273 5 = e ∧ xI u 273 6 = n
theorem dueOfTrial_run {j : Nat} {n : Int32} (hj : j < nc) (hS : sSP u D) (hL : sLn u 273) (h : okD u D s nl np nb nc nr nh nk) (hD : D = 6 ∨ D = 34) (ht : Tri u d x y (nI j) n e)
    (hP : ∀ v, xag SC u v → Tri v d x y (nI j) n e → P (some (.int (dDue u D nb np nl nr nh nk d x y (nI j) n e))) v) : zr 166 0 [.ref 0] [] u P := by
  obtain ⟨h0, r0, r1, r3, r4, r5⟩ := hS
  simp only [r166_0, r166_1, r166_4, r166_5, r166_8, h0, r1, r5, h.1.1, true_and, and_true, Option.some.injEq, exists_eq_left', Option.toList_some, Option.toList_none, List.cons_append, List.nil_append, xcat_nil, xcat_int, xcat_ref, xcat_long, not_true, not_false_iff, if_true, if_false, and_self, and_false, false_and, or_true, true_or, or_self, z01, z10, zle8, Nat.reduceAdd, Nat.reduceLeDiff]
  refine assess_run hj h hD (by omega) hL ht.1 ht.2.1 ht.2.2.1 ht.2.2.2.1 ht.2.2.2.2.1 (fun v hv hf hp => ?_)
  have hsc : xag SC u v := hv.wk (fun b k q => by rcases q with q | q; exact q; unfold SLn at q; unfold SC; omega)
  have ht' : Tri v d x y (nI j) n e := ⟨(hf 0 (by omega)).trans ht.1, (hf 1 (by omega)).trans ht.2.1, (hf 2 (by omega)).trans ht.2.2.1, (hf 3 (by omega)).trans ht.2.2.2.1, (hf 5 (by omega)).trans ht.2.2.2.2.1, (hf 6 (by omega)).trans ht.2.2.2.2.2⟩
  have hnl := h.2.2.1.2
  have hlen := dStk_len (u := u) (D := D) (nb := nb) (np := np) (nl := nl) (d := d) (x := x) (y := y)
  have hq := fun P => taxOf_run (u := v) (a := 273) (p := -1) (n := (dStk u D nb np nl d x y).length) (P := P) (hsc.ln hL) hp.1 (by omega)
  simp only [r166_11, r166_12, r166_15, r166_16, r166_19, hsc.is, hsc.r, h0, r5, hL.1, hq, true_and, and_true, Option.some.injEq, exists_eq_left', Option.toList_some, Option.toList_none, List.cons_append, List.nil_append, xcat_nil, xcat_int, xcat_ref, xcat_long, not_true, not_false_iff, if_true, if_false, and_self, and_false, false_and, or_true, true_or, or_self, z01, z10, zle8, Nat.reduceAdd, Nat.reduceLeDiff]
  rw [fTx_all (f := dTax u D nr nh nk (nI j) d e n) (L := dStk u D nb np nl d x y) _ (fun i hi => hp.tax ht'.2.2.2.2.1 ht'.2.2.2.2.2 hi)]
  exact hP v hsc ht'
end
