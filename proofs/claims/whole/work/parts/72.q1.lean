/-! MORE of the model: its book; what is asked without any writing -/
theorem i32_le0 {x : Int32} {n : Nat} (h0 : 0 ≤ x) (h : x ≤ nI n) (hn : n < 2 ^ 31) : ∃ k, k ≤ n ∧ x = nI k := by
  obtain ⟨e, hj⟩ := i32_nI h0
  refine ⟨x.toNatClampNeg, ?_, e⟩
  rw [e, i32_le, nI_toI hj, nI_toI hn] at h
  omega
theorem predT {n : Nat} {p : Int32} (hn : n ≤ 1000000) : (p ≤ nI n - 1) = (p < nI n) := propext (pred_lt hn)
theorem i32_02 {x : Int32} (h0 : 0 ≤ x) (h : x ≤ 2) : x = 0 ∨ x = 1 ∨ x = 2 := by
  obtain ⟨k, hk, e⟩ := i32_le0 (n := 2) h0 h (by omega)
  have : k = 0 ∨ k = 1 ∨ k = 2 := by omega
  rcases this with rfl | rfl | rfl
  · exact Or.inl e
  · exact Or.inr (Or.inl e)
  · exact Or.inr (Or.inr e)
theorem i32_01 {x : Int32} (h0 : 0 ≤ x) (h : x ≤ 1) : x = 0 ∨ x = 1 := by
  obtain ⟨k, hk, e⟩ := i32_le0 (n := 1) h0 h (by omega)
  have : k = 0 ∨ k = 1 := by omega
  rcases this with rfl | rfl
  · exact Or.inl e
  · exact Or.inr e
section
variable {u w g : xMem} {P : Option Value → xMem → Prop} {D E s nl np nb nc nr nh nk n nf na f m m' : Nat} {p q d x y c e k a t i what many layer till price units : Int32} {op : Bool} {ls ls' : List Value}
theorem refuses_1 (h : xIs u 278 11) (ho : xI u 278 7 = bI op) : zr 224 0 [.ref 278, .int 1, .int d] [] u P = P (some (.int (fRe op true d))) u := refuses_run (is := true) h ho
theorem refuses_0 (h : xIs u 278 11) (ho : xI u 278 7 = bI op) : zr 224 0 [.ref 278, .int 0, .int d] [] u P = P (some (.int (fRe op false d))) u := refuses_run (is := false) h ho
theorem refusesAt_1 (h : Md u g D s nl np nb nc nr nh nk) (ho : xI u 278 7 = bI op) : zr 225 0 [.ref 278, .int 1, .int d, .int x, .int y, .null] [] u P = P (some (.int (fRa op true s d x y))) u := refusesAt_run (is := true) h ho
theorem refusesAt_0 (h : Md u g D s nl np nb nc nr nh nk) (ho : xI u 278 7 = bI op) : zr 225 0 [.ref 278, .int 0, .int d, .int x, .int y, .null] [] u P = P (some (.int (fRa op false s d x y))) u := refusesAt_run (is := false) h ho
/-- a call that changes nothing but 'thrown' -/
theorem both0 (hT : Tr u) (h : St u D E s nl np nb nc nr nh nk n nf na f op) (hC : ∀ P, zr m 0 ls [] u P = P (some (.int a)) u) (hM : ∀ P, zr m' 0 ls' [] u P = P (some (.int a)) (mThr u)) : Both m m' ls ls' u := by
  unfold Both
  rw [hC]
  refine ⟨Fr.rf, ?_⟩
  rw [hM]
  exact ⟨⟨a, rfl, rfl⟩, ag_thr.m.scfr, hT, D, E, s, nl, np, nb, nc, nr, nh, nk, n, nf, na, f, op, h.ag ag_thr.m⟩
theorem St.cb (h : St u D E s nl np nb nc nr nh nk n nf na f op) (hw : xag SC u w) : cpB w u n nf np := h.2.2.2.2.2.1.ag hw
theorem St.okb (h : St u D E s nl np nb nc nr nh nk n nf na f op) : okB u n nf nc np := h.2.2.2.2.1
theorem St.okl (h : St u D E s nl np nb nc nr nh nk n nf na f op) : okL u n := h.2.2.2.2.1.1
theorem St.oka (h : St u D E s nl np nb nc nr nh nk n nf na f op) : okA u na n nf nb nr := h.2.2.2.2.2.2.1
theorem St.okt (h : St u D E s nl np nb nc nr nh nk n nf na f op) : okT u f := h.2.2.2.2.2.2.2
/-! the model's book -/
theorem told_run (hM : sMd u) (hc : cpB u g n nf np) (hn : n ≤ 40) {l k : Nat} (hl : l < n) (hk : k < 7) : zr 262 0 [.ref 278, .int (nI l), .int (nI k)] [] u P = P (some (.int (xI g (69 + 5 * l) k))) u := by
  obtain ⟨h0, ⟨-, -, -, -, -, -, -, r8, -⟩, -, -, -, -, -, -, -, ⟨j, k0⟩, -⟩ := hM
  have e := (hc.2.2.1 l hl).1 k hk
  simp (disch := omega) only [r262_0, r262_1, r262_4, r262_6, r262_7, r262_8, r262_9, r262_10, r262_11, h0, r8, j, k0, e, xinbT, xixT, leT, leF, ltT, ltF, ngF, psT, n1F, n2F, km2, km3, km4, km5, km10, km15, km25, kl8, kl14, kl24, kl34, kl274, kl354, kl384, kr1, kr2, kr3, kr4, kr5, kr6, kr7, kr8, kr9, kaa, lb0, lb1, lb2, lb3, lb4, lb5, lb6, lb7, li0, li1, li2, li3, li4, li5, li6, li7, true_and, and_true, Option.some.injEq, exists_eq_left', Option.toList_some, Option.toList_none, List.cons_append, List.nil_append, xcat_nil, xcat_int, xcat_ref, xcat_long, not_true, not_false_iff, if_true, if_false, and_self, and_false, false_and, or_true, true_or, or_self, z01, z10, zle8, Nat.reduceAdd, Nat.reduceLeDiff]
theorem told7_run (hM : sMd u) (hc : cpB u g n nf np) (hn : n ≤ 40) {l : Nat} (hl : l < n) : zr 262 0 [.ref 278, .int (nI l), .int 7] [] u P = P (some (.int (xI g (69 + 5 * l) 8))) u := by
  obtain ⟨h0, ⟨-, -, -, -, -, -, -, r8, -⟩, -, -, -, -, -, -, -, ⟨j, k0⟩, -⟩ := hM
  have e := (hc.2.2.1 l hl).2.1
  simp (disch := omega) only [r262_0, r262_1, r262_4, r262_6, r262_7, r262_8, r262_9, r262_10, r262_11, h0, r8, j, k0, e, xinbT, xixT, leT, leF, ltT, ltF, ngF, psT, n1F, n2F, km2, km3, km4, km5, km10, km15, km25, kl8, kl14, kl24, kl34, kl274, kl354, kl384, kr1, kr2, kr3, kr4, kr5, kr6, kr7, kr8, kr9, kaa, lb0, lb1, lb2, lb3, lb4, lb5, lb6, lb7, li0, li1, li2, li3, li4, li5, li6, li7, true_and, and_true, Option.some.injEq, exists_eq_left', Option.toList_some, Option.toList_none, List.cons_append, List.nil_append, xcat_nil, xcat_int, xcat_ref, xcat_long, not_true, not_false_iff, if_true, if_false, and_self, and_false, false_and, or_true, true_or, or_self, z01, z10, zle8, Nat.reduceAdd, Nat.reduceLeDiff]
theorem told8_run (hM : sMd u) (hc : cpB u g n nf np) (hn : n ≤ 40) {l : Nat} (hl : l < n) : zr 262 0 [.ref 278, .int (nI l), .int 8] [] u P = P (some (.int (xI g (69 + 5 * l) 7 + 1))) u := by
  obtain ⟨h0, ⟨-, -, -, -, -, -, -, r8, -⟩, -, -, -, -, -, -, -, ⟨j, k0⟩, -⟩ := hM
  have e := (hc.2.2.1 l hl).2.2.1
  simp (disch := omega) only [r262_0, r262_1, r262_4, r262_6, r262_7, r262_8, r262_9, r262_10, r262_11, h0, r8, j, k0, e, xinbT, xixT, leT, leF, ltT, ltF, ngF, psT, n1F, n2F, km2, km3, km4, km5, km10, km15, km25, kl8, kl14, kl24, kl34, kl274, kl354, kl384, kr1, kr2, kr3, kr4, kr5, kr6, kr7, kr8, kr9, kaa, lb0, lb1, lb2, lb3, lb4, lb5, lb6, lb7, li0, li1, li2, li3, li4, li5, li6, li7, true_and, and_true, Option.some.injEq, exists_eq_left', Option.toList_some, Option.toList_none, List.cons_append, List.nil_append, xcat_nil, xcat_int, xcat_ref, xcat_long, not_true, not_false_iff, if_true, if_false, and_self, and_false, false_and, or_true, true_or, or_self, z01, z10, zle8, Nat.reduceAdd, Nat.reduceLeDiff]
theorem partIs0_run (hM : sMd u) (hc : cpB u g n nf np) (hn : n ≤ 40) {l i : Nat} (hl : l < n) (hi : i < pn g l) (hi4 : i < 4) : zr 263 0 [.ref 278, .int (nI l), .int (nI i), .int 0] [] u P = P (some (.int (xI g (69 + 5 * l + 1) i))) u := by
  obtain ⟨h0, ⟨-, -, -, -, -, -, -, r8, -⟩, -, -, -, -, -, -, -, ⟨j, k0⟩, -⟩ := hM
  have e := (hc.2.2.1 l hl).2.2.2 i hi
  simp (disch := omega) only [r263_0, r263_1, r263_4, r263_6, r263_7, r263_8, r263_10, r263_11, r263_12, r263_13, r263_14, r263_15, r263_16, r263_17, r263_18, h0, r8, j, k0, e, Int32.add_zero, xinbT, xixT, leT, leF, ltT, ltF, ngF, psT, n1F, n2F, km2, km3, km4, km5, km10, km15, km25, kl8, kl14, kl24, kl34, kl274, kl354, kl384, kr1, kr2, kr3, kr4, kr5, kr6, kr7, kr8, kr9, kaa, lb0, lb1, lb2, lb3, lb4, lb5, lb6, lb7, li0, li1, li2, li3, li4, li5, li6, li7, true_and, and_true, Option.some.injEq, exists_eq_left', Option.toList_some, Option.toList_none, List.cons_append, List.nil_append, xcat_nil, xcat_int, xcat_ref, xcat_long, not_true, not_false_iff, if_true, if_false, and_self, and_false, false_and, or_true, true_or, or_self, z01, z10, zle8, Nat.reduceAdd, Nat.reduceLeDiff]
theorem partIs1_run (hM : sMd u) (hc : cpB u g n nf np) (hn : n ≤ 40) {l i : Nat} (hl : l < n) (hi : i < pn g l) (hi4 : i < 4) : zr 263 0 [.ref 278, .int (nI l), .int (nI i), .int 1] [] u P = P (some (.int (xI g (69 + 5 * l + 2) i))) u := by
  obtain ⟨h0, ⟨-, -, -, -, -, -, -, r8, -⟩, -, -, -, -, -, -, -, ⟨j, k0⟩, -⟩ := hM
  have e := (hc.2.2.1 l hl).2.2.2 i hi
  simp (disch := omega) only [r263_0, r263_1, r263_4, r263_6, r263_7, r263_8, r263_10, r263_11, r263_12, r263_13, r263_14, r263_15, r263_16, r263_17, r263_18, h0, r8, j, k0, e, Int32.add_zero, xinbT, xixT, leT, leF, ltT, ltF, ngF, psT, n1F, n2F, km2, km3, km4, km5, km10, km15, km25, kl8, kl14, kl24, kl34, kl274, kl354, kl384, kr1, kr2, kr3, kr4, kr5, kr6, kr7, kr8, kr9, kaa, lb0, lb1, lb2, lb3, lb4, lb5, lb6, lb7, li0, li1, li2, li3, li4, li5, li6, li7, true_and, and_true, Option.some.injEq, exists_eq_left', Option.toList_some, Option.toList_none, List.cons_append, List.nil_append, xcat_nil, xcat_int, xcat_ref, xcat_long, not_true, not_false_iff, if_true, if_false, and_self, and_false, false_and, or_true, true_or, or_self, z01, z10, zle8, Nat.reduceAdd, Nat.reduceLeDiff]
theorem partIs2_run (hM : sMd u) (hc : cpB u g n nf np) (hn : n ≤ 40) {l i : Nat} (hl : l < n) (hi : i < pn g l) (hi4 : i < 4) : zr 263 0 [.ref 278, .int (nI l), .int (nI i), .int 2] [] u P = P (some (.int (xI g (69 + 5 * l + 3) i))) u := by
  obtain ⟨h0, ⟨-, -, -, -, -, -, -, r8, -⟩, -, -, -, -, -, -, -, ⟨j, k0⟩, -⟩ := hM
  have e := (hc.2.2.1 l hl).2.2.2 i hi
  simp (disch := omega) only [r263_0, r263_1, r263_4, r263_6, r263_7, r263_8, r263_10, r263_11, r263_12, r263_13, r263_14, r263_15, r263_16, r263_17, r263_18, h0, r8, j, k0, e, Int32.add_zero, xinbT, xixT, leT, leF, ltT, ltF, ngF, psT, n1F, n2F, km2, km3, km4, km5, km10, km15, km25, kl8, kl14, kl24, kl34, kl274, kl354, kl384, kr1, kr2, kr3, kr4, kr5, kr6, kr7, kr8, kr9, kaa, lb0, lb1, lb2, lb3, lb4, lb5, lb6, lb7, li0, li1, li2, li3, li4, li5, li6, li7, true_and, and_true, Option.some.injEq, exists_eq_left', Option.toList_some, Option.toList_none, List.cons_append, List.nil_append, xcat_nil, xcat_int, xcat_ref, xcat_long, not_true, not_false_iff, if_true, if_false, and_self, and_false, false_and, or_true, true_or, or_self, z01, z10, zle8, Nat.reduceAdd, Nat.reduceLeDiff]
theorem partIs3_run (hM : sMd u) (hc : cpB u g n nf np) (hn : n ≤ 40) {l i : Nat} (hl : l < n) (hi : i < pn g l) (hi4 : i < 4) : zr 263 0 [.ref 278, .int (nI l), .int (nI i), .int 3] [] u P = P (some (.int (xI g (69 + 5 * l + 4) i))) u := by
  obtain ⟨h0, ⟨-, -, -, -, -, -, -, r8, -⟩, -, -, -, -, -, -, -, ⟨j, k0⟩, -⟩ := hM
  have e := (hc.2.2.1 l hl).2.2.2 i hi
  simp (disch := omega) only [r263_0, r263_1, r263_4, r263_6, r263_7, r263_8, r263_10, r263_11, r263_12, r263_13, r263_14, r263_15, r263_16, r263_17, r263_18, h0, r8, j, k0, e, Int32.add_zero, xinbT, xixT, leT, leF, ltT, ltF, ngF, psT, n1F, n2F, km2, km3, km4, km5, km10, km15, km25, kl8, kl14, kl24, kl34, kl274, kl354, kl384, kr1, kr2, kr3, kr4, kr5, kr6, kr7, kr8, kr9, kaa, lb0, lb1, lb2, lb3, lb4, lb5, lb6, lb7, li0, li1, li2, li3, li4, li5, li6, li7, true_and, and_true, Option.some.injEq, exists_eq_left', Option.toList_some, Option.toList_none, List.cons_append, List.nil_append, xcat_nil, xcat_int, xcat_ref, xcat_long, not_true, not_false_iff, if_true, if_false, and_self, and_false, false_and, or_true, true_or, or_self, z01, z10, zle8, Nat.reduceAdd, Nat.reduceLeDiff]
theorem partBaseM_run (hM : sMd u) (hc : cpB u g n nf np) (hB : okB g n nf nc np) {l i : Nat} (hl : l < n) (hi : i < pn g l) : zr 264 0 [.ref 278, .int (nI l), .int (nI i)] [] u P = P (some (.int (lBase g (69 + 5 * l) i))) u := by
  have hn := hB.1.1.2
  have h4 : i < 4 := by have := (hB.1.2 l hl).2; omega
  obtain ⟨-, hcap, b, hb⟩ := (hB.2.2.1 l hl).2.2.2.2.2 i hi
  have t6 := fun P => told_run (P := P) hM hc hn hl (k := 6) (by omega)
  have t5 := fun P => told_run (P := P) hM hc hn hl (k := 5) (by omega)
  have p2 := fun P => partIs2_run (P := P) hM hc hn hl hi h4
  have p3 := fun P => partIs3_run (P := P) hM hc hn hl hi h4
  simp only [show nI 6 = 6 from rfl, show nI 5 = 5 from rfl, hb] at t6 t5 p3
  unfold lBase
  rw [hb]
  have hbo := fun P => baseOf_run (u := u) (P := P) (n := xI g (69 + 5 * l) 6) (price := xI g (69 + 5 * l) 5) (f := b) hcap
  cases b
  · simp only [bI_f] at p3 hbo ⊢
    simp only [r264_0, r264_1, r264_2, r264_4, r264_7, r264_8, r264_9, r264_10, r264_13, r264_14, r264_15, r264_16, r264_17, r264_20, r264_21, r264_22, r264_23, r264_24, r264_27, r264_28, r264_31, r264_32, r264_35, r264_36, r264_39, hM.1, t6, t5, p2, p3, hbo, bI_f, true_and, and_true, Option.some.injEq, exists_eq_left', Option.toList_some, Option.toList_none, List.cons_append, List.nil_append, xcat_nil, xcat_int, xcat_ref, xcat_long, not_true, not_false_iff, if_true, if_false, and_self, and_false, false_and, or_true, true_or, or_self, z01, z10, zle8, Nat.reduceAdd, Nat.reduceLeDiff]
  · simp only [bI_t] at p3 hbo ⊢
    simp only [r264_0, r264_1, r264_2, r264_4, r264_7, r264_8, r264_9, r264_10, r264_13, r264_14, r264_15, r264_16, r264_17, r264_20, r264_21, r264_22, r264_23, r264_24, r264_27, r264_28, r264_31, r264_32, r264_35, r264_36, r264_39, hM.1, t6, t5, p2, p3, hbo, bI_t, true_and, and_true, Option.some.injEq, exists_eq_left', Option.toList_some, Option.toList_none, List.cons_append, List.nil_append, xcat_nil, xcat_int, xcat_ref, xcat_long, not_true, not_false_iff, if_true, if_false, and_self, and_false, false_and, or_true, true_or, or_self, z01, z10, zle8, Nat.reduceAdd, Nat.reduceLeDiff]
theorem partTaxM_run (hM : sMd u) (hc : cpB u g n nf np) (hB : okB g n nf nc np) {l i : Nat} (hl : l < n) (hi : i < pn g l) : zr 265 0 [.ref 278, .int (nI l), .int (nI i)] [] u P = P (some (.int (lTax g (69 + 5 * l) i))) u := by
  have hn := hB.1.1.2
  have h4 : i < 4 := by have := (hB.1.2 l hl).2; omega
  have p1 := fun P => partIs1_run (P := P) hM hc hn hl hi h4
  have pb := fun P => partBaseM_run (P := P) hM hc hB hl hi
  unfold lTax
  simp only [r265_0, r265_1, r265_2, r265_3, r265_6, r265_7, r265_8, r265_9, r265_10, r265_13, r265_16, hM.1, p1, pb, taxOfM_run, true_and, and_true, Option.some.injEq, exists_eq_left', Option.toList_some, Option.toList_none, List.cons_append, List.nil_append, xcat_nil, xcat_int, xcat_ref, xcat_long, not_true, not_false_iff, if_true, if_false, and_self, and_false, false_and, or_true, true_or, or_self, z01, z10, zle8, Nat.reduceAdd, Nat.reduceLeDiff]
/-- what a line comes to -/
theorem lTo_all {l : Nat} : lTo g (-1) l = fTx (xI g (69 + 5 * l + 1)) (lTax g (69 + 5 * l)) (-1) (pn g l) := rfl
theorem lineDue_run (hM : sMd u) (hc : cpB u g n nf np) (hB : okB g n nf nc np) {l : Nat} (hl : l < n) : zr 266 0 [.ref 278, .int (nI l), .null, .null] [] u P = P (some (.int (lTo g (-1) l))) u := by
  have hn := hB.1.1.2
  obtain ⟨e8, h4⟩ := hB.1.2 l hl
  have t7 := fun P => told7_run (P := P) hM hc hn hl
  rw [e8] at t7
  have pt := fun i hi P => partTaxM_run (i := i) (P := P) hM hc hB hl hi
  rw [lTo_all]
  have lp : ∀ r i, i + r = pn g l → zr 266 4 [.ref 278, .int (nI l), .int (fTx (xI g (69 + 5 * l + 1)) (lTax g (69 + 5 * l)) (-1) i), .int (nI i)] [] u P = P (some (.int (fTx (xI g (69 + 5 * l + 1)) (lTax g (69 + 5 * l)) (-1) (pn g l)))) u := by
    intro r
    induction r with
    | zero =>
      intro i hi
      have : i = pn g l := by omega
      subst this
      rw [r266_4]
      simp (disch := omega) only [r266_0, r266_1, r266_2, r266_3, r266_5, r266_6, r266_7, r266_9, r266_12, r266_15, r266_16, r266_17, r266_18, r266_19, r266_22, r266_23, r266_24, r266_27, r266_30, r266_31, hM.1, t7, xinbT, xixT, leT, leF, ltT, ltF, ngF, psT, n1F, n2F, km2, km3, km4, km5, km10, km15, km25, kl8, kl14, kl24, kl34, kl274, kl354, kl384, kr1, kr2, kr3, kr4, kr5, kr6, kr7, kr8, kr9, kaa, lb0, lb1, lb2, lb3, lb4, lb5, lb6, lb7, li0, li1, li2, li3, li4, li5, li6, li7, true_and, and_true, Option.some.injEq, exists_eq_left', Option.toList_some, Option.toList_none, List.cons_append, List.nil_append, xcat_nil, xcat_int, xcat_ref, xcat_long, not_true, not_false_iff, if_true, if_false, and_self, and_false, false_and, or_true, true_or, or_self, z01, z10, zle8, Nat.reduceAdd, Nat.reduceLeDiff]
    | succ r ih =>
      intro i hi
      have ih := ih (i + 1) (by omega)
      simp only [fTx, true_and, and_true, Option.some.injEq, exists_eq_left', Option.toList_some, Option.toList_none, List.cons_append, List.nil_append, xcat_nil, xcat_int, xcat_ref, xcat_long, not_true, not_false_iff, if_true, if_false, and_self, and_false, false_and, or_true, true_or, or_self, z01, z10, zle8, Nat.reduceAdd, Nat.reduceLeDiff] at ih
      have pt := pt i (by omega)
      rw [r266_4]
      simp (disch := omega) only [r266_0, r266_1, r266_2, r266_3, r266_5, r266_6, r266_7, r266_9, r266_12, r266_15, r266_16, r266_17, r266_18, r266_19, r266_22, r266_23, r266_24, r266_27, r266_30, r266_31, hM.1, t7, pt, xinbT, xixT, leT, leF, ltT, ltF, ngF, psT, n1F, n2F, km2, km3, km4, km5, km10, km15, km25, kl8, kl14, kl24, kl34, kl274, kl354, kl384, kr1, kr2, kr3, kr4, kr5, kr6, kr7, kr8, kr9, kaa, lb0, lb1, lb2, lb3, lb4, lb5, lb6, lb7, li0, li1, li2, li3, li4, li5, li6, li7, true_and, and_true, Option.some.injEq, exists_eq_left', Option.toList_some, Option.toList_none, List.cons_append, List.nil_append, xcat_nil, xcat_int, xcat_ref, xcat_long, not_true, not_false_iff, if_true, if_false, and_self, and_false, false_and, or_true, true_or, or_self, z01, z10, zle8, Nat.reduceAdd, Nat.reduceLeDiff]
      exact ih
  simp only [r266_0, r266_1, r266_2, r266_3]
  exact lp (pn g l) 0 (by omega)
theorem lineTaxes_run (hM : sMd u) (hc : cpB u g n nf np) (hB : okB g n nf nc np) {l : Nat} (hl : l < n) (hp : p ≠ -1) : zr 275 0 [.ref 278, .int (nI l), .int p, .null, .null] [] u P = P (some (.int (lTo g p l))) u := by
  have hn := hB.1.1.2
  obtain ⟨e8, h4⟩ := hB.1.2 l hl
  have t7 := fun P => told7_run (P := P) hM hc hn hl
  rw [e8] at t7
  have pt := fun i hi P => partTaxM_run (i := i) (P := P) hM hc hB hl hi
  have p0 := fun i (hi : i < pn g l) P => partIs0_run (i := i) (P := P) hM hc hn hl hi (by omega)
  unfold lTo
  have lp : ∀ r i, i + r = pn g l → zr 275 5 [.ref 278, .int (nI l), .int p, .int (fTx (xI g (69 + 5 * l + 1)) (lTax g (69 + 5 * l)) p i), .int (nI i)] [] u P = P (some (.int (fTx (xI g (69 + 5 * l + 1)) (lTax g (69 + 5 * l)) p (pn g l)))) u := by
    intro r
    induction r with
    | zero =>
      intro i hi
      have : i = pn g l := by omega
      subst this
      rw [r275_5]
      simp (disch := omega) only [r275_0, r275_1, r275_2, r275_3, r275_7, r275_8, r275_9, r275_11, r275_14, r275_17, r275_18, r275_19, r275_20, r275_22, r275_23, r275_26, r275_27, r275_30, r275_31, r275_32, r275_34, r275_37, r275_40, r275_41, r275_42, r275_43, r275_46, r275_49, r275_50, hM.1, t7, xinbT, xixT, leT, leF, ltT, ltF, ngF, psT, n1F, n2F, km2, km3, km4, km5, km10, km15, km25, kl8, kl14, kl24, kl34, kl274, kl354, kl384, kr1, kr2, kr3, kr4, kr5, kr6, kr7, kr8, kr9, kaa, lb0, lb1, lb2, lb3, lb4, lb5, lb6, lb7, li0, li1, li2, li3, li4, li5, li6, li7, true_and, and_true, Option.some.injEq, exists_eq_left', Option.toList_some, Option.toList_none, List.cons_append, List.nil_append, xcat_nil, xcat_int, xcat_ref, xcat_long, not_true, not_false_iff, if_true, if_false, and_self, and_false, false_and, or_true, true_or, or_self, z01, z10, zle8, Nat.reduceAdd, Nat.reduceLeDiff]
    | succ r ih =>
      intro i hi
      have ih := ih (i + 1) (by omega)
      simp only [fTx, hp, false_or] at ih
      have pt := pt i (by omega)
      have p0 := p0 i (by omega)
      rw [r275_5]
      simp (disch := omega) only [r275_0, r275_1, r275_2, r275_3, r275_7, r275_8, r275_9, r275_11, r275_14, r275_17, r275_18, r275_19, r275_20, r275_22, r275_23, r275_26, r275_27, r275_30, r275_31, r275_32, r275_34, r275_37, r275_40, r275_41, r275_42, r275_43, r275_46, r275_49, r275_50, hM.1, t7, pt, p0, xinbT, xixT, leT, leF, ltT, ltF, ngF, psT, n1F, n2F, km2, km3, km4, km5, km10, km15, km25, kl8, kl14, kl24, kl34, kl274, kl354, kl384, kr1, kr2, kr3, kr4, kr5, kr6, kr7, kr8, kr9, kaa, lb0, lb1, lb2, lb3, lb4, lb5, lb6, lb7, li0, li1, li2, li3, li4, li5, li6, li7, true_and, and_true, Option.some.injEq, exists_eq_left', Option.toList_some, Option.toList_none, List.cons_append, List.nil_append, xcat_nil, xcat_int, xcat_ref, xcat_long, not_true, not_false_iff, if_true, if_false, and_self, and_false, false_and, or_true, true_or, or_self, z01, z10, zle8, Nat.reduceAdd, Nat.reduceLeDiff]
      by_cases q : xI g (69 + 5 * l + 1) i = p
      · simp only [q, true_and, and_true, Option.some.injEq, exists_eq_left', Option.toList_some, Option.toList_none, List.cons_append, List.nil_append, xcat_nil, xcat_int, xcat_ref, xcat_long, not_true, not_false_iff, if_true, if_false, and_self, and_false, false_and, or_true, true_or, or_self, z01, z10, zle8, Nat.reduceAdd, Nat.reduceLeDiff] at ih ⊢
        exact ih
      · simp only [q, true_and, and_true, Option.some.injEq, exists_eq_left', Option.toList_some, Option.toList_none, List.cons_append, List.nil_append, xcat_nil, xcat_int, xcat_ref, xcat_long, not_true, not_false_iff, if_true, if_false, and_self, and_false, false_and, or_true, true_or, or_self, z01, z10, zle8, Nat.reduceAdd, Nat.reduceLeDiff] at ih ⊢
        rw [Int32.add_zero]
        exact ih
  simp only [r275_0, r275_1, r275_2, r275_3]
  exact lp (pn g l) 0 (by omega)
theorem unitsLeftM_run (hM : sMd u) (hc : cpB u g n nf np) (hn : n ≤ 40) : zr 298 0 [.ref 278, .null, .null] [] u P = P (some (.int (sumN (fun l => xI g (69 + 5 * l) 6) n))) u := by
  have t6 := fun l (hl : l < n) P => told_run (P := P) hM hc hn hl (k := 6) (by omega)
  simp only [show nI 6 = 6 from rfl] at t6
  have lp : ∀ r i, i + r = n → zr 298 4 [.ref 278, .int (sumN (fun l => xI g (69 + 5 * l) 6) i), .int (nI i)] [] u P = P (some (.int (sumN (fun l => xI g (69 + 5 * l) 6) n))) u := by
    intro r
    induction r with
    | zero =>
      intro i hi
      have : i = n := by omega
      subst this
      rw [r298_4]
      simp (disch := omega) only [r298_0, r298_1, r298_2, r298_3, r298_5, r298_6, r298_9, r298_12, r298_13, r298_14, r298_15, r298_17, r298_20, r298_21, r298_22, r298_25, r298_28, r298_29, hM.1, hc.1, xinbT, xixT, leT, leF, ltT, ltF, ngF, psT, n1F, n2F, km2, km3, km4, km5, km10, km15, km25, kl8, kl14, kl24, kl34, kl274, kl354, kl384, kr1, kr2, kr3, kr4, kr5, kr6, kr7, kr8, kr9, kaa, lb0, lb1, lb2, lb3, lb4, lb5, lb6, lb7, li0, li1, li2, li3, li4, li5, li6, li7, true_and, and_true, Option.some.injEq, exists_eq_left', Option.toList_some, Option.toList_none, List.cons_append, List.nil_append, xcat_nil, xcat_int, xcat_ref, xcat_long, not_true, not_false_iff, if_true, if_false, and_self, and_false, false_and, or_true, true_or, or_self, z01, z10, zle8, Nat.reduceAdd, Nat.reduceLeDiff]
    | succ r ih =>
      intro i hi
      have ih := ih (i + 1) (by omega)
      simp only [sumN] at ih
      have t6 := t6 i (by omega)
      rw [r298_4]
      simp (disch := omega) only [r298_0, r298_1, r298_2, r298_3, r298_5, r298_6, r298_9, r298_12, r298_13, r298_14, r298_15, r298_17, r298_20, r298_21, r298_22, r298_25, r298_28, r298_29, hM.1, hc.1, t6, xinbT, xixT, leT, leF, ltT, ltF, ngF, psT, n1F, n2F, km2, km3, km4, km5, km10, km15, km25, kl8, kl14, kl24, kl34, kl274, kl354, kl384, kr1, kr2, kr3, kr4, kr5, kr6, kr7, kr8, kr9, kaa, lb0, lb1, lb2, lb3, lb4, lb5, lb6, lb7, li0, li1, li2, li3, li4, li5, li6, li7, true_and, and_true, Option.some.injEq, exists_eq_left', Option.toList_some, Option.toList_none, List.cons_append, List.nil_append, xcat_nil, xcat_int, xcat_ref, xcat_long, not_true, not_false_iff, if_true, if_false, and_self, and_false, false_and, or_true, true_or, or_self, z01, z10, zle8, Nat.reduceAdd, Nat.reduceLeDiff]
      exact ih
  simp only [r298_0, r298_1, r298_2, r298_3]
  exact lp n 0 (by omega)
theorem dueNow_run (h : Mx u g D s nl np nb nc nr nh nk) (hc : cpB u g n nf np) (hB : okB g n nf nc np) {l : Nat} (hl : l < n) : zr 286 0 [.ref 278, .int (nI l)] [] u P = P (some (.int (dDue g D nb np nl nr nh nk (xI g (69 + 5 * l) 0) (xI g (69 + 5 * l) 1) (xI g (69 + 5 * l) 2) (xI g (69 + 5 * l) 3) (xI g (69 + 5 * l) 6) (xI g (69 + 5 * l) 5)))) (xrow u 284 (dStk g D nb np nl (xI g (69 + 5 * l) 0) (xI g (69 + 5 * l) 1) (xI g (69 + 5 * l) 2))) := by
  have hn := hB.1.1.2
  obtain ⟨⟨j, hj, ej⟩, -, ⟨a, ha, ea⟩, ⟨b, hb, eb⟩, -⟩ := hB.2.2.1 l hl
  have tt := fun k (hk : k < 7) P => told_run (P := P) h.1 hc hn hl hk
  have t0 := tt 0 (by omega)
  have t1 := tt 1 (by omega)
  have t2 := tt 2 (by omega)
  have t3 := tt 3 (by omega)
  have t5 := tt 5 (by omega)
  have t6 := tt 6 (by omega)
  simp only [show nI 0 = 0 from rfl, show nI 1 = 1 from rfl, show nI 2 = 2 from rfl, show nI 3 = 3 from rfl, show nI 5 = 5 from rfl, show nI 6 = 6 from rfl, ea, eb, ej] at t0 t1 t2 t3 t5 t6
  have hd := fun d m e P => dueOf_run (d := d) (m := m) (e := e) (P := P) h hj ha hb
  rw [ea, eb, ej]
  simp only [r286_0, r286_1, r286_2, r286_3, r286_4, r286_7, r286_8, r286_9, r286_10, r286_13, r286_14, r286_15, r286_16, r286_19, r286_20, r286_21, r286_22, r286_25, r286_26, r286_27, r286_29, r286_32, r286_33, r286_34, r286_35, r286_38, r286_41, h.1.1, t0, t1, t2, t3, t5, t6, hd, true_and, and_true, Option.some.injEq, exists_eq_left', Option.toList_some, Option.toList_none, List.cons_append, List.nil_append, xcat_nil, xcat_int, xcat_ref, xcat_long, not_true, not_false_iff, if_true, if_false, and_self, and_false, false_and, or_true, true_or, or_self, z01, z10, zle8, Nat.reduceAdd, Nat.reduceLeDiff]
end
