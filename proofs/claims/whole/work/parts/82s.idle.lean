/-! IDLE -/
def fId (me : Nat → Bool) : Nat → Nat → Int32 → Option Int32
  | 0, _, _ => none
  | r + 1, p, left => if me p = true then fId me r (p + 1) left else if left = 0 then some (nI p) else fId me r (p + 1) (left - 1)
/-- an answer, or a throw -/
def fV : Option Int32 → Value
  | some q => .int q
  | none => .retAddr 0
section
variable {u w g : xMem} {P : Option Value → xMem → Prop} {D E s nl np nb nc nr nh nk n nf na f : Nat} {p q d x y c e k a t i l what many layer till price units : Int32} {op : Bool}
theorem idleC_t (h : St u D E s nl np nb nc nr nh nk n nf na f op) : zr 2 0 [.ref 0, .int k, .null, .null] [] u P = P (some (fV (if op = true then fId (fun j => anyR (bMe u (nI j)) n 0) np 0 k else none))) u := by
  have hb := h.b
  have hD := h.1.d
  obtain ⟨⟨f1, f2, f3⟩, ⟨f4, f5, f6, f7, f8⟩, ⟨f9, f10, f11, f12⟩, ⟨f13, f14, f15, f16⟩, ⟨f17, f18, f19, f20, f21, f22⟩, ⟨f23, f24, f25, f26, f27⟩, f28, f29, f30⟩ := h.ok.cf
  obtain ⟨g1, g2, g3, g4, g5, g6⟩ := h.sp
  have g7 := h.isop
  have b0 := h.bk.1
  have np0 := h.ok.2.2.2.1.1
  cases op with
  | false =>
    simp only [r2_0, r2_1, r2_2, r2_3, true_and, and_true, Option.some.injEq, exists_eq_left', Option.toList_some, Option.toList_none, List.cons_append, List.nil_append, xcat_nil, xcat_int, xcat_ref, xcat_long, not_true, not_false_iff, if_true, if_false, and_self, and_false, false_and, or_true, true_or, or_self, z01, z10, zle8, Nat.reduceAdd, Nat.reduceLeDiff]
    rw [r2_4]
    simp (disch := omega) only [r2_5, r2_8, r2_51, g1, g7, bI_f, Bool.false_eq_true, xinbT, xixT, leT, leF, ltT, ltF, ngF, psT, n1F, n2F, km2, km3, km4, km5, km10, km15, km25, kl8, kl14, kl24, kl34, kl274, kl354, kl384, kr1, kr2, kr3, kr4, kr5, kr6, kr7, kr8, kr9, kaa, lb0, lb1, lb2, lb3, lb4, lb5, lb6, lb7, li0, li1, li2, li3, li4, li5, li6, li7, true_and, and_true, Option.some.injEq, exists_eq_left', Option.toList_some, Option.toList_none, List.cons_append, List.nil_append, xcat_nil, xcat_int, xcat_ref, xcat_long, not_true, not_false_iff, if_true, if_false, and_self, and_false, false_and, or_true, true_or, or_self, z01, z10, zle8, Nat.reduceAdd, Nat.reduceLeDiff]
    rfl
  | true =>
    have lp : ∀ r j left, j + r = np → zr 2 4 [.ref 0, .int k, .int left, .int (nI j)] [] u P = P (some (fV (fId (fun j => anyR (bMe u (nI j)) n 0) r j left))) u := by
      intro r
      induction r with
      | zero =>
        intro j left hj
        have : j = np := by omega
        subst this
        rw [r2_4]
        simp (disch := omega) only [r2_5, r2_8, r2_11, r2_12, r2_13, r2_16, r2_19, r2_22, r2_51, f1, f2, f3, f4, f5, f6, f7, f8, f9, f10, f11, f12, f13, f14, f15, f16, f17, f18, f19, f20, f21, f22, f23, f24, f25, f26, f27, f28, f29, f30, g1, g2, g3, g4, g5, g6, g7, np0, bI_t, fId, fV, xinbT, xixT, leT, leF, ltT, ltF, ngF, psT, n1F, n2F, km2, km3, km4, km5, km10, km15, km25, kl8, kl14, kl24, kl34, kl274, kl354, kl384, kr1, kr2, kr3, kr4, kr5, kr6, kr7, kr8, kr9, kaa, lb0, lb1, lb2, lb3, lb4, lb5, lb6, lb7, li0, li1, li2, li3, li4, li5, li6, li7, true_and, and_true, Option.some.injEq, exists_eq_left', Option.toList_some, Option.toList_none, List.cons_append, List.nil_append, xcat_nil, xcat_int, xcat_ref, xcat_long, not_true, not_false_iff, if_true, if_false, and_self, and_false, false_and, or_true, true_or, or_self, z01, z10, zle8, Nat.reduceAdd, Nat.reduceLeDiff]
      | succ r ih =>
        intro j left hj
        have i1 := ih (j + 1) left (by omega)
        have i2 := ih (j + 1) (left - 1) (by omega)
        have hm := fun P => bmentions_run (p := nI j) (P := P) h.bk h.okl
        have em : left + (-1) = left - 1 := (Int32.sub_eq_add_neg ..).symm
        rw [r2_4]
        simp (disch := omega) only [r2_5, r2_8, r2_11, r2_12, r2_13, r2_16, r2_19, r2_22, r2_25, r2_26, r2_29, r2_30, r2_33, r2_36, r2_37, r2_40, r2_41, r2_42, r2_45, r2_48, f1, f2, f3, f4, f5, f6, f7, f8, f9, f10, f11, f12, f13, f14, f15, f16, f17, f18, f19, f20, f21, f22, f23, f24, f25, f26, f27, f28, f29, f30, g1, g2, g3, g4, g5, g6, g7, b0, np0, hm, bI_t, bI_0, em, fId, xinbT, xixT, leT, leF, ltT, ltF, ngF, psT, n1F, n2F, km2, km3, km4, km5, km10, km15, km25, kl8, kl14, kl24, kl34, kl274, kl354, kl384, kr1, kr2, kr3, kr4, kr5, kr6, kr7, kr8, kr9, kaa, lb0, lb1, lb2, lb3, lb4, lb5, lb6, lb7, li0, li1, li2, li3, li4, li5, li6, li7, true_and, and_true, Option.some.injEq, exists_eq_left', Option.toList_some, Option.toList_none, List.cons_append, List.nil_append, xcat_nil, xcat_int, xcat_ref, xcat_long, not_true, not_false_iff, if_true, if_false, and_self, and_false, false_and, or_true, true_or, or_self, z01, z10, zle8, Nat.reduceAdd, Nat.reduceLeDiff]
        by_cases hq : anyR (bMe u (nI j)) n 0 = true
        · simp only [hq, Bool.true_eq_false, true_and, and_true, Option.some.injEq, exists_eq_left', Option.toList_some, Option.toList_none, List.cons_append, List.nil_append, xcat_nil, xcat_int, xcat_ref, xcat_long, not_true, not_false_iff, if_true, if_false, and_self, and_false, false_and, or_true, true_or, or_self, z01, z10, zle8, Nat.reduceAdd, Nat.reduceLeDiff]
          exact i1
        · have hq := Bool.eq_false_iff.mpr hq
          by_cases z : left = 0
          · simp only [hq, z, Bool.false_eq_true, true_and, and_true, Option.some.injEq, exists_eq_left', Option.toList_some, Option.toList_none, List.cons_append, List.nil_append, xcat_nil, xcat_int, xcat_ref, xcat_long, not_true, not_false_iff, if_true, if_false, and_self, and_false, false_and, or_true, true_or, or_self, z01, z10, zle8, Nat.reduceAdd, Nat.reduceLeDiff]
            rfl
          · simp only [hq, z, Bool.false_eq_true, true_and, and_true, Option.some.injEq, exists_eq_left', Option.toList_some, Option.toList_none, List.cons_append, List.nil_append, xcat_nil, xcat_int, xcat_ref, xcat_long, not_true, not_false_iff, if_true, if_false, and_self, and_false, false_and, or_true, true_or, or_self, z01, z10, zle8, Nat.reduceAdd, Nat.reduceLeDiff]
            exact i2
    simp only [r2_0, r2_1, r2_2, r2_3, true_and, and_true, Option.some.injEq, exists_eq_left', Option.toList_some, Option.toList_none, List.cons_append, List.nil_append, xcat_nil, xcat_int, xcat_ref, xcat_long, not_true, not_false_iff, if_true, if_false, and_self, and_false, false_and, or_true, true_or, or_self, z01, z10, zle8, Nat.reduceAdd, Nat.reduceLeDiff]
    exact lp np 0 k (by omega)
theorem isTaxed_run (hM : sMd u) (hc : cpB u g n nf np) (hB : okB g n nf nc np) : zr 296 0 [.ref 278, .int p, .null, .null] [] u P = P (some (.int (bI (anyR (bMe g p) n 0)))) u := by
  have hn := hB.1.1.2
  have h0 := hM.1
  have l2 : ∀ l, l < n → (∀ v, zr 296 42 [.ref 278, .int p, .int (nI l), v] [] u P = P (some (.int (bI (anyR (bMe g p) (n - l - 1) (l + 1))))) u) → ∀ r i, i + r = pn g l → zr 296 12 [.ref 278, .int p, .int (nI l), .int (nI i)] [] u P = P (some (.int (bI (fMe (xI g (69 + 5 * l + 1)) p r i || anyR (bMe g p) (n - l - 1) (l + 1))))) u := by
    intro l hl nx r
    have h4 := (hB.1.2 l hl).2
    have t7 := fun P => told7_run (P := P) hM hc hn hl
    rw [(hB.1.2 l hl).1] at t7
    induction r with
    | zero =>
      intro i hi
      have : i = pn g l := by omega
      subst this
      rw [r296_12]
      simp (disch := omega) only [r296_13, r296_14, r296_15, r296_17, r296_20, h0, t7, nx, fMe, Bool.false_or, xinbT, xixT, leT, leF, ltT, ltF, ngF, psT, n1F, n2F, km2, km3, km4, km5, km10, km15, km25, kl8, kl14, kl24, kl34, kl274, kl354, kl384, kr1, kr2, kr3, kr4, kr5, kr6, kr7, kr8, kr9, kaa, lb0, lb1, lb2, lb3, lb4, lb5, lb6, lb7, li0, li1, li2, li3, li4, li5, li6, li7, true_and, and_true, Option.some.injEq, exists_eq_left', Option.toList_some, Option.toList_none, List.cons_append, List.nil_append, xcat_nil, xcat_int, xcat_ref, xcat_long, not_true, not_false_iff, if_true, if_false, and_self, and_false, false_and, or_true, true_or, or_self, z01, z10, zle8, Nat.reduceAdd, Nat.reduceLeDiff]
    | succ r ih =>
      intro i hi
      have ih := ih (i + 1) (by omega)
      have p0 := fun P => partIs0_run (P := P) hM hc hn hl (i := i) (by omega) (by omega)
      rw [r296_12]
      simp (disch := omega) only [r296_13, r296_14, r296_15, r296_17, r296_20, r296_23, r296_24, r296_25, r296_26, r296_27, r296_30, r296_31, r296_34, r296_35, r296_36, r296_39, h0, t7, p0, fMe, xinbT, xixT, leT, leF, ltT, ltF, ngF, psT, n1F, n2F, km2, km3, km4, km5, km10, km15, km25, kl8, kl14, kl24, kl34, kl274, kl354, kl384, kr1, kr2, kr3, kr4, kr5, kr6, kr7, kr8, kr9, kaa, lb0, lb1, lb2, lb3, lb4, lb5, lb6, lb7, li0, li1, li2, li3, li4, li5, li6, li7, true_and, and_true, Option.some.injEq, exists_eq_left', Option.toList_some, Option.toList_none, List.cons_append, List.nil_append, xcat_nil, xcat_int, xcat_ref, xcat_long, not_true, not_false_iff, if_true, if_false, and_self, and_false, false_and, or_true, true_or, or_self, z01, z10, zle8, Nat.reduceAdd, Nat.reduceLeDiff]
      by_cases z : xI g (69 + 5 * l + 1) i = p
      · simp only [z, decide_true, Bool.true_or, bI_t, true_and, and_true, Option.some.injEq, exists_eq_left', Option.toList_some, Option.toList_none, List.cons_append, List.nil_append, xcat_nil, xcat_int, xcat_ref, xcat_long, not_true, not_false_iff, if_true, if_false, and_self, and_false, false_and, or_true, true_or, or_self, z01, z10, zle8, Nat.reduceAdd, Nat.reduceLeDiff]
      · simp only [z, decide_false, Bool.false_or, true_and, and_true, Option.some.injEq, exists_eq_left', Option.toList_some, Option.toList_none, List.cons_append, List.nil_append, xcat_nil, xcat_int, xcat_ref, xcat_long, not_true, not_false_iff, if_true, if_false, and_self, and_false, false_and, or_true, true_or, or_self, z01, z10, zle8, Nat.reduceAdd, Nat.reduceLeDiff]
        exact ih
  have lp : ∀ r l v, l + r = n → zr 296 2 [.ref 278, .int p, .int (nI l), v] [] u P = P (some (.int (bI (anyR (bMe g p) r l)))) u := by
    intro r
    induction r with
    | zero =>
      intro l v hl
      have : l = n := by omega
      subst this
      rw [r296_2]
      simp (disch := omega) only [r296_3, r296_4, r296_7, r296_48, r296_49, h0, hc.1, anyR, bI_f, xinbT, xixT, leT, leF, ltT, ltF, ngF, psT, n1F, n2F, km2, km3, km4, km5, km10, km15, km25, kl8, kl14, kl24, kl34, kl274, kl354, kl384, kr1, kr2, kr3, kr4, kr5, kr6, kr7, kr8, kr9, kaa, lb0, lb1, lb2, lb3, lb4, lb5, lb6, lb7, li0, li1, li2, li3, li4, li5, li6, li7, true_and, and_true, Option.some.injEq, exists_eq_left', Option.toList_some, Option.toList_none, List.cons_append, List.nil_append, xcat_nil, xcat_int, xcat_ref, xcat_long, not_true, not_false_iff, if_true, if_false, and_self, and_false, false_and, or_true, true_or, or_self, z01, z10, zle8, Nat.reduceAdd, Nat.reduceLeDiff]
    | succ r ih =>
      intro l v hl
      have er : n - l - 1 = r := by omega
      have l2 := l2 l (by omega) (fun v => by
        have ih := ih (l + 1) v (by omega)
        rw [er]
        simp (disch := omega) only [r296_42, r296_45, xinbT, xixT, leT, leF, ltT, ltF, ngF, psT, n1F, n2F, km2, km3, km4, km5, km10, km15, km25, kl8, kl14, kl24, kl34, kl274, kl354, kl384, kr1, kr2, kr3, kr4, kr5, kr6, kr7, kr8, kr9, kaa, lb0, lb1, lb2, lb3, lb4, lb5, lb6, lb7, li0, li1, li2, li3, li4, li5, li6, li7, true_and, and_true, Option.some.injEq, exists_eq_left', Option.toList_some, Option.toList_none, List.cons_append, List.nil_append, xcat_nil, xcat_int, xcat_ref, xcat_long, not_true, not_false_iff, if_true, if_false, and_self, and_false, false_and, or_true, true_or, or_self, z01, z10, zle8, Nat.reduceAdd, Nat.reduceLeDiff]
        exact ih) (pn g l) 0 (by omega)
      rw [er] at l2
      rw [r296_2]
      simp (disch := omega) only [r296_3, r296_4, r296_7, r296_10, r296_11, h0, hc.1, anyR, xinbT, xixT, leT, leF, ltT, ltF, ngF, psT, n1F, n2F, km2, km3, km4, km5, km10, km15, km25, kl8, kl14, kl24, kl34, kl274, kl354, kl384, kr1, kr2, kr3, kr4, kr5, kr6, kr7, kr8, kr9, kaa, lb0, lb1, lb2, lb3, lb4, lb5, lb6, lb7, li0, li1, li2, li3, li4, li5, li6, li7, true_and, and_true, Option.some.injEq, exists_eq_left', Option.toList_some, Option.toList_none, List.cons_append, List.nil_append, xcat_nil, xcat_int, xcat_ref, xcat_long, not_true, not_false_iff, if_true, if_false, and_self, and_false, false_and, or_true, true_or, or_self, z01, z10, zle8, Nat.reduceAdd, Nat.reduceLeDiff]
      exact l2
  simp only [r296_0, r296_1, true_and, and_true, Option.some.injEq, exists_eq_left', Option.toList_some, Option.toList_none, List.cons_append, List.nil_append, xcat_nil, xcat_int, xcat_ref, xcat_long, not_true, not_false_iff, if_true, if_false, and_self, and_false, false_and, or_true, true_or, or_self, z01, z10, zle8, Nat.reduceAdd, Nat.reduceLeDiff]
  exact lp n 0 .null (by omega)
theorem idleM_t (h : St u D E s nl np nb nc nr nh nk n nf na f op) (hw : xag SC u w) : zr 297 0 [.ref 278, .int k, .null, .null] [] w P = P (some (.int ((if op = true then fId (fun j => anyR (bMe u (nI j)) n 0) np 0 k else none).getD 0))) (xsI (mThr w) 278 0 (if (if op = true then fId (fun j => anyR (bMe u (nI j)) n 0) np 0 k else none) = none then 1 else 0)) := by
  have hb := h.b
  have hx := h.mx (hw.tr ag_thr.m)
  have hB := h.cb (hw.tr ag_thr.m)
  have ho := h.o (hw.tr ag_thr.m)
  have hw0 : xIs w 278 11 := (h.mx hw).1.1
  obtain ⟨h0, r3, i2, n2, -⟩ := hx.cf
  have e3 := (hx.2.1.1.e hx.2.2).2.2.2.1
  have eT : ∀ z : Int32, xsI (mThr w) 278 0 z = xsI w 278 0 z := fun z => by
    unfold mThr xsI xu2
    refine Prod.ext rfl (Prod.ext ?_ rfl)
    funext b j
    by_cases q : b = 278 ∧ j = 0
    · simp only [q, and_self, if_true]
    · simp only [q, if_false]
  cases op with
  | false =>
    simp (disch := omega) only [r297_0, r297_1, r297_2, r297_5, r297_6, r297_7, r297_8, mThr_f, hw0, true_and, and_true, Option.some.injEq, exists_eq_left', Option.toList_some, Option.toList_none, List.cons_append, List.nil_append, xcat_nil, xcat_int, xcat_ref, xcat_long, not_true, not_false_iff, if_true, if_false, and_self, and_false, false_and, or_true, true_or, or_self, z01, z10, zle8, Nat.reduceAdd, Nat.reduceLeDiff]
    rw [r297_9]
    simp (disch := omega) only [r297_10, r297_13, r297_53, r297_54, r297_55, r297_58, r297_59, h0, ho, bI_f, Bool.false_eq_true, Option.getD_none, xinbT, xixT, leT, leF, ltT, ltF, ngF, psT, n1F, n2F, km2, km3, km4, km5, km10, km15, km25, kl8, kl14, kl24, kl34, kl274, kl354, kl384, kr1, kr2, kr3, kr4, kr5, kr6, kr7, kr8, kr9, kaa, lb0, lb1, lb2, lb3, lb4, lb5, lb6, lb7, li0, li1, li2, li3, li4, li5, li6, li7, true_and, and_true, Option.some.injEq, exists_eq_left', Option.toList_some, Option.toList_none, List.cons_append, List.nil_append, xcat_nil, xcat_int, xcat_ref, xcat_long, not_true, not_false_iff, if_true, if_false, and_self, and_false, false_and, or_true, true_or, or_self, z01, z10, zle8, Nat.reduceAdd, Nat.reduceLeDiff]
  | true =>
    have lp : ∀ r j seen, j + r = np → zr 297 9 [.ref 278, .int k, .int seen, .int (nI j)] [] (mThr w) P = P (some (.int ((fId (fun j => anyR (bMe u (nI j)) n 0) r j (k - seen)).getD 0))) (xsI (mThr w) 278 0 (if fId (fun j => anyR (bMe u (nI j)) n 0) r j (k - seen) = none then 1 else 0)) := by
      intro r
      induction r with
      | zero =>
        intro j seen hj
        have : j = np := by omega
        subst this
        rw [r297_9]
        simp (disch := omega) only [r297_10, r297_13, r297_16, r297_17, r297_18, r297_21, r297_22, r297_23, r297_53, r297_54, r297_55, r297_58, r297_59, h0, r3, i2, n2, e3, ho, bI_t, fId, Option.getD_none, xinbT, xixT, leT, leF, ltT, ltF, ngF, psT, n1F, n2F, km2, km3, km4, km5, km10, km15, km25, kl8, kl14, kl24, kl34, kl274, kl354, kl384, kr1, kr2, kr3, kr4, kr5, kr6, kr7, kr8, kr9, kaa, lb0, lb1, lb2, lb3, lb4, lb5, lb6, lb7, li0, li1, li2, li3, li4, li5, li6, li7, true_and, and_true, Option.some.injEq, exists_eq_left', Option.toList_some, Option.toList_none, List.cons_append, List.nil_append, xcat_nil, xcat_int, xcat_ref, xcat_long, not_true, not_false_iff, if_true, if_false, and_self, and_false, false_and, or_true, true_or, or_self, z01, z10, zle8, Nat.reduceAdd, Nat.reduceLeDiff]
      | succ r ih =>
        intro j seen hj
        have i1 := ih (j + 1) seen (by omega)
        have i2' := ih (j + 1) (seen + 1) (by omega)
        have hm := fun P => isTaxed_run (p := nI j) (P := P) hx.1 hB h.okb
        have ez : (k - seen = 0) = (seen = k) := by rw [i32_sub0]; exact propext ⟨Eq.symm, Eq.symm⟩
        have es : k - seen - 1 = k - (seen + 1) := by
          rw [Int32.sub_eq_add_neg, Int32.sub_eq_add_neg, Int32.sub_eq_add_neg, Int32.neg_add, Int32.add_assoc, Int32.sub_eq_add_neg]
        rw [r297_9]
        simp (disch := omega) only [r297_10, r297_13, r297_16, r297_17, r297_18, r297_21, r297_22, r297_23, r297_26, r297_27, r297_28, r297_31, r297_34, r297_37, r297_38, r297_39, r297_42, r297_43, r297_44, r297_47, r297_50, h0, r3, i2, n2, e3, ho, hm, bI_t, bI_0, fId, ez, es, xinbT, xixT, leT, leF, ltT, ltF, ngF, psT, n1F, n2F, km2, km3, km4, km5, km10, km15, km25, kl8, kl14, kl24, kl34, kl274, kl354, kl384, kr1, kr2, kr3, kr4, kr5, kr6, kr7, kr8, kr9, kaa, lb0, lb1, lb2, lb3, lb4, lb5, lb6, lb7, li0, li1, li2, li3, li4, li5, li6, li7, true_and, and_true, Option.some.injEq, exists_eq_left', Option.toList_some, Option.toList_none, List.cons_append, List.nil_append, xcat_nil, xcat_int, xcat_ref, xcat_long, not_true, not_false_iff, if_true, if_false, and_self, and_false, false_and, or_true, true_or, or_self, z01, z10, zle8, Nat.reduceAdd, Nat.reduceLeDiff]
        by_cases hq : anyR (bMe u (nI j)) n 0 = true
        · simp only [hq, Bool.true_eq_false, true_and, and_true, Option.some.injEq, exists_eq_left', Option.toList_some, Option.toList_none, List.cons_append, List.nil_append, xcat_nil, xcat_int, xcat_ref, xcat_long, not_true, not_false_iff, if_true, if_false, and_self, and_false, false_and, or_true, true_or, or_self, z01, z10, zle8, Nat.reduceAdd, Nat.reduceLeDiff]
          exact i1
        · have hq := Bool.eq_false_iff.mpr hq
          by_cases z : seen = k
          · simp only [hq, z, Bool.false_eq_true, reduceCtorEq, Option.getD_some, true_and, and_true, Option.some.injEq, exists_eq_left', Option.toList_some, Option.toList_none, List.cons_append, List.nil_append, xcat_nil, xcat_int, xcat_ref, xcat_long, not_true, not_false_iff, if_true, if_false, and_self, and_false, false_and, or_true, true_or, or_self, z01, z10, zle8, Nat.reduceAdd, Nat.reduceLeDiff]
            rw [eT]
            rfl
          · simp only [hq, z, Bool.false_eq_true, true_and, and_true, Option.some.injEq, exists_eq_left', Option.toList_some, Option.toList_none, List.cons_append, List.nil_append, xcat_nil, xcat_int, xcat_ref, xcat_long, not_true, not_false_iff, if_true, if_false, and_self, and_false, false_and, or_true, true_or, or_self, z01, z10, zle8, Nat.reduceAdd, Nat.reduceLeDiff]
            exact i2'
    simp (disch := omega) only [r297_0, r297_1, r297_2, r297_5, r297_6, r297_7, r297_8, mThr_f, hw0, true_and, and_true, Option.some.injEq, exists_eq_left', Option.toList_some, Option.toList_none, List.cons_append, List.nil_append, xcat_nil, xcat_int, xcat_ref, xcat_long, not_true, not_false_iff, if_true, if_false, and_self, and_false, false_and, or_true, true_or, or_self, z01, z10, zle8, Nat.reduceAdd, Nat.reduceLeDiff]
    have l0 := lp np 0 0 (by omega)
    rw [Int32.sub_zero] at l0
    exact l0
end
