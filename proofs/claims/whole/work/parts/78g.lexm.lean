/-! THE MODEL's tokens -/
section
variable {w v g : xMem} {P : Option Value → xMem → Prop} {e a b E : Nat} {x y : Int32}
/-- only the token has changed -/
def Nx (w v : xMem) : Prop := v.1 = w.1 ∧ v.2.2.2 = w.2.2.2 ∧ (∀ c j, c ≠ 278 ∨ (j ≠ 11 ∧ j ≠ 12 ∧ j ≠ 13 ∧ j ≠ 14) → xI v c j = xI w c j) ∧ ∀ c j, c ≠ 278 → xJ v c j = xJ w c j
theorem Nx.rf : Nx w w := ⟨rfl, rfl, fun _ _ _ => rfl, fun _ _ _ => rfl⟩
theorem Nx.tr {u : xMem} (h : Nx u w) (k : Nx w v) : Nx u v := ⟨k.1.trans h.1, k.2.1.trans h.2.1, fun c j q => (k.2.2.1 c j q).trans (h.2.2.1 c j q), fun c j q => (k.2.2.2 c j q).trans (h.2.2.2 c j q)⟩
theorem Nx.sI {j : Nat} (h : j = 11 ∨ j = 12 ∨ j = 13 ∨ j = 14) : Nx w (xsI w 278 j x) := ⟨rfl, rfl, fun c i q => xI_ne (by omega), fun c i q => rfl⟩
theorem Nx.sJ {z : Int64} : Nx w (xsJ w 278 16 z) := ⟨rfl, rfl, fun c i q => rfl, fun c i q => by rw [xJ_sJ, if_neg (fun z => q z.1)]⟩
theorem byteAt_run (hM : sMd w) (he : xI w 278 10 = nI e) (h12 : e ≤ 1200) {k : Nat} (hk : k ≤ 1200) : zr 176 0 [.ref 278, .int (nI k)] [] w P = P (some (.int (if k < e then xI w 283 k &&& 255 else -1))) w := by
  obtain ⟨h0, ⟨-, -, -, -, r8, -⟩, -, -, -, -, ⟨j, k0⟩, -⟩ := hM
  by_cases c : k < e
  · simp (disch := omega) only [r176_0, r176_1, r176_2, r176_5, r176_8, r176_9, r176_12, r176_13, r176_14, r176_17, r176_18, r176_21, r176_22, h0, r8, j, k0, he, if_pos c, xinbT, xixT, leT, leF, ltT, ltF, ngF, psT, n1F, n2F, km2, km3, km4, km5, km10, km15, km25, kl8, kl14, kl24, kl34, kl274, kl354, kl384, kr1, kr2, kr3, kr4, kr5, kr6, kr7, kr8, kr9, kaa, lb0, lb1, lb2, lb3, lb4, lb5, lb6, lb7, li0, li1, li2, li3, li4, li5, li6, li7, true_and, and_true, Option.some.injEq, exists_eq_left', Option.toList_some, Option.toList_none, List.cons_append, List.nil_append, xcat_nil, xcat_int, xcat_ref, xcat_long, not_true, not_false_iff, if_true, if_false, and_self, and_false, false_and, or_true, true_or, or_self, z01, z10, zle8, Nat.reduceAdd, Nat.reduceLeDiff]
  · simp (disch := omega) only [r176_0, r176_1, r176_2, r176_5, r176_8, r176_9, r176_12, r176_13, r176_14, r176_17, r176_18, r176_21, r176_22, h0, he, if_neg c, xinbT, xixT, leT, leF, ltT, ltF, ngF, psT, n1F, n2F, km2, km3, km4, km5, km10, km15, km25, kl8, kl14, kl24, kl34, kl274, kl354, kl384, kr1, kr2, kr3, kr4, kr5, kr6, kr7, kr8, kr9, kaa, lb0, lb1, lb2, lb3, lb4, lb5, lb6, lb7, li0, li1, li2, li3, li4, li5, li6, li7, true_and, and_true, Option.some.injEq, exists_eq_left', Option.toList_some, Option.toList_none, List.cons_append, List.nil_append, xcat_nil, xcat_int, xcat_ref, xcat_long, not_true, not_false_iff, if_true, if_false, and_self, and_false, false_and, or_true, true_or, or_self, z01, z10, zle8, Nat.reduceAdd, Nat.reduceLeDiff]
def Rg (T : Nat → Int32) : Prop := ∀ j, j < 1200 → -128 ≤ T j ∧ T j ≤ 127
theorem mskip_loop (hM : sMd w) (he : xI w 278 10 = nI e) (h12 : e ≤ 1200) (hR : Rg (xI w 283)) : ∀ r k, k + r = e → zr 177 8 [.ref 278, .null] [] (xsI w 278 11 (nI k)) P = zr 177 34 [.ref 278, .null] [] (xsI w 278 11 (nI (lRun (qBl (xI w 283)) r k))) P := by
  intro r
  induction r with
  | zero =>
    intro k hk
    have bt := fun P => byteAt_run (P := P) (w := xsI w 278 11 (nI k)) hM he h12 (k := k) (by omega)
    rw [if_neg (by omega)] at bt
    have e1 : xI (xsI w 278 11 (nI k)) 278 11 = nI k := rfl
    have i1 : xIs (xsI w 278 11 (nI k)) 278 11 := hM.1
    rw [r177_8]
    simp only [r177_9, r177_10, r177_13, r177_16, r177_18, r177_21, r177_22, r177_23, r177_26, r177_27, r177_28, r177_31, i1, e1, bt, show ¬ (-1 : Int32) = 32 by decide, lRun, true_and, and_true, Option.some.injEq, exists_eq_left', Option.toList_some, Option.toList_none, List.cons_append, List.nil_append, xcat_nil, xcat_int, xcat_ref, xcat_long, not_true, not_false_iff, if_true, if_false, and_self, and_false, false_and, or_true, true_or, or_self, z01, z10, zle8, Nat.reduceAdd, Nat.reduceLeDiff]
  | succ r ih =>
    intro k hk
    have bt := fun P => byteAt_run (P := P) (w := xsI w 278 11 (nI k)) hM he h12 (k := k) (by omega)
    rw [if_pos (by omega)] at bt
    have bt : ∀ P, zr 176 0 [.ref 278, .int (nI k)] [] (xsI w 278 11 (nI k)) P = P (some (.int (xI w 283 k &&& 255))) (xsI w 278 11 (nI k)) := bt
    have e1 : xI (xsI w 278 11 (nI k)) 278 11 = nI k := rfl
    have i1 : xIs (xsI w 278 11 (nI k)) 278 11 := hM.1
    have ih := ih (k + 1) (by omega)
    obtain ⟨b1, b2⟩ := hR k (by omega)
    have be := byte_eq (y := 32) b1 b2 (by decide) (by decide)
    rw [r177_8]
    simp (disch := omega) only [r177_9, r177_10, r177_13, r177_16, r177_18, r177_21, r177_22, r177_23, r177_26, r177_27, r177_28, r177_31, i1, e1, bt, be, xsI_same, ih, lRun, qBl, xinbT, xixT, leT, leF, ltT, ltF, ngF, psT, n1F, n2F, km2, km3, km4, km5, km10, km15, km25, kl8, kl14, kl24, kl34, kl274, kl354, kl384, kr1, kr2, kr3, kr4, kr5, kr6, kr7, kr8, kr9, kaa, lb0, lb1, lb2, lb3, lb4, lb5, lb6, lb7, li0, li1, li2, li3, li4, li5, li6, li7, true_and, and_true, Option.some.injEq, exists_eq_left', Option.toList_some, Option.toList_none, List.cons_append, List.nil_append, xcat_nil, xcat_int, xcat_ref, xcat_long, not_true, not_false_iff, if_true, if_false, and_self, and_false, false_and, or_true, true_or, or_self, z01, z10, zle8, Nat.reduceAdd, Nat.reduceLeDiff]
    by_cases c : xI w 283 k = 32
    · simp only [c, decide_true, true_and, and_true, Option.some.injEq, exists_eq_left', Option.toList_some, Option.toList_none, List.cons_append, List.nil_append, xcat_nil, xcat_int, xcat_ref, xcat_long, not_true, not_false_iff, if_true, if_false, and_self, and_false, false_and, or_true, true_or, or_self, z01, z10, zle8, Nat.reduceAdd, Nat.reduceLeDiff]
    · simp only [c, decide_false, Bool.false_eq_true, true_and, and_true, Option.some.injEq, exists_eq_left', Option.toList_some, Option.toList_none, List.cons_append, List.nil_append, xcat_nil, xcat_int, xcat_ref, xcat_long, not_true, not_false_iff, if_true, if_false, and_self, and_false, false_and, or_true, true_or, or_self, z01, z10, zle8, Nat.reduceAdd, Nat.reduceLeDiff]
def mWm (w : xMem) (a i : Nat) : xMem := xsI (xsJ w 278 16 (fWm (xI w 283) a (min i 7))) 278 11 (nI (a + i))
theorem mWm_s {i : Nat} {z : Int64} (hz : z = fWm (xI w 283) a (min (i + 1) 7)) : xsI (xsJ (mWm w a i) 278 16 z) 278 11 (nI (a + i + 1)) = mWm w a (i + 1) := by
  subst hz
  refine xm_ext rfl (fun c j => ?_) (fun c j => ?_) rfl
  · unfold mWm
    simp only [xI_sI, xI_sJ]
    by_cases q : c = 278 ∧ j = 11
    · rw [if_pos q, if_pos q]; rfl
    · rw [if_neg q, if_neg q, if_neg q]
  · unfold mWm
    simp only [xJ_sI, xJ_sJ]
    by_cases q : c = 278 ∧ j = 16
    · rw [if_pos q, if_pos q]
    · rw [if_neg q, if_neg q, if_neg q]
theorem mWm_s7 {i : Nat} (hi : 7 ≤ i) : xsI (mWm w a i) 278 11 (nI (a + i + 1)) = mWm w a (i + 1) := by
  unfold mWm
  rw [xsI_same, show min i 7 = 7 by omega, show min (i + 1) 7 = 7 by omega]
  rfl
theorem mword_loop (hM : sMd w) (he : xI w 278 10 = nI e) (h12 : e ≤ 1200) (hR : Rg (xI w 283)) (ha : xI w 278 13 = nI a) : ∀ r i, a + i + r = e → zr 178 5 [.ref 278] [] (mWm w a i) P = zr 178 71 [.ref 278] [] (mWm w a (lRun (qLt (xI w 283)) r (a + i) - a)) P := by
  intro r
  induction r with
  | zero =>
    intro i hk
    have bt := fun P => byteAt_run (P := P) (w := mWm w a i) hM he h12 (k := a + i) (by omega)
    rw [if_neg (by omega)] at bt
    have e1 : xI (mWm w a i) 278 11 = nI (a + i) := rfl
    have i1 : xIs (mWm w a i) 278 11 := hM.1
    rw [r178_5]
    simp only [r178_6, r178_7, r178_10, r178_13, r178_15, r178_17, r178_20, r178_23, r178_24, r178_27, r178_28, r178_31, r178_32, r178_34, r178_37, r178_38, r178_39, r178_42, r178_44, r178_45, r178_46, r178_47, r178_50, r178_53, r178_54, r178_55, r178_58, r178_59, r178_60, r178_63, r178_64, r178_65, r178_68, i1, e1, bt, in_run, show ¬ ((97 : Int32) ≤ -1 ∧ (-1 : Int32) ≤ 122) by decide, decide_false, bI_f, lRun, true_and, and_true, Option.some.injEq, exists_eq_left', Option.toList_some, Option.toList_none, List.cons_append, List.nil_append, xcat_nil, xcat_int, xcat_ref, xcat_long, not_true, not_false_iff, if_true, if_false, and_self, and_false, false_and, or_true, true_or, or_self, z01, z10, zle8, Nat.reduceAdd, Nat.reduceLeDiff]
    rw [show a + i - a = i by omega]
  | succ r ih =>
    intro i hk
    have bt := fun P => byteAt_run (P := P) (w := mWm w a i) hM he h12 (k := a + i) (by omega)
    rw [if_pos (by omega)] at bt
    have bt : ∀ P, zr 176 0 [.ref 278, .int (nI (a + i))] [] (mWm w a i) P = P (some (.int (xI w 283 (a + i) &&& 255))) (mWm w a i) := bt
    have e1 : xI (mWm w a i) 278 11 = nI (a + i) := rfl
    have e2 : xI (mWm w a i) 278 13 = nI a := ha
    have e3 : xJ (mWm w a i) 278 16 = fWm (xI w 283) a (min i 7) := rfl
    have i1 : xIs (mWm w a i) 278 11 := hM.1
    have i2 : ∀ z, xIs (xsJ (mWm w a i) 278 16 z) 278 11 := fun z => hM.1
    have e4 : ∀ z, xI (xsJ (mWm w a i) 278 16 z) 278 11 = nI (a + i) := fun z => rfl
    have sb : nI (a + i) - nI a = nI i := by rw [subI (by omega) (by omega)]; congr 1; omega
    have ih := ih (i + 1) (by omega)
    rw [show a + (i + 1) = a + i + 1 by omega] at ih
    obtain ⟨b1, b2⟩ := hR (a + i) (by omega)
    have be := byte_in (lo := 97) (hi := 122) b1 b2 (by decide) (by decide)
    rw [r178_5]
    unfold lRun
    by_cases c : qLt (xI w 283) (a + i) = true
    · have c' := of_decide_eq_true c
      rw [if_pos c]
      by_cases c7 : 7 ≤ i
      · have q7 : (7 : Int32) ≤ nI i := nI_le (a := 7) (b := i) c7 (by omega)
        simp (disch := omega) only [r178_6, r178_7, r178_10, r178_13, r178_15, r178_17, r178_20, r178_23, r178_24, r178_27, r178_28, r178_31, r178_32, r178_34, r178_37, r178_38, r178_39, r178_42, r178_44, r178_45, r178_46, r178_47, r178_50, r178_53, r178_54, r178_55, r178_58, r178_59, r178_60, r178_63, r178_64, r178_65, r178_68, i1, e1, e2, bt, in_run, be, decide_eq_true c', bI_t, sb, q7, mWm_s7 c7, ih, xinbT, xixT, leT, leF, ltT, ltF, ngF, psT, n1F, n2F, km2, km3, km4, km5, km10, km15, km25, kl8, kl14, kl24, kl34, kl274, kl354, kl384, kr1, kr2, kr3, kr4, kr5, kr6, kr7, kr8, kr9, kaa, lb0, lb1, lb2, lb3, lb4, lb5, lb6, lb7, li0, li1, li2, li3, li4, li5, li6, li7, true_and, and_true, Option.some.injEq, exists_eq_left', Option.toList_some, Option.toList_none, List.cons_append, List.nil_append, xcat_nil, xcat_int, xcat_ref, xcat_long, not_true, not_false_iff, if_true, if_false, and_self, and_false, false_and, or_true, true_or, or_self, z01, z10, zle8, Nat.reduceAdd, Nat.reduceLeDiff]
      · have q7 : ¬ (7 : Int32) ≤ nI i := nI_ge (a := i) (b := 7) (by omega) (by omega)
        have hm := mWm_s (w := w) (a := a) (i := i) (z := (fWm (xI w 283) a (min i 7) <<< ((8 : Int32).toInt64 &&& 63)) ||| (xI w 283 (a + i) &&& 255).toInt64) (by rw [show min i 7 = i by omega, show min (i + 1) 7 = i + 1 by omega]; rfl)
        simp (disch := omega) only [r178_6, r178_7, r178_10, r178_13, r178_15, r178_17, r178_20, r178_23, r178_24, r178_27, r178_28, r178_31, r178_32, r178_34, r178_37, r178_38, r178_39, r178_42, r178_44, r178_45, r178_46, r178_47, r178_50, r178_53, r178_54, r178_55, r178_58, r178_59, r178_60, r178_63, r178_64, r178_65, r178_68, i1, i2, e1, e2, e3, e4, bt, in_run, be, decide_eq_true c', bI_t, sb, q7, hm, ih, xinbT, xixT, leT, leF, ltT, ltF, ngF, psT, n1F, n2F, km2, km3, km4, km5, km10, km15, km25, kl8, kl14, kl24, kl34, kl274, kl354, kl384, kr1, kr2, kr3, kr4, kr5, kr6, kr7, kr8, kr9, kaa, lb0, lb1, lb2, lb3, lb4, lb5, lb6, lb7, li0, li1, li2, li3, li4, li5, li6, li7, true_and, and_true, Option.some.injEq, exists_eq_left', Option.toList_some, Option.toList_none, List.cons_append, List.nil_append, xcat_nil, xcat_int, xcat_ref, xcat_long, not_true, not_false_iff, if_true, if_false, and_self, and_false, false_and, or_true, true_or, or_self, z01, z10, zle8, Nat.reduceAdd, Nat.reduceLeDiff]
    · have c' : ¬ (97 ≤ xI w 283 (a + i) ∧ xI w 283 (a + i) ≤ 122) := fun z => c (decide_eq_true z)
      rw [if_neg c]
      simp (disch := omega) only [r178_6, r178_7, r178_10, r178_13, r178_15, r178_17, r178_20, r178_23, r178_24, r178_27, r178_28, r178_31, r178_32, r178_34, r178_37, r178_38, r178_39, r178_42, r178_44, r178_45, r178_46, r178_47, r178_50, r178_53, r178_54, r178_55, r178_58, r178_59, r178_60, r178_63, r178_64, r178_65, r178_68, i1, e1, bt, in_run, be, decide_eq_false c', bI_f, xinbT, xixT, leT, leF, ltT, ltF, ngF, psT, n1F, n2F, km2, km3, km4, km5, km10, km15, km25, kl8, kl14, kl24, kl34, kl274, kl354, kl384, kr1, kr2, kr3, kr4, kr5, kr6, kr7, kr8, kr9, kaa, lb0, lb1, lb2, lb3, lb4, lb5, lb6, lb7, li0, li1, li2, li3, li4, li5, li6, li7, true_and, and_true, Option.some.injEq, exists_eq_left', Option.toList_some, Option.toList_none, List.cons_append, List.nil_append, xcat_nil, xcat_int, xcat_ref, xcat_long, not_true, not_false_iff, if_true, if_false, and_self, and_false, false_and, or_true, true_or, or_self, z01, z10, zle8, Nat.reduceAdd, Nat.reduceLeDiff]
      rw [show a + i - a = i by omega]
def mHm (w : xMem) (a i : Nat) : xMem := xsI (xsI w 278 14 (fWh (xI w 283) a (min i 4))) 278 11 (nI (a + i))
theorem mHm_s {i : Nat} {z : Int32} (hz : z = fWh (xI w 283) a (min (i + 1) 4)) : xsI (xsI (mHm w a i) 278 14 z) 278 11 (nI (a + i + 1)) = mHm w a (i + 1) := by
  subst hz
  refine xm_ext rfl (fun c j => ?_) (fun c j => rfl) rfl
  unfold mHm
  simp only [xI_sI]
  by_cases q : c = 278 ∧ j = 11
  · rw [if_pos q, if_pos q]; rfl
  · rw [if_neg q, if_neg q, if_neg q]
    by_cases q2 : c = 278 ∧ j = 14
    · rw [if_pos q2, if_pos q2]
    · rw [if_neg q2, if_neg q2, if_neg q2]
theorem mHm_s4 {i : Nat} (hi : 4 ≤ i) : xsI (mHm w a i) 278 11 (nI (a + i + 1)) = mHm w a (i + 1) := by
  unfold mHm
  rw [xsI_same, show min i 4 = 4 by omega, show min (i + 1) 4 = 4 by omega]
  rfl
theorem mwhole_loop (hM : sMd w) (he : xI w 278 10 = nI e) (h12 : e ≤ 1200) (hR : Rg (xI w 283)) (ha : xI w 278 13 = nI a) : ∀ r i, a + i + r = e → zr 179 5 [.ref 278] [] (mHm w a i) P = zr 179 72 [.ref 278] [] (mHm w a (lRun (qDg (xI w 283)) r (a + i) - a)) P := by
  intro r
  induction r with
  | zero =>
    intro i hk
    have bt := fun P => byteAt_run (P := P) (w := mHm w a i) hM he h12 (k := a + i) (by omega)
    rw [if_neg (by omega)] at bt
    have e1 : xI (mHm w a i) 278 11 = nI (a + i) := rfl
    have i1 : xIs (mHm w a i) 278 11 := hM.1
    rw [r179_5]
    simp only [r179_6, r179_7, r179_10, r179_13, r179_15, r179_17, r179_20, r179_23, r179_24, r179_27, r179_28, r179_31, r179_32, r179_33, r179_36, r179_37, r179_39, r179_40, r179_43, r179_44, r179_45, r179_46, r179_49, r179_52, r179_53, r179_55, r179_56, r179_59, r179_60, r179_61, r179_64, r179_65, r179_66, r179_69, i1, e1, bt, in_run, show ¬ ((48 : Int32) ≤ -1 ∧ (-1 : Int32) ≤ 57) by decide, decide_false, bI_f, lRun, true_and, and_true, Option.some.injEq, exists_eq_left', Option.toList_some, Option.toList_none, List.cons_append, List.nil_append, xcat_nil, xcat_int, xcat_ref, xcat_long, not_true, not_false_iff, if_true, if_false, and_self, and_false, false_and, or_true, true_or, or_self, z01, z10, zle8, Nat.reduceAdd, Nat.reduceLeDiff]
    rw [show a + i - a = i by omega]
  | succ r ih =>
    intro i hk
    have bt := fun P => byteAt_run (P := P) (w := mHm w a i) hM he h12 (k := a + i) (by omega)
    rw [if_pos (by omega)] at bt
    have bt : ∀ P, zr 176 0 [.ref 278, .int (nI (a + i))] [] (mHm w a i) P = P (some (.int (xI w 283 (a + i) &&& 255))) (mHm w a i) := bt
    have e1 : xI (mHm w a i) 278 11 = nI (a + i) := rfl
    have e2 : xI (mHm w a i) 278 13 = nI a := ha
    have e3 : xI (mHm w a i) 278 14 = fWh (xI w 283) a (min i 4) := rfl
    have i1 : xIs (mHm w a i) 278 11 := hM.1
    have i2 : ∀ z, xIs (xsI (mHm w a i) 278 14 z) 278 11 := fun z => hM.1
    have e4 : ∀ z, xI (xsI (mHm w a i) 278 14 z) 278 11 = nI (a + i) := fun z => rfl
    have sb : nI (a + i) - nI a = nI i := by rw [subI (by omega) (by omega)]; congr 1; omega
    have ih := ih (i + 1) (by omega)
    rw [show a + (i + 1) = a + i + 1 by omega] at ih
    obtain ⟨b1, b2⟩ := hR (a + i) (by omega)
    have be := byte_in (lo := 48) (hi := 57) b1 b2 (by decide) (by decide)
    rw [r179_5]
    unfold lRun
    by_cases c : qDg (xI w 283) (a + i) = true
    · have c' := of_decide_eq_true c
      rw [if_pos c]
      by_cases c7 : 4 ≤ i
      · have q7 : (4 : Int32) ≤ nI i := nI_le (a := 4) (b := i) c7 (by omega)
        simp (disch := omega) only [r179_6, r179_7, r179_10, r179_13, r179_15, r179_17, r179_20, r179_23, r179_24, r179_27, r179_28, r179_31, r179_32, r179_33, r179_36, r179_37, r179_39, r179_40, r179_43, r179_44, r179_45, r179_46, r179_49, r179_52, r179_53, r179_55, r179_56, r179_59, r179_60, r179_61, r179_64, r179_65, r179_66, r179_69, i1, e1, e2, bt, in_run, be, decide_eq_true c', bI_t, sb, q7, mHm_s4 c7, ih, xinbT, xixT, leT, leF, ltT, ltF, ngF, psT, n1F, n2F, km2, km3, km4, km5, km10, km15, km25, kl8, kl14, kl24, kl34, kl274, kl354, kl384, kr1, kr2, kr3, kr4, kr5, kr6, kr7, kr8, kr9, kaa, lb0, lb1, lb2, lb3, lb4, lb5, lb6, lb7, li0, li1, li2, li3, li4, li5, li6, li7, true_and, and_true, Option.some.injEq, exists_eq_left', Option.toList_some, Option.toList_none, List.cons_append, List.nil_append, xcat_nil, xcat_int, xcat_ref, xcat_long, not_true, not_false_iff, if_true, if_false, and_self, and_false, false_and, or_true, true_or, or_self, z01, z10, zle8, Nat.reduceAdd, Nat.reduceLeDiff]
      · have q7 : ¬ (4 : Int32) ≤ nI i := nI_ge (a := i) (b := 4) (by omega) (by omega)
        have eb : xI w 283 (a + i) &&& 255 = xI w 283 (a + i) := by
          rw [byte_and b1 b2, if_pos]
          have := i32_le.mp c'.1
          rw [i32_le]
          have h1 : (48 : Int32).toInt = 48 := rfl
          have h2 : (0 : Int32).toInt = 0 := rfl
          omega
        have hm := mHm_s (w := w) (a := a) (i := i) (z := 10 * fWh (xI w 283) a (min i 4) + (xI w 283 (a + i) &&& 255) - 48) (by
          rw [show min i 4 = i by omega, show min (i + 1) 4 = i + 1 by omega, eb]
          show _ = fWh (xI w 283) a i * 10 + (xI w 283 (a + i) - 48)
          rw [Int32.mul_comm, Int32.sub_eq_add_neg, Int32.sub_eq_add_neg, Int32.add_assoc])
        simp (disch := omega) only [r179_6, r179_7, r179_10, r179_13, r179_15, r179_17, r179_20, r179_23, r179_24, r179_27, r179_28, r179_31, r179_32, r179_33, r179_36, r179_37, r179_39, r179_40, r179_43, r179_44, r179_45, r179_46, r179_49, r179_52, r179_53, r179_55, r179_56, r179_59, r179_60, r179_61, r179_64, r179_65, r179_66, r179_69, i1, i2, e1, e2, e3, e4, bt, in_run, be, decide_eq_true c', bI_t, sb, q7, hm, ih, xinbT, xixT, leT, leF, ltT, ltF, ngF, psT, n1F, n2F, km2, km3, km4, km5, km10, km15, km25, kl8, kl14, kl24, kl34, kl274, kl354, kl384, kr1, kr2, kr3, kr4, kr5, kr6, kr7, kr8, kr9, kaa, lb0, lb1, lb2, lb3, lb4, lb5, lb6, lb7, li0, li1, li2, li3, li4, li5, li6, li7, true_and, and_true, Option.some.injEq, exists_eq_left', Option.toList_some, Option.toList_none, List.cons_append, List.nil_append, xcat_nil, xcat_int, xcat_ref, xcat_long, not_true, not_false_iff, if_true, if_false, and_self, and_false, false_and, or_true, true_or, or_self, z01, z10, zle8, Nat.reduceAdd, Nat.reduceLeDiff]
    · have c' : ¬ (48 ≤ xI w 283 (a + i) ∧ xI w 283 (a + i) ≤ 57) := fun z => c (decide_eq_true z)
      rw [if_neg c]
      simp (disch := omega) only [r179_6, r179_7, r179_10, r179_13, r179_15, r179_17, r179_20, r179_23, r179_24, r179_27, r179_28, r179_31, r179_32, r179_33, r179_36, r179_37, r179_39, r179_40, r179_43, r179_44, r179_45, r179_46, r179_49, r179_52, r179_53, r179_55, r179_56, r179_59, r179_60, r179_61, r179_64, r179_65, r179_66, r179_69, i1, e1, bt, in_run, be, decide_eq_false c', bI_f, xinbT, xixT, leT, leF, ltT, ltF, ngF, psT, n1F, n2F, km2, km3, km4, km5, km10, km15, km25, kl8, kl14, kl24, kl34, kl274, kl354, kl384, kr1, kr2, kr3, kr4, kr5, kr6, kr7, kr8, kr9, kaa, lb0, lb1, lb2, lb3, lb4, lb5, lb6, lb7, li0, li1, li2, li3, li4, li5, li6, li7, true_and, and_true, Option.some.injEq, exists_eq_left', Option.toList_some, Option.toList_none, List.cons_append, List.nil_append, xcat_nil, xcat_int, xcat_ref, xcat_long, not_true, not_false_iff, if_true, if_false, and_self, and_false, false_and, or_true, true_or, or_self, z01, z10, zle8, Nat.reduceAdd, Nat.reduceLeDiff]
      rw [show a + i - a = i by omega]
/-- the token's kind, told by the model -/
def mKd (x : Int32) : Int32 := if x = 0 then 1 else if x = 1 then 2 else if x = 2 then 3 else if x = 3 then 4 else 0
theorem next_run (hM : sMd w) (hf : xI w 278 15 = 0) (he : xI w 278 10 = nI e) (h12 : e ≤ 1200) (hR : Rg (xI w 283)) (hb : xI w 278 11 = nI b) (hbe : b ≤ e)
    (hP : ∀ v, Nx w v → xI v 278 13 = nI (tA (xI w 283) e b) → xI v 278 11 = nI (tN (xI w 283) e b) → xI v 278 12 = mKd (tKd (xI w 283) e b) → (isL (xI w 283) e b = true → xJ v 278 16 = fWm (xI w 283) (tA (xI w 283) e b) (min (tN (xI w 283) e b - tA (xI w 283) e b) 7)) → (isD (xI w 283) e b = true → xI v 278 14 = fWh (xI w 283) (tA (xI w 283) e b) (min (tN (xI w 283) e b - tA (xI w 283) e b) 4)) → P none v) :
    zr 177 0 [.ref 278, .null] [] w P := by
  obtain ⟨a1, a2⟩ := tA_b (T := xI w 283) hbe
  have hl := mskip_loop (P := P) hM he h12 hR (e - b) b (by omega)
  rw [show lRun (qBl (xI w 283)) (e - b) b = tA (xI w 283) e b from rfl, xsI_id hb] at hl
  have dN : tN (xI w 283) e b = if e ≤ tA (xI w 283) e b then tA (xI w 283) e b else if qLt (xI w 283) (tA (xI w 283) e b) = true then lRun (qLt (xI w 283)) (e - tA (xI w 283) e b) (tA (xI w 283) e b) else if qDg (xI w 283) (tA (xI w 283) e b) = true then lRun (qDg (xI w 283)) (e - tA (xI w 283) e b) (tA (xI w 283) e b) else if xI w 283 (tA (xI w 283) e b) = 59 then tA (xI w 283) e b + 1 else tA (xI w 283) e b := rfl
  unfold isL isD tKd at hP
  generalize tN (xI w 283) e b = N at *
  generalize tA (xI w 283) e b = z at *
  have h0 := hM.1
  have p0 : xIs (xsI w 278 11 (nI z)) 278 11 := h0
  have p1 : xI (xsI w 278 11 (nI z)) 278 11 = nI z := rfl
  simp only [r177_0, r177_1, r177_4, h0, hf, show (0 : Int32) ≤ 0 by decide, hl, true_and, and_true, Option.some.injEq, exists_eq_left', Option.toList_some, Option.toList_none, List.cons_append, List.nil_append, xcat_nil, xcat_int, xcat_ref, xcat_long, not_true, not_false_iff, if_true, if_false, and_self, and_false, false_and, or_true, true_or, or_self, z01, z10, zle8, Nat.reduceAdd, Nat.reduceLeDiff]
  have hN : Nx w (xsI (xsI w 278 11 (nI z)) 278 13 (nI z)) := (Nx.sI (by omega)).tr (Nx.sI (by omega))
  have hM1 : sMd (xsI (xsI w 278 11 (nI z)) 278 13 (nI z)) := hM
  have q1 : xI (xsI (xsI w 278 11 (nI z)) 278 13 (nI z)) 278 11 = nI z := rfl
  have q2 : xI (xsI (xsI w 278 11 (nI z)) 278 13 (nI z)) 278 13 = nI z := rfl
  have q3 : xI (xsI (xsI w 278 11 (nI z)) 278 13 (nI z)) 278 10 = nI e := he
  have q4 : xI (xsI (xsI w 278 11 (nI z)) 278 13 (nI z)) 283 = xI w 283 := rfl
  simp only [r177_34, r177_35, r177_36, r177_39, p0, p1, true_and, and_true, Option.some.injEq, exists_eq_left', Option.toList_some, Option.toList_none, List.cons_append, List.nil_append, xcat_nil, xcat_int, xcat_ref, xcat_long, not_true, not_false_iff, if_true, if_false, and_self, and_false, false_and, or_true, true_or, or_self, z01, z10, zle8, Nat.reduceAdd, Nat.reduceLeDiff]
  generalize xsI (xsI w 278 11 (nI z)) 278 13 (nI z) = v at *
  have bt := fun P => byteAt_run (P := P) hM1 q3 h12 (k := z) (by omega)
  rw [q4] at bt
  by_cases c0 : e ≤ z
  · rw [if_pos c0] at dN
    rw [if_neg (by omega)] at bt
    subst dN
    simp only [r177_42, r177_43, r177_44, r177_47, r177_50, r177_51, r177_52, r177_53, r177_56, r177_57, r177_58, r177_61, r177_105, hM1.1, q1, bt, true_and, and_true, Option.some.injEq, exists_eq_left', Option.toList_some, Option.toList_none, List.cons_append, List.nil_append, xcat_nil, xcat_int, xcat_ref, xcat_long, not_true, not_false_iff, if_true, if_false, and_self, and_false, false_and, or_true, true_or, or_self, z01, z10, zle8, Nat.reduceAdd, Nat.reduceLeDiff]
    rw [if_pos c0, decide_eq_false (by omega), Bool.false_and, Bool.false_and] at hP
    exact hP _ (hN.tr (Nx.sI (by omega))) q2 q1 rfl (fun q => by cases q) (fun q => by cases q)
  · rw [if_neg c0] at dN
    rw [if_pos (by omega)] at bt
    rw [if_neg c0, decide_eq_true c0, Bool.true_and, Bool.true_and] at hP
    obtain ⟨b1, b2⟩ := hR z (by omega)
    have ne1 : ¬ (xI w 283 z &&& 255) = -1 := fun q => by have := byte_pos b1 b2; rw [q] at this; exact absurd this (by decide)
    have be := byte_in (lo := 97) (hi := 122) b1 b2 (by decide) (by decide)
    have be2 := byte_in (lo := 48) (hi := 57) b1 b2 (by decide) (by decide)
    have be3 := byte_eq (y := 59) b1 b2 (by decide) (by decide)
    by_cases c1 : qLt (xI w 283) z = true
    · have c1' := of_decide_eq_true c1
      rw [if_pos c1] at dN
      rw [c1, if_pos rfl] at hP
      have hge := lRun_ge (qLt (xI w 283)) (e - z) z
      have hle := lRun_le (qLt (xI w 283)) (e - z) z
      have e0 : xsJ v 278 16 0 = mWm v z 0 := by
        unfold mWm
        exact (xsI_id (u := xsJ v 278 16 0) (a := 278) (k := 11) (v := nI z) q1).symm
      have hl := mword_loop (P := fun r u2 => zr 177 79 [.ref 278, .int (xI w 283 z &&& 255)] (r.toList ++ []) u2 P) (w := v) (a := z) hM1 q3 h12 (by rw [q4]; exact hR) q2 (e - z) 0 (by omega)
      rw [Nat.add_zero, q4, ← dN] at hl
      have s0 : xIs (mWm v z (N - z)) 278 11 := hM1.1
      have s4 : xI (mWm v z (N - z)) 278 11 = nI (z + (N - z)) := rfl
      have s3 : xI (mWm v z (N - z)) 278 13 = nI z := q2
      have sb : nI (z + (N - z)) - nI z = nI (N - z) := by rw [subI (by omega) (by omega)]; congr 1; omega
      simp only [r177_42, r177_43, r177_44, r177_47, r177_50, r177_51, r177_52, r177_53, r177_56, r177_57, r177_58, r177_61, r177_64, r177_65, r177_67, r177_69, r177_72, r177_75, r177_76, hM1.1, q1, bt, ne1, in_run, be, decide_eq_true c1', bI_t, r178_0, r178_1, r178_2, e0, hl, true_and, and_true, Option.some.injEq, exists_eq_left', Option.toList_some, Option.toList_none, List.cons_append, List.nil_append, xcat_nil, xcat_int, xcat_ref, xcat_long, not_true, not_false_iff, if_true, if_false, and_self, and_false, false_and, or_true, true_or, or_self, z01, z10, zle8, Nat.reduceAdd, Nat.reduceLeDiff]
      have hn : Nx w (mWm v z (N - z)) := hN.tr (Nx.sJ.tr (Nx.sI (by omega)))
      have f16 : xJ (mWm v z (N - z)) 278 16 = fWm (xI w 283) z (min (N - z) 7) := by rw [← q4]; rfl
      have f11 : xI (mWm v z (N - z)) 278 11 = nI N := by rw [s4]; congr 1; omega
      by_cases c : N - z ≤ 7
      · have c' : nI (N - z) ≤ 7 := nI_le (a := N - z) (b := 7) c (by omega)
        simp only [r178_71, r178_72, r178_73, r178_76, r178_77, r178_80, r178_81, r178_83, r178_86, r178_87, r178_90, r178_91, r178_94, r177_79, r177_105, s0, s4, s3, sb, c', true_and, and_true, Option.some.injEq, exists_eq_left', Option.toList_some, Option.toList_none, List.cons_append, List.nil_append, xcat_nil, xcat_int, xcat_ref, xcat_long, not_true, not_false_iff, if_true, if_false, and_self, and_false, false_and, or_true, true_or, or_self, z01, z10, zle8, Nat.reduceAdd, Nat.reduceLeDiff]
        exact hP _ (hn.tr (Nx.sI (by omega))) s3 f11 (by rw [if_pos c]; rfl) (fun _ => f16) (fun q => by cases q)
      · have c' : ¬ nI (N - z) ≤ 7 := nI_ge (a := 7) (b := N - z) (by omega) (by omega)
        simp only [r178_71, r178_72, r178_73, r178_76, r178_77, r178_80, r178_81, r178_83, r178_86, r178_87, r178_90, r178_91, r178_94, r177_79, r177_105, s0, s4, s3, sb, c', true_and, and_true, Option.some.injEq, exists_eq_left', Option.toList_some, Option.toList_none, List.cons_append, List.nil_append, xcat_nil, xcat_int, xcat_ref, xcat_long, not_true, not_false_iff, if_true, if_false, and_self, and_false, false_and, or_true, true_or, or_self, z01, z10, zle8, Nat.reduceAdd, Nat.reduceLeDiff]
        exact hP _ (hn.tr (Nx.sI (by omega))) s3 f11 (by rw [if_neg c]; rfl) (fun _ => f16) (fun q => by cases q)
    · have c1' : ¬ (97 ≤ xI w 283 z ∧ xI w 283 z ≤ 122) := fun q => c1 (decide_eq_true q)
      have f1 : qLt (xI w 283) z = false := Bool.eq_false_iff.mpr c1
      rw [if_neg c1] at dN
      rw [f1, if_neg (by decide), Bool.not_false, Bool.true_and] at hP
      by_cases c2 : qDg (xI w 283) z = true
      · have c2' := of_decide_eq_true c2
        rw [if_pos c2] at dN
        rw [c2, if_pos rfl] at hP
        have hge := lRun_ge (qDg (xI w 283)) (e - z) z
        have hle := lRun_le (qDg (xI w 283)) (e - z) z
        have e0 : xsI v 278 14 0 = mHm v z 0 := by
          unfold mHm
          exact (xsI_id (u := xsI v 278 14 0) (a := 278) (k := 11) (v := nI z) q1).symm
        have hl := mwhole_loop (P := fun r u2 => zr 177 97 [.ref 278, .int (xI w 283 z &&& 255)] (r.toList ++ []) u2 P) (w := v) (a := z) hM1 q3 h12 (by rw [q4]; exact hR) q2 (e - z) 0 (by omega)
        rw [Nat.add_zero, q4, ← dN] at hl
        have s0 : xIs (mHm v z (N - z)) 278 11 := hM1.1
        have s4 : xI (mHm v z (N - z)) 278 11 = nI (z + (N - z)) := rfl
        have s3 : xI (mHm v z (N - z)) 278 13 = nI z := q2
        have sb : nI (z + (N - z)) - nI z = nI (N - z) := by rw [subI (by omega) (by omega)]; congr 1; omega
        simp only [r177_42, r177_43, r177_44, r177_47, r177_50, r177_51, r177_52, r177_53, r177_56, r177_57, r177_58, r177_61, r177_64, r177_65, r177_67, r177_69, r177_72, r177_82, r177_83, r177_85, r177_87, r177_90, r177_93, r177_94, hM1.1, q1, bt, ne1, in_run, be, be2, decide_eq_false c1', decide_eq_true c2', bI_t, bI_f, r179_0, r179_1, r179_2, e0, hl, true_and, and_true, Option.some.injEq, exists_eq_left', Option.toList_some, Option.toList_none, List.cons_append, List.nil_append, xcat_nil, xcat_int, xcat_ref, xcat_long, not_true, not_false_iff, if_true, if_false, and_self, and_false, false_and, or_true, true_or, or_self, z01, z10, zle8, Nat.reduceAdd, Nat.reduceLeDiff]
        have hn : Nx w (mHm v z (N - z)) := hN.tr ((Nx.sI (by omega)).tr (Nx.sI (by omega)))
        have f14 : xI (mHm v z (N - z)) 278 14 = fWh (xI w 283) z (min (N - z) 4) := by rw [← q4]; rfl
        have f11 : xI (mHm v z (N - z)) 278 11 = nI N := by rw [s4]; congr 1; omega
        by_cases c : N - z ≤ 4
        · have c' : nI (N - z) ≤ 4 := nI_le (a := N - z) (b := 4) c (by omega)
          simp only [r179_72, r179_73, r179_74, r179_77, r179_78, r179_81, r179_82, r179_83, r179_86, r179_87, r179_90, r179_91, r179_94, r177_97, r177_105, s0, s4, s3, sb, c', true_and, and_true, Option.some.injEq, exists_eq_left', Option.toList_some, Option.toList_none, List.cons_append, List.nil_append, xcat_nil, xcat_int, xcat_ref, xcat_long, not_true, not_false_iff, if_true, if_false, and_self, and_false, false_and, or_true, true_or, or_self, z01, z10, zle8, Nat.reduceAdd, Nat.reduceLeDiff]
          exact hP _ (hn.tr (Nx.sI (by omega))) s3 f11 (by rw [if_pos c]; rfl) (fun q => by cases q) (fun _ => f14)
        · have c' : ¬ nI (N - z) ≤ 4 := nI_ge (a := 4) (b := N - z) (by omega) (by omega)
          simp only [r179_72, r179_73, r179_74, r179_77, r179_78, r179_81, r179_82, r179_83, r179_86, r179_87, r179_90, r179_91, r179_94, r177_97, r177_105, s0, s4, s3, sb, c', true_and, and_true, Option.some.injEq, exists_eq_left', Option.toList_some, Option.toList_none, List.cons_append, List.nil_append, xcat_nil, xcat_int, xcat_ref, xcat_long, not_true, not_false_iff, if_true, if_false, and_self, and_false, false_and, or_true, true_or, or_self, z01, z10, zle8, Nat.reduceAdd, Nat.reduceLeDiff]
          exact hP _ (hn.tr (Nx.sI (by omega))) s3 f11 (by rw [if_neg c]; rfl) (fun q => by cases q) (fun _ => f14)
      · have c2' : ¬ (48 ≤ xI w 283 z ∧ xI w 283 z ≤ 57) := fun q => c2 (decide_eq_true q)
        have f2 : qDg (xI w 283) z = false := Bool.eq_false_iff.mpr c2
        rw [if_neg c2] at dN
        rw [f2, if_neg (by decide)] at hP
        by_cases c3 : xI w 283 z = 59
        · rw [if_pos c3] at dN
          rw [if_pos c3] at hP
          subst dN
          have w0 : xIs (xsI v 278 12 4) 278 11 := hM1.1
          have w1 : xI (xsI v 278 12 4) 278 11 = nI z := q1
          have c3' : (xI w 283 z &&& 255) = 59 := by rw [be3]; exact c3
          rw [c3'] at bt be be2
          simp (disch := omega) only [r177_42, r177_43, r177_44, r177_47, r177_50, r177_51, r177_52, r177_53, r177_56, r177_57, r177_58, r177_61, r177_64, r177_65, r177_67, r177_69, r177_72, r177_82, r177_83, r177_85, r177_87, r177_90, r177_100, r177_101, r177_102, r177_105, r180_0, r180_1, r180_2, r180_4, r180_7, r180_8, r180_11, r180_12, r180_15, r180_16, r180_18, r180_21, r180_22, r180_23, r180_26, r180_27, r180_28, r180_31, hM1.1, q1, bt, show ¬ (59 : Int32) = -1 by decide, in_run, show ¬ ((97 : Int32) ≤ 59 ∧ (59 : Int32) ≤ 122) by decide, show ¬ ((48 : Int32) ≤ 59 ∧ (59 : Int32) ≤ 57) by decide, decide_false, bI_f, w0, w1, xinbT, xixT, leT, leF, ltT, ltF, ngF, psT, n1F, n2F, km2, km3, km4, km5, km10, km15, km25, kl8, kl14, kl24, kl34, kl274, kl354, kl384, kr1, kr2, kr3, kr4, kr5, kr6, kr7, kr8, kr9, kaa, lb0, lb1, lb2, lb3, lb4, lb5, lb6, lb7, li0, li1, li2, li3, li4, li5, li6, li7, true_and, and_true, Option.some.injEq, exists_eq_left', Option.toList_some, Option.toList_none, List.cons_append, List.nil_append, xcat_nil, xcat_int, xcat_ref, xcat_long, not_true, not_false_iff, if_true, if_false, and_self, and_false, false_and, or_true, true_or, or_self, z01, z10, zle8, Nat.reduceAdd, Nat.reduceLeDiff]
          exact hP _ (hN.tr ((Nx.sI (by omega)).tr (Nx.sI (by omega)))) q2 rfl rfl (fun q => by cases q) (fun q => by cases q)
        · rw [if_neg c3] at dN
          rw [if_neg c3] at hP
          subst dN
          simp only [r177_42, r177_43, r177_44, r177_47, r177_50, r177_51, r177_52, r177_53, r177_56, r177_57, r177_58, r177_61, r177_64, r177_65, r177_67, r177_69, r177_72, r177_82, r177_83, r177_85, r177_87, r177_90, r177_100, r177_101, r177_102, r177_105, r180_0, r180_1, r180_2, r180_4, r180_7, r180_8, r180_11, r180_12, r180_15, r180_16, r180_18, r180_21, r180_22, r180_23, r180_26, r180_27, r180_28, r180_31, hM1.1, q1, bt, ne1, in_run, be, be2, be3, c3, decide_eq_false c1', decide_eq_false c2', bI_f, true_and, and_true, Option.some.injEq, exists_eq_left', Option.toList_some, Option.toList_none, List.cons_append, List.nil_append, xcat_nil, xcat_int, xcat_ref, xcat_long, not_true, not_false_iff, if_true, if_false, and_self, and_false, false_and, or_true, true_or, or_self, z01, z10, zle8, Nat.reduceAdd, Nat.reduceLeDiff]
          exact hP _ (hN.tr (Nx.sI (by omega))) q2 q1 rfl (fun q => by cases q) (fun q => by cases q)
end
