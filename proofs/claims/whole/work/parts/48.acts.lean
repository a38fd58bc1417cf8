/-! ACTS: kept, the first forgotten; filings made and dropped -/
section
variable {u w : xMem} {P : Option Value → xMem → Prop} {n nf : Nat} {x y k d : Int32}
theorem forget_run (h : sAc u 269) (h8 : xI u 269 0 = 8) : zr 5 0 [.ref 269, .null] [] u P = P none (mFg u 7) := by
  have lp : ∀ r i, i + r = 7 → zr 5 12 [.ref 269, .int (nI i)] [] (mFg u i) P = P none (mFg u 7) := by
    intro r
    obtain ⟨h0, ⟨e1, e2, e3⟩, ⟨i1, n1⟩, ⟨i2, n2⟩, ⟨i3, n3⟩⟩ := h
    induction r with
    | zero =>
      intro i hi
      have : i = 7 := by omega
      subst this
      obtain ⟨g1, g2, g3, g4, g5⟩ := mFg_at u 7
      have s1 : xIs (mFg u 7) 269 0 = xIs u 269 0 := by unfold xIs xW xK; rw [g1, g2]
      rw [r5_12]
      simp only [r5_13, r5_14, r5_17, r5_68, s1, h0, g3, if_pos (show (7 : Int32) ≤ nI 7 by decide), true_and, and_true, Option.some.injEq, exists_eq_left', Option.toList_some, Option.toList_none, List.cons_append, List.nil_append, xcat_nil, xcat_int, xcat_ref, xcat_long, not_true, not_false_iff, if_true, if_false, and_self, and_false, false_and, or_true, true_or, or_self, z01, z10, zle8, Nat.reduceAdd, Nat.reduceLeDiff]
    | succ r ih =>
      intro i hi
      obtain ⟨g1, g2, g3, g4, g5⟩ := mFg_at u i
      have s1 : ∀ {a c}, xIs (mFg u i) a c = xIs u a c := by intro a c; unfold xIs xW xK; rw [g1, g2]
      have s2 : ∀ {a c}, xR (mFg u i) a c = xR u a c := by intro a c; unfold xR; rw [g2]
      have s3 : ∀ {a}, xN (mFg u i) a = xN u a := by intro a; unfold xN; rw [g2]
      have q0 : ¬ (7 : Int32) ≤ nI i := nI_ge (b := 7) (by omega) (by omega)
      have q1 : xinb (nI i) 8 := xinb_nI (by omega) (by omega)
      have q2 : xix (nI i) = i := xix_nI (by omega)
      have q3 : xinb (nI (i + 1)) 8 := xinb_nI (by omega) (by omega)
      have q4 : xix (nI (i + 1)) = i + 1 := xix_nI (by omega)
      have f1 := g5 270 (by omega) (i + 1)
      have f2 := g5 271 (by omega) (i + 1)
      have f3 := g5 272 (by omega) (i + 1)
      rw [if_neg (by omega)] at f1 f2 f3
      have ih := ih (i + 1) (by omega)
      simp only [mFg] at ih
      have e1 : xR u 269 1 = some 270 := e1
      have e2 : xR u 269 2 = some 271 := e2
      have e3 : xR u 269 3 = some 272 := e3
      have i1 : xIs u 270 13 := i1
      have i2 : xIs u 271 13 := i2
      have i3 : xIs u 272 13 := i3
      have n1 : xN u 270 = 8 := n1
      have n2 : xN u 271 = 8 := n2
      have n3 : xN u 272 = 8 := n3
      rw [r5_12]
      simp only [r5_13, r5_14, r5_17, r5_20, r5_21, r5_24, r5_25, r5_26, r5_29, r5_30, r5_31, r5_32, r5_33, r5_34, r5_35, r5_38, r5_39, r5_40, r5_43, r5_44, r5_45, r5_46, r5_47, r5_48, r5_49, r5_52, r5_53, r5_54, r5_57, r5_58, r5_59, r5_60, r5_61, r5_62, r5_65, xIs_sI, xR_sI, xN_sI, xI_sI, s1, s2, s3, h0, g3, e1, e2, e3, i1, i2, i3, n1, n2, n3, q0, q1, q2, q3, q4, nI_1, f1, f2, f3, Nat.reduceEqDiff, true_and, and_true, Option.some.injEq, exists_eq_left', Option.toList_some, Option.toList_none, List.cons_append, List.nil_append, xcat_nil, xcat_int, xcat_ref, xcat_long, not_true, not_false_iff, if_true, if_false, and_self, and_false, false_and, or_true, true_or, or_self, z01, z10, zle8, Nat.reduceAdd, Nat.reduceLeDiff]
      exact ih
  have e7 : (8 : Int32) - 1 = 7 := by decide
  have := lp 7 0 (by omega)
  simp only [r5_0, r5_1, r5_2, r5_5, r5_6, r5_7, r5_10, r5_11, h.1, h8, e7, true_and, and_true, Option.some.injEq, exists_eq_left', Option.toList_some, Option.toList_none, List.cons_append, List.nil_append, xcat_nil, xcat_int, xcat_ref, xcat_long, not_true, not_false_iff, if_true, if_false, and_self, and_false, false_and, or_true, true_or, or_self, z01, z10, zle8, Nat.reduceAdd, Nat.reduceLeDiff]
  exact this
/-- the acts after one more -/
def mKeep (u : xMem) (n : Nat) (k x y : Int32) : xMem := if n = 8 then mAct (mFg u 7) 7 k x y else mAct u n k x y
theorem act_run (h : sAc u 269) (hn : xI u 269 0 = nI n) (h8 : n < 8) : zr 4 13 [.ref 269, .int k, .int x, .int y] [] u P = P none (mAct u n k x y) := by
  obtain ⟨h0, ⟨e1, e2, e3⟩, ⟨i1, n1⟩, ⟨i2, n2⟩, ⟨i3, n3⟩⟩ := h
  have e1 : xR u 269 1 = some 270 := e1
  have e2 : xR u 269 2 = some 271 := e2
  have e3 : xR u 269 3 = some 272 := e3
  have i1 : xIs u 270 13 := i1
  have i2 : xIs u 271 13 := i2
  have i3 : xIs u 272 13 := i3
  have n1 : xN u 270 = 8 := n1
  have n2 : xN u 271 = 8 := n2
  have n3 : xN u 272 = 8 := n3
  have q1 : xinb (nI n) 8 := xinb_nI (by omega) (by omega)
  have q2 : xix (nI n) = n := xix_nI (by omega)
  simp only [r4_13, r4_14, r4_17, r4_18, r4_21, r4_22, r4_23, r4_24, r4_27, r4_28, r4_31, r4_32, r4_33, r4_34, r4_37, r4_38, r4_41, r4_42, r4_43, r4_44, r4_45, r4_48, r4_49, r4_50, r4_53, xIs_sI, xR_sI, xN_sI, xI_sI, h0, hn, e1, e2, e3, i1, i2, i3, n1, n2, n3, q1, q2, nI_1, mAct, Nat.reduceEqDiff, true_and, and_true, Option.some.injEq, exists_eq_left', Option.toList_some, Option.toList_none, List.cons_append, List.nil_append, xcat_nil, xcat_int, xcat_ref, xcat_long, not_true, not_false_iff, if_true, if_false, and_self, and_false, false_and, or_true, true_or, or_self, z01, z10, zle8, Nat.reduceAdd, Nat.reduceLeDiff]
theorem keep_run (h : sAc u 269) (hn : xI u 269 0 = nI n) (h8 : n ≤ 8) : zr 4 0 [.ref 269, .int k, .int x, .int y] [] u P = P none (mKeep u n k x y) := by
  by_cases c : n = 8
  · subst c
    have hf := fun P => forget_run (P := P) h hn
    have hx : xI u 269 0 = 8 := hn
    obtain ⟨g1, g2, g3, g4, g5⟩ := mFg_at u 7
    have hs : sAc (mFg u 7) 269 := by
      have : mFg u 7 = (u.1, (mFg u 7).2.1, u.2.2) := Prod.ext g1 (Prod.ext rfl g2)
      rw [this]
      exact h
    have ha := fun P => act_run (k := k) (x := x) (y := y) (P := P) hs (n := 7) (by rw [g3]; rfl) (by omega)
    simp only [r4_0, r4_1, r4_4, r4_6, r4_9, r4_10, h.1, hx, hf, ha, mKeep, true_and, and_true, Option.some.injEq, exists_eq_left', Option.toList_some, Option.toList_none, List.cons_append, List.nil_append, xcat_nil, xcat_int, xcat_ref, xcat_long, not_true, not_false_iff, if_true, if_false, and_self, and_false, false_and, or_true, true_or, or_self, z01, z10, zle8, Nat.reduceAdd, Nat.reduceLeDiff]
  · have hx : ¬ nI n = 8 := fun q => c ((nI_eq (b := 8) (by omega) (by omega)).mp q)
    have ha := fun P => act_run (k := k) (x := x) (y := y) (P := P) h hn (by omega)
    simp only [r4_0, r4_1, r4_4, r4_6, r4_9, r4_10, h.1, hn, hx, ha, mKeep, c, true_and, and_true, Option.some.injEq, exists_eq_left', Option.toList_some, Option.toList_none, List.cons_append, List.nil_append, xcat_nil, xcat_int, xcat_ref, xcat_long, not_true, not_false_iff, if_true, if_false, and_self, and_false, false_and, or_true, true_or, or_self, z01, z10, zle8, Nat.reduceAdd, Nat.reduceLeDiff]
/-! filings -/
/-- filing nf paid: the first i places -/
def mFp (u : xMem) (d : Int32) (n nf : Nat) (i : Nat) : xMem := (u.1, (fun b j => if b = 65 ∧ 10 * nf ≤ j ∧ j < 10 * nf + i then fUp2 u d (nI (j - 10 * nf)) n nf else u.2.1 b j), u.2.2)
end
