/-! BOUNDS read, lines, the whole text, by the class -/
section
variable {g v w : xMem} {P : Option Value → xMem → Prop} {e a b E s nl np nb nc nr nh nk n r k : Nat} {x y p c d lo hi : Int32}
theorem Ca.put {i : Nat} (h : Ca g E s nl np nb nc nr nh nk) : Ca (mPut g (E + 4) n i x y) E s nl np nb nc nr nh nk := by
  refine ⟨?_, h.2.1.mv rfl rfl (fun c hc => ?_), h.2.2⟩
  · rcases h.2.2 with rfl | rfl
    · exact ⟨h.1.1, h.1.2⟩
    · exact ⟨h.1.1, h.1.2⟩
  · unfold mPut
    rw [xIf_sI (by omega), xIf_sI (by omega)]
def cCor (E nb : Nat) (sz : Int32) : Nat → Nat → xMem → Int32 × xMem
  | 0, i, g => (nI i, g)
  | r + 1, i, g => if i < 3 ∨ xI g 2 5 = 2 then
      (if 0 ≤ (cWhole g 0 sz).1 then (if 0 ≤ (cWhole (cWhole g 0 sz).2 0 sz).1 then cCor E nb sz r (i + 1) (mPut (cWhole (cWhole g 0 sz).2 0 sz).2 (E + 4) nb i (cWhole g 0 sz).1 (cWhole (cWhole g 0 sz).2 0 sz).1) else (-1, (cWhole (cWhole g 0 sz).2 0 sz).2)) else (-1, (cWhole g 0 sz).2)) else (nI i, g)
theorem corners_loop (hb16 : nb < 16) : ∀ r i g v3 v4, i + r = 6 → Ca g E s nl np nb nc nr nh nk → zr 77 2 [.ref 1, .ref (E + 4), .int (nI i), v3, v4] [] g P = P (some (.int (cCor E nb (nI s) r i g).1)) (cCor E nb (nI s) r i g).2 := by
  intro r
  induction r with
  | zero =>
    intro i g v3 v4 hi h
    have : i = 6 := by omega
    subst this
    rw [r77_2]
    simp only [r77_3, r77_5, r77_84, r77_85, show (6 : Int32) ≤ nI 6 by decide, cCor, true_and, and_true, Option.some.injEq, exists_eq_left', Option.toList_some, Option.toList_none, List.cons_append, List.nil_append, xcat_nil, xcat_int, xcat_ref, xcat_long, not_true, not_false_iff, if_true, if_false, and_self, and_false, false_and, or_true, true_or, or_self, z01, z10, zle8, Nat.reduceAdd, Nat.reduceLeDiff]
  | succ r ih =>
    intro i g v3 v4 hi h
    have q6 : ¬ (6 : Int32) ≤ nI i := nI_ge (a := i) (b := 6) (by omega) (by omega)
    have q3 : (nI i < 3) = (i < 3) := propext (nI_ltI (a := i) (b := 3) (by omega) (by omega))
    obtain ⟨e, a, b, q⟩ := h.1.2
    have hgo : i < 3 ∨ xI g 2 5 = 2 → zr 77 2 [.ref 1, .ref (E + 4), .int (nI i), v3, v4] [] g P = zr 77 24 [.ref 1, .ref (E + 4), .int (nI i), v3, v4] [] g P := by
      intro c
      rw [r77_2]
      simp only [r77_3, r77_5, r77_8, r77_9, r77_10, r77_13, r77_14, r77_17, r77_20, r77_21, q6, q3, h.1.1.1, h.1.1.2.1.1, q.1.1, true_and, and_true, Option.some.injEq, exists_eq_left', Option.toList_some, Option.toList_none, List.cons_append, List.nil_append, xcat_nil, xcat_int, xcat_ref, xcat_long, not_true, not_false_iff, if_true, if_false, and_self, and_false, false_and, or_true, true_or, or_self, z01, z10, zle8, Nat.reduceAdd, Nat.reduceLeDiff]
      by_cases c3 : i < 3
      · simp only [c3, true_and, and_true, Option.some.injEq, exists_eq_left', Option.toList_some, Option.toList_none, List.cons_append, List.nil_append, xcat_nil, xcat_int, xcat_ref, xcat_long, not_true, not_false_iff, if_true, if_false, and_self, and_false, false_and, or_true, true_or, or_self, z01, z10, zle8, Nat.reduceAdd, Nat.reduceLeDiff]
      · have c5 : xI g 2 5 = 2 := c.resolve_left c3
        simp only [c3, c5, true_and, and_true, Option.some.injEq, exists_eq_left', Option.toList_some, Option.toList_none, List.cons_append, List.nil_append, xcat_nil, xcat_int, xcat_ref, xcat_long, not_true, not_false_iff, if_true, if_false, and_self, and_false, false_and, or_true, true_or, or_self, z01, z10, zle8, Nat.reduceAdd, Nat.reduceLeDiff]
    unfold cCor
    by_cases c : i < 3 ∨ xI g 2 5 = 2
    · rw [if_pos c, hgo c]
      obtain ⟨⟨f1, f2, f3⟩, ⟨f4, f5, f6, f7, -⟩, -⟩ := h.2.1.cf
      have hs := h.2.1.2.1.1
      have w1 := fun P => readWhole_run (P := P) (lo := 0) (hi := nI s) h.1
      have h1 := h.whole (lo := 0) (hi := nI s)
      generalize cWhole g 0 (nI s) = a1 at *
      simp only [r77_24, r77_25, r77_26, r77_27, r77_30, r77_33, r77_36, r77_39, r77_40, h.1.1.1, h.1.1.2.1.2.2.2, f1, f2, f4, hs, w1, true_and, and_true, Option.some.injEq, exists_eq_left', Option.toList_some, Option.toList_none, List.cons_append, List.nil_append, xcat_nil, xcat_int, xcat_ref, xcat_long, not_true, not_false_iff, if_true, if_false, and_self, and_false, false_and, or_true, true_or, or_self, z01, z10, zle8, Nat.reduceAdd, Nat.reduceLeDiff]
      by_cases c1 : 0 ≤ a1.1
      · rw [if_pos c1]
        obtain ⟨⟨f1, f2, f3⟩, ⟨f4, f5, f6, f7, -⟩, -⟩ := h1.2.1.cf
        have hs := h1.2.1.2.1.1
        have w2 := fun P => readWhole_run (P := P) (lo := 0) (hi := nI s) h1.1
        have h2 := h1.whole (lo := 0) (hi := nI s)
        generalize cWhole a1.2 0 (nI s) = a2 at *
        simp only [r77_41, r77_44, r77_45, r77_46, r77_47, r77_48, r77_49, r77_52, r77_55, r77_58, r77_61, r77_63, c1, h1.1.1.1, h1.1.1.2.1.2.2.2, f1, f2, f4, hs, w2, true_and, and_true, Option.some.injEq, exists_eq_left', Option.toList_some, Option.toList_none, List.cons_append, List.nil_append, xcat_nil, xcat_int, xcat_ref, xcat_long, not_true, not_false_iff, if_true, if_false, and_self, and_false, false_and, or_true, true_or, or_self, z01, z10, zle8, Nat.reduceAdd, Nat.reduceLeDiff]
        by_cases c2 : 0 ≤ a2.1
        · rw [if_pos c2]
          have h3 := h2.put (n := nb) (i := i) (x := a1.1) (y := a2.1)
          have w3 := fun P => putCorner_run (P := P) (x := a1.1) (y := a2.1) h2.2.1.sb h2.2.1.2.2.2.2.1.1 hb16 (i := i) (by omega)
          have ih := ih (i + 1) _ (.int a1.1) (.int a2.1) (by omega) h3
          simp (disch := omega) only [r77_65, r77_68, r77_69, r77_70, r77_71, r77_72, r77_73, r77_75, r77_78, r77_81, c2, h2.2.1.sb.1, w3, ih, xinbT, xixT, leT, leF, ltT, ltF, ngF, psT, n1F, n2F, km2, km3, km4, km5, km10, km15, km25, kl8, kl14, kl24, kl34, kl274, kl354, kl384, kr1, kr2, kr3, kr4, kr5, kr6, kr7, kr8, kr9, kaa, lb0, lb1, lb2, lb3, lb4, lb5, lb6, lb7, li0, li1, li2, li3, li4, li5, li6, li7, true_and, and_true, Option.some.injEq, exists_eq_left', Option.toList_some, Option.toList_none, List.cons_append, List.nil_append, xcat_nil, xcat_int, xcat_ref, xcat_long, not_true, not_false_iff, if_true, if_false, and_self, and_false, false_and, or_true, true_or, or_self, z01, z10, zle8, Nat.reduceAdd, Nat.reduceLeDiff]
        · rw [if_neg c2]
          simp only [r77_65, r77_68, r77_69, c2, true_and, and_true, Option.some.injEq, exists_eq_left', Option.toList_some, Option.toList_none, List.cons_append, List.nil_append, xcat_nil, xcat_int, xcat_ref, xcat_long, not_true, not_false_iff, if_true, if_false, and_self, and_false, false_and, or_true, true_or, or_self, z01, z10, zle8, Nat.reduceAdd, Nat.reduceLeDiff]
      · rw [if_neg c1]
        simp only [r77_41, r77_44, r77_45, c1, true_and, and_true, Option.some.injEq, exists_eq_left', Option.toList_some, Option.toList_none, List.cons_append, List.nil_append, xcat_nil, xcat_int, xcat_ref, xcat_long, not_true, not_false_iff, if_true, if_false, and_self, and_false, false_and, or_true, true_or, or_self, z01, z10, zle8, Nat.reduceAdd, Nat.reduceLeDiff]
    · rw [if_neg c]
      have c3 : ¬ i < 3 := fun z => c (Or.inl z)
      have c5 : ¬ xI g 2 5 = 2 := fun z => c (Or.inr z)
      rw [r77_2]
      simp only [r77_3, r77_5, r77_8, r77_9, r77_10, r77_13, r77_14, r77_17, r77_20, r77_21, r77_84, r77_85, q6, q3, h.1.1.1, h.1.1.2.1.1, q.1.1, c3, c5, true_and, and_true, Option.some.injEq, exists_eq_left', Option.toList_some, Option.toList_none, List.cons_append, List.nil_append, xcat_nil, xcat_int, xcat_ref, xcat_long, not_true, not_false_iff, if_true, if_false, and_self, and_false, false_and, or_true, true_or, or_self, z01, z10, zle8, Nat.reduceAdd, Nat.reduceLeDiff]
def cBound (g : xMem) (E np nb s : Nat) : Bool × xMem := thI (cName g 5 np) fun p m => thI (cWhole m (fNf (xI m (E + 5)) (xI m (E + 6)) p nb) 999) fun d m => if cSay m 9 = true then (true, mAdd (nxt m) (E + 4) nb p d 0) else thI (cCor E nb (nI s) 6 0 m) fun n m => (true, mAdd m (E + 4) nb p d n)
theorem cCor_ca : ∀ r i g, Ca g E s nl np nb nc nr nh nk → Ca (cCor E nb (nI s) r i g).2 E s nl np nb nc nr nh nk := by
  intro r
  induction r with
  | zero => intro i g h; exact h
  | succ r ih =>
    intro i g h
    unfold cCor
    split
    · split
      · split
        · exact ih (i + 1) _ (h.whole.whole.put)
        · exact h.whole.whole
      · exact h.whole
    · exact h
theorem readBound_run (h : Ca g E s nl np nb nc nr nh nk) (h6 : nb < 16) : zr 76 0 [.ref 1, .null, .null, .null, .null] [] g P = P (some (.int (bI (cBound g E np nb s).1))) (cBound g E np nb s).2 := by
  have hb := h.2.1.b
  obtain ⟨⟨f1, f2, f3⟩, ⟨f4, f5, f6, f7, -⟩, -⟩ := h.2.1.cf
  have w1 := fun P => readName_run (P := P) (n := np) h.1 h.1.1.2.2.2 (by omega) hb.2.2.1
  have h1 := h.name (A := 5) (n := np)
  have hnp := h.2.1.2.2.2.1.1
  unfold cBound
  generalize cName g 5 np = a1 at *
  simp only [r76_0, r76_1, r76_4, r76_7, r76_10, r76_11, r76_12, r76_13, r76_16, r76_17, r76_20, r76_23, r76_26, r76_29, r76_30, h.1.1.1, h.1.1.2.1.2.2.1, h.1.1.2.1.2.2.2, f1, f2, f4, f7, hnp, w1, true_and, and_true, Option.some.injEq, exists_eq_left', Option.toList_some, Option.toList_none, List.cons_append, List.nil_append, xcat_nil, xcat_int, xcat_ref, xcat_long, not_true, not_false_iff, if_true, if_false, and_self, and_false, false_and, or_true, true_or, or_self, z01, z10, zle8, Nat.reduceAdd, Nat.reduceLeDiff]
  by_cases c1 : 0 ≤ a1.1
  · rw [thI_t c1]
    have w2 : ∀ P, zr 20 0 [.ref (E + 4), .int a1.1, .null] [] a1.2 P = P (some (.int (fNf (xI a1.2 (E + 5)) (xI a1.2 (E + 6)) a1.1 nb))) a1.2 := fun P => nextFree_D h1.2.1
    have i2 : xIs a1.2 (E + 4) 2 := h1.2.1.sb.1
    have w3 := fun lo P => readWhole_run (P := P) (lo := lo) (hi := 999) h1.1
    generalize fNf (xI a1.2 (E + 5)) (xI a1.2 (E + 6)) a1.1 nb = lo at *
    have w3 := w3 lo
    have h2 := h1.whole (lo := lo) (hi := 999)
    generalize cWhole a1.2 lo 999 = a2 at *
    simp only [r76_31, r76_34, r76_35, r76_36, r76_37, r76_38, r76_39, r76_42, r76_45, r76_48, r76_49, c1, h1.1.1.1, i2, w2, w3, true_and, and_true, Option.some.injEq, exists_eq_left', Option.toList_some, Option.toList_none, List.cons_append, List.nil_append, xcat_nil, xcat_int, xcat_ref, xcat_long, not_true, not_false_iff, if_true, if_false, and_self, and_false, false_and, or_true, true_or, or_self, z01, z10, zle8, Nat.reduceAdd, Nat.reduceLeDiff]
    by_cases c2 : 0 ≤ a2.1
    · rw [thI_t c2]
      obtain ⟨e, a, b, q⟩ := h2.1.2
      have w4 := fun P => says_run (P := P) (r := 1000009) (k := 9) rfl (by omega) q
      simp only [r76_50, r76_53, r76_54, r76_55, r76_56, r76_58, r76_59, r76_62, r76_64, c2, h2.1.1.1, h2.1.1.2.1.1, q.1.1, w4, true_and, and_true, Option.some.injEq, exists_eq_left', Option.toList_some, Option.toList_none, List.cons_append, List.nil_append, xcat_nil, xcat_int, xcat_ref, xcat_long, not_true, not_false_iff, if_true, if_false, and_self, and_false, false_and, or_true, true_or, or_self, z01, z10, zle8, Nat.reduceAdd, Nat.reduceLeDiff]
      by_cases c3 : cSay a2.2 9 = true
      · rw [if_pos c3]
        have h3 := h2.nx
        have w5 := fun P => badd_run (P := P) (p := a1.1) (d := a2.1) (m := 0) h3.2.1.sb h3.2.1.2.2.2.2.1.1 h6
        have i3 : xIs (nxt a2.2) (E + 4) 2 := h3.2.1.sb.1
        simp only [r76_67, r76_70, r76_71, r76_74, r76_77, r76_87, r76_89, r76_92, r76_93, r76_94, r76_95, r76_96, r76_97, r76_99, r76_102, r76_103, c3, bI_t, h2.1.1.1, h2.1.1.2.1.1, q.1.1, nxt_run h2.1, w5, i3, show (0 : Int32) ≤ 0 by decide, or_true, true_and, and_true, Option.some.injEq, exists_eq_left', Option.toList_some, Option.toList_none, List.cons_append, List.nil_append, xcat_nil, xcat_int, xcat_ref, xcat_long, not_true, not_false_iff, if_true, if_false, and_self, and_false, false_and, or_true, true_or, or_self, z01, z10, zle8, Nat.reduceAdd, Nat.reduceLeDiff]
      · rw [if_neg c3]
        have w5 := fun P => corners_loop (P := P) h6 6 0 a2.2 .null .null (by omega) h2
        rw [show nI 0 = 0 from rfl] at w5
        have h3 := cCor_ca 6 0 a2.2 h2
        generalize cCor E nb (nI s) 6 0 a2.2 = a3 at *
        simp only [r76_67, r76_70, r76_71, r76_74, r76_77, r76_80, r76_81, r76_82, r76_85, r76_87, r76_89, r77_0, r77_1, Bool.eq_false_iff.mpr c3, bI_f, h2.1.1.1, w5, true_and, and_true, Option.some.injEq, exists_eq_left', Option.toList_some, Option.toList_none, List.cons_append, List.nil_append, xcat_nil, xcat_int, xcat_ref, xcat_long, not_true, not_false_iff, if_true, if_false, and_self, and_false, false_and, or_true, true_or, or_self, z01, z10, zle8, Nat.reduceAdd, Nat.reduceLeDiff]
        by_cases c4 : 0 ≤ a3.1
        · rw [thI_t c4]
          have w6 := fun P => badd_run (P := P) (p := a1.1) (d := a2.1) (m := a3.1) h3.2.1.sb h3.2.1.2.2.2.2.1.1 h6
          have i3 : xIs a3.2 (E + 4) 2 := h3.2.1.sb.1
          simp only [r76_89, r76_92, r76_93, r76_94, r76_95, r76_96, r76_97, r76_99, r76_102, r76_103, c4, w6, i3, bI_t, or_true, true_and, and_true, Option.some.injEq, exists_eq_left', Option.toList_some, Option.toList_none, List.cons_append, List.nil_append, xcat_nil, xcat_int, xcat_ref, xcat_long, not_true, not_false_iff, if_true, if_false, and_self, and_false, false_and, or_true, true_or, or_self, z01, z10, zle8, Nat.reduceAdd, Nat.reduceLeDiff]
        · rw [thI_f c4]
          simp only [r76_89, r76_92, r76_93, c4, bI_f, true_and, and_true, Option.some.injEq, exists_eq_left', Option.toList_some, Option.toList_none, List.cons_append, List.nil_append, xcat_nil, xcat_int, xcat_ref, xcat_long, not_true, not_false_iff, if_true, if_false, and_self, and_false, false_and, or_true, true_or, or_self, z01, z10, zle8, Nat.reduceAdd, Nat.reduceLeDiff]
    · rw [thI_f c2]
      simp only [r76_50, r76_53, r76_54, c2, bI_f, true_and, and_true, Option.some.injEq, exists_eq_left', Option.toList_some, Option.toList_none, List.cons_append, List.nil_append, xcat_nil, xcat_int, xcat_ref, xcat_long, not_true, not_false_iff, if_true, if_false, and_self, and_false, false_and, or_true, true_or, or_self, z01, z10, zle8, Nat.reduceAdd, Nat.reduceLeDiff]
  · rw [thI_f c1]
    simp only [r76_31, r76_34, r76_35, c1, bI_f, true_and, and_true, Option.some.injEq, exists_eq_left', Option.toList_some, Option.toList_none, List.cons_append, List.nil_append, xcat_nil, xcat_int, xcat_ref, xcat_long, not_true, not_false_iff, if_true, if_false, and_self, and_false, false_and, or_true, true_or, or_self, z01, z10, zle8, Nat.reduceAdd, Nat.reduceLeDiff]
/-! a line -/
def cLine (g : xMem) (E : Nat) : Bool × xMem :=
  if cSay g 0 = true then (if xI g 1 4 = 0 then cDesk g E else (false, flt g 3))
  else if cSay g 1 = true then thW (cStart g (xI g (E + 12) 0) 6) (fun m => cClass m E (xix (xI g (E + 12) 0)) (xix (xI g (E + 1) 2)))
  else if cSay g 2 = true then thW (cStart g (xI g (E + 1) 2) 10) (fun m => cPlace m E (xix (xI g (E + 12) 0)) (xix (xI g (E + 1) 2)) (xix (xI g (E + 1) 1)))
  else if cSay g 3 = true then thW (cStart g (xI g (E + 4) 0) 16) (fun m => cBound m E (xix (xI g (E + 1) 2)) (xix (xI g (E + 4) 0)) (xix (xI g (E + 1) 0)))
  else if cSay g 4 = true then thW (cStart g (xI g (E + 14) 0) 20) (fun m => cRate m E (xix (xI g (E + 12) 0)) (xix (xI g (E + 1) 2)) (xix (xI g (E + 14) 0)))
  else if cSay g 5 = true then thW (cStart g (xI g (E + 12) 3) 6) (fun m => cHol m E (xix (xI g (E + 12) 0)) (xix (xI g (E + 1) 2)) (xix (xI g (E + 12) 3)))
  else if cSay g 6 = true then thW (cStart g (xI g (E + 12) 9) 6) (fun m => cCap m E (xix (xI g (E + 12) 0)) (xix (xI g (E + 1) 2)) (xix (xI g (E + 12) 9)))
  else (false, flt g 1)
/-- the reader between two lines -/
def Li (g : xMem) (E : Nat) : Prop := Cs g E ∧ sDk g E ∧ (E = 6 ∨ E = 34) ∧ (xI g 1 4 = 0 ∨ xI g 1 4 = 1 ∧ ∃ s nl np nb nc nr nh nk, okD g E s nl np nb nc nr nh nk)
theorem cStart_t (h : (cStart g x y).1 = true) : ¬ xI g 1 4 = 0 ∧ ¬ y ≤ x ∧ (cStart g x y).2 = nxt g := by
  unfold cStart at h ⊢
  split at h
  · cases h
  · next c1 =>
    split at h
    · cases h
    · next c2 => rw [if_neg c1, if_neg c2]; exact ⟨c1, c2, rfl⟩
theorem sDk.cf2 (h : sDk g E) : xIs g E 3 ∧ xR g E 0 = some (E + 1) ∧ xR g E 1 = some (E + 12) ∧ xIs g (E + 1) 4 ∧ xR g (E + 1) 5 = some (E + 4) ∧ xIs g (E + 4) 2 ∧ xIs g (E + 12) 9 ∧ xR g (E + 12) 2 = some (E + 14) ∧ xIs g (E + 14) 6 := by
  obtain ⟨a1, ⟨a2, a3, -⟩, ⟨b1, ⟨-, -, b5, -⟩, -, -, ⟨c1, -⟩, -⟩, ⟨d1, ⟨-, d2, -⟩, -, ⟨d3, -⟩, -⟩, -⟩ := h
  exact ⟨a1, a2, a3, b1, b5, c1, d1, d2, d3⟩
theorem gnlt {n : Nat} (h : ¬ y ≤ nI n) {m : Nat} (hy : y = nI m) (hm : m < 2 ^ 31) (hn : n < 2 ^ 31) : n < m := by
  subst hy
  exact (nI_ltI hn hm).mp (i32_nle.mp h)
theorem readLine_run (h : Li g E) : zr 71 0 [.ref 1, .null] [] g P = P (some (.int (bI (cLine g E).1))) (cLine g E).2 := by
  obtain ⟨hc, hd, hE, hk⟩ := h
  obtain ⟨e, a, b, q⟩ := hc.2
  have hs := fun r k hr hk P => says_run (r := r) (k := k) (P := P) hr hk q
  have s0 := hs 1000000 0 rfl (by omega)
  have s1 := hs 1000001 1 rfl (by omega)
  have s2 := hs 1000002 2 rfl (by omega)
  have s3 := hs 1000003 3 rfl (by omega)
  have s4 := hs 1000004 4 rfl (by omega)
  have s5 := hs 1000005 5 rfl (by omega)
  have s6 := hs 1000006 6 rfl (by omega)
  obtain ⟨f1, f2, f3, f4, f5, f6, f7, f8, f9⟩ := hd.cf2
  obtain ⟨g0, ⟨r0, r1, r2, r3⟩, -⟩ := hc.1
  have st := fun x y P => starts_run (x := x) (y := y) (P := P) hc
  have b01 : ∀ z : Bool, (bI z = 0 ∨ bI z = 1) = True := fun z => eq_true (bI_01 z)
  unfold cLine
  by_cases c0 : cSay g 0 = true
  · rw [if_pos c0]
    by_cases cb : xI g 1 4 = 0
    · rw [if_pos cb]
      simp only [r71_0, r71_1, r71_4, r71_7, r71_8, r71_9, r71_12, r71_14, r71_17, r71_20, r71_21, r71_24, r71_27, r71_28, r71_29, r71_32, r71_35, r71_36, r71_39, g0, r0, r3, f1, f3, q.1.1, s0, c0, bI_t, cb, readDesk_run hc hd, b01, true_and, and_true, Option.some.injEq, exists_eq_left', Option.toList_some, Option.toList_none, List.cons_append, List.nil_append, xcat_nil, xcat_int, xcat_ref, xcat_long, not_true, not_false_iff, if_true, if_false, and_self, and_false, false_and, or_true, true_or, or_self, z01, z10, zle8, Nat.reduceAdd, Nat.reduceLeDiff]
    · rw [if_neg cb]
      simp only [r71_0, r71_1, r71_4, r71_7, r71_8, r71_9, r71_12, r71_14, r71_17, r71_20, r71_21, r71_24, r71_27, r71_28, r71_29, r71_32, r71_35, r71_36, r71_39, g0, r0, r3, f1, f3, q.1.1, s0, c0, bI_t, cb, fails_run hc, bI_f, true_and, and_true, Option.some.injEq, exists_eq_left', Option.toList_some, Option.toList_none, List.cons_append, List.nil_append, xcat_nil, xcat_int, xcat_ref, xcat_long, not_true, not_false_iff, if_true, if_false, and_self, and_false, false_and, or_true, true_or, or_self, z01, z10, zle8, Nat.reduceAdd, Nat.reduceLeDiff]
  rw [if_neg c0]
  have c0 := Bool.eq_false_iff.mpr c0
  -- the rows up to the second word
  by_cases c1 : cSay g 1 = true
  · rw [if_pos c1]
    have k1 := cStart_t (g := g) (x := xI g (E + 12) 0) (y := 6)
    have i1 := hc.start (x := xI g (E + 12) 0) (y := 6)
    have kp1 := kp_start (g := g) (x := xI g (E + 12) 0) (y := 6)
    simp only [r71_0, r71_1, r71_4, r71_7, r71_8, r71_9, r71_12, r71_14, r71_17, r71_40, r71_41, r71_44, r71_46, r71_49, r71_52, r71_53, r71_54, r71_57, r71_59, g0, r0, r3, f1, f3, f7, q.1.1, s0, c0, s1, c1, bI_t, bI_f, st, true_and, and_true, Option.some.injEq, exists_eq_left', Option.toList_some, Option.toList_none, List.cons_append, List.nil_append, xcat_nil, xcat_int, xcat_ref, xcat_long, not_true, not_false_iff, if_true, if_false, and_self, and_false, false_and, or_true, true_or, or_self, z01, z10, zle8, Nat.reduceAdd, Nat.reduceLeDiff]
    generalize cStart g (xI g (E + 12) 0) 6 = a1 at *
    by_cases d1 : a1.1 = true
    · rw [thW_t d1]
      obtain ⟨t1, t2, t3⟩ := k1 d1
      obtain ⟨z1, s, nl, np, nb, nc, nr, nh, nk, ok⟩ := hk.resolve_left t1
      have hb := ok.b
      have ew : xI g (E + 12) 0 = nI nc := ok.2.2.2.2.2.1.1
      have ep : xI g (E + 1) 2 = nI np := ok.2.2.2.1.1
      rw [ew, ep, xix_nI (by omega), xix_nI (by omega)]
      rw [ew] at t2
      have hca : Ca a1.2 E s nl np nb nc nr nh nk := ⟨i1, kp1.okD hE ok, hE⟩
      have w := fun P => readClass_run (P := P) hca (gnlt t2 (m := 6) rfl (by omega) (by omega))
      simp only [r71_62, r71_65, r71_66, r71_69, r71_72, r71_73, r71_76, r71_77, d1, bI_t, i1.1.1, w, b01, true_and, and_true, Option.some.injEq, exists_eq_left', Option.toList_some, Option.toList_none, List.cons_append, List.nil_append, xcat_nil, xcat_int, xcat_ref, xcat_long, not_true, not_false_iff, if_true, if_false, and_self, and_false, false_and, or_true, true_or, or_self, z01, z10, zle8, Nat.reduceAdd, Nat.reduceLeDiff]
      cases (cClass a1.2 E nc np).1 <;> simp only [bI_t, bI_f, true_and, and_true, Option.some.injEq, exists_eq_left', Option.toList_some, Option.toList_none, List.cons_append, List.nil_append, xcat_nil, xcat_int, xcat_ref, xcat_long, not_true, not_false_iff, if_true, if_false, and_self, and_false, false_and, or_true, true_or, or_self, z01, z10, zle8, Nat.reduceAdd, Nat.reduceLeDiff]
    · rw [thW_f d1]
      simp only [r71_62, r71_65, r71_66, r71_69, r71_72, r71_73, r71_76, r71_77, Bool.eq_false_iff.mpr d1, bI_f, true_and, and_true, Option.some.injEq, exists_eq_left', Option.toList_some, Option.toList_none, List.cons_append, List.nil_append, xcat_nil, xcat_int, xcat_ref, xcat_long, not_true, not_false_iff, if_true, if_false, and_self, and_false, false_and, or_true, true_or, or_self, z01, z10, zle8, Nat.reduceAdd, Nat.reduceLeDiff]
  rw [if_neg c1]
  have c1 := Bool.eq_false_iff.mpr c1
  by_cases c2 : cSay g 2 = true
  · rw [if_pos c2]
    have k1 := cStart_t (g := g) (x := xI g (E + 1) 2) (y := 10)
    have i1 := hc.start (x := xI g (E + 1) 2) (y := 10)
    have kp1 := kp_start (g := g) (x := xI g (E + 1) 2) (y := 10)
    simp only [r71_0, r71_1, r71_4, r71_7, r71_8, r71_9, r71_12, r71_14, r71_17, r71_40, r71_41, r71_44, r71_46, r71_49, r71_78, r71_79, r71_82, r71_84, r71_87, r71_90, r71_91, r71_92, r71_95, r71_98, r71_101, r71_103, g0, r0, r3, f1, f2, f3, f4, f7, q.1.1, s0, c0, s1, c1, s2, c2, bI_t, bI_f, st, true_and, and_true, Option.some.injEq, exists_eq_left', Option.toList_some, Option.toList_none, List.cons_append, List.nil_append, xcat_nil, xcat_int, xcat_ref, xcat_long, not_true, not_false_iff, if_true, if_false, and_self, and_false, false_and, or_true, true_or, or_self, z01, z10, zle8, Nat.reduceAdd, Nat.reduceLeDiff]
    generalize cStart g (xI g (E + 1) 2) 10 = a1 at *
    by_cases d1 : a1.1 = true
    · rw [thW_t d1]
      obtain ⟨t1, t2, t3⟩ := k1 d1
      obtain ⟨z1, s, nl, np, nb, nc, nr, nh, nk, ok⟩ := hk.resolve_left t1
      have hb := ok.b
      have ew : xI g (E + 12) 0 = nI nc := ok.2.2.2.2.2.1.1
      have ep : xI g (E + 1) 2 = nI np := ok.2.2.2.1.1
      have el : xI g (E + 1) 1 = nI nl := ok.2.2.1.1
      rw [ew, ep, el, xix_nI (by omega), xix_nI (by omega), xix_nI (by omega)]
      rw [ep] at t2
      have hca : Ca a1.2 E s nl np nb nc nr nh nk := ⟨i1, kp1.okD hE ok, hE⟩
      have w := fun P => readPlace_run (P := P) hca (gnlt t2 (m := 10) rfl (by omega) (by omega))
      simp only [r71_106, r71_109, r71_110, r71_113, r71_116, r71_117, r71_120, r71_121, d1, bI_t, i1.1.1, w, b01, true_and, and_true, Option.some.injEq, exists_eq_left', Option.toList_some, Option.toList_none, List.cons_append, List.nil_append, xcat_nil, xcat_int, xcat_ref, xcat_long, not_true, not_false_iff, if_true, if_false, and_self, and_false, false_and, or_true, true_or, or_self, z01, z10, zle8, Nat.reduceAdd, Nat.reduceLeDiff]
      cases (cPlace a1.2 E nc np nl).1 <;> simp only [bI_t, bI_f, true_and, and_true, Option.some.injEq, exists_eq_left', Option.toList_some, Option.toList_none, List.cons_append, List.nil_append, xcat_nil, xcat_int, xcat_ref, xcat_long, not_true, not_false_iff, if_true, if_false, and_self, and_false, false_and, or_true, true_or, or_self, z01, z10, zle8, Nat.reduceAdd, Nat.reduceLeDiff]
    · rw [thW_f d1]
      simp only [r71_106, r71_109, r71_110, r71_113, r71_116, r71_117, r71_120, r71_121, Bool.eq_false_iff.mpr d1, bI_f, true_and, and_true, Option.some.injEq, exists_eq_left', Option.toList_some, Option.toList_none, List.cons_append, List.nil_append, xcat_nil, xcat_int, xcat_ref, xcat_long, not_true, not_false_iff, if_true, if_false, and_self, and_false, false_and, or_true, true_or, or_self, z01, z10, zle8, Nat.reduceAdd, Nat.reduceLeDiff]
  rw [if_neg c2]
  have c2 := Bool.eq_false_iff.mpr c2
  by_cases c3 : cSay g 3 = true
  · rw [if_pos c3]
    have k1 := cStart_t (g := g) (x := xI g (E + 4) 0) (y := 16)
    have i1 := hc.start (x := xI g (E + 4) 0) (y := 16)
    have kp1 := kp_start (g := g) (x := xI g (E + 4) 0) (y := 16)
    simp only [r71_0, r71_1, r71_4, r71_7, r71_8, r71_9, r71_12, r71_14, r71_17, r71_40, r71_41, r71_44, r71_46, r71_49, r71_78, r71_79, r71_82, r71_84, r71_87, r71_122, r71_123, r71_126, r71_128, r71_131, r71_134, r71_135, r71_136, r71_139, r71_142, r71_145, r71_148, r71_150, g0, r0, r3, f1, f2, f3, f4, f5, f6, f7, q.1.1, s0, c0, s1, c1, s2, c2, s3, c3, bI_t, bI_f, st, true_and, and_true, Option.some.injEq, exists_eq_left', Option.toList_some, Option.toList_none, List.cons_append, List.nil_append, xcat_nil, xcat_int, xcat_ref, xcat_long, not_true, not_false_iff, if_true, if_false, and_self, and_false, false_and, or_true, true_or, or_self, z01, z10, zle8, Nat.reduceAdd, Nat.reduceLeDiff]
    generalize cStart g (xI g (E + 4) 0) 16 = a1 at *
    by_cases d1 : a1.1 = true
    · rw [thW_t d1]
      obtain ⟨t1, t2, t3⟩ := k1 d1
      obtain ⟨z1, s, nl, np, nb, nc, nr, nh, nk, ok⟩ := hk.resolve_left t1
      have hb := ok.b
      have ew : xI g (E + 4) 0 = nI nb := ok.2.2.2.2.1.1
      have ep : xI g (E + 1) 2 = nI np := ok.2.2.2.1.1
      have el : xI g (E + 1) 0 = nI s := ok.2.1.1
      rw [ew, ep, el, xix_nI (by omega), xix_nI (by omega), xix_nI (by omega)]
      rw [ew] at t2
      have hca : Ca a1.2 E s nl np nb nc nr nh nk := ⟨i1, kp1.okD hE ok, hE⟩
      have w := fun P => readBound_run (P := P) hca (gnlt t2 (m := 16) rfl (by omega) (by omega))
      simp only [r71_153, r71_156, r71_157, r71_160, r71_163, r71_164, r71_167, r71_168, d1, bI_t, i1.1.1, w, b01, true_and, and_true, Option.some.injEq, exists_eq_left', Option.toList_some, Option.toList_none, List.cons_append, List.nil_append, xcat_nil, xcat_int, xcat_ref, xcat_long, not_true, not_false_iff, if_true, if_false, and_self, and_false, false_and, or_true, true_or, or_self, z01, z10, zle8, Nat.reduceAdd, Nat.reduceLeDiff]
      cases (cBound a1.2 E np nb s).1 <;> simp only [bI_t, bI_f, true_and, and_true, Option.some.injEq, exists_eq_left', Option.toList_some, Option.toList_none, List.cons_append, List.nil_append, xcat_nil, xcat_int, xcat_ref, xcat_long, not_true, not_false_iff, if_true, if_false, and_self, and_false, false_and, or_true, true_or, or_self, z01, z10, zle8, Nat.reduceAdd, Nat.reduceLeDiff]
    · rw [thW_f d1]
      simp only [r71_153, r71_156, r71_157, r71_160, r71_163, r71_164, r71_167, r71_168, Bool.eq_false_iff.mpr d1, bI_f, true_and, and_true, Option.some.injEq, exists_eq_left', Option.toList_some, Option.toList_none, List.cons_append, List.nil_append, xcat_nil, xcat_int, xcat_ref, xcat_long, not_true, not_false_iff, if_true, if_false, and_self, and_false, false_and, or_true, true_or, or_self, z01, z10, zle8, Nat.reduceAdd, Nat.reduceLeDiff]
  rw [if_neg c3]
  have c3 := Bool.eq_false_iff.mpr c3
  by_cases c4 : cSay g 4 = true
  · rw [if_pos c4]
    have k1 := cStart_t (g := g) (x := xI g (E + 14) 0) (y := 20)
    have i1 := hc.start (x := xI g (E + 14) 0) (y := 20)
    have kp1 := kp_start (g := g) (x := xI g (E + 14) 0) (y := 20)
    simp only [r71_0, r71_1, r71_4, r71_7, r71_8, r71_9, r71_12, r71_14, r71_17, r71_40, r71_41, r71_44, r71_46, r71_49, r71_78, r71_79, r71_82, r71_84, r71_87, r71_122, r71_123, r71_126, r71_128, r71_131, r71_169, r71_170, r71_173, r71_175, r71_178, r71_181, r71_182, r71_183, r71_186, r71_189, r71_191, g0, r0, r3, f1, f2, f3, f4, f5, f6, f7, f8, f9, q.1.1, s0, c0, s1, c1, s2, c2, s3, c3, s4, c4, bI_t, bI_f, st, true_and, and_true, Option.some.injEq, exists_eq_left', Option.toList_some, Option.toList_none, List.cons_append, List.nil_append, xcat_nil, xcat_int, xcat_ref, xcat_long, not_true, not_false_iff, if_true, if_false, and_self, and_false, false_and, or_true, true_or, or_self, z01, z10, zle8, Nat.reduceAdd, Nat.reduceLeDiff]
    generalize cStart g (xI g (E + 14) 0) 20 = a1 at *
    by_cases d1 : a1.1 = true
    · rw [thW_t d1]
      obtain ⟨t1, t2, t3⟩ := k1 d1
      obtain ⟨z1, s, nl, np, nb, nc, nr, nh, nk, ok⟩ := hk.resolve_left t1
      have hb := ok.b
      have ew : xI g (E + 14) 0 = nI nr := ok.2.2.2.2.2.2.1.1
      have ep : xI g (E + 1) 2 = nI np := ok.2.2.2.1.1
      have el : xI g (E + 12) 0 = nI nc := ok.2.2.2.2.2.1.1
      rw [ew, ep, el, xix_nI (by omega), xix_nI (by omega), xix_nI (by omega)]
      rw [ew] at t2
      have hca : Ca a1.2 E s nl np nb nc nr nh nk := ⟨i1, kp1.okD hE ok, hE⟩
      have w := fun P => readRate_run (P := P) hca (gnlt t2 (m := 20) rfl (by omega) (by omega))
      simp only [r71_194, r71_197, r71_198, r71_201, r71_204, r71_205, r71_208, r71_209, d1, bI_t, i1.1.1, w, b01, true_and, and_true, Option.some.injEq, exists_eq_left', Option.toList_some, Option.toList_none, List.cons_append, List.nil_append, xcat_nil, xcat_int, xcat_ref, xcat_long, not_true, not_false_iff, if_true, if_false, and_self, and_false, false_and, or_true, true_or, or_self, z01, z10, zle8, Nat.reduceAdd, Nat.reduceLeDiff]
      cases (cRate a1.2 E nc np nr).1 <;> simp only [bI_t, bI_f, true_and, and_true, Option.some.injEq, exists_eq_left', Option.toList_some, Option.toList_none, List.cons_append, List.nil_append, xcat_nil, xcat_int, xcat_ref, xcat_long, not_true, not_false_iff, if_true, if_false, and_self, and_false, false_and, or_true, true_or, or_self, z01, z10, zle8, Nat.reduceAdd, Nat.reduceLeDiff]
    · rw [thW_f d1]
      simp only [r71_194, r71_197, r71_198, r71_201, r71_204, r71_205, r71_208, r71_209, Bool.eq_false_iff.mpr d1, bI_f, true_and, and_true, Option.some.injEq, exists_eq_left', Option.toList_some, Option.toList_none, List.cons_append, List.nil_append, xcat_nil, xcat_int, xcat_ref, xcat_long, not_true, not_false_iff, if_true, if_false, and_self, and_false, false_and, or_true, true_or, or_self, z01, z10, zle8, Nat.reduceAdd, Nat.reduceLeDiff]
  rw [if_neg c4]
  have c4 := Bool.eq_false_iff.mpr c4
  by_cases c5 : cSay g 5 = true
  · rw [if_pos c5]
    have k1 := cStart_t (g := g) (x := xI g (E + 12) 3) (y := 6)
    have i1 := hc.start (x := xI g (E + 12) 3) (y := 6)
    have kp1 := kp_start (g := g) (x := xI g (E + 12) 3) (y := 6)
    simp only [r71_0, r71_1, r71_4, r71_7, r71_8, r71_9, r71_12, r71_14, r71_17, r71_40, r71_41, r71_44, r71_46, r71_49, r71_78, r71_79, r71_82, r71_84, r71_87, r71_122, r71_123, r71_126, r71_128, r71_131, r71_169, r71_170, r71_173, r71_175, r71_178, r71_210, r71_211, r71_214, r71_216, r71_219, r71_222, r71_223, r71_224, r71_227, r71_229, g0, r0, r3, f1, f2, f3, f4, f5, f6, f7, f8, f9, q.1.1, s0, c0, s1, c1, s2, c2, s3, c3, s4, c4, s5, c5, bI_t, bI_f, st, true_and, and_true, Option.some.injEq, exists_eq_left', Option.toList_some, Option.toList_none, List.cons_append, List.nil_append, xcat_nil, xcat_int, xcat_ref, xcat_long, not_true, not_false_iff, if_true, if_false, and_self, and_false, false_and, or_true, true_or, or_self, z01, z10, zle8, Nat.reduceAdd, Nat.reduceLeDiff]
    generalize cStart g (xI g (E + 12) 3) 6 = a1 at *
    by_cases d1 : a1.1 = true
    · rw [thW_t d1]
      obtain ⟨t1, t2, t3⟩ := k1 d1
      obtain ⟨z1, s, nl, np, nb, nc, nr, nh, nk, ok⟩ := hk.resolve_left t1
      have hb := ok.b
      have ew : xI g (E + 12) 3 = nI nh := ok.2.2.2.2.2.2.2.1.1
      have ep : xI g (E + 1) 2 = nI np := ok.2.2.2.1.1
      have el : xI g (E + 12) 0 = nI nc := ok.2.2.2.2.2.1.1
      rw [ew, ep, el, xix_nI (by omega), xix_nI (by omega), xix_nI (by omega)]
      rw [ew] at t2
      have hca : Ca a1.2 E s nl np nb nc nr nh nk := ⟨i1, kp1.okD hE ok, hE⟩
      have w := fun P => readHol_run (P := P) hca (gnlt t2 (m := 6) rfl (by omega) (by omega))
      simp only [r71_232, r71_235, r71_236, r71_239, r71_242, r71_243, r71_246, r71_247, d1, bI_t, i1.1.1, w, b01, true_and, and_true, Option.some.injEq, exists_eq_left', Option.toList_some, Option.toList_none, List.cons_append, List.nil_append, xcat_nil, xcat_int, xcat_ref, xcat_long, not_true, not_false_iff, if_true, if_false, and_self, and_false, false_and, or_true, true_or, or_self, z01, z10, zle8, Nat.reduceAdd, Nat.reduceLeDiff]
      cases (cHol a1.2 E nc np nh).1 <;> simp only [bI_t, bI_f, true_and, and_true, Option.some.injEq, exists_eq_left', Option.toList_some, Option.toList_none, List.cons_append, List.nil_append, xcat_nil, xcat_int, xcat_ref, xcat_long, not_true, not_false_iff, if_true, if_false, and_self, and_false, false_and, or_true, true_or, or_self, z01, z10, zle8, Nat.reduceAdd, Nat.reduceLeDiff]
    · rw [thW_f d1]
      simp only [r71_232, r71_235, r71_236, r71_239, r71_242, r71_243, r71_246, r71_247, Bool.eq_false_iff.mpr d1, bI_f, true_and, and_true, Option.some.injEq, exists_eq_left', Option.toList_some, Option.toList_none, List.cons_append, List.nil_append, xcat_nil, xcat_int, xcat_ref, xcat_long, not_true, not_false_iff, if_true, if_false, and_self, and_false, false_and, or_true, true_or, or_self, z01, z10, zle8, Nat.reduceAdd, Nat.reduceLeDiff]
  rw [if_neg c5]
  have c5 := Bool.eq_false_iff.mpr c5
  by_cases c6 : cSay g 6 = true
  · rw [if_pos c6]
    have k1 := cStart_t (g := g) (x := xI g (E + 12) 9) (y := 6)
    have i1 := hc.start (x := xI g (E + 12) 9) (y := 6)
    have kp1 := kp_start (g := g) (x := xI g (E + 12) 9) (y := 6)
    simp only [r71_0, r71_1, r71_4, r71_7, r71_8, r71_9, r71_12, r71_14, r71_17, r71_40, r71_41, r71_44, r71_46, r71_49, r71_78, r71_79, r71_82, r71_84, r71_87, r71_122, r71_123, r71_126, r71_128, r71_131, r71_169, r71_170, r71_173, r71_175, r71_178, r71_210, r71_211, r71_214, r71_216, r71_219, r71_248, r71_249, r71_252, r71_254, r71_257, r71_260, r71_261, r71_262, r71_265, r71_267, g0, r0, r3, f1, f2, f3, f4, f5, f6, f7, f8, f9, q.1.1, s0, c0, s1, c1, s2, c2, s3, c3, s4, c4, s5, c5, s6, c6, bI_t, bI_f, st, true_and, and_true, Option.some.injEq, exists_eq_left', Option.toList_some, Option.toList_none, List.cons_append, List.nil_append, xcat_nil, xcat_int, xcat_ref, xcat_long, not_true, not_false_iff, if_true, if_false, and_self, and_false, false_and, or_true, true_or, or_self, z01, z10, zle8, Nat.reduceAdd, Nat.reduceLeDiff]
    generalize cStart g (xI g (E + 12) 9) 6 = a1 at *
    by_cases d1 : a1.1 = true
    · rw [thW_t d1]
      obtain ⟨t1, t2, t3⟩ := k1 d1
      obtain ⟨z1, s, nl, np, nb, nc, nr, nh, nk, ok⟩ := hk.resolve_left t1
      have hb := ok.b
      have ew : xI g (E + 12) 9 = nI nk := ok.2.2.2.2.2.2.2.2.1.1
      have ep : xI g (E + 1) 2 = nI np := ok.2.2.2.1.1
      have el : xI g (E + 12) 0 = nI nc := ok.2.2.2.2.2.1.1
      rw [ew, ep, el, xix_nI (by omega), xix_nI (by omega), xix_nI (by omega)]
      rw [ew] at t2
      have hca : Ca a1.2 E s nl np nb nc nr nh nk := ⟨i1, kp1.okD hE ok, hE⟩
      have w := fun P => readCap_run (P := P) hca (gnlt t2 (m := 6) rfl (by omega) (by omega))
      simp only [r71_270, r71_273, r71_274, r71_277, r71_280, r71_281, r71_284, r71_285, d1, bI_t, i1.1.1, w, b01, true_and, and_true, Option.some.injEq, exists_eq_left', Option.toList_some, Option.toList_none, List.cons_append, List.nil_append, xcat_nil, xcat_int, xcat_ref, xcat_long, not_true, not_false_iff, if_true, if_false, and_self, and_false, false_and, or_true, true_or, or_self, z01, z10, zle8, Nat.reduceAdd, Nat.reduceLeDiff]
      cases (cCap a1.2 E nc np nk).1 <;> simp only [bI_t, bI_f, true_and, and_true, Option.some.injEq, exists_eq_left', Option.toList_some, Option.toList_none, List.cons_append, List.nil_append, xcat_nil, xcat_int, xcat_ref, xcat_long, not_true, not_false_iff, if_true, if_false, and_self, and_false, false_and, or_true, true_or, or_self, z01, z10, zle8, Nat.reduceAdd, Nat.reduceLeDiff]
    · rw [thW_f d1]
      simp only [r71_270, r71_273, r71_274, r71_277, r71_280, r71_281, r71_284, r71_285, Bool.eq_false_iff.mpr d1, bI_f, true_and, and_true, Option.some.injEq, exists_eq_left', Option.toList_some, Option.toList_none, List.cons_append, List.nil_append, xcat_nil, xcat_int, xcat_ref, xcat_long, not_true, not_false_iff, if_true, if_false, and_self, and_false, false_and, or_true, true_or, or_self, z01, z10, zle8, Nat.reduceAdd, Nat.reduceLeDiff]
  rw [if_neg c6]
  have c6 := Bool.eq_false_iff.mpr c6
  simp only [r71_0, r71_1, r71_4, r71_7, r71_8, r71_9, r71_12, r71_14, r71_17, r71_40, r71_41, r71_44, r71_46, r71_49, r71_78, r71_79, r71_82, r71_84, r71_87, r71_122, r71_123, r71_126, r71_128, r71_131, r71_169, r71_170, r71_173, r71_175, r71_178, r71_210, r71_211, r71_214, r71_216, r71_219, r71_248, r71_249, r71_252, r71_254, r71_257, r71_286, r71_287, r71_288, r71_291, g0, r0, r3, f1, f2, f3, f4, f5, f6, f7, f8, f9, q.1.1, s0, c0, s1, c1, s2, c2, s3, c3, s4, c4, s5, c5, s6, c6, bI_f, fails_run hc, true_and, and_true, Option.some.injEq, exists_eq_left', Option.toList_some, Option.toList_none, List.cons_append, List.nil_append, xcat_nil, xcat_int, xcat_ref, xcat_long, not_true, not_false_iff, if_true, if_false, and_self, and_false, false_and, or_true, true_or, or_self, z01, z10, zle8, Nat.reduceAdd, Nat.reduceLeDiff]
end
