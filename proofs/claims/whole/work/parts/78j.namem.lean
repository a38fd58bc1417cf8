/-! THE MODEL's names and beginnings beside the class's -/
section
variable {w v g g' : xMem} {M : Nat → Int32} {P : Option Value → xMem → Prop} {a b E r k m n s nl np nb nc nr nh nk : Nat} {x y lo hi : Int32}
theorem cpD.mv (h : cpD M g E np nb nc nr nh nk) (hf : ∀ c, E < c → c ≤ E + 26 → xI g' c = xI g c) : cpD M g' E np nb nc nr nh nk := by
  unfold cpD at h ⊢
  rw [hf (E + 1) (by omega) (by omega), hf (E + 2) (by omega) (by omega), hf (E + 3) (by omega) (by omega), hf (E + 4) (by omega) (by omega), hf (E + 5) (by omega) (by omega), hf (E + 6) (by omega) (by omega), hf (E + 7) (by omega) (by omega), hf (E + 8) (by omega) (by omega), hf (E + 9) (by omega) (by omega), hf (E + 12) (by omega) (by omega), hf (E + 13) (by omega) (by omega), hf (E + 14) (by omega) (by omega), hf (E + 15) (by omega) (by omega), hf (E + 16) (by omega) (by omega), hf (E + 17) (by omega) (by omega), hf (E + 18) (by omega) (by omega), hf (E + 19) (by omega) (by omega), hf (E + 20) (by omega) (by omega), hf (E + 21) (by omega) (by omega), hf (E + 22) (by omega) (by omega), hf (E + 23) (by omega) (by omega), hf (E + 24) (by omega) (by omega), hf (E + 25) (by omega) (by omega), hf (E + 26) (by omega) (by omega)]
  exact h
/-- the desk that is read, and its names, in class and model -/
def Rs (g w : xMem) (E s nl np nb nc nr nh nk : Nat) : Prop := okG g E s nl np nb nc nr nh nk ∧ (E = 6 ∨ E = 34) ∧ 2 ≤ s ∧ xI g 1 4 = 1 ∧ cpD (xI w 280) g E np nb nc nr nh nk ∧ Nms (xJ g 4) (xJ w 281) nc ∧ Nms (xJ g 5) (xJ w 282) np
theorem Rs.mv (h : Rs g w E s nl np nb nc nr nh nk) (k : Kp g g') (hn : Ny w v) : Rs g' v E s nl np nb nc nr nh nk := by
  obtain ⟨h1, h2, h3, h4, h5, h6, h7⟩ := h
  refine ⟨h1.kp h2 k, h2, h3, (k.2.2.2.2.1 4 (by omega) (by omega)).trans h4, ?_, ?_, ?_⟩
  · rw [hn.f (by omega)]
    exact h5.mv (fun c _ _ => k.f (by omega) (by omega))
  · intro i hi
    rw [k.2.2.2.1 4 i (by omega), hn.2.2.2 281 i (by omega)]
    exact h6 i hi
  · intro i hi
    rw [k.2.2.2.1 5 i (by omega), hn.2.2.2 282 i (by omega)]
    exact h7 i hi
theorem Rs.e (h : Rs g w E s nl np nb nc nr nh nk) : xI w 280 0 = nI s ∧ xI w 280 1 = nI nl ∧ xI w 280 2 = nI nc ∧ xI w 280 3 = nI np ∧ xI w 280 4 = nI nb ∧ xI w 280 5 = nI nr ∧ xI w 280 6 = nI nh ∧ xI w 280 7 = nI nk := h.1.1.e h.2.2.2.2.1
theorem cNm_1 (h : cNm g = true) : xI g 2 5 = 1 := by
  unfold cNm at h
  rw [Bool.and_eq_true] at h
  exact of_decide_eq_true h.1
theorem Wk.nm (h : Wk g w E) (c : xI g 2 5 = 1) : nmR (xJ g 2 6) (xJ w 278 16) := by
  obtain ⟨a, n, cc, hn, -, -, -, hL, h1, h2⟩ := h.2.2.2.2.2.2.1 c
  exact ⟨n, cc, hn, fun i hi => (hL i hi).2, h1, h2⟩
theorem classHere_run (hM : sMd w) (h2 : xI w 280 2 = nI nc) (h6 : nc ≤ 6) : zr 188 0 [.ref 278] [] w P = P (some (.int (fIx (xJ w 281) (xJ w 278 16) nc 0))) w := by
  have fd := fun P => find_run (P := P) (m := nc) hM.1 hM.2.2.2.2.1 (by omega) h6
  obtain ⟨h0, ⟨-, r4, r5, r6, -⟩, -, ⟨j, k0⟩, -⟩ := hM
  simp only [r188_0, r188_1, r188_2, r188_5, r188_6, r188_9, r188_10, r188_11, r188_14, h0, r4, r5, j, k0, lb2, li2, h2, fd, true_and, and_true, Option.some.injEq, exists_eq_left', Option.toList_some, Option.toList_none, List.cons_append, List.nil_append, xcat_nil, xcat_int, xcat_ref, xcat_long, not_true, not_false_iff, if_true, if_false, and_self, and_false, false_and, or_true, true_or, or_self, z01, z10, zle8, Nat.reduceAdd, Nat.reduceLeDiff]
theorem placeHere_run (hM : sMd w) (h2 : xI w 280 3 = nI np) (h6 : np ≤ 10) : zr 189 0 [.ref 278] [] w P = P (some (.int (fIx (xJ w 282) (xJ w 278 16) np 0))) w := by
  have fd := fun P => find_run (P := P) (m := np) hM.1 hM.2.2.2.2.2.1 (by omega) h6
  obtain ⟨h0, ⟨-, r4, r5, r6, -⟩, -, ⟨j, k0⟩, -⟩ := hM
  simp only [r189_0, r189_1, r189_2, r189_5, r189_6, r189_9, r189_10, r189_11, r189_14, h0, r4, r6, j, k0, lb3, li3, h2, fd, true_and, and_true, Option.some.injEq, exists_eq_left', Option.toList_some, Option.toList_none, List.cons_append, List.nil_append, xcat_nil, xcat_int, xcat_ref, xcat_long, not_true, not_false_iff, if_true, if_false, and_self, and_false, false_and, or_true, true_or, or_self, z01, z10, zle8, Nat.reduceAdd, Nat.reduceLeDiff]
theorem readFresh_z (h : Fw w) : zr 190 0 [.ref 278, .null, .null] [] w P = P (some (.long (xJ w 278 16))) w := by
  simp only [r190_0, r190_1, r190_4, r190_7, r190_8, r190_9, r190_12, r190_13, r190_16, r190_19, r190_20, r190_23, r190_26, r190_27, r190_30, r190_33, r190_34, r190_35, r190_38, r190_39, r190_42, r190_43, r190_44, r190_47, r190_48, h.1.1, isNameM_z h, flaw_z h, h.nz.1, next_z h, true_and, and_true, Option.some.injEq, exists_eq_left', Option.toList_some, Option.toList_none, List.cons_append, List.nil_append, xcat_nil, xcat_int, xcat_ref, xcat_long, not_true, not_false_iff, if_true, if_false, and_self, and_false, false_and, or_true, true_or, or_self, z01, z10, zle8, Nat.reduceAdd, Nat.reduceLeDiff]
theorem readFresh_rel (h : Wk g w E) (hr : Rs g w E s nl np nb nc nr nh nk) (hS : 0 ≤ lg_cmp (cFresh g nc np).1 0 → ∀ v y, Nx w v → Wk (cFresh g nc np).2 v E → nmR (cFresh g nc np).1 y → P (some (.long y)) v)
    (hF : ¬ 0 ≤ lg_cmp (cFresh g nc np).1 0 → ∀ v y, Ny w v → Fz (cFresh g nc np).2 v → P (some (.long y)) v) : zr 190 0 [.ref 278, .null, .null] [] w P := by
  have h0 := h.1.1.1
  have hb := hr.1.1.b
  obtain ⟨e0, e1, e2, e3, -⟩ := hr.e
  have ch := fun P => classHere_run (P := P) h.1.1 e2 hb.2.2.2.2.1
  have ph := fun P => placeHere_run (P := P) h.1.1 e3 hb.2.2.1
  have n1 : ¬ 0 ≤ lg_cmp (-1) 0 := by decide
  unfold cFresh at hS hF
  by_cases c : cNm g = true
  · have nm := h.nm (cNm_1 c)
    rw [← fIx_rel hr.2.2.2.2.2.1 nm nc 0 (by omega)] at ch
    rw [← fIx_rel hr.2.2.2.2.2.2 nm np 0 (by omega)] at ph
    rw [if_pos c] at hS hF
    by_cases c1 : 0 ≤ fIx (xJ g 4) (xJ g 2 6) nc 0 ∨ 0 ≤ fIx (xJ g 5) (xJ g 2 6) np 0
    · rw [if_pos c1] at hS hF
      have z := h.fz (x := 3) (by decide)
      have i1 := z.1.1
      have hend : zr 190 33 [.ref 278, .null, .null] [] w P := by
        simp only [r190_33, r190_34, r190_35, r190_38, r190_39, r190_42, r190_43, r190_44, r190_47, r190_48, h0, flaw_0 h0 h.2.1, next_z z.fw, i1, true_and, and_true, Option.some.injEq, exists_eq_left', Option.toList_some, Option.toList_none, List.cons_append, List.nil_append, xcat_nil, xcat_int, xcat_ref, xcat_long, not_true, not_false_iff, if_true, if_false, and_self, and_false, false_and, or_true, true_or, or_self, z01, z10, zle8, Nat.reduceAdd, Nat.reduceLeDiff]
        exact hF n1 _ _ ny_fl z
      by_cases c2 : 0 ≤ fIx (xJ g 4) (xJ g 2 6) nc 0
      · simp only [r190_0, r190_1, r190_4, r190_7, r190_8, r190_9, r190_12, r190_13, r190_16, r190_19, r190_20, r190_23, r190_26, r190_27, r190_30, h0, isNameM_rel h, c, bI_t, h.2.1, ch, c2, true_and, and_true, Option.some.injEq, exists_eq_left', Option.toList_some, Option.toList_none, List.cons_append, List.nil_append, xcat_nil, xcat_int, xcat_ref, xcat_long, not_true, not_false_iff, if_true, if_false, and_self, and_false, false_and, or_true, true_or, or_self, z01, z10, zle8, Nat.reduceAdd, Nat.reduceLeDiff]
        exact hend
      · have c3 := c1.resolve_left c2
        simp only [r190_0, r190_1, r190_4, r190_7, r190_8, r190_9, r190_12, r190_13, r190_16, r190_19, r190_20, r190_23, r190_26, r190_27, r190_30, h0, isNameM_rel h, c, bI_t, h.2.1, ch, ph, c2, i32_nlt.mpr c3, true_and, and_true, Option.some.injEq, exists_eq_left', Option.toList_some, Option.toList_none, List.cons_append, List.nil_append, xcat_nil, xcat_int, xcat_ref, xcat_long, not_true, not_false_iff, if_true, if_false, and_self, and_false, false_and, or_true, true_or, or_self, z01, z10, zle8, Nat.reduceAdd, Nat.reduceLeDiff]
        exact hend
    · rw [if_neg c1] at hS hF
      have c2 : ¬ 0 ≤ fIx (xJ g 4) (xJ g 2 6) nc 0 := fun q => c1 (Or.inl q)
      have c3 : ¬ 0 ≤ fIx (xJ g 5) (xJ g 2 6) np 0 := fun q => c1 (Or.inr q)
      simp only [r190_0, r190_1, r190_4, r190_7, r190_8, r190_9, r190_12, r190_13, r190_16, r190_19, r190_20, r190_23, r190_26, r190_27, r190_30, r190_38, r190_39, r190_42, r190_43, r190_44, h0, isNameM_rel h, c, bI_t, h.2.1, ch, ph, c2, i32_nle.mp c3, true_and, and_true, Option.some.injEq, exists_eq_left', Option.toList_some, Option.toList_none, List.cons_append, List.nil_append, xcat_nil, xcat_int, xcat_ref, xcat_long, not_true, not_false_iff, if_true, if_false, and_self, and_false, false_and, or_true, true_or, or_self, z01, z10, zle8, Nat.reduceAdd, Nat.reduceLeDiff]
      refine h.next (fun v hn hv => ?_)
      simp only [r190_47, r190_48, true_and, and_true, Option.some.injEq, exists_eq_left', Option.toList_some, Option.toList_none, List.cons_append, List.nil_append, xcat_nil, xcat_int, xcat_ref, xcat_long, not_true, not_false_iff, if_true, if_false, and_self, and_false, false_and, or_true, true_or, or_self, z01, z10, zle8, Nat.reduceAdd, Nat.reduceLeDiff]
      exact hS nm.pos v _ hn hv nm
  · rw [if_neg c] at hS hF
    have z := h.fz (x := 1) (by decide)
    have i1 := z.1.1
    simp only [r190_0, r190_1, r190_4, r190_7, r190_8, r190_9, r190_12, r190_13, r190_16, r190_19, r190_20, r190_23, r190_26, r190_27, r190_30, r190_33, r190_34, r190_35, r190_38, r190_39, r190_42, r190_43, r190_44, r190_47, r190_48, h0, isNameM_rel h, Bool.eq_false_iff.mpr c, bI_f, flaw_0 h0 h.2.1, i1, z.fw.nz.1, next_z z.fw, true_and, and_true, Option.some.injEq, exists_eq_left', Option.toList_some, Option.toList_none, List.cons_append, List.nil_append, xcat_nil, xcat_int, xcat_ref, xcat_long, not_true, not_false_iff, if_true, if_false, and_self, and_false, false_and, or_true, true_or, or_self, z01, z10, zle8, Nat.reduceAdd, Nat.reduceLeDiff]
    exact hF n1 _ _ ny_fl z
theorem known_z (h : Fw w) : zr 191 0 [.ref 278, .int x, .null] [] w P = P (some (.int 0)) w := by
  simp only [r191_0, r191_1, r191_4, r191_7, r191_8, r191_9, r191_12, r191_13, r191_16, r191_19, r191_20, r191_23, r191_24, r191_27, r191_28, r191_31, r191_34, r191_35, r191_38, r191_39, r191_40, r191_41, r191_44, r191_45, r191_46, r191_49, r191_50, r191_53, r191_56, r191_57, r191_60, r191_61, h.1.1, isNameM_z h, flaw_z h, h.nz.2, show ¬ ((-1 : Int32) ≠ -1) by decide, true_and, and_true, Option.some.injEq, exists_eq_left', Option.toList_some, Option.toList_none, List.cons_append, List.nil_append, xcat_nil, xcat_int, xcat_ref, xcat_long, not_true, not_false_iff, if_true, if_false, and_self, and_false, false_and, or_true, true_or, or_self, z01, z10, zle8, Nat.reduceAdd, Nat.reduceLeDiff]
theorem readKnown_z (h : Fw w) : zr 192 0 [.ref 278, .int x, .null] [] w P = P (some (.int 0)) w := by
  simp only [r192_0, r192_1, r192_2, r192_5, r192_6, r192_7, r192_10, r192_11, h.1.1, known_z h, next_z h, true_and, and_true, Option.some.injEq, exists_eq_left', Option.toList_some, Option.toList_none, List.cons_append, List.nil_append, xcat_nil, xcat_int, xcat_ref, xcat_long, not_true, not_false_iff, if_true, if_false, and_self, and_false, false_and, or_true, true_or, or_self, z01, z10, zle8, Nat.reduceAdd, Nat.reduceLeDiff]
theorem knownC_rel (h : Wk g w E) (hr : Rs g w E s nl np nb nc nr nh nk) (hS : 0 ≤ (cName g 4 nc).1 → (cName g 4 nc).2 = nxt g → (∃ i, i < nc ∧ (cName g 4 nc).1 = nI i) → P (some (.int (cName g 4 nc).1)) w)
    (hF : ¬ 0 ≤ (cName g 4 nc).1 → ∀ v, Ny w v → Fz (cName g 4 nc).2 v → P (some (.int 0)) v) : zr 191 0 [.ref 278, .int 1, .null] [] w P := by
  have h0 := h.1.1.1
  have hb := hr.1.1.b
  obtain ⟨e0, e1, e2, e3, -⟩ := hr.e
  have ch := fun P => classHere_run (P := P) h.1.1 e2 hb.2.2.2.2.1
  unfold cName at hS hF
  by_cases c : cNm g = true
  · have nm := h.nm (cNm_1 c)
    rw [← fIx_rel hr.2.2.2.2.2.1 nm nc 0 (by omega)] at ch
    rw [if_pos c] at hS hF
    rcases fIx_cases (xJ g 4) (xJ g 2 6) nc 0 with q | ⟨i, -, hi, q, -⟩
    · rw [q] at hS hF ch
      rw [if_neg (by decide)] at hS hF
      have z := h.fz (x := 2) (by decide)
      have i1 := z.1.1
      simp only [r191_0, r191_1, r191_4, r191_7, r191_8, r191_9, r191_12, r191_13, r191_16, r191_19, r191_20, r191_23, r191_24, r191_27, r191_28, r191_31, r191_34, r191_35, r191_38, r191_39, r191_40, r191_41, r191_44, r191_45, r191_46, r191_49, r191_50, r191_53, r191_56, r191_57, r191_60, r191_61, h0, isNameM_rel h, c, bI_t, h.2.1, show (0 : Int32) ≤ 0 by decide, ch, flaw_0 h0 h.2.1, i1, z.fw.nz.2, true_and, and_true, Option.some.injEq, exists_eq_left', Option.toList_some, Option.toList_none, List.cons_append, List.nil_append, xcat_nil, xcat_int, xcat_ref, xcat_long, not_true, not_false_iff, if_true, if_false, and_self, and_false, false_and, or_true, true_or, or_self, z01, z10, zle8, Nat.reduceAdd, Nat.reduceLeDiff]
      exact hF (show ¬ (0 : Int32) ≤ -1 by decide) _ ny_fl z
    · rw [q] at hS hF ch
      have p : 0 ≤ nI i := nI_pos' (by omega)
      rw [if_pos p] at hS hF
      simp (disch := omega) only [r191_0, r191_1, r191_4, r191_7, r191_8, r191_9, r191_12, r191_13, r191_16, r191_19, r191_20, r191_23, r191_24, r191_27, r191_28, r191_31, r191_34, r191_35, r191_38, r191_39, r191_40, r191_41, r191_44, r191_45, r191_46, r191_49, r191_50, r191_53, r191_56, r191_57, r191_60, r191_61, h0, isNameM_rel h, c, bI_t, h.2.1, show (0 : Int32) ≤ 0 by decide, ch, xinbT, xixT, leT, leF, ltT, ltF, ngF, psT, n1F, n2F, km2, km3, km4, km5, km10, km15, km25, kl8, kl14, kl24, kl34, kl274, kl354, kl384, kr1, kr2, kr3, kr4, kr5, kr6, kr7, kr8, kr9, kaa, lb0, lb1, lb2, lb3, lb4, lb5, lb6, lb7, li0, li1, li2, li3, li4, li5, li6, li7, true_and, and_true, Option.some.injEq, exists_eq_left', Option.toList_some, Option.toList_none, List.cons_append, List.nil_append, xcat_nil, xcat_int, xcat_ref, xcat_long, not_true, not_false_iff, if_true, if_false, and_self, and_false, false_and, or_true, true_or, or_self, z01, z10, zle8, Nat.reduceAdd, Nat.reduceLeDiff]
      exact hS p rfl ⟨i, by omega, rfl⟩
  · rw [if_neg c] at hS hF
    have z := h.fz (x := 1) (by decide)
    have i1 := z.1.1
    simp only [r191_0, r191_1, r191_4, r191_7, r191_8, r191_9, r191_12, r191_13, r191_16, r191_19, r191_20, r191_23, r191_24, r191_27, r191_28, r191_31, r191_34, r191_35, r191_38, r191_39, r191_40, r191_41, r191_44, r191_45, r191_46, r191_49, r191_50, r191_53, r191_56, r191_57, r191_60, r191_61, h0, isNameM_rel h, Bool.eq_false_iff.mpr c, bI_f, flaw_0 h0 h.2.1, flaw_z z.fw, i1, z.fw.nz.2, true_and, and_true, Option.some.injEq, exists_eq_left', Option.toList_some, Option.toList_none, List.cons_append, List.nil_append, xcat_nil, xcat_int, xcat_ref, xcat_long, not_true, not_false_iff, if_true, if_false, and_self, and_false, false_and, or_true, true_or, or_self, z01, z10, zle8, Nat.reduceAdd, Nat.reduceLeDiff]
    exact hF (show ¬ (0 : Int32) ≤ -1 by decide) _ ny_fl z
theorem knownP_rel (h : Wk g w E) (hr : Rs g w E s nl np nb nc nr nh nk) (hS : 0 ≤ (cName g 5 np).1 → (cName g 5 np).2 = nxt g → (∃ i, i < np ∧ (cName g 5 np).1 = nI i) → P (some (.int (cName g 5 np).1)) w)
    (hF : ¬ 0 ≤ (cName g 5 np).1 → ∀ v, Ny w v → Fz (cName g 5 np).2 v → P (some (.int 0)) v) : zr 191 0 [.ref 278, .int 0, .null] [] w P := by
  have h0 := h.1.1.1
  have hb := hr.1.1.b
  obtain ⟨e0, e1, e2, e3, -⟩ := hr.e
  have ch := fun P => placeHere_run (P := P) h.1.1 e3 hb.2.2.1
  unfold cName at hS hF
  by_cases c : cNm g = true
  · have nm := h.nm (cNm_1 c)
    rw [← fIx_rel hr.2.2.2.2.2.2 nm np 0 (by omega)] at ch
    rw [if_pos c] at hS hF
    rcases fIx_cases (xJ g 5) (xJ g 2 6) np 0 with q | ⟨i, -, hi, q, -⟩
    · rw [q] at hS hF ch
      rw [if_neg (by decide)] at hS hF
      have z := h.fz (x := 2) (by decide)
      have i1 := z.1.1
      simp only [r191_0, r191_1, r191_4, r191_7, r191_8, r191_9, r191_12, r191_13, r191_16, r191_19, r191_20, r191_23, r191_24, r191_27, r191_28, r191_31, r191_34, r191_35, r191_38, r191_39, r191_40, r191_41, r191_44, r191_45, r191_46, r191_49, r191_50, r191_53, r191_56, r191_57, r191_60, r191_61, h0, isNameM_rel h, c, bI_t, h.2.1, show (0 : Int32) ≤ 0 by decide, ch, flaw_0 h0 h.2.1, i1, z.fw.nz.2, true_and, and_true, Option.some.injEq, exists_eq_left', Option.toList_some, Option.toList_none, List.cons_append, List.nil_append, xcat_nil, xcat_int, xcat_ref, xcat_long, not_true, not_false_iff, if_true, if_false, and_self, and_false, false_and, or_true, true_or, or_self, z01, z10, zle8, Nat.reduceAdd, Nat.reduceLeDiff]
      exact hF (show ¬ (0 : Int32) ≤ -1 by decide) _ ny_fl z
    · rw [q] at hS hF ch
      have p : 0 ≤ nI i := nI_pos' (by omega)
      rw [if_pos p] at hS hF
      simp (disch := omega) only [r191_0, r191_1, r191_4, r191_7, r191_8, r191_9, r191_12, r191_13, r191_16, r191_19, r191_20, r191_23, r191_24, r191_27, r191_28, r191_31, r191_34, r191_35, r191_38, r191_39, r191_40, r191_41, r191_44, r191_45, r191_46, r191_49, r191_50, r191_53, r191_56, r191_57, r191_60, r191_61, h0, isNameM_rel h, c, bI_t, h.2.1, show (0 : Int32) ≤ 0 by decide, ch, xinbT, xixT, leT, leF, ltT, ltF, ngF, psT, n1F, n2F, km2, km3, km4, km5, km10, km15, km25, kl8, kl14, kl24, kl34, kl274, kl354, kl384, kr1, kr2, kr3, kr4, kr5, kr6, kr7, kr8, kr9, kaa, lb0, lb1, lb2, lb3, lb4, lb5, lb6, lb7, li0, li1, li2, li3, li4, li5, li6, li7, true_and, and_true, Option.some.injEq, exists_eq_left', Option.toList_some, Option.toList_none, List.cons_append, List.nil_append, xcat_nil, xcat_int, xcat_ref, xcat_long, not_true, not_false_iff, if_true, if_false, and_self, and_false, false_and, or_true, true_or, or_self, z01, z10, zle8, Nat.reduceAdd, Nat.reduceLeDiff]
      exact hS p rfl ⟨i, by omega, rfl⟩
  · rw [if_neg c] at hS hF
    have z := h.fz (x := 1) (by decide)
    have i1 := z.1.1
    simp only [r191_0, r191_1, r191_4, r191_7, r191_8, r191_9, r191_12, r191_13, r191_16, r191_19, r191_20, r191_23, r191_24, r191_27, r191_28, r191_31, r191_34, r191_35, r191_38, r191_39, r191_40, r191_41, r191_44, r191_45, r191_46, r191_49, r191_50, r191_53, r191_56, r191_57, r191_60, r191_61, h0, isNameM_rel h, Bool.eq_false_iff.mpr c, bI_f, flaw_0 h0 h.2.1, flaw_z z.fw, i1, z.fw.nz.2, true_and, and_true, Option.some.injEq, exists_eq_left', Option.toList_some, Option.toList_none, List.cons_append, List.nil_append, xcat_nil, xcat_int, xcat_ref, xcat_long, not_true, not_false_iff, if_true, if_false, and_self, and_false, false_and, or_true, true_or, or_self, z01, z10, zle8, Nat.reduceAdd, Nat.reduceLeDiff]
    exact hF (show ¬ (0 : Int32) ≤ -1 by decide) _ ny_fl z
theorem readKnownC_rel (h : Wk g w E) (hr : Rs g w E s nl np nb nc nr nh nk) (hS : 0 ≤ (cName g 4 nc).1 → (∃ i, i < nc ∧ (cName g 4 nc).1 = nI i) → ∀ v, Nx w v → Wk (cName g 4 nc).2 v E → P (some (.int (cName g 4 nc).1)) v)
    (hF : ¬ 0 ≤ (cName g 4 nc).1 → ∀ v, Ny w v → Fz (cName g 4 nc).2 v → P (some (.int 0)) v) : zr 192 0 [.ref 278, .int 1, .null] [] w P := by
  simp only [r192_0, r192_1, r192_2, h.1.1.1, true_and, and_true, Option.some.injEq, exists_eq_left', Option.toList_some, Option.toList_none, List.cons_append, List.nil_append, xcat_nil, xcat_int, xcat_ref, xcat_long, not_true, not_false_iff, if_true, if_false, and_self, and_false, false_and, or_true, true_or, or_self, z01, z10, zle8, Nat.reduceAdd, Nat.reduceLeDiff]
  refine knownC_rel h hr (fun p q hi => ?_) (fun p v hn hv => ?_)
  · simp only [r192_5, r192_6, r192_7, h.1.1.1, true_and, and_true, Option.some.injEq, exists_eq_left', Option.toList_some, Option.toList_none, List.cons_append, List.nil_append, xcat_nil, xcat_int, xcat_ref, xcat_long, not_true, not_false_iff, if_true, if_false, and_self, and_false, false_and, or_true, true_or, or_self, z01, z10, zle8, Nat.reduceAdd, Nat.reduceLeDiff]
    refine h.next (fun v hn hv => ?_)
    simp only [r192_10, r192_11, true_and, and_true, Option.some.injEq, exists_eq_left', Option.toList_some, Option.toList_none, List.cons_append, List.nil_append, xcat_nil, xcat_int, xcat_ref, xcat_long, not_true, not_false_iff, if_true, if_false, and_self, and_false, false_and, or_true, true_or, or_self, z01, z10, zle8, Nat.reduceAdd, Nat.reduceLeDiff]
    exact hS p hi v hn (by rw [q]; exact hv)
  · simp only [r192_5, r192_6, r192_7, r192_10, r192_11, hv.1.1, next_z hv.fw, true_and, and_true, Option.some.injEq, exists_eq_left', Option.toList_some, Option.toList_none, List.cons_append, List.nil_append, xcat_nil, xcat_int, xcat_ref, xcat_long, not_true, not_false_iff, if_true, if_false, and_self, and_false, false_and, or_true, true_or, or_self, z01, z10, zle8, Nat.reduceAdd, Nat.reduceLeDiff]
    exact hF p v hn hv
theorem readKnownP_rel (h : Wk g w E) (hr : Rs g w E s nl np nb nc nr nh nk) (hS : 0 ≤ (cName g 5 np).1 → (∃ i, i < np ∧ (cName g 5 np).1 = nI i) → ∀ v, Nx w v → Wk (cName g 5 np).2 v E → P (some (.int (cName g 5 np).1)) v)
    (hF : ¬ 0 ≤ (cName g 5 np).1 → ∀ v, Ny w v → Fz (cName g 5 np).2 v → P (some (.int 0)) v) : zr 192 0 [.ref 278, .int 0, .null] [] w P := by
  simp only [r192_0, r192_1, r192_2, h.1.1.1, true_and, and_true, Option.some.injEq, exists_eq_left', Option.toList_some, Option.toList_none, List.cons_append, List.nil_append, xcat_nil, xcat_int, xcat_ref, xcat_long, not_true, not_false_iff, if_true, if_false, and_self, and_false, false_and, or_true, true_or, or_self, z01, z10, zle8, Nat.reduceAdd, Nat.reduceLeDiff]
  refine knownP_rel h hr (fun p q hi => ?_) (fun p v hn hv => ?_)
  · simp only [r192_5, r192_6, r192_7, h.1.1.1, true_and, and_true, Option.some.injEq, exists_eq_left', Option.toList_some, Option.toList_none, List.cons_append, List.nil_append, xcat_nil, xcat_int, xcat_ref, xcat_long, not_true, not_false_iff, if_true, if_false, and_self, and_false, false_and, or_true, true_or, or_self, z01, z10, zle8, Nat.reduceAdd, Nat.reduceLeDiff]
    refine h.next (fun v hn hv => ?_)
    simp only [r192_10, r192_11, true_and, and_true, Option.some.injEq, exists_eq_left', Option.toList_some, Option.toList_none, List.cons_append, List.nil_append, xcat_nil, xcat_int, xcat_ref, xcat_long, not_true, not_false_iff, if_true, if_false, and_self, and_false, false_and, or_true, true_or, or_self, z01, z10, zle8, Nat.reduceAdd, Nat.reduceLeDiff]
    exact hS p hi v hn (by rw [q]; exact hv)
  · simp only [r192_5, r192_6, r192_7, r192_10, r192_11, hv.1.1, next_z hv.fw, true_and, and_true, Option.some.injEq, exists_eq_left', Option.toList_some, Option.toList_none, List.cons_append, List.nil_append, xcat_nil, xcat_int, xcat_ref, xcat_long, not_true, not_false_iff, if_true, if_false, and_self, and_false, false_and, or_true, true_or, or_self, z01, z10, zle8, Nat.reduceAdd, Nat.reduceLeDiff]
    exact hF p v hn hv
/-- a line's first word, the desk begun -/
theorem begins_rel (h : Wk g w E) (hr : Rs g w E s nl np nb nc nr nh nk) (hk : k < 402) (hn : xI w 280 k = nI n) (hnm : n ≤ m) (hm : m ≤ 20) (hS : n < m → ∀ v, Nx w v → Wk (nxt g) v E → P none v)
    (hF : ¬ n < m → ∀ v, Ny w v → Fz (flt g 5) v → P none v) : zr 196 0 [.ref 278, .int (nI k), .int (nI m)] [] w P := by
  have hb := hr.1.1.b
  obtain ⟨e0, -⟩ := hr.e
  have s0 : ¬ nI s = 0 := nI_ne0 (by have := hr.2.2.1; omega) (by omega)
  obtain ⟨h0, ⟨-, r4, -⟩, -, ⟨j, k0⟩, -⟩ := h.1.1
  by_cases c : n < m
  · have ne : ¬ nI n = nI m := fun q => by have := (nI_eq (by omega) (by omega)).mp q; omega
    simp (disch := omega) only [r196_0, r196_1, r196_4, r196_5, r196_6, r196_7, r196_10, r196_11, r196_12, r196_15, r196_16, r196_19, r196_20, r196_21, r196_24, r196_25, r196_27, r196_30, r196_31, h0, r4, j, k0, hn, ne, e0, s0, xinbT, xixT, leT, leF, ltT, ltF, ngF, psT, n1F, n2F, km2, km3, km4, km5, km10, km15, km25, kl8, kl14, kl24, kl34, kl274, kl354, kl384, kr1, kr2, kr3, kr4, kr5, kr6, kr7, kr8, kr9, kaa, lb0, lb1, lb2, lb3, lb4, lb5, lb6, lb7, li0, li1, li2, li3, li4, li5, li6, li7, true_and, and_true, Option.some.injEq, exists_eq_left', Option.toList_some, Option.toList_none, List.cons_append, List.nil_append, xcat_nil, xcat_int, xcat_ref, xcat_long, not_true, not_false_iff, if_true, if_false, and_self, and_false, false_and, or_true, true_or, or_self, z01, z10, zle8, Nat.reduceAdd, Nat.reduceLeDiff]
    refine h.next (fun v hn2 hv => ?_)
    simp only [r196_34, true_and, and_true, Option.some.injEq, exists_eq_left', Option.toList_some, Option.toList_none, List.cons_append, List.nil_append, xcat_nil, xcat_int, xcat_ref, xcat_long, not_true, not_false_iff, if_true, if_false, and_self, and_false, false_and, or_true, true_or, or_self, z01, z10, zle8, Nat.reduceAdd, Nat.reduceLeDiff]
    exact hS c v hn2 hv
  · have e : n = m := by omega
    subst e
    have z := h.fz (x := 5) (by decide)
    have z1 : sMd (xsI (xsI w 278 15 5) 278 12 0) := z.1
    have i1 := z.1.1
    have a1 : xR (xsI (xsI w 278 15 5) 278 12 0) 278 4 = some 280 := r4
    have a2 : xIs (xsI (xsI w 278 15 5) 278 12 0) 280 13 := j
    have a3 : xN (xsI (xsI w 278 15 5) 278 12 0) 280 = 402 := k0
    have a4 : xI (xsI (xsI w 278 15 5) 278 12 0) 280 0 = nI s := e0
    simp (disch := omega) only [r196_0, r196_1, r196_4, r196_5, r196_6, r196_7, r196_10, r196_11, r196_12, r196_15, r196_16, r196_19, r196_20, r196_21, r196_24, r196_25, r196_27, r196_30, r196_31, r196_34, h0, r4, j, k0, hn, flaw_0 h0 h.2.1, i1, a1, a2, a3, a4, s0, next_z z.fw, xinbT, xixT, leT, leF, ltT, ltF, ngF, psT, n1F, n2F, km2, km3, km4, km5, km10, km15, km25, kl8, kl14, kl24, kl34, kl274, kl354, kl384, kr1, kr2, kr3, kr4, kr5, kr6, kr7, kr8, kr9, kaa, lb0, lb1, lb2, lb3, lb4, lb5, lb6, lb7, li0, li1, li2, li3, li4, li5, li6, li7, true_and, and_true, Option.some.injEq, exists_eq_left', Option.toList_some, Option.toList_none, List.cons_append, List.nil_append, xcat_nil, xcat_int, xcat_ref, xcat_long, not_true, not_false_iff, if_true, if_false, and_self, and_false, false_and, or_true, true_or, or_self, z01, z10, zle8, Nat.reduceAdd, Nat.reduceLeDiff]
    exact hF c _ ny_fl z
/-- no desk yet -/
theorem begins_no (h : Wk g w E) (hz : ∀ i, i < 402 → xI w 280 i = 0) (hk : k < 402) (hm : 0 < m) (hm2 : m ≤ 20) (hF : ∀ v, Ny w v → Fz (flt g 6) v → P none v) : zr 196 0 [.ref 278, .int (nI k), .int (nI m)] [] w P := by
  have e0 := hz 0 (by omega)
  have ek := hz k hk
  have ne : ¬ (0 : Int32) = nI m := fun q => nI_ne0 (n := m) hm (by omega) q.symm
  obtain ⟨h0, ⟨-, r4, -⟩, -, ⟨j, k0⟩, -⟩ := h.1.1
  have z := h.fz (x := 6) (by decide)
  have i1 := z.1.1
  simp (disch := omega) only [r196_0, r196_1, r196_4, r196_5, r196_6, r196_7, r196_10, r196_11, r196_12, r196_15, r196_16, r196_19, r196_20, r196_21, r196_24, r196_25, r196_27, r196_30, r196_31, r196_34, h0, r4, j, k0, ek, ne, e0, flaw_0 h0 h.2.1, i1, next_z z.fw, xinbT, xixT, leT, leF, ltT, ltF, ngF, psT, n1F, n2F, km2, km3, km4, km5, km10, km15, km25, kl8, kl14, kl24, kl34, kl274, kl354, kl384, kr1, kr2, kr3, kr4, kr5, kr6, kr7, kr8, kr9, kaa, lb0, lb1, lb2, lb3, lb4, lb5, lb6, lb7, li0, li1, li2, li3, li4, li5, li6, li7, true_and, and_true, Option.some.injEq, exists_eq_left', Option.toList_some, Option.toList_none, List.cons_append, List.nil_append, xcat_nil, xcat_int, xcat_ref, xcat_long, not_true, not_false_iff, if_true, if_false, and_self, and_false, false_and, or_true, true_or, or_self, z01, z10, zle8, Nat.reduceAdd, Nat.reduceLeDiff]
  exact hF _ ny_fl z
end
