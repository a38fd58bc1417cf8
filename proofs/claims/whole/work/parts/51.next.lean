/-! THE NEXT STACK -/
section
variable {u w : xMem} {P : Option Value → xMem → Prop} {D s nl np nb nc nr nh nk : Nat} {d x y : Int32}
/-- a stack as a mask -/
def fMk (L : List Int32) : Nat → Int32
  | 0 => 0
  | k + 1 => fMk L k ||| (1 <<< (L.getD k 0 &&& 31))
def dMk (u : xMem) (D nb np nl : Nat) (d x y : Int32) : Int32 := fMk (dStk u D nb np nl d x y) (dStk u D nb np nl d x y).length
theorem dMk_ag (hw : xag SC u w) (hD : D = 6 ∨ D = 34) : dMk w D nb np nl d x y = dMk u D nb np nl d x y := by
  unfold dMk
  rw [dStk_ag hw hD]
theorem pileMask_run (h : okD u D s nl np nb nc nr nh nk) (hD : D = 6 ∨ D = 34) (hP : ∀ w, xag SC u w → P (some (.int (dMk u D nb np nl d x y))) w) : zr 48 0 [.ref (D + 1), .int d, .int x, .int y, .null, .null] [] u P := by
  have hG := h.gr
  simp only [r48_0, r48_1, r48_2, hG.1, true_and, and_true, Option.some.injEq, exists_eq_left', Option.toList_some, Option.toList_none, List.cons_append, List.nil_append, xcat_nil, xcat_int, xcat_ref, xcat_long, not_true, not_false_iff, if_true, if_false, and_self, and_false, false_and, or_true, true_or, or_self, z01, z10, zle8, Nat.reduceAdd, Nat.reduceLeDiff]
  refine look_lk h hD (fun w hw0 hk => ?_)
  have hw := hw0.scL hD
  have hw' := h.ag hw hD
  simp only [r48_5, r48_6, r48_7, r48_8, hw'.gr.1, true_and, and_true, Option.some.injEq, exists_eq_left', Option.toList_some, Option.toList_none, List.cons_append, List.nil_append, xcat_nil, xcat_int, xcat_ref, xcat_long, not_true, not_false_iff, if_true, if_false, and_self, and_false, false_and, or_true, true_or, or_self, z01, z10, zle8, Nat.reduceAdd, Nat.reduceLeDiff]
  refine pile_lk hw' hD hk (fun v hv0 hkv hPl => ?_)
  have hv := hv0.scP hD
  have huv := hw.tr hv
  have hv' := hw'.ag hv hD
  rw [dStk_ag hw hD] at hPl
  have hlen := dStk_len (u := u) (D := D) (nb := nb) (np := np) (nl := nl) (d := d) (x := x) (y := y)
  have hnl := h.2.2.1.2
  obtain ⟨g0, ⟨-, -, -, -, g7⟩, -, -, -, -, ⟨i7, n7⟩⟩ := hv'.gr
  have i7 : xIs v (D + 11) 13 := i7
  have n7 : xN v (D + 11) = 4 := n7
  have g7 : xR v (D + 1) 7 = some (D + 11) := g7
  have lp : ∀ r i, i + r = (dStk u D nb np nl d x y).length → zr 48 17 [.ref (D + 1), .int d, .int x, .int y, .int (fMk (dStk u D nb np nl d x y) i), .int (nI i)] [] v P := by
    intro r
    induction r with
    | zero =>
      intro i hi
      have : i = (dStk u D nb np nl d x y).length := by omega
      rw [r48_17]
      simp only [r48_19, r48_20, r48_23, r48_46, r48_48, g0, hPl.1, true_and, and_true, Option.some.injEq, exists_eq_left', Option.toList_some, Option.toList_none, List.cons_append, List.nil_append, xcat_nil, xcat_int, xcat_ref, xcat_long, not_true, not_false_iff, if_true, if_false, and_self, and_false, false_and, or_true, true_or, or_self, z01, z10, zle8, Nat.reduceAdd, Nat.reduceLeDiff]
      rw [if_pos (nI_le (by omega) (by omega)), this]
      exact hP v huv
    | succ r ih =>
      intro i hi
      have q0 : ¬ nI (dStk u D nb np nl d x y).length ≤ nI i := nI_ge (by omega) (by omega)
      have q1 : xinb (nI i) 4 := xinb_nI (by omega) (by omega)
      have q2 : xix (nI i) = i := xix_nI (by omega)
      have ih := ih (i + 1) (by omega)
      simp only [fMk] at ih
      rw [r48_17]
      simp only [r48_19, r48_20, r48_23, r48_26, r48_28, r48_29, r48_30, r48_33, r48_35, r48_36, r48_37, r48_38, r48_40, r48_43, g0, hPl.1, hPl.2 i (by omega), g7, i7, n7, q0, q1, q2, nI_1, true_and, and_true, Option.some.injEq, exists_eq_left', Option.toList_some, Option.toList_none, List.cons_append, List.nil_append, xcat_nil, xcat_int, xcat_ref, xcat_long, not_true, not_false_iff, if_true, if_false, and_self, and_false, false_and, or_true, true_or, or_self, z01, z10, zle8, Nat.reduceAdd, Nat.reduceLeDiff]
      exact ih
  simp only [r48_11, r48_12, r48_14, r48_15, true_and, and_true, Option.some.injEq, exists_eq_left', Option.toList_some, Option.toList_none, List.cons_append, List.nil_append, xcat_nil, xcat_int, xcat_ref, xcat_long, not_true, not_false_iff, if_true, if_false, and_self, and_false, false_and, or_true, true_or, or_self, z01, z10, zle8, Nat.reduceAdd, Nat.reduceLeDiff]
  exact lp (dStk u D nb np nl d x y).length 0 (by omega)
/-- the next day with another mask, by the days of bounds -/
def fNp (mk nx : Int32 → Int32) (z : Int32) : Nat → Int32 → Int32
  | 0, _ => -2
  | r + 1, t => if 999 < t then -2 else if mk t = z then fNp mk nx z r (nx t) else t
theorem nextPile_run (h : okD u D s nl np nb nc nr nh nk) (hD : D = 6 ∨ D = 34)
    (hP : ∀ w, xag SC u w → P (some (.int (fNp (fun d => dMk u D nb np nl d x y) (fun d => fNa (xI u (D + 6)) d nb) (dMk u D nb np nl d x y) 16 (fNa (xI u (D + 6)) d nb)))) w) : zr 49 0 [.ref (D + 1), .int d, .int x, .int y, .null, .null, .null] [] u P := by
  have hN : ∀ (v : xMem), xag SC u v → ∀ (d : Int32) (P : Option Value → xMem → Prop), zr 24 0 [.ref (D + 4), .int d, .null, .null] [] v P = P (some (.int (fNa (xI u (D + 6)) d nb))) v := by
    intro v hv d P
    have hv' := h.ag hv hD
    have := nextOfAll_run (b := D + 4) (d := d) (P := P) hv'.gr.2.2.2.2.1 hv'.2.2.2.2.1.1 hv'.2.2.2.2.1.2
    have e : xI v (D + 6) = xI u (D + 6) := agD hv hD 6 (by omega)
    have this : zr 24 0 [.ref (D + 4), .int d, .null, .null] [] v P = P (some (.int (fNa (xI v (D + 6)) d nb))) v := this
    rw [e] at this
    exact this
  have lp : ∀ r i w t, i + r = 16 → xag SC u w → (∀ v, xag SC u v → P (some (.int (fNp (fun d => dMk u D nb np nl d x y) (fun d => fNa (xI u (D + 6)) d nb) (dMk u D nb np nl d x y) r t))) v) →
      zr 49 22 [.ref (D + 1), .int d, .int x, .int y, .int (dMk u D nb np nl d x y), .int t, .int (nI i)] [] w P := by
    intro r
    induction r with
    | zero =>
      intro i w t hi hw hP
      have : i = 16 := by omega
      subst this
      rw [r49_22]
      simp only [r49_24, r49_26, r49_70, r49_72, if_pos (show (16 : Int32) ≤ nI 16 by decide), true_and, and_true, Option.some.injEq, exists_eq_left', Option.toList_some, Option.toList_none, List.cons_append, List.nil_append, xcat_nil, xcat_int, xcat_ref, xcat_long, not_true, not_false_iff, if_true, if_false, and_self, and_false, false_and, or_true, true_or, or_self, z01, z10, zle8, Nat.reduceAdd, Nat.reduceLeDiff]
      exact hP w hw
    | succ r ih =>
      intro i w t hi hw hP
      have q0 : ¬ (16 : Int32) ≤ nI i := nI_ge (b := 16) (by omega) (by omega)
      have hw' := h.ag hw hD
      rw [r49_22]
      by_cases c1 : 999 < t
      · simp only [r49_24, r49_26, r49_29, r49_31, r49_34, r49_70, r49_72, q0, c1, true_and, and_true, Option.some.injEq, exists_eq_left', Option.toList_some, Option.toList_none, List.cons_append, List.nil_append, xcat_nil, xcat_int, xcat_ref, xcat_long, not_true, not_false_iff, if_true, if_false, and_self, and_false, false_and, or_true, true_or, or_self, z01, z10, zle8, Nat.reduceAdd, Nat.reduceLeDiff]
        have := hP w hw
        unfold fNp at this
        rw [if_pos c1] at this
        exact this
      · simp only [r49_24, r49_26, r49_29, r49_31, r49_34, r49_37, r49_38, r49_40, r49_41, r49_42, q0, c1, hw'.gr.1, true_and, and_true, Option.some.injEq, exists_eq_left', Option.toList_some, Option.toList_none, List.cons_append, List.nil_append, xcat_nil, xcat_int, xcat_ref, xcat_long, not_true, not_false_iff, if_true, if_false, and_self, and_false, false_and, or_true, true_or, or_self, z01, z10, zle8, Nat.reduceAdd, Nat.reduceLeDiff]
        refine pileMask_run hw' hD (fun v hv => ?_)
        have huv := hw.tr hv
        have hv' := h.ag huv hD
        have g5 : xR v (D + 1) 5 = some (D + 4) := hv'.gr.2.1.2.2.1
        have b0 : xIs v (D + 4) 2 := hv'.gr.2.2.2.2.1.1
        rw [dMk_ag hw hD]
        have hP := fun v hv => hP v hv
        unfold fNp at hP
        simp only [if_neg c1] at hP
        simp only [r49_45, r49_47, r49_50, r49_52, r49_53, r49_54, r49_57, r49_59, r49_62, r49_64, r49_67, hv'.gr.1, g5, b0, hN v huv, nI_1, true_and, and_true, Option.some.injEq, exists_eq_left', Option.toList_some, Option.toList_none, List.cons_append, List.nil_append, xcat_nil, xcat_int, xcat_ref, xcat_long, not_true, not_false_iff, if_true, if_false, and_self, and_false, false_and, or_true, true_or, or_self, z01, z10, zle8, Nat.reduceAdd, Nat.reduceLeDiff]
        by_cases c2 : dMk u D nb np nl t x y = dMk u D nb np nl d x y
        · simp only [c2, true_and, and_true, Option.some.injEq, exists_eq_left', Option.toList_some, Option.toList_none, List.cons_append, List.nil_append, xcat_nil, xcat_int, xcat_ref, xcat_long, not_true, not_false_iff, if_true, if_false, and_self, and_false, false_and, or_true, true_or, or_self, z01, z10, zle8, Nat.reduceAdd, Nat.reduceLeDiff] at hP ⊢
          exact ih (i + 1) v _ (by omega) huv hP
        · simp only [c2, true_and, and_true, Option.some.injEq, exists_eq_left', Option.toList_some, Option.toList_none, List.cons_append, List.nil_append, xcat_nil, xcat_int, xcat_ref, xcat_long, not_true, not_false_iff, if_true, if_false, and_self, and_false, false_and, or_true, true_or, or_self, z01, z10, zle8, Nat.reduceAdd, Nat.reduceLeDiff] at hP ⊢
          exact hP v huv
  simp only [r49_0, r49_1, r49_2, r49_3, r49_4, h.gr.1, true_and, and_true, Option.some.injEq, exists_eq_left', Option.toList_some, Option.toList_none, List.cons_append, List.nil_append, xcat_nil, xcat_int, xcat_ref, xcat_long, not_true, not_false_iff, if_true, if_false, and_self, and_false, false_and, or_true, true_or, or_self, z01, z10, zle8, Nat.reduceAdd, Nat.reduceLeDiff]
  refine pileMask_run h hD (fun v hv => ?_)
  have hv' := h.ag hv hD
  have g5 : xR v (D + 1) 5 = some (D + 4) := hv'.gr.2.1.2.2.1
  have b0 : xIs v (D + 4) 2 := hv'.gr.2.2.2.2.1.1
  simp only [r49_7, r49_9, r49_10, r49_13, r49_14, r49_17, r49_19, r49_20, hv'.gr.1, g5, b0, hN v hv, true_and, and_true, Option.some.injEq, exists_eq_left', Option.toList_some, Option.toList_none, List.cons_append, List.nil_append, xcat_nil, xcat_int, xcat_ref, xcat_long, not_true, not_false_iff, if_true, if_false, and_self, and_false, false_and, or_true, true_or, or_self, z01, z10, zle8, Nat.reduceAdd, Nat.reduceLeDiff]
  exact lp 16 0 v _ (by omega) hv hP
end
