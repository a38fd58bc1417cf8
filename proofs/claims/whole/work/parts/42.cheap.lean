/-! THE CHEAPEST POINT -/
section
variable {u w : xMem} {P : Option Value → xMem → Prop} {D s nl np nb nc nr nh nk : Nat} {c d : Int32}
/-- what a row of points does -/
theorem cheap_row (h : okD u D s nl np nb nc nr nh nk) (hD : D = 6 ∨ D = 34) {y : Nat} {z : Int32 × Int32}
    (hP : ∀ w v4 v5, xag SC u w → Lk w D nb np d → Tk w D nr np c d → zr 40 73 [.ref D, .int (fChp (fun y x => dSr u D nb np nl nr c d (nI x) (nI y)) y (s + 1) z).1, .int (fChp (fun y x => dSr u D nb np nl nr c d (nI x) (nI y)) y (s + 1) z).2, .int (nI y), v4, v5] [] w P) :
    ∀ r x w v, x + r = s + 1 → xag SC u w → Lk w D nb np d → Tk w D nr np c d →
    zr 40 25 [.ref D, .int (fChp (fun y x => dSr u D nb np nl nr c d (nI x) (nI y)) y x z).1, .int (fChp (fun y x => dSr u D nb np nl nr c d (nI x) (nI y)) y x z).2, .int (nI y), .int (nI x), v] [] w P := by
  intro r
  induction r with
  | zero =>
    intro x w v hx hw hk ht
    have : x = s + 1 := by omega
    subst this
    have hw' := h.ag hw hD
    obtain ⟨h0, ⟨e0, e1, e2⟩, hG, hT, -⟩ := hw'.1
    have hs := hw'.2.1
    rw [r40_25]
    simp only [r40_27, r40_28, r40_31, r40_34, h0, e0, hG.1, hs.1, nI_lt (show s < s + 1 by omega) (by omega), true_and, and_true, Option.some.injEq, exists_eq_left', Option.toList_some, Option.toList_none, List.cons_append, List.nil_append, xcat_nil, xcat_int, xcat_ref, xcat_long, not_true, not_false_iff, if_true, if_false, and_self, and_false, false_and, or_true, true_or, or_self, z01, z10, zle8, Nat.reduceAdd, Nat.reduceLeDiff]
    exact hP w _ _ hw hk ht
  | succ r ih =>
    intro x w v hx hw hk ht
    have hw' := h.ag hw hD
    obtain ⟨h0, ⟨e0, e1, e2⟩, hG, hT, -⟩ := hw'.1
    have hs := hw'.2.1
    have q0 : ¬ nI s < nI x := nI_nlt (by omega) (by omega)
    rw [r40_25]
    by_cases c0 : (fChp (fun y x => dSr u D nb np nl nr c d (nI x) (nI y)) y x z).1 ≤ 0
    · simp only [r40_27, r40_28, r40_31, r40_34, r40_37, r40_38, h0, e0, hG.1, hs.1, q0, c0, true_and, and_true, Option.some.injEq, exists_eq_left', Option.toList_some, Option.toList_none, List.cons_append, List.nil_append, xcat_nil, xcat_int, xcat_ref, xcat_long, not_true, not_false_iff, if_true, if_false, and_self, and_false, false_and, or_true, true_or, or_self, z01, z10, zle8, Nat.reduceAdd, Nat.reduceLeDiff]
      have hP := hP w (.int (nI x)) v hw hk ht
      rw [← hx, fChp_more (r + 1) x c0] at hP
      exact hP
    · simp only [r40_27, r40_28, r40_31, r40_34, r40_37, r40_38, r40_41, r40_42, r40_44, r40_45, h0, e0, hG.1, hs.1, q0, c0, true_and, and_true, Option.some.injEq, exists_eq_left', Option.toList_some, Option.toList_none, List.cons_append, List.nil_append, xcat_nil, xcat_int, xcat_ref, xcat_long, not_true, not_false_iff, if_true, if_false, and_self, and_false, false_and, or_true, true_or, or_self, z01, z10, zle8, Nat.reduceAdd, Nat.reduceLeDiff]
      refine ratesOver_run hw' hD hk ht (fun w2 hw2 hk2 ht2 => ?_)
      rw [dSr_ag hw hD]
      have ih := ih (x + 1) w2 (.int (dSr u D nb np nl nr c d (nI x) (nI y))) (by omega) (hw.tr hw2) hk2 ht2
      simp only [fChp] at ih
      simp only [r40_48, r40_50, r40_52, r40_53, r40_56, r40_58, r40_59, r40_61, r40_63, r40_64, r40_65, r40_66, r40_67, r40_70, nI_1, true_and, and_true, Option.some.injEq, exists_eq_left', Option.toList_some, Option.toList_none, List.cons_append, List.nil_append, xcat_nil, xcat_int, xcat_ref, xcat_long, not_true, not_false_iff, if_true, if_false, and_self, and_false, false_and, or_true, true_or, or_self, z01, z10, zle8, Nat.reduceAdd, Nat.reduceLeDiff]
      by_cases c1 : (fChp (fun y x => dSr u D nb np nl nr c d (nI x) (nI y)) y x z).1 ≤ dSr u D nb np nl nr c d (nI x) (nI y)
      · rw [if_neg (fun q => i32_nlt.mpr c1 q.2)] at ih
        simp only [c1, true_and, and_true, Option.some.injEq, exists_eq_left', Option.toList_some, Option.toList_none, List.cons_append, List.nil_append, xcat_nil, xcat_int, xcat_ref, xcat_long, not_true, not_false_iff, if_true, if_false, and_self, and_false, false_and, or_true, true_or, or_self, z01, z10, zle8, Nat.reduceAdd, Nat.reduceLeDiff]
        exact ih
      · rw [if_pos ⟨i32_nle.mp c0, i32_nle.mp c1⟩] at ih
        simp only [c1, true_and, and_true, Option.some.injEq, exists_eq_left', Option.toList_some, Option.toList_none, List.cons_append, List.nil_append, xcat_nil, xcat_int, xcat_ref, xcat_long, not_true, not_false_iff, if_true, if_false, and_self, and_false, false_and, or_true, true_or, or_self, z01, z10, zle8, Nat.reduceAdd, Nat.reduceLeDiff]
        exact ih
theorem cheap_run (h : okD u D s nl np nb nc nr nh nk) (hD : D = 6 ∨ D = 34) (hk : Lk u D nb np d) (ht : Tk u D nr np c d)
    (hP : ∀ w, xag SC u w → P (some (.int (fChq (fun y x => dSr u D nb np nl nr c d (nI x) (nI y)) s (s + 1) (2147483647, 0)).2)) w) : zr 40 0 [.ref D, .null, .null, .null, .null, .null] [] u P := by
  have lp : ∀ r y w v4 v5, y + r = s + 1 → xag SC u w → Lk w D nb np d → Tk w D nr np c d → zr 40 7 [.ref D, .int (fChq (fun y x => dSr u D nb np nl nr c d (nI x) (nI y)) s y (2147483647, 0)).1, .int (fChq (fun y x => dSr u D nb np nl nr c d (nI x) (nI y)) s y (2147483647, 0)).2, .int (nI y), v4, v5] [] w P := by
    intro r
    induction r with
    | zero =>
      intro y w v4 v5 hy hw hk ht
      have : y = s + 1 := by omega
      subst this
      have hw' := h.ag hw hD
      obtain ⟨h0, ⟨e0, e1, e2⟩, hG, hT, -⟩ := hw'.1
      have hs := hw'.2.1
      rw [r40_7]
      simp only [r40_8, r40_9, r40_12, r40_15, r40_79, r40_80, h0, e0, hG.1, hs.1, nI_lt (show s < s + 1 by omega) (by omega), true_and, and_true, Option.some.injEq, exists_eq_left', Option.toList_some, Option.toList_none, List.cons_append, List.nil_append, xcat_nil, xcat_int, xcat_ref, xcat_long, not_true, not_false_iff, if_true, if_false, and_self, and_false, false_and, or_true, true_or, or_self, z01, z10, zle8, Nat.reduceAdd, Nat.reduceLeDiff]
      exact hP w hw
    | succ r ih =>
      intro y w v4 v5 hy hw hk ht
      have hw' := h.ag hw hD
      obtain ⟨h0, ⟨e0, e1, e2⟩, hG, hT, -⟩ := hw'.1
      have hs := hw'.2.1
      have q0 : ¬ nI s < nI y := nI_nlt (by omega) (by omega)
      rw [r40_7]
      by_cases c0 : (fChq (fun y x => dSr u D nb np nl nr c d (nI x) (nI y)) s y (2147483647, 0)).1 ≤ 0
      · simp only [r40_8, r40_9, r40_12, r40_15, r40_18, r40_19, r40_79, r40_80, h0, e0, hG.1, hs.1, q0, c0, true_and, and_true, Option.some.injEq, exists_eq_left', Option.toList_some, Option.toList_none, List.cons_append, List.nil_append, xcat_nil, xcat_int, xcat_ref, xcat_long, not_true, not_false_iff, if_true, if_false, and_self, and_false, false_and, or_true, true_or, or_self, z01, z10, zle8, Nat.reduceAdd, Nat.reduceLeDiff]
        have hP := hP w hw
        rw [← hy, fChq_0 (r + 1) y _ c0] at hP
        exact hP
      · simp only [r40_8, r40_9, r40_12, r40_15, r40_18, r40_19, r40_22, r40_23, h0, e0, hG.1, hs.1, q0, c0, true_and, and_true, Option.some.injEq, exists_eq_left', Option.toList_some, Option.toList_none, List.cons_append, List.nil_append, xcat_nil, xcat_int, xcat_ref, xcat_long, not_true, not_false_iff, if_true, if_false, and_self, and_false, false_and, or_true, true_or, or_self, z01, z10, zle8, Nat.reduceAdd, Nat.reduceLeDiff]
        refine cheap_row (z := fChq (fun y x => dSr u D nb np nl nr c d (nI x) (nI y)) s y (2147483647, 0)) h hD (fun w2 v4 v5 hw2 hk2 ht2 => ?_) (s + 1) 0 w _ (by omega) hw hk ht
        rw [r40_73, r40_76, nI_1]
        exact ih (y + 1) w2 _ _ (by omega) hw2 hk2 ht2
  simp only [r40_0, r40_2, r40_3, r40_4, r40_5, r40_6]
  exact lp (s + 1) 0 u .null .null (by omega) xag.rf hk ht
end
