/-! WHAT THE CONSTRUCTORS MAKE, composed -/
/-- a reader lies at b -/
def sRe (u : xMem) (b : Nat) : Prop := xIs u b 7 ∧ (xR u b 0 = some (b + 1) ∧ xR u b 1 = some (b + 3) ∧ xR u b 2 = some (b + 4) ∧ xR u b 3 = some (b + 5)) ∧ sA u (b + 3) 14 6 ∧ sA u (b + 4) 14 10 ∧ sTp u (b + 1) ∧ sDk u (b + 5)
section
variable {u u' : xMem} {a w c z k : Nat} {Q : Option Value → xMem → Prop}
theorem Mk.is (h : Mk u u' w c z) (hw : xW u = w) (hb : w < 1000000) (ha : a < w) : xIs u' a k = xIs u a k := by
  unfold xIs
  rw [h.1, hw, (h.2.2.1 a (Or.inl ha)).1]
  apply propext
  exact ⟨fun q => ⟨ha, q.2⟩, fun q => ⟨by omega, q.2⟩⟩
theorem mk_Gr (hw : xW u = w) (hV : xV u = true) (hb : w < 998000) (hP : ∀ u', Mk u u' w 11 11 → sGr u' w → Q none u') : zr 42 0 [.ref w] [] (xnew u 4 0 9) Q := by
  have hb1 : w + 1 < 1000000 := by omega
  have hb2 : w + 1 + 1 < 1000000 := by omega
  have hb3 : w + 1 + 1 + 1 < 1000000 := by omega
  have hb4 : w + 1 + 1 + 1 + 1 < 1000000 := by omega
  have hb5 : w + 1 + 1 + 1 + 1 + 1 < 1000000 := by omega
  have hb6 : w + 1 + 1 + 1 + 1 + 1 + 1 < 1000000 := by omega
  have hb7 : w + 1 + 1 + 1 + 1 + 1 + 1 + 1 < 1000000 := by omega
  have hb8 : w + 1 + 1 + 1 + 1 + 1 + 1 + 1 + 1 < 1000000 := by omega
  simp (disch := (first | omega | (simp only [xW_new, xW_sR, xW_sI]; omega))) only [r42_0, r42_1, r42_4, r42_5, r42_9, r42_12, r42_13, r42_17, r42_20, r42_7, r42_15, r42_21, r42_24, r42_25, xIs_e, xIs_n, xIs_sR', xIs_sI, xW_new, xW_sR, xW_sI, xV_new, xV_sR, xV_sI, hw, hV, hb1, hb2, hb3, hb4, hb5, hb6, hb7, hb8, show (0 : Int32) ≤ 4 by decide, show (4 : Int32) ≤ 2000 by decide, show xix 4 = 4 from rfl, show (0 : Int32) ≤ 6 by decide, show (6 : Int32) ≤ 2000 by decide, show xix 6 = 6 from rfl, show (0 : Int32) ≤ 8 by decide, show (8 : Int32) ≤ 2000 by decide, show xix 8 = 8 from rfl, show (0 : Int32) ≤ 10 by decide, show (10 : Int32) ≤ 2000 by decide, show xix 10 = 10 from rfl, show (0 : Int32) ≤ 12 by decide, show (12 : Int32) ≤ 2000 by decide, show xix 12 = 12 from rfl, show (0 : Int32) ≤ 16 by decide, show (16 : Int32) ≤ 2000 by decide, show xix 16 = 16 from rfl, show (0 : Int32) ≤ 20 by decide, show (20 : Int32) ≤ 2000 by decide, show xix 20 = 20 from rfl, show (0 : Int32) ≤ 40 by decide, show (40 : Int32) ≤ 2000 by decide, show xix 40 = 40 from rfl, show (0 : Int32) ≤ 60 by decide, show (60 : Int32) ≤ 2000 by decide, show xix 60 = 60 from rfl, show (0 : Int32) ≤ 96 by decide, show (96 : Int32) ≤ 2000 by decide, show xix 96 = 96 from rfl, show (0 : Int32) ≤ 120 by decide, show (120 : Int32) ≤ 2000 by decide, show xix 120 = 120 from rfl, show (0 : Int32) ≤ 402 by decide, show (402 : Int32) ≤ 2000 by decide, show xix 402 = 402 from rfl, show (0 : Int32) ≤ 1000 by decide, show (1000 : Int32) ≤ 2000 by decide, show xix 1000 = 1000 from rfl, show (0 : Int32) ≤ 1200 by decide, show (1200 : Int32) ≤ 2000 by decide, show xix 1200 = 1200 from rfl, true_and, and_true, Option.some.injEq, exists_eq_left', Option.toList_some, Option.toList_none, List.cons_append, List.nil_append, xcat_nil, xcat_int, xcat_ref, xcat_long, not_true, not_false_iff, if_true, if_false, and_self, and_false, false_and, or_true, true_or, or_self, z01, z10, zle8, Nat.reduceAdd, Nat.reduceLeDiff]
  refine mk_Bd (w := w + 1 + 1 + 1) (by simp only [xW_new, xW_sR, xW_sI]; omega) hV (by omega) (fun u1 h1 s1 => ?_)
  have W1 : xW u1 = w + 1 + 1 + 1 + 6 := h1.1
  have V1 : xV u1 = true := h1.2.1.trans hV
  have i1 : ∀ a k, a < w + 1 + 1 + 1 → xIs u1 a k = xIs (xsR (xnew (xsR (xnew (xnew u 4 0 9) 13 10 10) w 3 (some (w + 1))) 15 10 10) w 4 (some (w + 1 + 1))) a k := fun a k q => h1.is (by simp only [xW_new, xW_sR, xW_sI]; omega) (by omega) q
  have f1 := h1.2.2.1
  have z1 := h1.2.2.2
  have n1 : ∀ a, a < w + 3 → xN u1 a = xN (xsR (xnew (xsR (xnew (xnew u 4 0 9) 13 10 10) w 3 (some (w + 1))) 15 10 10) w 4 (some (w + 1 + 1))) a := fun a q => (f1 a (Or.inl (by omega))).2.1
  have r1 : ∀ a j, a < w + 3 → xR u1 a j = xR (xsR (xnew (xsR (xnew (xnew u 4 0 9) 13 10 10) w 3 (some (w + 1))) 15 10 10) w 4 (some (w + 1 + 1))) a j := fun a j q => congrFun (f1 a (Or.inl (by omega))).2.2.2 j
  have e1 : ∀ a, a < w + 3 → xI u1 a = xI (xsR (xnew (xsR (xnew (xnew u 4 0 9) 13 10 10) w 3 (some (w + 1))) 15 10 10) w 4 (some (w + 1 + 1))) a := fun a q => (f1 a (Or.inl (by omega))).2.2.1
  simp only [sB, sA, Nat.add_assoc, Nat.reduceAdd] at s1
  simp only [Nat.add_assoc, Nat.reduceAdd] at W1 i1 n1 r1 e1
  have hb9 : w + 9 < 1000000 := by omega
  have hb10 : w + 10 < 1000000 := by omega
  simp (disch := (first | omega | (simp only [xW_new, xW_sR, xW_sI]; omega))) only [r42_28, r42_31, r42_32, r42_36, r42_39, r42_40, r42_43, r42_46, r42_34, r42_41, i1, xIs_e, xIs_n, xIs_sR', xIs_sI, xW_new, xW_sR, xW_sI, xV_new, xV_sR, xV_sI, W1, V1, hb9, hb10, show (0 : Int32) ≤ 4 by decide, show (4 : Int32) ≤ 2000 by decide, show xix 4 = 4 from rfl, show (0 : Int32) ≤ 6 by decide, show (6 : Int32) ≤ 2000 by decide, show xix 6 = 6 from rfl, show (0 : Int32) ≤ 8 by decide, show (8 : Int32) ≤ 2000 by decide, show xix 8 = 8 from rfl, show (0 : Int32) ≤ 10 by decide, show (10 : Int32) ≤ 2000 by decide, show xix 10 = 10 from rfl, show (0 : Int32) ≤ 12 by decide, show (12 : Int32) ≤ 2000 by decide, show xix 12 = 12 from rfl, show (0 : Int32) ≤ 16 by decide, show (16 : Int32) ≤ 2000 by decide, show xix 16 = 16 from rfl, show (0 : Int32) ≤ 20 by decide, show (20 : Int32) ≤ 2000 by decide, show xix 20 = 20 from rfl, show (0 : Int32) ≤ 40 by decide, show (40 : Int32) ≤ 2000 by decide, show xix 40 = 40 from rfl, show (0 : Int32) ≤ 60 by decide, show (60 : Int32) ≤ 2000 by decide, show xix 60 = 60 from rfl, show (0 : Int32) ≤ 96 by decide, show (96 : Int32) ≤ 2000 by decide, show xix 96 = 96 from rfl, show (0 : Int32) ≤ 120 by decide, show (120 : Int32) ≤ 2000 by decide, show xix 120 = 120 from rfl, show (0 : Int32) ≤ 402 by decide, show (402 : Int32) ≤ 2000 by decide, show xix 402 = 402 from rfl, show (0 : Int32) ≤ 1000 by decide, show (1000 : Int32) ≤ 2000 by decide, show xix 1000 = 1000 from rfl, show (0 : Int32) ≤ 1200 by decide, show (1200 : Int32) ≤ 2000 by decide, show xix 1200 = 1200 from rfl, Nat.add_assoc, true_and, and_true, Option.some.injEq, exists_eq_left', Option.toList_some, Option.toList_none, List.cons_append, List.nil_append, xcat_nil, xcat_int, xcat_ref, xcat_long, not_true, not_false_iff, if_true, if_false, and_self, and_false, false_and, or_true, true_or, or_self, z01, z10, zle8, Nat.reduceAdd, Nat.reduceLeDiff]
  refine hP _ ⟨?_, h1.2.1, fun a q => ?_, fun a j q1 q2 => ?_⟩ ?_
  · simp only [xW_new, xW_sR, xW_sI, W1]
  · obtain ⟨y1, y2, y3, y4⟩ := f1 a (by omega)
    simp (disch := (first | omega | (simp only [xW_new, xW_sR, xW_sI]; omega))) only [y1, y2, y3, y4, xK_ne, xK_sR, xK_sI, xN_n, xN_sR', xN_sI, xIf_n, xIf_R, xIf_sI, xRf_n, xRf_R, xRf_I, and_self]
  · by_cases q3 : w + 3 ≤ a ∧ a < w + 9
    · have y := z1 a j (by omega) (by omega)
      simp (disch := (first | omega | (simp only [xW_new, xW_sR, xW_sI]; omega))) only [xIf_n, xIf_R, y]
    · have : a = w ∨ a = w + 1 ∨ a = w + 2 ∨ a = w + 9 ∨ a = w + 10 := by omega
      rcases this with rfl | rfl | rfl | rfl | rfl <;> simp (disch := (first | omega | (simp only [xW_new, xW_sR, xW_sI]; omega))) only [e1, xIf_e, xIf_n, xIf_R]
  · simp (disch := (first | omega | (simp only [xW_new, xW_sR, xW_sI]; omega))) only [sGr, sB, sA, s1, i1, n1, r1, xIs_e, xIs_n, xIs_sR', xIs_sI, xN_e, xN_n, xN_sR', xN_sI, xR_R, xR_Rn, xR_nw, xR_sI, Nat.add_assoc, Nat.reduceAdd, and_self]
theorem mk_Tf (hw : xW u = w) (hV : xV u = true) (hb : w < 998000) (hP : ∀ u', Mk u u' w 15 15 → sTf u' w → Q none u') : zr 94 0 [.ref w] [] (xnew u 9 0 13) Q := by
  have hb1 : w + 1 < 1000000 := by omega
  have hb2 : w + 1 + 1 < 1000000 := by omega
  have hb3 : w + 1 + 1 + 1 < 1000000 := by omega
  have hb4 : w + 1 + 1 + 1 + 1 < 1000000 := by omega
  have hb5 : w + 1 + 1 + 1 + 1 + 1 < 1000000 := by omega
  have hb6 : w + 1 + 1 + 1 + 1 + 1 + 1 < 1000000 := by omega
  have hb7 : w + 1 + 1 + 1 + 1 + 1 + 1 + 1 < 1000000 := by omega
  have hb8 : w + 1 + 1 + 1 + 1 + 1 + 1 + 1 + 1 < 1000000 := by omega
  simp (disch := (first | omega | (simp only [xW_new, xW_sR, xW_sI]; omega))) only [r94_0, r94_1, r94_4, r94_5, r94_9, r94_12, r94_7, r94_13, r94_16, r94_17, xIs_e, xIs_n, xIs_sR', xIs_sI, xW_new, xW_sR, xW_sI, xV_new, xV_sR, xV_sI, hw, hV, hb1, hb2, hb3, hb4, hb5, hb6, hb7, hb8, show (0 : Int32) ≤ 4 by decide, show (4 : Int32) ≤ 2000 by decide, show xix 4 = 4 from rfl, show (0 : Int32) ≤ 6 by decide, show (6 : Int32) ≤ 2000 by decide, show xix 6 = 6 from rfl, show (0 : Int32) ≤ 8 by decide, show (8 : Int32) ≤ 2000 by decide, show xix 8 = 8 from rfl, show (0 : Int32) ≤ 10 by decide, show (10 : Int32) ≤ 2000 by decide, show xix 10 = 10 from rfl, show (0 : Int32) ≤ 12 by decide, show (12 : Int32) ≤ 2000 by decide, show xix 12 = 12 from rfl, show (0 : Int32) ≤ 16 by decide, show (16 : Int32) ≤ 2000 by decide, show xix 16 = 16 from rfl, show (0 : Int32) ≤ 20 by decide, show (20 : Int32) ≤ 2000 by decide, show xix 20 = 20 from rfl, show (0 : Int32) ≤ 40 by decide, show (40 : Int32) ≤ 2000 by decide, show xix 40 = 40 from rfl, show (0 : Int32) ≤ 60 by decide, show (60 : Int32) ≤ 2000 by decide, show xix 60 = 60 from rfl, show (0 : Int32) ≤ 96 by decide, show (96 : Int32) ≤ 2000 by decide, show xix 96 = 96 from rfl, show (0 : Int32) ≤ 120 by decide, show (120 : Int32) ≤ 2000 by decide, show xix 120 = 120 from rfl, show (0 : Int32) ≤ 402 by decide, show (402 : Int32) ≤ 2000 by decide, show xix 402 = 402 from rfl, show (0 : Int32) ≤ 1000 by decide, show (1000 : Int32) ≤ 2000 by decide, show xix 1000 = 1000 from rfl, show (0 : Int32) ≤ 1200 by decide, show (1200 : Int32) ≤ 2000 by decide, show xix 1200 = 1200 from rfl, true_and, and_true, Option.some.injEq, exists_eq_left', Option.toList_some, Option.toList_none, List.cons_append, List.nil_append, xcat_nil, xcat_int, xcat_ref, xcat_long, not_true, not_false_iff, if_true, if_false, and_self, and_false, false_and, or_true, true_or, or_self, z01, z10, zle8, Nat.reduceAdd, Nat.reduceLeDiff]
  refine mk_Rt (w := w + 1 + 1) (by simp only [xW_new, xW_sR, xW_sI]; omega) hV (by omega) (fun u1 h1 s1 => ?_)
  have W1 : xW u1 = w + 1 + 1 + 5 := h1.1
  have V1 : xV u1 = true := h1.2.1.trans hV
  have i1 : ∀ a k, a < w + 1 + 1 → xIs u1 a k = xIs (xsR (xnew (xnew u 9 0 13) 13 6 6) w 1 (some (w + 1))) a k := fun a k q => h1.is (by simp only [xW_new, xW_sR, xW_sI]; omega) (by omega) q
  have f1 := h1.2.2.1
  have z1 := h1.2.2.2
  have n1 : ∀ a, a < w + 2 → xN u1 a = xN (xsR (xnew (xnew u 9 0 13) 13 6 6) w 1 (some (w + 1))) a := fun a q => (f1 a (Or.inl (by omega))).2.1
  have r1 : ∀ a j, a < w + 2 → xR u1 a j = xR (xsR (xnew (xnew u 9 0 13) 13 6 6) w 1 (some (w + 1))) a j := fun a j q => congrFun (f1 a (Or.inl (by omega))).2.2.2 j
  have e1 : ∀ a, a < w + 2 → xI u1 a = xI (xsR (xnew (xnew u 9 0 13) 13 6 6) w 1 (some (w + 1))) a := fun a q => (f1 a (Or.inl (by omega))).2.2.1
  simp only [sRt, sA, Nat.add_assoc, Nat.reduceAdd] at s1
  simp only [Nat.add_assoc, Nat.reduceAdd] at W1 i1 n1 r1 e1
  have hc7 : w + 7 < 1000000 := by omega
  have hc8 : w + 8 < 1000000 := by omega
  have hc9 : w + 9 < 1000000 := by omega
  have hc10 : w + 10 < 1000000 := by omega
  have hc11 : w + 11 < 1000000 := by omega
  have hc12 : w + 12 < 1000000 := by omega
  have hc13 : w + 13 < 1000000 := by omega
  have hc14 : w + 14 < 1000000 := by omega
  simp (disch := (first | omega | (simp only [xW_new, xW_sR, xW_sI]; omega))) only [r94_20, r94_23, r94_24, r94_28, r94_31, r94_32, r94_36, r94_39, r94_40, r94_44, r94_47, r94_48, r94_52, r94_55, r94_56, r94_60, r94_63, r94_64, r94_68, r94_71, r94_72, r94_76, r94_79, r94_80, r94_84, r94_87, r94_26, r94_34, r94_42, r94_50, r94_58, r94_66, r94_74, r94_82, i1, xIs_e, xIs_n, xIs_sR', xIs_sI, xW_new, xW_sR, xW_sI, xV_new, xV_sR, xV_sI, W1, V1, hc7, hc8, hc9, hc10, hc11, hc12, hc13, hc14, show (0 : Int32) ≤ 4 by decide, show (4 : Int32) ≤ 2000 by decide, show xix 4 = 4 from rfl, show (0 : Int32) ≤ 6 by decide, show (6 : Int32) ≤ 2000 by decide, show xix 6 = 6 from rfl, show (0 : Int32) ≤ 8 by decide, show (8 : Int32) ≤ 2000 by decide, show xix 8 = 8 from rfl, show (0 : Int32) ≤ 10 by decide, show (10 : Int32) ≤ 2000 by decide, show xix 10 = 10 from rfl, show (0 : Int32) ≤ 12 by decide, show (12 : Int32) ≤ 2000 by decide, show xix 12 = 12 from rfl, show (0 : Int32) ≤ 16 by decide, show (16 : Int32) ≤ 2000 by decide, show xix 16 = 16 from rfl, show (0 : Int32) ≤ 20 by decide, show (20 : Int32) ≤ 2000 by decide, show xix 20 = 20 from rfl, show (0 : Int32) ≤ 40 by decide, show (40 : Int32) ≤ 2000 by decide, show xix 40 = 40 from rfl, show (0 : Int32) ≤ 60 by decide, show (60 : Int32) ≤ 2000 by decide, show xix 60 = 60 from rfl, show (0 : Int32) ≤ 96 by decide, show (96 : Int32) ≤ 2000 by decide, show xix 96 = 96 from rfl, show (0 : Int32) ≤ 120 by decide, show (120 : Int32) ≤ 2000 by decide, show xix 120 = 120 from rfl, show (0 : Int32) ≤ 402 by decide, show (402 : Int32) ≤ 2000 by decide, show xix 402 = 402 from rfl, show (0 : Int32) ≤ 1000 by decide, show (1000 : Int32) ≤ 2000 by decide, show xix 1000 = 1000 from rfl, show (0 : Int32) ≤ 1200 by decide, show (1200 : Int32) ≤ 2000 by decide, show xix 1200 = 1200 from rfl, Nat.add_assoc, true_and, and_true, Option.some.injEq, exists_eq_left', Option.toList_some, Option.toList_none, List.cons_append, List.nil_append, xcat_nil, xcat_int, xcat_ref, xcat_long, not_true, not_false_iff, if_true, if_false, and_self, and_false, false_and, or_true, true_or, or_self, z01, z10, zle8, Nat.reduceAdd, Nat.reduceLeDiff]
  refine hP _ ⟨?_, h1.2.1, fun a q => ?_, fun a j q1 q2 => ?_⟩ ?_
  · simp only [xW_new, xW_sR, xW_sI, W1]
  · obtain ⟨y1, y2, y3, y4⟩ := f1 a (by omega)
    simp (disch := (first | omega | (simp only [xW_new, xW_sR, xW_sI]; omega))) only [y1, y2, y3, y4, xK_ne, xK_sR, xK_sI, xN_n, xN_sR', xN_sI, xIf_n, xIf_R, xIf_sI, xRf_n, xRf_R, xRf_I, and_self]
  · by_cases q3 : w + 2 ≤ a ∧ a < w + 7
    · have y := z1 a j (by omega) (by omega)
      simp (disch := (first | omega | (simp only [xW_new, xW_sR, xW_sI]; omega))) only [xIf_n, xIf_R, y]
    · have : a = w ∨ a = w + 1 ∨ a = w + 7 ∨ a = w + 8 ∨ a = w + 9 ∨ a = w + 10 ∨ a = w + 11 ∨ a = w + 12 ∨ a = w + 13 ∨ a = w + 14 := by omega
      rcases this with rfl | rfl | rfl | rfl | rfl | rfl | rfl | rfl | rfl | rfl <;> simp (disch := (first | omega | (simp only [xW_new, xW_sR, xW_sI]; omega))) only [e1, xIf_e, xIf_n, xIf_R]
  · simp (disch := (first | omega | (simp only [xW_new, xW_sR, xW_sI]; omega))) only [sTf, sRt, sA, s1, i1, n1, r1, xIs_e, xIs_n, xIs_sR', xIs_sI, xN_e, xN_n, xN_sR', xN_sI, xR_R, xR_Rn, xR_nw, xR_sI, Nat.add_assoc, Nat.reduceAdd, and_self]
theorem mk_Dk (hw : xW u = w) (hV : xV u = true) (hb : w < 997000) (hP : ∀ u', Mk u u' w 28 28 → sDk u' w → Q none u') : zr 34 0 [.ref w] [] (xnew u 3 0 3) Q := by
  have hb1 : w + 1 < 1000000 := by omega
  have hb2 : w + 1 + 1 < 1000000 := by omega
  have hb3 : w + 1 + 1 + 1 < 1000000 := by omega
  have hb4 : w + 1 + 1 + 1 + 1 < 1000000 := by omega
  have hb5 : w + 1 + 1 + 1 + 1 + 1 < 1000000 := by omega
  have hb6 : w + 1 + 1 + 1 + 1 + 1 + 1 < 1000000 := by omega
  have hb7 : w + 1 + 1 + 1 + 1 + 1 + 1 + 1 < 1000000 := by omega
  have hb8 : w + 1 + 1 + 1 + 1 + 1 + 1 + 1 + 1 < 1000000 := by omega
  simp (disch := (first | omega | (simp only [xW_new, xW_sR, xW_sI]; omega))) only [r34_0, r34_1, r34_4, r34_5, r34_8, r34_9, xIs_e, xIs_n, xIs_sR', xIs_sI, xW_new, xW_sR, xW_sI, xV_new, xV_sR, xV_sI, hw, hV, hb1, true_and, and_true, Option.some.injEq, exists_eq_left', Option.toList_some, Option.toList_none, List.cons_append, List.nil_append, xcat_nil, xcat_int, xcat_ref, xcat_long, not_true, not_false_iff, if_true, if_false, and_self, and_false, false_and, or_true, true_or, or_self, z01, z10, zle8, Nat.reduceAdd, Nat.reduceLeDiff]
  refine mk_Gr (w := w + 1) (by simp only [xW_new]; omega) hV (by omega) (fun u1 h1 s1 => ?_)
  have W1 : xW u1 = w + 1 + 11 := h1.1
  have V1 : xV u1 = true := h1.2.1.trans hV
  have i1 : ∀ a k, a < w + 1 → xIs u1 a k = xIs (xnew u 3 0 3) a k := fun a k q => h1.is (by simp only [xW_new]; omega) (by omega) q
  have f1 := h1.2.2.1
  have z1 := h1.2.2.2
  simp only [sGr, sTf, sB, sRt, sA, Nat.add_assoc, Nat.reduceAdd] at s1
  simp only [Nat.add_assoc, Nat.reduceAdd] at W1
  have hc12 : w + 12 < 1000000 := by omega
  have hc27 : w + 27 < 1000000 := by omega
  simp (disch := (first | omega | (simp only [xW_new, xW_sR, xW_sI]; omega))) only [r34_12, r34_15, r34_16, r34_19, r34_20, i1, xIs_e, xIs_n, xIs_sR', xIs_sI, xW_new, xW_sR, xW_sI, xV_new, xV_sR, xV_sI, W1, V1, hc12, Nat.add_assoc, true_and, and_true, Option.some.injEq, exists_eq_left', Option.toList_some, Option.toList_none, List.cons_append, List.nil_append, xcat_nil, xcat_int, xcat_ref, xcat_long, not_true, not_false_iff, if_true, if_false, and_self, and_false, false_and, or_true, true_or, or_self, z01, z10, zle8, Nat.reduceAdd, Nat.reduceLeDiff]
  refine mk_Tf (w := w + 12) (by simp only [xW_sR]; omega) V1 (by omega) (fun u2 h2 s2 => ?_)
  have W2 : xW u2 = w + 12 + 15 := h2.1
  have V2 : xV u2 = true := h2.2.1.trans V1
  have i2 : ∀ a k, a < w + 12 → xIs u2 a k = xIs (xsR u1 w 0 (some (w + 1))) a k := fun a k q => h2.is (by simp only [xW_sR]; omega) (by omega) q
  have f2 := h2.2.2.1
  have z2 := h2.2.2.2
  simp only [sGr, sTf, sB, sRt, sA, Nat.add_assoc, Nat.reduceAdd] at s2
  simp only [Nat.add_assoc, Nat.reduceAdd] at W2
  have n2 : ∀ a, a < w + 12 → xN u2 a = xN (xsR u1 w 0 (some (w + 1))) a := fun a q => (f2 a (Or.inl (by omega))).2.1
  have r2 : ∀ a j, a < w + 12 → xR u2 a j = xR (xsR u1 w 0 (some (w + 1))) a j := fun a j q => congrFun (f2 a (Or.inl (by omega))).2.2.2 j
  have e2 : ∀ a, a < w + 12 → xI u2 a = xI (xsR u1 w 0 (some (w + 1))) a := fun a q => (f2 a (Or.inl (by omega))).2.2.1
  have e1 : ∀ a, a < w + 1 → xI u1 a = xI (xnew u 3 0 3) a := fun a q => (f1 a (Or.inl (by omega))).2.2.1
  simp (disch := (first | omega | (simp only [xW_new, xW_sR, xW_sI]; omega))) only [r34_23, r34_26, r34_27, r34_31, r34_34, r34_29, i1, i2, xIs_e, xIs_n, xIs_sR', xIs_sI, xW_new, xW_sR, xW_sI, xV_new, xV_sR, xV_sI, W2, V2, hc27, show (0 : Int32) ≤ 4 by decide, show (4 : Int32) ≤ 2000 by decide, show xix 4 = 4 from rfl, show (0 : Int32) ≤ 6 by decide, show (6 : Int32) ≤ 2000 by decide, show xix 6 = 6 from rfl, show (0 : Int32) ≤ 8 by decide, show (8 : Int32) ≤ 2000 by decide, show xix 8 = 8 from rfl, show (0 : Int32) ≤ 10 by decide, show (10 : Int32) ≤ 2000 by decide, show xix 10 = 10 from rfl, show (0 : Int32) ≤ 12 by decide, show (12 : Int32) ≤ 2000 by decide, show xix 12 = 12 from rfl, show (0 : Int32) ≤ 16 by decide, show (16 : Int32) ≤ 2000 by decide, show xix 16 = 16 from rfl, show (0 : Int32) ≤ 20 by decide, show (20 : Int32) ≤ 2000 by decide, show xix 20 = 20 from rfl, show (0 : Int32) ≤ 40 by decide, show (40 : Int32) ≤ 2000 by decide, show xix 40 = 40 from rfl, show (0 : Int32) ≤ 60 by decide, show (60 : Int32) ≤ 2000 by decide, show xix 60 = 60 from rfl, show (0 : Int32) ≤ 96 by decide, show (96 : Int32) ≤ 2000 by decide, show xix 96 = 96 from rfl, show (0 : Int32) ≤ 120 by decide, show (120 : Int32) ≤ 2000 by decide, show xix 120 = 120 from rfl, show (0 : Int32) ≤ 402 by decide, show (402 : Int32) ≤ 2000 by decide, show xix 402 = 402 from rfl, show (0 : Int32) ≤ 1000 by decide, show (1000 : Int32) ≤ 2000 by decide, show xix 1000 = 1000 from rfl, show (0 : Int32) ≤ 1200 by decide, show (1200 : Int32) ≤ 2000 by decide, show xix 1200 = 1200 from rfl, Nat.add_assoc, true_and, and_true, Option.some.injEq, exists_eq_left', Option.toList_some, Option.toList_none, List.cons_append, List.nil_append, xcat_nil, xcat_int, xcat_ref, xcat_long, not_true, not_false_iff, if_true, if_false, and_self, and_false, false_and, or_true, true_or, or_self, z01, z10, zle8, Nat.reduceAdd, Nat.reduceLeDiff]
  refine hP _ ⟨?_, h2.2.1.trans h1.2.1, fun a q => ?_, fun a j q1 q2 => ?_⟩ ?_
  · simp only [xW_new, xW_sR, xW_sI, W2]
  · obtain ⟨y1, y2, y3, y4⟩ := f1 a (by omega)
    obtain ⟨x1, x2, x3, x4⟩ := f2 a (by omega)
    simp (disch := (first | omega | (simp only [xW_new, xW_sR, xW_sI]; omega))) only [x1, x2, x3, x4, y1, y2, y3, y4, xK_ne, xK_sR, xK_sI, xN_n, xN_sR', xN_sI, xIf_n, xIf_R, xIf_sI, xRf_n, xRf_R, xRf_I, and_self]
  · by_cases q3 : w + 12 ≤ a ∧ a < w + 27
    · have y := z2 a j (by omega) (by omega)
      simp (disch := (first | omega | (simp only [xW_new, xW_sR, xW_sI]; omega))) only [xIf_n, xIf_R, y]
    · by_cases q4 : w + 1 ≤ a ∧ a < w + 12
      · have y := z1 a j (by omega) (by omega)
        simp (disch := (first | omega | (simp only [xW_new, xW_sR, xW_sI]; omega))) only [e2, xIf_n, xIf_R, y]
      · have : a = w ∨ a = w + 27 := by omega
        rcases this with rfl | rfl <;> simp (disch := (first | omega | (simp only [xW_new, xW_sR, xW_sI]; omega))) only [e2, e1, xIf_e, xIf_n, xIf_R]
  · simp (disch := (first | omega | (simp only [xW_new, xW_sR, xW_sI]; omega))) only [sDk, sGr, sTf, sB, sRt, sA, s1, s2, i1, i2, n2, r2, xIs_e, xIs_n, xIs_sR', xIs_sI, xN_e, xN_n, xN_sR', xN_sI, xR_R, xR_Rn, xR_nw, xR_sI, Nat.add_assoc, Nat.reduceAdd, and_self]
theorem mk_Re (hw : xW u = w) (hV : xV u = true) (hb : w < 996000) (hP : ∀ u', Mk u u' w 33 33 → sRe u' w → Q none u') : zr 66 0 [.ref w] [] (xnew u 7 0 7) Q := by
  have hb1 : w + 1 < 1000000 := by omega
  have hb2 : w + 1 + 1 < 1000000 := by omega
  have hb3 : w + 1 + 1 + 1 < 1000000 := by omega
  have hb4 : w + 1 + 1 + 1 + 1 < 1000000 := by omega
  have hb5 : w + 1 + 1 + 1 + 1 + 1 < 1000000 := by omega
  have hb6 : w + 1 + 1 + 1 + 1 + 1 + 1 < 1000000 := by omega
  have hb7 : w + 1 + 1 + 1 + 1 + 1 + 1 + 1 < 1000000 := by omega
  have hb8 : w + 1 + 1 + 1 + 1 + 1 + 1 + 1 + 1 < 1000000 := by omega
  simp (disch := (first | omega | (simp only [xW_new, xW_sR, xW_sI]; omega))) only [r66_0, r66_1, r66_4, r66_5, r66_8, r66_9, xIs_e, xIs_n, xIs_sR', xIs_sI, xW_new, xW_sR, xW_sI, xV_new, xV_sR, xV_sI, hw, hV, hb1, true_and, and_true, Option.some.injEq, exists_eq_left', Option.toList_some, Option.toList_none, List.cons_append, List.nil_append, xcat_nil, xcat_int, xcat_ref, xcat_long, not_true, not_false_iff, if_true, if_false, and_self, and_false, false_and, or_true, true_or, or_self, z01, z10, zle8, Nat.reduceAdd, Nat.reduceLeDiff]
  refine mk_Tp (w := w + 1) (by simp only [xW_new]; omega) hV (by omega) (fun u1 h1 s1 => ?_)
  have W1 : xW u1 = w + 1 + 2 := h1.1
  have V1 : xV u1 = true := h1.2.1.trans hV
  have i1 : ∀ a k, a < w + 1 → xIs u1 a k = xIs (xnew u 7 0 7) a k := fun a k q => h1.is (by simp only [xW_new]; omega) (by omega) q
  have f1 := h1.2.2.1
  have z1 := h1.2.2.2
  simp only [sDk, sGr, sTf, sB, sRt, sTp, sA, Nat.add_assoc, Nat.reduceAdd] at s1
  simp only [Nat.add_assoc, Nat.reduceAdd] at W1
  have hc3 : w + 3 < 1000000 := by omega
  have hc4 : w + 4 < 1000000 := by omega
  have hc5 : w + 5 < 1000000 := by omega
  simp (disch := (first | omega | (simp only [xW_new, xW_sR, xW_sI]; omega))) only [r66_12, r66_15, r66_16, r66_20, r66_23, r66_24, r66_28, r66_31, r66_18, r66_26, r66_32, r66_35, r66_36, i1, xIs_e, xIs_n, xIs_sR', xIs_sI, xW_new, xW_sR, xW_sI, xV_new, xV_sR, xV_sI, W1, V1, hc3, hc4, hc5, show (0 : Int32) ≤ 4 by decide, show (4 : Int32) ≤ 2000 by decide, show xix 4 = 4 from rfl, show (0 : Int32) ≤ 6 by decide, show (6 : Int32) ≤ 2000 by decide, show xix 6 = 6 from rfl, show (0 : Int32) ≤ 8 by decide, show (8 : Int32) ≤ 2000 by decide, show xix 8 = 8 from rfl, show (0 : Int32) ≤ 10 by decide, show (10 : Int32) ≤ 2000 by decide, show xix 10 = 10 from rfl, show (0 : Int32) ≤ 12 by decide, show (12 : Int32) ≤ 2000 by decide, show xix 12 = 12 from rfl, show (0 : Int32) ≤ 16 by decide, show (16 : Int32) ≤ 2000 by decide, show xix 16 = 16 from rfl, show (0 : Int32) ≤ 20 by decide, show (20 : Int32) ≤ 2000 by decide, show xix 20 = 20 from rfl, show (0 : Int32) ≤ 40 by decide, show (40 : Int32) ≤ 2000 by decide, show xix 40 = 40 from rfl, show (0 : Int32) ≤ 60 by decide, show (60 : Int32) ≤ 2000 by decide, show xix 60 = 60 from rfl, show (0 : Int32) ≤ 96 by decide, show (96 : Int32) ≤ 2000 by decide, show xix 96 = 96 from rfl, show (0 : Int32) ≤ 120 by decide, show (120 : Int32) ≤ 2000 by decide, show xix 120 = 120 from rfl, show (0 : Int32) ≤ 402 by decide, show (402 : Int32) ≤ 2000 by decide, show xix 402 = 402 from rfl, show (0 : Int32) ≤ 1000 by decide, show (1000 : Int32) ≤ 2000 by decide, show xix 1000 = 1000 from rfl, show (0 : Int32) ≤ 1200 by decide, show (1200 : Int32) ≤ 2000 by decide, show xix 1200 = 1200 from rfl, Nat.add_assoc, true_and, and_true, Option.some.injEq, exists_eq_left', Option.toList_some, Option.toList_none, List.cons_append, List.nil_append, xcat_nil, xcat_int, xcat_ref, xcat_long, not_true, not_false_iff, if_true, if_false, and_self, and_false, false_and, or_true, true_or, or_self, z01, z10, zle8, Nat.reduceAdd, Nat.reduceLeDiff]
  refine mk_Dk (w := w + 5) (by simp only [xW_new, xW_sR]; omega) V1 (by omega) (fun u2 h2 s2 => ?_)
  have W2 : xW u2 = w + 5 + 28 := h2.1
  have V2 : xV u2 = true := h2.2.1.trans V1
  have i2 : ∀ a k, a < w + 5 → xIs u2 a k = xIs (xsR (xnew (xsR (xnew (xsR u1 w 0 (some (w + 1))) 14 6 6) w 1 (some (w + 3))) 14 10 10) w 2 (some (w + 4))) a k := fun a k q => h2.is (by simp only [xW_new, xW_sR]; omega) (by omega) q
  have f2 := h2.2.2.1
  have z2 := h2.2.2.2
  simp only [sDk, sGr, sTf, sB, sRt, sTp, sA, Nat.add_assoc, Nat.reduceAdd] at s2
  simp only [Nat.add_assoc, Nat.reduceAdd] at W2
  have n2 : ∀ a, a < w + 5 → xN u2 a = xN (xsR (xnew (xsR (xnew (xsR u1 w 0 (some (w + 1))) 14 6 6) w 1 (some (w + 3))) 14 10 10) w 2 (some (w + 4))) a := fun a q => (f2 a (Or.inl (by omega))).2.1
  have r2 : ∀ a j, a < w + 5 → xR u2 a j = xR (xsR (xnew (xsR (xnew (xsR u1 w 0 (some (w + 1))) 14 6 6) w 1 (some (w + 3))) 14 10 10) w 2 (some (w + 4))) a j := fun a j q => congrFun (f2 a (Or.inl (by omega))).2.2.2 j
  have e2 : ∀ a, a < w + 5 → xI u2 a = xI (xsR (xnew (xsR (xnew (xsR u1 w 0 (some (w + 1))) 14 6 6) w 1 (some (w + 3))) 14 10 10) w 2 (some (w + 4))) a := fun a q => (f2 a (Or.inl (by omega))).2.2.1
  have e1 : ∀ a, a < w + 1 → xI u1 a = xI (xnew u 7 0 7) a := fun a q => (f1 a (Or.inl (by omega))).2.2.1
  simp (disch := (first | omega | (simp only [xW_new, xW_sR, xW_sI]; omega))) only [r66_39, r66_42, i1, i2, xIs_e, xIs_n, xIs_sR', xIs_sI, xW_new, xW_sR, xW_sI, xV_new, xV_sR, xV_sI, W2, V2, Nat.add_assoc, true_and, and_true, Option.some.injEq, exists_eq_left', Option.toList_some, Option.toList_none, List.cons_append, List.nil_append, xcat_nil, xcat_int, xcat_ref, xcat_long, not_true, not_false_iff, if_true, if_false, and_self, and_false, false_and, or_true, true_or, or_self, z01, z10, zle8, Nat.reduceAdd, Nat.reduceLeDiff]
  refine hP _ ⟨?_, h2.2.1.trans h1.2.1, fun a q => ?_, fun a j q1 q2 => ?_⟩ ?_
  · simp only [xW_new, xW_sR, xW_sI, W2]
  · obtain ⟨y1, y2, y3, y4⟩ := f1 a (by omega)
    obtain ⟨x1, x2, x3, x4⟩ := f2 a (by omega)
    simp (disch := (first | omega | (simp only [xW_new, xW_sR, xW_sI]; omega))) only [x1, x2, x3, x4, y1, y2, y3, y4, xK_ne, xK_sR, xK_sI, xN_n, xN_sR', xN_sI, xIf_n, xIf_R, xIf_sI, xRf_n, xRf_R, xRf_I, and_self]
  · by_cases q3 : w + 5 ≤ a ∧ a < w + 33
    · have y := z2 a j (by omega) (by omega)
      simp (disch := (first | omega | (simp only [xW_new, xW_sR, xW_sI]; omega))) only [xIf_n, xIf_R, y]
    · by_cases q4 : w + 1 ≤ a ∧ a < w + 3
      · have y := z1 a j (by omega) (by omega)
        simp (disch := (first | omega | (simp only [xW_new, xW_sR, xW_sI]; omega))) only [e2, xIf_n, xIf_R, y]
      · have : a = w ∨ a = w + 3 ∨ a = w + 4 := by omega
        rcases this with rfl | rfl | rfl <;> simp (disch := (first | omega | (simp only [xW_new, xW_sR, xW_sI]; omega))) only [e2, e1, xIf_e, xIf_n, xIf_R]
  · simp (disch := (first | omega | (simp only [xW_new, xW_sR, xW_sI]; omega))) only [sRe, sDk, sGr, sTf, sB, sRt, sTp, sA, s1, s2, i1, i2, n2, r2, xIs_e, xIs_n, xIs_sR', xIs_sI, xN_e, xN_n, xN_sR', xN_sI, xR_R, xR_Rn, xR_nw, xR_sI, Nat.add_assoc, Nat.reduceAdd, and_self]
end
