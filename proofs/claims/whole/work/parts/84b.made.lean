/-! WHAT THE CONSTRUCTORS MAKE -/
/-- from w on c cells were made, the first z of them without a number but 0 -/
def Mk (u u' : xMem) (w c z : Nat) : Prop := xW u' = w + c ∧ xV u' = xV u ∧ (∀ a, a < w ∨ 1000000 ≤ a → xK u' a = xK u a ∧ xN u' a = xN u a ∧ xI u' a = xI u a ∧ xR u' a = xR u a) ∧ ∀ a j, w ≤ a → a < w + z → xI u' a j = 0
section
variable {u : xMem} {a b c k j n s w : Nat} {v : Int32} {o : Option Nat} {Q : Option Value → xMem → Prop}
theorem xW_new : xW (xnew u k n s) = xW u + 1 := rfl
theorem xV_new : xV (xnew u k n s) = xV u := rfl
theorem xV_sR : xV (xsR u a k o) = xV u := rfl
theorem xV_sI : xV (xsI u a k v) = xV u := rfl
theorem xK_ne (h : b ≠ xW u) : xK (xnew u k n s) b = xK u b := if_neg h
theorem xIs_e (h : b = xW u) : xIs (xnew u k n s) b c = (k = c) := by
  subst h
  apply propext
  refine ⟨fun q => ?_, fun q => ⟨Nat.lt_succ_self _, ?_⟩⟩
  · have := q.2
    rw [show xK (xnew u k n s) (xW u) = k from if_pos rfl] at this
    exact this
  · rw [show xK (xnew u k n s) (xW u) = k from if_pos rfl]
    exact q
theorem xIs_n (h : b ≠ xW u) : xIs (xnew u k n s) b c = xIs u b c := by
  unfold xIs
  rw [xK_ne h, xW_new]
  apply propext
  exact ⟨fun q => ⟨by omega, q.2⟩, fun q => ⟨by omega, q.2⟩⟩
theorem xIs_sR' : xIs (xsR u a k o) b c = xIs u b c := rfl
theorem xN_e (h : b = xW u) : xN (xnew u k n s) b = n := by subst h; exact if_pos rfl
theorem xN_n (h : b ≠ xW u) : xN (xnew u k n s) b = xN u b := if_neg h
theorem xN_sR' : xN (xsR u a k o) b = xN u b := rfl
theorem xIf_e (h : b = xW u) : xI (xnew u k n s) b = fun _ => 0 := by subst h; exact if_pos rfl
theorem xIf_n (h : b ≠ xW u) : xI (xnew u k n s) b = xI u b := if_neg h
theorem xIf_R : xI (xsR u a k o) b = xI u b := rfl
theorem xRf_n (h : b ≠ xW u) : xR (xnew u k n s) b = xR u b := if_neg h
theorem xRf_R (h : b ≠ a) : xR (xsR u a k o) b = xR u b := funext fun j => if_neg (fun q => h q.1)
theorem xRf_I : xR (xsI u a k v) b = xR u b := rfl
theorem xR_R (h : b = a ∧ j = k) : xR (xsR u a k o) b j = o := if_pos h
theorem xR_Rn (h : b ≠ a ∨ j ≠ k) : xR (xsR u a k o) b j = xR u b j := if_neg (by omega)
theorem xR_nw (h : b ≠ xW u) : xR (xnew u k n s) b j = xR u b j := congrFun (xRf_n h) j
theorem l2k {x : Int32} (h : x.toInt ≤ 2000) : x ≤ 2000 := i32_le.mpr h
end
section
variable {u : xMem} {w : Nat} {Q : Option Value → xMem → Prop}
theorem mk_Ac (hw : xW u = w) (hV : xV u = true) (hb : w < 999000) (hP : ∀ u', Mk u u' w 4 4 → sAc u' w → Q none u') : zr 3 0 [.ref w] [] (xnew u 0 0 4) Q := by
  have hb1 : w + 1 < 1000000 := by omega
  have hb2 : w + 1 + 1 < 1000000 := by omega
  have hb3 : w + 1 + 1 + 1 < 1000000 := by omega
  have hb4 : w + 1 + 1 + 1 + 1 < 1000000 := by omega
  have hb5 : w + 1 + 1 + 1 + 1 + 1 < 1000000 := by omega
  have hb6 : w + 1 + 1 + 1 + 1 + 1 + 1 < 1000000 := by omega
  have hb7 : w + 1 + 1 + 1 + 1 + 1 + 1 + 1 < 1000000 := by omega
  have hb8 : w + 1 + 1 + 1 + 1 + 1 + 1 + 1 + 1 < 1000000 := by omega
  simp (disch := (first | omega | (simp only [xW_new, xW_sR, xW_sI]; omega))) only [r3_0, r3_1, r3_4, r3_5, r3_9, r3_12, r3_13, r3_17, r3_20, r3_21, r3_25, r3_28, r3_7, r3_15, r3_23, xIs_e, xIs_n, xIs_sR', xIs_sI, xW_new, xW_sR, xW_sI, xV_new, xV_sR, xV_sI, hw, hV, hb1, hb2, hb3, hb4, hb5, hb6, hb7, hb8, show (0 : Int32) ≤ 4 by decide, show (4 : Int32) ≤ 2000 by decide, show xix 4 = 4 from rfl, show (0 : Int32) ≤ 6 by decide, show (6 : Int32) ≤ 2000 by decide, show xix 6 = 6 from rfl, show (0 : Int32) ≤ 8 by decide, show (8 : Int32) ≤ 2000 by decide, show xix 8 = 8 from rfl, show (0 : Int32) ≤ 10 by decide, show (10 : Int32) ≤ 2000 by decide, show xix 10 = 10 from rfl, show (0 : Int32) ≤ 12 by decide, show (12 : Int32) ≤ 2000 by decide, show xix 12 = 12 from rfl, show (0 : Int32) ≤ 16 by decide, show (16 : Int32) ≤ 2000 by decide, show xix 16 = 16 from rfl, show (0 : Int32) ≤ 20 by decide, show (20 : Int32) ≤ 2000 by decide, show xix 20 = 20 from rfl, show (0 : Int32) ≤ 40 by decide, show (40 : Int32) ≤ 2000 by decide, show xix 40 = 40 from rfl, show (0 : Int32) ≤ 60 by decide, show (60 : Int32) ≤ 2000 by decide, show xix 60 = 60 from rfl, show (0 : Int32) ≤ 96 by decide, show (96 : Int32) ≤ 2000 by decide, show xix 96 = 96 from rfl, show (0 : Int32) ≤ 120 by decide, show (120 : Int32) ≤ 2000 by decide, show xix 120 = 120 from rfl, show (0 : Int32) ≤ 402 by decide, show (402 : Int32) ≤ 2000 by decide, show xix 402 = 402 from rfl, show (0 : Int32) ≤ 1000 by decide, show (1000 : Int32) ≤ 2000 by decide, show xix 1000 = 1000 from rfl, show (0 : Int32) ≤ 1200 by decide, show (1200 : Int32) ≤ 2000 by decide, show xix 1200 = 1200 from rfl, true_and, and_true, Option.some.injEq, exists_eq_left', Option.toList_some, Option.toList_none, List.cons_append, List.nil_append, xcat_nil, xcat_int, xcat_ref, xcat_long, not_true, not_false_iff, if_true, if_false, and_self, and_false, false_and, or_true, true_or, or_self, z01, z10, zle8, Nat.reduceAdd, Nat.reduceLeDiff]
  refine hP _ ⟨?_, rfl, fun a q => ?_, fun a j q1 q2 => ?_⟩ ?_
  · simp only [xW_new, xW_sR, xW_sI]
    omega
  · simp (disch := (first | omega | (simp only [xW_new, xW_sR, xW_sI]; omega))) only [xK_ne, xK_sR, xK_sI, xN_n, xN_sR', xN_sI, xIf_n, xIf_R, xIf_sI, xRf_n, xRf_R, xRf_I, and_self]
  · have : a = w ∨ a = w + 1 ∨ a = w + 2 ∨ a = w + 3 := by omega
    rcases this with rfl | rfl | rfl | rfl <;> simp (disch := (first | omega | (simp only [xW_new, xW_sR, xW_sI]; omega))) only [xIf_e, xIf_n, xIf_R]
  · unfold sAc
    simp (disch := (first | omega | (simp only [xW_new, xW_sR, xW_sI]; omega))) only [sA, xIs_e, xIs_n, xIs_sR', xIs_sI, xN_e, xN_n, xN_sR', xN_sI, xR_R, xR_Rn, xR_nw, xR_sI, Nat.add_assoc, Nat.reduceAdd, and_self]
theorem mk_Bd (hw : xW u = w) (hV : xV u = true) (hb : w < 999000) (hP : ∀ u', Mk u u' w 6 6 → sB u' w → Q none u') : zr 18 0 [.ref w] [] (xnew u 2 0 6) Q := by
  have hb1 : w + 1 < 1000000 := by omega
  have hb2 : w + 1 + 1 < 1000000 := by omega
  have hb3 : w + 1 + 1 + 1 < 1000000 := by omega
  have hb4 : w + 1 + 1 + 1 + 1 < 1000000 := by omega
  have hb5 : w + 1 + 1 + 1 + 1 + 1 < 1000000 := by omega
  have hb6 : w + 1 + 1 + 1 + 1 + 1 + 1 < 1000000 := by omega
  have hb7 : w + 1 + 1 + 1 + 1 + 1 + 1 + 1 < 1000000 := by omega
  have hb8 : w + 1 + 1 + 1 + 1 + 1 + 1 + 1 + 1 < 1000000 := by omega
  simp (disch := (first | omega | (simp only [xW_new, xW_sR, xW_sI]; omega))) only [r18_0, r18_1, r18_4, r18_5, r18_9, r18_12, r18_13, r18_17, r18_20, r18_21, r18_25, r18_28, r18_29, r18_33, r18_36, r18_37, r18_41, r18_44, r18_7, r18_15, r18_23, r18_31, r18_39, xIs_e, xIs_n, xIs_sR', xIs_sI, xW_new, xW_sR, xW_sI, xV_new, xV_sR, xV_sI, hw, hV, hb1, hb2, hb3, hb4, hb5, hb6, hb7, hb8, show (0 : Int32) ≤ 4 by decide, show (4 : Int32) ≤ 2000 by decide, show xix 4 = 4 from rfl, show (0 : Int32) ≤ 6 by decide, show (6 : Int32) ≤ 2000 by decide, show xix 6 = 6 from rfl, show (0 : Int32) ≤ 8 by decide, show (8 : Int32) ≤ 2000 by decide, show xix 8 = 8 from rfl, show (0 : Int32) ≤ 10 by decide, show (10 : Int32) ≤ 2000 by decide, show xix 10 = 10 from rfl, show (0 : Int32) ≤ 12 by decide, show (12 : Int32) ≤ 2000 by decide, show xix 12 = 12 from rfl, show (0 : Int32) ≤ 16 by decide, show (16 : Int32) ≤ 2000 by decide, show xix 16 = 16 from rfl, show (0 : Int32) ≤ 20 by decide, show (20 : Int32) ≤ 2000 by decide, show xix 20 = 20 from rfl, show (0 : Int32) ≤ 40 by decide, show (40 : Int32) ≤ 2000 by decide, show xix 40 = 40 from rfl, show (0 : Int32) ≤ 60 by decide, show (60 : Int32) ≤ 2000 by decide, show xix 60 = 60 from rfl, show (0 : Int32) ≤ 96 by decide, show (96 : Int32) ≤ 2000 by decide, show xix 96 = 96 from rfl, show (0 : Int32) ≤ 120 by decide, show (120 : Int32) ≤ 2000 by decide, show xix 120 = 120 from rfl, show (0 : Int32) ≤ 402 by decide, show (402 : Int32) ≤ 2000 by decide, show xix 402 = 402 from rfl, show (0 : Int32) ≤ 1000 by decide, show (1000 : Int32) ≤ 2000 by decide, show xix 1000 = 1000 from rfl, show (0 : Int32) ≤ 1200 by decide, show (1200 : Int32) ≤ 2000 by decide, show xix 1200 = 1200 from rfl, true_and, and_true, Option.some.injEq, exists_eq_left', Option.toList_some, Option.toList_none, List.cons_append, List.nil_append, xcat_nil, xcat_int, xcat_ref, xcat_long, not_true, not_false_iff, if_true, if_false, and_self, and_false, false_and, or_true, true_or, or_self, z01, z10, zle8, Nat.reduceAdd, Nat.reduceLeDiff]
  refine hP _ ⟨?_, rfl, fun a q => ?_, fun a j q1 q2 => ?_⟩ ?_
  · simp only [xW_new, xW_sR, xW_sI]
    omega
  · simp (disch := (first | omega | (simp only [xW_new, xW_sR, xW_sI]; omega))) only [xK_ne, xK_sR, xK_sI, xN_n, xN_sR', xN_sI, xIf_n, xIf_R, xIf_sI, xRf_n, xRf_R, xRf_I, and_self]
  · have : a = w ∨ a = w + 1 ∨ a = w + 2 ∨ a = w + 3 ∨ a = w + 4 ∨ a = w + 5 := by omega
    rcases this with rfl | rfl | rfl | rfl | rfl | rfl <;> simp (disch := (first | omega | (simp only [xW_new, xW_sR, xW_sI]; omega))) only [xIf_e, xIf_n, xIf_R]
  · unfold sB
    simp (disch := (first | omega | (simp only [xW_new, xW_sR, xW_sI]; omega))) only [sA, xIs_e, xIs_n, xIs_sR', xIs_sI, xN_e, xN_n, xN_sR', xN_sI, xR_R, xR_Rn, xR_nw, xR_sI, Nat.add_assoc, Nat.reduceAdd, and_self]
theorem mk_Rt (hw : xW u = w) (hV : xV u = true) (hb : w < 999000) (hP : ∀ u', Mk u u' w 5 5 → sRt u' w → Q none u') : zr 62 0 [.ref w] [] (xnew u 6 0 5) Q := by
  have hb1 : w + 1 < 1000000 := by omega
  have hb2 : w + 1 + 1 < 1000000 := by omega
  have hb3 : w + 1 + 1 + 1 < 1000000 := by omega
  have hb4 : w + 1 + 1 + 1 + 1 < 1000000 := by omega
  have hb5 : w + 1 + 1 + 1 + 1 + 1 < 1000000 := by omega
  have hb6 : w + 1 + 1 + 1 + 1 + 1 + 1 < 1000000 := by omega
  have hb7 : w + 1 + 1 + 1 + 1 + 1 + 1 + 1 < 1000000 := by omega
  have hb8 : w + 1 + 1 + 1 + 1 + 1 + 1 + 1 + 1 < 1000000 := by omega
  simp (disch := (first | omega | (simp only [xW_new, xW_sR, xW_sI]; omega))) only [r62_0, r62_1, r62_4, r62_5, r62_9, r62_12, r62_13, r62_17, r62_20, r62_21, r62_25, r62_28, r62_29, r62_33, r62_36, r62_7, r62_15, r62_23, r62_31, xIs_e, xIs_n, xIs_sR', xIs_sI, xW_new, xW_sR, xW_sI, xV_new, xV_sR, xV_sI, hw, hV, hb1, hb2, hb3, hb4, hb5, hb6, hb7, hb8, show (0 : Int32) ≤ 4 by decide, show (4 : Int32) ≤ 2000 by decide, show xix 4 = 4 from rfl, show (0 : Int32) ≤ 6 by decide, show (6 : Int32) ≤ 2000 by decide, show xix 6 = 6 from rfl, show (0 : Int32) ≤ 8 by decide, show (8 : Int32) ≤ 2000 by decide, show xix 8 = 8 from rfl, show (0 : Int32) ≤ 10 by decide, show (10 : Int32) ≤ 2000 by decide, show xix 10 = 10 from rfl, show (0 : Int32) ≤ 12 by decide, show (12 : Int32) ≤ 2000 by decide, show xix 12 = 12 from rfl, show (0 : Int32) ≤ 16 by decide, show (16 : Int32) ≤ 2000 by decide, show xix 16 = 16 from rfl, show (0 : Int32) ≤ 20 by decide, show (20 : Int32) ≤ 2000 by decide, show xix 20 = 20 from rfl, show (0 : Int32) ≤ 40 by decide, show (40 : Int32) ≤ 2000 by decide, show xix 40 = 40 from rfl, show (0 : Int32) ≤ 60 by decide, show (60 : Int32) ≤ 2000 by decide, show xix 60 = 60 from rfl, show (0 : Int32) ≤ 96 by decide, show (96 : Int32) ≤ 2000 by decide, show xix 96 = 96 from rfl, show (0 : Int32) ≤ 120 by decide, show (120 : Int32) ≤ 2000 by decide, show xix 120 = 120 from rfl, show (0 : Int32) ≤ 402 by decide, show (402 : Int32) ≤ 2000 by decide, show xix 402 = 402 from rfl, show (0 : Int32) ≤ 1000 by decide, show (1000 : Int32) ≤ 2000 by decide, show xix 1000 = 1000 from rfl, show (0 : Int32) ≤ 1200 by decide, show (1200 : Int32) ≤ 2000 by decide, show xix 1200 = 1200 from rfl, true_and, and_true, Option.some.injEq, exists_eq_left', Option.toList_some, Option.toList_none, List.cons_append, List.nil_append, xcat_nil, xcat_int, xcat_ref, xcat_long, not_true, not_false_iff, if_true, if_false, and_self, and_false, false_and, or_true, true_or, or_self, z01, z10, zle8, Nat.reduceAdd, Nat.reduceLeDiff]
  refine hP _ ⟨?_, rfl, fun a q => ?_, fun a j q1 q2 => ?_⟩ ?_
  · simp only [xW_new, xW_sR, xW_sI]
    omega
  · simp (disch := (first | omega | (simp only [xW_new, xW_sR, xW_sI]; omega))) only [xK_ne, xK_sR, xK_sI, xN_n, xN_sR', xN_sI, xIf_n, xIf_R, xIf_sI, xRf_n, xRf_R, xRf_I, and_self]
  · have : a = w ∨ a = w + 1 ∨ a = w + 2 ∨ a = w + 3 ∨ a = w + 4 := by omega
    rcases this with rfl | rfl | rfl | rfl | rfl <;> simp (disch := (first | omega | (simp only [xW_new, xW_sR, xW_sI]; omega))) only [xIf_e, xIf_n, xIf_R]
  · unfold sRt
    simp (disch := (first | omega | (simp only [xW_new, xW_sR, xW_sI]; omega))) only [sA, xIs_e, xIs_n, xIs_sR', xIs_sI, xN_e, xN_n, xN_sR', xN_sI, xR_R, xR_Rn, xR_nw, xR_sI, Nat.add_assoc, Nat.reduceAdd, and_self]
theorem mk_Tp (hw : xW u = w) (hV : xV u = true) (hb : w < 999000) (hP : ∀ u', Mk u u' w 2 2 → sTp u' w → Q none u') : zr 86 0 [.ref w] [] (xnew u 8 0 8) Q := by
  have hb1 : w + 1 < 1000000 := by omega
  have hb2 : w + 1 + 1 < 1000000 := by omega
  have hb3 : w + 1 + 1 + 1 < 1000000 := by omega
  have hb4 : w + 1 + 1 + 1 + 1 < 1000000 := by omega
  have hb5 : w + 1 + 1 + 1 + 1 + 1 < 1000000 := by omega
  have hb6 : w + 1 + 1 + 1 + 1 + 1 + 1 < 1000000 := by omega
  have hb7 : w + 1 + 1 + 1 + 1 + 1 + 1 + 1 < 1000000 := by omega
  have hb8 : w + 1 + 1 + 1 + 1 + 1 + 1 + 1 + 1 < 1000000 := by omega
  simp (disch := (first | omega | (simp only [xW_new, xW_sR, xW_sI]; omega))) only [r86_0, r86_1, r86_4, r86_5, r86_10, r86_13, r86_8, xIs_e, xIs_n, xIs_sR', xIs_sI, xW_new, xW_sR, xW_sI, xV_new, xV_sR, xV_sI, hw, hV, hb1, hb2, hb3, hb4, hb5, hb6, hb7, hb8, show (0 : Int32) ≤ 4 by decide, show (4 : Int32) ≤ 2000 by decide, show xix 4 = 4 from rfl, show (0 : Int32) ≤ 6 by decide, show (6 : Int32) ≤ 2000 by decide, show xix 6 = 6 from rfl, show (0 : Int32) ≤ 8 by decide, show (8 : Int32) ≤ 2000 by decide, show xix 8 = 8 from rfl, show (0 : Int32) ≤ 10 by decide, show (10 : Int32) ≤ 2000 by decide, show xix 10 = 10 from rfl, show (0 : Int32) ≤ 12 by decide, show (12 : Int32) ≤ 2000 by decide, show xix 12 = 12 from rfl, show (0 : Int32) ≤ 16 by decide, show (16 : Int32) ≤ 2000 by decide, show xix 16 = 16 from rfl, show (0 : Int32) ≤ 20 by decide, show (20 : Int32) ≤ 2000 by decide, show xix 20 = 20 from rfl, show (0 : Int32) ≤ 40 by decide, show (40 : Int32) ≤ 2000 by decide, show xix 40 = 40 from rfl, show (0 : Int32) ≤ 60 by decide, show (60 : Int32) ≤ 2000 by decide, show xix 60 = 60 from rfl, show (0 : Int32) ≤ 96 by decide, show (96 : Int32) ≤ 2000 by decide, show xix 96 = 96 from rfl, show (0 : Int32) ≤ 120 by decide, show (120 : Int32) ≤ 2000 by decide, show xix 120 = 120 from rfl, show (0 : Int32) ≤ 402 by decide, show (402 : Int32) ≤ 2000 by decide, show xix 402 = 402 from rfl, show (0 : Int32) ≤ 1000 by decide, show (1000 : Int32) ≤ 2000 by decide, show xix 1000 = 1000 from rfl, show (0 : Int32) ≤ 1200 by decide, show (1200 : Int32) ≤ 2000 by decide, show xix 1200 = 1200 from rfl, true_and, and_true, Option.some.injEq, exists_eq_left', Option.toList_some, Option.toList_none, List.cons_append, List.nil_append, xcat_nil, xcat_int, xcat_ref, xcat_long, not_true, not_false_iff, if_true, if_false, and_self, and_false, false_and, or_true, true_or, or_self, z01, z10, zle8, Nat.reduceAdd, Nat.reduceLeDiff]
  refine hP _ ⟨?_, rfl, fun a q => ?_, fun a j q1 q2 => ?_⟩ ?_
  · simp only [xW_new, xW_sR, xW_sI]
    omega
  · simp (disch := (first | omega | (simp only [xW_new, xW_sR, xW_sI]; omega))) only [xK_ne, xK_sR, xK_sI, xN_n, xN_sR', xN_sI, xIf_n, xIf_R, xIf_sI, xRf_n, xRf_R, xRf_I, and_self]
  · have : a = w ∨ a = w + 1 := by omega
    rcases this with rfl | rfl <;> simp (disch := (first | omega | (simp only [xW_new, xW_sR, xW_sI]; omega))) only [xIf_e, xIf_n, xIf_R]
  · unfold sTp
    simp (disch := (first | omega | (simp only [xW_new, xW_sR, xW_sI]; omega))) only [sA, xIs_e, xIs_n, xIs_sR', xIs_sI, xN_e, xN_n, xN_sR', xN_sI, xR_R, xR_Rn, xR_nw, xR_sI, Nat.add_assoc, Nat.reduceAdd, and_self]
theorem mk_Ln (hw : xW u = w) (hV : xV u = true) (hb : w < 999000) (hP : ∀ u', Mk u u' w 5 0 → sLn u' w → Q none u') : zr 53 0 [.ref w] [] (xnew u 5 0 13) Q := by
  have hb1 : w + 1 < 1000000 := by omega
  have hb2 : w + 1 + 1 < 1000000 := by omega
  have hb3 : w + 1 + 1 + 1 < 1000000 := by omega
  have hb4 : w + 1 + 1 + 1 + 1 < 1000000 := by omega
  have hb5 : w + 1 + 1 + 1 + 1 + 1 < 1000000 := by omega
  have hb6 : w + 1 + 1 + 1 + 1 + 1 + 1 < 1000000 := by omega
  have hb7 : w + 1 + 1 + 1 + 1 + 1 + 1 + 1 < 1000000 := by omega
  have hb8 : w + 1 + 1 + 1 + 1 + 1 + 1 + 1 + 1 < 1000000 := by omega
  simp (disch := (first | omega | (simp only [xW_new, xW_sR, xW_sI]; omega))) only [r53_0, r53_1, r53_4, r53_5, r53_6, r53_9, r53_10, r53_13, r53_16, r53_17, r53_20, r53_23, r53_24, r53_27, r53_30, r53_31, r53_34, r53_37, r53_11, r53_18, r53_25, r53_32, xIs_e, xIs_n, xIs_sR', xIs_sI, xW_new, xW_sR, xW_sI, xV_new, xV_sR, xV_sI, hw, hV, hb1, hb2, hb3, hb4, hb5, hb6, hb7, hb8, show (0 : Int32) ≤ 4 by decide, show (4 : Int32) ≤ 2000 by decide, show xix 4 = 4 from rfl, show (0 : Int32) ≤ 6 by decide, show (6 : Int32) ≤ 2000 by decide, show xix 6 = 6 from rfl, show (0 : Int32) ≤ 8 by decide, show (8 : Int32) ≤ 2000 by decide, show xix 8 = 8 from rfl, show (0 : Int32) ≤ 10 by decide, show (10 : Int32) ≤ 2000 by decide, show xix 10 = 10 from rfl, show (0 : Int32) ≤ 12 by decide, show (12 : Int32) ≤ 2000 by decide, show xix 12 = 12 from rfl, show (0 : Int32) ≤ 16 by decide, show (16 : Int32) ≤ 2000 by decide, show xix 16 = 16 from rfl, show (0 : Int32) ≤ 20 by decide, show (20 : Int32) ≤ 2000 by decide, show xix 20 = 20 from rfl, show (0 : Int32) ≤ 40 by decide, show (40 : Int32) ≤ 2000 by decide, show xix 40 = 40 from rfl, show (0 : Int32) ≤ 60 by decide, show (60 : Int32) ≤ 2000 by decide, show xix 60 = 60 from rfl, show (0 : Int32) ≤ 96 by decide, show (96 : Int32) ≤ 2000 by decide, show xix 96 = 96 from rfl, show (0 : Int32) ≤ 120 by decide, show (120 : Int32) ≤ 2000 by decide, show xix 120 = 120 from rfl, show (0 : Int32) ≤ 402 by decide, show (402 : Int32) ≤ 2000 by decide, show xix 402 = 402 from rfl, show (0 : Int32) ≤ 1000 by decide, show (1000 : Int32) ≤ 2000 by decide, show xix 1000 = 1000 from rfl, show (0 : Int32) ≤ 1200 by decide, show (1200 : Int32) ≤ 2000 by decide, show xix 1200 = 1200 from rfl, true_and, and_true, Option.some.injEq, exists_eq_left', Option.toList_some, Option.toList_none, List.cons_append, List.nil_append, xcat_nil, xcat_int, xcat_ref, xcat_long, not_true, not_false_iff, if_true, if_false, and_self, and_false, false_and, or_true, true_or, or_self, z01, z10, zle8, Nat.reduceAdd, Nat.reduceLeDiff]
  refine hP _ ⟨?_, rfl, fun a q => ?_, fun a j q1 q2 => ?_⟩ ?_
  · simp only [xW_new, xW_sR, xW_sI]
    omega
  · simp (disch := (first | omega | (simp only [xW_new, xW_sR, xW_sI]; omega))) only [xK_ne, xK_sR, xK_sI, xN_n, xN_sR', xN_sI, xIf_n, xIf_R, xIf_sI, xRf_n, xRf_R, xRf_I, and_self]
  · exact absurd q2 (by omega)
  · unfold sLn
    simp (disch := (first | omega | (simp only [xW_new, xW_sR, xW_sI]; omega))) only [sA, xIs_e, xIs_n, xIs_sR', xIs_sI, xN_e, xN_n, xN_sR', xN_sI, xR_R, xR_Rn, xR_nw, xR_sI, Nat.add_assoc, Nat.reduceAdd, and_self]
end
