/-! NUMBERS for simp with conditions -/
theorem xinbT {k n : Nat} (h : k < n) (hn : n < 2147483648) : xinb (nI k) n = True := eq_true (xinb_nI h hn)
theorem xixT {k : Nat} (h : k < 2147483648) : xix (nI k) = k := xix_nI h
theorem leT {a b : Nat} (h : a ≤ b) (hb : b < 2147483648) : (nI a ≤ nI b) = True := eq_true (nI_le h hb)
theorem leF {a b : Nat} (h : b < a) (ha : a < 2147483648) : (nI a ≤ nI b) = False := eq_false (nI_ge h ha)
theorem ltT {a b : Nat} (h : a < b) (hb : b < 2147483648) : (nI a < nI b) = True := eq_true ((nI_ltI (by omega) hb).mpr h)
theorem ltF {a b : Nat} (h : b ≤ a) (ha : a < 2147483648) : (nI a < nI b) = False := eq_false (nI_nlt1 h ha)
theorem neT {a b : Nat} (h : a ≠ b) (ha : a < 2147483648) (hb : b < 2147483648) : (nI a = nI b) = False := eq_false (fun q => h (by have := congrArg Int32.toInt q; rw [nI_toI ha, nI_toI hb] at this; omega))
theorem ngF {a : Nat} (h : a < 2147483648) : (nI a < 0) = False := eq_false (nI_pos h)
theorem psT {a : Nat} (h : a < 2147483648) : (0 ≤ nI a) = True := eq_true (nI_pos' h)
theorem n1F {a : Nat} (h : a < 2147483648) : (nI a = -1) = False := eq_false (fun z => by have := nI_pos (n := a) h; rw [z] at this; exact this (by decide))
theorem n2F {a : Nat} (h : a < 2147483648) : (nI a = -2) = False := eq_false (fun z => by have := nI_pos (n := a) h; rw [z] at this; exact this (by decide))
theorem z0F {a : Nat} (h : 0 < a) (h2 : a < 2147483648) : (nI a = 0) = False := eq_false (nI_ne0 h h2)
theorem km2 (k : Nat) : 2 * nI k = nI (2 * k) := by rw [show (2 : Int32) = nI 2 from rfl, pk_mul]
theorem km3 (k : Nat) : 3 * nI k = nI (3 * k) := by rw [show (3 : Int32) = nI 3 from rfl, pk_mul]
theorem km4 (k : Nat) : 4 * nI k = nI (4 * k) := by rw [show (4 : Int32) = nI 4 from rfl, pk_mul]
theorem km5 (k : Nat) : 5 * nI k = nI (5 * k) := by rw [show (5 : Int32) = nI 5 from rfl, pk_mul]
theorem km10 (k : Nat) : 10 * nI k = nI (10 * k) := by rw [show (10 : Int32) = nI 10 from rfl, pk_mul]
theorem km15 (k : Nat) : 15 * nI k = nI (15 * k) := by rw [show (15 : Int32) = nI 15 from rfl, pk_mul]
theorem km25 (k : Nat) : 25 * nI k = nI (25 * k) := by rw [show (25 : Int32) = nI 25 from rfl, pk_mul]
theorem kl8 (k : Nat) : 8 + nI k = nI (8 + k) := by rw [show (8 : Int32) = nI 8 from rfl, nI_add]
theorem kl14 (k : Nat) : 14 + nI k = nI (14 + k) := by rw [show (14 : Int32) = nI 14 from rfl, nI_add]
theorem kl24 (k : Nat) : 24 + nI k = nI (24 + k) := by rw [show (24 : Int32) = nI 24 from rfl, nI_add]
theorem kl34 (k : Nat) : 34 + nI k = nI (34 + k) := by rw [show (34 : Int32) = nI 34 from rfl, nI_add]
theorem kl274 (k : Nat) : 274 + nI k = nI (274 + k) := by rw [show (274 : Int32) = nI 274 from rfl, nI_add]
theorem kl354 (k : Nat) : 354 + nI k = nI (354 + k) := by rw [show (354 : Int32) = nI 354 from rfl, nI_add]
theorem kl384 (k : Nat) : 384 + nI k = nI (384 + k) := by rw [show (384 : Int32) = nI 384 from rfl, nI_add]
theorem kr1 (k : Nat) : nI k + 1 = nI (k + 1) := nI_1 k
theorem kr2 (k : Nat) : nI k + 2 = nI (k + 2) := by rw [show (2 : Int32) = nI 2 from rfl, nI_add]
theorem kr3 (k : Nat) : nI k + 3 = nI (k + 3) := by rw [show (3 : Int32) = nI 3 from rfl, nI_add]
theorem kr4 (k : Nat) : nI k + 4 = nI (k + 4) := by rw [show (4 : Int32) = nI 4 from rfl, nI_add]
theorem kr5 (k : Nat) : nI k + 5 = nI (k + 5) := by rw [show (5 : Int32) = nI 5 from rfl, nI_add]
theorem kr6 (k : Nat) : nI k + 6 = nI (k + 6) := by rw [show (6 : Int32) = nI 6 from rfl, nI_add]
theorem kr7 (k : Nat) : nI k + 7 = nI (k + 7) := by rw [show (7 : Int32) = nI 7 from rfl, nI_add]
theorem kr8 (k : Nat) : nI k + 8 = nI (k + 8) := by rw [show (8 : Int32) = nI 8 from rfl, nI_add]
theorem kr9 (k : Nat) : nI k + 9 = nI (k + 9) := by rw [show (9 : Int32) = nI 9 from rfl, nI_add]
theorem kaa (a b : Nat) : nI a + nI b = nI (a + b) := nI_add a b
theorem lb0 : xinb 0 402 = True := eq_true (xinb_nI (k := 0) (by omega) (by omega))
theorem lb1 : xinb 1 402 = True := eq_true (xinb_nI (k := 1) (by omega) (by omega))
theorem lb2 : xinb 2 402 = True := eq_true (xinb_nI (k := 2) (by omega) (by omega))
theorem lb3 : xinb 3 402 = True := eq_true (xinb_nI (k := 3) (by omega) (by omega))
theorem lb4 : xinb 4 402 = True := eq_true (xinb_nI (k := 4) (by omega) (by omega))
theorem lb5 : xinb 5 402 = True := eq_true (xinb_nI (k := 5) (by omega) (by omega))
theorem lb6 : xinb 6 402 = True := eq_true (xinb_nI (k := 6) (by omega) (by omega))
theorem lb7 : xinb 7 402 = True := eq_true (xinb_nI (k := 7) (by omega) (by omega))
theorem li0 : xix 0 = 0 := xix_nI (k := 0) (by omega)
theorem li1 : xix 1 = 1 := xix_nI (k := 1) (by omega)
theorem li2 : xix 2 = 2 := xix_nI (k := 2) (by omega)
theorem li3 : xix 3 = 3 := xix_nI (k := 3) (by omega)
theorem li4 : xix 4 = 4 := xix_nI (k := 4) (by omega)
theorem li5 : xix 5 = 5 := xix_nI (k := 5) (by omega)
theorem li6 : xix 6 = 6 := xix_nI (k := 6) (by omega)
theorem li7 : xix 7 = 7 := xix_nI (k := 7) (by omega)
/-! THE MODEL: caps, holidays -/
section
variable {u g : xMem} {P : Option Value → xMem → Prop} {D s nl np nb nc nr nh nk ra n : Nat} {p d x y c price : Int32}
def fCi (own good amt : Nat → Int32) (p c : Int32) (n : Nat) : Int32 := if 0 ≤ fCt own good p c n 0 then amt (xix (fCt own good p c n 0)) else -2
theorem capIn_run {A B C : Nat → Int32} (h1 : sA u ra 13 402) (h7 : xI u ra 7 = nI n) (hn : n ≤ 6) (hA : ∀ k, k < n → xI u ra (384 + 3 * k) = A k ∧ xI u ra (384 + 3 * k + 1) = B k ∧ xI u ra (384 + 3 * k + 2) = C k) : zr 206 0 [.ref ra, .int p, .int c, .null] [] u P = P (some (.int (fCi A B C p c n))) u := by
  obtain ⟨i1, n1⟩ := h1
  have lp : ∀ r i, i + r = n → zr 206 2 [.ref ra, .int p, .int c, .int (nI i)] [] u P = P (some (.int (if 0 ≤ fCt A B p c r i then C (xix (fCt A B p c r i)) else -2))) u := by
    intro r
    induction r with
    | zero =>
      intro i hi
      have : i = n := by omega
      subst this
      rw [r206_2]
      simp (disch := omega) only [r206_0, r206_1, r206_3, r206_4, r206_6, r206_7, r206_10, r206_11, r206_14, r206_15, r206_16, r206_17, r206_18, r206_19, r206_20, r206_23, r206_24, r206_27, r206_28, r206_29, r206_30, r206_31, r206_32, r206_33, r206_34, r206_35, r206_38, r206_39, r206_42, r206_43, r206_44, r206_45, r206_46, r206_47, r206_48, r206_49, r206_50, r206_53, r206_56, r206_58, i1, n1, h7, lb7, li7, leT, fCt, show ¬ (0 : Int32) ≤ -1 by decide, true_and, and_true, Option.some.injEq, exists_eq_left', Option.toList_some, Option.toList_none, List.cons_append, List.nil_append, xcat_nil, xcat_int, xcat_ref, xcat_long, not_true, not_false_iff, if_true, if_false, and_self, and_false, false_and, or_true, true_or, or_self, z01, z10, zle8, Nat.reduceAdd, Nat.reduceLeDiff]
    | succ r ih =>
      intro i hi
      have ih := ih (i + 1) (by omega)
      obtain ⟨a1, a2, a3⟩ := hA i (by omega)
      rw [r206_2]
      simp (disch := omega) only [r206_0, r206_1, r206_3, r206_4, r206_6, r206_7, r206_10, r206_11, r206_14, r206_15, r206_16, r206_17, r206_18, r206_19, r206_20, r206_23, r206_24, r206_27, r206_28, r206_29, r206_30, r206_31, r206_32, r206_33, r206_34, r206_35, r206_38, r206_39, r206_42, r206_43, r206_44, r206_45, r206_46, r206_47, r206_48, r206_49, r206_50, r206_53, r206_56, r206_58, i1, n1, h7, lb7, li7, leF, km3, kl384, kr1, kr2, xinbT, xixT, a1, a2, a3, fCt, ih, true_and, and_true, Option.some.injEq, exists_eq_left', Option.toList_some, Option.toList_none, List.cons_append, List.nil_append, xcat_nil, xcat_int, xcat_ref, xcat_long, not_true, not_false_iff, if_true, if_false, and_self, and_false, false_and, or_true, true_or, or_self, z01, z10, zle8, Nat.reduceAdd, Nat.reduceLeDiff]
      by_cases g1 : A i = p
      · by_cases g2 : B i = c
        · simp (disch := omega) only [g1, g2, psT, xixT, true_and, and_true, Option.some.injEq, exists_eq_left', Option.toList_some, Option.toList_none, List.cons_append, List.nil_append, xcat_nil, xcat_int, xcat_ref, xcat_long, not_true, not_false_iff, if_true, if_false, and_self, and_false, false_and, or_true, true_or, or_self, z01, z10, zle8, Nat.reduceAdd, Nat.reduceLeDiff]
        · simp only [g1, g2, true_and, and_true, Option.some.injEq, exists_eq_left', Option.toList_some, Option.toList_none, List.cons_append, List.nil_append, xcat_nil, xcat_int, xcat_ref, xcat_long, not_true, not_false_iff, if_true, if_false, and_self, and_false, false_and, or_true, true_or, or_self, z01, z10, zle8, Nat.reduceAdd, Nat.reduceLeDiff]
      · simp only [g1, true_and, and_true, Option.some.injEq, exists_eq_left', Option.toList_some, Option.toList_none, List.cons_append, List.nil_append, xcat_nil, xcat_int, xcat_ref, xcat_long, not_true, not_false_iff, if_true, if_false, and_self, and_false, false_and, or_true, true_or, or_self, z01, z10, zle8, Nat.reduceAdd, Nat.reduceLeDiff]
  simp only [r206_0, r206_1]
  exact lp n 0 (by omega)
end
