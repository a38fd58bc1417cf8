/-! THE MODEL: edges east of a point -/
theorem t_add {x y : Int32} {a b : Int} (hx : x.toInt = a) (hy : y.toInt = b) (h : -2147483648 ≤ a + b ∧ a + b < 2147483648) : (x + y).toInt = a + b := by
  rw [Int32.toInt_add, hx, hy]
  exact Int.bmod_eq_of_le (by omega) (by omega)
theorem t_sub {x y : Int32} {a b : Int} (hx : x.toInt = a) (hy : y.toInt = b) (h : -2147483648 ≤ a - b ∧ a - b < 2147483648) : (x - y).toInt = a - b := by
  rw [Int32.toInt_sub, hx, hy]
  exact Int.bmod_eq_of_le (by omega) (by omega)
theorem t_mul {x y : Int32} {a b : Int} (hx : x.toInt = a) (hy : y.toInt = b) (h : -2147483648 ≤ a * b ∧ a * b < 2147483648) : (x * y).toInt = a * b := by
  rw [Int32.toInt_mul, hx, hy]
  exact Int.bmod_eq_of_le (by omega) (by omega)
theorem abs_mul {a b : Int} {m n : Nat} (ha : a.natAbs ≤ m) (hb : b.natAbs ≤ n) : (a * b).natAbs ≤ m * n := by
  rw [Int.natAbs_mul]
  exact Nat.mul_le_mul ha hb
/-- the cross product of small numbers -/
theorem t_cross {p q r t : Int32} {a b c d : Int} (hp : p.toInt = a) (hq : q.toInt = b) (hr : r.toInt = c) (ht : t.toInt = d) (ha : a.natAbs ≤ 100) (hb : b.natAbs ≤ 100) (hc : c.natAbs ≤ 100) (hd : d.natAbs ≤ 100) : (p * q + r * t).toInt = a * b + c * d ∧ (a * b + c * d).natAbs ≤ 20000 := by
  have h1 := abs_mul ha hb
  have h2 := abs_mul hc hd
  have e1 := t_mul hp hq (by omega)
  have e2 := t_mul hr ht (by omega)
  exact ⟨t_add e1 e2 (by omega), by omega⟩
theorem crs_neg (xf xt yf yt x y : Int) : (xt - x) * (yf - yt) + (y - yt) * (xf - xt) = -((xf - x) * (yt - yf) + (y - yf) * (xt - xf)) := by grind
/-- an edge as the class sees it, out of numbers up to 40 -/
theorem fCr_east {X Y : Nat → Int32} {x y : Int32} {f t : Nat} {xf xt yf yt a b : Nat} (e1 : X f = nI xf) (e2 : X t = nI xt) (e3 : Y f = nI yf) (e4 : Y t = nI yt) (e5 : x = nI a) (e6 : y = nI b) (h1 : xf ≤ 40) (h2 : xt ≤ 40) (h3 : yf ≤ 40) (h4 : yt ≤ 40) (h5 : a ≤ 40) (h6 : b ≤ 40) :
    fCr X Y x y f t = if b < yf then (if b < yt then false else decide (0 < (X t - x) * (Y f - Y t) + (y - Y t) * (X f - X t))) else (if b < yt then decide (0 < (X f - x) * (Y t - Y f) + (y - Y f) * (X t - X f)) else false) := by
  have i1 : (X f - x).toInt = (xf : Int) - a := by rw [e1, e5]; exact t_sub (nI_toInt (by omega)) (nI_toInt (by omega)) (by omega)
  have i2 : (Y t - Y f).toInt = (yt : Int) - yf := by rw [e4, e3]; exact t_sub (nI_toInt (by omega)) (nI_toInt (by omega)) (by omega)
  have i3 : (y - Y f).toInt = (b : Int) - yf := by rw [e6, e3]; exact t_sub (nI_toInt (by omega)) (nI_toInt (by omega)) (by omega)
  have i4 : (X t - X f).toInt = (xt : Int) - xf := by rw [e2, e1]; exact t_sub (nI_toInt (by omega)) (nI_toInt (by omega)) (by omega)
  have i5 : (X t - x).toInt = (xt : Int) - a := by rw [e2, e5]; exact t_sub (nI_toInt (by omega)) (nI_toInt (by omega)) (by omega)
  have i6 : (Y f - Y t).toInt = (yf : Int) - yt := by rw [e4, e3]; exact t_sub (nI_toInt (by omega)) (nI_toInt (by omega)) (by omega)
  have i7 : (y - Y t).toInt = (b : Int) - yt := by rw [e6, e4]; exact t_sub (nI_toInt (by omega)) (nI_toInt (by omega)) (by omega)
  have i8 : (X f - X t).toInt = (xf : Int) - xt := by rw [e2, e1]; exact t_sub (nI_toInt (by omega)) (nI_toInt (by omega)) (by omega)
  have c1 := t_cross i1 i2 i3 i4 (by omega) (by omega) (by omega) (by omega)
  have c2 := t_cross i5 i6 i7 i8 (by omega) (by omega) (by omega) (by omega)
  have hneg := crs_neg (xf : Int) xt yf yt a b
  have k1 : decide (y < Y f) = decide (b < yf) := by rw [e6, e3, decide_eq_decide, nI_ltI (by omega) (by omega)]
  have k2 : decide (y < Y t) = decide (b < yt) := by rw [e6, e4, decide_eq_decide, nI_ltI (by omega) (by omega)]
  have z0 : (0 : Int32).toInt = 0 := rfl
  unfold fCr fEast
  rw [k1, k2]
  by_cases g1 : b < yf
  · by_cases g2 : b < yt
    · simp [g1, g2]
    · have r1 : Y t - Y f ≤ 0 := by rw [i32_le, i2, z0]; omega
      have key : ((X f - x) * (Y t - Y f) + (y - Y f) * (X t - X f) < 0) ↔ (0 < (X t - x) * (Y f - Y t) + (y - Y t) * (X f - X t)) := by
        rw [i32_lt, i32_lt, c1.1, c2.1, z0, hneg]
        omega
      simp [g1, g2, r1, key]
  · by_cases g2 : b < yt
    · have r1 : ¬ Y t - Y f ≤ 0 := by rw [i32_le, i2, z0]; omega
      simp [g1, g2, r1]
    · simp [g1, g2]
section
variable {u g : xMem} {P : Option Value → xMem → Prop} {D s nl np nb nc nr nh nk : Nat} {p d x y c : Int32}
/-- the corners of all bounds are on a desk of at most 40 -/
def okXY (g : xMem) (D nb : Nat) : Prop := ∀ b, b < nb → ∀ i, i < xix (xI g (D + 7) b) → (∃ a, a ≤ 40 ∧ xI g (D + 8) (6 * b + i) = nI a) ∧ ∃ a, a ≤ 40 ∧ xI g (D + 9) (6 * b + i) = nI a
theorem isEastM_run (hM : sMd u) (hc : cpD (xI u 279) g D np nb nc nr nh nk) (hX : okXY g D nb) {b i j : Nat} (hb : b < nb) (hb16 : b < 16) (hi : i < xix (xI g (D + 7) b)) (hj : j < xix (xI g (D + 7) b)) (h6 : i < 6) (j6 : j < 6) {px py : Nat} (hx : px ≤ 40) (hy : py ≤ 40) :
    zr 229 0 [.ref 278, .int (nI b), .int (nI i), .int (nI j), .int (nI px), .int (nI py), .null, .null, .null, .null, .null] [] u P = P (some (.int (bI (fCr (xI g (D + 8)) (xI g (D + 9)) (nI px) (nI py) (6 * b + i) (6 * b + j))))) u := by
  obtain ⟨⟨xf, k1, e1⟩, ⟨yf, k3, e3⟩⟩ := hX b hb i hi
  obtain ⟨⟨xt, k2, e2⟩, ⟨yt, k4, e4⟩⟩ := hX b hb j hj
  have xi := fun P => xOf_run (P := P) hM hc hb hb16 hi h6
  have xj := fun P => xOf_run (P := P) hM hc hb hb16 hj j6
  have yi := fun P => yOf_run (P := P) hM hc hb hb16 hi h6
  have yj := fun P => yOf_run (P := P) hM hc hb hb16 hj j6
  rw [fCr_east e1 e2 e3 e4 rfl rfl k1 k2 k3 k4 hx hy]
  simp only [r229_0, r229_1, r229_2, r229_3, r229_6, r229_8, r229_11, r229_12, r229_15, r229_16, r229_18, r229_19, r229_20, r229_21, r229_24, r229_26, r229_29, r229_30, r229_33, r229_34, r229_36, r229_38, r229_40, r229_43, r229_44, r229_45, r229_47, r229_50, r229_51, r229_54, r229_55, r229_57, r229_59, r229_62, r229_63, r229_66, r229_67, r229_69, r229_70, r229_71, r229_73, r229_76, r229_77, r229_78, r229_80, r229_83, r229_84, r229_86, r229_87, r229_88, r229_90, r229_93, r229_95, r229_96, r229_98, r229_99, r229_101, r229_102, r229_103, r229_105, r229_108, r229_109, r229_110, r229_111, r229_113, r229_116, r229_117, r229_118, r229_120, r229_123, r229_124, r229_125, r229_126, r229_129, r229_130, r229_133, r229_134, hM.1, xi, xj, yi, yj, true_and, and_true, Option.some.injEq, exists_eq_left', Option.toList_some, Option.toList_none, List.cons_append, List.nil_append, xcat_nil, xcat_int, xcat_ref, xcat_long, not_true, not_false_iff, if_true, if_false, and_self, and_false, false_and, or_true, true_or, or_self, z01, z10, zle8, Nat.reduceAdd, Nat.reduceLeDiff]
  have l1 : (xI g (D + 9) (6 * b + i) ≤ nI py) = ¬ (py < yf) := by rw [e3, nI_leI (by omega) (by omega)]; exact propext (by omega)
  have l2 : (xI g (D + 9) (6 * b + j) ≤ nI py) = ¬ (py < yt) := by rw [e4, nI_leI (by omega) (by omega)]; exact propext (by omega)
  simp only [l1, l2]
  by_cases g1 : py < yf <;> by_cases g2 : py < yt <;> simp only [g1, g2, bI_f, true_and, and_true, Option.some.injEq, exists_eq_left', Option.toList_some, Option.toList_none, List.cons_append, List.nil_append, xcat_nil, xcat_int, xcat_ref, xcat_long, not_true, not_false_iff, if_true, if_false, and_self, and_false, false_and, or_true, true_or, or_self, z01, z10, zle8, Nat.reduceAdd, Nat.reduceLeDiff]
  · by_cases g3 : (xI g (D + 8) (6 * b + j) - nI px) * (xI g (D + 9) (6 * b + i) - xI g (D + 9) (6 * b + j)) + (nI py - xI g (D + 9) (6 * b + j)) * (xI g (D + 8) (6 * b + i) - xI g (D + 8) (6 * b + j)) ≤ 0
    · simp only [g3, decide_eq_false (i32_nlt.mpr g3), bI_f, true_and, and_true, Option.some.injEq, exists_eq_left', Option.toList_some, Option.toList_none, List.cons_append, List.nil_append, xcat_nil, xcat_int, xcat_ref, xcat_long, not_true, not_false_iff, if_true, if_false, and_self, and_false, false_and, or_true, true_or, or_self, z01, z10, zle8, Nat.reduceAdd, Nat.reduceLeDiff]
    · simp only [g3, decide_eq_true (i32_nle.mp g3), bI_t, true_and, and_true, Option.some.injEq, exists_eq_left', Option.toList_some, Option.toList_none, List.cons_append, List.nil_append, xcat_nil, xcat_int, xcat_ref, xcat_long, not_true, not_false_iff, if_true, if_false, and_self, and_false, false_and, or_true, true_or, or_self, z01, z10, zle8, Nat.reduceAdd, Nat.reduceLeDiff]
  · by_cases g3 : (xI g (D + 8) (6 * b + i) - nI px) * (xI g (D + 9) (6 * b + j) - xI g (D + 9) (6 * b + i)) + (nI py - xI g (D + 9) (6 * b + i)) * (xI g (D + 8) (6 * b + j) - xI g (D + 8) (6 * b + i)) ≤ 0
    · simp only [g3, decide_eq_false (i32_nlt.mpr g3), bI_f, true_and, and_true, Option.some.injEq, exists_eq_left', Option.toList_some, Option.toList_none, List.cons_append, List.nil_append, xcat_nil, xcat_int, xcat_ref, xcat_long, not_true, not_false_iff, if_true, if_false, and_self, and_false, false_and, or_true, true_or, or_self, z01, z10, zle8, Nat.reduceAdd, Nat.reduceLeDiff]
    · simp only [g3, decide_eq_true (i32_nle.mp g3), bI_t, true_and, and_true, Option.some.injEq, exists_eq_left', Option.toList_some, Option.toList_none, List.cons_append, List.nil_append, xcat_nil, xcat_int, xcat_ref, xcat_long, not_true, not_false_iff, if_true, if_false, and_self, and_false, false_and, or_true, true_or, or_self, z01, z10, zle8, Nat.reduceAdd, Nat.reduceLeDiff]
end
