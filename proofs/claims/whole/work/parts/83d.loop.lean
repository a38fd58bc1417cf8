/-! THE LAW'S LOOP, whole -/
section
variable {I : xOp}
theorem law_i8 {N t : Nat} (hN : N < 2147483648) (ht : t < 268435456) (h : ¬ Int32.ofNat N - 8 < nI (8 * t)) : 8 * t + 8 ≤ N := by
  have h := i32_le.mp (i32_nlt.mp h)
  rw [nI_toI (by omega)] at h
  have e0 : (Int32.ofNat N).toInt = N := nI_toI hN
  have e8 : (8 : Int32).toInt = 8 := rfl
  have e : (Int32.ofNat N - 8).toInt = N - 8 := by
    rw [Int32.toInt_sub, e0, e8]
    exact Int.bmod_eq_of_le (by omega) (by omega)
  omega
theorem law_loop (hId : IdOk I) : ∀ r t (u : xMem) (v5 v6 : Value), xN u 2000000 < 8 * (t + r) → 8 * t ≤ xN u 2000000 → Inv u → xN u 2000000 < 2147483648 → zl I 0 23 [.ref 2000000, .ref 0, .ref 278, .ref 295, .int (nI (8 * t)), v5, v6] [] u (fun r _ => r = some (.int 1)) := by
  intro r
  induction r with
  | zero =>
    intro t u v5 v6 hr ht hI hN
    omega
  | succ r ih =>
    intro t u v5 v6 hr ht hI hN
    rw [q0_23]
    simp only [q0_25, q0_26, q0_27, q0_29, q0_30, true_and, and_true, Option.some.injEq, exists_eq_left', Option.toList_some, Option.toList_none, List.cons_append, List.nil_append, xcat_nil, xcat_int, xcat_ref, xcat_long, not_true, not_false_iff, if_true, if_false, and_self, and_false, false_and, or_true, true_or, or_self, z01, z10, zle8, Nat.reduceAdd, Nat.reduceLeDiff]
    by_cases c : Int32.ofNat (xN u 2000000) - 8 < nI (8 * t)
    · simp only [c, q0_2244, q0_2245, true_and, and_true, Option.some.injEq, exists_eq_left', Option.toList_some, Option.toList_none, List.cons_append, List.nil_append, xcat_nil, xcat_int, xcat_ref, xcat_long, not_true, not_false_iff, if_true, if_false, and_self, and_false, false_and, or_true, true_or, or_self, z01, z10, zle8, Nat.reduceAdd, Nat.reduceLeDiff]
    · have h8 := law_i8 hN (by omega) c
      have b0 : xinb (nI (8 * t)) (xN u 2000000) := xinb_nI (by omega) (by omega)
      have bk : ∀ k : Nat, k < 8 → xinb (nI (8 * t) + nI k) (xN u 2000000) := fun k hk => by rw [nI_add]; exact xinb_nI (by omega) (by omega)
      have b1 : xinb (nI (8 * t) + 1) (xN u 2000000) := bk 1 (by omega)
      have b2 : xinb (nI (8 * t) + 2) (xN u 2000000) := bk 2 (by omega)
      have b3 : xinb (nI (8 * t) + 3) (xN u 2000000) := bk 3 (by omega)
      have b4 : xinb (nI (8 * t) + 4) (xN u 2000000) := bk 4 (by omega)
      have b5 : xinb (nI (8 * t) + 5) (xN u 2000000) := bk 5 (by omega)
      have b6 : xinb (nI (8 * t) + 6) (xN u 2000000) := bk 6 (by omega)
      have b7 : xinb (nI (8 * t) + 7) (xN u 2000000) := bk 7 (by omega)
      have hn : ∀ (u2 : xMem) (v5 v6 : Value), Fr u u2 → Inv u2 → zl I 0 2238 [.ref 2000000, .ref 0, .ref 278, .ref 295, .int (nI (8 * t)), v5, v6] [] u2 (fun r _ => r = some (.int 1)) := fun u2 v5 v6 f2 i2 => by
        have e : nI (8 * t) + 8 = nI (8 * (t + 1)) := by
          show nI (8 * t) + nI 8 = _
          rw [nI_add]
          congr 1
        simp only [q0_2238, q0_2241, e, true_and, and_true, Option.some.injEq, exists_eq_left', Option.toList_some, Option.toList_none, List.cons_append, List.nil_append, xcat_nil, xcat_int, xcat_ref, xcat_long, not_true, not_false_iff, if_true, if_false, and_self, and_false, false_and, or_true, true_or, or_self, z01, z10, zle8, Nat.reduceAdd, Nat.reduceLeDiff]
        have en := f2.n (a := 2000000)
        exact ih (t + 1) u2 v5 v6 (by omega) (by omega) i2 (by omega)
      simp only [c, q0_33, q0_34, q0_36, q0_37, q0_39, b0, true_and, and_true, Option.some.injEq, exists_eq_left', Option.toList_some, Option.toList_none, List.cons_append, List.nil_append, xcat_nil, xcat_int, xcat_ref, xcat_long, not_true, not_false_iff, if_true, if_false, and_self, and_false, false_and, or_true, true_or, or_self, z01, z10, zle8, Nat.reduceAdd, Nat.reduceLeDiff]
      generalize (xI u 2000000 (xix (nI (8 * t))) &&& 63) = z
      rw [q0_40]
      by_cases d : z < 0 ∨ 47 ≤ z
      · rw [if_pos d]
        exact hn u v5 v6 Fr.rf hI
      · rw [if_neg d]
        have hz : z.toNatClampNeg < 47 := by
          have d1 := i32_nlt.mp (fun y => d (Or.inl y))
          have d2 := i32_nle.mp (fun y => d (Or.inr y))
          obtain ⟨j, hj, rfl⟩ := i32_in (n := 47) d1 d2 (by omega)
          have ej : (nI j).toNatClampNeg = j := xix_nI (by omega)
          rw [ej]
          exact hj
        generalize z.toNatClampNeg = j at hz
        match j, hz with
        | 0, _ => exact law_0 hI b1 b2 b3 b4 b5 b6 b7 (fun u2 f i => hn u2 v5 v6 f i)
        | 1, _ => exact law_1 hI b1 b2 b3 b4 b5 b6 b7 (fun u2 f i => hn u2 v5 v6 f i)
        | 2, _ => exact law_2 hI b1 b2 b3 b4 b5 b6 b7 (fun u2 f i => hn u2 v5 v6 f i)
        | 3, _ => exact law_3 hI b1 b2 b3 b4 b5 b6 b7 (fun u2 f i => hn u2 v5 v6 f i)
        | 4, _ => exact law_4 hI b1 b2 b3 b4 b5 b6 b7 (fun u2 f i => hn u2 v5 v6 f i)
        | 5, _ => exact law_5 hI b1 b2 b3 b4 b5 b6 b7 (fun u2 f i => hn u2 v5 v6 f i)
        | 6, _ => exact law_6 hI b1 b2 b3 b4 b5 b6 b7 (fun u2 f i => hn u2 v5 v6 f i)
        | 7, _ => exact law_7 hI b1 b2 b3 b4 b5 b6 b7 (fun u2 f i => hn u2 v5 v6 f i)
        | 8, _ => exact law_8 hI b1 b2 b3 b4 b5 b6 b7 (fun u2 f i => hn u2 v5 v6 f i)
        | 9, _ => exact law_9 hI b1 b2 b3 b4 b5 b6 b7 (fun u2 f i => hn u2 v5 v6 f i)
        | 10, _ => exact law_10 hI b1 b2 b3 b4 b5 b6 b7 (fun u2 f i => hn u2 v5 v6 f i)
        | 11, _ => exact law_11 hI b1 b2 b3 b4 b5 b6 b7 (fun u2 f i => hn u2 v5 v6 f i)
        | 12, _ => exact law_12 hI b1 b2 b3 b4 b5 b6 b7 (fun u2 f i => hn u2 v5 v6 f i)
        | 13, _ => exact law_13 hI b1 b2 b3 b4 b5 b6 b7 (fun u2 f i => hn u2 v5 v6 f i)
        | 14, _ => exact law_14 hI b1 b2 b3 b4 b5 b6 b7 (fun u2 f i => hn u2 v5 v6 f i)
        | 15, _ => exact law_15 hI b1 b2 b3 b4 b5 b6 b7 (fun u2 f i => hn u2 v5 v6 f i)
        | 16, _ => exact law_16 hI b1 b2 b3 b4 b5 b6 b7 (fun u2 f i => hn u2 v5 v6 f i)
        | 17, _ => exact law_17 hI b1 b2 b3 b4 b5 b6 b7 (fun u2 f i => hn u2 v5 v6 f i)
        | 18, _ => exact law_18 hI b1 b2 b3 b4 b5 b6 b7 (fun u2 f i => hn u2 v5 v6 f i)
        | 19, _ => exact law_19 hI b1 b2 b3 b4 b5 b6 b7 (fun u2 f i => hn u2 v5 v6 f i)
        | 20, _ => exact law_20 hI b1 b2 b3 b4 b5 b6 b7 (fun u2 f i => hn u2 v5 v6 f i)
        | 21, _ => exact law_21 hI b1 b2 b3 b4 b5 b6 b7 (fun u2 f i => hn u2 v5 v6 f i)
        | 22, _ => exact law_22 hI b1 b2 b3 b4 b5 b6 b7 (fun u2 f i => hn u2 v5 v6 f i)
        | 23, _ => exact law_23 hI b1 b2 b3 b4 b5 b6 b7 (fun u2 f i => hn u2 v5 v6 f i)
        | 24, _ => exact law_24 hI b1 b2 b3 b4 b5 b6 b7 (fun u2 f i => hn u2 v5 v6 f i)
        | 25, _ => exact law_25 hI b1 b2 b3 b4 b5 b6 b7 (fun u2 f i => hn u2 v5 v6 f i)
        | 26, _ => exact law_26 hI b1 b2 b3 b4 b5 b6 b7 (fun u2 f i => hn u2 v5 v6 f i)
        | 27, _ => exact law_27 hI b1 b2 b3 b4 b5 b6 b7 (fun u2 f i => hn u2 v5 v6 f i)
        | 28, _ => exact law_28 hI b1 b2 b3 b4 b5 b6 b7 (fun u2 f i => hn u2 v5 v6 f i)
        | 29, _ => exact law_29 hI b1 b2 b3 b4 b5 b6 b7 (fun u2 f i => hn u2 v5 v6 f i)
        | 30, _ => exact law_30 hI b1 b2 b3 b4 b5 b6 b7 (fun u2 f i => hn u2 v5 v6 f i)
        | 31, _ => exact law_31 hI b1 b2 b3 b4 b5 b6 b7 (fun u2 f i => hn u2 v5 v6 f i)
        | 32, _ => exact law_32 hI b1 b2 b3 b4 b5 b6 b7 (fun u2 f i => hn u2 v5 v6 f i)
        | 33, _ => exact law_33 hI b1 b2 b3 b4 b5 b6 b7 (fun u2 f i => hn u2 v5 v6 f i)
        | 34, _ => exact law_34 hI b1 b2 b3 b4 b5 b6 b7 (fun u2 f i => hn u2 v5 v6 f i)
        | 35, _ => exact law_35 hI b1 b2 b3 b4 b5 b6 b7 (fun u2 f i => hn u2 v5 v6 f i)
        | 36, _ => exact law_36 hI b1 b2 b3 b4 b5 b6 b7 (fun u2 f i => hn u2 v5 v6 f i)
        | 37, _ => exact law_37 hI b1 b2 b3 b4 b5 b6 b7 (fun u2 f i => hn u2 v5 v6 f i)
        | 38, _ => exact law_38 hI b1 b2 b3 b4 b5 b6 b7 (fun u2 f i => hn u2 v5 v6 f i)
        | 39, _ => exact law_39 hI b1 b2 b3 b4 b5 b6 b7 (fun u2 f i => hn u2 v5 v6 f i)
        | 40, _ => exact law_40 hI b1 b2 b3 b4 b5 b6 b7 (fun u2 f i => hn u2 v5 v6 f i)
        | 41, _ => exact law_41 hI b1 b2 b3 b4 b5 b6 b7 (fun u2 f i => hn u2 v5 v6 f i)
        | 42, _ => exact law_42 hI b1 b2 b3 b4 b5 b6 b7 (fun u2 f i => hn u2 v5 v6 f i)
        | 43, _ => exact law_43 hI b1 b2 b3 b4 b5 b6 b7 (fun u2 f i => hn u2 v5 v6 f i)
        | 44, _ => exact law_44 hId hI b1 b2 b3 b4 b5 b6 b7 (fun u2 v5 v6 f i => hn u2 v5 v6 f i)
        | 45, _ => exact law_45 hI b1 b2 b3 b4 b5 b6 b7 (fun u2 f i => hn u2 v5 v6 f i)
        | 46, _ => exact law_46 hI b1 b2 b3 b4 b5 b6 b7 (fun u2 f i => hn u2 v5 v6 f i)
        | j + 47, h => exact absurd h (by omega)
end
