/-! THE MODEL's reading of words, wholes, names beside the class's -/
section
variable {w v g : xMem} {P : Option Value → xMem → Prop} {e a b E r k n np nc : Nat} {x y lo hi : Int32}
theorem mKd_2 (h : xI g 2 5 = 0 ∨ xI g 2 5 = 1 ∨ xI g 2 5 = 2 ∨ xI g 2 5 = 3 ∨ xI g 2 5 = 4) : (mKd (xI g 2 5) = 2 ↔ xI g 2 5 = 1) ∧ (mKd (xI g 2 5) = 3 ↔ xI g 2 5 = 2) ∧ (mKd (xI g 2 5) = 4 ↔ xI g 2 5 = 3) ∧ (mKd (xI g 2 5) = 1 ↔ xI g 2 5 = 0) := by
  rcases h with h | h | h | h | h <;> rw [h] <;> decide
theorem xtxt_ok : ∀ k, k < 14 → ∀ i, i < (xtxt k).length → 97 ≤ (xtxt k).getD i 0 ∧ (xtxt k).getD i 0 ≤ 122 := by decide
theorem isWord_say (hk : k < 14) (h : Lx g w) : (decide (xI w 278 12 = 2) && decide (xJ w 278 16 = fXm (xtxt k) (xtxt k).length)) = cSay g k := by
  obtain ⟨-, -, h3, h4, h5, -⟩ := h
  have hl := xtxt_len k
  have ht := xtxt_ok k hk
  unfold cSay
  rw [h3]
  by_cases c : xI g 2 5 = 1
  · rw [decide_eq_true ((mKd_2 h4).1.mpr c), decide_eq_true c, Bool.true_and, Bool.true_and]
    obtain ⟨a, n, cc, hn, ha, hb, han, hL, -, hw⟩ := h5 c
    rw [hw, fXm_eN _ (fun i hi => by have := ht i hi; omega), ha, hb, xix_nI (by omega), subI (by omega) (by omega), show a + n - a = n by omega]
    have l1 : eN 256 cc n < 2 ^ 63 := eN_lt7 (by omega) (by omega) (fun i hi => by have := hL i hi; omega) hn
    have l2 : eN 256 (fun i => (xtxt k).getD i 0) (xtxt k).length < 2 ^ 63 := eN_lt7 (by omega) (by omega) (fun i hi => by have := ht i hi; omega) hl
    have key : (lN (eN 256 cc n) = lN (eN 256 (fun i => (xtxt k).getD i 0) (xtxt k).length)) ↔ (nI n = nI (xtxt k).length ∧ fSay (xI g 3) a (xtxt k) (xtxt k).length 0 = true) := by
      rw [fb_lN_inj l1 l2, fSay_iff]
      constructor
      · intro q
        obtain ⟨q1, q2⟩ := eN_inj (by omega) _ _ (fun i hi => by have := hL i hi; omega) (fun i hi => by have := ht i hi; omega) q
        refine ⟨by rw [q1], fun j _ hj => ?_⟩
        rw [(hL j (by omega)).1, q2 j (by omega)]
      · rintro ⟨q1, q2⟩
        have q1 : n = (xtxt k).length := (nI_eq (by omega) (by omega)).mp q1
        have q3 : ∀ i, i < n → cc i = (xtxt k).getD i 0 := fun i hi => by
          have z := q2 i (by omega) (by omega)
          have z1 := hL i hi
          have z2 := ht i (by omega)
          rw [z1.1] at z
          exact (nI_eq (by omega) (by omega)).mp z
        have cg : ∀ m, m ≤ n → eN 256 cc m = eN 256 (fun i => (xtxt k).getD i 0) m := by
          intro m
          induction m with
          | zero => intro _; rfl
          | succ m ih =>
            intro hm
            unfold eN
            rw [ih (by omega), q3 m (by omega)]
        rw [← q1]
        exact cg n (Nat.le_refl n)
    by_cases z : lN (eN 256 cc n) = lN (eN 256 (fun i => (xtxt k).getD i 0) (xtxt k).length)
    · rw [decide_eq_true z, decide_eq_true (key.mp z).1, (key.mp z).2]
      rfl
    · rw [decide_eq_false z]
      by_cases z1 : nI n = nI (xtxt k).length
      · rw [decide_eq_true z1, Bool.true_and]
        exact (Bool.eq_false_iff.mpr (fun z2 => z (key.mpr ⟨z1, z2⟩))).symm
      · rw [decide_eq_false z1, Bool.false_and]
  · rw [decide_eq_false (fun q => c ((mKd_2 h4).1.mp q)), decide_eq_false c, Bool.false_and, Bool.false_and]
theorem isWord_rel (hr : r = 1000000 + k) (hk : k < 14) (h : Wk g w E) : zr 182 0 [.ref 278, .ref r, .null, .null, .null] [] w P = P (some (.int (bI (cSay g k)))) w := by
  rw [isWord_run hr hk h.1.1.1, isWord_say hk h.2.2]
theorem isWord_z (hr : r = 1000000 + k) (hk : k < 14) (h : Fw w) : zr 182 0 [.ref 278, .ref r, .null, .null, .null] [] w P = P (some (.int 0)) w := by
  rw [isWord_run hr hk h.1.1, decide_eq_false (by rw [h.2.2]; decide), Bool.false_and]
  rfl
theorem Wk.next (h : Wk g w E) (hP : ∀ v, Nx w v → Wk (nxt g) v E → P none v) : zr 177 0 [.ref 278, .null] [] w P := next_rel h.1 h.2.1 h.2.2.2.1 hP
theorem takes_t (hr : r = 1000000 + k) (hk : k < 14) (h : Wk g w E) (c : cSay g k = true) (hP : ∀ v, Nx w v → Wk (nxt g) v E → P (some (.int 1)) v) : zr 183 0 [.ref 278, .ref r, .null] [] w P := by
  simp only [r183_0, r183_1, r183_2, r183_5, r183_6, r183_7, r183_10, r183_11, h.1.1.1, isWord_rel hr hk h, c, bI_t, true_and, and_true, Option.some.injEq, exists_eq_left', Option.toList_some, Option.toList_none, List.cons_append, List.nil_append, xcat_nil, xcat_int, xcat_ref, xcat_long, not_true, not_false_iff, if_true, if_false, and_self, and_false, false_and, or_true, true_or, or_self, z01, z10, zle8, Nat.reduceAdd, Nat.reduceLeDiff]
  refine h.next (fun v hn hv => ?_)
  simp only [r183_14, r183_15, or_true, true_and, and_true, Option.some.injEq, exists_eq_left', Option.toList_some, Option.toList_none, List.cons_append, List.nil_append, xcat_nil, xcat_int, xcat_ref, xcat_long, not_true, not_false_iff, if_true, if_false, and_self, and_false, false_and, or_true, true_or, or_self, z01, z10, zle8, Nat.reduceAdd, Nat.reduceLeDiff]
  exact hP v hn hv
theorem takes_f (hr : r = 1000000 + k) (hk : k < 14) (h : Wk g w E) (c : ¬ cSay g k = true) : zr 183 0 [.ref 278, .ref r, .null] [] w P = P (some (.int 0)) w := by
  simp only [r183_0, r183_1, r183_2, r183_5, r183_6, r183_7, r183_10, r183_11, r183_14, r183_15, h.1.1.1, isWord_rel hr hk h, Bool.eq_false_iff.mpr c, bI_f, true_and, and_true, Option.some.injEq, exists_eq_left', Option.toList_some, Option.toList_none, List.cons_append, List.nil_append, xcat_nil, xcat_int, xcat_ref, xcat_long, not_true, not_false_iff, if_true, if_false, and_self, and_false, false_and, or_true, true_or, or_self, z01, z10, zle8, Nat.reduceAdd, Nat.reduceLeDiff]
theorem takes_z (hr : r = 1000000 + k) (hk : k < 14) (h : Fw w) : zr 183 0 [.ref 278, .ref r, .null] [] w P = P (some (.int 0)) w := by
  simp only [r183_0, r183_1, r183_2, r183_5, r183_6, r183_7, r183_10, r183_11, r183_14, r183_15, h.1.1, isWord_z hr hk h, true_and, and_true, Option.some.injEq, exists_eq_left', Option.toList_some, Option.toList_none, List.cons_append, List.nil_append, xcat_nil, xcat_int, xcat_ref, xcat_long, not_true, not_false_iff, if_true, if_false, and_self, and_false, false_and, or_true, true_or, or_self, z01, z10, zle8, Nat.reduceAdd, Nat.reduceLeDiff]
/-- a fault told in both at the token -/
theorem Wk.fz (h : Wk g w E) (hx : 0 < x) : Fz (flt g x) (xsI (xsI w 278 15 x) 278 12 0) := ⟨h.1.1, hx, rfl, rfl, h.2.2.1⟩
theorem ny_fl : Ny w (xsI (xsI w 278 15 x) 278 12 0) := ⟨rfl, rfl, fun c j q => by rw [xI_ne (by omega), xI_ne (by omega)], fun c j q => rfl⟩
theorem readWhole_z (h : Fw w) : zr 184 0 [.ref 278, .int lo, .int hi, .null] [] w P = P (some (.int lo)) w := by
  simp only [r184_0, r184_1, r184_4, r184_5, r184_8, r184_9, r184_10, r184_13, r184_16, r184_17, r184_20, r184_21, r184_22, r184_25, r184_28, r184_29, r184_30, r184_33, r184_34, r184_37, r184_38, r184_39, r184_42, r184_43, r184_46, r184_49, r184_50, r184_53, r184_54, h.1.1, h.2.2, show ¬ (0 : Int32) = 3 by decide, flaw_z h, next_z h, h.nz.2, true_and, and_true, Option.some.injEq, exists_eq_left', Option.toList_some, Option.toList_none, List.cons_append, List.nil_append, xcat_nil, xcat_int, xcat_ref, xcat_long, not_true, not_false_iff, if_true, if_false, and_self, and_false, false_and, or_true, true_or, or_self, z01, z10, zle8, Nat.reduceAdd, Nat.reduceLeDiff]
theorem readWhole_rel (h : Wk g w E) (hlo : 0 ≤ lo) (hS : 0 ≤ (cWhole g lo hi).1 → ∀ v, Nx w v → Wk (cWhole g lo hi).2 v E → P (some (.int (cWhole g lo hi).1)) v)
    (hF : ¬ 0 ≤ (cWhole g lo hi).1 → ∀ v, Ny w v → Fz (cWhole g lo hi).2 v → P (some (.int lo)) v) : zr 184 0 [.ref 278, .int lo, .int hi, .null] [] w P := by
  obtain ⟨m2, m3, m4, m1⟩ := mKd_2 h.2.2.2.2.2.1
  have e12 := h.2.2.2.2.1
  have h0 := h.1.1.1
  unfold cWhole at hS hF
  by_cases c : xI g 2 5 = 2
  · have t3 : xI w 278 12 = 3 := by rw [e12]; exact m3.mpr c
    have e14 := h.2.2.2.2.2.2.2 c
    rw [if_pos c] at hS hF
    by_cases c2 : lo ≤ xI g 2 7 ∧ xI g 2 7 ≤ hi
    · rw [if_pos c2] at hS hF
      have hp : 0 ≤ xI g 2 7 := by have := i32_le.mp hlo; have := i32_le.mp c2.1; rw [i32_le]; omega
      simp only [r184_0, r184_1, r184_4, r184_5, r184_8, r184_9, r184_10, r184_13, r184_16, r184_17, r184_20, r184_21, r184_22, r184_25, r184_28, r184_29, r184_30, r184_33, r184_34, r184_37, r184_38, r184_39, h0, t3, e14, in_run, decide_eq_true c2, bI_t, true_and, and_true, Option.some.injEq, exists_eq_left', Option.toList_some, Option.toList_none, List.cons_append, List.nil_append, xcat_nil, xcat_int, xcat_ref, xcat_long, not_true, not_false_iff, if_true, if_false, and_self, and_false, false_and, or_true, true_or, or_self, z01, z10, zle8, Nat.reduceAdd, Nat.reduceLeDiff]
      refine h.next (fun v hn hv => ?_)
      simp only [r184_42, r184_43, r184_46, r184_49, r184_50, r184_53, r184_54, hv.1.1.1, hv.2.1, show (0 : Int32) ≤ 0 by decide, true_and, and_true, Option.some.injEq, exists_eq_left', Option.toList_some, Option.toList_none, List.cons_append, List.nil_append, xcat_nil, xcat_int, xcat_ref, xcat_long, not_true, not_false_iff, if_true, if_false, and_self, and_false, false_and, or_true, true_or, or_self, z01, z10, zle8, Nat.reduceAdd, Nat.reduceLeDiff]
      exact hS hp v hn hv
    · rw [if_neg c2] at hS hF
      have z := h.fz (x := 4) (by decide)
      have i1 := z.1.1
      have n1 := z.fw.nz
      simp only [r184_0, r184_1, r184_4, r184_5, r184_8, r184_9, r184_10, r184_13, r184_16, r184_17, r184_20, r184_21, r184_22, r184_25, r184_28, r184_29, r184_30, r184_33, r184_34, r184_37, r184_38, r184_39, r184_42, r184_43, r184_46, r184_49, r184_50, r184_53, r184_54, h0, t3, e14, in_run, decide_eq_false c2, bI_f, flaw_0 h0 h.2.1, next_z z.fw, i1, n1.2, true_and, and_true, Option.some.injEq, exists_eq_left', Option.toList_some, Option.toList_none, List.cons_append, List.nil_append, xcat_nil, xcat_int, xcat_ref, xcat_long, not_true, not_false_iff, if_true, if_false, and_self, and_false, false_and, or_true, true_or, or_self, z01, z10, zle8, Nat.reduceAdd, Nat.reduceLeDiff]
      exact hF (show ¬ (0 : Int32) ≤ -1 by decide) _ ny_fl z
  · have t3 : ¬ xI w 278 12 = 3 := by rw [e12]; exact fun q => c (m3.mp q)
    rw [if_neg c] at hS hF
    have z := h.fz (x := 1) (by decide)
    have i1 := z.1.1
    have n1 := z.fw.nz
    simp only [r184_0, r184_1, r184_4, r184_5, r184_8, r184_9, r184_10, r184_13, r184_16, r184_17, r184_20, r184_21, r184_22, r184_25, r184_28, r184_29, r184_30, r184_33, r184_34, r184_37, r184_38, r184_39, r184_42, r184_43, r184_46, r184_49, r184_50, r184_53, r184_54, h0, t3, flaw_0 h0 h.2.1, next_z z.fw, i1, n1.2, true_and, and_true, Option.some.injEq, exists_eq_left', Option.toList_some, Option.toList_none, List.cons_append, List.nil_append, xcat_nil, xcat_int, xcat_ref, xcat_long, not_true, not_false_iff, if_true, if_false, and_self, and_false, false_and, or_true, true_or, or_self, z01, z10, zle8, Nat.reduceAdd, Nat.reduceLeDiff]
    exact hF (show ¬ (0 : Int32) ≤ -1 by decide) _ ny_fl z
theorem readPart_z (hr : r = 1000000 + k) (hk : k < 14) (h : Fw w) : zr 185 0 [.ref 278, .ref r, .int lo, .int hi] [] w P = P (some (.int lo)) w := by
  simp only [r185_0, r185_1, r185_2, r185_5, r185_8, r185_9, r185_10, r185_13, r185_14, r185_15, r185_16, r185_19, h.1.1, takes_z hr hk h, flaw_z h, readWhole_z h, true_and, and_true, Option.some.injEq, exists_eq_left', Option.toList_some, Option.toList_none, List.cons_append, List.nil_append, xcat_nil, xcat_int, xcat_ref, xcat_long, not_true, not_false_iff, if_true, if_false, and_self, and_false, false_and, or_true, true_or, or_self, z01, z10, zle8, Nat.reduceAdd, Nat.reduceLeDiff]
theorem readPart_rel (hr : r = 1000000 + k) (hk : k < 14) (h : Wk g w E) (hlo : 0 ≤ lo) (hS : (cWord g k).1 = true → 0 ≤ (cWhole (cWord g k).2 lo hi).1 → ∀ v, Nx w v → Wk (cWhole (cWord g k).2 lo hi).2 v E → P (some (.int (cWhole (cWord g k).2 lo hi).1)) v)
    (hW : ¬ (cWord g k).1 = true → ∀ v, Ny w v → Fz (cWord g k).2 v → P (some (.int lo)) v)
    (hF : (cWord g k).1 = true → ¬ 0 ≤ (cWhole (cWord g k).2 lo hi).1 → ∀ v, Ny w v → Fz (cWhole (cWord g k).2 lo hi).2 v → P (some (.int lo)) v) : zr 185 0 [.ref 278, .ref r, .int lo, .int hi] [] w P := by
  have h0 := h.1.1.1
  unfold cWord at hS hW hF
  by_cases c : cSay g k = true
  · rw [if_pos c] at hS hW hF
    simp only [r185_0, r185_1, r185_2, h0, true_and, and_true, Option.some.injEq, exists_eq_left', Option.toList_some, Option.toList_none, List.cons_append, List.nil_append, xcat_nil, xcat_int, xcat_ref, xcat_long, not_true, not_false_iff, if_true, if_false, and_self, and_false, false_and, or_true, true_or, or_self, z01, z10, zle8, Nat.reduceAdd, Nat.reduceLeDiff]
    refine takes_t hr hk h c (fun v hn hv => ?_)
    simp only [r185_5, r185_8, r185_9, r185_10, r185_13, r185_14, r185_15, r185_16, hv.1.1.1, true_and, and_true, Option.some.injEq, exists_eq_left', Option.toList_some, Option.toList_none, List.cons_append, List.nil_append, xcat_nil, xcat_int, xcat_ref, xcat_long, not_true, not_false_iff, if_true, if_false, and_self, and_false, false_and, or_true, true_or, or_self, z01, z10, zle8, Nat.reduceAdd, Nat.reduceLeDiff]
    refine readWhole_rel hv hlo (fun q v2 hn2 hv2 => ?_) (fun q v2 hn2 hv2 => ?_)
    · simp only [r185_19, true_and, and_true, Option.some.injEq, exists_eq_left', Option.toList_some, Option.toList_none, List.cons_append, List.nil_append, xcat_nil, xcat_int, xcat_ref, xcat_long, not_true, not_false_iff, if_true, if_false, and_self, and_false, false_and, or_true, true_or, or_self, z01, z10, zle8, Nat.reduceAdd, Nat.reduceLeDiff]
      exact hS rfl q v2 (hn.tr hn2) hv2
    · simp only [r185_19, true_and, and_true, Option.some.injEq, exists_eq_left', Option.toList_some, Option.toList_none, List.cons_append, List.nil_append, xcat_nil, xcat_int, xcat_ref, xcat_long, not_true, not_false_iff, if_true, if_false, and_self, and_false, false_and, or_true, true_or, or_self, z01, z10, zle8, Nat.reduceAdd, Nat.reduceLeDiff]
      exact hF rfl q v2 (hn.ny.tr hn2) hv2
  · rw [if_neg c] at hS hW hF
    have z := h.fz (x := 1) (by decide)
    have i1 := z.1.1
    simp only [r185_0, r185_1, r185_2, r185_5, r185_8, r185_9, r185_10, r185_13, r185_14, r185_15, r185_16, r185_19, h0, takes_f hr hk h c, flaw_0 h0 h.2.1, readWhole_z z.fw, i1, true_and, and_true, Option.some.injEq, exists_eq_left', Option.toList_some, Option.toList_none, List.cons_append, List.nil_append, xcat_nil, xcat_int, xcat_ref, xcat_long, not_true, not_false_iff, if_true, if_false, and_self, and_false, false_and, or_true, true_or, or_self, z01, z10, zle8, Nat.reduceAdd, Nat.reduceLeDiff]
    exact hW Bool.false_ne_true _ ny_fl z
theorem isNameM_rel (h : Wk g w E) : zr 186 0 [.ref 278] [] w P = P (some (.int (bI (cNm g)))) w := by
  have hs := fun r k hr hk P => isWord_rel (r := r) (k := k) (P := P) hr hk h
  have s0 := hs 1000000 0 rfl (by omega)
  have s1 := hs 1000001 1 rfl (by omega)
  have s2 := hs 1000002 2 rfl (by omega)
  have s3 := hs 1000003 3 rfl (by omega)
  have s4 := hs 1000004 4 rfl (by omega)
  have s5 := hs 1000005 5 rfl (by omega)
  have s6 := hs 1000006 6 rfl (by omega)
  have s7 := hs 1000007 7 rfl (by omega)
  have s8 := hs 1000008 8 rfl (by omega)
  have s9 := hs 1000009 9 rfl (by omega)
  have h0 := h.1.1.1
  have m2 := (mKd_2 h.2.2.2.2.2.1).1
  have e12 := h.2.2.2.2.1
  unfold cNm
  by_cases c : xI g 2 5 = 1
  · have t2 : xI w 278 12 = 2 := by rw [e12]; exact m2.mpr c
    rw [decide_eq_true c, Bool.true_and]
    simp only [r186_0, r186_1, r186_4, r186_5, r186_8, r186_9, r186_11, r186_14, r186_17, r186_18, r186_20, r186_23, r186_26, r186_27, r186_29, r186_32, r186_35, r186_36, r186_38, r186_41, r186_44, r186_45, r186_47, r186_50, r186_53, r186_54, r186_56, r186_59, r186_62, r186_63, r186_65, r186_68, r186_71, r186_72, r186_74, r186_77, r186_80, r186_81, r186_83, r186_86, r186_89, r186_90, r186_92, r186_95, r186_98, r186_99, r186_102, r186_103, h0, t2, s0, s1, s2, s3, s4, s5, s6, s7, s8, s9, bI_0, true_and, and_true, Option.some.injEq, exists_eq_left', Option.toList_some, Option.toList_none, List.cons_append, List.nil_append, xcat_nil, xcat_int, xcat_ref, xcat_long, not_true, not_false_iff, if_true, if_false, and_self, and_false, false_and, or_true, true_or, or_self, z01, z10, zle8, Nat.reduceAdd, Nat.reduceLeDiff]
    generalize cSay g 0 = b0
    generalize cSay g 1 = b1
    generalize cSay g 2 = b2
    generalize cSay g 3 = b3
    generalize cSay g 4 = b4
    generalize cSay g 5 = b5
    generalize cSay g 6 = b6
    generalize cSay g 7 = b7
    generalize cSay g 8 = b8
    generalize cSay g 9 = b9
    cases b0 <;> try simp [bI]
    cases b1 <;> try simp [bI]
    cases b2 <;> try simp [bI]
    cases b3 <;> try simp [bI]
    cases b4 <;> try simp [bI]
    cases b5 <;> try simp [bI]
    cases b6 <;> try simp [bI]
    cases b7 <;> try simp [bI]
    cases b8 <;> try simp [bI]
    cases b9 <;> simp [bI]
  · have t2 : ¬ xI w 278 12 = 2 := by rw [e12]; exact fun q => c (m2.mp q)
    rw [decide_eq_false c, Bool.false_and]
    simp only [r186_0, r186_1, r186_4, r186_5, r186_8, r186_9, r186_11, r186_14, r186_17, r186_18, r186_20, r186_23, r186_26, r186_27, r186_29, r186_32, r186_35, r186_36, r186_38, r186_41, r186_44, r186_45, r186_47, r186_50, r186_53, r186_54, r186_56, r186_59, r186_62, r186_63, r186_65, r186_68, r186_71, r186_72, r186_74, r186_77, r186_80, r186_81, r186_83, r186_86, r186_89, r186_90, r186_92, r186_95, r186_98, r186_99, r186_102, r186_103, h0, t2, bI_f, true_and, and_true, Option.some.injEq, exists_eq_left', Option.toList_some, Option.toList_none, List.cons_append, List.nil_append, xcat_nil, xcat_int, xcat_ref, xcat_long, not_true, not_false_iff, if_true, if_false, and_self, and_false, false_and, or_true, true_or, or_self, z01, z10, zle8, Nat.reduceAdd, Nat.reduceLeDiff]
theorem isNameM_z (h : Fw w) : zr 186 0 [.ref 278] [] w P = P (some (.int 0)) w := by
  simp only [r186_0, r186_1, r186_4, r186_5, r186_8, r186_9, r186_11, r186_14, r186_17, r186_18, r186_20, r186_23, r186_26, r186_27, r186_29, r186_32, r186_35, r186_36, r186_38, r186_41, r186_44, r186_45, r186_47, r186_50, r186_53, r186_54, r186_56, r186_59, r186_62, r186_63, r186_65, r186_68, r186_71, r186_72, r186_74, r186_77, r186_80, r186_81, r186_83, r186_86, r186_89, r186_90, r186_92, r186_95, r186_98, r186_99, r186_102, r186_103, h.1.1, h.2.2, show ¬ (0 : Int32) = 2 by decide, true_and, and_true, Option.some.injEq, exists_eq_left', Option.toList_some, Option.toList_none, List.cons_append, List.nil_append, xcat_nil, xcat_int, xcat_ref, xcat_long, not_true, not_false_iff, if_true, if_false, and_self, and_false, false_and, or_true, true_or, or_self, z01, z10, zle8, Nat.reduceAdd, Nat.reduceLeDiff]
theorem find_run {A N m : Nat} (hM : xIs w 278 11) (hA : sA w A 14 N) (hN : N ≤ 1000) (hm : m ≤ N) : zr 187 0 [.ref 278, .ref A, .int (nI m), .null] [] w P = P (some (.int (fIx (xJ w A) (xJ w 278 16) m 0))) w := by
  obtain ⟨i0, n0⟩ := hA
  have lp : ∀ q i, i + q = m → zr 187 2 [.ref 278, .ref A, .int (nI m), .int (nI i)] [] w P = P (some (.int (fIx (xJ w A) (xJ w 278 16) q i))) w := by
    intro q
    induction q with
    | zero =>
      intro i hi
      rw [r187_2]
      simp (disch := omega) only [r187_0, r187_1, r187_3, r187_4, r187_7, r187_8, r187_9, r187_10, r187_11, r187_14, r187_15, r187_18, r187_19, r187_20, r187_23, r187_26, r187_27, fIx, xinbT, xixT, leT, leF, ltT, ltF, ngF, psT, n1F, n2F, km2, km3, km4, km5, km10, km15, km25, kl8, kl14, kl24, kl34, kl274, kl354, kl384, kr1, kr2, kr3, kr4, kr5, kr6, kr7, kr8, kr9, kaa, lb0, lb1, lb2, lb3, lb4, lb5, lb6, lb7, li0, li1, li2, li3, li4, li5, li6, li7, true_and, and_true, Option.some.injEq, exists_eq_left', Option.toList_some, Option.toList_none, List.cons_append, List.nil_append, xcat_nil, xcat_int, xcat_ref, xcat_long, not_true, not_false_iff, if_true, if_false, and_self, and_false, false_and, or_true, true_or, or_self, z01, z10, zle8, Nat.reduceAdd, Nat.reduceLeDiff]
    | succ q ih =>
      intro i hi
      have ih := ih (i + 1) (by omega)
      rw [r187_2]
      simp (disch := omega) only [r187_0, r187_1, r187_3, r187_4, r187_7, r187_8, r187_9, r187_10, r187_11, r187_14, r187_15, r187_18, r187_19, r187_20, r187_23, r187_26, r187_27, hM, i0, n0, lcmp_0, ih, fIx, xinbT, xixT, leT, leF, ltT, ltF, ngF, psT, n1F, n2F, km2, km3, km4, km5, km10, km15, km25, kl8, kl14, kl24, kl34, kl274, kl354, kl384, kr1, kr2, kr3, kr4, kr5, kr6, kr7, kr8, kr9, kaa, lb0, lb1, lb2, lb3, lb4, lb5, lb6, lb7, li0, li1, li2, li3, li4, li5, li6, li7, true_and, and_true, Option.some.injEq, exists_eq_left', Option.toList_some, Option.toList_none, List.cons_append, List.nil_append, xcat_nil, xcat_int, xcat_ref, xcat_long, not_true, not_false_iff, if_true, if_false, and_self, and_false, false_and, or_true, true_or, or_self, z01, z10, zle8, Nat.reduceAdd, Nat.reduceLeDiff]
      by_cases c : xJ w A i = xJ w 278 16
      · simp only [c, true_and, and_true, Option.some.injEq, exists_eq_left', Option.toList_some, Option.toList_none, List.cons_append, List.nil_append, xcat_nil, xcat_int, xcat_ref, xcat_long, not_true, not_false_iff, if_true, if_false, and_self, and_false, false_and, or_true, true_or, or_self, z01, z10, zle8, Nat.reduceAdd, Nat.reduceLeDiff]
      · simp only [c, true_and, and_true, Option.some.injEq, exists_eq_left', Option.toList_some, Option.toList_none, List.cons_append, List.nil_append, xcat_nil, xcat_int, xcat_ref, xcat_long, not_true, not_false_iff, if_true, if_false, and_self, and_false, false_and, or_true, true_or, or_self, z01, z10, zle8, Nat.reduceAdd, Nat.reduceLeDiff]
  simp only [r187_0, r187_1]
  exact lp m 0 (by omega)
/-- the names told, in class and model -/
def Nms (N N' : Nat → Int64) (n : Nat) : Prop := ∀ i, i < n → nmR (N i) (N' i)
theorem fIx_rel {N N' : Nat → Int64} {x y : Int64} (hn : Nms N N' n) (h : nmR x y) : ∀ r i, i + r ≤ n → fIx N x r i = fIx N' y r i := by
  intro r
  induction r with
  | zero => intro i _; rfl
  | succ r ih =>
    intro i hi
    unfold fIx
    simp only [ih (i + 1) (by omega), (hn i (by omega)).eq h]
end
