/-! FILINGS made and dropped -/
section
variable {u w : xMem} {P : Option Value → xMem → Prop} {n nf : Nat} {x y k d p : Int32}
theorem mFp_f {i b : Nat} (h : b ≠ 65) : xI (mFp u d n nf i) b = xI u b := by
  funext j
  show (if b = 65 ∧ _ then _ else _) = _
  rw [if_neg (fun q => h q.1)]
  rfl
theorem mFp_lo {i j : Nat} (h : j < 10 * nf) : xI (mFp u d n nf i) 65 j = xI u 65 j := by
  show (if 65 = 65 ∧ 10 * nf ≤ j ∧ _ then _ else _) = _
  rw [if_neg (by omega)]
  rfl
theorem mFp_s {i : Nat} : xsI (mFp u d n nf i) 65 (10 * nf + i) (fUp2 u d (nI i) n nf) = mFp u d n nf (i + 1) := by
  unfold xsI mFp xu2
  refine Prod.ext rfl (Prod.ext ?_ rfl)
  funext b j
  show (if b = 65 ∧ j = 10 * nf + i then fUp2 u d (nI i) n nf else if b = 65 ∧ 10 * nf ≤ j ∧ j < 10 * nf + i then fUp2 u d (nI (j - 10 * nf)) n nf else u.2.1 b j) = if b = 65 ∧ 10 * nf ≤ j ∧ j < 10 * nf + (i + 1) then fUp2 u d (nI (j - 10 * nf)) n nf else u.2.1 b j
  by_cases hb : b = 65
  · by_cases hj : j = 10 * nf + i
    · subst hj
      rw [if_pos ⟨hb, rfl⟩, if_pos ⟨hb, by omega, by omega⟩, Nat.add_sub_cancel_left]
    · rw [if_neg (fun q => hj q.2)]
      by_cases hl : 10 * nf ≤ j ∧ j < 10 * nf + i
      · rw [if_pos ⟨hb, hl⟩, if_pos ⟨hb, by omega, by omega⟩]
      · rw [if_neg (fun q => hl q.2), if_neg (fun q => hl ⟨q.2.1, by omega⟩)]
  · rw [if_neg (fun q => hb q.1), if_neg (fun q => hb q.1), if_neg (fun q => hb q.1)]
theorem sumIf_congr {q q' : Nat → Bool} {f f' : Nat → Int32} : ∀ n, (∀ i, i < n → q i = q' i ∧ f i = f' i) → sumIf q f n = sumIf q' f' n := by
  intro n
  induction n with
  | zero => intro _; rfl
  | succ n ih =>
    intro h
    unfold sumIf
    rw [ih (fun i hi => h i (by omega)), (h n (by omega)).1, (h n (by omega)).2]
theorem subN_congr {a : Int32} {f f' : Nat → Int32} : ∀ n, (∀ i, i < n → f i = f' i) → subN a f n = subN a f' n := by
  intro n
  induction n with
  | zero => intro _; rfl
  | succ n ih =>
    intro h
    unfold subN
    rw [ih (fun i hi => h i (by omega)), h n (by omega)]
/-- what a line comes to depends on the line's cells alone -/
theorem lTo_congr {l : Nat} (h : ∀ k, k ≤ 4 → ∀ j, (k ≠ 0 ∨ j ≠ 7) → xI w (69 + 5 * l + k) j = xI u (69 + 5 * l + k) j) : lTo w p l = lTo u p l := by
  unfold lTo
  have h0 : ∀ j, j ≠ 7 → xI w (69 + 5 * l) j = xI u (69 + 5 * l) j := fun j hj => h 0 (by omega) j (Or.inr hj)
  have e1 : xI w (69 + 5 * l + 1) = xI u (69 + 5 * l + 1) := funext fun j => h 1 (by omega) j (by omega)
  have e2 : lTax w (69 + 5 * l) = lTax u (69 + 5 * l) := by
    funext i
    unfold lTax lBase
    rw [h 2 (by omega) i (by omega), h 3 (by omega) i (by omega), h 4 (by omega) i (by omega), h0 5 (by omega), h0 6 (by omega)]
  have e3 : pn w l = pn u l := by
    unfold pn
    rw [h0 8 (by omega)]
  rw [e1, e2, e3]
theorem fUp2_mFp {i : Nat} : fUp2 (mFp u d n nf i) d p n nf = fUp2 u d p n nf := by
  have e1 : fUd (mFp u d n nf i) d p n = fUd u d p n := by
    refine sumIf_congr n (fun l hl => ⟨?_, lTo_congr (fun k _ j _ => ?_)⟩)
    · rw [mFp_f (by omega)]
    · rw [mFp_f (by omega)]
  unfold fUp2
  rw [e1]
  refine subN_congr nf (fun f hf => ?_)
  unfold fPd
  refine sumIf_congr 10 (fun q hq => ⟨rfl, ?_⟩)
  exact mFp_lo (by omega)
/-- the lines up to the day are filed by nf -/
def mFl (u : xMem) (d : Int32) (nf : Nat) : Nat → xMem
  | 0 => u
  | i + 1 => if xI u (69 + 5 * i) 7 < 0 ∧ xI u (69 + 5 * i) 0 ≤ d then xsI (mFl u d nf i) (69 + 5 * i) 7 (nI nf) else mFl u d nf i
theorem mFl_at (u : xMem) (d : Int32) (nf : Nat) : ∀ i, (mFl u d nf i).1 = u.1 ∧ (mFl u d nf i).2.2 = u.2.2 ∧ (∀ b j, (j ≠ 7 ∨ ∀ l, l < i → b ≠ 69 + 5 * l) → xI (mFl u d nf i) b j = xI u b j) ∧ ∀ l, l < i → xI (mFl u d nf i) (69 + 5 * l) 7 = if xI u (69 + 5 * l) 7 < 0 ∧ xI u (69 + 5 * l) 0 ≤ d then nI nf else xI u (69 + 5 * l) 7 := by
  intro i
  induction i with
  | zero => exact ⟨rfl, rfl, fun b j _ => rfl, fun l hl => by omega⟩
  | succ i ih =>
    obtain ⟨g1, g2, g3, g4⟩ := ih
    unfold mFl
    by_cases c : xI u (69 + 5 * i) 7 < 0 ∧ xI u (69 + 5 * i) 0 ≤ d
    · rw [if_pos c]
      refine ⟨g1, g2, fun b j h => ?_, fun l hl => ?_⟩
      · rw [xI_sI, if_neg (fun q => ?_), g3 b j (h.imp id (fun z l hl => z l (by omega)))]
        rcases h with h | h
        · exact h q.2
        · exact h i (by omega) q.1
      · rw [xI_sI]
        by_cases hli : l = i
        · subst hli
          rw [if_pos ⟨rfl, rfl⟩, if_pos c]
        · rw [if_neg (fun q => hli (by omega))]
          exact g4 l (by omega)
    · rw [if_neg c]
      refine ⟨g1, g2, fun b j h => g3 b j (h.imp id (fun z l hl => z l (by omega))), fun l hl => ?_⟩
      by_cases hli : l = i
      · subst hli
        rw [if_neg c]
        exact g3 _ _ (Or.inr (fun l' hl' => by omega))
      · exact g4 l (by omega)
def mFile (u : xMem) (d : Int32) (n nf : Nat) : xMem := xsI (xsI (mFl (mFp u d n nf 10) d nf n) 64 nf d) 62 2 (nI (nf + 1))
theorem addFiling_run (h : sBk u 62) (hn : okL u n) (hf : xI u 62 2 = nI nf) (h12 : nf < 12) : zr 16 0 [.ref 62, .int d, .null] [] u P = P none (mFile u d n nf) := by
  have hB : ∀ i, sBk (mFp u d n nf i) 62 := fun i => h
  have hnB : ∀ i, okL (mFp u d n nf i) n := by
    intro i
    refine ⟨by rw [mFp_f (by omega)]; exact hn.1, fun l hl => ?_⟩
    have e : pn (mFp u d n nf i) l = pn u l := by unfold pn; rw [mFp_f (by omega)]
    rw [e, mFp_f (by omega)]
    exact hn.2 l hl
  have hfB : ∀ i, xI (mFp u d n nf i) 62 2 = nI nf := fun i => by rw [mFp_f (by omega)]; exact hf
  have h40 := hn.1.2
  obtain ⟨h0, ⟨e1, e3, e4, -⟩, ⟨i1, n1⟩, ⟨i3, n3⟩, ⟨i4, n4⟩, -⟩ := h
  have i3 : xIs u 64 13 := i3
  have n3 : xN u 64 = 12 := n3
  have e3 : xR u 62 3 = some 64 := e3
  have i4 : xIs u 65 13 := i4
  have n4 : xN u 65 = 120 := n4
  have e4 : xR u 62 4 = some 65 := e4
  -- the lines
  have lp2 : ∀ r i, i + r = n → zr 16 36 [.ref 62, .int d, .int (nI i)] [] (mFl (mFp u d n nf 10) d nf i) P = P none (mFile u d n nf) := by
    intro r
    induction r with
    | zero =>
      intro i hi
      have : i = n := by omega
      subst this
      obtain ⟨g1, g2, g3, g4⟩ := mFl_at (mFp u d i nf 10) d nf i
      have s1 : ∀ {a c}, xIs (mFl (mFp u d i nf 10) d nf i) a c = xIs u a c := by intro a c; unfold xIs xW xK; rw [g1, g2]; rfl
      have s2 : ∀ {a c}, xR (mFl (mFp u d i nf 10) d nf i) a c = xR u a c := by intro a c; unfold xR; rw [g2]; rfl
      have s3 : ∀ {a}, xN (mFl (mFp u d i nf 10) d nf i) a = xN u a := by intro a; unfold xN; rw [g2]; rfl
      have f0 : xI (mFl (mFp u d i nf 10) d nf i) 62 0 = nI i := (g3 62 0 (by omega)).trans (hnB 10).1.1
      have f2 : xI (mFl (mFp u d i nf 10) d nf i) 62 2 = nI nf := (g3 62 2 (by omega)).trans (hfB 10)
      have q1 : xinb (nI nf) 12 := xinb_nI (by omega) (by omega)
      have q2 : xix (nI nf) = nf := xix_nI (by omega)
      rw [r16_36]
      simp only [r16_37, r16_38, r16_41, r16_88, r16_89, r16_92, r16_93, r16_96, r16_97, r16_98, r16_99, r16_100, r16_103, r16_104, r16_105, r16_108, xIs_sI, xR_sI, xN_sI, xI_sI, s1, s2, s3, h0, e3, i3, n3, f0, f2, q1, q2, nI_1, Nat.reduceEqDiff, true_and, and_true, Option.some.injEq, exists_eq_left', Option.toList_some, Option.toList_none, List.cons_append, List.nil_append, xcat_nil, xcat_int, xcat_ref, xcat_long, not_true, not_false_iff, if_true, if_false, and_self, and_false, false_and, or_true, true_or, or_self, z01, z10, zle8, Nat.reduceAdd, Nat.reduceLeDiff]
      rw [if_pos (nI_le (Nat.le_refl _) (by omega))]
      rfl
    | succ r ih =>
      intro i hi
      obtain ⟨g1, g2, g3, g4⟩ := mFl_at (mFp u d n nf 10) d nf i
      have s1 : ∀ {a c}, xIs (mFl (mFp u d n nf 10) d nf i) a c = xIs u a c := by intro a c; unfold xIs xW xK; rw [g1, g2]; rfl
      have s2 : ∀ {a c}, xR (mFl (mFp u d n nf 10) d nf i) a c = xR u a c := by intro a c; unfold xR; rw [g2]; rfl
      have s3 : ∀ {a}, xN (mFl (mFp u d n nf 10) d nf i) a = xN u a := by intro a; unfold xN; rw [g2]; rfl
      have f0 : xI (mFl (mFp u d n nf 10) d nf i) 62 0 = nI n := (g3 62 0 (by omega)).trans (hnB 10).1.1
      have f2 : xI (mFl (mFp u d n nf 10) d nf i) 62 2 = nI nf := (g3 62 2 (by omega)).trans (hfB 10)
      have f7 : xI (mFl (mFp u d n nf 10) d nf i) (69 + 5 * i) 7 = xI (mFp u d n nf 10) (69 + 5 * i) 7 := g3 _ _ (Or.inr (fun l hl => by omega))
      have fd : xI (mFl (mFp u d n nf 10) d nf i) (69 + 5 * i) 0 = xI (mFp u d n nf 10) (69 + 5 * i) 0 := g3 _ _ (Or.inr (fun l hl => by omega))
      have q0 : ¬ nI n ≤ nI i := nI_ge (by omega) (by omega)
      have q1 : xinb (nI i) 40 := xinb_nI (by omega) (by omega)
      have q2 : xix (nI i) = i := xix_nI (by omega)
      obtain ⟨l1, l2⟩ := (hB 0).ln (l := i) (by omega)
      have l1 : xR u 63 i = some (69 + 5 * i) := l1
      have l2 : xIs u (69 + 5 * i) 5 := l2.1
      have ih := ih (i + 1) (by omega)
      simp only [mFl] at ih
      rw [r16_36]
      simp only [r16_37, r16_38, r16_41, r16_44, r16_45, r16_48, r16_49, r16_50, r16_53, r16_56, r16_57, r16_60, r16_61, r16_62, r16_65, r16_66, r16_69, r16_70, r16_73, r16_74, r16_75, r16_76, r16_79, r16_82, r16_85, xIs_sI, xR_sI, xN_sI, s1, s2, s3, h0, e1, i1, n1, l1, l2, f0, f2, f7, fd, q0, q1, q2, nI_1, true_and, and_true, Option.some.injEq, exists_eq_left', Option.toList_some, Option.toList_none, List.cons_append, List.nil_append, xcat_nil, xcat_int, xcat_ref, xcat_long, not_true, not_false_iff, if_true, if_false, and_self, and_false, false_and, or_true, true_or, or_self, z01, z10, zle8, Nat.reduceAdd, Nat.reduceLeDiff]
      by_cases c1 : 0 ≤ xI (mFp u d n nf 10) (69 + 5 * i) 7
      · simp only [c1, i32_nlt.mpr c1, true_and, and_true, Option.some.injEq, exists_eq_left', Option.toList_some, Option.toList_none, List.cons_append, List.nil_append, xcat_nil, xcat_int, xcat_ref, xcat_long, not_true, not_false_iff, if_true, if_false, and_self, and_false, false_and, or_true, true_or, or_self, z01, z10, zle8, Nat.reduceAdd, Nat.reduceLeDiff] at ih ⊢
        exact ih
      · by_cases c2 : d < xI (mFp u d n nf 10) (69 + 5 * i) 0
        · simp only [c1, i32_nle.mp c1, c2, i32_nle.mpr c2, true_and, and_true, Option.some.injEq, exists_eq_left', Option.toList_some, Option.toList_none, List.cons_append, List.nil_append, xcat_nil, xcat_int, xcat_ref, xcat_long, not_true, not_false_iff, if_true, if_false, and_self, and_false, false_and, or_true, true_or, or_self, z01, z10, zle8, Nat.reduceAdd, Nat.reduceLeDiff] at ih ⊢
          exact ih
        · simp only [c1, i32_nle.mp c1, c2, i32_nlt.mp c2, true_and, and_true, Option.some.injEq, exists_eq_left', Option.toList_some, Option.toList_none, List.cons_append, List.nil_append, xcat_nil, xcat_int, xcat_ref, xcat_long, not_true, not_false_iff, if_true, if_false, and_self, and_false, false_and, or_true, true_or, or_self, z01, z10, zle8, Nat.reduceAdd, Nat.reduceLeDiff] at ih ⊢
          exact ih
  -- the places
  have lp : ∀ r i, i + r = 10 → zr 16 2 [.ref 62, .int d, .int (nI i)] [] (mFp u d n nf i) P = P none (mFile u d n nf) := by
    intro r
    induction r with
    | zero =>
      intro i hi
      have : i = 10 := by omega
      subst this
      rw [r16_2]
      simp only [r16_3, r16_5, r16_34, r16_35, if_pos (show (10 : Int32) ≤ nI 10 by decide), true_and, and_true, Option.some.injEq, exists_eq_left', Option.toList_some, Option.toList_none, List.cons_append, List.nil_append, xcat_nil, xcat_int, xcat_ref, xcat_long, not_true, not_false_iff, if_true, if_false, and_self, and_false, false_and, or_true, true_or, or_self, z01, z10, zle8, Nat.reduceAdd, Nat.reduceLeDiff]
      exact lp2 n 0 (by omega)
    | succ r ih =>
      intro i hi
      have q0 : ¬ (10 : Int32) ≤ nI i := nI_ge (b := 10) (by omega) (by omega)
      have q1 : xinb (nI (10 * nf + i)) 120 := xinb_nI (by omega) (by omega)
      have q2 : xix (nI (10 * nf + i)) = 10 * nf + i := xix_nI (by omega)
      have hu := fun P => unpaid_run (d := d) (p := nI i) (P := P) (hB i) (hnB i) (hfB i) (by omega)
      have s1 : ∀ {a c}, xIs (mFp u d n nf i) a c = xIs u a c := rfl
      have s2 : ∀ {a c}, xR (mFp u d n nf i) a c = xR u a c := rfl
      have s3 : ∀ {a}, xN (mFp u d n nf i) a = xN u a := rfl
      have ih := ih (i + 1) (by omega)
      rw [r16_2]
      simp only [r16_3, r16_5, r16_8, r16_9, r16_12, r16_13, r16_16, r16_18, r16_19, r16_20, r16_21, r16_22, r16_23, r16_24, r16_27, r16_28, r16_31, s1, s2, s3, h0, e4, i4, n4, hfB, m10, nI_add, hu, fUp2_mFp, mFp_s, q0, q1, q2, nI_1, true_and, and_true, Option.some.injEq, exists_eq_left', Option.toList_some, Option.toList_none, List.cons_append, List.nil_append, xcat_nil, xcat_int, xcat_ref, xcat_long, not_true, not_false_iff, if_true, if_false, and_self, and_false, false_and, or_true, true_or, or_self, z01, z10, zle8, Nat.reduceAdd, Nat.reduceLeDiff]
      exact ih
  have e : mFp u d n nf 0 = u := by
    unfold mFp
    refine Prod.ext rfl (Prod.ext ?_ rfl)
    funext b j
    show (if b = 65 ∧ 10 * nf ≤ j ∧ j < 10 * nf + 0 then _ else _) = _
    rw [if_neg (by omega)]
  have := lp 10 0 (by omega)
  rw [e] at this
  simp only [r16_0, r16_1]
  exact this
/-- the lines of filing nf are no longer filed -/
def mDr (u : xMem) (nf : Nat) : Nat → xMem
  | 0 => xsI u 62 2 (nI nf)
  | i + 1 => if xI u (69 + 5 * i) 7 = nI nf then xsI (mDr u nf i) (69 + 5 * i) 7 (-1) else mDr u nf i
theorem mDr_at (u : xMem) (nf : Nat) : ∀ i, (mDr u nf i).1 = u.1 ∧ (mDr u nf i).2.2 = u.2.2 ∧ xI (mDr u nf i) 62 2 = nI nf ∧ (∀ b j, (b ≠ 62 ∨ j ≠ 2) → (j ≠ 7 ∨ ∀ l, l < i → b ≠ 69 + 5 * l) → xI (mDr u nf i) b j = xI u b j) ∧ ∀ l, l < i → xI (mDr u nf i) (69 + 5 * l) 7 = if xI u (69 + 5 * l) 7 = nI nf then -1 else xI u (69 + 5 * l) 7 := by
  intro i
  induction i with
  | zero => exact ⟨rfl, rfl, by rw [mDr, xI_sI, if_pos ⟨rfl, rfl⟩], fun b j h _ => by rw [mDr, xI_sI, if_neg (by omega)], fun l hl => by omega⟩
  | succ i ih =>
    obtain ⟨g1, g2, g2b, g3, g4⟩ := ih
    unfold mDr
    by_cases c : xI u (69 + 5 * i) 7 = nI nf
    · rw [if_pos c]
      refine ⟨g1, g2, ?_, fun b j h62 h => ?_, fun l hl => ?_⟩
      · rw [xI_sI, if_neg (by omega)]
        exact g2b
      · rw [xI_sI, if_neg (fun q => ?_), g3 b j h62 (h.imp id (fun z l hl => z l (by omega)))]
        rcases h with h | h
        · exact h q.2
        · exact h i (by omega) q.1
      · rw [xI_sI]
        by_cases hli : l = i
        · subst hli
          rw [if_pos ⟨rfl, rfl⟩, if_pos c]
        · rw [if_neg (fun q => hli (by omega))]
          exact g4 l (by omega)
    · rw [if_neg c]
      refine ⟨g1, g2, g2b, fun b j h62 h => g3 b j h62 (h.imp id (fun z l hl => z l (by omega))), fun l hl => ?_⟩
      by_cases hli : l = i
      · subst hli
        rw [if_neg c]
        exact g3 _ _ (by omega) (Or.inr (fun l' hl' => by omega))
      · exact g4 l (by omega)
theorem dropFiling_run (h : sBk u 62) (hn : okL u n) (hf : xI u 62 2 = nI (nf + 1)) : zr 17 0 [.ref 62, .null] [] u P = P none (mDr u nf n) := by
  have h40 := hn.1.2
  have hh := h
  obtain ⟨h0, ⟨e1, -⟩, ⟨i1, n1⟩, -⟩ := hh
  have lp : ∀ r i, i + r = n → zr 17 12 [.ref 62, .int (nI i)] [] (mDr u nf i) P = P none (mDr u nf n) := by
    intro r
    induction r with
    | zero =>
      intro i hi
      have : i = n := by omega
      subst this
      obtain ⟨g1, g2, g2b, g3, g4⟩ := mDr_at u nf i
      have s1 : ∀ {a c}, xIs (mDr u nf i) a c = xIs u a c := by intro a c; unfold xIs xW xK; rw [g1, g2]
      have f0 : xI (mDr u nf i) 62 0 = nI i := (g3 62 0 (by omega) (by omega)).trans hn.1.1
      rw [r17_12]
      simp only [r17_13, r17_14, r17_17, r17_52, s1, h0, f0, true_and, and_true, Option.some.injEq, exists_eq_left', Option.toList_some, Option.toList_none, List.cons_append, List.nil_append, xcat_nil, xcat_int, xcat_ref, xcat_long, not_true, not_false_iff, if_true, if_false, and_self, and_false, false_and, or_true, true_or, or_self, z01, z10, zle8, Nat.reduceAdd, Nat.reduceLeDiff]
      rw [if_pos (nI_le (Nat.le_refl _) (by omega))]
    | succ r ih =>
      intro i hi
      obtain ⟨g1, g2, g2b, g3, g4⟩ := mDr_at u nf i
      have s1 : ∀ {a c}, xIs (mDr u nf i) a c = xIs u a c := by intro a c; unfold xIs xW xK; rw [g1, g2]
      have s2 : ∀ {a c}, xR (mDr u nf i) a c = xR u a c := by intro a c; unfold xR; rw [g2]
      have s3 : ∀ {a}, xN (mDr u nf i) a = xN u a := by intro a; unfold xN; rw [g2]
      have f0 : xI (mDr u nf i) 62 0 = nI n := (g3 62 0 (by omega) (by omega)).trans hn.1.1
      have f7 : xI (mDr u nf i) (69 + 5 * i) 7 = xI u (69 + 5 * i) 7 := g3 _ _ (by omega) (Or.inr (fun l hl => by omega))
      have q0 : ¬ nI n ≤ nI i := nI_ge (by omega) (by omega)
      have q1 : xinb (nI i) 40 := xinb_nI (by omega) (by omega)
      have q2 : xix (nI i) = i := xix_nI (by omega)
      obtain ⟨l1, l2⟩ := h.ln (l := i) (by omega)
      have ih := ih (i + 1) (by omega)
      simp only [mDr] at ih
      rw [r17_12]
      simp only [r17_13, r17_14, r17_17, r17_20, r17_21, r17_24, r17_25, r17_26, r17_29, r17_30, r17_33, r17_36, r17_37, r17_40, r17_41, r17_42, r17_43, r17_46, r17_49, xIs_sI, xR_sI, xN_sI, s1, s2, s3, h0, e1, i1, n1, l1, l2.1, f0, f7, g2b, q0, q1, q2, nI_1, true_and, and_true, Option.some.injEq, exists_eq_left', Option.toList_some, Option.toList_none, List.cons_append, List.nil_append, xcat_nil, xcat_int, xcat_ref, xcat_long, not_true, not_false_iff, if_true, if_false, and_self, and_false, false_and, or_true, true_or, or_self, z01, z10, zle8, Nat.reduceAdd, Nat.reduceLeDiff]
      by_cases c1 : xI u (69 + 5 * i) 7 = nI nf <;> simp only [c1, true_and, and_true, Option.some.injEq, exists_eq_left', Option.toList_some, Option.toList_none, List.cons_append, List.nil_append, xcat_nil, xcat_int, xcat_ref, xcat_long, not_true, not_false_iff, if_true, if_false, and_self, and_false, false_and, or_true, true_or, or_self, z01, z10, zle8, Nat.reduceAdd, Nat.reduceLeDiff] at ih ⊢ <;> exact ih
  have := lp n 0 (by omega)
  simp only [mDr] at this
  simp only [r17_0, r17_1, r17_2, r17_5, r17_6, r17_7, r17_10, r17_11, h0, hf, nI_pred, true_and, and_true, Option.some.injEq, exists_eq_left', Option.toList_some, Option.toList_none, List.cons_append, List.nil_append, xcat_nil, xcat_int, xcat_ref, xcat_long, not_true, not_false_iff, if_true, if_false, and_self, and_false, false_and, or_true, true_or, or_self, z01, z10, zle8, Nat.reduceAdd, Nat.reduceLeDiff]
  exact this
end
