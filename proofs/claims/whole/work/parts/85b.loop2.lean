/-! THE LAW'S LOOP, where idle counts what it makes -/
/-- one cell of six slots more -/
def xbmp (u : xMem) : xMem := (u.1, u.2.1, u.2.2.1, u.2.2.2.1, u.2.2.2.2.1, u.2.2.2.2.2.1, u.2.2.2.2.2.2.1, u.2.2.2.2.2.2.2.1 + 1, u.2.2.2.2.2.2.2.2 + 6)
/-- what the law's own idle does -/
def IdOk2 (I : xOp) : Prop := ∀ (k : Int32) (u : xMem), xV u = false → xIs u 0 10 → xIs u 295 14 → 0 < xN u 295 →
  (∀ q, (∀ P, zr 2 0 [.ref 0, .int k, .null, .null] [] u P = P (some (.int q)) u) → I [.ref 0, .int k, .ref 295, .null, .null, .null] [] u = xend (some (.int 0)) (xsJ (xbmp u) 295 0 q.toInt64)) ∧
  ((∀ P, zr 2 0 [.ref 0, .int k, .null, .null] [] u P = P (some (.retAddr 0)) u) → I [.ref 0, .int k, .ref 295, .null, .null, .null] [] u = xend (some (.int 1)) (xbmp u))
def Fb (u w : xMem) : Prop := w.1 = u.1 ∧ xN w = xN u ∧ xV w = xV u ∧ xW w = xW u ∧ xI w 2000000 = xI u 2000000 ∧ xT w ≤ xT u + 1 ∧ xS w ≤ xS u + 6
theorem Fr.b {u w : xMem} (h : Fr u w) : Fb u w := by
  obtain ⟨h1, h2, h3⟩ := h
  refine ⟨h1, ?_, ?_, ?_, h3, ?_, ?_⟩
  · funext a
    show w.2.2.2.2.1 a = u.2.2.2.2.1 a
    rw [h2]
  · show w.2.2.2.2.2.1 = u.2.2.2.2.2.1
    rw [h2]
  · show w.2.2.2.2.2.2.1 = u.2.2.2.2.2.2.1
    rw [h2]
  · show w.2.2.2.2.2.2.2.1 ≤ u.2.2.2.2.2.2.2.1 + 1
    rw [h2]
    omega
  · show w.2.2.2.2.2.2.2.2 ≤ u.2.2.2.2.2.2.2.2 + 6
    rw [h2]
    omega
section
variable {I : xOp} {u w : xMem} {P Q : Option Value → xMem → Prop} {m m' : Nat} {ls ls' : List Value} {i : Int32} {v5 v6 : Value} {r : Option Value}
theorem law_44b (hId : IdOk2 I) (hVf : xV u = false) (hI : Inv u) (b1 : xinb (i + 1) (xN u 2000000)) (b2 : xinb (i + 2) (xN u 2000000)) (b3 : xinb (i + 3) (xN u 2000000)) (b4 : xinb (i + 4) (xN u 2000000)) (b5 : xinb (i + 5) (xN u 2000000)) (b6 : xinb (i + 6) (xN u 2000000)) (b7 : xinb (i + 7) (xN u 2000000)) (hn : ∀ u2 v5 v6, Fb u u2 → Inv u2 → zl I 0 2238 [.ref 2000000, .ref 0, .ref 278, .ref 295, .int i, v5, v6] [] u2 P) : zl I 0 2144 [.ref 2000000, .ref 0, .ref 278, .ref 295, .int i, v5, v6] [] u P := by
  obtain ⟨hT, D, E, s, nl, np, nb, nc, nr, nh, nk, n, nf, na, f, op, h⟩ := hI
  have g1 := h.sp.1
  have g2 : xIs u 278 11 := h.1.2.2.2.2.2.2.2.2.2.1.1
  have g3 : xIs u 295 14 := h.1.2.2.2.2.2.2.2.2.2.2.1
  have g4 : xN u 295 = 1 := h.1.2.2.2.2.2.2.2.2.2.2.2
  simp only [q0_2144, q0_2145, q0_2146, q0_2148, q0_2149, q0_2150, q0_2151, q0_2152, b1, true_and, and_true, Option.some.injEq, exists_eq_left', Option.toList_some, Option.toList_none, List.cons_append, List.nil_append, xcat_nil, xcat_int, xcat_ref, xcat_long, not_true, not_false_iff, if_true, if_false, and_self, and_false, false_and, or_true, true_or, or_self, z01, z10, zle8, Nat.reduceAdd, Nat.reduceLeDiff]
  generalize hk : xI u 2000000 (xix (i + 1)) = k
  have iC := fun P => idleC_t (k := k) (P := P) h
  obtain ⟨d1, d2⟩ := hId k u hVf g1 g3 (by omega)
  have tr : ∀ w z, Tr w → Tr (xsI (mThr w) 278 0 z) := fun w z q => by
    unfold Tr at q ⊢
    unfold mThr
    rw [xI_ne (by omega), xI_ne (by omega), xI_ne (by omega), xI_ne (by omega), xI_ne (by omega), xI_ne (by omega), xI_ne (by omega), xI_ne (by omega)]
    exact q
  have ag : ∀ (w : xMem) z, xag SC w (xsI (mThr w) 278 0 z) := fun w z => ⟨rfl, rfl, fun a j q => by
    have : a ≠ 278 ∨ j ≠ 0 := by
      by_cases y : a = 278
      · exact Or.inr (fun y2 => q (by unfold SC; omega))
      · exact Or.inl y
    unfold mThr
    rw [xI_ne this, xI_ne this]⟩
  generalize hr : (if op = true then fId (fun j => anyR (bMe u (nI j)) n 0) np 0 k else none) = r at iC
  cases r with
  | none =>
    rw [zl_idl (d2 iC)]
    have h' : St (xbmp u) D E s nl np nb nc nr nh nk n nf na f op := h
    have hT' : Tr (xbmp u) := hT
    have iM := fun P => idleM_t (k := k) (P := P) h' xag.rf
    have hr' : (if op = true then fId (fun j => anyR (bMe (xbmp u) (nI j)) n 0) np 0 k else none) = none := hr
    simp only [hr', if_true, Option.getD_none] at iM
    have g2' : xIs (xbmp u) 278 11 := g2
    have b1' : xinb (i + 1) (xN (xbmp u) 2000000) := b1
    have hk' : xI (xbmp u) 2000000 (xix (i + 1)) = k := hk
    simp only [q0_2155, q0_2157, q0_2158, q0_2159, q0_2161, q0_2162, q0_2163, q0_2164, g2', b1', hk', true_and, and_true, Option.some.injEq, exists_eq_left', Option.toList_some, Option.toList_none, List.cons_append, List.nil_append, xcat_nil, xcat_int, xcat_ref, xcat_long, not_true, not_false_iff, if_true, if_false, and_self, and_false, false_and, or_true, true_or, or_self, z01, z10, zle8, Nat.reduceAdd, Nat.reduceLeDiff]
    refine zl_of ?_
    rw [iM]
    have i1 : xIs (xsI (mThr (xbmp u)) 278 0 1) 278 11 := g2
    have et : xI (xsI (mThr (xbmp u)) 278 0 1) 278 0 = 1 := xI_at
    simp only [q0_2167, q0_2169, q0_2170, i1, true_and, and_true, Option.some.injEq, exists_eq_left', Option.toList_some, Option.toList_none, List.cons_append, List.nil_append, xcat_nil, xcat_int, xcat_ref, xcat_long, not_true, not_false_iff, if_true, if_false, and_self, and_false, false_and, or_true, true_or, or_self, z01, z10, zle8, Nat.reduceAdd, Nat.reduceLeDiff]
    refine zl_of ?_
    rw [thrown_run i1, et]
    simp only [q0_2173, q0_2175, q0_2178, q0_2179, q0_2180, q0_2182, q0_2185, q0_2186, q0_2187, q0_2188, q0_2190, q0_2191, q0_2192, q0_2195, q0_2196, q0_2197, true_and, and_true, Option.some.injEq, exists_eq_left', Option.toList_some, Option.toList_none, List.cons_append, List.nil_append, xcat_nil, xcat_int, xcat_ref, xcat_long, not_true, not_false_iff, if_true, if_false, and_self, and_false, false_and, or_true, true_or, or_self, z01, z10, zle8, Nat.reduceAdd, Nat.reduceLeDiff]
    exact hn _ _ _ ⟨rfl, rfl, rfl, rfl, funext fun j => (xI_ne (by omega)).trans (xI_ne (by omega)), Nat.le_refl _, Nat.le_refl _⟩ ⟨tr _ 1 hT', D, E, s, nl, np, nb, nc, nr, nh, nk, n, nf, na, f, op, h'.ag (ag _ 1)⟩
  | some p =>
    rw [zl_idl (d1 p iC)]
    have h' : St (xsJ (xbmp u) 295 0 p.toInt64) D E s nl np nb nc nr nh nk n nf na f op := h
    have hT' : Tr (xsJ (xbmp u) 295 0 p.toInt64) := hT
    have iM := fun P => idleM_t (k := k) (P := P) h' xag.rf
    have hr' : (if op = true then fId (fun j => anyR (bMe (xsJ (xbmp u) 295 0 p.toInt64) (nI j)) n 0) np 0 k else none) = some p := hr
    simp only [hr', reduceCtorEq, if_false, Option.getD_some] at iM
    have g2' : xIs (xsJ (xbmp u) 295 0 p.toInt64) 278 11 := g2
    have b1' : xinb (i + 1) (xN (xsJ (xbmp u) 295 0 p.toInt64) 2000000) := b1
    have hk' : xI (xsJ (xbmp u) 295 0 p.toInt64) 2000000 (xix (i + 1)) = k := hk
    simp only [q0_2155, q0_2157, q0_2158, q0_2159, q0_2161, q0_2162, q0_2163, q0_2164, g2', b1', hk', true_and, and_true, Option.some.injEq, exists_eq_left', Option.toList_some, Option.toList_none, List.cons_append, List.nil_append, xcat_nil, xcat_int, xcat_ref, xcat_long, not_true, not_false_iff, if_true, if_false, and_self, and_false, false_and, or_true, true_or, or_self, z01, z10, zle8, Nat.reduceAdd, Nat.reduceLeDiff]
    refine zl_of ?_
    rw [iM]
    have i1 : xIs (xsI (mThr (xsJ (xbmp u) 295 0 p.toInt64)) 278 0 0) 278 11 := g2
    have et : xI (xsI (mThr (xsJ (xbmp u) 295 0 p.toInt64)) 278 0 0) 278 0 = 0 := xI_at
    simp only [q0_2167, q0_2169, q0_2170, i1, true_and, and_true, Option.some.injEq, exists_eq_left', Option.toList_some, Option.toList_none, List.cons_append, List.nil_append, xcat_nil, xcat_int, xcat_ref, xcat_long, not_true, not_false_iff, if_true, if_false, and_self, and_false, false_and, or_true, true_or, or_self, z01, z10, zle8, Nat.reduceAdd, Nat.reduceLeDiff]
    refine zl_of ?_
    rw [thrown_run i1, et]
    have i3 : xIs (xsI (mThr (xsJ (xbmp u) 295 0 p.toInt64)) 278 0 0) 295 14 := g3
    have i4 : xN (xsI (mThr (xsJ (xbmp u) 295 0 p.toInt64)) 278 0 0) 295 = 1 := g4
    have ej : xJ (xsI (mThr (xsJ (xbmp u) 295 0 p.toInt64)) 278 0 0) 295 (xix 0) = p.toInt64 := by
      show (if 295 = 295 ∧ xix 0 = 0 then p.toInt64 else xJ u 295 (xix 0)) = p.toInt64
      exact if_pos ⟨rfl, rfl⟩
    have ib : xinb 0 1 := ⟨by decide, by decide⟩
    simp only [q0_2173, q0_2175, q0_2178, q0_2179, q0_2180, q0_2182, q0_2185, q0_2186, q0_2187, q0_2188, q0_2190, q0_2191, q0_2192, q0_2195, q0_2196, q0_2197, i3, i4, ib, ej, lgc0, true_and, and_true, Option.some.injEq, exists_eq_left', Option.toList_some, Option.toList_none, List.cons_append, List.nil_append, xcat_nil, xcat_int, xcat_ref, xcat_long, not_true, not_false_iff, if_true, if_false, and_self, and_false, false_and, or_true, true_or, or_self, z01, z10, zle8, Nat.reduceAdd, Nat.reduceLeDiff]
    exact hn _ _ _ ⟨rfl, rfl, rfl, rfl, funext fun j => (xI_ne (by omega)).trans (xI_ne (by omega)), Nat.le_refl _, Nat.le_refl _⟩ ⟨tr _ 0 hT', D, E, s, nl, np, nb, nc, nr, nh, nk, n, nf, na, f, op, h'.ag (ag _ 0)⟩
end
section
variable {I : xOp} {P : Option Value → xMem → Prop}
theorem law_loopb (hId : IdOk2 I) : ∀ r t (u : xMem) (v5 v6 : Value), xN u 2000000 < 8 * (t + r) → 8 * t ≤ xN u 2000000 → Inv u → xN u 2000000 < 2147483648 → xV u = false → (∀ w, xT w ≤ xT u + r → xS w ≤ xS u + 6 * r → P (some (.int 1)) w) → zl I 0 23 [.ref 2000000, .ref 0, .ref 278, .ref 295, .int (nI (8 * t)), v5, v6] [] u P := by
  intro r
  induction r with
  | zero =>
    intro t u v5 v6 hr ht hI hN hVf hP
    omega
  | succ r ih =>
    intro t u v5 v6 hr ht hI hN hVf hP
    rw [q0_23]
    simp only [q0_25, q0_26, q0_27, q0_29, q0_30, true_and, and_true, Option.some.injEq, exists_eq_left', Option.toList_some, Option.toList_none, List.cons_append, List.nil_append, xcat_nil, xcat_int, xcat_ref, xcat_long, not_true, not_false_iff, if_true, if_false, and_self, and_false, false_and, or_true, true_or, or_self, z01, z10, zle8, Nat.reduceAdd, Nat.reduceLeDiff]
    by_cases c : Int32.ofNat (xN u 2000000) - 8 < nI (8 * t)
    · simp only [c, q0_2244, q0_2245, true_and, and_true, Option.some.injEq, exists_eq_left', Option.toList_some, Option.toList_none, List.cons_append, List.nil_append, xcat_nil, xcat_int, xcat_ref, xcat_long, not_true, not_false_iff, if_true, if_false, and_self, and_false, false_and, or_true, true_or, or_self, z01, z10, zle8, Nat.reduceAdd, Nat.reduceLeDiff]
      exact hP u (by omega) (by omega)
    · have h8 := law_i8 hN (by omega) c
      have b0 : xinb (nI (8 * t)) (xN u 2000000) := xinb_nI (by omega) (by omega)
      have bk : ∀ k : Nat, k < 8 → xinb (nI (8 * t) + nI k) (xN u 2000000) := fun k hk => by rw [nI_add]; exact xinb_nI (by omega) (by omega)
      have b1 : xinb (nI (8 * t) + 1) (xN u 2000000) := bk 1 (by omega)
      have b2 : xinb (nI (8 * t) + 2) (xN u 2000000) := bk 2 (by omega)
      have b3 : xinb (nI (8 * t) + 3) (xN u 2000000) := bk 3 (by omega)
      have b4 : xinb (nI (8 * t) + 4) (xN u 2000000) := bk 4 (by omega)
      have b5 : xinb (nI (8 * t) + 5) (xN u 2000000) := bk 5 (by omega)
      have b6 : xinb (nI (8 * t) + 6) (xN u 2000000) := bk 6 (by omega)
      have b7 : xinb (nI (8 * t) + 7) (xN u 2000000) := bk 7 (by omega)
      have hn : ∀ (u2 : xMem) (v5 v6 : Value), Fb u u2 → Inv u2 → zl I 0 2238 [.ref 2000000, .ref 0, .ref 278, .ref 295, .int (nI (8 * t)), v5, v6] [] u2 P := fun u2 v5 v6 f2 i2 => by
        have e : nI (8 * t) + 8 = nI (8 * (t + 1)) := by
          show nI (8 * t) + nI 8 = _
          rw [nI_add]
          congr 1
        simp only [q0_2238, q0_2241, e, true_and, and_true, Option.some.injEq, exists_eq_left', Option.toList_some, Option.toList_none, List.cons_append, List.nil_append, xcat_nil, xcat_int, xcat_ref, xcat_long, not_true, not_false_iff, if_true, if_false, and_self, and_false, false_and, or_true, true_or, or_self, z01, z10, zle8, Nat.reduceAdd, Nat.reduceLeDiff]
        have en : xN u2 2000000 = xN u 2000000 := congrFun f2.2.1 2000000
        have eT := f2.2.2.2.2.2.1
        have eS := f2.2.2.2.2.2.2
        exact ih (t + 1) u2 v5 v6 (by omega) (by omega) i2 (by omega) (f2.2.2.1.trans hVf) (fun w y1 y2 => hP w (by omega) (by omega))
      simp only [c, q0_33, q0_34, q0_36, q0_37, q0_39, b0, true_and, and_true, Option.some.injEq, exists_eq_left', Option.toList_some, Option.toList_none, List.cons_append, List.nil_append, xcat_nil, xcat_int, xcat_ref, xcat_long, not_true, not_false_iff, if_true, if_false, and_self, and_false, false_and, or_true, true_or, or_self, z01, z10, zle8, Nat.reduceAdd, Nat.reduceLeDiff]
      generalize (xI u 2000000 (xix (nI (8 * t))) &&& 63) = z
      rw [q0_40]
      by_cases d : z < 0 ∨ 47 ≤ z
      · rw [if_pos d]
        exact hn u v5 v6 Fr.rf.b hI
      · rw [if_neg d]
        have hz : z.toNatClampNeg < 47 := by
          have d1 := i32_nlt.mp (fun y => d (Or.inl y))
          have d2 := i32_nle.mp (fun y => d (Or.inr y))
          obtain ⟨j, hj, rfl⟩ := i32_in (n := 47) d1 d2 (by omega)
          have ej : (nI j).toNatClampNeg = j := xix_nI (by omega)
          rw [ej]
          exact hj
        generalize z.toNatClampNeg = j at hz
        match j, hz with
        | 0, _ => exact law_0 hI b1 b2 b3 b4 b5 b6 b7 (fun u2 f i => hn u2 v5 v6 f.b i)
        | 1, _ => exact law_1 hI b1 b2 b3 b4 b5 b6 b7 (fun u2 f i => hn u2 v5 v6 f.b i)
        | 2, _ => exact law_2 hI b1 b2 b3 b4 b5 b6 b7 (fun u2 f i => hn u2 v5 v6 f.b i)
        | 3, _ => exact law_3 hI b1 b2 b3 b4 b5 b6 b7 (fun u2 f i => hn u2 v5 v6 f.b i)
        | 4, _ => exact law_4 hI b1 b2 b3 b4 b5 b6 b7 (fun u2 f i => hn u2 v5 v6 f.b i)
        | 5, _ => exact law_5 hI b1 b2 b3 b4 b5 b6 b7 (fun u2 f i => hn u2 v5 v6 f.b i)
        | 6, _ => exact law_6 hI b1 b2 b3 b4 b5 b6 b7 (fun u2 f i => hn u2 v5 v6 f.b i)
        | 7, _ => exact law_7 hI b1 b2 b3 b4 b5 b6 b7 (fun u2 f i => hn u2 v5 v6 f.b i)
        | 8, _ => exact law_8 hI b1 b2 b3 b4 b5 b6 b7 (fun u2 f i => hn u2 v5 v6 f.b i)
        | 9, _ => exact law_9 hI b1 b2 b3 b4 b5 b6 b7 (fun u2 f i => hn u2 v5 v6 f.b i)
        | 10, _ => exact law_10 hI b1 b2 b3 b4 b5 b6 b7 (fun u2 f i => hn u2 v5 v6 f.b i)
        | 11, _ => exact law_11 hI b1 b2 b3 b4 b5 b6 b7 (fun u2 f i => hn u2 v5 v6 f.b i)
        | 12, _ => exact law_12 hI b1 b2 b3 b4 b5 b6 b7 (fun u2 f i => hn u2 v5 v6 f.b i)
        | 13, _ => exact law_13 hI b1 b2 b3 b4 b5 b6 b7 (fun u2 f i => hn u2 v5 v6 f.b i)
        | 14, _ => exact law_14 hI b1 b2 b3 b4 b5 b6 b7 (fun u2 f i => hn u2 v5 v6 f.b i)
        | 15, _ => exact law_15 hI b1 b2 b3 b4 b5 b6 b7 (fun u2 f i => hn u2 v5 v6 f.b i)
        | 16, _ => exact law_16 hI b1 b2 b3 b4 b5 b6 b7 (fun u2 f i => hn u2 v5 v6 f.b i)
        | 17, _ => exact law_17 hI b1 b2 b3 b4 b5 b6 b7 (fun u2 f i => hn u2 v5 v6 f.b i)
        | 18, _ => exact law_18 hI b1 b2 b3 b4 b5 b6 b7 (fun u2 f i => hn u2 v5 v6 f.b i)
        | 19, _ => exact law_19 hI b1 b2 b3 b4 b5 b6 b7 (fun u2 f i => hn u2 v5 v6 f.b i)
        | 20, _ => exact law_20 hI b1 b2 b3 b4 b5 b6 b7 (fun u2 f i => hn u2 v5 v6 f.b i)
        | 21, _ => exact law_21 hI b1 b2 b3 b4 b5 b6 b7 (fun u2 f i => hn u2 v5 v6 f.b i)
        | 22, _ => exact law_22 hI b1 b2 b3 b4 b5 b6 b7 (fun u2 f i => hn u2 v5 v6 f.b i)
        | 23, _ => exact law_23 hI b1 b2 b3 b4 b5 b6 b7 (fun u2 f i => hn u2 v5 v6 f.b i)
        | 24, _ => exact law_24 hI b1 b2 b3 b4 b5 b6 b7 (fun u2 f i => hn u2 v5 v6 f.b i)
        | 25, _ => exact law_25 hI b1 b2 b3 b4 b5 b6 b7 (fun u2 f i => hn u2 v5 v6 f.b i)
        | 26, _ => exact law_26 hI b1 b2 b3 b4 b5 b6 b7 (fun u2 f i => hn u2 v5 v6 f.b i)
        | 27, _ => exact law_27 hI b1 b2 b3 b4 b5 b6 b7 (fun u2 f i => hn u2 v5 v6 f.b i)
        | 28, _ => exact law_28 hI b1 b2 b3 b4 b5 b6 b7 (fun u2 f i => hn u2 v5 v6 f.b i)
        | 29, _ => exact law_29 hI b1 b2 b3 b4 b5 b6 b7 (fun u2 f i => hn u2 v5 v6 f.b i)
        | 30, _ => exact law_30 hI b1 b2 b3 b4 b5 b6 b7 (fun u2 f i => hn u2 v5 v6 f.b i)
        | 31, _ => exact law_31 hI b1 b2 b3 b4 b5 b6 b7 (fun u2 f i => hn u2 v5 v6 f.b i)
        | 32, _ => exact law_32 hI b1 b2 b3 b4 b5 b6 b7 (fun u2 f i => hn u2 v5 v6 f.b i)
        | 33, _ => exact law_33 hI b1 b2 b3 b4 b5 b6 b7 (fun u2 f i => hn u2 v5 v6 f.b i)
        | 34, _ => exact law_34 hI b1 b2 b3 b4 b5 b6 b7 (fun u2 f i => hn u2 v5 v6 f.b i)
        | 35, _ => exact law_35 hI b1 b2 b3 b4 b5 b6 b7 (fun u2 f i => hn u2 v5 v6 f.b i)
        | 36, _ => exact law_36 hI b1 b2 b3 b4 b5 b6 b7 (fun u2 f i => hn u2 v5 v6 f.b i)
        | 37, _ => exact law_37 hI b1 b2 b3 b4 b5 b6 b7 (fun u2 f i => hn u2 v5 v6 f.b i)
        | 38, _ => exact law_38 hI b1 b2 b3 b4 b5 b6 b7 (fun u2 f i => hn u2 v5 v6 f.b i)
        | 39, _ => exact law_39 hI b1 b2 b3 b4 b5 b6 b7 (fun u2 f i => hn u2 v5 v6 f.b i)
        | 40, _ => exact law_40 hI b1 b2 b3 b4 b5 b6 b7 (fun u2 f i => hn u2 v5 v6 f.b i)
        | 41, _ => exact law_41 hI b1 b2 b3 b4 b5 b6 b7 (fun u2 f i => hn u2 v5 v6 f.b i)
        | 42, _ => exact law_42 hI b1 b2 b3 b4 b5 b6 b7 (fun u2 f i => hn u2 v5 v6 f.b i)
        | 43, _ => exact law_43 hI b1 b2 b3 b4 b5 b6 b7 (fun u2 f i => hn u2 v5 v6 f.b i)
        | 44, _ => exact law_44b hId hVf hI b1 b2 b3 b4 b5 b6 b7 (fun u2 v5 v6 f i => hn u2 v5 v6 f i)
        | 45, _ => exact law_45 hI b1 b2 b3 b4 b5 b6 b7 (fun u2 f i => hn u2 v5 v6 f.b i)
        | 46, _ => exact law_46 hI b1 b2 b3 b4 b5 b6 b7 (fun u2 f i => hn u2 v5 v6 f.b i)
        | j + 47, h => exact absurd h (by omega)
end
