/-! THE MODEL: rates over stacks, what is due -/
/-- no rate is above 2500 -/
def okRm (g : xMem) (D nr : Nat) : Prop := ∀ r, r < nr → xI g (D + 18) r ≤ 2500
/-- days are days -/
def okDy (g : xMem) (D nb nr nh : Nat) : Prop := (∀ b, b < nb → ∃ a, a ≤ 999 ∧ xI g (D + 6) b = nI a) ∧ (∀ r, r < nr → ∃ a, a ≤ 999 ∧ xI g (D + 17) r = nI a) ∧ ∀ h, h < nh → ∃ a b, a ≤ b ∧ b ≤ 999 ∧ xI g (D + 21) h = nI a ∧ xI g (D + 22) h = nI b
/-- all that holds of a desk -/
def okG (g : xMem) (D s nl np nb nc nr nh nk : Nat) : Prop := okD g D s nl np nb nc nr nh nk ∧ okXY g D nb ∧ okOn g D np ∧ okRv g D nr nk ∧ okRm g D nr ∧ okDy g D nb nr nh
def Mx (u g : xMem) (D s nl np nb nc nr nh nk : Nat) : Prop := sMd u ∧ okG g D s nl np nb nc nr nh nk ∧ cpD (xI u 279) g D np nb nc nr nh nk
theorem fUp_hit {cof : Nat → Int32} {hit : Int32 → Bool} : ∀ r k, fUp cof hit r k < 0 ∨ hit (fUp cof hit r k) = true := by
  intro r
  induction r with
  | zero => intro k; exact Or.inl (show (-2 : Int32) < 0 by decide)
  | succ r ih =>
    intro k
    unfold fUp
    by_cases c1 : k < 0
    · rw [if_pos c1]; exact Or.inl (by decide)
    · rw [if_neg c1]
      by_cases c2 : hit k = true
      · rw [if_pos c2]; exact Or.inr c2
      · rw [if_neg c2]; exact ih _
section
variable {u w g : xMem} {P : Option Value → xMem → Prop} {D s nl np nb nc nr nh nk n nf : Nat} {p d x y c e k a t : Int32} {op is : Bool}
theorem Mx.md (h : Mx u g D s nl np nb nc nr nh nk) : Md u g D s nl np nb nc nr nh nk := ⟨h.1, h.2.1.1, h.2.2⟩
theorem Mx.ag (h : Mx u g D s nl np nb nc nr nh nk) (hw : xag SC u w) : Mx w g D s nl np nb nc nr nh nk := ⟨h.1.ag hw, h.2.1, (h.md.ag hw).2.2⟩
theorem tCap_ok (hV : okRv g D nr nk) : tCap g (D + 12) nk p c = -2 ∨ 0 ≤ tCap g (D + 12) nk p c := by
  unfold tCap fCap
  rcases fUp_hit (cof := xI g (D + 12 + 1)) (hit := fun k => decide (0 ≤ fCt (xI g (D + 12 + 12)) (xI g (D + 12 + 13)) p k nk 0)) 6 c with q | q
  · rw [if_pos q]; exact Or.inl rfl
  · split
    · exact Or.inl rfl
    · right
      have q := of_decide_eq_true q
      rcases fCt_cases (xI g (D + 12 + 12)) (xI g (D + 12 + 13)) p (fUp (xI g (D + 12 + 1)) (fun k => decide (0 ≤ fCt (xI g (D + 12 + 12)) (xI g (D + 12 + 13)) p k nk 0)) 6 c) nk 0 with z | ⟨k, -, hk, z, -⟩
      · rw [z] at q; exact absurd q (by decide)
      · rw [z]
        have h1 : xix (nI k) = k ∨ k ≥ 2147483648 := by
          by_cases hh : k < 2147483648
          · exact Or.inl (xix_nI hh)
          · right; omega
        have h2 : xix (nI k) < nk := by
          rcases h1 with h1 | h1
          · rw [h1]; omega
          · exact Nat.lt_of_lt_of_le (Int32.toNatClampNeg_lt (nI k)) (by omega)
        have := hV.2 _ h2
        rw [i32_lt] at this
        rw [i32_le]
        show (0 : Int32).toInt ≤ (xI g (D + 26) (xix (nI k))).toInt
        omega
theorem tRate_ok (hnr : nr ≤ 20) (hV : okRv g D nr nk) (hm : okRm g D nr) : ∃ a, a ≤ 2500 ∧ tRate g (D + 12) nr p c d = nI a := by
  unfold tRate fRate
  split
  · exact ⟨0, by omega, rfl⟩
  · rename_i q
    rcases fUp_hit (cof := xI g (D + 12 + 1)) (hit := fun k => decide (0 ≤ fRl (xI g (D + 12 + 3)) (xI g (D + 12 + 4)) (xI g (D + 12 + 5)) p k d nr)) 6 c with q' | q'
    · exact absurd q' q
    · have q' := of_decide_eq_true q'
      rcases fRl_cases (xI g (D + 12 + 3)) (xI g (D + 12 + 4)) (xI g (D + 12 + 5)) p (fRf (xI g (D + 12 + 3)) (xI g (D + 12 + 4)) (xI g (D + 12 + 5)) (xI g (D + 12 + 1)) p d nr 6 c) d nr with z | ⟨k, hk, z, -⟩
      · unfold fRf at z
        rw [z] at q'
        exact absurd q' (by decide)
      · rw [z, xix_nI (by omega)]
        have h1 := hV.1 k hk
        have h2 := hm k hk
        obtain ⟨e, hj⟩ := i32_nI h1
        refine ⟨(xI g (D + 18) k).toNatClampNeg, ?_, e⟩
        rw [e] at h2
        have := i32_le.mp h2
        rw [nI_toI hj] at this
        have : (2500 : Int32).toInt = 2500 := rfl
        omega
theorem ag_row {ra : Nat} {A : List Int32} (h : ra = 284 ∨ ra = 285) : xag SCm u (xrow u ra A) := xag.fill (fun j => by unfold SCm; omega)
theorem getD_mem {L : List Int32} {i : Nat} (h : i < L.length) : L.getD i 0 ∈ L := by
  rw [List.getD_eq_getElem?_getD, List.getElem?_eq_getElem h]
  exact List.getElem_mem h
theorem stackRateOf_run (h : Mx u g D s nl np nb nc nr nh nk) {j : Nat} (hj : j < nc) {px py : Nat} (hx : px ≤ 40) (hy : py ≤ 40) : zr 252 0 [.ref 278, .int d, .int (nI px), .int (nI py), .int (nI j), .null, .null, .null] [] u P = P (some (.int (dSr g D nb np nl nr (nI j) d (nI px) (nI py)))) (xrow u 284 (dStk g D nb np nl d (nI px) (nI py))) := by
  have hS := fun P => laysStack_run (d := d) (P := P) h.1 h.2.1.1 h.2.2 h.2.1.2.1 h.2.1.2.2.1 (Or.inl rfl) hx hy
  have hlen : (dStk g D nb np nl d (nI px) (nI py)).length ≤ nl := dStk_len
  have hb := h.2.1.1.b
  have hw := h.ag (ag_row (A := dStk g D nb np nl d (nI px) (nI py)) (Or.inl rfl)).m
  have hI : ∀ i, i < (dStk g D nb np nl d (nI px) (nI py)).length → xI (xrow u 284 (dStk g D nb np nl d (nI px) (nI py))) 284 i = (dStk g D nb np nl d (nI px) (nI py)).getD i 0 := fun i hi => xI_row hi
  unfold dSr
  simp only [r252_0, r252_1, r252_2, r252_3, r252_4, r252_5, r252_8, r252_11, r252_13, r252_14, r252_16, r252_17, h.1.1, h.1.2.1.2.2.2.2.2.1, hS, true_and, and_true, Option.some.injEq, exists_eq_left', Option.toList_some, Option.toList_none, List.cons_append, List.nil_append, xcat_nil, xcat_int, xcat_ref, xcat_long, not_true, not_false_iff, if_true, if_false, and_self, and_false, false_and, or_true, true_or, or_self, z01, z10, zle8, Nat.reduceAdd, Nat.reduceLeDiff]
  clear hS
  generalize xrow u 284 (dStk g D nb np nl d (nI px) (nI py)) = w at hw hI ⊢
  generalize dStk g D nb np nl d (nI px) (nI py) = L at hI hlen ⊢
  have hR := fun p P => rateOf_run (p := p) (d := d) (P := P) hw.1 hw.2.1.1 hw.2.2 hw.2.1.2.2.2.1 hj
  obtain ⟨h0, ⟨-, -, -, -, -, r17, -⟩, -, -, -, -, -, ⟨i17, n17⟩, -⟩ := hw.1
  have lp : ∀ r i, i + r = L.length → zr 252 19 [.ref 278, .int d, .int (nI px), .int (nI py), .int (nI j), .int (nI L.length), .int (lSumN (fun q => tRate g (D + 12) nr q (nI j) d) L i), .int (nI i)] [] w P = P (some (.int (lSumN (fun q => tRate g (D + 12) nr q (nI j) d) L L.length))) w := by
    intro r
    induction r with
    | zero =>
      intro i hi
      have : i = L.length := by omega
      subst this
      rw [r252_19]
      simp (disch := omega) only [r252_0, r252_1, r252_2, r252_3, r252_4, r252_5, r252_8, r252_11, r252_13, r252_14, r252_16, r252_17, r252_21, r252_23, r252_26, r252_28, r252_29, r252_30, r252_33, r252_35, r252_36, r252_38, r252_39, r252_42, r252_43, r252_45, r252_48, r252_51, r252_53, xinbT, xixT, leT, leF, ltT, ltF, ngF, psT, n1F, n2F, km2, km3, km4, km5, km10, km15, km25, kl8, kl14, kl24, kl34, kl274, kl354, kl384, kr1, kr2, kr3, kr4, kr5, kr6, kr7, kr8, kr9, kaa, lb0, lb1, lb2, lb3, lb4, lb5, lb6, lb7, li0, li1, li2, li3, li4, li5, li6, li7, true_and, and_true, Option.some.injEq, exists_eq_left', Option.toList_some, Option.toList_none, List.cons_append, List.nil_append, xcat_nil, xcat_int, xcat_ref, xcat_long, not_true, not_false_iff, if_true, if_false, and_self, and_false, false_and, or_true, true_or, or_self, z01, z10, zle8, Nat.reduceAdd, Nat.reduceLeDiff]
    | succ r ih =>
      intro i hi
      have ih := ih (i + 1) (by omega)
      simp only [lSumN] at ih
      have e := hI i (by omega)
      rw [r252_19]
      simp (disch := omega) only [r252_0, r252_1, r252_2, r252_3, r252_4, r252_5, r252_8, r252_11, r252_13, r252_14, r252_16, r252_17, r252_21, r252_23, r252_26, r252_28, r252_29, r252_30, r252_33, r252_35, r252_36, r252_38, r252_39, r252_42, r252_43, r252_45, r252_48, r252_51, r252_53, h0, r17, i17, n17, hR, e, xinbT, xixT, leT, leF, ltT, ltF, ngF, psT, n1F, n2F, km2, km3, km4, km5, km10, km15, km25, kl8, kl14, kl24, kl34, kl274, kl354, kl384, kr1, kr2, kr3, kr4, kr5, kr6, kr7, kr8, kr9, kaa, lb0, lb1, lb2, lb3, lb4, lb5, lb6, lb7, li0, li1, li2, li3, li4, li5, li6, li7, true_and, and_true, Option.some.injEq, exists_eq_left', Option.toList_some, Option.toList_none, List.cons_append, List.nil_append, xcat_nil, xcat_int, xcat_ref, xcat_long, not_true, not_false_iff, if_true, if_false, and_self, and_false, false_and, or_true, true_or, or_self, z01, z10, zle8, Nat.reduceAdd, Nat.reduceLeDiff]
      exact ih
  exact lp L.length 0 (by omega)
theorem dueOf_run (h : Mx u g D s nl np nb nc nr nh nk) {j : Nat} (hj : j < nc) {px py : Nat} (hx : px ≤ 40) (hy : py ≤ 40) {m : Int32} : zr 257 0 [.ref 278, .int d, .int (nI px), .int (nI py), .int (nI j), .int m, .int e, .null, .null, .null] [] u P = P (some (.int (dDue g D nb np nl nr nh nk d (nI px) (nI py) (nI j) m e))) (xrow u 284 (dStk g D nb np nl d (nI px) (nI py))) := by
  have hS := fun P => laysStack_run (d := d) (P := P) h.1 h.2.1.1 h.2.2 h.2.1.2.1 h.2.1.2.2.1 (Or.inl rfl) hx hy
  have hlen : (dStk g D nb np nl d (nI px) (nI py)).length ≤ nl := dStk_len
  have hb := h.2.1.1.b
  have hw := h.ag (ag_row (A := dStk g D nb np nl d (nI px) (nI py)) (Or.inl rfl)).m
  have hI : ∀ i, i < (dStk g D nb np nl d (nI px) (nI py)).length → xI (xrow u 284 (dStk g D nb np nl d (nI px) (nI py))) 284 i = (dStk g D nb np nl d (nI px) (nI py)).getD i 0 := fun i hi => xI_row hi
  unfold dDue
  simp only [r257_0, r257_1, r257_2, r257_3, r257_4, r257_5, r257_8, r257_11, r257_13, r257_14, r257_16, r257_17, h.1.1, h.1.2.1.2.2.2.2.2.1, hS, true_and, and_true, Option.some.injEq, exists_eq_left', Option.toList_some, Option.toList_none, List.cons_append, List.nil_append, xcat_nil, xcat_int, xcat_ref, xcat_long, not_true, not_false_iff, if_true, if_false, and_self, and_false, false_and, or_true, true_or, or_self, z01, z10, zle8, Nat.reduceAdd, Nat.reduceLeDiff]
  clear hS
  generalize xrow u 284 (dStk g D nb np nl d (nI px) (nI py)) = w at hw hI ⊢
  generalize dStk g D nb np nl d (nI px) (nI py) = L at hI hlen ⊢
  have hR := fun p P => rateOf_run (p := p) (d := d) (P := P) hw.1 hw.2.1.1 hw.2.2 hw.2.1.2.2.2.1 hj
  have hC := fun p P => capOf_run (p := p) (P := P) hw.1 hw.2.1.1 hw.2.2 hw.2.1.2.2.2.1 hj
  have hF := fun p P => isFreeM_run (p := p) (d := d) (price := e) (P := P) hw.1 hw.2.1.1 hw.2.2 hj
  have hB := fun p f P => baseOf_run (u := w) (price := e) (n := m) (cap := tCap g (D + 12) nk p (nI j)) (f := f) (P := P) (tCap_ok hw.2.1.2.2.2.1)
  obtain ⟨h0, ⟨-, -, -, -, -, r17, -⟩, -, -, -, -, -, ⟨i17, n17⟩, -⟩ := hw.1
  have lp : ∀ r i, i + r = L.length → zr 257 19 [.ref 278, .int d, .int (nI px), .int (nI py), .int (nI j), .int m, .int e, .int (nI L.length), .int (lSumN (dTax g D nr nh nk (nI j) d e m) L i), .int (nI i)] [] w P = P (some (.int (lSumN (dTax g D nr nh nk (nI j) d e m) L L.length))) w := by
    intro r
    induction r with
    | zero =>
      intro i hi
      have : i = L.length := by omega
      subst this
      rw [r257_19]
      simp (disch := omega) only [r257_0, r257_1, r257_2, r257_3, r257_4, r257_5, r257_8, r257_11, r257_13, r257_14, r257_16, r257_17, r257_21, r257_23, r257_26, r257_28, r257_30, r257_32, r257_33, r257_34, r257_37, r257_39, r257_40, r257_42, r257_45, r257_46, r257_47, r257_50, r257_52, r257_53, r257_55, r257_56, r257_58, r257_61, r257_64, r257_65, r257_66, r257_69, r257_71, r257_72, r257_74, r257_75, r257_78, r257_81, r257_82, r257_84, r257_87, r257_90, r257_92, xinbT, xixT, leT, leF, ltT, ltF, ngF, psT, n1F, n2F, km2, km3, km4, km5, km10, km15, km25, kl8, kl14, kl24, kl34, kl274, kl354, kl384, kr1, kr2, kr3, kr4, kr5, kr6, kr7, kr8, kr9, kaa, lb0, lb1, lb2, lb3, lb4, lb5, lb6, lb7, li0, li1, li2, li3, li4, li5, li6, li7, true_and, and_true, Option.some.injEq, exists_eq_left', Option.toList_some, Option.toList_none, List.cons_append, List.nil_append, xcat_nil, xcat_int, xcat_ref, xcat_long, not_true, not_false_iff, if_true, if_false, and_self, and_false, false_and, or_true, true_or, or_self, z01, z10, zle8, Nat.reduceAdd, Nat.reduceLeDiff]
    | succ r ih =>
      intro i hi
      have ih := ih (i + 1) (by omega)
      simp only [lSumN, dTax] at ih
      have e := hI i (by omega)
      rw [r257_19]
      simp (disch := omega) only [r257_0, r257_1, r257_2, r257_3, r257_4, r257_5, r257_8, r257_11, r257_13, r257_14, r257_16, r257_17, r257_21, r257_23, r257_26, r257_28, r257_30, r257_32, r257_33, r257_34, r257_37, r257_39, r257_40, r257_42, r257_45, r257_46, r257_47, r257_50, r257_52, r257_53, r257_55, r257_56, r257_58, r257_61, r257_64, r257_65, r257_66, r257_69, r257_71, r257_72, r257_74, r257_75, r257_78, r257_81, r257_82, r257_84, r257_87, r257_90, r257_92, taxOfM_run, h0, r17, i17, n17, hR, hC, hF, hB, e, dTax, xinbT, xixT, leT, leF, ltT, ltF, ngF, psT, n1F, n2F, km2, km3, km4, km5, km10, km15, km25, kl8, kl14, kl24, kl34, kl274, kl354, kl384, kr1, kr2, kr3, kr4, kr5, kr6, kr7, kr8, kr9, kaa, lb0, lb1, lb2, lb3, lb4, lb5, lb6, lb7, li0, li1, li2, li3, li4, li5, li6, li7, true_and, and_true, Option.some.injEq, exists_eq_left', Option.toList_some, Option.toList_none, List.cons_append, List.nil_append, xcat_nil, xcat_int, xcat_ref, xcat_long, not_true, not_false_iff, if_true, if_false, and_self, and_false, false_and, or_true, true_or, or_self, z01, z10, zle8, Nat.reduceAdd, Nat.reduceLeDiff]
      exact ih
  exact lp L.length 0 (by omega)
end
