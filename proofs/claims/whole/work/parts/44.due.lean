/-! WHAT IS DUE -/
section
variable {u w v : xMem} {P : Option Value → xMem → Prop} {D s nl np nb nc nr nh nk a : Nat} {c d x y e n : Int32}
/-- the parts of the line at a: places L, and what each rate, cap and holiday is -/
def Pts (v : xMem) (a : Nat) (L : List Int32) (fr fc : Int32 → Int32) (ff : Int32 → Bool) : Prop := xI v a 8 = nI L.length ∧ ∀ i, i < L.length → xI v (a + 1) i = L.getD i 0 ∧ xI v (a + 2) i = fr (L.getD i 0) ∧ xI v (a + 3) i = fc (L.getD i 0) ∧ xI v (a + 4) i = bI (ff (L.getD i 0))
theorem mPart_at {k i : Nat} {p r kk g : Int32} : (xI (mPart u a k p r kk g) (a + 1) i = if i = k then p else xI u (a + 1) i) ∧ (xI (mPart u a k p r kk g) (a + 2) i = if i = k then r else xI u (a + 2) i) ∧ (xI (mPart u a k p r kk g) (a + 3) i = if i = k then kk else xI u (a + 3) i) ∧ (xI (mPart u a k p r kk g) (a + 4) i = if i = k then g else xI u (a + 4) i) := by
  unfold mPart
  refine ⟨?_, ?_, ?_, ?_⟩ <;> simp [xI_sI]
theorem mParts_at {t : Nat} {u0 : xMem} {L : List Int32} : ∀ k i, i < k → xI (mParts t nr nh nk u0 a c d e L u k) (a + 1) i = L.getD i 0 ∧ xI (mParts t nr nh nk u0 a c d e L u k) (a + 2) i = tRate u0 t nr (L.getD i 0) c d ∧ xI (mParts t nr nh nk u0 a c d e L u k) (a + 3) i = tCap u0 t nk (L.getD i 0) c ∧ xI (mParts t nr nh nk u0 a c d e L u k) (a + 4) i = bI (tFree u0 t nh (L.getD i 0) c d e) := by
  intro k
  induction k with
  | zero => intro i hi; omega
  | succ k ih =>
    intro i hi
    unfold mParts
    obtain ⟨h1, h2, h3, h4⟩ := mPart_at (u := mParts t nr nh nk u0 a c d e L u k) (a := a) (k := k) (i := i) (p := L.getD k 0) (r := tRate u0 t nr (L.getD k 0) c d) (kk := tCap u0 t nk (L.getD k 0) c) (g := bI (tFree u0 t nh (L.getD k 0) c d e))
    rw [h1, h2, h3, h4]
    by_cases hik : i = k
    · subst hik
      simp
    · simp only [hik, if_false]
      exact ih i (by omega)
theorem assess_run {j : Nat} (hj : j < nc) (h : okD u D s nl np nb nc nr nh nk) (hD : D = 6 ∨ D = 34) (ha : 69 ≤ a) (hLn : sLn u a) (hd : xI u a 0 = d) (hx : xI u a 1 = x) (hy : xI u a 2 = y) (hg : xI u a 3 = nI j) (he : xI u a 5 = e)
    (hP : ∀ v, xag (fun b k => SC b k ∨ SLn a b k) u v → (∀ f, f ≠ 8 → xI v a f = xI u a f) → Pts v a (dStk u D nb np nl d x y) (fun q => tRate u (D + 12) nr q (nI j) d) (fun q => tCap u (D + 12) nk q (nI j)) (fun q => tFree u (D + 12) nh q (nI j) d e) → P none v) : zr 41 0 [.ref D, .ref a, .null, .null] [] u P := by
  obtain ⟨h0, ⟨e0, e1, e2⟩, hG, hT, -⟩ := h.1
  simp only [r41_0, r41_1, r41_4, r41_5, r41_8, h0, e0, hG.1, hLn.1, hd, true_and, and_true, Option.some.injEq, exists_eq_left', Option.toList_some, Option.toList_none, List.cons_append, List.nil_append, xcat_nil, xcat_int, xcat_ref, xcat_long, not_true, not_false_iff, if_true, if_false, and_self, and_false, false_and, or_true, true_or, or_self, z01, z10, zle8, Nat.reduceAdd, Nat.reduceLeDiff]
  refine look_lk h hD (fun w hw0 hk => ?_)
  have hw := hw0.scL hD
  have hw' := h.ag hw hD
  have fa : ∀ f, xI w a f = xI u a f := fun f => hw0.2.2 a f (fun q => by unfold SL at q; omega)
  obtain ⟨h0w, ⟨e0w, -, -⟩, hGw, -, -⟩ := hw'.1
  have hLw := hw.ln hLn
  simp only [r41_11, r41_12, r41_15, r41_16, r41_19, r41_20, r41_23, h0w, e0w, hGw.1, hLw.1, fa, hx, hy, true_and, and_true, Option.some.injEq, exists_eq_left', Option.toList_some, Option.toList_none, List.cons_append, List.nil_append, xcat_nil, xcat_int, xcat_ref, xcat_long, not_true, not_false_iff, if_true, if_false, and_self, and_false, false_and, or_true, true_or, or_self, z01, z10, zle8, Nat.reduceAdd, Nat.reduceLeDiff]
  refine pile_lk hw' hD hk (fun w2 hw2 hk2 hPl => ?_)
  have hw2s := hw2.scP hD
  have h2' := hw'.ag hw2s hD
  have fa2 : ∀ f, xI w2 a f = xI u a f := fun f => (hw2.2.2 a f (fun q => by unfold SGp at q; omega)).trans (fa f)
  have hL2 := hw2s.ln hLw
  rw [dStk_ag hw hD] at hPl
  simp only [r41_26, r41_27, r41_28, r41_31, r41_32, hL2.1, true_and, and_true, Option.some.injEq, exists_eq_left', Option.toList_some, Option.toList_none, List.cons_append, List.nil_append, xcat_nil, xcat_int, xcat_ref, xcat_long, not_true, not_false_iff, if_true, if_false, and_self, and_false, false_and, or_true, true_or, or_self, z01, z10, zle8, Nat.reduceAdd, Nat.reduceLeDiff]
  have hw3 : xag (SLn a) w2 (xsI w2 a 8 0) := xag.sI (by unfold SLn; omega)
  have hlo3 := hw3.lo (by omega)
  have h3' := h2'.lo hlo3 hD
  have f3 : ∀ f, f ≠ 8 → xI (xsI w2 a 8 0) a f = xI u a f := fun f hf => by rw [xI_sI, if_neg (fun q => hf q.2)]; exact fa2 f
  have hPl3 : Pl (xsI w2 a 8 0) D (dStk u D nb np nl d x y) := ⟨by rw [loD hlo3 hD 1 (by omega)]; exact hPl.1, fun i hi => by rw [loD hlo3 hD 11 (by omega)]; exact hPl.2 i hi⟩
  have hq := assess_loop (P := P) (L := dStk u D nb np nl d x y) (d := d) (e := e) hj h3' hD (by omega) (hw3.ln hL2) (by rw [xI_sI, if_pos ⟨rfl, rfl⟩]) ((f3 0 (by omega)).trans hd) ((f3 3 (by omega)).trans hg) ((f3 5 (by omega)).trans he) hPl3 dStk_len (dStk u D nb np nl d x y).length 0 .null (by omega)
  refine hq.mpr ?_
  have hag := mParts_ag (a := a) (u := xsI w2 a 8 0) (t := D + 12) (nr := nr) (nh := nh) (nk := nk) (u0 := xsI w2 a 8 0) (c := nI j) (d := d) (e := e) (L := dStk u D nb np nl d x y) (dStk u D nb np nl d x y).length
  have hsc : xag SC u w2 := hw.tr hw2s
  refine hP _ (((hsc.wk (fun b k q => Or.inl q)).tr (hw3.wk (fun b k q => Or.inr q))).tr (hag.wk (fun b k q => Or.inr q))) (fun f hf => ?_) ⟨mParts_8 (by rw [xI_sI, if_pos ⟨rfl, rfl⟩]) _, fun i hi => ?_⟩
  · rw [mParts_f hf]
    exact f3 f hf
  · obtain ⟨a1, a2, a3, a4⟩ := mParts_at (a := a) (u := xsI w2 a 8 0) (t := D + 12) (nr := nr) (nh := nh) (nk := nk) (u0 := xsI w2 a 8 0) (c := nI j) (d := d) (e := e) (L := dStk u D nb np nl d x y) (dStk u D nb np nl d x y).length i hi
    refine ⟨a1, a2.trans ?_, a3.trans ?_, a4.trans ?_⟩
    · rw [tRate_lo hlo3 hD, tRate_ag hsc hD]
    · rw [tCap_lo hlo3 hD, tCap_ag hsc hD]
    · rw [tFree_lo hlo3 hD, tFree_ag hsc hD]
/-- the tax of n units at the price e for the place q -/
def dTax (u : xMem) (D nr nh nk : Nat) (c d e n q : Int32) : Int32 := fPt (fPb (bI (tFree u (D + 12) nh q c d e)) (tCap u (D + 12) nk q c) e n) (tRate u (D + 12) nr q c d)
/-- what would be due -/
def dDue (u : xMem) (D nb np nl nr nh nk : Nat) (d x y c n e : Int32) : Int32 := lSumN (dTax u D nr nh nk c d e n) (dStk u D nb np nl d x y) (dStk u D nb np nl d x y).length
theorem fTx_all {pl tax : Nat → Int32} {L : List Int32} {f : Int32 → Int32} : ∀ k, (∀ i, i < k → tax i = f (L.getD i 0)) → fTx pl tax (-1) k = lSumN f L k := by
  intro k
  induction k with
  | zero => intro _; rfl
  | succ k ih =>
    intro h
    unfold fTx lSumN
    rw [if_pos (Or.inl rfl), ih (fun i hi => h i (by omega)), h k (by omega)]
theorem Pts.tax {L : List Int32} {fr fc : Int32 → Int32} {ff : Int32 → Bool} (h : Pts v a L fr fc ff) (he : xI v a 5 = e) (hn : xI v a 6 = n) {i : Nat} (hi : i < L.length) : lTax v a i = fPt (fPb (bI (ff (L.getD i 0))) (fc (L.getD i 0)) e n) (fr (L.getD i 0)) := by
  obtain ⟨-, h2⟩ := h
  obtain ⟨-, b, c, d⟩ := h2 i hi
  unfold lTax lBase
  rw [b, c, d, he, hn]
theorem dDue_ag (hw : xag SC u w) (hD : D = 6 ∨ D = 34) : dDue w D nb np nl nr nh nk d x y c n e = dDue u D nb np nl nr nh nk d x y c n e := by
  unfold dDue
  rw [dStk_ag hw hD, show dTax w D nr nh nk c d e n = dTax u D nr nh nk c d e n from funext fun q => by unfold dTax; rw [tRate_ag hw hD, tCap_ag hw hD, tFree_ag hw hD]]
end
