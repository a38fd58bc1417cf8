/-! THE DESK, more: rates of all places, sums over stacks, the cheapest point -/
section
variable {u w : xMem} {P : Option Value → xMem → Prop} {D s nl np nb nc nr nh nk : Nat} {p c d x y : Int32}
/-- the rates of a day and class are taken -/
def Tk (u : xMem) (D nr np : Nat) (c d : Int32) : Prop := ∀ i, i < np → xI u (D + 27) i = tRate u (D + 12) nr (nI i) c d
theorem lookAt_loop (hD : D = 6 ∨ D = 34) {j : Nat} (hj : j < nc) : ∀ r i w, i + r = np → okD w D s nl np nb nc nr nh nk → Lk w D nb np d → (∀ q, q < i → xI w (D + 27) q = tRate w (D + 12) nr (nI q) (nI j) d) →
    (∀ v, xag SC w v → Lk v D nb np d → Tk v D nr np (nI j) d → P none v) → zr 38 10 [.ref D, .int d, .int (nI j), .int (nI i)] [] w P := by
  intro r
  induction r with
  | zero =>
    intro i w hi h hk ht hP
    have : i = np := by omega
    subst this
    obtain ⟨h0, ⟨e0, e1, e2⟩, hG, hT, -⟩ := h.1
    rw [r38_10]
    simp only [r38_11, r38_12, r38_15, r38_18, r38_43, h0, e0, hG.1, h.2.2.2.1.1, true_and, and_true, Option.some.injEq, exists_eq_left', Option.toList_some, Option.toList_none, List.cons_append, List.nil_append, xcat_nil, xcat_int, xcat_ref, xcat_long, not_true, not_false_iff, if_true, if_false, and_self, and_false, false_and, or_true, true_or, or_self, z01, z10, zle8, Nat.reduceAdd, Nat.reduceLeDiff]
    rw [if_pos (nI_le (Nat.le_refl _) (by have := h.2.2.2.1.2; omega))]
    exact hP w xag.rf hk ht
  | succ r ih =>
    intro i w hi h hk ht hP
    obtain ⟨h0, ⟨e0, e1, e2⟩, hG, hT, ⟨i27, n27⟩⟩ := h.1
    have hp := h.2.2.2.1
    have q0 : ¬ nI np ≤ nI i := nI_ge (by omega) (by omega)
    have q1 : xinb (nI i) 10 := xinb_nI (by omega) (by omega)
    have q2 : xix (nI i) = i := xix_nI (by omega)
    have hr := fun p P => rate_run (p := p) (d := d) (P := P) h hj
    have hw : xag SC w (xsI w (D + 27) i (tRate w (D + 12) nr (nI i) (nI j) d)) := xag.sI (by unfold SC; omega)
    rw [r38_10]
    simp only [r38_11, r38_12, r38_15, r38_18, r38_21, r38_22, r38_25, r38_26, r38_27, r38_30, r38_31, r38_32, r38_33, r38_36, r38_37, r38_40, h0, e0, e1, e2, hG.1, hT.1, i27, n27, hp.1, hr, q0, q1, q2, nI_1, true_and, and_true, Option.some.injEq, exists_eq_left', Option.toList_some, Option.toList_none, List.cons_append, List.nil_append, xcat_nil, xcat_int, xcat_ref, xcat_long, not_true, not_false_iff, if_true, if_false, and_self, and_false, false_and, or_true, true_or, or_self, z01, z10, zle8, Nat.reduceAdd, Nat.reduceLeDiff]
    refine ih (i + 1) _ (by omega) (h.ag hw hD) (fun z hz => ?_) (fun z hz => ?_) (fun v hv => hP v (hw.tr hv))
    · rw [dCh_ag hw hD, xIf_sI (by omega)]
      exact hk z hz
    · rw [tRate_ag hw hD, xI_sI]
      by_cases hzi : z = i
      · rw [if_pos ⟨rfl, hzi⟩, hzi]
      · rw [if_neg (fun q => hzi q.2)]
        exact ht z (by omega)
theorem lookAt_run (hD : D = 6 ∨ D = 34) {j : Nat} (hj : j < nc) (h : okD u D s nl np nb nc nr nh nk) (hP : ∀ v, xag SC u v → Lk v D nb np d → Tk v D nr np (nI j) d → P none v) : zr 38 0 [.ref D, .int d, .int (nI j), .null] [] u P := by
  obtain ⟨h0, ⟨e0, e1, e2⟩, hG, hT, -⟩ := h.1
  simp only [r38_0, r38_1, r38_4, r38_5, h0, e0, hG.1, true_and, and_true, Option.some.injEq, exists_eq_left', Option.toList_some, Option.toList_none, List.cons_append, List.nil_append, xcat_nil, xcat_int, xcat_ref, xcat_long, not_true, not_false_iff, if_true, if_false, and_self, and_false, false_and, or_true, true_or, or_self, z01, z10, zle8, Nat.reduceAdd, Nat.reduceLeDiff]
  refine look_lk h hD (fun w hw0 hk => ?_)
  have hw := hw0.scL hD
  simp only [r38_8, r38_9, true_and, and_true, Option.some.injEq, exists_eq_left', Option.toList_some, Option.toList_none, List.cons_append, List.nil_append, xcat_nil, xcat_int, xcat_ref, xcat_long, not_true, not_false_iff, if_true, if_false, and_self, and_false, false_and, or_true, true_or, or_self, z01, z10, zle8, Nat.reduceAdd, Nat.reduceLeDiff]
  exact lookAt_loop hD hj np 0 w (by omega) (h.ag hw hD) hk (fun q hq => by omega) (fun v hv => hP v (hw.tr hv))
/-- a sum over a list -/
def lSum (f : Int32 → Int32) : List Int32 → Int32
  | [] => 0
  | q :: L => f q + lSum f L
def lSumN (f : Int32 → Int32) (L : List Int32) : Nat → Int32
  | 0 => 0
  | k + 1 => lSumN f L k + f (L.getD k 0)
/-- the rates over a stack -/
def dSr (u : xMem) (D nb np nl nr : Nat) (c d x y : Int32) : Int32 := lSumN (fun q => tRate u (D + 12) nr q c d) (dStk u D nb np nl d x y) (dStk u D nb np nl d x y).length
theorem ratesOver_loop {L : List Int32} (h : okD u D s nl np nb nc nr nh nk) (hL : Pl u D L) (hm : ∀ q ∈ L, ∃ k, k < np ∧ q = nI k) (hl : L.length ≤ nl) (ht : Tk u D nr np c d) : ∀ r i, i + r = L.length →
    zr 39 14 [.ref D, .int x, .int y, .int (lSumN (fun q => tRate u (D + 12) nr q c d) L i), .int (nI i)] [] u P = P (some (.int (lSumN (fun q => tRate u (D + 12) nr q c d) L L.length))) u := by
  obtain ⟨h0, ⟨e0, e1, e2⟩, hG, hT, ⟨i27, n27⟩⟩ := h.1
  have hp := h.2.2.2.1
  have hnl := h.2.2.1
  obtain ⟨g0, ⟨-, -, -, -, g7⟩, -, -, -, -, ⟨i7, n7⟩⟩ := hG
  have i7 : xIs u (D + 11) 13 := i7
  have n7 : xN u (D + 11) = 4 := n7
  have g7 : xR u (D + 1) 7 = some (D + 11) := g7
  intro r
  induction r with
  | zero =>
    intro i hi
    have : i = L.length := by omega
    subst this
    rw [r39_14]
    simp only [r39_16, r39_17, r39_20, r39_23, r39_50, r39_51, h0, e0, g0, hL.1, true_and, and_true, Option.some.injEq, exists_eq_left', Option.toList_some, Option.toList_none, List.cons_append, List.nil_append, xcat_nil, xcat_int, xcat_ref, xcat_long, not_true, not_false_iff, if_true, if_false, and_self, and_false, false_and, or_true, true_or, or_self, z01, z10, zle8, Nat.reduceAdd, Nat.reduceLeDiff]
    rw [if_pos (nI_le (Nat.le_refl _) (by omega))]
  | succ r ih =>
    intro i hi
    have q0 : ¬ nI L.length ≤ nI i := nI_ge (by omega) (by omega)
    have q1 : xinb (nI i) 4 := xinb_nI (by omega) (by omega)
    have q2 : xix (nI i) = i := xix_nI (by omega)
    have hli : i < L.length := by omega
    have eL : L.getD i 0 = L[i] := by simp [List.getD_eq_getElem?_getD, hli]
    obtain ⟨k, hk, ek⟩ := hm (L.getD i 0) (by rw [eL]; exact List.getElem_mem hli)
    have k1 : xinb (nI k) 10 := xinb_nI (by omega) (by omega)
    have k2 : xix (nI k) = k := xix_nI (by omega)
    have ih := ih (i + 1) (by omega)
    simp only [lSumN] at ih
    rw [ek] at ih
    rw [r39_14]
    simp only [r39_16, r39_17, r39_20, r39_23, r39_26, r39_27, r39_28, r39_31, r39_32, r39_35, r39_38, r39_40, r39_41, r39_42, r39_43, r39_44, r39_47, h0, e0, e2, g0, g7, i7, n7, i27, n27, hL.1, hL.2 i hli, ek, ht k hk, q0, q1, q2, k1, k2, nI_1, true_and, and_true, Option.some.injEq, exists_eq_left', Option.toList_some, Option.toList_none, List.cons_append, List.nil_append, xcat_nil, xcat_int, xcat_ref, xcat_long, not_true, not_false_iff, if_true, if_false, and_self, and_false, false_and, or_true, true_or, or_self, z01, z10, zle8, Nat.reduceAdd, Nat.reduceLeDiff]
    exact ih
theorem ratesOver_run (h : okD u D s nl np nb nc nr nh nk) (hD : D = 6 ∨ D = 34) (hk : Lk u D nb np d) (ht : Tk u D nr np c d) (hP : ∀ w, xag SC u w → Lk w D nb np d → Tk w D nr np c d → P (some (.int (dSr u D nb np nl nr c d x y))) w) : zr 39 0 [.ref D, .int x, .int y, .null, .null] [] u P := by
  obtain ⟨h0, ⟨e0, e1, e2⟩, hG, hT, -⟩ := h.1
  simp only [r39_0, r39_1, r39_4, r39_5, r39_6, h0, e0, hG.1, true_and, and_true, Option.some.injEq, exists_eq_left', Option.toList_some, Option.toList_none, List.cons_append, List.nil_append, xcat_nil, xcat_int, xcat_ref, xcat_long, not_true, not_false_iff, if_true, if_false, and_self, and_false, false_and, or_true, true_or, or_self, z01, z10, zle8, Nat.reduceAdd, Nat.reduceLeDiff]
  refine pile_lk h hD hk (fun w hw0 hkw hPl => ?_)
  have hw := hw0.scP hD
  have htw : Tk w D nr np c d := by
    intro i hi
    rw [tRate_ag hw hD, hw0.f (fun j q => by unfold SGp at q; omega)]
    exact ht i hi
  have hq := ratesOver_loop (P := P) (x := x) (y := y) (h.ag hw hD) hPl (fun q hq => dStk_mem hq) dStk_len htw (dStk u D nb np nl d x y).length 0 (by omega)
  have e : (fun q => tRate w (D + 12) nr q c d) = fun q => tRate u (D + 12) nr q c d := funext fun q => tRate_ag hw hD
  rw [e] at hq
  simp only [r39_9, r39_10, r39_11, r39_12, true_and, and_true, Option.some.injEq, exists_eq_left', Option.toList_some, Option.toList_none, List.cons_append, List.nil_append, xcat_nil, xcat_int, xcat_ref, xcat_long, not_true, not_false_iff, if_true, if_false, and_self, and_false, false_and, or_true, true_or, or_self, z01, z10, zle8, Nat.reduceAdd, Nat.reduceLeDiff]
  exact hq.mpr (hP w hw hkw htw)
theorem dSr_ag (hw : xag SC u w) (hD : D = 6 ∨ D = 34) : dSr w D nb np nl nr c d x y = dSr u D nb np nl nr c d x y := by
  unfold dSr
  rw [dStk_ag hw hD, show (fun q => tRate w (D + 12) nr q c d) = fun q => tRate u (D + 12) nr q c d from funext fun q => tRate_ag hw hD]
/-! the cheapest point: (least, best) after the points so far -/
def fChp (f : Nat → Nat → Int32) (y : Nat) : Nat → Int32 × Int32 → Int32 × Int32
  | 0, z => z
  | k + 1, z => if 0 < (fChp f y k z).1 ∧ f y k < (fChp f y k z).1 then (f y k, nI k + 100 * nI y) else fChp f y k z
def fChq (f : Nat → Nat → Int32) (s : Nat) : Nat → Int32 × Int32 → Int32 × Int32
  | 0, z => z
  | k + 1, z => fChp f k (s + 1) (fChq f s k z)
theorem fChp_0 {f : Nat → Nat → Int32} {y : Nat} {z : Int32 × Int32} (h : z.1 ≤ 0) : ∀ k, fChp f y k z = z := by
  intro k
  induction k with
  | zero => rfl
  | succ k ih =>
    unfold fChp
    rw [ih, if_neg (fun q => i32_nlt.mpr h q.1)]
theorem fChq_0 {f : Nat → Nat → Int32} {s : Nat} : ∀ r k (z : Int32 × Int32), (fChq f s k z).1 ≤ 0 → fChq f s (k + r) z = fChq f s k z := by
  intro r
  induction r with
  | zero => intro k z _; rfl
  | succ r ih =>
    intro k z h
    rw [show k + (r + 1) = (k + r) + 1 from rfl]
    show fChp f (k + r) (s + 1) (fChq f s (k + r) z) = _
    rw [ih k z h, fChp_0 h]
theorem fChp_more {f : Nat → Nat → Int32} {y : Nat} {z : Int32 × Int32} : ∀ r k, (fChp f y k z).1 ≤ 0 → fChp f y (k + r) z = fChp f y k z := by
  intro r
  induction r with
  | zero => intro k _; rfl
  | succ r ih =>
    intro k h
    rw [show k + (r + 1) = (k + r) + 1 from rfl]
    show (if 0 < (fChp f y (k + r) z).1 ∧ f y (k + r) < (fChp f y (k + r) z).1 then _ else fChp f y (k + r) z) = _
    rw [ih k h, if_neg (fun q => i32_nlt.mpr h q.1)]
end
