/-! ASSESS: a line gets its parts -/
section
variable {u w : xMem} {P : Option Value → xMem → Prop} {D s nl np nb nc nr nh nk a : Nat} {c d x y : Int32}
/-- a line's parts out of a stack -/
def mParts (t nr nh nk : Nat) (u0 : xMem) (a : Nat) (c d e : Int32) (L : List Int32) (u : xMem) : Nat → xMem
  | 0 => u
  | k + 1 => mPart (mParts t nr nh nk u0 a c d e L u k) a k (L.getD k 0) (tRate u0 t nr (L.getD k 0) c d) (tCap u0 t nk (L.getD k 0) c) (bI (tFree u0 t nh (L.getD k 0) c d e))
/-- the cells of a line -/
def SLn (a : Nat) : Nat → Nat → Prop := fun b _ => a ≤ b ∧ b ≤ a + 4
theorem mPart_ag {n : Nat} {p r k f : Int32} : xag (SLn a) u (mPart u a n p r k f) := by
  unfold mPart
  exact ((((xag.sI (by unfold SLn; omega)).tr (xag.sI (by unfold SLn; omega))).tr (xag.sI (by unfold SLn; omega))).tr (xag.sI (by unfold SLn; omega))).tr (xag.sI (by unfold SLn; omega))
theorem mParts_ag {t : Nat} {u0 : xMem} {e : Int32} {L : List Int32} : ∀ k, xag (SLn a) u (mParts t nr nh nk u0 a c d e L u k) := by
  intro k
  induction k with
  | zero => exact xag.rf
  | succ k ih => exact ih.tr mPart_ag
theorem mPart_f {n f : Nat} {p r k g : Int32} (hf : f ≠ 8) : xI (mPart u a n p r k g) a f = xI u a f := by
  unfold mPart
  rw [xI_sI, if_neg (fun q => hf q.2), xIf_sI (by omega), xIf_sI (by omega), xIf_sI (by omega), xIf_sI (by omega)]
theorem mPart_8 {n : Nat} {p r k g : Int32} : xI (mPart u a n p r k g) a 8 = nI (n + 1) := by
  unfold mPart
  rw [xI_sI, if_pos ⟨rfl, rfl⟩]
theorem mParts_f {t f : Nat} {u0 : xMem} {e : Int32} {L : List Int32} (hf : f ≠ 8) : ∀ k, xI (mParts t nr nh nk u0 a c d e L u k) a f = xI u a f := by
  intro k
  induction k with
  | zero => rfl
  | succ k ih => exact (mPart_f hf).trans ih
theorem mParts_8 {t : Nat} {u0 : xMem} {e : Int32} {L : List Int32} (h : xI u a 8 = 0) : ∀ k, xI (mParts t nr nh nk u0 a c d e L u k) a 8 = nI k := by
  intro k
  cases k with
  | zero => exact h
  | succ k => exact mPart_8
/-- nothing of the desks is changed -/
def Slo : Nat → Nat → Prop := fun b _ => 62 ≤ b
theorem xag.lo (h : xag (SLn a) u w) (ha : 62 ≤ a) : xag Slo u w := h.wk (fun b j q => by unfold SLn at q; unfold Slo; omega)
theorem loD (hw : xag Slo u w) (hD : D = 6 ∨ D = 34) (k : Nat) (hk : k ≤ 27) : xI w (D + k) = xI u (D + k) := hw.f (fun j q => by unfold Slo at q; omega)
theorem okD.lo (h : okD u D s nl np nb nc nr nh nk) (hw : xag Slo u w) (hD : D = 6 ∨ D = 34) : okD w D s nl np nb nc nr nh nk := by
  obtain ⟨h0, h1, h2, h3, h4, h5, h6, h7, h8, h9, h10⟩ := h
  refine ⟨hw.dk h0, ?_, ?_, ?_, ?_, ?_, ?_, ?_, ?_, ?_, ?_⟩
  · rw [loD hw hD 1 (by omega)]; exact h1
  · rw [loD hw hD 1 (by omega)]; exact h2
  · rw [loD hw hD 1 (by omega)]; exact h3
  · rw [loD hw hD 4 (by omega)]; exact h4
  · rw [loD hw hD 12 (by omega)]; exact h5
  · rw [loD hw hD 14 (by omega)]; exact h6
  · rw [loD hw hD 12 (by omega)]; exact h7
  · rw [loD hw hD 12 (by omega)]; exact h8
  · rw [loD hw hD 13 (by omega)]; exact h9
  · rw [loD hw hD 7 (by omega)]; exact h10
theorem tRate_lo {p : Int32} (hw : xag Slo u w) (hD : D = 6 ∨ D = 34) : tRate w (D + 12) nr p c d = tRate u (D + 12) nr p c d := by
  unfold tRate
  rw [show D + 12 + 3 = D + 15 from rfl, show D + 12 + 4 = D + 16 from rfl, show D + 12 + 5 = D + 17 from rfl, show D + 12 + 6 = D + 18 from rfl, show D + 12 + 1 = D + 13 from rfl, loD hw hD 15 (by omega), loD hw hD 16 (by omega), loD hw hD 17 (by omega), loD hw hD 18 (by omega), loD hw hD 13 (by omega)]
theorem tCap_lo {p : Int32} (hw : xag Slo u w) (hD : D = 6 ∨ D = 34) : tCap w (D + 12) nk p c = tCap u (D + 12) nk p c := by
  unfold tCap
  rw [show D + 12 + 12 = D + 24 from rfl, show D + 12 + 13 = D + 25 from rfl, show D + 12 + 14 = D + 26 from rfl, show D + 12 + 1 = D + 13 from rfl, loD hw hD 24 (by omega), loD hw hD 25 (by omega), loD hw hD 26 (by omega), loD hw hD 13 (by omega)]
theorem tFree_lo {p e : Int32} (hw : xag Slo u w) (hD : D = 6 ∨ D = 34) : tFree w (D + 12) nh p c d e = tFree u (D + 12) nh p c d e := by
  unfold tFree
  rw [show D + 12 + 7 = D + 19 from rfl, show D + 12 + 8 = D + 20 from rfl, show D + 12 + 9 = D + 21 from rfl, show D + 12 + 10 = D + 22 from rfl, show D + 12 + 11 = D + 23 from rfl, show D + 12 + 1 = D + 13 from rfl, loD hw hD 19 (by omega), loD hw hD 20 (by omega), loD hw hD 21 (by omega), loD hw hD 22 (by omega), loD hw hD 23 (by omega), loD hw hD 13 (by omega)]
theorem dStk_lo (hw : xag Slo u w) (hD : D = 6 ∨ D = 34) : dStk w D nb np nl d x y = dStk u D nb np nl d x y := by
  unfold dStk dCh
  rw [loD hw hD 5 (by omega), loD hw hD 6 (by omega), loD hw hD 2 (by omega), loD hw hD 3 (by omega), loD hw hD 8 (by omega), loD hw hD 9 (by omega), loD hw hD 7 (by omega)]
theorem assess_loop {L : List Int32} {e : Int32} {j : Nat} (hj : j < nc) (h : okD w D s nl np nb nc nr nh nk) (hD : D = 6 ∨ D = 34) (ha : 62 ≤ a) (hLn : sLn w a) (h8 : xI w a 8 = 0) (hd : xI w a 0 = d) (hg : xI w a 3 = nI j) (he : xI w a 5 = e) (hL : Pl w D L) (hl : L.length ≤ nl) : ∀ r i v, i + r = L.length →
    zr 41 33 [.ref D, .ref a, .int (nI i), v] [] (mParts (D + 12) nr nh nk w a (nI j) d e L w i) P = P none (mParts (D + 12) nr nh nk w a (nI j) d e L w L.length) := by
  intro r
  induction r with
  | zero =>
    intro i v hi
    have : i = L.length := by omega
    subst this
    have hag := mParts_ag (a := a) (u := w) (t := D + 12) (nr := nr) (nh := nh) (nk := nk) (u0 := w) (c := nI j) (d := d) (e := e) (L := L) L.length
    have hlo := hag.lo ha
    have h' := h.lo hlo hD
    obtain ⟨h0, ⟨e0, e1, e2⟩, hG, hT, -⟩ := h'.1
    have hnl := h.2.2.1
    have g8 : xI (mParts (D + 12) nr nh nk w a (nI j) d e L w L.length) (D + 1) 8 = nI L.length := by rw [loD hlo hD 1 (by omega)]; exact hL.1
    rw [r41_33]
    simp only [r41_34, r41_35, r41_38, r41_41, r41_113, h0, e0, hG.1, g8, true_and, and_true, Option.some.injEq, exists_eq_left', Option.toList_some, Option.toList_none, List.cons_append, List.nil_append, xcat_nil, xcat_int, xcat_ref, xcat_long, not_true, not_false_iff, if_true, if_false, and_self, and_false, false_and, or_true, true_or, or_self, z01, z10, zle8, Nat.reduceAdd, Nat.reduceLeDiff]
    rw [if_pos (nI_le (Nat.le_refl _) (by omega))]
  | succ r ih =>
    intro i v hi
    have hag := mParts_ag (a := a) (u := w) (t := D + 12) (nr := nr) (nh := nh) (nk := nk) (u0 := w) (c := nI j) (d := d) (e := e) (L := L) i
    have hlo := hag.lo ha
    have h' := h.lo hlo hD
    have hLn' := hag.ln hLn
    have e8 := mParts_8 (t := D + 12) (nr := nr) (nh := nh) (nk := nk) (u0 := w) (c := nI j) (d := d) (e := e) (L := L) h8 i
    have ed := (mParts_f (a := a) (u := w) (t := D + 12) (nr := nr) (nh := nh) (nk := nk) (u0 := w) (c := nI j) (d := d) (e := e) (L := L) (f := 0) (by omega) i).trans hd
    have eg := (mParts_f (a := a) (u := w) (t := D + 12) (nr := nr) (nh := nh) (nk := nk) (u0 := w) (c := nI j) (d := d) (e := e) (L := L) (f := 3) (by omega) i).trans hg
    have ee := (mParts_f (a := a) (u := w) (t := D + 12) (nr := nr) (nh := nh) (nk := nk) (u0 := w) (c := nI j) (d := d) (e := e) (L := L) (f := 5) (by omega) i).trans he
    have g8 : xI (mParts (D + 12) nr nh nk w a (nI j) d e L w i) (D + 1) 8 = nI L.length := by rw [loD hlo hD 1 (by omega)]; exact hL.1
    have gp : xI (mParts (D + 12) nr nh nk w a (nI j) d e L w i) (D + 11) i = L.getD i 0 := by rw [loD hlo hD 11 (by omega)]; exact hL.2 i (by omega)
    have hr := fun p P => rate_run (p := p) (d := d) (P := P) h' hj
    have hc := fun p P => cap_run (p := p) (P := P) h' hj
    have hf := fun p P => free_run (p := p) (d := d) (price := e) (P := P) h' hj
    have hnl := h.2.2.1
    have hA := fun p rr cc fb P => addPart_run (a := a) (n := i) (p := p) (r := rr) (c := cc) (fb := fb) (P := P) hLn' e8 (by omega)
    have tr := fun p => tRate_lo (p := p) (c := nI j) (d := d) (nr := nr) hlo hD
    have tc := fun p => tCap_lo (p := p) (c := nI j) (nk := nk) hlo hD
    have tf := fun p => tFree_lo (p := p) (c := nI j) (d := d) (e := e) (nh := nh) hlo hD
    have ih := ih (i + 1) (.int (L.getD i 0)) (by omega)
    obtain ⟨h0, ⟨e0, e1, e2⟩, hG, hT, -⟩ := h'.1
    obtain ⟨g0, ⟨-, -, -, -, g7⟩, -, -, -, -, ⟨i7, n7⟩⟩ := hG
    have i7 : xIs (mParts (D + 12) nr nh nk w a (nI j) d e L w i) (D + 11) 13 := i7
    have n7 : xN (mParts (D + 12) nr nh nk w a (nI j) d e L w i) (D + 11) = 4 := n7
    have g7 : xR (mParts (D + 12) nr nh nk w a (nI j) d e L w i) (D + 1) 7 = some (D + 11) := g7
    have q0 : ¬ nI L.length ≤ nI i := nI_ge (by omega) (by omega)
    have q1 : xinb (nI i) 4 := xinb_nI (by omega) (by omega)
    have q2 : xix (nI i) = i := xix_nI (by omega)
    rw [r41_33]
    simp only [r41_34, r41_35, r41_38, r41_41, r41_44, r41_45, r41_48, r41_51, r41_52, r41_53, r41_54, r41_55, r41_56, r41_57, r41_60, r41_61, r41_62, r41_65, r41_66, r41_69, r41_72, r41_73, r41_76, r41_77, r41_78, r41_81, r41_84, r41_85, r41_88, r41_89, r41_90, r41_93, r41_94, r41_97, r41_98, r41_101, r41_104, r41_107, r41_110, h0, e0, e1, g0, g7, i7, n7, hT.1, hLn'.1, g8, gp, ed, eg, ee, hr, hc, hf, hA, tr, tc, tf, q0, q1, q2, nI_1, true_and, and_true, Option.some.injEq, exists_eq_left', Option.toList_some, Option.toList_none, List.cons_append, List.nil_append, xcat_nil, xcat_int, xcat_ref, xcat_long, not_true, not_false_iff, if_true, if_false, and_self, and_false, false_and, or_true, true_or, or_self, z01, z10, zle8, Nat.reduceAdd, Nat.reduceLeDiff]
    exact ih
end
