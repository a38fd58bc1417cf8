/-! MOVE: the runs -/
def mvM (u : xMem) (B b nb : Nat) (dx dy : Int32) : Nat → xMem
  | 0 => u
  | i + 1 => mPut (mvM u B b nb dx dy i) B nb i (xI u (B + 4) (6 * b + i) + dx) (xI u (B + 5) (6 * b + i) + dy)
section
variable {u w g v : xMem} {P : Option Value → xMem → Prop} {D E s nl np nb nc nr nh nk n nf na f b cc B : Nat} {p d x y c dx dy z : Int32} {op : Bool}
theorem mv_at (hb : b < nb) : ∀ i, i ≤ 6 → (mvM u B b nb dx dy i).1 = u.1 ∧ (mvM u B b nb dx dy i).2.2 = u.2.2 ∧ (∀ a j, (a ≠ B + 4 ∧ a ≠ B + 5) ∨ j < 6 * nb → xI (mvM u B b nb dx dy i) a j = xI u a j) ∧ ∀ t, t < i → xI (mvM u B b nb dx dy i) (B + 4) (6 * nb + t) = xI u (B + 4) (6 * b + t) + dx ∧ xI (mvM u B b nb dx dy i) (B + 5) (6 * nb + t) = xI u (B + 5) (6 * b + t) + dy := by
  intro i
  induction i with
  | zero => intro _; exact ⟨rfl, rfl, fun _ _ _ => rfl, fun t ht => absurd ht (by omega)⟩
  | succ i ih =>
    intro hi
    obtain ⟨i1, i2, i3, i4⟩ := ih (by omega)
    have e0 : mvM u B b nb dx dy (i + 1) = xsI (xsI (mvM u B b nb dx dy i) (B + 4) (6 * nb + i) (xI u (B + 4) (6 * b + i) + dx)) (B + 5) (6 * nb + i) (xI u (B + 5) (6 * b + i) + dy) := rfl
    rw [e0]
    refine ⟨i1, i2, fun a j q => ?_, fun t ht => ?_⟩
    · rw [xI_ne (by omega), xI_ne (by omega)]
      exact i3 a j q
    · by_cases z : t = i
      · subst z
        simp (disch := omega) only [xI_ate, xI_ne, and_self]
      · simp (disch := omega) only [xI_ne]
        exact i4 t (by omega)
theorem mv_ok (h : okG u D s nl np nb nc nr nh nk) (hD : D = 6 ∨ D = 34) : ∀ i, i ≤ 6 → okG (mvM u (D + 4) b nb dx dy i) D s nl np nb nc nr nh nk := by
  intro i
  induction i with
  | zero => intro _; exact h
  | succ i ih =>
    intro hi
    exact (ih (by omega)).put hD (by omega)
theorem addMoved_run (hS : sB u B) (hn : xI u B 0 = nI nb) (hb : b < nb) (h16 : nb < 16) (hc : xI u (B + 3) b = nI cc) (h6 : cc ≤ 6) : zr 33 0 [.ref B, .int (nI b), .int d, .int dx, .int dy, .null] [] u P = P none (mAdd (mvM u B b nb dx dy cc) B nb (xI u (B + 1) b) d (nI cc)) := by
  have fact : ∀ i, i ≤ 6 → sB (mvM u B b nb dx dy i) B ∧ xI (mvM u B b nb dx dy i) B 0 = nI nb ∧ xI (mvM u B b nb dx dy i) (B + 3) b = nI cc ∧ xI (mvM u B b nb dx dy i) (B + 1) b = xI u (B + 1) b ∧ ∀ t, t < 6 → xI (mvM u B b nb dx dy i) (B + 4) (6 * b + t) = xI u (B + 4) (6 * b + t) ∧ xI (mvM u B b nb dx dy i) (B + 5) (6 * b + t) = xI u (B + 5) (6 * b + t) := fun i hi => by
    obtain ⟨i1, i2, i3, i4⟩ := mv_at (u := u) (B := B) (dx := dx) (dy := dy) hb i hi
    refine ⟨?_, (i3 _ _ (by omega)).trans hn, (i3 _ _ (by omega)).trans hc, i3 _ _ (by omega), fun t ht => ⟨i3 _ _ (by omega), i3 _ _ (by omega)⟩⟩
    rw [shp i1 (congrArg (fun q => q.2) i2)]
    exact hS
  have lp : ∀ r i, i + r = cc → zr 33 3 [.ref B, .int (nI b), .int d, .int dx, .int dy, .int (nI i)] [] (mvM u B b nb dx dy i) P = P none (mAdd (mvM u B b nb dx dy cc) B nb (xI u (B + 1) b) d (nI cc)) := by
    intro r
    induction r with
    | zero =>
      intro i hi
      have : i = cc := by omega
      subst this
      obtain ⟨f1, f2, f3, f4, -⟩ := fact i (by omega)
      have ba := fun p P => badd_run (p := p) (d := d) (m := nI i) (P := P) f1 f2 h16
      obtain ⟨i0, ⟨e1, e2, e3, e4, e5⟩, ⟨i1, n1⟩, ⟨i2, n2⟩, ⟨i3, n3⟩, -⟩ := f1
      rw [r33_3]
      simp (disch := omega) only [r33_5, r33_6, r33_9, r33_10, r33_11, r33_55, r33_56, r33_57, r33_60, r33_61, r33_62, r33_63, r33_64, r33_67, r33_68, r33_69, r33_72, i0, e1, e3, i1, n1, i3, n3, f3, f4, ba, xinbT, xixT, leT, leF, ltT, ltF, ngF, psT, n1F, n2F, km2, km3, km4, km5, km10, km15, km25, kl8, kl14, kl24, kl34, kl274, kl354, kl384, kr1, kr2, kr3, kr4, kr5, kr6, kr7, kr8, kr9, kaa, lb0, lb1, lb2, lb3, lb4, lb5, lb6, lb7, li0, li1, li2, li3, li4, li5, li6, li7, true_and, and_true, Option.some.injEq, exists_eq_left', Option.toList_some, Option.toList_none, List.cons_append, List.nil_append, xcat_nil, xcat_int, xcat_ref, xcat_long, not_true, not_false_iff, if_true, if_false, and_self, and_false, false_and, or_true, true_or, or_self, z01, z10, zle8, Nat.reduceAdd, Nat.reduceLeDiff]
    | succ r ih =>
      intro i hi
      have ih := ih (i + 1) (by omega)
      obtain ⟨f1, f2, f3, f4, f5⟩ := fact i (by omega)
      have f5 := f5 i (by omega)
      have pc := fun x y P => putCorner_run (x := x) (y := y) (P := P) f1 f2 h16 (i := i) (by omega)
      obtain ⟨i0, ⟨e1, e2, e3, e4, e5⟩, ⟨i1, n1⟩, ⟨i2, n2⟩, ⟨i3, n3⟩, ⟨i4, n4⟩, ⟨i5, n5⟩⟩ := f1
      rw [r33_3]
      simp (disch := omega) only [r33_5, r33_6, r33_9, r33_10, r33_11, r33_14, r33_15, r33_17, r33_18, r33_21, r33_22, r33_24, r33_25, r33_27, r33_28, r33_29, r33_30, r33_31, r33_32, r33_35, r33_36, r33_38, r33_39, r33_41, r33_42, r33_43, r33_45, r33_46, r33_49, r33_52, i0, e3, e4, e5, i3, n3, i4, n4, i5, n5, f3, f5.1, f5.2, m6, pc, xinbT, xixT, leT, leF, ltT, ltF, ngF, psT, n1F, n2F, km2, km3, km4, km5, km10, km15, km25, kl8, kl14, kl24, kl34, kl274, kl354, kl384, kr1, kr2, kr3, kr4, kr5, kr6, kr7, kr8, kr9, kaa, lb0, lb1, lb2, lb3, lb4, lb5, lb6, lb7, li0, li1, li2, li3, li4, li5, li6, li7, true_and, and_true, Option.some.injEq, exists_eq_left', Option.toList_some, Option.toList_none, List.cons_append, List.nil_append, xcat_nil, xcat_int, xcat_ref, xcat_long, not_true, not_false_iff, if_true, if_false, and_self, and_false, false_and, or_true, true_or, or_self, z01, z10, zle8, Nat.reduceAdd, Nat.reduceLeDiff]
      exact ih
  have l0 := lp cc 0 (by omega)
  simp only [r33_0, r33_1]
  exact l0
theorem canMove_run (hx : Mx u g D s nl np nb nc nr nh nk) (hb : b < nb) (hc : xI g (D + 7) b = nI cc) (h6 : cc ≤ 6) : zr 292 0 [.ref 278, .int (nI b), .int dx, .int dy, .null] [] u P = P (some (.int (bI (fSt (xI g (D + 8)) (xI g (D + 9)) dx dy (nI s) cc (6 * b))))) u := by
  have hB := hx.2.1.1.b
  obtain ⟨h0, r3, j0, k0, -⟩ := hx.cf
  have z2 := (hx.2.2.bo hb).2.2
  rw [hc] at z2
  have lp : ∀ r i, i + r = cc → zr 292 3 [.ref 278, .int (nI b), .int dx, .int dy, .int (nI i)] [] u P = P (some (.int (bI (fSt (xI g (D + 8)) (xI g (D + 9)) dx dy (nI s) r (6 * b + i))))) u := by
    intro r
    induction r with
    | zero =>
      intro i hi
      have : i = cc := by omega
      subst this
      rw [r292_3]
      simp (disch := omega) only [r292_5, r292_6, r292_9, r292_10, r292_13, r292_14, r292_15, r292_16, r292_52, r292_53, boundAt_run, h0, r3, j0, k0, z2, fSt, bI_t, or_true, xinbT, xixT, leT, leF, ltT, ltF, ngF, psT, n1F, n2F, km2, km3, km4, km5, km10, km15, km25, kl8, kl14, kl24, kl34, kl274, kl354, kl384, kr1, kr2, kr3, kr4, kr5, kr6, kr7, kr8, kr9, kaa, lb0, lb1, lb2, lb3, lb4, lb5, lb6, lb7, li0, li1, li2, li3, li4, li5, li6, li7, true_and, and_true, Option.some.injEq, exists_eq_left', Option.toList_some, Option.toList_none, List.cons_append, List.nil_append, xcat_nil, xcat_int, xcat_ref, xcat_long, not_true, not_false_iff, if_true, if_false, and_self, and_false, false_and, or_true, true_or, or_self, z01, z10, zle8, Nat.reduceAdd, Nat.reduceLeDiff]
    | succ r ih =>
      intro i hi
      have ih := ih (i + 1) (by omega)
      rw [show 6 * b + (i + 1) = 6 * b + i + 1 by omega] at ih
      have x1 := fun P => xOf_run (P := P) hx.1 hx.2.2 (b := b) (i := i) hb (by omega) (by rw [hc, xix_nI (by omega)]; omega) (by omega)
      have y1 := fun P => yOf_run (P := P) hx.1 hx.2.2 (b := b) (i := i) hb (by omega) (by rw [hc, xix_nI (by omega)]; omega) (by omega)
      rw [r292_3]
      simp (disch := omega) only [r292_5, r292_6, r292_9, r292_10, r292_13, r292_14, r292_15, r292_16, r292_19, r292_20, r292_21, r292_22, r292_24, r292_27, r292_28, r292_29, r292_30, r292_31, r292_33, r292_36, r292_37, r292_38, r292_41, r292_44, r292_45, r292_46, r292_49, boundAt_run, h0, r3, j0, k0, z2, x1, y1, isPointM_run hx.md, fSt, bI_0, xinbT, xixT, leT, leF, ltT, ltF, ngF, psT, n1F, n2F, km2, km3, km4, km5, km10, km15, km25, kl8, kl14, kl24, kl34, kl274, kl354, kl384, kr1, kr2, kr3, kr4, kr5, kr6, kr7, kr8, kr9, kaa, lb0, lb1, lb2, lb3, lb4, lb5, lb6, lb7, li0, li1, li2, li3, li4, li5, li6, li7, true_and, and_true, Option.some.injEq, exists_eq_left', Option.toList_some, Option.toList_none, List.cons_append, List.nil_append, xcat_nil, xcat_int, xcat_ref, xcat_long, not_true, not_false_iff, if_true, if_false, and_self, and_false, false_and, or_true, true_or, or_self, z01, z10, zle8, Nat.reduceAdd, Nat.reduceLeDiff]
      cases decide (0 ≤ xI g (D + 8) (6 * b + i) + dx ∧ xI g (D + 8) (6 * b + i) + dx ≤ nI s) && decide (0 ≤ xI g (D + 9) (6 * b + i) + dy ∧ xI g (D + 9) (6 * b + i) + dy ≤ nI s)
      · simp only [Bool.false_and, bI_f, true_and, and_true, Option.some.injEq, exists_eq_left', Option.toList_some, Option.toList_none, List.cons_append, List.nil_append, xcat_nil, xcat_int, xcat_ref, xcat_long, not_true, not_false_iff, if_true, if_false, and_self, and_false, false_and, or_true, true_or, or_self, z01, z10, zle8, Nat.reduceAdd, Nat.reduceLeDiff]
      · simp only [Bool.true_and, Bool.true_eq_false, true_and, and_true, Option.some.injEq, exists_eq_left', Option.toList_some, Option.toList_none, List.cons_append, List.nil_append, xcat_nil, xcat_int, xcat_ref, xcat_long, not_true, not_false_iff, if_true, if_false, and_self, and_false, false_and, or_true, true_or, or_self, z01, z10, zle8, Nat.reduceAdd, Nat.reduceLeDiff]
        exact ih
  simp only [r292_0, r292_1]
  exact lp cc 0 (by omega)
theorem latestBound9 (hx : Mx u g D s nl np nb nc nr nh nk) : zr 200 0 [.ref 279, .int p, .null] [] u P = P (some (.int (fLat (xI g (D + 5)) (xI g (D + 6)) p 999 nb))) u := by
  have hb := hx.2.1.1.b
  obtain ⟨e0, e1, e2, e3, e4, e5, -⟩ := hx.2.1.1.e hx.2.2
  refine latestBound_run hx.1.2.2.1 e4 hb.2.2.2.1 (fun k hk => ?_)
  obtain ⟨z1, -⟩ := hx.2.2.bo hk
  obtain ⟨a, ha, e⟩ := hx.2.1.2.2.2.2.2.1 k hk
  exact ⟨z1, by rw [e]; exact le999 ha⟩
theorem fNf_n (hG : okG g D s nl np nb nc nr nh nk) : (fLat (xI g (D + 5)) (xI g (D + 6)) p 999 nb = -1 ∧ fNf (xI g (D + 5)) (xI g (D + 6)) p nb = 0) ∨ ∃ k a cc, k < nb ∧ a ≤ 999 ∧ cc ≤ 6 ∧ fLat (xI g (D + 5)) (xI g (D + 6)) p 999 nb = nI k ∧ xI g (D + 6) k = nI a ∧ xI g (D + 7) k = nI cc ∧ xI g (D + 5) k = p ∧ fNf (xI g (D + 5)) (xI g (D + 6)) p nb = nI (a + 1) := by
  have hb := hG.1.b
  unfold fNf
  rcases fLat_cases (xI g (D + 5)) (xI g (D + 6)) p 999 nb with q | ⟨k, hk, q, own, -⟩
  · exact Or.inl ⟨q, by rw [q, if_neg (by decide)]⟩
  · obtain ⟨a, ha, e⟩ := hG.2.2.2.2.2.1 k hk
    obtain ⟨cc, hcc, ec⟩ := hG.1.2.2.2.2.2.2.2.2.2.2 k hk
    exact Or.inr ⟨k, a, cc, hk, ha, hcc, q, e, ec, own, by rw [q, if_pos (nI_pos' (by omega)), xix_nI (by omega), e, nI_1]⟩
/-- a desk told by a row with more behind it -/
theorem cpD.far {M M' : Nat → Int32} (h : cpD M g E np nb nc nr nh nk) (hG : okG g E s nl np nb nc nr nh nk) (hM : ∀ i, ¬ (34 + 15 * nb ≤ i ∧ i < 274) → M' i = M i) : cpD M' g E np nb nc nr nh nk := by
  have hb := hG.1.b
  obtain ⟨⟨a0, a1, a2, a3, a4, a5, a6, a7⟩, b1, b2, b3, b4, b5, b6⟩ := h
  refine ⟨⟨(hM _ (by omega)).trans a0, (hM _ (by omega)).trans a1, (hM _ (by omega)).trans a2, (hM _ (by omega)).trans a3, (hM _ (by omega)).trans a4, (hM _ (by omega)).trans a5, (hM _ (by omega)).trans a6, (hM _ (by omega)).trans a7⟩, fun c hc => (hM _ (by omega)).trans (b1 c hc), fun p hp => ⟨(hM _ (by omega)).trans (b2 p hp).1, (hM _ (by omega)).trans (b2 p hp).2⟩, fun b hb' => ?_, fun r hr => ?_, fun q hq => ?_, fun q hq => ?_⟩
  · obtain ⟨c1, c2, c3, c4⟩ := b3 b hb'
    obtain ⟨cc, hcc, ec⟩ := hG.1.2.2.2.2.2.2.2.2.2.2 b hb'
    refine ⟨(hM _ (by omega)).trans c1, (hM _ (by omega)).trans c2, (hM _ (by omega)).trans c3, fun i hi => ?_⟩
    have z := c4 i hi
    rw [ec, xix_nI (by omega)] at hi
    exact ⟨(hM _ (by omega)).trans z.1, (hM _ (by omega)).trans z.2⟩
  · obtain ⟨c1, c2, c3, c4⟩ := b4 r hr
    exact ⟨(hM _ (by omega)).trans c1, (hM _ (by omega)).trans c2, (hM _ (by omega)).trans c3, (hM _ (by omega)).trans c4⟩
  · obtain ⟨c1, c2, c3, c4, c5⟩ := b5 q hq
    exact ⟨(hM _ (by omega)).trans c1, (hM _ (by omega)).trans c2, (hM _ (by omega)).trans c3, (hM _ (by omega)).trans c4, (hM _ (by omega)).trans c5⟩
  · obtain ⟨c1, c2, c3⟩ := b6 q hq
    exact ⟨(hM _ (by omega)).trans c1, (hM _ (by omega)).trans c2, (hM _ (by omega)).trans c3⟩
/-- .. in a class whose corners have more behind them -/
theorem cpD.fag {M : Nat → Int32} (h : cpD M g E np nb nc nr nh nk) (hG : okG g E s nl np nb nc nr nh nk) (hf : ∀ c j, (c ≠ E + 8 ∧ c ≠ E + 9) ∨ j < 6 * nb → xI w c j = xI g c j) : cpD M w E np nb nc nr nh nk := by
  have hb := hG.1.b
  obtain ⟨⟨a0, a1, a2, a3, a4, a5, a6, a7⟩, b1, b2, b3, b4, b5, b6⟩ := h
  have f : ∀ c, c ≠ E + 8 → c ≠ E + 9 → xI w c = xI g c := fun c q1 q2 => funext fun j => hf c j (Or.inl ⟨q1, q2⟩)
  unfold cpD
  rw [f (E + 1) (by omega) (by omega), f (E + 2) (by omega) (by omega), f (E + 3) (by omega) (by omega), f (E + 4) (by omega) (by omega), f (E + 5) (by omega) (by omega), f (E + 6) (by omega) (by omega), f (E + 7) (by omega) (by omega), f (E + 12) (by omega) (by omega), f (E + 13) (by omega) (by omega), f (E + 14) (by omega) (by omega), f (E + 15) (by omega) (by omega), f (E + 16) (by omega) (by omega), f (E + 17) (by omega) (by omega), f (E + 18) (by omega) (by omega), f (E + 19) (by omega) (by omega), f (E + 20) (by omega) (by omega), f (E + 21) (by omega) (by omega), f (E + 22) (by omega) (by omega), f (E + 23) (by omega) (by omega), f (E + 24) (by omega) (by omega), f (E + 25) (by omega) (by omega), f (E + 26) (by omega) (by omega)]
  refine ⟨⟨a0, a1, a2, a3, a4, a5, a6, a7⟩, b1, b2, fun b hb' => ?_, b4, b5, b6⟩
  obtain ⟨c1, c2, c3, c4⟩ := b3 b hb'
  obtain ⟨cc, hcc, ec⟩ := hG.1.2.2.2.2.2.2.2.2.2.2 b hb'
  refine ⟨c1, c2, c3, fun i hi => ?_⟩
  have z := c4 i hi
  rw [ec, xix_nI (by omega)] at hi
  rw [hf (E + 8) (6 * b + i) (by omega), hf (E + 9) (6 * b + i) (by omega)]
  exact z
/-- the model's row while it lays a moved bound -/
def Rw (W w : xMem) (nb i : Nat) (p d m : Int32) (X Y : Nat → Int32) : Prop := w.1 = W.1 ∧ w.2.2 = W.2.2 ∧ (∀ b j, b ≠ 279 → xI w b j = xI W b j) ∧ (∀ j, ¬ (34 + 15 * nb ≤ j ∧ j < 274) → xI w 279 j = xI W 279 j) ∧ xI w 279 (34 + 15 * nb) = p ∧ xI w 279 (34 + 15 * nb + 1) = d ∧ xI w 279 (34 + 15 * nb + 2) = m ∧ ∀ t, t < i → xI w 279 (37 + 15 * nb + 2 * t) = X t ∧ xI w 279 (38 + 15 * nb + 2 * t) = Y t
theorem moveM_loop {k5 : Int32} {W : xMem} (hx : Mx W g D s nl np nb nc nr nh nk) (hb : b < nb) (h16 : nb < 16) (hc : xI g (D + 7) b = nI cc) (h6 : cc ≤ 6)
    (hP : ∀ V, Rw W V nb cc p d (nI cc) (fun t => xI g (D + 8) (6 * b + t) + dx) (fun t => xI g (D + 9) (6 * b + t) + dy) → zr 293 271 [.ref 278, .int p, .int d, .int dx, .int dy, .int k5, .int (nI b), .int (nI (34 + 15 * nb)), .int (nI cc), .int (nI cc)] [] V P) :
    ∀ r i w, i + r = cc → Rw W w nb i p d (nI cc) (fun t => xI g (D + 8) (6 * b + t) + dx) (fun t => xI g (D + 9) (6 * b + t) + dy) → zr 293 209 [.ref 278, .int p, .int d, .int dx, .int dy, .int k5, .int (nI b), .int (nI (34 + 15 * nb)), .int (nI cc), .int (nI i)] [] w P := by
  intro r
  induction r with
  | zero =>
    intro i w hi hw
    have : i = cc := by omega
    subst this
    rw [r293_209]
    simp (disch := omega) only [r293_211, r293_213, xinbT, xixT, leT, leF, ltT, ltF, ngF, psT, n1F, n2F, km2, km3, km4, km5, km10, km15, km25, kl8, kl14, kl24, kl34, kl274, kl354, kl384, kr1, kr2, kr3, kr4, kr5, kr6, kr7, kr8, kr9, kaa, lb0, lb1, lb2, lb3, lb4, lb5, lb6, lb7, li0, li1, li2, li3, li4, li5, li6, li7, true_and, and_true, Option.some.injEq, exists_eq_left', Option.toList_some, Option.toList_none, List.cons_append, List.nil_append, xcat_nil, xcat_int, xcat_ref, xcat_long, not_true, not_false_iff, if_true, if_false, and_self, and_false, false_and, or_true, true_or, or_self, z01, z10, zle8, Nat.reduceAdd, Nat.reduceLeDiff]
    exact hP w hw
  | succ r ih =>
    intro i w hi hw
    have ih := fun w => ih (i + 1) w (by omega)
    have mx : ∀ w, Rw W w nb i p d (nI cc) (fun t => xI g (D + 8) (6 * b + t) + dx) (fun t => xI g (D + 9) (6 * b + t) + dy) → Mx w g D s nl np nb nc nr nh nk := fun w hw => ⟨by rw [shp hw.1 (congrArg (fun q => q.2) hw.2.1)]; exact hx.1, hx.2.1, hx.2.2.far hx.2.1 hw.2.2.2.1⟩
    have hw1 : Rw W (xsI w 279 (34 + 15 * nb + 3 + 2 * i) (xI g (D + 8) (6 * b + i) + dx)) nb i p d (nI cc) (fun t => xI g (D + 8) (6 * b + t) + dx) (fun t => xI g (D + 9) (6 * b + t) + dy) := by
      obtain ⟨w1, w2, w3, w4, w5, w6, w7, w8⟩ := hw
      refine ⟨w1, w2, fun b j q => ?_, fun j q => ?_, ?_, ?_, ?_, fun t ht => ?_⟩
      · rw [xI_ne (by omega)]; exact w3 b j q
      · rw [xI_ne (by omega)]; exact w4 j q
      · rw [xI_ne (by omega)]; exact w5
      · rw [xI_ne (by omega)]; exact w6
      · rw [xI_ne (by omega)]; exact w7
      · rw [xI_ne (by omega), xI_ne (by omega)]; exact w8 t ht
    have m0 := mx w hw
    have m1 := mx _ hw1
    obtain ⟨h0, r3, j0, k0, -⟩ := m0.cf
    have x1 := fun P => xOf_run (P := P) m0.1 m0.2.2 (b := b) (i := i) hb (by omega) (by rw [hc, xix_nI (by omega)]; omega) (by omega)
    have y1 := fun P => yOf_run (P := P) m1.1 m1.2.2 (b := b) (i := i) hb (by omega) (by rw [hc, xix_nI (by omega)]; omega) (by omega)
    rw [r293_209]
    simp (disch := omega) only [r293_211, r293_213, r293_216, r293_217, r293_220, r293_222, r293_223, r293_224, r293_225, r293_227, r293_228, r293_229, r293_230, r293_232, r293_234, r293_237, r293_238, r293_239, r293_240, r293_241, r293_244, r293_246, r293_247, r293_248, r293_249, r293_251, r293_252, r293_253, r293_254, r293_256, r293_258, r293_261, r293_263, r293_264, r293_265, r293_268, h0, r3, j0, k0, x1, y1, xIs_sI, xR_sI, xN_sI, xinbT, xixT, leT, leF, ltT, ltF, ngF, psT, n1F, n2F, km2, km3, km4, km5, km10, km15, km25, kl8, kl14, kl24, kl34, kl274, kl354, kl384, kr1, kr2, kr3, kr4, kr5, kr6, kr7, kr8, kr9, kaa, lb0, lb1, lb2, lb3, lb4, lb5, lb6, lb7, li0, li1, li2, li3, li4, li5, li6, li7, true_and, and_true, Option.some.injEq, exists_eq_left', Option.toList_some, Option.toList_none, List.cons_append, List.nil_append, xcat_nil, xcat_int, xcat_ref, xcat_long, not_true, not_false_iff, if_true, if_false, and_self, and_false, false_and, or_true, true_or, or_self, z01, z10, zle8, Nat.reduceAdd, Nat.reduceLeDiff]
    refine ih _ ?_
    obtain ⟨w1, w2, w3, w4, w5, w6, w7, w8⟩ := hw1
    refine ⟨w1, w2, fun b j q => ?_, fun j q => ?_, ?_, ?_, ?_, fun t ht => ?_⟩
    · rw [xI_ne (by omega)]; exact w3 b j q
    · rw [xI_ne (by omega)]; exact w4 j q
    · rw [xI_ne (by omega)]; exact w5
    · rw [xI_ne (by omega)]; exact w6
    · rw [xI_ne (by omega)]; exact w7
    · by_cases z : t = i
      · subst z
        simp (disch := omega) only [xI_ate, xI_ne, and_self]
      · have z8 := w8 t (by omega)
        refine ⟨?_, ?_⟩
        · rw [xI_ne (by omega)]; exact z8.1
        · rw [xI_ne (by omega)]; exact z8.2
end
