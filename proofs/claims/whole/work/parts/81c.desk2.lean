/-! DESK: both sides -/
section
variable {u w v g G m : xMem} {P : Option Value → xMem → Prop} {D E k s nl np nb nc nr nh nk n nf na f : Nat} {x : Int32} {op : Bool}
/-- the class about to read: its tape from the beginning -/
def Rb (G : xMem) (E k : Nat) : Prop := sRd G E ∧ Tp G k 0 ∧ sDk G E ∧ (E = 6 ∨ E = 34) ∧ xI G 1 4 = 0 ∧ Rg (xI G 3)
theorem nxt_at : nxt (xsI G 2 3 0) = nxt G := by
  refine xm_ext rfl (fun c j => ?_) (fun c j => rfl) rfl
  have e2 : xI (xsI G 2 3 0) 2 2 = xI G 2 2 := xI_ne (by omega)
  have e4 : xI (xsI G 2 3 0) 2 4 = xI G 2 4 := xI_ne (by omega)
  have e3 : xI (xsI G 2 3 0) 3 = xI G 3 := xIf_sI (by omega)
  have e7 : xI (xsI G 2 3 0) 2 7 = xI G 2 7 := xI_ne (by omega)
  have e6 : xJ (xsI G 2 3 0) 2 6 = xJ G 2 6 := rfl
  unfold nxt mStep mTk
  rw [e2, e4, e3, e7, e6]
  simp only [xI_sI, xI_sJ]
  by_cases z : c = 2 ∧ j = 3
  · simp only [z, and_self, if_true]
  · simp only [z, if_false]
theorem Rb.tq (h : Rb G E k) : ∃ a b, Tq (nxt G) k a b := by
  obtain ⟨-, ⟨t1, t2, t3, t4, t5⟩, -⟩ := h
  have e : nxt G = mStep G k 0 := by
    unfold nxt
    rw [t2, t4, xix_nI (by omega), xix_nI (by omega)]
  rw [e]
  exact ⟨_, _, t1, t2, t3, rfl, (tN_b t5).2, rfl, (tN_b t5).1⟩
theorem Rb.sy (h : Rb G E k) (hM : sMd w) (h10 : xI w 278 10 = nI k) (h283 : xI w 283 = xI G 3) : Sy (xsI G 2 3 0) w E := by
  obtain ⟨h1, ⟨t1, t2, t3, t4, t5⟩, h3, h4, h5, h6⟩ := h
  have e2 : xI (xsI G 2 3 0) 2 2 = xI G 2 2 := xI_ne (by omega)
  have e4 : xI (xsI G 2 3 0) 2 4 = xI G 2 4 := xI_ne (by omega)
  have e3 : xI (xsI G 2 3 0) 3 = xI G 3 := xIf_sI (by omega)
  refine ⟨hM, ⟨h1, k, 0, 0, t1, e2.trans t2, t3, e4.trans t4, t5, xI_at, Nat.le_refl 0⟩, ?_, ?_, ?_⟩
  · rw [h10, e2, t2]
  · rw [h283, e3]
  · rw [e3]; exact h6
theorem Rb.next (h : Rb G E k) (hM : sMd w) (h10 : xI w 278 10 = nI k) (h283 : xI w 283 = xI G 3) (h15 : xI w 278 15 = 0) (h11 : xI w 278 11 = 0) (hz : ∀ i, i < 402 → xI w 280 i = 0) (hP : ∀ v, Nx w v → Bt (nxt G) v E → P none v) : zr 177 0 [.ref 278, .null] [] w P := by
  have hs := h.sy hM h10 h283
  refine next_rel hs h15 ?_ (fun v hn hv => ?_)
  · rw [h11, xI_ne (by omega), h.2.1.2.2.2.1]
    rfl
  · rw [nxt_at] at hv
    refine hP v hn ⟨hv, kp_nxt.dk h.2.2.1, h.2.2.2.1, Or.inl ⟨(kp_nxt.2.2.2.2.1 4 (by omega) (by omega)).trans h.2.2.2.2.1, fun i hi => ?_⟩⟩
    rw [hn.ny.f (by omega)]
    exact hz i hi
theorem Fm.fill {F : Nat → Int32} : Fm w (xfill w 280 n F) := ⟨rfl, rfl, fun c j q _ => by rw [xI_fill, if_neg (fun z => q z.1)], fun _ _ _ _ _ => rfl⟩
theorem readAllM (h : Rb G E k) (hM : sMd w) (h10 : xI w 278 10 = nI k) (h283 : xI w 283 = xI G 3) (h15 : xI w 278 15 = 0) (h11 : xI w 278 11 = 0) (hK : Rd2 (cReads E 1201 (nxt G)) w E P) : zr 193 0 [.ref 278, .null] [] w P := by
  have lp : ∀ r i, i + r = 402 → zr 193 2 [.ref 278, .int (nI i)] [] (xfill w 280 i (fun _ => 0)) P := by
    intro r
    induction r with
    | zero =>
      intro i hi
      have : i = 402 := by omega
      subst this
      have hM2 : sMd (xfill w 280 402 (fun _ => 0)) := hM
      rw [r193_2]
      simp (disch := omega) only [r193_3, r193_6, r193_22, r193_23, hM2.1, show (402 : Int32) ≤ nI 402 by decide, true_and, and_true, Option.some.injEq, exists_eq_left', Option.toList_some, Option.toList_none, List.cons_append, List.nil_append, xcat_nil, xcat_int, xcat_ref, xcat_long, not_true, not_false_iff, if_true, if_false, and_self, and_false, false_and, or_true, true_or, or_self, z01, z10, zle8, Nat.reduceAdd, Nat.reduceLeDiff]
      have f : ∀ b, b ≠ 280 → xI (xfill w 280 402 (fun _ => 0)) b = xI w b := fun b hb => xIf_fill hb
      refine h.next hM2 (by rw [f 278 (by omega)]; exact h10) (by rw [f 283 (by omega)]; exact h283) (by rw [f 278 (by omega)]; exact h15) (by rw [f 278 (by omega)]; exact h11) (fun i hi => by rw [xI_fill, if_pos ⟨rfl, hi⟩]) (fun v hn hB => ?_)
      obtain ⟨a, b, q⟩ := h.tq
      obtain ⟨-, iB, -⟩ := reads_all (xn := 0) 1201 0 (nxt G) v (by omega) hB ⟨k, a, b, q, by omega⟩ (by unfold nxt; exact k3_step)
      simp only [r193_26, r193_27, hB.1.1.1.1, true_and, and_true, Option.some.injEq, exists_eq_left', Option.toList_some, Option.toList_none, List.cons_append, List.nil_append, xcat_nil, xcat_int, xcat_ref, xcat_long, not_true, not_false_iff, if_true, if_false, and_self, and_false, false_and, or_true, true_or, or_self, z01, z10, zle8, Nat.reduceAdd, Nat.reduceLeDiff]
      refine iB P _ ⟨fun z v3 s nl np nb nc nr nh nk a1 a2 a3 a4 => hK.1 z v3 s nl np nb nc nr nh nk (Fm.fill.tr (hn.fm.tr a1)) a2 a3 a4, fun z v3 a1 a2 => hK.2 z v3 (Fm.fill.tr (hn.fm.tr a1)) a2⟩
    | succ r ih =>
      intro i hi
      have ih := ih (i + 1) (by omega)
      obtain ⟨h0, r4, -, -, j0, k0, -⟩ := (show sMd (xfill w 280 i (fun _ => 0)) from hM).cf
      have q : ¬ (402 : Int32) ≤ nI i := nI_ge (a := i) (b := 402) (by omega) (by omega)
      rw [r193_2]
      simp (disch := omega) only [r193_3, r193_6, r193_9, r193_10, r193_13, r193_14, r193_15, r193_16, r193_19, h0, r4, j0, k0, q, xfill_s, xinbT, xixT, leT, leF, ltT, ltF, ngF, psT, n1F, n2F, km2, km3, km4, km5, km10, km15, km25, kl8, kl14, kl24, kl34, kl274, kl354, kl384, kr1, kr2, kr3, kr4, kr5, kr6, kr7, kr8, kr9, kaa, lb0, lb1, lb2, lb3, lb4, lb5, lb6, lb7, li0, li1, li2, li3, li4, li5, li6, li7, true_and, and_true, Option.some.injEq, exists_eq_left', Option.toList_some, Option.toList_none, List.cons_append, List.nil_append, xcat_nil, xcat_int, xcat_ref, xcat_long, not_true, not_false_iff, if_true, if_false, and_self, and_false, false_and, or_true, true_or, or_self, z01, z10, zle8, Nat.reduceAdd, Nat.reduceLeDiff]
      exact ih
  have l0 := lp 402 0 (by omega)
  rw [xfill_0] at l0
  simp only [r193_0, r193_1]
  exact l0
/-- the class reads -/
theorem readsC (h : Rb (xsI (xsI (xsI (xsI u 1 5 0) 1 4 0) 2 2 (nI k)) 2 4 0) E k) (hM : sMd u) (h283 : xI u 283 = xI u 3) : zr 67 0 [.ref 1, .int (nI k), .null] [] u P = P (some (.int (bI (cReads E 1201 (nxt (xsI (xsI (xsI (xsI u 1 5 0) 1 4 0) 2 2 (nI k)) 2 4 0))).1))) (cReads E 1201 (nxt (xsI (xsI (xsI (xsI u 1 5 0) 1 4 0) 2 2 (nI k)) 2 4 0))).2 ∧ Fc (nxt (xsI (xsI (xsI (xsI u 1 5 0) 1 4 0) 2 2 (nI k)) 2 4 0)) (cReads E 1201 (nxt (xsI (xsI (xsI (xsI u 1 5 0) 1 4 0) 2 2 (nI k)) 2 4 0))).2 E := by
  obtain ⟨a, b, q⟩ := h.tq
  have hex : ∃ v, Bt (nxt (xsI (xsI (xsI (xsI u 1 5 0) 1 4 0) 2 2 (nI k)) 2 4 0)) v E := by
    have hz : zr 177 0 [.ref 278, .null] [] (xfill (xsI (xsI (xsI u 278 10 (nI k)) 278 11 0) 278 15 0) 280 402 (fun _ => 0)) (fun _ v => Bt (nxt (xsI (xsI (xsI (xsI u 1 5 0) 1 4 0) 2 2 (nI k)) 2 4 0)) v E) := by
      have f : ∀ b, b ≠ 280 → xI (xfill (xsI (xsI (xsI u 278 10 (nI k)) 278 11 0) 278 15 0) 280 402 (fun _ => 0)) b = xI (xsI (xsI (xsI u 278 10 (nI k)) 278 11 0) 278 15 0) b := fun b hb => xIf_fill hb
      refine h.next hM ?_ ?_ ?_ ?_ (fun i hi => by rw [xI_fill, if_pos ⟨rfl, hi⟩]) (fun v _ hB => hB)
      · rw [f 278 (by omega), xI_ne (by omega), xI_ne (by omega), xI_at]
      · rw [f 283 (by omega), xIf_sI (by omega), xIf_sI (by omega), xIf_sI (by omega), xIf_sI (by omega), xIf_sI (by omega), xIf_sI (by omega), xIf_sI (by omega)]
        exact h283
      · rw [f 278 (by omega), xI_at]
      · rw [f 278 (by omega), xI_ne (by omega), xI_at]
    obtain ⟨_, _, v, _, hv⟩ := hz
    exact ⟨v, hv⟩
  obtain ⟨v, hB⟩ := hex
  obtain ⟨iA, -, iC⟩ := reads_all (xn := nI k) 1201 0 (nxt (xsI (xsI (xsI (xsI u 1 5 0) 1 4 0) 2 2 (nI k)) 2 4 0)) v (by omega) hB ⟨k, a, b, q, by omega⟩ (by unfold nxt; exact k3_step)
  refine ⟨?_, iC⟩
  obtain ⟨h1, tp, -⟩ := h
  have i1 : xIs u 1 7 := h1.1
  have i2 : xIs u 2 8 := tp.1.1
  have r0 : xR u 1 0 = some 2 := h1.2.1.1
  have en : nxt (xsI (xsI (xsI (xsI u 1 5 0) 1 4 0) 2 2 (nI k)) 2 4 0) = mStep (xsI (xsI (xsI (xsI u 1 5 0) 1 4 0) 2 2 (nI k)) 2 4 0) k 0 := by
    unfold nxt
    rw [tp.2.1, tp.2.2.2.1, xix_nI (by have := tp.2.2.1; omega), xix_nI (by omega)]
  have st := fun P => step_run (P := P) tp
  rw [← en] at st
  have iA0 := iA P
  simp only [show nI 0 = 0 from rfl] at iA0
  simp (disch := omega) only [r67_0, r67_1, r67_2, r67_5, r67_6, r67_7, r67_10, r67_11, r67_14, r67_15, r67_18, r67_19, r88_0, r88_1, r88_2, r88_5, r88_6, r88_7, r88_10, r88_11, r88_14, xIs_sI, xR_sI, i1, i2, r0, st, iA0, true_or, true_and, and_true, Option.some.injEq, exists_eq_left', Option.toList_some, Option.toList_none, List.cons_append, List.nil_append, xcat_nil, xcat_int, xcat_ref, xcat_long, not_true, not_false_iff, if_true, if_false, and_self, and_false, false_and, or_true, true_or, or_self, z01, z10, zle8, Nat.reduceAdd, Nat.reduceLeDiff]
/-- the model's desk, told by another row -/
theorem cpD.cg {M M' : Nat → Int32} (h : cpD M g E np nb nc nr nh nk) (hG : okG g E s nl np nb nc nr nh nk) (hM : ∀ i, i < 402 → M' i = M i) : cpD M' g E np nb nc nr nh nk := by
  have hb := hG.1.b
  obtain ⟨⟨a0, a1, a2, a3, a4, a5, a6, a7⟩, b1, b2, b3, b4, b5, b6⟩ := h
  refine ⟨⟨(hM _ (by omega)).trans a0, (hM _ (by omega)).trans a1, (hM _ (by omega)).trans a2, (hM _ (by omega)).trans a3, (hM _ (by omega)).trans a4, (hM _ (by omega)).trans a5, (hM _ (by omega)).trans a6, (hM _ (by omega)).trans a7⟩, fun c hc => (hM _ (by omega)).trans (b1 c hc), fun p hp => ⟨(hM _ (by omega)).trans (b2 p hp).1, (hM _ (by omega)).trans (b2 p hp).2⟩, fun b hb' => ?_, fun r hr => ?_, fun q hq => ?_, fun q hq => ?_⟩
  · obtain ⟨c1, c2, c3, c4⟩ := b3 b hb'
    obtain ⟨cc, hcc, ec⟩ := hG.1.2.2.2.2.2.2.2.2.2.2 b hb'
    refine ⟨(hM _ (by omega)).trans c1, (hM _ (by omega)).trans c2, (hM _ (by omega)).trans c3, fun i hi => ?_⟩
    have z := c4 i hi
    rw [ec, xix_nI (by omega)] at hi
    exact ⟨(hM _ (by omega)).trans z.1, (hM _ (by omega)).trans z.2⟩
  · obtain ⟨c1, c2, c3, c4⟩ := b4 r hr
    exact ⟨(hM _ (by omega)).trans c1, (hM _ (by omega)).trans c2, (hM _ (by omega)).trans c3, (hM _ (by omega)).trans c4⟩
  · obtain ⟨c1, c2, c3, c4, c5⟩ := b5 q hq
    exact ⟨(hM _ (by omega)).trans c1, (hM _ (by omega)).trans c2, (hM _ (by omega)).trans c3, (hM _ (by omega)).trans c4, (hM _ (by omega)).trans c5⟩
  · obtain ⟨c1, c2, c3⟩ := b6 q hq
    exact ⟨(hM _ (by omega)).trans c1, (hM _ (by omega)).trans c2, (hM _ (by omega)).trans c3⟩
/-- the model copies what it read -/
theorem copyM {F : Nat → Int32} (hM : sMd w) (hF : xI w 280 = F) : zr 209 76 [.ref 278, .int x, .int (nI 0)] [] w P = zr 209 101 [.ref 278, .int x, .int (nI 402)] [] (xfill w 279 402 F) P := by
  have lp : ∀ r i, i + r = 402 → zr 209 76 [.ref 278, .int x, .int (nI i)] [] (xfill w 279 i F) P = zr 209 101 [.ref 278, .int x, .int (nI 402)] [] (xfill w 279 402 F) P := by
    intro r
    induction r with
    | zero =>
      intro i hi
      have : i = 402 := by omega
      subst this
      rw [r209_76]
      simp (disch := omega) only [r209_77, r209_80, show (402 : Int32) ≤ nI 402 by decide, true_and, and_true, Option.some.injEq, exists_eq_left', Option.toList_some, Option.toList_none, List.cons_append, List.nil_append, xcat_nil, xcat_int, xcat_ref, xcat_long, not_true, not_false_iff, if_true, if_false, and_self, and_false, false_and, or_true, true_or, or_self, z01, z10, zle8, Nat.reduceAdd, Nat.reduceLeDiff]
    | succ r ih =>
      intro i hi
      have ih := ih (i + 1) (by omega)
      have hM2 : sMd (xfill w 279 i F) := hM
      obtain ⟨h0, r4, -, -, j0, k0, -⟩ := hM2.cf
      obtain ⟨-, ⟨r3, -⟩, ⟨j9, n9⟩, -⟩ := hM2
      have q : ¬ (402 : Int32) ≤ nI i := nI_ge (a := i) (b := 402) (by omega) (by omega)
      have e : xI (xfill w 279 i F) 280 i = F i := by rw [xIf_fill (by omega), hF]
      rw [r209_76]
      simp (disch := omega) only [r209_77, r209_80, r209_83, r209_84, r209_87, r209_88, r209_89, r209_92, r209_93, r209_94, r209_95, r209_98, h0, r3, r4, j0, k0, j9, n9, q, e, xfill_s, xinbT, xixT, leT, leF, ltT, ltF, ngF, psT, n1F, n2F, km2, km3, km4, km5, km10, km15, km25, kl8, kl14, kl24, kl34, kl274, kl354, kl384, kr1, kr2, kr3, kr4, kr5, kr6, kr7, kr8, kr9, kaa, lb0, lb1, lb2, lb3, lb4, lb5, lb6, lb7, li0, li1, li2, li3, li4, li5, li6, li7, true_and, and_true, Option.some.injEq, exists_eq_left', Option.toList_some, Option.toList_none, List.cons_append, List.nil_append, xcat_nil, xcat_int, xcat_ref, xcat_long, not_true, not_false_iff, if_true, if_false, and_self, and_false, false_and, or_true, true_or, or_self, z01, z10, zle8, Nat.reduceAdd, Nat.reduceLeDiff]
      exact ih
  have l0 := lp 402 0 (by omega)
  rw [xfill_0] at l0
  exact l0
end
