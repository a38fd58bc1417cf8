/-! THE NEXT DAY on which something begins or ends; the best day -/
def fNr (next day other : Int32) : Int32 := if day < other ∧ other < next then other else next
def fTnR (days : Nat → Int32) (d : Int32) : Nat → Int32
  | 0 => 1000
  | k + 1 => fNr (fTnR days d k) d (days k)
def fTnH (fi la : Nat → Int32) (d z : Int32) : Nat → Int32
  | 0 => z
  | k + 1 => fNr (fNr (fTnH fi la d z k) d (fi k)) d (la k + 1)
section
variable {u w : xMem} {P : Option Value → xMem → Prop} {D s nl np nb nc nr nh nk b n m : Nat} {c d x y e k p : Int32}
theorem nearer_run : zr 105 0 [.int x, .int d, .int y] [] u P = P (some (.int (fNr x d y))) u := by
  simp only [r105_0, r105_1, r105_2, r105_5, r105_6, r105_7, r105_10, r105_11, r105_14, r105_15, fNr, true_and, and_true, Option.some.injEq, exists_eq_left', Option.toList_some, Option.toList_none, List.cons_append, List.nil_append, xcat_nil, xcat_int, xcat_ref, xcat_long, not_true, not_false_iff, if_true, if_false, and_self, and_false, false_and, or_true, true_or, or_self, z01, z10, zle8, Nat.reduceAdd, Nat.reduceLeDiff]
  by_cases c1 : y ≤ d
  · simp only [c1, i32_nlt.mpr c1, true_and, and_true, Option.some.injEq, exists_eq_left', Option.toList_some, Option.toList_none, List.cons_append, List.nil_append, xcat_nil, xcat_int, xcat_ref, xcat_long, not_true, not_false_iff, if_true, if_false, and_self, and_false, false_and, or_true, true_or, or_self, z01, z10, zle8, Nat.reduceAdd, Nat.reduceLeDiff]
  · by_cases c2 : x ≤ y
    · simp only [c1, i32_nle.mp c1, c2, i32_nlt.mpr c2, true_and, and_true, Option.some.injEq, exists_eq_left', Option.toList_some, Option.toList_none, List.cons_append, List.nil_append, xcat_nil, xcat_int, xcat_ref, xcat_long, not_true, not_false_iff, if_true, if_false, and_self, and_false, false_and, or_true, true_or, or_self, z01, z10, zle8, Nat.reduceAdd, Nat.reduceLeDiff]
    · simp only [c1, i32_nle.mp c1, c2, i32_nle.mp c2, true_and, and_true, Option.some.injEq, exists_eq_left', Option.toList_some, Option.toList_none, List.cons_append, List.nil_append, xcat_nil, xcat_int, xcat_ref, xcat_long, not_true, not_false_iff, if_true, if_false, and_self, and_false, false_and, or_true, true_or, or_self, z01, z10, zle8, Nat.reduceAdd, Nat.reduceLeDiff]
def tNx (u : xMem) (t nr nh : Nat) (d : Int32) : Int32 := fTnH (xI u (t + 9)) (xI u (t + 10)) d (fTnR (xI u (t + 5)) d nr) nh
theorem tnext_run (hT : sTf u b) (hn : xI u (b + 2) 0 = nI nr) (h : nr ≤ 20) (hh : xI u b 3 = nI nh) (h6 : nh ≤ 6) : zr 104 0 [.ref b, .int d, .null, .null] [] u P = P (some (.int (tNx u b nr nh d))) u := by
  obtain ⟨h0, ⟨e1, e2, -, -, e6, e7, -⟩, -, hR, -, -, ⟨i6, n6⟩, ⟨i7, n7⟩, -⟩ := hT
  obtain ⟨r0, ⟨-, -, r3, -⟩, -, -, ⟨j3, m3⟩, -⟩ := hR
  have r3 : xR u (b + 2) 3 = some (b + 5) := r3
  have j3 : xIs u (b + 5) 13 := j3
  have m3 : xN u (b + 5) = 20 := m3
  have lp2 : ∀ r i, i + r = nh → zr 104 40 [.ref b, .int d, .int (fTnH (xI u (b + 9)) (xI u (b + 10)) d (fTnR (xI u (b + 5)) d nr) i), .int (nI i)] [] u P = P (some (.int (tNx u b nr nh d))) u := by
    intro r
    induction r with
    | zero =>
      intro i hi
      have : i = nh := by omega
      subst this
      rw [r104_40]
      simp only [r104_41, r104_42, r104_45, r104_80, r104_81, h0, hh, true_and, and_true, Option.some.injEq, exists_eq_left', Option.toList_some, Option.toList_none, List.cons_append, List.nil_append, xcat_nil, xcat_int, xcat_ref, xcat_long, not_true, not_false_iff, if_true, if_false, and_self, and_false, false_and, or_true, true_or, or_self, z01, z10, zle8, Nat.reduceAdd, Nat.reduceLeDiff]
      rw [if_pos (nI_le (Nat.le_refl _) (by omega))]
      rfl
    | succ r ih =>
      intro i hi
      have q0 : ¬ nI nh ≤ nI i := nI_ge (by omega) (by omega)
      have q1 : xinb (nI i) 6 := xinb_nI (by omega) (by omega)
      have q2 : xix (nI i) = i := xix_nI (by omega)
      have ih := ih (i + 1) (by omega)
      simp only [fTnH] at ih
      rw [r104_40]
      simp only [r104_41, r104_42, r104_45, r104_48, r104_49, r104_50, r104_51, r104_54, r104_55, r104_56, r104_59, r104_60, r104_61, r104_62, r104_63, r104_66, r104_67, r104_68, r104_69, r104_70, r104_73, r104_74, r104_77, nearer_run, h0, hh, e6, e7, i6, i7, n6, n7, q0, q1, q2, nI_1, true_and, and_true, Option.some.injEq, exists_eq_left', Option.toList_some, Option.toList_none, List.cons_append, List.nil_append, xcat_nil, xcat_int, xcat_ref, xcat_long, not_true, not_false_iff, if_true, if_false, and_self, and_false, false_and, or_true, true_or, or_self, z01, z10, zle8, Nat.reduceAdd, Nat.reduceLeDiff]
      exact ih
  have lp : ∀ r i, i + r = nr → zr 104 6 [.ref b, .int d, .int (fTnR (xI u (b + 5)) d i), .int (nI i)] [] u P = P (some (.int (tNx u b nr nh d))) u := by
    intro r
    induction r with
    | zero =>
      intro i hi
      have : i = nr := by omega
      subst this
      rw [r104_6]
      simp only [r104_7, r104_8, r104_11, r104_14, r104_38, r104_39, h0, e2, r0, hn, true_and, and_true, Option.some.injEq, exists_eq_left', Option.toList_some, Option.toList_none, List.cons_append, List.nil_append, xcat_nil, xcat_int, xcat_ref, xcat_long, not_true, not_false_iff, if_true, if_false, and_self, and_false, false_and, or_true, true_or, or_self, z01, z10, zle8, Nat.reduceAdd, Nat.reduceLeDiff]
      rw [if_pos (nI_le (Nat.le_refl _) (by omega))]
      exact lp2 nh 0 (by omega)
    | succ r ih =>
      intro i hi
      have q0 : ¬ nI nr ≤ nI i := nI_ge (by omega) (by omega)
      have q1 : xinb (nI i) 20 := xinb_nI (by omega) (by omega)
      have q2 : xix (nI i) = i := xix_nI (by omega)
      have ih := ih (i + 1) (by omega)
      simp only [fTnR] at ih
      rw [r104_6]
      simp only [r104_7, r104_8, r104_11, r104_14, r104_17, r104_18, r104_19, r104_20, r104_23, r104_26, r104_27, r104_28, r104_31, r104_32, r104_35, nearer_run, h0, e2, r0, hn, r3, j3, m3, q0, q1, q2, nI_1, true_and, and_true, Option.some.injEq, exists_eq_left', Option.toList_some, Option.toList_none, List.cons_append, List.nil_append, xcat_nil, xcat_int, xcat_ref, xcat_long, not_true, not_false_iff, if_true, if_false, and_self, and_false, false_and, or_true, true_or, or_self, z01, z10, zle8, Nat.reduceAdd, Nat.reduceLeDiff]
      exact ih
  simp only [r104_0, r104_3, r104_4, r104_5]
  exact lp nr 0 (by omega)
/-- the next day on which anything changes -/
def dNx (u : xMem) (D nb nr nh : Nat) (d : Int32) : Int32 := if tNx u (D + 12) nr nh d < fNa (xI u (D + 6)) d nb then tNx u (D + 12) nr nh d else fNa (xI u (D + 6)) d nb
theorem nextChange_run (h : okD u D s nl np nb nc nr nh nk) : zr 37 0 [.ref D, .int d] [] u P = P (some (.int (dNx u D nb nr nh d))) u := by
  have h1 := fun P => nextOfAll_run (b := D + 4) (d := d) (P := P) h.gr.2.2.2.2.1 h.2.2.2.2.1.1 h.2.2.2.2.1.2
  have h2 := fun P => tnext_run (b := D + 12) (d := d) (P := P) h.tf h.2.2.2.2.2.2.1.1 h.2.2.2.2.2.2.1.2 h.2.2.2.2.2.2.2.1.1 h.2.2.2.2.2.2.2.1.2
  obtain ⟨h0, ⟨e0, e1, e2⟩, hG, hT, -⟩ := h.1
  have g5 : xR u (D + 1) 5 = some (D + 4) := hG.2.1.2.2.1
  have b0 : xIs u (D + 4) 2 := hG.2.2.2.2.1.1
  simp only [r37_0, r37_1, r37_4, r37_7, r37_8, r37_11, r37_12, r37_15, r37_16, r37_19, r37_22, h0, e0, e1, hG.1, g5, b0, hT.1, h1, h2, dNx, true_and, and_true, Option.some.injEq, exists_eq_left', Option.toList_some, Option.toList_none, List.cons_append, List.nil_append, xcat_nil, xcat_int, xcat_ref, xcat_long, not_true, not_false_iff, if_true, if_false, and_self, and_false, false_and, or_true, true_or, or_self, z01, z10, zle8, Nat.reduceAdd, Nat.reduceLeDiff]
theorem dNx_ag (hw : xag SC u w) (hD : D = 6 ∨ D = 34) : dNx w D nb nr nh d = dNx u D nb nr nh d := by
  unfold dNx tNx
  rw [show D + 12 + 9 = D + 21 from rfl, show D + 12 + 10 = D + 22 from rfl, show D + 12 + 5 = D + 17 from rfl, agD hw hD 21 (by omega), agD hw hD 22 (by omega), agD hw hD 17 (by omega), agD hw hD 6 (by omega)]
/-- the search for the best day, by the days of change: (best, least, the next day) -/
def fBd (due nx : Int32 → Int32) (till : Int32) : Nat → Int32 × Int32 × Int32 → Int32
  | 0, z => z.1
  | r + 1, z => if till < z.2.2 then z.1 else fBd due nx till r (if due z.2.2 < z.2.1 then (z.2.2, due z.2.2, nx z.2.2) else (z.1, z.2.1, nx z.2.2))
theorem bestDay_run {j : Nat} {n till : Int32} (hj : j < nc) (hS : sSP u D) (hL : sLn u 273) (h : okD u D s nl np nb nc nr nh nk) (hD : D = 6 ∨ D = 34) (ht : Tri u d x y (nI j) n e)
    (hP : ∀ v, xag SC u v → P (some (.int (fBd (fun d => dDue u D nb np nl nr nh nk d x y (nI j) n e) (dNx u D nb nr nh) till 1000 (d, dDue u D nb np nl nr nh nk d x y (nI j) n e, dNx u D nb nr nh d)))) v) : zr 167 0 [.ref 0, .int till, .null, .null, .null, .null, .null] [] u P := by
  have lp : ∀ r i w (z : Int32 × Int32 × Int32) v6 d', i + r = 1000 → xag SC u w → Tri w d' x y (nI j) n e →
      (∀ v, xag SC u v → P (some (.int (fBd (fun d => dDue u D nb np nl nr nh nk d x y (nI j) n e) (dNx u D nb nr nh) till r z))) v) →
      zr 167 26 [.ref 0, .int till, .int z.1, .int z.2.1, .int z.2.2, .int (nI i), v6] [] w P := by
    intro r
    induction r with
    | zero =>
      intro i w z v6 d' hi hw ht hP
      have : i = 1000 := by omega
      subst this
      rw [r167_26]
      simp only [r167_28, r167_31, r167_84, r167_85, if_pos (show (999 : Int32) < nI 1000 by decide), true_and, and_true, Option.some.injEq, exists_eq_left', Option.toList_some, Option.toList_none, List.cons_append, List.nil_append, xcat_nil, xcat_int, xcat_ref, xcat_long, not_true, not_false_iff, if_true, if_false, and_self, and_false, false_and, or_true, true_or, or_self, z01, z10, zle8, Nat.reduceAdd, Nat.reduceLeDiff]
      exact hP w hw
    | succ r ih =>
      intro i w z v6 d' hi hw ht hP
      have q0 : ¬ (999 : Int32) < nI i := nI_nlt (b := i) (a := 999) (by omega) (by omega)
      have hSw : sSP w D := by rw [hw.eq]; exact hS
      have hLw := hw.ln hL
      have hOw := h.ag hw hD
      obtain ⟨h0, r0, r1, r3, r4, r5⟩ := hSw
      rw [r167_26]
      by_cases c1 : till < z.2.2
      · simp only [r167_28, r167_31, r167_34, r167_36, r167_37, r167_84, r167_85, q0, c1, true_and, and_true, Option.some.injEq, exists_eq_left', Option.toList_some, Option.toList_none, List.cons_append, List.nil_append, xcat_nil, xcat_int, xcat_ref, xcat_long, not_true, not_false_iff, if_true, if_false, and_self, and_false, false_and, or_true, true_or, or_self, z01, z10, zle8, Nat.reduceAdd, Nat.reduceLeDiff]
        have hP := hP w hw
        unfold fBd at hP
        rw [if_pos c1] at hP
        exact hP
      · simp only [r167_28, r167_31, r167_34, r167_36, r167_37, r167_40, r167_41, r167_44, r167_46, r167_49, r167_50, q0, c1, h0, r5, hLw.1, xIs_sI, true_and, and_true, Option.some.injEq, exists_eq_left', Option.toList_some, Option.toList_none, List.cons_append, List.nil_append, xcat_nil, xcat_int, xcat_ref, xcat_long, not_true, not_false_iff, if_true, if_false, and_self, and_false, false_and, or_true, true_or, or_self, z01, z10, zle8, Nat.reduceAdd, Nat.reduceLeDiff]
        have hw2 : xag SC w (xsI w 273 0 z.2.2) := xag.sI (by unfold SC; omega)
        have ht2 : Tri (xsI w 273 0 z.2.2) z.2.2 x y (nI j) n e := by
          obtain ⟨t0, t1, t2, t3, t5, t6⟩ := ht
          refine ⟨by rw [xI_sI, if_pos ⟨rfl, rfl⟩], ?_, ?_, ?_, ?_, ?_⟩ <;> rw [xI_sI, if_neg (by omega)] <;> assumption
        have hSw2 : sSP (xsI w 273 0 z.2.2) D := ⟨h0, r0, r1, r3, r4, r5⟩
        refine dueOfTrial_run hj hSw2 hLw (hOw.ag hw2 hD) hD ht2 (fun v hv htv => ?_)
        have huv : xag SC u v := (hw.tr hw2).tr hv
        have hOv := h.ag huv hD
        have hSv : sSP v D := by rw [huv.eq]; exact hS
        obtain ⟨g0, -, g1, -, -, g5⟩ := hSv
        have hN := fun P => nextChange_run (d := z.2.2) (P := P) hOv
        rw [dDue_ag (hw.tr hw2) hD]
        have hP := fun v hv => hP v hv
        unfold fBd at hP
        simp only [if_neg c1] at hP
        simp only [r167_53, r167_55, r167_57, r167_58, r167_61, r167_63, r167_64, r167_66, r167_67, r167_68, r167_71, r167_73, r167_76, r167_78, r167_81, g0, g1, hOv.1.1, hN, dNx_ag huv hD, nI_1, true_and, and_true, Option.some.injEq, exists_eq_left', Option.toList_some, Option.toList_none, List.cons_append, List.nil_append, xcat_nil, xcat_int, xcat_ref, xcat_long, not_true, not_false_iff, if_true, if_false, and_self, and_false, false_and, or_true, true_or, or_self, z01, z10, zle8, Nat.reduceAdd, Nat.reduceLeDiff]
        by_cases c2 : z.2.1 ≤ dDue u D nb np nl nr nh nk z.2.2 x y (nI j) n e
        · simp only [c2, true_and, and_true, Option.some.injEq, exists_eq_left', Option.toList_some, Option.toList_none, List.cons_append, List.nil_append, xcat_nil, xcat_int, xcat_ref, xcat_long, not_true, not_false_iff, if_true, if_false, and_self, and_false, false_and, or_true, true_or, or_self, z01, z10, zle8, Nat.reduceAdd, Nat.reduceLeDiff]
          refine ih (i + 1) v (z.1, z.2.1, dNx u D nb nr nh z.2.2) _ _ (by omega) huv htv (fun v hv => ?_)
          have := hP v hv
          rw [if_neg (i32_nlt.mpr c2)] at this
          exact this
        · simp only [c2, true_and, and_true, Option.some.injEq, exists_eq_left', Option.toList_some, Option.toList_none, List.cons_append, List.nil_append, xcat_nil, xcat_int, xcat_ref, xcat_long, not_true, not_false_iff, if_true, if_false, and_self, and_false, false_and, or_true, true_or, or_self, z01, z10, zle8, Nat.reduceAdd, Nat.reduceLeDiff]
          refine ih (i + 1) v (z.2.2, dDue u D nb np nl nr nh nk z.2.2 x y (nI j) n e, dNx u D nb nr nh z.2.2) _ _ (by omega) huv htv (fun v hv => ?_)
          have := hP v hv
          rw [if_pos (i32_nle.mp c2)] at this
          exact this
  have hN := fun (v : xMem) (hv : xag SC u v) P => nextChange_run (d := d) (P := P) (h.ag hv hD)
  have hSS := hS
  obtain ⟨h0, r0, r1, r3, r4, r5⟩ := hSS
  simp only [r167_0, r167_1, r167_4, r167_7, r167_8, r167_9, h0, r5, hL.1, ht.1, true_and, and_true, Option.some.injEq, exists_eq_left', Option.toList_some, Option.toList_none, List.cons_append, List.nil_append, xcat_nil, xcat_int, xcat_ref, xcat_long, not_true, not_false_iff, if_true, if_false, and_self, and_false, false_and, or_true, true_or, or_self, z01, z10, zle8, Nat.reduceAdd, Nat.reduceLeDiff]
  refine dueOfTrial_run hj hS hL h hD ht (fun v hv htv => ?_)
  have hSv : sSP v D := by rw [hv.eq]; exact hS
  obtain ⟨g0, -, g1, -, -, g5⟩ := hSv
  have hN := hN v hv
  simp only [r167_12, r167_13, r167_14, r167_17, r167_18, r167_21, r167_23, r167_24, g0, g1, (h.ag hv hD).1.1, hN, dNx_ag hv hD, true_and, and_true, Option.some.injEq, exists_eq_left', Option.toList_some, Option.toList_none, List.cons_append, List.nil_append, xcat_nil, xcat_int, xcat_ref, xcat_long, not_true, not_false_iff, if_true, if_false, and_self, and_false, false_and, or_true, true_or, or_self, z01, z10, zle8, Nat.reduceAdd, Nat.reduceLeDiff]
  exact lp 1000 0 v (d, dDue u D nb np nl nr nh nk d x y (nI j) n e, dNx u D nb nr nh d) .null d (by omega) hv htv hP
/-- what a line is short by -/
theorem shortBy_run {j : Nat} {n : Int32} {a k : Nat} (hj : j < nc) (hS : sSP u D) (hL : sLn u 273) (h : okD u D s nl np nb nc nr nh nk) (hD : D = 6 ∨ D = 34) (ha : 69 ≤ a ∧ a ≤ 264) (hLa : sLn u a) (hd : xI u a 0 = d) (hx : xI u a 1 = x) (hy : xI u a 2 = y) (hg : xI u a 3 = nI j) (he : xI u a 5 = e) (hn : xI u a 6 = n) (hk : xI u a 8 = nI k) (h4 : k ≤ 4)
    (hP : ∀ v, xag SC u v → P (some (.int (dDue u D nb np nl nr nh nk d x y (nI j) n e - fTx (xI u (a + 1)) (lTax u a) (-1) k))) v) : zr 168 0 [.ref 0, .ref a] [] u P := by
  have hSS := hS
  obtain ⟨h0, r0, r1, r3, r4, r5⟩ := hSS
  have hs := fun P => sell_run (u := u) (a := 273) (d := d) (x := x) (y := y) (c := nI j) (r := n) (e := e) (P := P) hL
  simp only [r168_0, r168_1, r168_4, r168_5, r168_8, r168_9, r168_12, r168_13, r168_16, r168_17, r168_20, r168_21, r168_24, r168_25, r168_28, r168_31, r168_32, h0, r5, hL.1, hLa.1, hd, hx, hy, hg, he, hn, hs, true_and, and_true, Option.some.injEq, exists_eq_left', Option.toList_some, Option.toList_none, List.cons_append, List.nil_append, xcat_nil, xcat_int, xcat_ref, xcat_long, not_true, not_false_iff, if_true, if_false, and_self, and_false, false_and, or_true, true_or, or_self, z01, z10, zle8, Nat.reduceAdd, Nat.reduceLeDiff]
  have hw : xag SC u (mSell u 273 d x y (nI j) n e) := by
    unfold mSell
    have q : ∀ j, SC 273 j := fun j => by unfold SC; omega
    exact ((((((((xag.sI (q _)).tr (xag.sI (q _))).tr (xag.sI (q _))).tr (xag.sI (q _))).tr (xag.sI (q _))).tr (xag.sI (q _))).tr (xag.sI (q _))).tr (xag.sI (q _))).tr (xag.sI (q _))
  have ht : Tri (mSell u 273 d x y (nI j) n e) d x y (nI j) n e := by
    unfold mSell
    refine ⟨?_, ?_, ?_, ?_, ?_, ?_⟩ <;> simp [xI_sI]
  have hSw : sSP (mSell u 273 d x y (nI j) n e) D := hS
  have t0 : xIs (mSell u 273 d x y (nI j) n e) 0 10 := h0
  simp only [t0, true_and, and_true, Option.some.injEq, exists_eq_left', Option.toList_some, Option.toList_none, List.cons_append, List.nil_append, xcat_nil, xcat_int, xcat_ref, xcat_long, not_true, not_false_iff, if_true, if_false, and_self, and_false, false_and, or_true, true_or, or_self, z01, z10, zle8, Nat.reduceAdd, Nat.reduceLeDiff]
  refine dueOfTrial_run hj hSw hL (h.ag hw hD) hD ht (fun v hv htv => ?_)
  have huv := hw.tr hv
  have f : ∀ k, k ≤ 4 → xI v (a + k) = xI u (a + k) := fun k hk => huv.f (fun j q => by unfold SC at q; omega)
  have hLv := huv.ln hLa
  have hq := fun P => taxOf_run (u := v) (a := a) (p := -1) (n := k) (P := P) hLv (by have := f 0 (by omega); rw [show xI v a = xI u a from this]; exact hk) h4
  have e1 : xI v (a + 1) = xI u (a + 1) := f 1 (by omega)
  have e2 : lTax v a = lTax u a := by
    funext i
    unfold lTax lBase
    rw [f 2 (by omega), f 3 (by omega), f 4 (by omega), show xI v a = xI u a from f 0 (by omega)]
  rw [e1, e2] at hq
  rw [dDue_ag hw hD]
  simp only [r168_35, r168_36, r168_37, r168_40, r168_41, hLv.1, hq, true_and, and_true, Option.some.injEq, exists_eq_left', Option.toList_some, Option.toList_none, List.cons_append, List.nil_append, xcat_nil, xcat_int, xcat_ref, xcat_long, not_true, not_false_iff, if_true, if_false, and_self, and_false, false_and, or_true, true_or, or_self, z01, z10, zle8, Nat.reduceAdd, Nat.reduceLeDiff]
  exact hP v huv
end
