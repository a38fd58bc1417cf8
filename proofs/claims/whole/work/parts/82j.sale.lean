/-! SALE: the runs -/
/-- a line with its parts, in the class -/
def SlC (u c : xMem) (n na : Nat) (L : List Int32) (d x y cl units price : Int32) (fr fc : Int32 → Int32) (ff : Int32 → Bool) : Prop :=
  c.1 = u.1 ∧ c.2.2 = u.2.2 ∧ (∀ a j, ¬ SC a j → (a < 69 + 5 * n ∨ 73 + 5 * n < a) → (a ≠ 62 ∨ j ≠ 0) → (a < 269 ∨ 272 < a) → xI c a j = xI u a j) ∧ (xI c 0 6 = 0 ∧ xI c 62 0 = nI (n + 1)) ∧
  (xI c (69 + 5 * n) 0 = d ∧ xI c (69 + 5 * n) 1 = x ∧ xI c (69 + 5 * n) 2 = y ∧ xI c (69 + 5 * n) 3 = cl ∧ xI c (69 + 5 * n) 4 = units ∧ xI c (69 + 5 * n) 5 = price ∧ xI c (69 + 5 * n) 6 = units ∧ xI c (69 + 5 * n) 7 = -1) ∧ Pts c (69 + 5 * n) L fr fc ff ∧
  xI c 269 0 = nI (naS na) ∧ ∀ j, j < 8 → xI c 270 j = shA (xI u 270) na 1 j ∧ xI c 271 j = shA (xI u 271) na 0 j ∧ xI c 272 j = shA (xI u 272) na 0 j
/-- .. in the model, i parts of it -/
def SlM (W V : xMem) (n i : Nat) (L : List Int32) (d x y cl units price : Int32) (fr fc : Int32 → Int32) (ff : Int32 → Bool) : Prop :=
  V.1 = W.1 ∧ V.2.2 = W.2.2 ∧ (∀ a j, a ≠ 284 → a ≠ 286 → xI V a j = xI W a j) ∧ (∀ j, j < L.length → xI V 284 j = L.getD j 0) ∧ (∀ j, (j < 25 * n ∨ 25 * n + 25 ≤ j) → xI V 286 j = xI W 286 j) ∧
  (xI V 286 (25 * n) = d ∧ xI V 286 (25 * n + 1) = x ∧ xI V 286 (25 * n + 2) = y ∧ xI V 286 (25 * n + 3) = cl ∧ xI V 286 (25 * n + 4) = units ∧ xI V 286 (25 * n + 5) = price ∧ xI V 286 (25 * n + 6) = units ∧ xI V 286 (25 * n + 7) = nI L.length ∧ xI V 286 (25 * n + 8) = 0) ∧
  ∀ t, t < i → xI V 286 (25 * n + 9 + 4 * t) = L.getD t 0 ∧ xI V 286 (25 * n + 9 + 4 * t + 1) = fr (L.getD t 0) ∧ xI V 286 (25 * n + 9 + 4 * t + 2) = fc (L.getD t 0) ∧ xI V 286 (25 * n + 9 + 4 * t + 3) = bI (ff (L.getD t 0))
section
variable {u w g : xMem} {P : Option Value → xMem → Prop} {D E s nl np nb nc nr nh nk n nf na f : Nat} {p q d x y c e k a t i l what many layer till price units : Int32} {op : Bool}
theorem sell_lo {a : Nat} {d x y c m e : Int32} (ha : 62 ≤ a) : xag Slo u (mSell u a d x y c m e) := by
  unfold mSell
  have s1 : ∀ j, Slo a j := fun j => ha
  exact (((((((((xag.sI (s1 0)).tr (xag.sI (s1 1))).tr (xag.sI (s1 2))).tr (xag.sI (s1 3))).tr (xag.sI (s1 4))).tr (xag.sI (s1 6))).tr (xag.sI (s1 5))).tr (xag.sI (s1 7))).tr (xag.sI (s1 8)))
theorem sell_f {a b j : Nat} {d x y c m e : Int32} (h : b ≠ a) : xI (mSell u a d x y c m e) b j = xI u b j := by
  unfold mSell
  rw [xI_ne (by omega), xI_ne (by omega), xI_ne (by omega), xI_ne (by omega), xI_ne (by omega), xI_ne (by omega), xI_ne (by omega), xI_ne (by omega), xI_ne (by omega)]
theorem saleC_t (h : St u D E s nl np nb nc nr nh nk n nf na f true) {j : Nat} (hj : j < nc) (hn : n < 40) (hP : ∀ c, SlC u c n na (dStk u D nb np nl d x y) d x y (nI j) units price (fun q => tRate u (D + 12) nr q (nI j) d) (fun q => tCap u (D + 12) nk q (nI j)) (fun q => tFree u (D + 12) nh q (nI j) d price) → P (some (.int (nI n))) c) : zr 146 70 [.ref 0, .int d, .int x, .int y, .int (nI j), .int units, .int price, .null] [] u P := by
  have hb := h.b
  have hD := h.1.d
  have h8 : na ≤ 8 := hb.2.2.2.2.2.2.2.2.2.2.1
  obtain ⟨g1, g2, g3, g4, g5, g6⟩ := h.sp
  have hac := h.1.2.2.2.2.2.2.2.1
  have b0 := h.bk.1
  have b1 : xR u 62 1 = some 63 := h.bk.2.1.1
  have b2 : xIs u 63 16 := h.bk.2.2.1.1
  have b3 : xN u 63 = 40 := h.bk.2.2.1.2
  have hL := h.bk.ln (l := n) hn
  have hL1 := hL.1
  have n0 := h.okl.1.1
  have se := fun P => sell_run (d := d) (x := x) (y := y) (c := nI j) (r := units) (e := price) (P := P) hL.2
  have lo : xag Slo u (mSell u (69 + 5 * n) d x y (nI j) units price) := sell_lo (by omega)
  have sf : ∀ b k, b ≠ 69 + 5 * n → xI (mSell u (69 + 5 * n) d x y (nI j) units price) b k = xI u b k := fun b k q => sell_f q
  have okd := h.ok.lo lo hD
  have hL' : sLn (mSell u (69 + 5 * n) d x y (nI j) units price) (69 + 5 * n) := hL.2
  have i0 : xIs (mSell u (69 + 5 * n) d x y (nI j) units price) 0 10 := g1
  have i1 : xR (mSell u (69 + 5 * n) d x y (nI j) units price) 0 1 = some D := g3
  have iD : xIs (mSell u (69 + 5 * n) d x y (nI j) units price) D 3 := h.ok.1.1
  have l0 : ∀ k, k ≤ 7 → xI (mSell u (69 + 5 * n) d x y (nI j) units price) (69 + 5 * n) k = if k = 0 then d else if k = 1 then x else if k = 2 then y else if k = 3 then nI j else if k = 4 then units else if k = 5 then price else if k = 6 then units else -1 := fun k hk => by
    have : k = 0 ∨ k = 1 ∨ k = 2 ∨ k = 3 ∨ k = 4 ∨ k = 5 ∨ k = 6 ∨ k = 7 := by omega
    unfold mSell
    rcases this with rfl | rfl | rfl | rfl | rfl | rfl | rfl | rfl <;> simp (disch := omega) only [xI_ate, xI_ne] <;> rfl
  have eS : dStk (mSell u (69 + 5 * n) d x y (nI j) units price) D nb np nl d x y = dStk u D nb np nl d x y := dStk_lo lo hD
  have eR : ∀ q, tRate (mSell u (69 + 5 * n) d x y (nI j) units price) (D + 12) nr q (nI j) d = tRate u (D + 12) nr q (nI j) d := fun q => tRate_lo lo hD
  have eC : ∀ q, tCap (mSell u (69 + 5 * n) d x y (nI j) units price) (D + 12) nk q (nI j) = tCap u (D + 12) nk q (nI j) := fun q => tCap_lo lo hD
  have eF : ∀ q, tFree (mSell u (69 + 5 * n) d x y (nI j) units price) (D + 12) nh q (nI j) d price = tFree u (D + 12) nh q (nI j) d price := fun q => tFree_lo lo hD
  have shU : (mSell u (69 + 5 * n) d x y (nI j) units price).1 = u.1 ∧ (mSell u (69 + 5 * n) d x y (nI j) units price).2.2 = u.2.2 := ⟨rfl, rfl⟩
  have hLi := hL.2.1
  simp (disch := omega) only [r146_70, r146_71, r146_74, r146_77, r146_78, r146_81, r146_84, r146_85, r146_87, r146_89, r146_90, r146_91, r146_92, r146_94, r146_96, r146_98, g1, g4, b0, b1, b2, b3, n0, hL1, hLi, se, xinbT, xixT, leT, leF, ltT, ltF, ngF, psT, n1F, n2F, km2, km3, km4, km5, km10, km15, km25, kl8, kl14, kl24, kl34, kl274, kl354, kl384, kr1, kr2, kr3, kr4, kr5, kr6, kr7, kr8, kr9, kaa, lb0, lb1, lb2, lb3, lb4, lb5, lb6, lb7, li0, li1, li2, li3, li4, li5, li6, li7, true_and, and_true, Option.some.injEq, exists_eq_left', Option.toList_some, Option.toList_none, List.cons_append, List.nil_append, xcat_nil, xcat_int, xcat_ref, xcat_long, not_true, not_false_iff, if_true, if_false, and_self, and_false, false_and, or_true, true_or, or_self, z01, z10, zle8, Nat.reduceAdd, Nat.reduceLeDiff]
  generalize mSell u (69 + 5 * n) d x y (nI j) units price = U at *
  simp only [r146_101, r146_102, r146_105, r146_107, i0, i1, iD, true_and, and_true, Option.some.injEq, exists_eq_left', Option.toList_some, Option.toList_none, List.cons_append, List.nil_append, xcat_nil, xcat_int, xcat_ref, xcat_long, not_true, not_false_iff, if_true, if_false, and_self, and_false, false_and, or_true, true_or, or_self, z01, z10, zle8, Nat.reduceAdd, Nat.reduceLeDiff]
  have s0 : xI U (69 + 5 * n) 0 = d := l0 0 (by omega)
  have s1 : xI U (69 + 5 * n) 1 = x := l0 1 (by omega)
  have s2 : xI U (69 + 5 * n) 2 = y := l0 2 (by omega)
  have s3 : xI U (69 + 5 * n) 3 = nI j := l0 3 (by omega)
  have s5 : xI U (69 + 5 * n) 5 = price := l0 5 (by omega)
  refine assess_run hj okd hD (by omega) hL' s0 s1 s2 s3 s5 (fun v hv hs hpt => ?_)
  simp only [eS, eR, eC, eF] at hpt
  have v1 : v.1 = u.1 := hv.1.trans shU.1
  have v2 : v.2.2 = u.2.2 := hv.2.1.trans shU.2
  have shv := shp v1 (congrArg (fun q => q.2) v2)
  have fv : ∀ a k, ¬ SC a k → (a < 69 + 5 * n ∨ 73 + 5 * n < a) → xI v a k = xI u a k := fun a k q1 q2 => by
    rw [hv.2.2 a k (fun z => z.elim q1 (fun y => by unfold SLn at y; omega)), sf a k (by omega)]
  have j0 : xIs v 0 10 := by rw [shv]; exact g1
  have j3 : xR v 0 3 = some 62 := by rw [shv]; exact g4
  have j62 : xIs v 62 1 := by rw [shv]; exact b0
  have e62 : xI v 62 0 = nI n := (fv 62 0 (fun q => by unfold SC at q; omega) (by omega)).trans n0
  have w0 : xIs (xsI v 62 0 (nI (n + 1))) 0 10 := j0
  have w4 : xR (xsI v 62 0 (nI (n + 1))) 0 4 = some 269 := by show xR v 0 4 = _; rw [shv]; exact g5
  have hac2 : sAc (xsI v 62 0 (nI (n + 1))) 269 := (show sAc v 269 from by rw [shv]; exact hac)
  have e269 : ∀ k, xI (xsI v 62 0 (nI (n + 1))) 269 k = xI u 269 k := fun k => by rw [xI_ne (by omega)]; exact fv 269 k (fun q => by unfold SC at q; omega) (by omega)
  have en : xI (xsI v 62 0 (nI (n + 1))) 269 0 = nI na := (e269 0).trans h.oka.1.1
  have kp := fun P => keep_run (u := xsI v 62 0 (nI (n + 1))) (k := 1) (x := 0) (y := 0) (P := P) hac2 en h8
  have kk := keep_kept (u := xsI v 62 0 (nI (n + 1))) (na := na) (k := 1) (x := 0) (y := 0) h8
  have shk := shp kk.1 (congrArg (fun q => q.2) kk.2.1)
  have q0 : xIs (mKeep (xsI v 62 0 (nI (n + 1))) na 1 0 0) 0 10 := by rw [shk]; exact j0
  have q3 : xR (mKeep (xsI v 62 0 (nI (n + 1))) na 1 0 0) 0 3 = some 62 := by rw [shk]; exact j3
  have q62 : xIs (mKeep (xsI v 62 0 (nI (n + 1))) na 1 0 0) 62 1 := by rw [shk]; exact j62
  have k62 : xI (mKeep (xsI v 62 0 (nI (n + 1))) na 1 0 0) 62 0 = nI (n + 1) := (kk.2.2.2.1 62 0 (by omega) (by omega) (by omega) (by omega)).trans xI_at
  have m1 : nI (n + 1) - 1 = nI n := by rw [← nI_1]; exact Int32.add_sub_cancel ..
  have i269 := hac2.1
  simp only [r146_110, r146_111, r146_114, r146_115, r146_118, r146_119, r146_120, r146_123, r146_124, r146_127, r146_128, r146_129, r146_130, r146_133, r146_134, r146_135, r146_138, r146_141, r146_142, r146_143, r146_146, j0, j3, j62, e62, kr1, w0, w4, i269, kp, q0, q3, q62, k62, m1, grant_run q0, true_and, and_true, Option.some.injEq, exists_eq_left', Option.toList_some, Option.toList_none, List.cons_append, List.nil_append, xcat_nil, xcat_int, xcat_ref, xcat_long, not_true, not_false_iff, if_true, if_false, and_self, and_false, false_and, or_true, true_or, or_self, z01, z10, zle8, Nat.reduceAdd, Nat.reduceLeDiff]
  have fk : ∀ a k, (a < 269 ∨ 272 < a) → (a ≠ 0 ∨ k ≠ 6) → (a ≠ 62 ∨ k ≠ 0) → xI (xsI (mKeep (xsI v 62 0 (nI (n + 1))) na 1 0 0) 0 6 0) a k = xI v a k := fun a k p1 p2 p3 => by
    rw [xI_ne (by omega), kk.2.2.2.1 a k (by omega) (by omega) (by omega) (by omega), xI_ne (by omega)]
  have fkl : ∀ k t, k ≤ 4 → xI (xsI (mKeep (xsI v 62 0 (nI (n + 1))) na 1 0 0) 0 6 0) (69 + 5 * n + k) t = xI v (69 + 5 * n + k) t := fun k t p => fk _ t (by omega) (by omega) (by omega)
  refine hP _ ⟨kk.1.trans v1, kk.2.1.trans v2, fun a k p1 p2 p3 p4 => ?_, ⟨xI_at, ?_⟩, ⟨?_, ?_, ?_, ?_, ?_, ?_, ?_, ?_⟩, ⟨?_, fun i hi => ?_⟩, ?_, fun k hk => ?_⟩
  · have z : a ≠ 0 ∨ k ≠ 6 := by
      by_cases z0 : a = 0
      · exact Or.inr (fun z1 => p1 (by unfold SC; omega))
      · exact Or.inl z0
    rw [fk a k p4 z p3]
    exact fv a k p1 p2
  · rw [xI_ne (by omega)]; exact k62
  · exact (fkl 0 0 (by omega)).trans ((hs 0 (by omega)).trans (l0 0 (by omega)))
  · exact (fkl 0 1 (by omega)).trans ((hs 1 (by omega)).trans (l0 1 (by omega)))
  · exact (fkl 0 2 (by omega)).trans ((hs 2 (by omega)).trans (l0 2 (by omega)))
  · exact (fkl 0 3 (by omega)).trans ((hs 3 (by omega)).trans (l0 3 (by omega)))
  · exact (fkl 0 4 (by omega)).trans ((hs 4 (by omega)).trans (l0 4 (by omega)))
  · exact (fkl 0 5 (by omega)).trans ((hs 5 (by omega)).trans (l0 5 (by omega)))
  · exact (fkl 0 6 (by omega)).trans ((hs 6 (by omega)).trans (l0 6 (by omega)))
  · exact (fkl 0 7 (by omega)).trans ((hs 7 (by omega)).trans (l0 7 (by omega)))
  · exact (fkl 0 8 (by omega)).trans hpt.1
  · obtain ⟨p1, p2, p3, p4⟩ := hpt.2 i hi
    exact ⟨(fkl 1 i (by omega)).trans p1, (fkl 2 i (by omega)).trans p2, (fkl 3 i (by omega)).trans p3, (fkl 4 i (by omega)).trans p4⟩
  · rw [xI_ne (by omega)]; exact kk.2.2.1
  · obtain ⟨p1, p2, p3⟩ := kk.2.2.2.2 k hk
    have e : ∀ a, 269 ≤ a → a ≤ 272 → xI (xsI v 62 0 (nI (n + 1))) a = xI u a := fun a z1 z2 => funext fun k => by rw [xI_ne (by omega)]; exact fv a k (fun q => by unfold SC at q; omega) (by omega)
    rw [e 270 (by omega) (by omega)] at p1
    rw [e 271 (by omega) (by omega)] at p2
    rw [e 272 (by omega) (by omega)] at p3
    rw [xI_ne (by omega), xI_ne (by omega), xI_ne (by omega)]
    exact ⟨p1, p2, p3⟩
theorem SlM.step {W V V' : xMem} {i : Nat} {L : List Int32} {cl : Int32} {fr fc : Int32 → Int32} {ff : Int32 → Bool} (h : SlM W V n i L d x y cl units price fr fc ff) (hi : i < 4) (hV : V' = xsI (xsI (xsI (xsI V 286 (25 * n + 9 + 4 * i) (L.getD i 0)) 286 (25 * n + 9 + 4 * i + 1) (fr (L.getD i 0))) 286 (25 * n + 9 + 4 * i + 2) (fc (L.getD i 0))) 286 (25 * n + 9 + 4 * i + 3) (bI (ff (L.getD i 0)))) : SlM W V' n (i + 1) L d x y cl units price fr fc ff := by
  subst hV
  obtain ⟨w1, w2, w3, w4, w5, ⟨a0, a1, a2, a3, a4, a5, a6, a7, a8⟩, w7⟩ := h
  refine ⟨w1, w2, fun a j q1 q2 => ?_, fun j hj => ?_, fun j q => ?_, ⟨?_, ?_, ?_, ?_, ?_, ?_, ?_, ?_, ?_⟩, fun t ht => ?_⟩
  · simp (disch := omega) only [xI_ne]; exact w3 a j q1 q2
  · simp (disch := omega) only [xI_ne]; exact w4 j hj
  · simp (disch := omega) only [xI_ne]; exact w5 j q
  · simp (disch := omega) only [xI_ne]; exact a0
  · simp (disch := omega) only [xI_ne]; exact a1
  · simp (disch := omega) only [xI_ne]; exact a2
  · simp (disch := omega) only [xI_ne]; exact a3
  · simp (disch := omega) only [xI_ne]; exact a4
  · simp (disch := omega) only [xI_ne]; exact a5
  · simp (disch := omega) only [xI_ne]; exact a6
  · simp (disch := omega) only [xI_ne]; exact a7
  · simp (disch := omega) only [xI_ne]; exact a8
  · by_cases z : t = i
    · subst z
      simp (disch := omega) only [xI_ate, xI_ne, and_self]
    · simp (disch := omega) only [xI_ne]
      exact w7 t (by omega)
theorem saleM_loop {W : xMem} {k7 : Int32} {j : Nat} (hx : Mx W g D s nl np nb nc nr nh nk) (hj : j < nc) (hn : n < 40) {L : List Int32} (hL : L.length ≤ 4) (hP : ∀ V v11, SlM W V n L.length L d x y (nI j) units price (fun q => tRate g (D + 12) nr q (nI j) d) (fun q => tCap g (D + 12) nk q (nI j)) (fun q => tFree g (D + 12) nh q (nI j) d price) → zr 290 301 [.ref 278, .int d, .int x, .int y, .int (nI j), .int units, .int price, .int k7, .int (nI (25 * n)), .int (nI L.length), .int (nI L.length), v11] [] V P) :
    ∀ r i V v11, i + r = L.length → SlM W V n i L d x y (nI j) units price (fun q => tRate g (D + 12) nr q (nI j) d) (fun q => tCap g (D + 12) nk q (nI j)) (fun q => tFree g (D + 12) nh q (nI j) d price) → zr 290 184 [.ref 278, .int d, .int x, .int y, .int (nI j), .int units, .int price, .int k7, .int (nI (25 * n)), .int (nI L.length), .int (nI i), v11] [] V P := by
  intro r
  induction r with
  | zero =>
    intro i V v11 hi hV
    have : i = L.length := by omega
    subst this
    rw [r290_184]
    simp (disch := omega) only [r290_186, r290_188, xinbT, xixT, leT, leF, ltT, ltF, ngF, psT, n1F, n2F, km2, km3, km4, km5, km10, km15, km25, kl8, kl14, kl24, kl34, kl274, kl354, kl384, kr1, kr2, kr3, kr4, kr5, kr6, kr7, kr8, kr9, kaa, lb0, lb1, lb2, lb3, lb4, lb5, lb6, lb7, li0, li1, li2, li3, li4, li5, li6, li7, true_and, and_true, Option.some.injEq, exists_eq_left', Option.toList_some, Option.toList_none, List.cons_append, List.nil_append, xcat_nil, xcat_int, xcat_ref, xcat_long, not_true, not_false_iff, if_true, if_false, and_self, and_false, false_and, or_true, true_or, or_self, z01, z10, zle8, Nat.reduceAdd, Nat.reduceLeDiff]
    exact hP V v11 hV
  | succ r ih =>
    intro i V v11 hi hV
    have hst := hV.step (by omega) rfl
    have mx : ∀ V' : xMem, V'.1 = V.1 → V'.2.2 = V.2.2 → (∀ k, xI V' 279 k = xI V 279 k) → Mx V' g D s nl np nb nc nr nh nk := fun V' e1 e2 e3 => ⟨by rw [shp (e1.trans hV.1) (congrArg (fun q => q.2) (e2.trans hV.2.1))]; exact hx.1, hx.2.1, by rw [show xI V' 279 = xI W 279 from funext fun k => (e3 k).trans (hV.2.2.1 279 k (by omega) (by omega))]; exact hx.2.2⟩
    have m0 := mx V rfl rfl (fun _ => rfl)
    have e0 := hV.2.2.2.1 i (by omega)
    have m1 := mx (xsI V 286 (25 * n + 9 + 4 * i) (L.getD i 0)) rfl rfl (fun k => xI_ne (by omega))
    have m2 := mx (xsI (xsI V 286 (25 * n + 9 + 4 * i) (L.getD i 0)) 286 (25 * n + 9 + 4 * i + 1) (tRate g (D + 12) nr (L.getD i 0) (nI j) d)) rfl rfl (fun k => by rw [xI_ne (by omega), xI_ne (by omega)])
    have m3 := mx (xsI (xsI (xsI V 286 (25 * n + 9 + 4 * i) (L.getD i 0)) 286 (25 * n + 9 + 4 * i + 1) (tRate g (D + 12) nr (L.getD i 0) (nI j) d)) 286 (25 * n + 9 + 4 * i + 2) (tCap g (D + 12) nk (L.getD i 0) (nI j))) rfl rfl (fun k => by rw [xI_ne (by omega), xI_ne (by omega), xI_ne (by omega)])
    have rt := fun P => rateOf_run (p := L.getD i 0) (d := d) (P := P) m1.1 m1.2.1.1 m1.2.2 m1.2.1.2.2.2.1 hj
    have ct := fun P => capOf_run (p := L.getD i 0) (P := P) m2.1 m2.2.1.1 m2.2.2 m2.2.1.2.2.2.1 hj
    have ft := fun P => isFreeM_run (p := L.getD i 0) (d := d) (price := price) (P := P) m3.1 m3.2.1.1 m3.2.2 hj
    obtain ⟨h0, -, -, -, -, -, r17, -, ⟨i4, n4⟩, -⟩ := m0.cf
    obtain ⟨-, ⟨-, -, -, -, -, -, -, r19, -⟩, -, -, -, -, -, -, -, ⟨j6, n6⟩, -⟩ := m0.1
    have ih := fun V v11 => ih (i + 1) V v11 (by omega)
    rw [r290_184]
    cases hF : tFree g (D + 12) nh (L.getD i 0) (nI j) d price
    · rw [hF, bI_f] at ft
      simp only [hF, bI_f] at hst
      simp (disch := omega) only [r290_186, r290_188, r290_191, r290_193, r290_195, r290_196, r290_197, r290_199, r290_200, r290_201, r290_203, r290_204, r290_207, r290_209, r290_210, r290_213, r290_215, r290_216, r290_217, r290_218, r290_221, r290_223, r290_224, r290_225, r290_226, r290_227, r290_230, r290_232, r290_233, r290_235, r290_236, r290_239, r290_240, r290_241, r290_244, r290_246, r290_247, r290_248, r290_249, r290_250, r290_253, r290_255, r290_256, r290_258, r290_261, r290_262, r290_263, r290_266, r290_268, r290_269, r290_270, r290_271, r290_272, r290_275, r290_277, r290_278, r290_280, r290_281, r290_283, r290_286, r290_289, r290_290, r290_293, r290_294, r290_295, r290_298, h0, r17, r19, i4, n4, j6, n6, e0, rt, ct, ft, xIs_sI, xR_sI, xN_sI, xI_ne, xinbT, xixT, leT, leF, ltT, ltF, ngF, psT, n1F, n2F, km2, km3, km4, km5, km10, km15, km25, kl8, kl14, kl24, kl34, kl274, kl354, kl384, kr1, kr2, kr3, kr4, kr5, kr6, kr7, kr8, kr9, kaa, lb0, lb1, lb2, lb3, lb4, lb5, lb6, lb7, li0, li1, li2, li3, li4, li5, li6, li7, true_and, and_true, Option.some.injEq, exists_eq_left', Option.toList_some, Option.toList_none, List.cons_append, List.nil_append, xcat_nil, xcat_int, xcat_ref, xcat_long, not_true, not_false_iff, if_true, if_false, and_self, and_false, false_and, or_true, true_or, or_self, z01, z10, zle8, Nat.reduceAdd, Nat.reduceLeDiff]
      exact ih _ _ hst
    · rw [hF, bI_t] at ft
      simp only [hF, bI_t] at hst
      simp (disch := omega) only [r290_186, r290_188, r290_191, r290_193, r290_195, r290_196, r290_197, r290_199, r290_200, r290_201, r290_203, r290_204, r290_207, r290_209, r290_210, r290_213, r290_215, r290_216, r290_217, r290_218, r290_221, r290_223, r290_224, r290_225, r290_226, r290_227, r290_230, r290_232, r290_233, r290_235, r290_236, r290_239, r290_240, r290_241, r290_244, r290_246, r290_247, r290_248, r290_249, r290_250, r290_253, r290_255, r290_256, r290_258, r290_261, r290_262, r290_263, r290_266, r290_268, r290_269, r290_270, r290_271, r290_272, r290_275, r290_277, r290_278, r290_280, r290_281, r290_283, r290_286, r290_289, r290_290, r290_293, r290_294, r290_295, r290_298, h0, r17, r19, i4, n4, j6, n6, e0, rt, ct, ft, xIs_sI, xR_sI, xN_sI, xI_ne, xinbT, xixT, leT, leF, ltT, ltF, ngF, psT, n1F, n2F, km2, km3, km4, km5, km10, km15, km25, kl8, kl14, kl24, kl34, kl274, kl354, kl384, kr1, kr2, kr3, kr4, kr5, kr6, kr7, kr8, kr9, kaa, lb0, lb1, lb2, lb3, lb4, lb5, lb6, lb7, li0, li1, li2, li3, li4, li5, li6, li7, true_and, and_true, Option.some.injEq, exists_eq_left', Option.toList_some, Option.toList_none, List.cons_append, List.nil_append, xcat_nil, xcat_int, xcat_ref, xcat_long, not_true, not_false_iff, if_true, if_false, and_self, and_false, false_and, or_true, true_or, or_self, z01, z10, zle8, Nat.reduceAdd, Nat.reduceLeDiff]
      exact ih _ _ hst
theorem saleM_t {W : xMem} {k7 : Int32} {j px py : Nat} (hx : Mx W g D s nl np nb nc nr nh nk) (hj : j < nc) (hn : n < 40) (h8 : na ≤ 8) (h20 : xI W 278 20 = nI n) (h31 : xI W 278 31 = nI na) (hx4 : px ≤ 40) (hy4 : py ≤ 40)
    (hP : ∀ V v, SlM W V n (dStk g D nb np nl d (nI px) (nI py)).length (dStk g D nb np nl d (nI px) (nI py)) d (nI px) (nI py) (nI j) units price (fun q => tRate g (D + 12) nr q (nI j) d) (fun q => tCap g (D + 12) nk q (nI j)) (fun q => tFree g (D + 12) nh q (nI j) d price) → Kept V v 278 31 292 na 0 (nI n) units → P (some (.int (nI n))) (mGood (xsI v 278 20 (nI (n + 1))))) : zr 290 61 [.ref 278, .int d, .int (nI px), .int (nI py), .int (nI j), .int units, .int price, .int k7, .null, .null, .null, .null] [] W P := by
  have hb := hx.2.1.1.b
  have hl : (dStk g D nb np nl d (nI px) (nI py)).length ≤ nl := dStk_len
  have ls := fun P => laysStack_run (P := P) (d := d) (ra := 284) hx.1 hx.2.1.1 hx.2.2 hx.2.1.2.1 hx.2.1.2.2.1 (Or.inl rfl) hx4 hy4
  obtain ⟨h0, -, -, -, -, -, r17, -⟩ := hx.cf
  obtain ⟨-, ⟨-, -, -, -, -, -, -, r19, -⟩, -, -, -, -, -, -, -, ⟨j6, n6⟩, -⟩ := hx.1
  generalize dStk g D nb np nl d (nI px) (nI py) = L at *
  simp (disch := omega) only [r290_61, r290_63, r290_64, r290_67, r290_68, r290_70, r290_71, r290_72, r290_73, r290_74, r290_75, r290_78, r290_81, r290_83, r290_84, r290_87, r290_89, r290_90, r290_91, r290_92, r290_93, r290_94, r290_97, r290_99, r290_100, r290_101, r290_102, r290_103, r290_104, r290_107, r290_109, r290_110, r290_111, r290_112, r290_113, r290_114, r290_117, r290_119, r290_120, r290_121, r290_123, r290_124, r290_125, r290_128, r290_130, r290_131, r290_132, r290_134, r290_135, r290_136, r290_139, r290_141, r290_142, r290_143, r290_145, r290_146, r290_147, r290_150, r290_152, r290_154, r290_155, r290_157, r290_158, r290_159, r290_162, r290_164, r290_166, r290_167, r290_169, r290_170, r290_171, r290_174, r290_176, r290_178, r290_179, r290_180, r290_181, r290_182, h0, r17, r19, j6, n6, h20, ls, xIs_row, xR_row, xN_row, xIs_sI, xR_sI, xN_sI, Int32.add_zero, xinbT, xixT, leT, leF, ltT, ltF, ngF, psT, n1F, n2F, km2, km3, km4, km5, km10, km15, km25, kl8, kl14, kl24, kl34, kl274, kl354, kl384, kr1, kr2, kr3, kr4, kr5, kr6, kr7, kr8, kr9, kaa, lb0, lb1, lb2, lb3, lb4, lb5, lb6, lb7, li0, li1, li2, li3, li4, li5, li6, li7, true_and, and_true, Option.some.injEq, exists_eq_left', Option.toList_some, Option.toList_none, List.cons_append, List.nil_append, xcat_nil, xcat_int, xcat_ref, xcat_long, not_true, not_false_iff, if_true, if_false, and_self, and_false, false_and, or_true, true_or, or_self, z01, z10, zle8, Nat.reduceAdd, Nat.reduceLeDiff]
  refine saleM_loop hx hj hn (by omega) (fun V v11 hV => ?_) L.length 0 _ .null (by omega) ⟨rfl, rfl, fun a k q1 q2 => ?_, fun k hk => ?_, fun k q => ?_, ⟨?_, ?_, ?_, ?_, ?_, ?_, ?_, ?_, ?_⟩, fun t ht => absurd ht (by omega)⟩
  · have hMV : sMd V := by rw [shp hV.1 (congrArg (fun q => q.2) hV.2.1)]; exact hx.1
    have e20 : xI V 278 20 = nI n := (hV.2.2.1 278 20 (by omega) (by omega)).trans h20
    have e31 : xI V 278 31 = nI na := (hV.2.2.1 278 31 (by omega) (by omega)).trans h31
    simp only [r290_301, r290_302, r290_303, r290_304, r290_307, r290_309, hMV.1, e20, true_and, and_true, Option.some.injEq, exists_eq_left', Option.toList_some, Option.toList_none, List.cons_append, List.nil_append, xcat_nil, xcat_int, xcat_ref, xcat_long, not_true, not_false_iff, if_true, if_false, and_self, and_false, false_and, or_true, true_or, or_self, z01, z10, zle8, Nat.reduceAdd, Nat.reduceLeDiff]
    refine rem_run hMV e31 h8 (fun v hv => ?_)
    have hMv : sMd v := by rw [shp hv.1 (congrArg (fun q => q.2) hv.2.1)]; exact hMV
    have v20 : xI v 278 20 = nI n := (hv.2.2.2.1 278 20 (by omega) (by omega) (by omega) (by omega)).trans e20
    have i1 : xIs (xsI v 278 20 (nI (n + 1))) 278 11 := hMv.1
    have m1 : nI (n + 1) - 1 = nI n := by rw [← nI_1]; exact Int32.add_sub_cancel ..
    simp only [r290_312, r290_313, r290_314, r290_317, r290_318, r290_319, r290_322, r290_323, r290_324, r290_327, r290_328, r290_329, r290_332, hMv.1, v20, kr1, i1, xI_at, m1, good_run i1, true_and, and_true, Option.some.injEq, exists_eq_left', Option.toList_some, Option.toList_none, List.cons_append, List.nil_append, xcat_nil, xcat_int, xcat_ref, xcat_long, not_true, not_false_iff, if_true, if_false, and_self, and_false, false_and, or_true, true_or, or_self, z01, z10, zle8, Nat.reduceAdd, Nat.reduceLeDiff]
    exact hP V v hV hv
  · simp (disch := omega) only [xI_ne]
    rw [xIf_row q1]
  · simp (disch := omega) only [xI_ne]
    exact xI_row hk
  · simp (disch := omega) only [xI_ne]
    rw [xIf_row (by omega)]
  all_goals simp (disch := omega) only [xI_ate, xI_ne]
end
