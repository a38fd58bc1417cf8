/-! QUERIES of points: what class and model answer -/
section
variable {u w g : xMem} {P : Option Value → xMem → Prop} {D E s nl np nb nc nr nh nk n nf na f : Nat} {p q d x y c e k a t i l what many layer till price units : Int32} {op : Bool}
theorem Lk.ch (hk : Lk u D nb np d) (h : okD u D s nl np nb nc nr nh nk) : okCh (xI u (D + 10)) (xI u (D + 7)) np := by
  intro i hi h0
  rw [hk i hi] at h0 ⊢
  exact dCh_ok (d := d) h i hi h0
/-- the place of a layer at a point -/
def dSet (u : xMem) (D nb np : Nat) (layer d x y : Int32) : Int32 := fSet (xI u (D + 2)) (dCh u D nb d) (xI u (D + 8)) (xI u (D + 9)) (xI u (D + 7)) layer x y np 0
theorem dSet_ag (hw : xag SC u w) (hD : D = 6 ∨ D = 34) : dSet w D nb np layer d x y = dSet u D nb np layer d x y := by
  unfold dSet
  rw [dCh_ag hw hD, agD hw hD 2 (by omega), agD hw hD 7 (by omega), agD hw hD 8 (by omega), agD hw hD 9 (by omega)]
theorem fw_lk (h : okD w D s nl np nb nc nr nh nk) (hk : Lk w D nb np d) (hw : xag SC u w) (hD : D = 6 ∨ D = 34) : zr 46 0 [.ref (D + 1), .int layer, .int x, .int y, .null] [] w P = P (some (.int (dSet u D nb np layer d x y))) w := by
  have hb := h.b
  have e : fSet (xI w (D + 2)) (xI w (D + 10)) (xI w (D + 8)) (xI w (D + 9)) (xI w (D + 7)) layer x y np 0 = dSet u D nb np layer d x y := by
    rw [← dSet_ag hw hD]
    exact fSet_congr np 0 (fun j _ hj => hk j (by omega))
  rw [← e]
  exact firstWith_run (g := D + 1) h.gr h.2.2.2.1.1 hb.2.2.1 (hk.ch h)
theorem settledC (h : St u D E s nl np nb nc nr nh nk n nf na f op) (hP : ∀ v, xag SC u v → xI v 0 6 = 0 → P (some (.int (dSet u D nb np layer d x y))) v) : zr 120 56 [.ref 0, .int layer, .int d, .int x, .int y] [] u P := by
  have hb := h.b
  have hD := h.1.d
  obtain ⟨⟨f1, f2, f3⟩, ⟨f4, f5, f6, f7, f8⟩, ⟨f9, f10, f11, f12⟩, ⟨f13, f14, f15, f16⟩, ⟨f17, f18, f19, f20, f21, f22⟩, ⟨f23, f24, f25, f26, f27⟩, f28, f29, f30⟩ := h.ok.cf
  obtain ⟨g1, g2, g3, g4, g5, g6⟩ := h.sp
  have g7 := h.isop
  simp only [r120_56, r120_57, r120_60, r120_63, r120_64, f1, f2, f3, f4, f5, f6, f7, f8, f9, f10, f11, f12, f13, f14, f15, f16, f17, f18, f19, f20, f21, f22, f23, f24, f25, f26, f27, f28, f29, f30, g1, g2, g3, g4, g5, g6, g7, true_and, and_true, Option.some.injEq, exists_eq_left', Option.toList_some, Option.toList_none, List.cons_append, List.nil_append, xcat_nil, xcat_int, xcat_ref, xcat_long, not_true, not_false_iff, if_true, if_false, and_self, and_false, false_and, or_true, true_or, or_self, z01, z10, zle8, Nat.reduceAdd, Nat.reduceLeDiff]
  refine look_lk h.ok hD (fun w hw hk => ?_)
  have hw := hw.scL hD
  have h' := h.ag hw
  have e := fun P => fw_lk (P := P) (layer := layer) (x := x) (y := y) h'.ok hk hw hD
  have hb := h'.b
  have hD := h'.1.d
  obtain ⟨⟨f1, f2, f3⟩, ⟨f4, f5, f6, f7, f8⟩, ⟨f9, f10, f11, f12⟩, ⟨f13, f14, f15, f16⟩, ⟨f17, f18, f19, f20, f21, f22⟩, ⟨f23, f24, f25, f26, f27⟩, f28, f29, f30⟩ := h'.ok.cf
  obtain ⟨g1, g2, g3, g4, g5, g6⟩ := h'.sp
  have g7 := h'.isop
  simp only [r120_67, r120_68, r120_69, r120_72, r120_75, r120_76, r120_77, r120_79, r120_82, r120_85, f1, f2, f3, f4, f5, f6, f7, f8, f9, f10, f11, f12, f13, f14, f15, f16, f17, f18, f19, f20, f21, f22, f23, f24, f25, f26, f27, f28, f29, f30, g1, g2, g3, g4, g5, g6, g7, e, grant_run g1, true_and, and_true, Option.some.injEq, exists_eq_left', Option.toList_some, Option.toList_none, List.cons_append, List.nil_append, xcat_nil, xcat_int, xcat_ref, xcat_long, not_true, not_false_iff, if_true, if_false, and_self, and_false, false_and, or_true, true_or, or_self, z01, z10, zle8, Nat.reduceAdd, Nat.reduceLeDiff]
  exact QC.good hP hw
theorem stackC (h : St u D E s nl np nb nc nr nh nk n nf na f op) (hP : ∀ v, xag SC u v → xI v 0 6 = 0 → P (some (.int (nI (dStk u D nb np nl d x y).length))) v) : zr 121 35 [.ref 0, .int d, .int x, .int y] [] u P := by
  have hb := h.b
  have hD := h.1.d
  obtain ⟨⟨f1, f2, f3⟩, ⟨f4, f5, f6, f7, f8⟩, ⟨f9, f10, f11, f12⟩, ⟨f13, f14, f15, f16⟩, ⟨f17, f18, f19, f20, f21, f22⟩, ⟨f23, f24, f25, f26, f27⟩, f28, f29, f30⟩ := h.ok.cf
  obtain ⟨g1, g2, g3, g4, g5, g6⟩ := h.sp
  have g7 := h.isop
  simp only [r121_35, r121_36, r121_39, r121_42, r121_43, f1, f2, f3, f4, f5, f6, f7, f8, f9, f10, f11, f12, f13, f14, f15, f16, f17, f18, f19, f20, f21, f22, f23, f24, f25, f26, f27, f28, f29, f30, g1, g2, g3, g4, g5, g6, g7, true_and, and_true, Option.some.injEq, exists_eq_left', Option.toList_some, Option.toList_none, List.cons_append, List.nil_append, xcat_nil, xcat_int, xcat_ref, xcat_long, not_true, not_false_iff, if_true, if_false, and_self, and_false, false_and, or_true, true_or, or_self, z01, z10, zle8, Nat.reduceAdd, Nat.reduceLeDiff]
  refine look_lk h.ok hD (fun w hw hk => ?_)
  have hw := hw.scL hD
  have h' := h.ag hw
  have hb := h'.b
  have hD := h'.1.d
  obtain ⟨⟨f1, f2, f3⟩, ⟨f4, f5, f6, f7, f8⟩, ⟨f9, f10, f11, f12⟩, ⟨f13, f14, f15, f16⟩, ⟨f17, f18, f19, f20, f21, f22⟩, ⟨f23, f24, f25, f26, f27⟩, f28, f29, f30⟩ := h'.ok.cf
  obtain ⟨g1, g2, g3, g4, g5, g6⟩ := h'.sp
  have g7 := h'.isop
  simp only [r121_46, r121_47, r121_50, r121_53, r121_54, r121_55, f1, f2, f3, f4, f5, f6, f7, f8, f9, f10, f11, f12, f13, f14, f15, f16, f17, f18, f19, f20, f21, f22, f23, f24, f25, f26, f27, f28, f29, f30, g1, g2, g3, g4, g5, g6, g7, true_and, and_true, Option.some.injEq, exists_eq_left', Option.toList_some, Option.toList_none, List.cons_append, List.nil_append, xcat_nil, xcat_int, xcat_ref, xcat_long, not_true, not_false_iff, if_true, if_false, and_self, and_false, false_and, or_true, true_or, or_self, z01, z10, zle8, Nat.reduceAdd, Nat.reduceLeDiff]
  refine pile_lk h'.ok hD hk (fun w2 hw2 hk2 hp2 => ?_)
  have hw3 := hw.tr (hw2.scP hD)
  have h'' := h.ag hw3
  rw [dStk_ag hw hD] at hp2
  have hp3 := hp2.1
  have hb := h''.b
  have hD := h''.1.d
  obtain ⟨⟨f1, f2, f3⟩, ⟨f4, f5, f6, f7, f8⟩, ⟨f9, f10, f11, f12⟩, ⟨f13, f14, f15, f16⟩, ⟨f17, f18, f19, f20, f21, f22⟩, ⟨f23, f24, f25, f26, f27⟩, f28, f29, f30⟩ := h''.ok.cf
  obtain ⟨g1, g2, g3, g4, g5, g6⟩ := h''.sp
  have g7 := h''.isop
  simp only [r121_58, r121_59, r121_60, r121_63, r121_66, r121_69, r121_72, f1, f2, f3, f4, f5, f6, f7, f8, f9, f10, f11, f12, f13, f14, f15, f16, f17, f18, f19, f20, f21, f22, f23, f24, f25, f26, f27, f28, f29, f30, g1, g2, g3, g4, g5, g6, g7, hp3, grant_run g1, true_and, and_true, Option.some.injEq, exists_eq_left', Option.toList_some, Option.toList_none, List.cons_append, List.nil_append, xcat_nil, xcat_int, xcat_ref, xcat_long, not_true, not_false_iff, if_true, if_false, and_self, and_false, false_and, or_true, true_or, or_self, z01, z10, zle8, Nat.reduceAdd, Nat.reduceLeDiff]
  exact QC.good hP hw3
theorem stackAtC_t (h : St u D E s nl np nb nc nr nh nk n nf na f op) {j : Nat} (hj : j < (dStk u D nb np nl d x y).length) (hP : ∀ v, xag SC u v → xI v 0 6 = 0 → P (some (.int ((dStk u D nb np nl d x y).getD j 0))) v) : zr 122 35 [.ref 0, .int d, .int x, .int y, .int (nI j), .null] [] u P := by
  have hb := h.b
  have hD := h.1.d
  obtain ⟨⟨f1, f2, f3⟩, ⟨f4, f5, f6, f7, f8⟩, ⟨f9, f10, f11, f12⟩, ⟨f13, f14, f15, f16⟩, ⟨f17, f18, f19, f20, f21, f22⟩, ⟨f23, f24, f25, f26, f27⟩, f28, f29, f30⟩ := h.ok.cf
  obtain ⟨g1, g2, g3, g4, g5, g6⟩ := h.sp
  have g7 := h.isop
  have hl : (dStk u D nb np nl d x y).length ≤ nl := dStk_len
  simp only [r122_35, r122_36, r122_39, r122_42, r122_44, r122_46, r122_47, f1, f2, f3, f4, f5, f6, f7, f8, f9, f10, f11, f12, f13, f14, f15, f16, f17, f18, f19, f20, f21, f22, f23, f24, f25, f26, f27, f28, f29, f30, g1, g2, g3, g4, g5, g6, g7, true_and, and_true, Option.some.injEq, exists_eq_left', Option.toList_some, Option.toList_none, List.cons_append, List.nil_append, xcat_nil, xcat_int, xcat_ref, xcat_long, not_true, not_false_iff, if_true, if_false, and_self, and_false, false_and, or_true, true_or, or_self, z01, z10, zle8, Nat.reduceAdd, Nat.reduceLeDiff]
  refine look_lk h.ok hD (fun w hw hk => ?_)
  have hw := hw.scL hD
  have h' := h.ag hw
  have hb := h'.b
  have hD := h'.1.d
  obtain ⟨⟨f1, f2, f3⟩, ⟨f4, f5, f6, f7, f8⟩, ⟨f9, f10, f11, f12⟩, ⟨f13, f14, f15, f16⟩, ⟨f17, f18, f19, f20, f21, f22⟩, ⟨f23, f24, f25, f26, f27⟩, f28, f29, f30⟩ := h'.ok.cf
  obtain ⟨g1, g2, g3, g4, g5, g6⟩ := h'.sp
  have g7 := h'.isop
  simp only [r122_50, r122_52, r122_53, r122_54, f1, f2, f3, f4, f5, f6, f7, f8, f9, f10, f11, f12, f13, f14, f15, f16, f17, f18, f19, f20, f21, f22, f23, f24, f25, f26, f27, f28, f29, f30, g1, g2, g3, g4, g5, g6, g7, true_and, and_true, Option.some.injEq, exists_eq_left', Option.toList_some, Option.toList_none, List.cons_append, List.nil_append, xcat_nil, xcat_int, xcat_ref, xcat_long, not_true, not_false_iff, if_true, if_false, and_self, and_false, false_and, or_true, true_or, or_self, z01, z10, zle8, Nat.reduceAdd, Nat.reduceLeDiff]
  refine pile_lk h'.ok hD hk (fun w2 hw2 hk2 hp2 => ?_)
  have hw3 := hw.tr (hw2.scP hD)
  have h'' := h.ag hw3
  rw [dStk_ag hw hD] at hp2
  obtain ⟨hp3, hp4⟩ := hp2
  have hp4 := hp4 j hj
  have c0 : 0 ≤ nI j ∧ nI j < nI (dStk u D nb np nl d x y).length := ⟨nI_pos' (by omega), (nI_ltI (by omega) (by omega)).mpr hj⟩
  have hb := h''.b
  have hD := h''.1.d
  obtain ⟨⟨f1, f2, f3⟩, ⟨f4, f5, f6, f7, f8⟩, ⟨f9, f10, f11, f12⟩, ⟨f13, f14, f15, f16⟩, ⟨f17, f18, f19, f20, f21, f22⟩, ⟨f23, f24, f25, f26, f27⟩, f28, f29, f30⟩ := h''.ok.cf
  obtain ⟨g1, g2, g3, g4, g5, g6⟩ := h''.sp
  have g7 := h''.isop
  simp (disch := omega) only [r122_57, r122_59, r122_60, r122_62, r122_65, r122_66, r122_67, r122_70, r122_73, r122_74, r122_76, r122_79, r122_81, r122_82, r122_85, r122_88, r122_89, r122_90, r122_93, f1, f2, f3, f4, f5, f6, f7, f8, f9, f10, f11, f12, f13, f14, f15, f16, f17, f18, f19, f20, f21, f22, f23, f24, f25, f26, f27, f28, f29, f30, g1, g2, g3, g4, g5, g6, g7, hp3, hp4, within_run, predT, c0, decide_true, bI_t, grant_run g1, xinbT, xixT, leT, leF, ltT, ltF, ngF, psT, n1F, n2F, km2, km3, km4, km5, km10, km15, km25, kl8, kl14, kl24, kl34, kl274, kl354, kl384, kr1, kr2, kr3, kr4, kr5, kr6, kr7, kr8, kr9, kaa, lb0, lb1, lb2, lb3, lb4, lb5, lb6, lb7, li0, li1, li2, li3, li4, li5, li6, li7, true_and, and_true, Option.some.injEq, exists_eq_left', Option.toList_some, Option.toList_none, List.cons_append, List.nil_append, xcat_nil, xcat_int, xcat_ref, xcat_long, not_true, not_false_iff, if_true, if_false, and_self, and_false, false_and, or_true, true_or, or_self, z01, z10, zle8, Nat.reduceAdd, Nat.reduceLeDiff]
  exact QC.good hP hw3
theorem stackAtC_f (h : St u D E s nl np nb nc nr nh nk n nf na f op) (hj : ¬ (0 ≤ i ∧ i < nI (dStk u D nb np nl d x y).length)) (hP : ∀ v, xag SC u v → xI v 0 6 = 1 → P (some (.int (-1))) v) : zr 122 35 [.ref 0, .int d, .int x, .int y, .int i, .null] [] u P := by
  have hb := h.b
  have hD := h.1.d
  obtain ⟨⟨f1, f2, f3⟩, ⟨f4, f5, f6, f7, f8⟩, ⟨f9, f10, f11, f12⟩, ⟨f13, f14, f15, f16⟩, ⟨f17, f18, f19, f20, f21, f22⟩, ⟨f23, f24, f25, f26, f27⟩, f28, f29, f30⟩ := h.ok.cf
  obtain ⟨g1, g2, g3, g4, g5, g6⟩ := h.sp
  have g7 := h.isop
  have hl : (dStk u D nb np nl d x y).length ≤ nl := dStk_len
  simp only [r122_35, r122_36, r122_39, r122_42, r122_44, r122_46, r122_47, f1, f2, f3, f4, f5, f6, f7, f8, f9, f10, f11, f12, f13, f14, f15, f16, f17, f18, f19, f20, f21, f22, f23, f24, f25, f26, f27, f28, f29, f30, g1, g2, g3, g4, g5, g6, g7, true_and, and_true, Option.some.injEq, exists_eq_left', Option.toList_some, Option.toList_none, List.cons_append, List.nil_append, xcat_nil, xcat_int, xcat_ref, xcat_long, not_true, not_false_iff, if_true, if_false, and_self, and_false, false_and, or_true, true_or, or_self, z01, z10, zle8, Nat.reduceAdd, Nat.reduceLeDiff]
  refine look_lk h.ok hD (fun w hw hk => ?_)
  have hw := hw.scL hD
  have h' := h.ag hw
  have hb := h'.b
  have hD := h'.1.d
  obtain ⟨⟨f1, f2, f3⟩, ⟨f4, f5, f6, f7, f8⟩, ⟨f9, f10, f11, f12⟩, ⟨f13, f14, f15, f16⟩, ⟨f17, f18, f19, f20, f21, f22⟩, ⟨f23, f24, f25, f26, f27⟩, f28, f29, f30⟩ := h'.ok.cf
  obtain ⟨g1, g2, g3, g4, g5, g6⟩ := h'.sp
  have g7 := h'.isop
  simp only [r122_50, r122_52, r122_53, r122_54, f1, f2, f3, f4, f5, f6, f7, f8, f9, f10, f11, f12, f13, f14, f15, f16, f17, f18, f19, f20, f21, f22, f23, f24, f25, f26, f27, f28, f29, f30, g1, g2, g3, g4, g5, g6, g7, true_and, and_true, Option.some.injEq, exists_eq_left', Option.toList_some, Option.toList_none, List.cons_append, List.nil_append, xcat_nil, xcat_int, xcat_ref, xcat_long, not_true, not_false_iff, if_true, if_false, and_self, and_false, false_and, or_true, true_or, or_self, z01, z10, zle8, Nat.reduceAdd, Nat.reduceLeDiff]
  refine pile_lk h'.ok hD hk (fun w2 hw2 hk2 hp2 => ?_)
  have hw3 := hw.tr (hw2.scP hD)
  have h'' := h.ag hw3
  rw [dStk_ag hw hD] at hp2
  obtain ⟨hp3, hp4⟩ := hp2
  have hb := h''.b
  have hD := h''.1.d
  obtain ⟨⟨f1, f2, f3⟩, ⟨f4, f5, f6, f7, f8⟩, ⟨f9, f10, f11, f12⟩, ⟨f13, f14, f15, f16⟩, ⟨f17, f18, f19, f20, f21, f22⟩, ⟨f23, f24, f25, f26, f27⟩, f28, f29, f30⟩ := h''.ok.cf
  obtain ⟨g1, g2, g3, g4, g5, g6⟩ := h''.sp
  have g7 := h''.isop
  simp (disch := omega) only [r122_57, r122_59, r122_60, r122_62, r122_65, r122_66, r122_67, r122_70, r122_73, r122_74, r122_76, r122_79, r122_81, r122_82, r122_85, r122_88, r122_89, r122_90, r122_93, f1, f2, f3, f4, f5, f6, f7, f8, f9, f10, f11, f12, f13, f14, f15, f16, f17, f18, f19, f20, f21, f22, f23, f24, f25, f26, f27, f28, f29, f30, g1, g2, g3, g4, g5, g6, g7, hp3, within_run, predT, hj, decide_false, bI_f, refuse_run g1, true_and, and_true, Option.some.injEq, exists_eq_left', Option.toList_some, Option.toList_none, List.cons_append, List.nil_append, xcat_nil, xcat_int, xcat_ref, xcat_long, not_true, not_false_iff, if_true, if_false, and_self, and_false, false_and, or_true, true_or, or_self, z01, z10, zle8, Nat.reduceAdd, Nat.reduceLeDiff]
  exact QC.good hP hw3
def dShr (u : xMem) (D nb s : Nat) (d : Int32) (i j : Nat) : Int32 := sumN (fun yy => sumN (fSh (xI u (D + 8)) (xI u (D + 9)) (xI u (D + 7)) (dCh u D nb d i) (dCh u D nb d j) yy) (s + 1)) (s + 1)
theorem overlapC (h : St u D E s nl np nb nc nr nh nk n nf na f op) {i j : Nat} (hi : i < np) (hj : j < np) (hP : ∀ v, xag SC u v → xI v 0 6 = 0 → P (some (.int (dShr u D nb s d i j))) v) : zr 124 73 [.ref 0, .int (nI i), .int (nI j), .int d] [] u P := by
  have hb := h.b
  have hD := h.1.d
  obtain ⟨⟨f1, f2, f3⟩, ⟨f4, f5, f6, f7, f8⟩, ⟨f9, f10, f11, f12⟩, ⟨f13, f14, f15, f16⟩, ⟨f17, f18, f19, f20, f21, f22⟩, ⟨f23, f24, f25, f26, f27⟩, f28, f29, f30⟩ := h.ok.cf
  obtain ⟨g1, g2, g3, g4, g5, g6⟩ := h.sp
  have g7 := h.isop
  simp only [r124_73, r124_74, r124_77, r124_80, r124_81, f1, f2, f3, f4, f5, f6, f7, f8, f9, f10, f11, f12, f13, f14, f15, f16, f17, f18, f19, f20, f21, f22, f23, f24, f25, f26, f27, f28, f29, f30, g1, g2, g3, g4, g5, g6, g7, true_and, and_true, Option.some.injEq, exists_eq_left', Option.toList_some, Option.toList_none, List.cons_append, List.nil_append, xcat_nil, xcat_int, xcat_ref, xcat_long, not_true, not_false_iff, if_true, if_false, and_self, and_false, false_and, or_true, true_or, or_self, z01, z10, zle8, Nat.reduceAdd, Nat.reduceLeDiff]
  refine look_lk h.ok hD (fun w hw hk => ?_)
  have hw := hw.scL hD
  have h' := h.ag hw
  have hch := hk.ch h'.ok
  have e : ∀ P, zr 50 0 [.ref (D + 1), .int (nI i), .int (nI j), .null, .null, .null] [] w P = P (some (.int (dShr u D nb s d i j))) w := by
    intro P
    have e1 := shared_run (P := P) (g := D + 1) h'.ok.gr h'.ok.2.1.1 h'.ok.2.1.2 (i := i) (j := j) (by omega) (by omega) (hch i hi) (hch j hj)
    have e2 : dShr u D nb s d i j = sumN (fun yy => sumN (fSh (xI w (D + 8)) (xI w (D + 9)) (xI w (D + 7)) (xI w (D + 10) i) (xI w (D + 10) j) yy) (s + 1)) (s + 1) := by
      unfold dShr
      rw [hk i hi, hk j hj, dCh_ag hw hD, agD hw hD 7 (by omega), agD hw hD 8 (by omega), agD hw hD 9 (by omega)]
    rw [e2]
    exact e1
  have hb := h'.b
  have hD := h'.1.d
  obtain ⟨⟨f1, f2, f3⟩, ⟨f4, f5, f6, f7, f8⟩, ⟨f9, f10, f11, f12⟩, ⟨f13, f14, f15, f16⟩, ⟨f17, f18, f19, f20, f21, f22⟩, ⟨f23, f24, f25, f26, f27⟩, f28, f29, f30⟩ := h'.ok.cf
  obtain ⟨g1, g2, g3, g4, g5, g6⟩ := h'.sp
  have g7 := h'.isop
  simp only [r124_84, r124_85, r124_86, r124_89, r124_92, r124_93, r124_94, r124_97, r124_100, f1, f2, f3, f4, f5, f6, f7, f8, f9, f10, f11, f12, f13, f14, f15, f16, f17, f18, f19, f20, f21, f22, f23, f24, f25, f26, f27, f28, f29, f30, g1, g2, g3, g4, g5, g6, g7, e, grant_run g1, true_and, and_true, Option.some.injEq, exists_eq_left', Option.toList_some, Option.toList_none, List.cons_append, List.nil_append, xcat_nil, xcat_int, xcat_ref, xcat_long, not_true, not_false_iff, if_true, if_false, and_self, and_false, false_and, or_true, true_or, or_self, z01, z10, zle8, Nat.reduceAdd, Nat.reduceLeDiff]
  exact QC.good hP hw
def dPts (u : xMem) (D nb np s : Nat) (d : Int32) (i : Nat) : Int32 := sumN (fun yy => sumN (fStl (xI u (D + 2)) (dCh u D nb d) (xI u (D + 8)) (xI u (D + 9)) (xI u (D + 7)) np i yy) (s + 1)) (s + 1)
theorem fStl_congr {lay ch ch' X Y nc : Nat → Int32} {np i : Nat} (h : ∀ j, j < np → ch j = ch' j) : fStl lay ch X Y nc np i = fStl lay ch' X Y nc np i := by
  funext yy xx
  unfold fStl
  rw [fSet_congr np 0 (fun j _ hj => h j (by omega))]
theorem pointsC (h : St u D E s nl np nb nc nr nh nk n nf na f op) {i : Nat} (hi : i < np) (hP : ∀ v, xag SC u v → xI v 0 6 = 0 → P (some (.int (dPts u D nb np s d i))) v) : zr 125 27 [.ref 0, .int (nI i), .int d] [] u P := by
  have hb := h.b
  have hD := h.1.d
  obtain ⟨⟨f1, f2, f3⟩, ⟨f4, f5, f6, f7, f8⟩, ⟨f9, f10, f11, f12⟩, ⟨f13, f14, f15, f16⟩, ⟨f17, f18, f19, f20, f21, f22⟩, ⟨f23, f24, f25, f26, f27⟩, f28, f29, f30⟩ := h.ok.cf
  obtain ⟨g1, g2, g3, g4, g5, g6⟩ := h.sp
  have g7 := h.isop
  simp only [r125_27, r125_28, r125_31, r125_34, r125_35, f1, f2, f3, f4, f5, f6, f7, f8, f9, f10, f11, f12, f13, f14, f15, f16, f17, f18, f19, f20, f21, f22, f23, f24, f25, f26, f27, f28, f29, f30, g1, g2, g3, g4, g5, g6, g7, true_and, and_true, Option.some.injEq, exists_eq_left', Option.toList_some, Option.toList_none, List.cons_append, List.nil_append, xcat_nil, xcat_int, xcat_ref, xcat_long, not_true, not_false_iff, if_true, if_false, and_self, and_false, false_and, or_true, true_or, or_self, z01, z10, zle8, Nat.reduceAdd, Nat.reduceLeDiff]
  refine look_lk h.ok hD (fun w hw hk => ?_)
  have hw := hw.scL hD
  have h' := h.ag hw
  have hch := hk.ch h'.ok
  have e : ∀ P, zr 51 0 [.ref (D + 1), .int (nI i), .null, .null, .null] [] w P = P (some (.int (dPts u D nb np s d i))) w := by
    intro P
    have e1 := settled_run (P := P) (g := D + 1) h'.ok.gr h'.ok.2.1.1 h'.ok.2.1.2 h'.ok.2.2.2.1.1 h'.ok.2.2.2.1.2 hch hi
    have e2 : dPts u D nb np s d i = sumN (fun yy => sumN (fStl (xI w (D + 2)) (xI w (D + 10)) (xI w (D + 8)) (xI w (D + 9)) (xI w (D + 7)) np i yy) (s + 1)) (s + 1) := by
      unfold dPts
      rw [fStl_congr (ch := xI w (D + 10)) (ch' := dCh u D nb d) (fun j hj => by rw [hk j hj, dCh_ag hw hD]), agD hw hD 2 (by omega), agD hw hD 7 (by omega), agD hw hD 8 (by omega), agD hw hD 9 (by omega)]
    rw [e2]
    exact e1
  have hb := h'.b
  have hD := h'.1.d
  obtain ⟨⟨f1, f2, f3⟩, ⟨f4, f5, f6, f7, f8⟩, ⟨f9, f10, f11, f12⟩, ⟨f13, f14, f15, f16⟩, ⟨f17, f18, f19, f20, f21, f22⟩, ⟨f23, f24, f25, f26, f27⟩, f28, f29, f30⟩ := h'.ok.cf
  obtain ⟨g1, g2, g3, g4, g5, g6⟩ := h'.sp
  have g7 := h'.isop
  simp only [r125_38, r125_39, r125_40, r125_43, r125_46, r125_47, r125_50, r125_53, f1, f2, f3, f4, f5, f6, f7, f8, f9, f10, f11, f12, f13, f14, f15, f16, f17, f18, f19, f20, f21, f22, f23, f24, f25, f26, f27, f28, f29, f30, g1, g2, g3, g4, g5, g6, g7, e, grant_run g1, true_and, and_true, Option.some.injEq, exists_eq_left', Option.toList_some, Option.toList_none, List.cons_append, List.nil_append, xcat_nil, xcat_int, xcat_ref, xcat_long, not_true, not_false_iff, if_true, if_false, and_self, and_false, false_and, or_true, true_or, or_self, z01, z10, zle8, Nat.reduceAdd, Nat.reduceLeDiff]
  exact QC.good hP hw
def dMn1 (u : xMem) (D nb np nl : Nat) (d many : Int32) (yy xx : Nat) : Int32 := if nI (dStk u D nb np nl d (nI xx) (nI yy)).length = many then 1 else 0
def dMny (u : xMem) (D nb np nl s : Nat) (d many : Int32) : Int32 := sumN (fun yy => sumN (dMn1 u D nb np nl d many yy) (s + 1)) (s + 1)
theorem stackedC (h : St u D E s nl np nb nc nr nh nk n nf na f op) (hP : ∀ v, xag SC u v → xI v 0 6 = 0 → P (some (.int (dMny u D nb np nl s d many))) v) : zr 126 35 [.ref 0, .int many, .int d] [] u P := by
  have hb := h.b
  have hD := h.1.d
  obtain ⟨⟨f1, f2, f3⟩, ⟨f4, f5, f6, f7, f8⟩, ⟨f9, f10, f11, f12⟩, ⟨f13, f14, f15, f16⟩, ⟨f17, f18, f19, f20, f21, f22⟩, ⟨f23, f24, f25, f26, f27⟩, f28, f29, f30⟩ := h.ok.cf
  obtain ⟨g1, g2, g3, g4, g5, g6⟩ := h.sp
  have g7 := h.isop
  simp only [r126_35, r126_36, r126_39, r126_42, r126_43, f1, f2, f3, f4, f5, f6, f7, f8, f9, f10, f11, f12, f13, f14, f15, f16, f17, f18, f19, f20, f21, f22, f23, f24, f25, f26, f27, f28, f29, f30, g1, g2, g3, g4, g5, g6, g7, true_and, and_true, Option.some.injEq, exists_eq_left', Option.toList_some, Option.toList_none, List.cons_append, List.nil_append, xcat_nil, xcat_int, xcat_ref, xcat_long, not_true, not_false_iff, if_true, if_false, and_self, and_false, false_and, or_true, true_or, or_self, z01, z10, zle8, Nat.reduceAdd, Nat.reduceLeDiff]
  refine look_lk h.ok hD (fun w hw hk => ?_)
  have hw := hw.scL hD
  have h' := h.ag hw
  have hch := hk.ch h'.ok
  have e2 : (fun yy => sumN (fMny (xI w (D + 2)) (xI w (D + 3)) (xI w (D + 10)) (xI w (D + 8)) (xI w (D + 9)) (xI w (D + 7)) np nl many yy) (s + 1)) = fun yy => sumN (dMn1 u D nb np nl d many yy) (s + 1) := by
    funext yy
    congr 1
    funext xx
    unfold fMny dMn1
    rw [← dStk_ag hw hD]
    unfold dStk
    rw [fStk_congr hk]
  have hb := h'.b
  have hD := h'.1.d
  obtain ⟨⟨f1, f2, f3⟩, ⟨f4, f5, f6, f7, f8⟩, ⟨f9, f10, f11, f12⟩, ⟨f13, f14, f15, f16⟩, ⟨f17, f18, f19, f20, f21, f22⟩, ⟨f23, f24, f25, f26, f27⟩, f28, f29, f30⟩ := h'.ok.cf
  obtain ⟨g1, g2, g3, g4, g5, g6⟩ := h'.sp
  have g7 := h'.isop
  simp only [r126_46, r126_47, r126_48, r126_51, r126_54, r126_55, f1, f2, f3, f4, f5, f6, f7, f8, f9, f10, f11, f12, f13, f14, f15, f16, f17, f18, f19, f20, f21, f22, f23, f24, f25, f26, f27, f28, f29, f30, g1, g2, g3, g4, g5, g6, g7, true_and, and_true, Option.some.injEq, exists_eq_left', Option.toList_some, Option.toList_none, List.cons_append, List.nil_append, xcat_nil, xcat_int, xcat_ref, xcat_long, not_true, not_false_iff, if_true, if_false, and_self, and_false, false_and, or_true, true_or, or_self, z01, z10, zle8, Nat.reduceAdd, Nat.reduceLeDiff]
  refine piled_run (g := D + 1) h'.ok.gr h'.ok.2.1.1 h'.ok.2.1.2 h'.ok.2.2.2.1.1 h'.ok.2.2.2.1.2 h'.ok.2.2.1.1 h'.ok.2.2.1.2 hch (fun w2 hw2 => ?_)
  have e3 : sumN (fun yy => sumN (fMny (xI w (D + 1 + 1)) (xI w (D + 1 + 2)) (xI w (D + 1 + 9)) (xI w (D + 1 + 7)) (xI w (D + 1 + 8)) (xI w (D + 1 + 6)) np nl many yy) (s + 1)) (s + 1) = dMny u D nb np nl s d many := congrArg (fun F => sumN F (s + 1)) e2
  rw [e3]
  have hw3 := hw.tr (hw2.scP hD)
  have h'' := h.ag hw3
  have hb := h''.b
  have hD := h''.1.d
  obtain ⟨⟨f1, f2, f3⟩, ⟨f4, f5, f6, f7, f8⟩, ⟨f9, f10, f11, f12⟩, ⟨f13, f14, f15, f16⟩, ⟨f17, f18, f19, f20, f21, f22⟩, ⟨f23, f24, f25, f26, f27⟩, f28, f29, f30⟩ := h''.ok.cf
  obtain ⟨g1, g2, g3, g4, g5, g6⟩ := h''.sp
  have g7 := h''.isop
  simp only [r126_58, r126_61, f1, f2, f3, f4, f5, f6, f7, f8, f9, f10, f11, f12, f13, f14, f15, f16, f17, f18, f19, f20, f21, f22, f23, f24, f25, f26, f27, f28, f29, f30, g1, g2, g3, g4, g5, g6, g7, grant_run g1, true_and, and_true, Option.some.injEq, exists_eq_left', Option.toList_some, Option.toList_none, List.cons_append, List.nil_append, xcat_nil, xcat_int, xcat_ref, xcat_long, not_true, not_false_iff, if_true, if_false, and_self, and_false, false_and, or_true, true_or, or_self, z01, z10, zle8, Nat.reduceAdd, Nat.reduceLeDiff]
  exact QC.good hP hw3
theorem stackRateC (h : St u D E s nl np nb nc nr nh nk n nf na f op) {j : Nat} (hj : j < nc) (hP : ∀ v, xag SC u v → xI v 0 6 = 0 → P (some (.int (dSr u D nb np nl nr (nI j) d x y))) v) : zr 130 37 [.ref 0, .int d, .int x, .int y, .int (nI j)] [] u P := by
  have hb := h.b
  have hD := h.1.d
  obtain ⟨⟨f1, f2, f3⟩, ⟨f4, f5, f6, f7, f8⟩, ⟨f9, f10, f11, f12⟩, ⟨f13, f14, f15, f16⟩, ⟨f17, f18, f19, f20, f21, f22⟩, ⟨f23, f24, f25, f26, f27⟩, f28, f29, f30⟩ := h.ok.cf
  obtain ⟨g1, g2, g3, g4, g5, g6⟩ := h.sp
  have g7 := h.isop
  simp only [r130_37, r130_38, r130_41, r130_42, r130_44, f1, f2, f3, f4, f5, f6, f7, f8, f9, f10, f11, f12, f13, f14, f15, f16, f17, f18, f19, f20, f21, f22, f23, f24, f25, f26, f27, f28, f29, f30, g1, g2, g3, g4, g5, g6, g7, true_and, and_true, Option.some.injEq, exists_eq_left', Option.toList_some, Option.toList_none, List.cons_append, List.nil_append, xcat_nil, xcat_int, xcat_ref, xcat_long, not_true, not_false_iff, if_true, if_false, and_self, and_false, false_and, or_true, true_or, or_self, z01, z10, zle8, Nat.reduceAdd, Nat.reduceLeDiff]
  refine lookAt_run hD hj h.ok (fun w hw hk ht => ?_)
  have h' := h.ag hw
  have hb := h'.b
  have hD := h'.1.d
  obtain ⟨⟨f1, f2, f3⟩, ⟨f4, f5, f6, f7, f8⟩, ⟨f9, f10, f11, f12⟩, ⟨f13, f14, f15, f16⟩, ⟨f17, f18, f19, f20, f21, f22⟩, ⟨f23, f24, f25, f26, f27⟩, f28, f29, f30⟩ := h'.ok.cf
  obtain ⟨g1, g2, g3, g4, g5, g6⟩ := h'.sp
  have g7 := h'.isop
  simp only [r130_47, r130_48, r130_49, r130_52, r130_53, r130_54, f1, f2, f3, f4, f5, f6, f7, f8, f9, f10, f11, f12, f13, f14, f15, f16, f17, f18, f19, f20, f21, f22, f23, f24, f25, f26, f27, f28, f29, f30, g1, g2, g3, g4, g5, g6, g7, true_and, and_true, Option.some.injEq, exists_eq_left', Option.toList_some, Option.toList_none, List.cons_append, List.nil_append, xcat_nil, xcat_int, xcat_ref, xcat_long, not_true, not_false_iff, if_true, if_false, and_self, and_false, false_and, or_true, true_or, or_self, z01, z10, zle8, Nat.reduceAdd, Nat.reduceLeDiff]
  refine ratesOver_run h'.ok hD hk ht (fun w2 hw2 hk2 ht2 => ?_)
  have hw3 := hw.tr hw2
  have h'' := h.ag hw3
  rw [dSr_ag hw hD]
  have hb := h''.b
  have hD := h''.1.d
  obtain ⟨⟨f1, f2, f3⟩, ⟨f4, f5, f6, f7, f8⟩, ⟨f9, f10, f11, f12⟩, ⟨f13, f14, f15, f16⟩, ⟨f17, f18, f19, f20, f21, f22⟩, ⟨f23, f24, f25, f26, f27⟩, f28, f29, f30⟩ := h''.ok.cf
  obtain ⟨g1, g2, g3, g4, g5, g6⟩ := h''.sp
  have g7 := h''.isop
  simp only [r130_57, r130_60, f1, f2, f3, f4, f5, f6, f7, f8, f9, f10, f11, f12, f13, f14, f15, f16, f17, f18, f19, f20, f21, f22, f23, f24, f25, f26, f27, f28, f29, f30, g1, g2, g3, g4, g5, g6, g7, grant_run g1, true_and, and_true, Option.some.injEq, exists_eq_left', Option.toList_some, Option.toList_none, List.cons_append, List.nil_append, xcat_nil, xcat_int, xcat_ref, xcat_long, not_true, not_false_iff, if_true, if_false, and_self, and_false, false_and, or_true, true_or, or_self, z01, z10, zle8, Nat.reduceAdd, Nat.reduceLeDiff]
  exact QC.good hP hw3
theorem cheapestC (h : St u D E s nl np nb nc nr nh nk n nf na f op) {j : Nat} (hj : j < nc) (hP : ∀ v, xag SC u v → xI v 0 6 = 0 → P (some (.int (fChq (fun y x => dSr u D nb np nl nr (nI j) d (nI x) (nI y)) s (s + 1) (2147483647, 0)).2)) v) : zr 131 27 [.ref 0, .int d, .int (nI j)] [] u P := by
  have hb := h.b
  have hD := h.1.d
  obtain ⟨⟨f1, f2, f3⟩, ⟨f4, f5, f6, f7, f8⟩, ⟨f9, f10, f11, f12⟩, ⟨f13, f14, f15, f16⟩, ⟨f17, f18, f19, f20, f21, f22⟩, ⟨f23, f24, f25, f26, f27⟩, f28, f29, f30⟩ := h.ok.cf
  obtain ⟨g1, g2, g3, g4, g5, g6⟩ := h.sp
  have g7 := h.isop
  simp only [r131_27, r131_28, r131_31, r131_32, r131_33, f1, f2, f3, f4, f5, f6, f7, f8, f9, f10, f11, f12, f13, f14, f15, f16, f17, f18, f19, f20, f21, f22, f23, f24, f25, f26, f27, f28, f29, f30, g1, g2, g3, g4, g5, g6, g7, true_and, and_true, Option.some.injEq, exists_eq_left', Option.toList_some, Option.toList_none, List.cons_append, List.nil_append, xcat_nil, xcat_int, xcat_ref, xcat_long, not_true, not_false_iff, if_true, if_false, and_self, and_false, false_and, or_true, true_or, or_self, z01, z10, zle8, Nat.reduceAdd, Nat.reduceLeDiff]
  refine lookAt_run hD hj h.ok (fun w hw hk ht => ?_)
  have h' := h.ag hw
  have hb := h'.b
  have hD := h'.1.d
  obtain ⟨⟨f1, f2, f3⟩, ⟨f4, f5, f6, f7, f8⟩, ⟨f9, f10, f11, f12⟩, ⟨f13, f14, f15, f16⟩, ⟨f17, f18, f19, f20, f21, f22⟩, ⟨f23, f24, f25, f26, f27⟩, f28, f29, f30⟩ := h'.ok.cf
  obtain ⟨g1, g2, g3, g4, g5, g6⟩ := h'.sp
  have g7 := h'.isop
  simp only [r131_36, r131_37, r131_38, r131_41, f1, f2, f3, f4, f5, f6, f7, f8, f9, f10, f11, f12, f13, f14, f15, f16, f17, f18, f19, f20, f21, f22, f23, f24, f25, f26, f27, f28, f29, f30, g1, g2, g3, g4, g5, g6, g7, true_and, and_true, Option.some.injEq, exists_eq_left', Option.toList_some, Option.toList_none, List.cons_append, List.nil_append, xcat_nil, xcat_int, xcat_ref, xcat_long, not_true, not_false_iff, if_true, if_false, and_self, and_false, false_and, or_true, true_or, or_self, z01, z10, zle8, Nat.reduceAdd, Nat.reduceLeDiff]
  refine cheap_run h'.ok hD hk ht (fun w2 hw2 => ?_)
  have hw3 := hw.tr hw2
  have h'' := h.ag hw3
  have e : (fun (y x : Nat) => dSr w D nb np nl nr (nI j) d (nI x) (nI y)) = fun (y x : Nat) => dSr u D nb np nl nr (nI j) d (nI x) (nI y) := by
    funext y x
    rw [dSr_ag hw hD]
  rw [e]
  have hb := h''.b
  have hD := h''.1.d
  obtain ⟨⟨f1, f2, f3⟩, ⟨f4, f5, f6, f7, f8⟩, ⟨f9, f10, f11, f12⟩, ⟨f13, f14, f15, f16⟩, ⟨f17, f18, f19, f20, f21, f22⟩, ⟨f23, f24, f25, f26, f27⟩, f28, f29, f30⟩ := h''.ok.cf
  obtain ⟨g1, g2, g3, g4, g5, g6⟩ := h''.sp
  have g7 := h''.isop
  simp only [r131_44, r131_47, f1, f2, f3, f4, f5, f6, f7, f8, f9, f10, f11, f12, f13, f14, f15, f16, f17, f18, f19, f20, f21, f22, f23, f24, f25, f26, f27, f28, f29, f30, g1, g2, g3, g4, g5, g6, g7, grant_run g1, true_and, and_true, Option.some.injEq, exists_eq_left', Option.toList_some, Option.toList_none, List.cons_append, List.nil_append, xcat_nil, xcat_int, xcat_ref, xcat_long, not_true, not_false_iff, if_true, if_false, and_self, and_false, false_and, or_true, true_or, or_self, z01, z10, zle8, Nat.reduceAdd, Nat.reduceLeDiff]
  exact QC.good hP hw3
theorem ag_sell {d x y c m e : Int32} : xag SC u (mSell u 273 d x y c m e) := by
  unfold mSell
  have s1 : ∀ j, SC 273 j := fun j => by unfold SC; omega
  exact (((((((((xag.sI (s1 0)).tr (xag.sI (s1 1))).tr (xag.sI (s1 2))).tr (xag.sI (s1 3))).tr (xag.sI (s1 4))).tr (xag.sI (s1 6))).tr (xag.sI (s1 5))).tr (xag.sI (s1 7))).tr (xag.sI (s1 8)))
theorem tri_sell {d x y c m e : Int32} : Tri (mSell u 273 d x y c m e) d x y c m e := ⟨rfl, rfl, rfl, rfl, rfl, rfl⟩
theorem St.tl (h : St u D E s nl np nb nc nr nh nk n nf na f op) : sLn u 273 := h.1.2.2.2.2.2.2.2.2.1
theorem dueC (h : St u D E s nl np nb nc nr nh nk n nf na f op) {j : Nat} (hj : j < nc) (hP : ∀ v, xag SC u v → xI v 0 6 = 0 → P (some (.int (dDue u D nb np nl nr nh nk d x y (nI j) units price))) v) : zr 132 35 [.ref 0, .int d, .int x, .int y, .int (nI j), .int units, .int price] [] u P := by
  have hb := h.b
  have hD := h.1.d
  obtain ⟨⟨f1, f2, f3⟩, ⟨f4, f5, f6, f7, f8⟩, ⟨f9, f10, f11, f12⟩, ⟨f13, f14, f15, f16⟩, ⟨f17, f18, f19, f20, f21, f22⟩, ⟨f23, f24, f25, f26, f27⟩, f28, f29, f30⟩ := h.ok.cf
  obtain ⟨g1, g2, g3, g4, g5, g6⟩ := h.sp
  have g7 := h.isop
  have t1 := h.tl
  have t2 := t1.1
  have hw : xag SC u (mSell u 273 d x y (nI j) units price) := ag_sell
  have h' := h.ag hw
  have q1 : xIs (mSell u 273 d x y (nI j) units price) 0 10 := g1
  simp only [r132_35, r132_36, r132_39, r132_40, r132_41, r132_42, r132_44, r132_46, r132_48, r132_51, r132_52, r132_53, f1, f2, f3, f4, f5, f6, f7, f8, f9, f10, f11, f12, f13, f14, f15, f16, f17, f18, f19, f20, f21, f22, f23, f24, f25, f26, f27, f28, f29, f30, g1, g2, g3, g4, g5, g6, g7, t2, q1, sell_run t1, true_and, and_true, Option.some.injEq, exists_eq_left', Option.toList_some, Option.toList_none, List.cons_append, List.nil_append, xcat_nil, xcat_int, xcat_ref, xcat_long, not_true, not_false_iff, if_true, if_false, and_self, and_false, false_and, or_true, true_or, or_self, z01, z10, zle8, Nat.reduceAdd, Nat.reduceLeDiff]
  refine dueOfTrial_run hj h'.sp h'.tl h'.ok hD tri_sell (fun w2 hw2 _ => ?_)
  rw [dDue_ag hw hD]
  have hw3 := hw.tr hw2
  have h'' := h.ag hw3
  have hb := h''.b
  have hD := h''.1.d
  obtain ⟨⟨f1, f2, f3⟩, ⟨f4, f5, f6, f7, f8⟩, ⟨f9, f10, f11, f12⟩, ⟨f13, f14, f15, f16⟩, ⟨f17, f18, f19, f20, f21, f22⟩, ⟨f23, f24, f25, f26, f27⟩, f28, f29, f30⟩ := h''.ok.cf
  obtain ⟨g1, g2, g3, g4, g5, g6⟩ := h''.sp
  have g7 := h''.isop
  simp only [r132_56, r132_59, f1, f2, f3, f4, f5, f6, f7, f8, f9, f10, f11, f12, f13, f14, f15, f16, f17, f18, f19, f20, f21, f22, f23, f24, f25, f26, f27, f28, f29, f30, g1, g2, g3, g4, g5, g6, g7, grant_run g1, true_and, and_true, Option.some.injEq, exists_eq_left', Option.toList_some, Option.toList_none, List.cons_append, List.nil_append, xcat_nil, xcat_int, xcat_ref, xcat_long, not_true, not_false_iff, if_true, if_false, and_self, and_false, false_and, or_true, true_or, or_self, z01, z10, zle8, Nat.reduceAdd, Nat.reduceLeDiff]
  exact QC.good hP hw3
theorem bestDayC (h : St u D E s nl np nb nc nr nh nk n nf na f op) {j : Nat} (hj : j < nc) (hP : ∀ v, xag SC u v → xI v 0 6 = 0 → P (some (.int (fBd (fun d => dDue u D nb np nl nr nh nk d x y (nI j) units price) (dNx u D nb nr nh) till 1000 (d, dDue u D nb np nl nr nh nk d x y (nI j) units price, dNx u D nb nr nh d)))) v) : zr 133 47 [.ref 0, .int d, .int till, .int x, .int y, .int (nI j), .int units, .int price] [] u P := by
  have hb := h.b
  have hD := h.1.d
  obtain ⟨⟨f1, f2, f3⟩, ⟨f4, f5, f6, f7, f8⟩, ⟨f9, f10, f11, f12⟩, ⟨f13, f14, f15, f16⟩, ⟨f17, f18, f19, f20, f21, f22⟩, ⟨f23, f24, f25, f26, f27⟩, f28, f29, f30⟩ := h.ok.cf
  obtain ⟨g1, g2, g3, g4, g5, g6⟩ := h.sp
  have g7 := h.isop
  have t1 := h.tl
  have t2 := t1.1
  have hw : xag SC u (mSell u 273 d x y (nI j) units price) := ag_sell
  have h' := h.ag hw
  have q1 : xIs (mSell u 273 d x y (nI j) units price) 0 10 := g1
  simp only [r133_47, r133_48, r133_51, r133_52, r133_53, r133_55, r133_57, r133_59, r133_61, r133_64, r133_65, r133_66, r133_67, f1, f2, f3, f4, f5, f6, f7, f8, f9, f10, f11, f12, f13, f14, f15, f16, f17, f18, f19, f20, f21, f22, f23, f24, f25, f26, f27, f28, f29, f30, g1, g2, g3, g4, g5, g6, g7, t2, q1, sell_run t1, true_and, and_true, Option.some.injEq, exists_eq_left', Option.toList_some, Option.toList_none, List.cons_append, List.nil_append, xcat_nil, xcat_int, xcat_ref, xcat_long, not_true, not_false_iff, if_true, if_false, and_self, and_false, false_and, or_true, true_or, or_self, z01, z10, zle8, Nat.reduceAdd, Nat.reduceLeDiff]
  refine bestDay_run hj h'.sp h'.tl h'.ok hD tri_sell (fun w2 hw2 => ?_)
  have e1 : (fun d => dDue (mSell u 273 d x y (nI j) units price) D nb np nl nr nh nk d x y (nI j) units price) = fun d => dDue u D nb np nl nr nh nk d x y (nI j) units price := by
    funext d
    exact dDue_ag ag_sell hD
  have e2 : ∀ d', dDue (mSell u 273 d x y (nI j) units price) D nb np nl nr nh nk d' x y (nI j) units price = dDue u D nb np nl nr nh nk d' x y (nI j) units price := fun d' => dDue_ag hw hD
  have e3 : dNx (mSell u 273 d x y (nI j) units price) D nb nr nh = dNx u D nb nr nh := by
    funext d'
    exact dNx_ag hw hD
  simp only [e2, e3]
  have hw3 := hw.tr hw2
  have h'' := h.ag hw3
  have hb := h''.b
  have hD := h''.1.d
  obtain ⟨⟨f1, f2, f3⟩, ⟨f4, f5, f6, f7, f8⟩, ⟨f9, f10, f11, f12⟩, ⟨f13, f14, f15, f16⟩, ⟨f17, f18, f19, f20, f21, f22⟩, ⟨f23, f24, f25, f26, f27⟩, f28, f29, f30⟩ := h''.ok.cf
  obtain ⟨g1, g2, g3, g4, g5, g6⟩ := h''.sp
  have g7 := h''.isop
  simp only [r133_70, r133_73, f1, f2, f3, f4, f5, f6, f7, f8, f9, f10, f11, f12, f13, f14, f15, f16, f17, f18, f19, f20, f21, f22, f23, f24, f25, f26, f27, f28, f29, f30, g1, g2, g3, g4, g5, g6, g7, grant_run g1, true_and, and_true, Option.some.injEq, exists_eq_left', Option.toList_some, Option.toList_none, List.cons_append, List.nil_append, xcat_nil, xcat_int, xcat_ref, xcat_long, not_true, not_false_iff, if_true, if_false, and_self, and_false, false_and, or_true, true_or, or_self, z01, z10, zle8, Nat.reduceAdd, Nat.reduceLeDiff]
  exact QC.good hP hw3
theorem nextStackC (h : St u D E s nl np nb nc nr nh nk n nf na f op) (hP : ∀ v, xag SC u v → xI v 0 6 = 0 → P (some (.int (fNp (fun d => dMk u D nb np nl d x y) (fun d => fNa (xI u (D + 6)) d nb) (dMk u D nb np nl d x y) 16 (fNa (xI u (D + 6)) d nb)))) v) : zr 123 35 [.ref 0, .int d, .int x, .int y] [] u P := by
  have hb := h.b
  have hD := h.1.d
  obtain ⟨⟨f1, f2, f3⟩, ⟨f4, f5, f6, f7, f8⟩, ⟨f9, f10, f11, f12⟩, ⟨f13, f14, f15, f16⟩, ⟨f17, f18, f19, f20, f21, f22⟩, ⟨f23, f24, f25, f26, f27⟩, f28, f29, f30⟩ := h.ok.cf
  obtain ⟨g1, g2, g3, g4, g5, g6⟩ := h.sp
  have g7 := h.isop
  simp only [r123_35, r123_36, r123_37, r123_40, r123_43, r123_44, r123_45, r123_46, f1, f2, f3, f4, f5, f6, f7, f8, f9, f10, f11, f12, f13, f14, f15, f16, f17, f18, f19, f20, f21, f22, f23, f24, f25, f26, f27, f28, f29, f30, g1, g2, g3, g4, g5, g6, g7, true_and, and_true, Option.some.injEq, exists_eq_left', Option.toList_some, Option.toList_none, List.cons_append, List.nil_append, xcat_nil, xcat_int, xcat_ref, xcat_long, not_true, not_false_iff, if_true, if_false, and_self, and_false, false_and, or_true, true_or, or_self, z01, z10, zle8, Nat.reduceAdd, Nat.reduceLeDiff]
  refine nextPile_run h.ok hD (fun w hw => ?_)
  have h' := h.ag hw
  have hb := h'.b
  have hD := h'.1.d
  obtain ⟨⟨f1, f2, f3⟩, ⟨f4, f5, f6, f7, f8⟩, ⟨f9, f10, f11, f12⟩, ⟨f13, f14, f15, f16⟩, ⟨f17, f18, f19, f20, f21, f22⟩, ⟨f23, f24, f25, f26, f27⟩, f28, f29, f30⟩ := h'.ok.cf
  obtain ⟨g1, g2, g3, g4, g5, g6⟩ := h'.sp
  have g7 := h'.isop
  simp only [r123_49, r123_52, f1, f2, f3, f4, f5, f6, f7, f8, f9, f10, f11, f12, f13, f14, f15, f16, f17, f18, f19, f20, f21, f22, f23, f24, f25, f26, f27, f28, f29, f30, g1, g2, g3, g4, g5, g6, g7, grant_run g1, true_and, and_true, Option.some.injEq, exists_eq_left', Option.toList_some, Option.toList_none, List.cons_append, List.nil_append, xcat_nil, xcat_int, xcat_ref, xcat_long, not_true, not_false_iff, if_true, if_false, and_self, and_false, false_and, or_true, true_or, or_self, z01, z10, zle8, Nat.reduceAdd, Nat.reduceLeDiff]
  exact QC.good hP hw
end
