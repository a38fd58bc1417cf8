/-! UNDO: the runs -/
section
variable {u w g : xMem} {P : Option Value → xMem → Prop} {D E s nl np nb nc nr nh nk n nf na f : Nat} {p q d x y c e k a t i l what many layer till price units : Int32} {op : Bool}
theorem u169_0 {v0 v1 : Value} {st : List Value} : zr 169 9 [v0, v1] (.int 0 :: st) u P = zr 169 40 [v0, v1] st u P := by rw [r169_9, if_neg (by decide)]; rfl
theorem u169_1 {v0 v1 : Value} {st : List Value} : zr 169 9 [v0, v1] (.int 1 :: st) u P = zr 169 50 [v0, v1] st u P := by rw [r169_9, if_neg (by decide)]; rfl
theorem u169_2 {v0 v1 : Value} {st : List Value} : zr 169 9 [v0, v1] (.int 2 :: st) u P = zr 169 66 [v0, v1] st u P := by rw [r169_9, if_neg (by decide)]; rfl
theorem u169_3 {v0 v1 : Value} {st : List Value} : zr 169 9 [v0, v1] (.int 3 :: st) u P = zr 169 103 [v0, v1] st u P := by rw [r169_9, if_neg (by decide)]; rfl
theorem u169_4 {v0 v1 : Value} {st : List Value} : zr 169 9 [v0, v1] (.int 4 :: st) u P = zr 169 125 [v0, v1] st u P := by rw [r169_9, if_pos (by decide)]
theorem u295_0 {v0 : Value} {st : List Value} : zr 295 46 [v0] (.int 0 :: st) u P = zr 295 80 [v0] st u P := by rw [r295_46, if_neg (by decide)]; rfl
theorem u295_1 {v0 : Value} {st : List Value} : zr 295 46 [v0] (.int 1 :: st) u P = zr 295 93 [v0] st u P := by rw [r295_46, if_neg (by decide)]; rfl
theorem u295_2 {v0 : Value} {st : List Value} : zr 295 46 [v0] (.int 2 :: st) u P = zr 295 128 [v0] st u P := by rw [r295_46, if_neg (by decide)]; rfl
theorem u295_3 {v0 : Value} {st : List Value} : zr 295 46 [v0] (.int 3 :: st) u P = zr 295 148 [v0] st u P := by rw [r295_46, if_neg (by decide)]; rfl
theorem u295_4 {v0 : Value} {st : List Value} : zr 295 46 [v0] (.int 4 :: st) u P = zr 295 141 [v0] st u P := by rw [r295_46, if_neg (by decide)]; rfl
theorem ac_facts (h : St u D E s nl np nb nc nr nh nk n nf na f op) : xIs u 269 0 ∧ (xR u 269 1 = some 270 ∧ xR u 269 2 = some 271 ∧ xR u 269 3 = some 272) ∧ (xIs u 270 13 ∧ xN u 270 = 8) ∧ (xIs u 271 13 ∧ xN u 271 = 8) ∧ xIs u 272 13 ∧ xN u 272 = 8 := h.1.2.2.2.2.2.2.2.1
theorem tb_0 (h : St u D E s nl np nb nc nr nh nk n (nf + 1) na f op) {j : Nat} (hj : j < 8) (hk : xI u 270 j = 0) : zr 169 0 [.ref 0, .int (nI j)] [] u P = P none (mDr u nf n) := by
  obtain ⟨g1, g2, g3, g4, g5, g6⟩ := h.sp
  obtain ⟨a0, ⟨a1, a2, a3⟩, ⟨i1, n1⟩, ⟨i2, n2⟩, i3, n3⟩ := ac_facts h
  have df := fun P => dropFiling_run (P := P) h.bk h.okl h.okb.2.1.1
  have b0 := h.bk.1
  obtain ⟨k1, k2, -⟩ := mDr_at u nf n
  simp (disch := omega) only [r169_0, r169_1, r169_4, r169_7, r169_8, u169_0, r169_40, r169_41, r169_44, r169_47, r169_144, g1, g4, g5, a0, a1, i1, n1, hk, b0, df, xinbT, xixT, leT, leF, ltT, ltF, ngF, psT, n1F, n2F, km2, km3, km4, km5, km10, km15, km25, kl8, kl14, kl24, kl34, kl274, kl354, kl384, kr1, kr2, kr3, kr4, kr5, kr6, kr7, kr8, kr9, kaa, lb0, lb1, lb2, lb3, lb4, lb5, lb6, lb7, li0, li1, li2, li3, li4, li5, li6, li7, true_and, and_true, Option.some.injEq, exists_eq_left', Option.toList_some, Option.toList_none, List.cons_append, List.nil_append, xcat_nil, xcat_int, xcat_ref, xcat_long, not_true, not_false_iff, if_true, if_false, and_self, and_false, false_and, or_true, true_or, or_self, z01, z10, zle8, Nat.reduceAdd, Nat.reduceLeDiff]
theorem tb_1 (h : St u D E s nl np nb nc nr nh nk (n + 1) nf na f op) {j : Nat} (hj : j < 8) (hk : xI u 270 j = 1) : zr 169 0 [.ref 0, .int (nI j)] [] u P = P none (xsI u 62 0 (nI n)) := by
  obtain ⟨g1, g2, g3, g4, g5, g6⟩ := h.sp
  obtain ⟨a0, ⟨a1, a2, a3⟩, ⟨i1, n1⟩, ⟨i2, n2⟩, i3, n3⟩ := ac_facts h
  have b0 := h.bk.1
  have n0 := h.okl.1.1
  simp (disch := omega) only [r169_0, r169_1, r169_4, r169_7, r169_8, u169_1, r169_50, r169_51, r169_54, r169_55, r169_58, r169_59, r169_60, r169_63, r169_144, g1, g4, g5, a0, a1, i1, n1, hk, b0, n0, nI_pred, xinbT, xixT, leT, leF, ltT, ltF, ngF, psT, n1F, n2F, km2, km3, km4, km5, km10, km15, km25, kl8, kl14, kl24, kl34, kl274, kl354, kl384, kr1, kr2, kr3, kr4, kr5, kr6, kr7, kr8, kr9, kaa, lb0, lb1, lb2, lb3, lb4, lb5, lb6, lb7, li0, li1, li2, li3, li4, li5, li6, li7, true_and, and_true, Option.some.injEq, exists_eq_left', Option.toList_some, Option.toList_none, List.cons_append, List.nil_append, xcat_nil, xcat_int, xcat_ref, xcat_long, not_true, not_false_iff, if_true, if_false, and_self, and_false, false_and, or_true, true_or, or_self, z01, z10, zle8, Nat.reduceAdd, Nat.reduceLeDiff]
theorem tb_2 (h : St u D E s nl np nb nc nr nh nk n nf na f op) {j l : Nat} (hj : j < 8) (hk : xI u 270 j = 2) (hl : l < 40) (h1 : xI u 271 j = nI l) : zr 169 0 [.ref 0, .int (nI j)] [] u P = P none (xsI u (69 + 5 * l) 6 (xI u (69 + 5 * l) 6 + xI u 272 j)) := by
  obtain ⟨g1, g2, g3, g4, g5, g6⟩ := h.sp
  obtain ⟨a0, ⟨a1, a2, a3⟩, ⟨i1, n1⟩, ⟨i2, n2⟩, i3, n3⟩ := ac_facts h
  have b0 := h.bk.1
  have b1 : xR u 62 1 = some 63 := h.bk.2.1.1
  have b2 : xIs u 63 16 := h.bk.2.2.1.1
  have b3 : xN u 63 = 40 := h.bk.2.2.1.2
  have hL := h.bk.ln (l := l) hl
  have hL1 := hL.1
  have hL2 := hL.2.1
  simp (disch := omega) only [r169_0, r169_1, r169_4, r169_7, r169_8, u169_2, r169_66, r169_67, r169_70, r169_73, r169_74, r169_77, r169_80, r169_81, r169_82, r169_83, r169_84, r169_87, r169_88, r169_91, r169_94, r169_95, r169_96, r169_97, r169_100, r169_144, g1, g4, g5, a0, a1, a2, a3, i1, n1, i2, n2, i3, n3, hk, h1, b0, b1, b2, b3, hL1, hL2, xinbT, xixT, leT, leF, ltT, ltF, ngF, psT, n1F, n2F, km2, km3, km4, km5, km10, km15, km25, kl8, kl14, kl24, kl34, kl274, kl354, kl384, kr1, kr2, kr3, kr4, kr5, kr6, kr7, kr8, kr9, kaa, lb0, lb1, lb2, lb3, lb4, lb5, lb6, lb7, li0, li1, li2, li3, li4, li5, li6, li7, true_and, and_true, Option.some.injEq, exists_eq_left', Option.toList_some, Option.toList_none, List.cons_append, List.nil_append, xcat_nil, xcat_int, xcat_ref, xcat_long, not_true, not_false_iff, if_true, if_false, and_self, and_false, false_and, or_true, true_or, or_self, z01, z10, zle8, Nat.reduceAdd, Nat.reduceLeDiff]
theorem tb_3 (h : St u D E s nl np (nb + 1) nc nr nh nk n nf na f op) {j : Nat} (hj : j < 8) (hk : xI u 270 j = 3) : zr 169 0 [.ref 0, .int (nI j)] [] u P = P none (xsI u (D + 4) 0 (nI nb)) := by
  have hb := h.b
  have hD := h.1.d
  obtain ⟨⟨f1, f2, f3⟩, ⟨f4, f5, f6, f7, f8⟩, ⟨f9, f10, f11, f12⟩, ⟨f13, f14, f15, f16⟩, ⟨f17, f18, f19, f20, f21, f22⟩, ⟨f23, f24, f25, f26, f27⟩, f28, f29, f30⟩ := h.ok.cf
  obtain ⟨g1, g2, g3, g4, g5, g6⟩ := h.sp
  have g7 := h.isop
  obtain ⟨a0, ⟨a1, a2, a3⟩, ⟨i1, n1⟩, ⟨i2, n2⟩, i3, n3⟩ := ac_facts h
  have n0 := h.ok.2.2.2.2.1.1
  have i4 : xIs u (D + 4) 2 := h.ok.sb.1
  simp (disch := omega) only [r169_0, r169_1, r169_4, r169_7, r169_8, u169_3, r169_103, r169_104, r169_107, r169_110, r169_113, r169_114, r169_117, r169_118, r169_119, r169_122, r169_144, f1, f2, f3, f4, f5, f6, f7, f8, f9, f10, f11, f12, f13, f14, f15, f16, f17, f18, f19, f20, f21, f22, f23, f24, f25, f26, f27, f28, f29, f30, g1, g2, g3, g4, g5, g6, g7, a0, a1, i1, n1, hk, n0, i4, nI_pred, xinbT, xixT, leT, leF, ltT, ltF, ngF, psT, n1F, n2F, km2, km3, km4, km5, km10, km15, km25, kl8, kl14, kl24, kl34, kl274, kl354, kl384, kr1, kr2, kr3, kr4, kr5, kr6, kr7, kr8, kr9, kaa, lb0, lb1, lb2, lb3, lb4, lb5, lb6, lb7, li0, li1, li2, li3, li4, li5, li6, li7, true_and, and_true, Option.some.injEq, exists_eq_left', Option.toList_some, Option.toList_none, List.cons_append, List.nil_append, xcat_nil, xcat_int, xcat_ref, xcat_long, not_true, not_false_iff, if_true, if_false, and_self, and_false, false_and, or_true, true_or, or_self, z01, z10, zle8, Nat.reduceAdd, Nat.reduceLeDiff]
theorem tb_4 (h : St u D E s nl np nb nc (nr + 1) nh nk n nf na f op) {j : Nat} (hj : j < 8) (hk : xI u 270 j = 4) : zr 169 0 [.ref 0, .int (nI j)] [] u P = P none (xsI u (D + 14) 0 (nI nr)) := by
  have hb := h.b
  have hD := h.1.d
  obtain ⟨⟨f1, f2, f3⟩, ⟨f4, f5, f6, f7, f8⟩, ⟨f9, f10, f11, f12⟩, ⟨f13, f14, f15, f16⟩, ⟨f17, f18, f19, f20, f21, f22⟩, ⟨f23, f24, f25, f26, f27⟩, f28, f29, f30⟩ := h.ok.cf
  obtain ⟨g1, g2, g3, g4, g5, g6⟩ := h.sp
  have g7 := h.isop
  obtain ⟨a0, ⟨a1, a2, a3⟩, ⟨i1, n1⟩, ⟨i2, n2⟩, i3, n3⟩ := ac_facts h
  have hr := h.ok.tf.2.2.2.1
  have n0 := h.ok.2.2.2.2.2.2.1.1
  have i14 : xIs u (D + 14) 6 := hr.1
  simp (disch := omega) only [r169_0, r169_1, r169_4, r169_7, r169_8, u169_4, r169_125, r169_126, r169_129, r169_132, r169_135, r169_136, r169_139, r169_140, r169_141, r169_144, f1, f2, f3, f4, f5, f6, f7, f8, f9, f10, f11, f12, f13, f14, f15, f16, f17, f18, f19, f20, f21, f22, f23, f24, f25, f26, f27, f28, f29, f30, g1, g2, g3, g4, g5, g6, g7, a0, a1, i1, n1, hk, n0, i14, nI_pred, xinbT, xixT, leT, leF, ltT, ltF, ngF, psT, n1F, n2F, km2, km3, km4, km5, km10, km15, km25, kl8, kl14, kl24, kl34, kl274, kl354, kl384, kr1, kr2, kr3, kr4, kr5, kr6, kr7, kr8, kr9, kaa, lb0, lb1, lb2, lb3, lb4, lb5, lb6, lb7, li0, li1, li2, li3, li4, li5, li6, li7, true_and, and_true, Option.some.injEq, exists_eq_left', Option.toList_some, Option.toList_none, List.cons_append, List.nil_append, xcat_nil, xcat_int, xcat_ref, xcat_long, not_true, not_false_iff, if_true, if_false, and_self, and_false, false_and, or_true, true_or, or_self, z01, z10, zle8, Nat.reduceAdd, Nat.reduceLeDiff]
/-- an act of the class taken back -/
def cUn (T : xMem) (j : Nat) : xMem := xsI (xsI T 269 0 (nI j)) 0 6 0
theorem undoC_t {T : xMem} {j : Nat} (h : St u D E s nl np nb nc nr nh nk n nf (j + 1) f true) (hT : ∀ P, zr 169 0 [.ref 0, .int (nI j)] [] u P = P none T) (t1 : T.1 = u.1) (t2 : T.2.2 = u.2.2) (t3 : xI T 269 0 = xI u 269 0) : zr 150 0 [.ref 0] [] u P = P (some (.int 1)) (cUn T j) := by
  obtain ⟨g1, g2, g3, g4, g5, g6⟩ := h.sp
  have g7 := h.isop
  have a0 := (ac_facts h).1
  have h8 : j + 1 ≤ 8 := h.oka.1.2.1
  have sh := shp t1 (congrArg (fun q => q.2) t2)
  have e0 : xI u 269 0 = nI (j + 1) := h.oka.1.1
  have e1 : xI T 269 0 = nI (j + 1) := t3.trans e0
  have j1 : xIs T 0 10 := by rw [sh]; exact g1
  have j5 : xR T 0 4 = some 269 := by rw [sh]; exact g5
  have ja : xIs T 269 0 := by rw [sh]; exact a0
  have i1 : xIs (xsI T 269 0 (nI j)) 0 10 := j1
  have z : ¬ nI (j + 1) = 0 := nI_ne0 (by omega) (by omega)
  simp (disch := omega) only [r150_0, r150_1, r150_4, r150_7, r150_8, r150_11, r150_14, r150_17, r150_18, r150_19, r150_22, r150_23, r150_24, r150_25, r150_26, r150_29, r150_32, r150_33, r150_34, r150_37, r150_38, r150_41, r150_42, r150_45, r150_46, r150_47, r150_50, r150_51, r150_52, r150_55, r150_56, g1, g5, g7, a0, e0, e1, z, bI_t, nI_pred, hT, j1, j5, ja, i1, xinbT, xixT, leT, leF, ltT, ltF, ngF, psT, n1F, n2F, km2, km3, km4, km5, km10, km15, km25, kl8, kl14, kl24, kl34, kl274, kl354, kl384, kr1, kr2, kr3, kr4, kr5, kr6, kr7, kr8, kr9, kaa, lb0, lb1, lb2, lb3, lb4, lb5, lb6, lb7, li0, li1, li2, li3, li4, li5, li6, li7, true_and, and_true, Option.some.injEq, exists_eq_left', Option.toList_some, Option.toList_none, List.cons_append, List.nil_append, xcat_nil, xcat_int, xcat_ref, xcat_long, not_true, not_false_iff, if_true, if_false, and_self, and_false, false_and, or_true, true_or, or_self, z01, z10, zle8, Nat.reduceAdd, Nat.reduceLeDiff]
  rfl
theorem undoM_h {w : xMem} {j : Nat} (hM : sMd w) (ho : xI w 278 7 = bI true) (hn : xI w 278 31 = nI (j + 1)) (h8 : j < 8) : zr 295 0 [.ref 278] [] w P = zr 295 46 [.ref 278] [.int (xI w 292 j)] (xsI (mThr w) 278 31 (nI j)) P := by
  obtain ⟨h0, ⟨r28, r29, r30⟩, ⟨i1, n1⟩, ⟨i2, n2⟩, i3, n3⟩ := hM.ac
  have i0 : xIs (mThr w) 278 11 := h0
  have i5 : xIs (xsI (mThr w) 278 31 (nI j)) 278 11 := h0
  have i6 : xR (xsI (mThr w) 278 31 (nI j)) 278 28 = some 292 := r28
  have i7 : xIs (xsI (mThr w) 278 31 (nI j)) 292 13 := i1
  have i8 : xN (xsI (mThr w) 278 31 (nI j)) 292 = 8 := n1
  have e7 : xI (mThr w) 278 7 = bI true := (xI_ne (by omega)).trans ho
  have e31 : xI (mThr w) 278 31 = nI (j + 1) := (xI_ne (by omega)).trans hn
  have e9 : xI (xsI (mThr w) 278 31 (nI j)) 292 j = xI w 292 j := (xI_ne (by omega)).trans (xI_ne (by omega))
  have z : ¬ nI (j + 1) = 0 := nI_ne0 (by omega) (by omega)
  simp (disch := omega) only [r295_0, r295_1, r295_2, r295_5, r295_6, r295_9, r295_12, r295_13, r295_16, r295_19, r295_20, r295_21, r295_24, r295_25, r295_26, r295_27, r295_28, r295_29, r295_32, r295_33, r295_34, r295_37, r295_38, r295_41, r295_42, r295_45, mThr_f, h0, i0, e7, e31, z, bI_t, nI_pred, i5, i6, i7, i8, xI_at, e9, xinbT, xixT, leT, leF, ltT, ltF, ngF, psT, n1F, n2F, km2, km3, km4, km5, km10, km15, km25, kl8, kl14, kl24, kl34, kl274, kl354, kl384, kr1, kr2, kr3, kr4, kr5, kr6, kr7, kr8, kr9, kaa, lb0, lb1, lb2, lb3, lb4, lb5, lb6, lb7, li0, li1, li2, li3, li4, li5, li6, li7, true_and, and_true, Option.some.injEq, exists_eq_left', Option.toList_some, Option.toList_none, List.cons_append, List.nil_append, xcat_nil, xcat_int, xcat_ref, xcat_long, not_true, not_false_iff, if_true, if_false, and_self, and_false, false_and, or_true, true_or, or_self, z01, z10, zle8, Nat.reduceAdd, Nat.reduceLeDiff]
theorem undoM_e {V : xMem} (h : xIs V 278 11) : zr 295 158 [.ref 278] [] V P = P (some (.int 1)) (mGood V) := by
  simp only [r295_158, r295_159, r295_160, r295_163, r295_164, r295_165, h, good_run h, true_and, and_true, Option.some.injEq, exists_eq_left', Option.toList_some, Option.toList_none, List.cons_append, List.nil_append, xcat_nil, xcat_int, xcat_ref, xcat_long, not_true, not_false_iff, if_true, if_false, and_self, and_false, false_and, or_true, true_or, or_self, z01, z10, zle8, Nat.reduceAdd, Nat.reduceLeDiff]
theorem unM_0 {W : xMem} (hM : sMd W) (hn : xI W 278 20 = nI (n + 1)) : zr 295 46 [.ref 278] [.int 0] W P = P (some (.int 1)) (mGood (xsI W 278 20 (nI n))) := by
  have h0 := hM.1
  have e := fun P => undoM_e (V := xsI W 278 20 (nI n)) (P := P) h0
  simp (disch := omega) only [u295_0, r295_80, r295_81, r295_82, r295_85, r295_86, r295_87, r295_90, h0, hn, nI_pred, e, xinbT, xixT, leT, leF, ltT, ltF, ngF, psT, n1F, n2F, km2, km3, km4, km5, km10, km15, km25, kl8, kl14, kl24, kl34, kl274, kl354, kl384, kr1, kr2, kr3, kr4, kr5, kr6, kr7, kr8, kr9, kaa, lb0, lb1, lb2, lb3, lb4, lb5, lb6, lb7, li0, li1, li2, li3, li4, li5, li6, li7, true_and, and_true, Option.some.injEq, exists_eq_left', Option.toList_some, Option.toList_none, List.cons_append, List.nil_append, xcat_nil, xcat_int, xcat_ref, xcat_long, not_true, not_false_iff, if_true, if_false, and_self, and_false, false_and, or_true, true_or, or_self, z01, z10, zle8, Nat.reduceAdd, Nat.reduceLeDiff]
theorem unM_1 {W : xMem} {j l : Nat} (hM : sMd W) (hn : xI W 278 31 = nI j) (hj : j < 8) (hl : l < 40) (h3 : xI W 293 j = nI l) : zr 295 46 [.ref 278] [.int 1] W P = P (some (.int 1)) (mGood (xsI W 286 (25 * l + 6) (xI W 286 (25 * l + 6) + xI W 294 j))) := by
  obtain ⟨h0, ⟨r28, r29, r30⟩, ⟨i1, n1⟩, ⟨i2, n2⟩, i3, n3⟩ := hM.ac
  have e := fun P => undoM_e (V := xsI W 286 (25 * l + 6) (xI W 286 (25 * l + 6) + xI W 294 j)) (P := P) h0
  obtain ⟨-, ⟨-, -, -, -, -, -, -, r19, -⟩, -, -, -, -, -, -, -, ⟨j6, n6⟩, -⟩ := hM
  simp (disch := omega) only [u295_1, r295_93, r295_94, r295_97, r295_99, r295_100, r295_103, r295_104, r295_107, r295_108, r295_109, r295_111, r295_112, r295_113, r295_114, r295_115, r295_118, r295_119, r295_122, r295_123, r295_124, r295_125, h0, hn, r19, r29, r30, i2, n2, i3, n3, j6, n6, h3, e, xinbT, xixT, leT, leF, ltT, ltF, ngF, psT, n1F, n2F, km2, km3, km4, km5, km10, km15, km25, kl8, kl14, kl24, kl34, kl274, kl354, kl384, kr1, kr2, kr3, kr4, kr5, kr6, kr7, kr8, kr9, kaa, lb0, lb1, lb2, lb3, lb4, lb5, lb6, lb7, li0, li1, li2, li3, li4, li5, li6, li7, true_and, and_true, Option.some.injEq, exists_eq_left', Option.toList_some, Option.toList_none, List.cons_append, List.nil_append, xcat_nil, xcat_int, xcat_ref, xcat_long, not_true, not_false_iff, if_true, if_false, and_self, and_false, false_and, or_true, true_or, or_self, z01, z10, zle8, Nat.reduceAdd, Nat.reduceLeDiff]
theorem unM_2 {W : xMem} (hM : sMd W) (hn : xI W 279 4 = nI (n + 1)) : zr 295 46 [.ref 278] [.int 2] W P = P (some (.int 1)) (mGood (xsI W 279 4 (nI n))) := by
  obtain ⟨h0, ⟨r3, -⟩, ⟨i1, n1⟩, -⟩ := hM
  have e := fun P => undoM_e (V := xsI W 279 4 (nI n)) (P := P) h0
  simp (disch := omega) only [u295_2, r295_128, r295_129, r295_132, r295_133, r295_134, r295_135, r295_136, r295_137, r295_138, h0, r3, i1, n1, hn, nI_pred, e, xinbT, xixT, leT, leF, ltT, ltF, ngF, psT, n1F, n2F, km2, km3, km4, km5, km10, km15, km25, kl8, kl14, kl24, kl34, kl274, kl354, kl384, kr1, kr2, kr3, kr4, kr5, kr6, kr7, kr8, kr9, kaa, lb0, lb1, lb2, lb3, lb4, lb5, lb6, lb7, li0, li1, li2, li3, li4, li5, li6, li7, true_and, and_true, Option.some.injEq, exists_eq_left', Option.toList_some, Option.toList_none, List.cons_append, List.nil_append, xcat_nil, xcat_int, xcat_ref, xcat_long, not_true, not_false_iff, if_true, if_false, and_self, and_false, false_and, or_true, true_or, or_self, z01, z10, zle8, Nat.reduceAdd, Nat.reduceLeDiff]
theorem unM_3 {W : xMem} (hM : sMd W) (hn : xI W 279 5 = nI (n + 1)) : zr 295 46 [.ref 278] [.int 3] W P = P (some (.int 1)) (mGood (xsI W 279 5 (nI n))) := by
  obtain ⟨h0, ⟨r3, -⟩, ⟨i1, n1⟩, -⟩ := hM
  have e := fun P => undoM_e (V := xsI W 279 5 (nI n)) (P := P) h0
  simp (disch := omega) only [u295_3, r295_148, r295_149, r295_152, r295_153, r295_154, r295_155, r295_156, r295_157, h0, r3, i1, n1, hn, nI_pred, e, xinbT, xixT, leT, leF, ltT, ltF, ngF, psT, n1F, n2F, km2, km3, km4, km5, km10, km15, km25, kl8, kl14, kl24, kl34, kl274, kl354, kl384, kr1, kr2, kr3, kr4, kr5, kr6, kr7, kr8, kr9, kaa, lb0, lb1, lb2, lb3, lb4, lb5, lb6, lb7, li0, li1, li2, li3, li4, li5, li6, li7, true_and, and_true, Option.some.injEq, exists_eq_left', Option.toList_some, Option.toList_none, List.cons_append, List.nil_append, xcat_nil, xcat_int, xcat_ref, xcat_long, not_true, not_false_iff, if_true, if_false, and_self, and_false, false_and, or_true, true_or, or_self, z01, z10, zle8, Nat.reduceAdd, Nat.reduceLeDiff]
def UfL (W V : xMem) (nf i : Nat) : Prop := V.1 = W.1 ∧ V.2.2 = W.2.2 ∧ (∀ a j, (a ≠ 286 ∨ ∀ l, l < i → j ≠ 25 * l + 8) → xI V a j = xI W a j) ∧ ∀ l, l < i → xI V 286 (25 * l + 8) = if xI W 286 (25 * l + 8) = nI (nf + 1) then 0 else xI W 286 (25 * l + 8)
theorem unf_l {W : xMem} (hM : sMd W) (h20 : xI W 278 20 = nI n) (h27 : xI W 278 27 = nI (nf + 1)) (hn : n ≤ 40) (hP : ∀ V, UfL W V nf n → P none (xsI V 278 27 (nI nf))) : ∀ r i V, i + r = n → UfL W V nf i → zr 285 2 [.ref 278, .int (nI i)] [] V P := by
  intro r
  induction r with
  | zero =>
    intro i V hi hV
    have : i = n := by omega
    subst this
    have mV : sMd V := by rw [shp hV.1 (congrArg (fun q => q.2) hV.2.1)]; exact hM
    have e20 := (hV.2.2.1 278 20 (by omega)).trans h20
    have e27 := (hV.2.2.1 278 27 (by omega)).trans h27
    rw [r285_2]
    simp (disch := omega) only [r285_3, r285_4, r285_7, r285_43, r285_44, r285_45, r285_48, r285_49, r285_50, r285_53, mV.1, e20, e27, nI_pred, xinbT, xixT, leT, leF, ltT, ltF, ngF, psT, n1F, n2F, km2, km3, km4, km5, km10, km15, km25, kl8, kl14, kl24, kl34, kl274, kl354, kl384, kr1, kr2, kr3, kr4, kr5, kr6, kr7, kr8, kr9, kaa, lb0, lb1, lb2, lb3, lb4, lb5, lb6, lb7, li0, li1, li2, li3, li4, li5, li6, li7, true_and, and_true, Option.some.injEq, exists_eq_left', Option.toList_some, Option.toList_none, List.cons_append, List.nil_append, xcat_nil, xcat_int, xcat_ref, xcat_long, not_true, not_false_iff, if_true, if_false, and_self, and_false, false_and, or_true, true_or, or_self, z01, z10, zle8, Nat.reduceAdd, Nat.reduceLeDiff]
    exact hP V hV
  | succ r ih =>
    intro i V hi hV
    have mV : sMd V := by rw [shp hV.1 (congrArg (fun q => q.2) hV.2.1)]; exact hM
    have e20 := (hV.2.2.1 278 20 (by omega)).trans h20
    have e27 := (hV.2.2.1 278 27 (by omega)).trans h27
    obtain ⟨t8, -⟩ := toldv mV (l := i) (by omega)
    have c8 : xI V 286 (25 * i + 8) = xI W 286 (25 * i + 8) := hV.2.2.1 _ _ (Or.inr (fun l hl => by omega))
    rw [c8] at t8
    obtain ⟨h0, ⟨-, -, -, -, -, -, -, r19, -⟩, -, -, -, -, -, -, -, ⟨j6, n6⟩, -⟩ := mV
    have ih := fun V => ih (i + 1) V (by omega)
    have nx : ∀ V' : xMem, V'.1 = V.1 → V'.2.2 = V.2.2 → (∀ a j, (a ≠ 286 ∨ j ≠ 25 * i + 8) → xI V' a j = xI V a j) → (xI V' 286 (25 * i + 8) = if xI W 286 (25 * i + 8) = nI (nf + 1) then 0 else xI W 286 (25 * i + 8)) → UfL W V' nf (i + 1) := fun V' w1 w2 w3 w4 => by
      refine ⟨w1.trans hV.1, w2.trans hV.2.1, fun a j q => ?_, fun l hl => ?_⟩
      · rw [w3 a j (q.imp id (fun z => z i (by omega)))]
        exact hV.2.2.1 a j (q.imp id (fun z l hl => z l (by omega)))
      · by_cases z : l = i
        · subst z
          exact w4
        · rw [w3 286 _ (by omega)]
          exact hV.2.2.2 l (by omega)
    rw [r285_2]
    simp (disch := omega) only [r285_3, r285_4, r285_7, r285_10, r285_11, r285_12, r285_14, r285_17, r285_18, r285_21, r285_24, r285_25, r285_28, r285_30, r285_31, r285_32, r285_34, r285_35, r285_36, r285_37, r285_40, h0, e20, e27, t8, r19, j6, n6, xinbT, xixT, leT, leF, ltT, ltF, ngF, psT, n1F, n2F, km2, km3, km4, km5, km10, km15, km25, kl8, kl14, kl24, kl34, kl274, kl354, kl384, kr1, kr2, kr3, kr4, kr5, kr6, kr7, kr8, kr9, kaa, lb0, lb1, lb2, lb3, lb4, lb5, lb6, lb7, li0, li1, li2, li3, li4, li5, li6, li7, true_and, and_true, Option.some.injEq, exists_eq_left', Option.toList_some, Option.toList_none, List.cons_append, List.nil_append, xcat_nil, xcat_int, xcat_ref, xcat_long, not_true, not_false_iff, if_true, if_false, and_self, and_false, false_and, or_true, true_or, or_self, z01, z10, zle8, Nat.reduceAdd, Nat.reduceLeDiff]
    by_cases z8 : xI W 286 (25 * i + 8) = nI (nf + 1)
    · simp only [z8, true_and, and_true, Option.some.injEq, exists_eq_left', Option.toList_some, Option.toList_none, List.cons_append, List.nil_append, xcat_nil, xcat_int, xcat_ref, xcat_long, not_true, not_false_iff, if_true, if_false, and_self, and_false, false_and, or_true, true_or, or_self, z01, z10, zle8, Nat.reduceAdd, Nat.reduceLeDiff]
      refine ih _ (nx _ rfl rfl (fun a j q => xI_ne q) ?_)
      rw [if_pos z8]
      exact xI_at
    · simp only [z8, true_and, and_true, Option.some.injEq, exists_eq_left', Option.toList_some, Option.toList_none, List.cons_append, List.nil_append, xcat_nil, xcat_int, xcat_ref, xcat_long, not_true, not_false_iff, if_true, if_false, and_self, and_false, false_and, or_true, true_or, or_self, z01, z10, zle8, Nat.reduceAdd, Nat.reduceLeDiff]
      refine ih _ (nx V rfl rfl (fun _ _ _ => rfl) ?_)
      rw [if_neg z8]
      exact c8
theorem unM_4 {W : xMem} (hM : sMd W) (h20 : xI W 278 20 = nI n) (h27 : xI W 278 27 = nI (nf + 1)) (hn : n ≤ 40) (hP : ∀ V, UfL W V nf n → P (some (.int 1)) (mGood (xsI V 278 27 (nI nf)))) : zr 295 46 [.ref 278] [.int 4] W P := by
  have h0 := hM.1
  simp only [u295_4, r295_141, r295_142, h0, r285_0, r285_1, true_and, and_true, Option.some.injEq, exists_eq_left', Option.toList_some, Option.toList_none, List.cons_append, List.nil_append, xcat_nil, xcat_int, xcat_ref, xcat_long, not_true, not_false_iff, if_true, if_false, and_self, and_false, false_and, or_true, true_or, or_self, z01, z10, zle8, Nat.reduceAdd, Nat.reduceLeDiff]
  refine unf_l hM h20 h27 hn (fun V hV => ?_) n 0 W (by omega) ⟨rfl, rfl, fun _ _ _ => rfl, fun q hq => absurd hq (by omega)⟩
  have mV : xIs (xsI V 278 27 (nI nf)) 278 11 := by
    have : sMd V := by rw [shp hV.1 (congrArg (fun q => q.2) hV.2.1)]; exact hM
    exact this.1
  simp only [r295_145, undoM_e mV, true_and, and_true, Option.some.injEq, exists_eq_left', Option.toList_some, Option.toList_none, List.cons_append, List.nil_append, xcat_nil, xcat_int, xcat_ref, xcat_long, not_true, not_false_iff, if_true, if_false, and_self, and_false, false_and, or_true, true_or, or_self, z01, z10, zle8, Nat.reduceAdd, Nat.reduceLeDiff]
  exact hP V hV
end
