/-! DESK answered alike -/
section
variable {u w v g G m c : xMem} {P : Option Value → xMem → Prop} {D E k s nl np nb nc nr nh nk n nf na f : Nat} {x : Int32} {op : Bool}
theorem xI_sR' {a b k j : Nat} {z : Option Nat} : xI (xsR u a k z) b j = xI u b j := rfl
theorem xIf_sR {a b k : Nat} {z : Option Nat} : xI (xsR u a k z) b = xI u b := rfl
theorem xR_ne {a b k j : Nat} {z : Option Nat} (h : b ≠ a ∨ j ≠ k) : xR (xsR u a k z) b j = xR u b j := by rw [xR_sR, if_neg (by omega)]
theorem sLn.sR {b : Nat} {x y : Option Nat} (h : sLn u b) (hb : 2 ≤ b) : sLn (xsR (xsR u 1 3 x) 0 1 y) b := by
  obtain ⟨h1, ⟨h2, h3, h4, h5⟩, h6⟩ := h
  refine ⟨h1, ⟨?_, ?_, ?_, ?_⟩, h6⟩
  · rw [xR_ne (by omega), xR_ne (by omega)]; exact h2
  · rw [xR_ne (by omega), xR_ne (by omega)]; exact h3
  · rw [xR_ne (by omega), xR_ne (by omega)]; exact h4
  · rw [xR_ne (by omega), xR_ne (by omega)]; exact h5
theorem sBk.sR {x y : Option Nat} (h : sBk u 62) : sBk (xsR (xsR u 1 3 x) 0 1 y) 62 := by
  obtain ⟨h1, h2, h3, h4, h5, h6, h7, h8, h9⟩ := h
  exact ⟨h1, h2, h3, h4, h5, h6, h7, h8, fun l hl => ⟨(h9 l hl).1, (h9 l hl).2.sR (by omega)⟩⟩
theorem Sh.swap (h : Sh u D E) : Sh (xsR (xsR u 1 3 (some D)) 0 1 (some E)) E D := by
  obtain ⟨h1, ⟨a1, a2, a3, a4, a5, a6⟩, ⟨b1, ⟨b2, b3, b4, b5⟩, b6, b7⟩, h4, h5, h6, h7, h8, h9, h10, h11⟩ := h
  rcases h1 with ⟨rfl, rfl⟩ | ⟨rfl, rfl⟩
  · exact ⟨Or.inr ⟨rfl, rfl⟩, ⟨a1, a2, rfl, a4, a5, a6⟩, ⟨b1, ⟨b2, b3, b4, rfl⟩, b6, b7⟩, h4, h5, h6, h7.sR, h8, h9, h10, h11⟩
  · exact ⟨Or.inl ⟨rfl, rfl⟩, ⟨a1, a2, rfl, a4, a5, a6⟩, ⟨b1, ⟨b2, b3, b4, rfl⟩, b6, b7⟩, h4, h5, h6, h7.sR, h8, h9, h10, h11⟩
theorem okG.swap (h : okG u E s nl np nb nc nr nh nk) (hE : E = 6 ∨ E = 34) {a b : Option Nat} : okG (xsR (xsR u 1 3 a) 0 1 b) E s nl np nb nc nr nh nk := by
  rcases hE with rfl | rfl
  · exact h
  · exact h
/-- the model's memory as it begins to read -/
def mRd (c : xMem) (k : Nat) : xMem := xsI (xsI (xsI (xsI (mThr c) 278 10 (nI k)) 278 9 0) 278 11 0) 278 15 0
theorem mRd_f {b j : Nat} (h : b ≠ 278 ∨ (j ≠ 0 ∧ j ≠ 9 ∧ j ≠ 10 ∧ j ≠ 11 ∧ j ≠ 15)) : xI (mRd c k) b j = xI c b j := by
  unfold mRd mThr
  rw [xI_ne (by omega), xI_ne (by omega), xI_ne (by omega), xI_ne (by omega), xI_ne (by omega)]
theorem deskM_fail (h : Rb G E k) (hM : sMd c) (h9 : xI c 278 9 = nI f) (hk : k ≤ f) (hf : f ≤ 1200) (h283 : xI c 283 = xI G 3) (hc : (cReads E 1201 (nxt G)).1 = false) (hP : ∀ v, Fm (mRd c k) v → Fz (cReads E 1201 (nxt G)).2 v → P (some (.int (-1))) (xsI (xsI v 278 1 4) 278 2 (xI v 278 13))) : zr 209 0 [.ref 278, .int (nI k), .null] [] c P := by
  have i1 : xIs c 278 11 := hM.1
  have i2 : xIs (mThr c) 278 11 := hM.1
  have e9 : xI (mThr c) 278 9 = nI f := h9
  have hM2 : sMd (mRd c k) := hM
  simp (disch := omega) only [r209_0, r209_1, r209_2, r209_5, r209_6, r209_9, r209_10, r209_11, r209_14, r209_23, r209_24, r209_25, r209_28, r209_29, r209_30, r209_33, r209_34, r209_35, r209_38, r209_39, r209_40, r209_43, r209_44, mThr_f, i1, i2, e9, xIs_sI, xinbT, xixT, leT, leF, ltT, ltF, ngF, psT, n1F, n2F, km2, km3, km4, km5, km10, km15, km25, kl8, kl14, kl24, kl34, kl274, kl354, kl384, kr1, kr2, kr3, kr4, kr5, kr6, kr7, kr8, kr9, kaa, lb0, lb1, lb2, lb3, lb4, lb5, lb6, lb7, li0, li1, li2, li3, li4, li5, li6, li7, true_and, and_true, Option.some.injEq, exists_eq_left', Option.toList_some, Option.toList_none, List.cons_append, List.nil_append, xcat_nil, xcat_int, xcat_ref, xcat_long, not_true, not_false_iff, if_true, if_false, and_self, and_false, false_and, or_true, true_or, or_self, z01, z10, zle8, Nat.reduceAdd, Nat.reduceLeDiff]
  refine readAllM h hM2 ?_ ?_ ?_ ?_ ⟨(fun z => by rw [hc] at z; cases z), fun _ v hv hz => ?_⟩
  · show xI (xsI (xsI (xsI (xsI (mThr c) 278 10 (nI k)) 278 9 0) 278 11 0) 278 15 0) 278 10 = _
    rw [xI_ne (by omega), xI_ne (by omega), xI_ne (by omega), xI_at]
  · show xI (mRd c k) 283 = _
    rw [show xI (mRd c k) 283 = xI c 283 from funext fun j => mRd_f (by omega)]
    exact h283
  · exact xI_at
  · show xI (xsI (xsI (xsI (xsI (mThr c) 278 10 (nI k)) 278 9 0) 278 11 0) 278 15 0) 278 11 = _
    rw [xI_ne (by omega), xI_at]
  · have e13 : xI (xsI v 278 1 4) 278 13 = xI v 278 13 := xI_ne (by omega)
    simp only [r209_47, r209_48, r209_51, r209_54, r209_55, r209_56, r209_59, r209_60, r209_61, r209_64, r209_67, r209_68, hz.1.1, hz.fw.nz.2, xIs_sI, e13, true_and, and_true, Option.some.injEq, exists_eq_left', Option.toList_some, Option.toList_none, List.cons_append, List.nil_append, xcat_nil, xcat_int, xcat_ref, xcat_long, not_true, not_false_iff, if_true, if_false, and_self, and_false, false_and, or_true, true_or, or_self, z01, z10, zle8, Nat.reduceAdd, Nat.reduceLeDiff]
    exact hP v hv hz
/-- the model's memory when it has read -/
def mOk (v : xMem) : xMem := mGood (xsI (xsI (xsI (xfill (xsI v 278 7 1) 279 402 (xI v 280)) 278 20 0) 278 31 0) 278 27 0)
theorem mOk_f {b j : Nat} (h : b ≠ 279) (h2 : b ≠ 278 ∨ (j ≠ 1 ∧ j ≠ 2 ∧ j ≠ 7 ∧ j ≠ 20 ∧ j ≠ 27 ∧ j ≠ 31)) : xI (mOk v) b j = xI v b j := by
  unfold mOk mGood
  rw [xI_ne (by omega), xI_ne (by omega), xI_ne (by omega), xI_ne (by omega), xI_ne (by omega), xI_fill, if_neg (by omega), xI_ne (by omega)]
theorem deskM_ok (h : Rb G E k) (hM : sMd c) (h9 : xI c 278 9 = nI f) (hk : k ≤ f) (hf : f ≤ 1200) (h283 : xI c 283 = xI G 3) (hc : (cReads E 1201 (nxt G)).1 = true) (hP : ∀ v s nl np nb nc nr nh nk, Fm (mRd c k) v → xI v 278 15 = 0 → Rs (cReads E 1201 (nxt G)).2 v E s nl np nb nc nr nh nk → P (some (.int (nI np))) (mOk v)) : zr 209 0 [.ref 278, .int (nI k), .null] [] c P := by
  have i1 : xIs c 278 11 := hM.1
  have i2 : xIs (mThr c) 278 11 := hM.1
  have e9 : xI (mThr c) 278 9 = nI f := h9
  have hM2 : sMd (mRd c k) := hM
  simp (disch := omega) only [r209_0, r209_1, r209_2, r209_5, r209_6, r209_9, r209_10, r209_11, r209_14, r209_23, r209_24, r209_25, r209_28, r209_29, r209_30, r209_33, r209_34, r209_35, r209_38, r209_39, r209_40, r209_43, r209_44, mThr_f, i1, i2, e9, xIs_sI, xinbT, xixT, leT, leF, ltT, ltF, ngF, psT, n1F, n2F, km2, km3, km4, km5, km10, km15, km25, kl8, kl14, kl24, kl34, kl274, kl354, kl384, kr1, kr2, kr3, kr4, kr5, kr6, kr7, kr8, kr9, kaa, lb0, lb1, lb2, lb3, lb4, lb5, lb6, lb7, li0, li1, li2, li3, li4, li5, li6, li7, true_and, and_true, Option.some.injEq, exists_eq_left', Option.toList_some, Option.toList_none, List.cons_append, List.nil_append, xcat_nil, xcat_int, xcat_ref, xcat_long, not_true, not_false_iff, if_true, if_false, and_self, and_false, false_and, or_true, true_or, or_self, z01, z10, zle8, Nat.reduceAdd, Nat.reduceLeDiff]
  refine readAllM h hM2 ?_ ?_ ?_ ?_ ⟨fun _ v s nl np nb nc nr nh nk hv h15 hr _ => ?_, (fun z => by rw [hc] at z; cases z)⟩
  · show xI (xsI (xsI (xsI (xsI (mThr c) 278 10 (nI k)) 278 9 0) 278 11 0) 278 15 0) 278 10 = _
    rw [xI_ne (by omega), xI_ne (by omega), xI_ne (by omega), xI_at]
  · show xI (mRd c k) 283 = _
    rw [show xI (mRd c k) 283 = xI c 283 from funext fun j => mRd_f (by omega)]
    exact h283
  · exact xI_at
  · show xI (xsI (xsI (xsI (xsI (mThr c) 278 10 (nI k)) 278 9 0) 278 11 0) 278 15 0) 278 11 = _
    rw [xI_ne (by omega), xI_at]
  · have hMv : sMd v := hv.md hM2
    have j1 : xIs v 278 11 := hMv.1
    have hMw : sMd (xsI v 278 7 1) := hMv
    have cp := fun P => copyM (w := xsI v 278 7 1) (x := nI k) (P := P) (F := xI v 280) hMw (xIf_sI (by omega))
    simp only [show nI 0 = 0 from rfl] at cp
    have hMx : sMd (xfill (xsI v 278 7 1) 279 402 (xI v 280)) := hMv
    obtain ⟨m0, ⟨r3, -⟩, ⟨j9, n9⟩, -⟩ := hMx
    obtain ⟨-, -, -, e3, -⟩ := hr.e
    have e3' : xI (xsI (xsI (xsI (xfill (xsI v 278 7 1) 279 402 (xI v 280)) 278 20 0) 278 31 0) 278 27 0) 279 3 = nI np := by
      rw [xI_ne (by omega), xI_ne (by omega), xI_ne (by omega), xI_fill, if_pos ⟨rfl, by omega⟩, e3]
    have gd := fun P => good_run (u := xsI (xsI (xsI (xfill (xsI v 278 7 1) 279 402 (xI v 280)) 278 20 0) 278 31 0) 278 27 0) (x := nI np) (P := P) hMv.1
    simp (disch := omega) only [r209_47, r209_48, r209_51, r209_69, r209_70, r209_71, r209_74, r209_75, r209_101, r209_102, r209_103, r209_106, r209_107, r209_108, r209_111, r209_112, r209_113, r209_116, r209_117, r209_118, r209_121, r209_122, r209_123, r209_126, j1, h15, cp, m0, r3, j9, n9, e3', gd, xIs_sI, xR_sI, xN_sI, show (0 : Int32) ≤ 0 by decide, or_true, xinbT, xixT, leT, leF, ltT, ltF, ngF, psT, n1F, n2F, km2, km3, km4, km5, km10, km15, km25, kl8, kl14, kl24, kl34, kl274, kl354, kl384, kr1, kr2, kr3, kr4, kr5, kr6, kr7, kr8, kr9, kaa, lb0, lb1, lb2, lb3, lb4, lb5, lb6, lb7, li0, li1, li2, li3, li4, li5, li6, li7, true_and, and_true, Option.some.injEq, exists_eq_left', Option.toList_some, Option.toList_none, List.cons_append, List.nil_append, xcat_nil, xcat_int, xcat_ref, xcat_long, not_true, not_false_iff, if_true, if_false, and_self, and_false, false_and, or_true, true_or, or_self, z01, z10, zle8, Nat.reduceAdd, Nat.reduceLeDiff]
    exact hP v s nl np nb nc nr nh nk hv h15 hr
theorem both_desk (hT : Tr u) (h : St u D E s nl np nb nc nr nh nk n nf na f op) : Both 108 209 [.ref 0, .int x, .null] [.ref 278, .int x, .null] u := by
  have hb := h.b
  have hD := h.1.d
  obtain ⟨g1, g2, g3, g4, g5, g6⟩ := h.sp
  obtain ⟨hDE, -, hrd, htp, hd6, hd34, hbk, hac, -, hM, -⟩ := h.1
  obtain ⟨⟨t1, t2, t3⟩, ⟨t4, t5⟩, t6⟩ := h.okt
  have r10 := hrd.2.1.1
  have i1 := hrd.1
  have i2 := htp.1
  by_cases c0 : 0 ≤ x ∧ x ≤ nI f
  · obtain ⟨k, hk, rfl⟩ := i32_le0 c0.1 c0.2 (by omega)
    have hE : E = 6 ∨ E = 34 := by rcases hDE with q | q <;> omega
    have hRb : Rb (xsI (xsI (xsI (xsI (xsI u 2 1 0) 1 5 0) 1 4 0) 2 2 (nI k)) 2 4 0) E k := by
      refine ⟨hrd, ⟨htp, ?_, by omega, xI_at, Nat.zero_le k⟩, ?_, hE, ?_, ?_⟩
      · rw [xI_ne (by omega), xI_at]
      · rcases hE with rfl | rfl
        · exact hd6
        · exact hd34
      · rw [xI_ne (by omega), xI_ne (by omega), xI_at]
      · rw [xIf_sI (by omega), xIf_sI (by omega), xIf_sI (by omega), xIf_sI (by omega), xIf_sI (by omega)]
        exact t5
    have h283 : xI (xsI u 2 1 0) 283 = xI (xsI u 2 1 0) 3 := by
      rw [xIf_sI (by omega), xIf_sI (by omega)]
      exact funext fun j => (t4 j).symm
    have hrc := fun P => readsC (u := xsI u 2 1 0) (P := P) hRb hM h283
    have hnf := reads_nf hE 1201 (nxt (xsI (xsI (xsI (xsI (xsI u 2 1 0) 1 5 0) 1 4 0) 2 2 (nI k)) 2 4 0))
    have hMf := fun c f (P : Option Value → xMem → Prop) h1 h2 h3 h4 h5 => deskM_fail (c := c) (f := f) (P := P) hRb h1 h2 h3 h4 h5
    have hMo := fun c f (P : Option Value → xMem → Prop) h1 h2 h3 h4 h5 => deskM_ok (c := c) (f := f) (P := P) hRb h1 h2 h3 h4 h5
    have eG3 : xI (xsI (xsI (xsI (xsI (xsI u 2 1 0) 1 5 0) 1 4 0) 2 2 (nI k)) 2 4 0) 3 = xI u 3 := by
      rw [xIf_sI (by omega), xIf_sI (by omega), xIf_sI (by omega), xIf_sI (by omega), xIf_sI (by omega)]
    have eN : ∀ b j, b ≠ 1 → b ≠ 2 → xI (nxt (xsI (xsI (xsI (xsI (xsI u 2 1 0) 1 5 0) 1 4 0) 2 2 (nI k)) 2 4 0)) b j = xI u b j := fun b j q1 q2 => by
      rw [kp_nxt.2.2.1 b j q1 q2, xI_ne (by omega), xI_ne (by omega), xI_ne (by omega), xI_ne (by omega), xI_ne (by omega)]
    have e21 : xI (nxt (xsI (xsI (xsI (xsI (xsI u 2 1 0) 1 5 0) 1 4 0) 2 2 (nI k)) 2 4 0)) 2 1 = 0 := by
      rw [kp_nxt.2.2.2.2.2 1 (by omega), xI_ne (by omega), xI_ne (by omega), xI_ne (by omega), xI_ne (by omega), xI_at]
    have e15 : xI (nxt (xsI (xsI (xsI (xsI (xsI u 2 1 0) 1 5 0) 1 4 0) 2 2 (nI k)) 2 4 0)) 1 5 = 0 := by
      rw [nxt_nf, xI_ne (by omega), xI_ne (by omega), xI_ne (by omega), xI_at]
    have sN1 : (nxt (xsI (xsI (xsI (xsI (xsI u 2 1 0) 1 5 0) 1 4 0) 2 2 (nI k)) 2 4 0)).1 = u.1 := rfl
    have sN2 : (nxt (xsI (xsI (xsI (xsI (xsI u 2 1 0) 1 5 0) 1 4 0) 2 2 (nI k)) 2 4 0)).2.2.2 = u.2.2.2 := rfl
    rw [eG3] at hMf hMo
    generalize nxt (xsI (xsI (xsI (xsI (xsI u 2 1 0) 1 5 0) 1 4 0) 2 2 (nI k)) 2 4 0) = N at *
    have hfc := (hrc (fun _ _ => True)).2
    have hrc := fun P => (hrc P).1
    generalize cReads E 1201 N = cR at *
    have s1 : cR.2.1 = u.1 := hfc.1.trans sN1
    have s2 : cR.2.2.2.2 = u.2.2.2 := hfc.2.1.trans sN2
    have fC : ∀ b j, b ≠ 1 → b ≠ 2 → (b ≤ E ∨ E + 26 < b) → xI cR.2 b j = xI u b j := fun b j q1 q2 q3 => (hfc.2.2.1 b j q1 q2 q3).trans (eN b j q1 q2)
    have shC := shp s1 s2
    have j0 : xIs cR.2 0 10 := by rw [shC]; exact g1
    have j1 : xIs cR.2 1 7 := by rw [shC]; exact i1
    have j62 : xIs cR.2 62 1 := by rw [shC]; exact hbk.1
    have j269 : xIs cR.2 269 0 := by rw [shC]; exact hac.1
    have k00 : xR cR.2 0 0 = some 1 := by rw [shC]; exact g2
    have k01 : xR cR.2 0 1 = some D := by rw [shC]; exact g3
    have k03 : xR cR.2 0 3 = some 62 := by rw [shC]; exact g4
    have k04 : xR cR.2 0 4 = some 269 := by rw [shC]; exact g5
    have k13 : xR cR.2 1 3 = some E := by rw [shC]; exact hrd.2.1.2.2.2
    have hMc : sMd cR.2 := by rw [shC]; exact hM
    have e21' : xI cR.2 2 1 = 0 := (hfc.2.2.2.2.2.1 1 (by omega)).trans e21
    have u0 : xIs (xsI u 2 1 0) 0 10 := g1
    have u1 : xIs (xsI u 2 1 0) 1 7 := i1
    have u00 : xR (xsI u 2 1 0) 0 0 = some 1 := g2
    have wi : (0 ≤ nI k ∧ nI k ≤ nI f) = True := eq_true c0
    cases hc : cR.1
    · -- a fault
      have kC : ∀ P, zr 108 0 [.ref 0, .int (nI k), .null] [] u P = P (some (.int (-1))) (xsI cR.2 0 6 4) := fun P => by
        simp (disch := omega) only [r108_0, r108_1, r108_2, r108_3, r108_6, r108_9, r108_12, r108_15, r108_18, r108_19, r108_20, r108_23, r108_24, r108_25, r108_28, r108_31, r108_32, r108_35, r108_36, r108_39, r108_40, r108_43, r108_46, r108_47, r108_48, r108_51, g1, g2, i1, i2, r10, t1, within_run, wi, decide_true, bI_t, bI_f, u0, u1, u00, hrc, hc, j0, refuse_run j0, true_and, and_true, Option.some.injEq, exists_eq_left', Option.toList_some, Option.toList_none, List.cons_append, List.nil_append, xcat_nil, xcat_int, xcat_ref, xcat_long, not_true, not_false_iff, if_true, if_false, and_self, and_false, false_and, or_true, true_or, or_self, z01, z10, zle8, Nat.reduceAdd, Nat.reduceLeDiff]
      unfold Both
      rw [kC]
      refine ⟨⟨s1, by show cR.2.2.2.2.2 = _; rw [s2], funext fun j => ?_⟩, ?_⟩
      · rw [xI_ne (by omega), fC _ j (by omega) (by omega) (by omega)]
      refine hMf (xsI cR.2 0 6 4) f _ hMc ?_ hk t3 ?_ hc (fun v hv hz => ?_)
      · rw [xI_ne (by omega), fC 278 9 (by omega) (by omega) (by omega)]; exact t2
      · rw [xIf_sI (by omega)]
        exact funext fun j => (fC 283 j (by omega) (by omega) (by omega)).trans (t4 j).symm
      have fv : ∀ b j, b ≠ 280 → (b ≠ 278 ∨ ((j < 11 ∨ 15 < j) ∧ j ≠ 0 ∧ j ≠ 9 ∧ j ≠ 10)) → xI v b j = xI (xsI cR.2 0 6 4) b j := fun b j q1 q2 => by
        rw [hv.2.2.1 b j q1 (by omega), mRd_f (by omega)]
      have fm : ∀ b j, b ≠ 280 → (b ≠ 278 ∨ ((j < 11 ∨ 15 < j) ∧ j ≠ 0 ∧ j ≠ 1 ∧ j ≠ 2 ∧ j ≠ 9 ∧ j ≠ 10)) → xI (xsI (xsI v 278 1 4) 278 2 (xI v 278 13)) b j = xI (xsI cR.2 0 6 4) b j := fun b j q1 q2 => by
        rw [xI_ne (by omega), xI_ne (by omega)]
        exact fv b j q1 (by omega)
      have fu : ∀ b j, b ≠ 280 → b ≠ 1 → b ≠ 2 → (b ≤ E ∨ E + 26 < b) → (b ≠ 0 ∨ j ≠ 6) → (b ≠ 278 ∨ ((j < 11 ∨ 15 < j) ∧ j ≠ 0 ∧ j ≠ 1 ∧ j ≠ 2 ∧ j ≠ 9 ∧ j ≠ 10)) → xI (xsI (xsI v 278 1 4) 278 2 (xI v 278 13)) b j = xI u b j := fun b j q1 q2 q3 q4 q5 q6 => by
        rw [fm b j q1 q6, xI_ne (by omega)]
        exact fC b j q2 q3 q4
      have v1 : v.1 = u.1 := hv.1.trans s1
      have v2 : v.2.2.2 = u.2.2.2 := hv.2.1.trans s2
      have gu : ∀ b, b ≠ 0 → b ≠ 1 → b ≠ 2 → b ≠ 278 → b ≠ 280 → (b ≤ E ∨ E + 26 < b) → xI (xsI (xsI v 278 1 4) 278 2 (xI v 278 13)) b = xI u b := fun b q1 q2 q3 q4 q5 q6 => funext fun j => fu b j q5 q2 q3 q6 (by omega) (by omega)
      refine ⟨⟨_, rfl, rfl⟩, ⟨v1, by show v.2.2.2.2 = _; rw [v2], gu _ (by omega) (by omega) (by omega) (by omega) (by omega) (by omega)⟩, ⟨?_, ?_⟩, D, E, s, nl, np, nb, nc, nr, nh, nk, n, nf, na, 0, op, h.1.mv v1 v2, ?_, ?_, ⟨?_, ?_, h.2.2.2.1.2.2⟩, ?_, ?_, ?_, ⟨?_, ?_, by omega⟩, ⟨fun j => ?_, fun j hj => ?_⟩, ?_⟩
      · rw [fm 0 6 (by omega) (by omega), xI_at, xI_ne (by omega), xI_at]
      · rw [fm 0 6 (by omega) (by omega), xI_at, fm 1 6 (by omega) (by omega), show xI (xsI cR.2 0 6 4) 0 6 = 4 from xI_at, if_pos rfl, xI_ne (by omega)]
        exact hz.2.2.2.2
      · exact h.2.1.mv v1 v2 (fun c q1 q2 => gu c (by omega) (by omega) (by omega) (by omega) (by omega) (by omega))
      · rw [gu 279 (by omega) (by omega) (by omega) (by omega) (by omega) (by omega)]
        exact h.2.2.1.mv (fun c q1 q2 => gu c (by omega) (by omega) (by omega) (by omega) (by omega) (by omega))
      · rw [fu 0 2 (by omega) (by omega) (by omega) (by omega) (by omega) (by omega)]
        exact h.2.2.2.1.1
      · rw [fu 278 7 (by omega) (by omega) (by omega) (by omega) (by omega) (by omega)]
        exact h.2.2.2.1.2.1
      · exact h.okb.mv (fun b q => gu b (by omega) (by omega) (by omega) (by omega) (by omega) (by omega))
      · exact h.2.2.2.2.2.1.mv h.okl.1.2 (fu 278 20 (by omega) (by omega) (by omega) (by omega) (by omega) (by omega)) (fu 278 27 (by omega) (by omega) (by omega) (by omega) (by omega) (by omega)) (fun b q => gu b (by omega) (by omega) (by omega) (by omega) (by omega) (by omega)) (fun b q => gu b (by omega) (by omega) (by omega) (by omega) (by omega) (by omega))
      · exact h.oka.mv (fu 278 31 (by omega) (by omega) (by omega) (by omega) (by omega) (by omega)) (fun b q => gu b (by omega) (by omega) (by omega) (by omega) (by omega) (by omega))
      · rw [fm 2 1 (by omega) (by omega), xI_ne (by omega)]
        exact e21'
      · rw [xI_ne (by omega), xI_ne (by omega), hv.2.2.1 278 9 (by omega) (by omega)]
        show xI (xsI (xsI (xsI (xsI (mThr _) 278 10 (nI k)) 278 9 0) 278 11 0) 278 15 0) 278 9 = _
        rw [xI_ne (by omega), xI_ne (by omega), xI_at]
        rfl
      · rw [fu 3 j (by omega) (by omega) (by omega) (by omega) (by omega) (by omega), fu 283 j (by omega) (by omega) (by omega) (by omega) (by omega) (by omega)]
        exact t4 j
      · rw [fu 3 j (by omega) (by omega) (by omega) (by omega) (by omega) (by omega)]
        exact t5 j hj
      · rw [xI_ne (by omega), xI_ne (by omega), fm 1 5 (by omega) (by omega), xI_ne (by omega)]
        exact hz.2.2.1
    · -- a desk
      have hc15 : xI cR.2 1 5 = 0 := (hnf hc).trans e15
      have q0 : xIs (xsR (xsR cR.2 1 3 (some D)) 0 1 (some E)) 0 10 := j0
      have iE3 : xIs cR.2 E 3 := by
        rw [shC]
        rcases hE with rfl | rfl
        · exact hd6.1
        · exact hd34.1
      have rE0 : xR cR.2 E 0 = some (E + 1) := by
        rw [shC]
        rcases hE with rfl | rfl
        · exact hd6.2.1.1
        · exact hd34.2.1.1
      have iE4 : xIs cR.2 (E + 1) 4 := by
        rw [shC]
        rcases hE with rfl | rfl
        · exact hd6.2.2.1.1
        · exact hd34.2.2.1.1
      have rE0' : xR (xsR (xsR cR.2 1 3 (some D)) 0 1 (some E)) E 0 = some (E + 1) := by
        rcases hE with rfl | rfl
        · exact rE0
        · exact rE0
      have p0 : xR (xsR cR.2 1 3 (some D)) 0 1 = some D := k01
      have p00 : xR (xsR cR.2 1 3 (some D)) 0 0 = some 1 := k00
      have p03 : xR (xsR (xsR cR.2 1 3 (some D)) 0 1 (some E)) 0 3 = some 62 := k03
      have p04 : xR (xsR (xsR cR.2 1 3 (some D)) 0 1 (some E)) 0 4 = some 269 := k04
      have p01 : xR (xsR (xsR cR.2 1 3 (some D)) 0 1 (some E)) 0 1 = some E := rfl
      have l1 : xIs (xsR cR.2 1 3 (some D)) 0 10 := j0
      have l2 : xIs (xsR (xsR cR.2 1 3 (some D)) 0 1 (some E)) 62 1 := j62
      have l3 : xIs (xsR (xsR cR.2 1 3 (some D)) 0 1 (some E)) 269 0 := j269
      have l4 : xIs (xsR (xsR cR.2 1 3 (some D)) 0 1 (some E)) E 3 := iE3
      have l5 : xIs (xsR (xsR cR.2 1 3 (some D)) 0 1 (some E)) (E + 1) 4 := iE4
      have e2 : xI (xsI (xsI (xsI (xsI (xsR (xsR cR.2 1 3 (some D)) 0 1 (some E)) 0 2 1) 62 0 0) 62 2 0) 269 0 0) (E + 1) 2 = xI cR.2 (E + 1) 2 := by
        rw [xI_ne (by omega), xI_ne (by omega), xI_ne (by omega), xI_ne (by omega)]
        rfl
      have gr := fun x P => grant_run (u := xsI (xsI (xsI (xsI (xsR (xsR cR.2 1 3 (some D)) 0 1 (some E)) 0 2 1) 62 0 0) 62 2 0) 269 0 0) (x := x) (P := P) j0
      have em := fun P => empty_run (u := xsI (xsR (xsR cR.2 1 3 (some D)) 0 1 (some E)) 0 2 1) (P := P) j62
      have kC : ∀ P, zr 108 0 [.ref 0, .int (nI k), .null] [] u P = P (some (.int (xI cR.2 (E + 1) 2))) (xsI (xsI (xsI (xsI (xsI (xsR (xsR cR.2 1 3 (some D)) 0 1 (some E)) 0 2 1) 62 0 0) 62 2 0) 269 0 0) 0 6 0) := fun P => by
        simp (disch := omega) only [r108_0, r108_1, r108_2, r108_3, r108_6, r108_9, r108_12, r108_15, r108_18, r108_19, r108_20, r108_23, r108_24, r108_25, r108_28, r108_31, r108_32, r108_35, r108_36, r108_39, r108_40, r108_43, r108_46, r108_47, r108_48, r108_51, r108_52, r108_53, r108_56, r108_59, r108_60, r108_61, r108_64, r108_65, r108_68, r108_71, r108_72, r108_73, r108_76, r108_77, r108_78, r108_81, r108_82, r108_85, r108_88, r108_89, r108_92, r108_93, r108_96, r108_97, r108_98, r108_101, r108_104, r108_107, r108_110, g1, g2, i1, i2, r10, t1, within_run, wi, decide_true, bI_t, bI_f, u0, u1, u00, hrc, hc, j0, j1, k00, k01, k13, p0, p00, p01, p03, p04, q0, l1, l2, l3, l4, l5, rE0', e2, gr, em, xIs_sI, xR_sI, or_true, true_and, and_true, Option.some.injEq, exists_eq_left', Option.toList_some, Option.toList_none, List.cons_append, List.nil_append, xcat_nil, xcat_int, xcat_ref, xcat_long, not_true, not_false_iff, if_true, if_false, and_self, and_false, false_and, or_true, true_or, or_self, z01, z10, zle8, Nat.reduceAdd, Nat.reduceLeDiff]
      unfold Both
      rw [kC]
      refine ⟨⟨s1, by show cR.2.2.2.2.2 = _; rw [s2], funext fun j => ?_⟩, ?_⟩
      · rw [xI_ne (by omega), xI_ne (by omega), xI_ne (by omega), xI_ne (by omega), xI_ne (by omega)]
        exact fC _ j (by omega) (by omega) (by omega)
      have fc' : ∀ b j, b ≠ 62 → b ≠ 269 → (b ≠ 0 ∨ (j ≠ 2 ∧ j ≠ 6)) → xI (xsI (xsI (xsI (xsI (xsI (xsR (xsR cR.2 1 3 (some D)) 0 1 (some E)) 0 2 1) 62 0 0) 62 2 0) 269 0 0) 0 6 0) b j = xI cR.2 b j := fun b j q1 q2 q3 => by
        rw [xI_ne (by omega), xI_ne (by omega), xI_ne (by omega), xI_ne (by omega), xI_ne (by omega)]
        rfl
      have c02 : xI (xsI (xsI (xsI (xsI (xsI (xsR (xsR cR.2 1 3 (some D)) 0 1 (some E)) 0 2 1) 62 0 0) 62 2 0) 269 0 0) 0 6 0) 0 2 = 1 := by rw [xI_ne (by omega), xI_ne (by omega), xI_ne (by omega), xI_ne (by omega), xI_at]
      have c06 : xI (xsI (xsI (xsI (xsI (xsI (xsR (xsR cR.2 1 3 (some D)) 0 1 (some E)) 0 2 1) 62 0 0) 62 2 0) 269 0 0) 0 6 0) 0 6 = 0 := xI_at
      have c620 : xI (xsI (xsI (xsI (xsI (xsI (xsR (xsR cR.2 1 3 (some D)) 0 1 (some E)) 0 2 1) 62 0 0) 62 2 0) 269 0 0) 0 6 0) 62 0 = 0 := by rw [xI_ne (by omega), xI_ne (by omega), xI_ne (by omega), xI_at]
      have c622 : xI (xsI (xsI (xsI (xsI (xsI (xsR (xsR cR.2 1 3 (some D)) 0 1 (some E)) 0 2 1) 62 0 0) 62 2 0) 269 0 0) 0 6 0) 62 2 = 0 := by rw [xI_ne (by omega), xI_ne (by omega), xI_at]
      have c269 : xI (xsI (xsI (xsI (xsI (xsI (xsR (xsR cR.2 1 3 (some D)) 0 1 (some E)) 0 2 1) 62 0 0) 62 2 0) 269 0 0) 0 6 0) 269 0 = 0 := by rw [xI_ne (by omega), xI_at]
      have hMc' : sMd (xsI (xsI (xsI (xsI (xsI (xsR (xsR cR.2 1 3 (some D)) 0 1 (some E)) 0 2 1) 62 0 0) 62 2 0) 269 0 0) 0 6 0) := hMc
      have d1 : (xsI (xsI (xsI (xsI (xsI (xsR (xsR cR.2 1 3 (some D)) 0 1 (some E)) 0 2 1) 62 0 0) 62 2 0) 269 0 0) 0 6 0).1 = cR.2.1 := rfl
      have d2 : (xsI (xsI (xsI (xsI (xsI (xsR (xsR cR.2 1 3 (some D)) 0 1 (some E)) 0 2 1) 62 0 0) 62 2 0) 269 0 0) 0 6 0).2.2.2 = (xsR (xsR cR.2 1 3 (some D)) 0 1 (some E)).2.2.2 := rfl
      generalize xsI (xsI (xsI (xsI (xsI (xsR (xsR cR.2 1 3 (some D)) 0 1 (some E)) 0 2 1) 62 0 0) 62 2 0) 269 0 0) 0 6 0 = c at *
      refine hMo c f _ hMc' ?_ hk t3 ?_ hc (fun v s' nl' np' nb' nc' nr' nh' nk' hv h15 hr => ?_)
      · rw [fc' 278 9 (by omega) (by omega) (by omega), fC 278 9 (by omega) (by omega) (by omega)]; exact t2
      · exact funext fun j => (fc' 283 j (by omega) (by omega) (by omega)).trans ((fC 283 j (by omega) (by omega) (by omega)).trans (t4 j).symm)
      have fm : ∀ b j, b ≠ 279 → b ≠ 280 → (b ≠ 278 ∨ ((j < 11 ∨ 15 < j) ∧ j ≠ 0 ∧ j ≠ 1 ∧ j ≠ 2 ∧ j ≠ 7 ∧ j ≠ 9 ∧ j ≠ 10 ∧ j ≠ 20 ∧ j ≠ 27 ∧ j ≠ 31)) → xI (mOk v) b j = xI c b j := fun b j q0 q1 q2 => by
        rw [mOk_f q0 (by omega), hv.2.2.1 b j q1 (by omega), mRd_f (by omega)]
      have gm : ∀ b, b ≠ 279 → b ≠ 280 → b ≠ 278 → xI (mOk v) b = xI c b := fun b q0 q1 q2 => funext fun j => fm b j q0 q1 (Or.inl q2)
      have np2 : xI cR.2 (E + 1) 2 = nI np' := hr.1.1.2.2.2.1.1
      have w1 : (mOk v).1 = (xsR (xsR cR.2 1 3 (some D)) 0 1 (some E)).1 := hv.1.trans d1
      have w2 : (mOk v).2.2.2 = (xsR (xsR cR.2 1 3 (some D)) 0 1 (some E)).2.2.2 := hv.2.1.trans d2
      have gE : ∀ cc, E < cc → cc ≤ E + 26 → xI (mOk v) cc = xI (xsR (xsR cR.2 1 3 (some D)) 0 1 (some E)) cc := fun cc q1 q2 => by
        rw [gm cc (by omega) (by omega) (by omega)]
        exact funext fun j => fc' cc j (by omega) (by omega) (by omega)
      have hok : okG (mOk v) E s' nl' np' nb' nc' nr' nh' nk' := (hr.1.swap hE (a := some D) (b := some E)).mv w1 w2 gE
      have hsh : Sh cR.2 D E := by rw [shC]; exact h.1
      have m278 : ∀ j, xI (mOk v) 278 j = if j = 2 then -1 else if j = 1 then 0 else if j = 27 then 0 else if j = 31 then 0 else if j = 20 then 0 else if j = 7 then 1 else xI v 278 j := fun j => by
        unfold mOk mGood
        by_cases z2 : j = 2
        · rw [if_pos z2, xI_ate z2]
        rw [if_neg z2, xI_ne (by omega)]
        by_cases z1 : j = 1
        · rw [if_pos z1, xI_ate z1]
        rw [if_neg z1, xI_ne (by omega)]
        by_cases z27 : j = 27
        · rw [if_pos z27, xI_ate z27]
        rw [if_neg z27, xI_ne (by omega)]
        by_cases z31 : j = 31
        · rw [if_pos z31, xI_ate z31]
        rw [if_neg z31, xI_ne (by omega)]
        by_cases z20 : j = 20
        · rw [if_pos z20, xI_ate z20]
        rw [if_neg z20, xI_ne (by omega), xI_fill, if_neg (by omega)]
        by_cases z7 : j = 7
        · rw [if_pos z7, xI_ate z7]
        · rw [if_neg z7, xI_ne (by omega)]
      refine ⟨⟨nI np', by rw [np2], rfl⟩, ⟨w1.trans s1, ?_, ?_⟩, ⟨?_, ?_⟩, E, D, s', nl', np', nb', nc', nr', nh', nk', 0, 0, 0, 0, true, hsh.swap.mv w1 w2, hok, ?_, ⟨?_, ?_, fun z => by cases z⟩, ⟨⟨⟨?_, by omega⟩, fun l hl => absurd hl (by omega)⟩, ⟨?_, by omega⟩, fun l hl => absurd hl (by omega), fun l hl => absurd hl (by omega), fun _ l _ hl => absurd hl (by omega)⟩, ⟨?_, ?_, fun l hl => absurd hl (by omega), fun l hl => absurd hl (by omega)⟩, ⟨⟨?_, by omega, ?_⟩, fun l hl => absurd hl (by omega), Nat.zero_le _, Nat.zero_le _, Nat.zero_le _, Nat.zero_le _⟩, ⟨?_, ?_, by omega⟩, ⟨fun j => ?_, fun j hj => ?_⟩, ?_⟩
      · have z : (mOk v).2.2.2.2 = cR.2.2.2.2.2 := congrArg (fun q => q.2) w2
        rw [z, s2]
      · rw [gm _ (by omega) (by omega) (by omega)]
        exact funext fun j => (fc' _ j (by omega) (by omega) (by omega)).trans (fC _ j (by omega) (by omega) (by omega))
      · rw [m278, if_neg (by omega), if_pos rfl, fm 0 6 (by omega) (by omega) (by omega), c06]
      · rw [m278, if_pos rfl, fm 0 6 (by omega) (by omega) (by omega), c06, if_neg (by decide)]
      · refine cpD.cg (cpD.mv (g := cR.2) hr.2.2.2.2.1 gE) hok (fun i hi => ?_)
        unfold mOk mGood
        rw [xI_ne (by omega), xI_ne (by omega), xI_ne (by omega), xI_ne (by omega), xI_ne (by omega), xI_fill, if_pos ⟨rfl, hi⟩]
      · rw [fm 0 2 (by omega) (by omega) (by omega), c02]; rfl
      · rw [m278, if_neg (by omega), if_neg (by omega), if_neg (by omega), if_neg (by omega), if_neg (by omega), if_pos rfl]; rfl
      · rw [fm 62 0 (by omega) (by omega) (by omega), c620]; rfl
      · rw [fm 62 2 (by omega) (by omega) (by omega), c622]; rfl
      · rw [m278, if_neg (by omega), if_neg (by omega), if_neg (by omega), if_neg (by omega), if_pos rfl]; rfl
      · rw [m278, if_neg (by omega), if_neg (by omega), if_pos rfl]; rfl
      · rw [fm 269 0 (by omega) (by omega) (by omega), c269]; rfl
      · rw [m278, if_neg (by omega), if_neg (by omega), if_neg (by omega), if_pos rfl]; rfl
      · rw [fm 2 1 (by omega) (by omega) (by omega), fc' 2 1 (by omega) (by omega) (by omega), e21']; rfl
      · rw [mOk_f (by omega) (by omega), hv.2.2.1 278 9 (by omega) (by omega)]
        show xI (xsI (xsI (xsI (xsI (mThr _) 278 10 (nI k)) 278 9 0) 278 11 0) 278 15 0) 278 9 = _
        rw [xI_ne (by omega), xI_ne (by omega), xI_at]
        rfl
      · rw [fm 3 j (by omega) (by omega) (by omega), fm 283 j (by omega) (by omega) (by omega), fc' 3 j (by omega) (by omega) (by omega), fc' 283 j (by omega) (by omega) (by omega), fC 3 j (by omega) (by omega) (by omega), fC 283 j (by omega) (by omega) (by omega)]
        exact t4 j
      · rw [fm 3 j (by omega) (by omega) (by omega), fc' 3 j (by omega) (by omega) (by omega), fC 3 j (by omega) (by omega) (by omega)]
        exact t5 j hj
      · rw [mOk_f (by omega) (by omega), h15, fm 1 5 (by omega) (by omega) (by omega), fc' 1 5 (by omega) (by omega) (by omega), hc15]
  · -- refused
    refine both h (a := -1) (t := 2) (fun P hP => ?_) (fun w hw P hP => ?_) (by decide)
    · simp (disch := omega) only [r108_0, r108_1, r108_2, r108_3, r108_6, r108_9, r108_12, r108_15, r108_18, r108_19, r108_20, r108_23, g1, g2, i1, i2, r10, t1, within_run, c0, decide_false, bI_f, refuse_run g1, true_and, and_true, Option.some.injEq, exists_eq_left', Option.toList_some, Option.toList_none, List.cons_append, List.nil_append, xcat_nil, xcat_int, xcat_ref, xcat_long, not_true, not_false_iff, if_true, if_false, and_self, and_false, false_and, or_true, true_or, or_self, z01, z10, zle8, Nat.reduceAdd, Nat.reduceLeDiff]
      exact QC.good hP xag.rf
    · have hx := h.mx (hw.tr ag_thr.m)
      have h0 : xIs w 278 11 := (h.mx hw).1.1
      have e9 : xI (mThr w) 278 9 = nI f := by
        rw [sc278 (hw.tr ag_thr.m) (by omega)]
        exact t2
      by_cases c1 : x < 0
      · simp (disch := omega) only [r209_0, r209_1, r209_2, r209_5, r209_6, r209_9, r209_10, r209_11, r209_14, r209_17, r209_18, r209_19, r209_22, mThr_f, h0, hx.1.1, c1, refused_run hx.1.1, true_and, and_true, Option.some.injEq, exists_eq_left', Option.toList_some, Option.toList_none, List.cons_append, List.nil_append, xcat_nil, xcat_int, xcat_ref, xcat_long, not_true, not_false_iff, if_true, if_false, and_self, and_false, false_and, or_true, true_or, or_self, z01, z10, zle8, Nat.reduceAdd, Nat.reduceLeDiff]
        exact QM.ref hP ag_thr
      · have c2 : ¬ x ≤ nI f := fun q => c0 ⟨i32_nlt.mp c1, q⟩
        simp (disch := omega) only [r209_0, r209_1, r209_2, r209_5, r209_6, r209_9, r209_10, r209_11, r209_14, r209_17, r209_18, r209_19, r209_22, mThr_f, h0, hx.1.1, c1, e9, c2, refused_run hx.1.1, true_and, and_true, Option.some.injEq, exists_eq_left', Option.toList_some, Option.toList_none, List.cons_append, List.nil_append, xcat_nil, xcat_int, xcat_ref, xcat_long, not_true, not_false_iff, if_true, if_false, and_self, and_false, false_and, or_true, true_or, or_self, z01, z10, zle8, Nat.reduceAdd, Nat.reduceLeDiff]
        exact QM.ref hP ag_thr
end
