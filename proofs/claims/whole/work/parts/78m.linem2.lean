/-! LINES: rates, holidays, caps in class and model -/
section
variable {w v g m : xMem} {P : Option Value → xMem → Prop} {E k n s nl np nb nc nr nh nk : Nat} {x y p c d lo hi : Int32}
theorem fRn_ok (hG : okG g E s nl np nb nc nr nh nk) : 0 ≤ fRn (xI g (E + 15)) (xI g (E + 16)) (xI g (E + 17)) p c nr := by
  have hb := hG.1.b
  unfold fRn
  rcases fRl_cases (xI g (E + 15)) (xI g (E + 16)) (xI g (E + 17)) p c 999 nr with q | ⟨k, hk, q, -⟩
  · rw [q, if_neg (by decide)]; decide
  · obtain ⟨a, ha, e⟩ := hG.2.2.2.2.2.2.1 k hk
    rw [q, if_pos (nI_pos' (by omega)), xix_nI (by omega), e, nI_1]
    exact nI_pos' (by omega)
theorem le999 {a : Nat} (h : a ≤ 999) : nI a ≤ (999 : Int32) := nI_le (a := a) (b := 999) h (by omega)
theorem latestRate_rel (hv : sMd v) (hr : Rs m v E s nl np nb nc nr nh nk) : zr 202 0 [.ref 280, .int p, .int c, .null] [] v P = P (some (.int (fRl (xI m (E + 15)) (xI m (E + 16)) (xI m (E + 17)) p c 999 nr))) v := by
  have hb := hr.1.1.b
  obtain ⟨e0, e1, e2, e3, e4, e5, -⟩ := hr.e
  obtain ⟨h0, r4, r5, r6, j, k0, -⟩ := hv.cf
  refine latestRate_run ⟨j, k0⟩ e5 hb.2.2.2.2.2.1 (fun k hk => ?_)
  obtain ⟨z1, z2, -⟩ := hr.2.2.2.2.1.rt hk
  obtain ⟨a, ha, e⟩ := hr.1.2.2.2.2.2.2.1 k hk
  exact ⟨z1, z2, by rw [e]; exact le999 ha⟩
theorem rateM_tail {d' : Nat} (hv : Wk m v E) (hr : Rs m v E s nl np nb nc nr nh nk) (hlt : nr < 20) (hd : ∃ a, a ≤ 999 ∧ d = nI a) (hx : 0 ≤ x ∧ x ≤ 2500) (hK : Lk2 (true, mAddR m (E + 14) nr p c d x) w E P) (hf : Fm w v) : zr 203 84 [.ref 278, .int p, .int c, .int y, .int d, .int x] [] v P := by
  have hb := hr.1.1.b
  obtain ⟨e0, e1, e2, e3, e4, e5, -⟩ := hr.e
  obtain ⟨h0, r4, r5, r6, j, k0, -⟩ := hv.1.1.cf
  have hfa := hv.2.1
  have hE := hr.2.1
  simp (disch := omega) only [r203_84, r203_85, r203_88, r203_91, r203_92, r203_95, r203_96, r203_97, r203_99, r203_101, r203_104, r204_0, r204_3, r204_4, r204_5, r204_6, r204_7, r204_8, r204_9, r204_11, r204_12, r204_14, r204_15, r204_16, r204_17, r204_19, r204_20, r204_21, r204_22, r204_23, r204_24, r204_26, r204_27, r204_28, r204_29, r204_30, r204_31, r204_33, r204_34, r204_35, r204_37, r204_38, r204_39, r204_40, r204_41, r204_42, r204_43, r204_44, r204_45, h0, r4, j, k0, e5, hfa, xIs_sI, xIs_sJ, xR_sI, xR_sJ, xN_sI, xN_sJ, xI_sJ, xI_ate, xI_ne, xinbT, xixT, leT, leF, ltT, ltF, ngF, psT, n1F, n2F, km2, km3, km4, km5, km10, km15, km25, kl8, kl14, kl24, kl34, kl274, kl354, kl384, kr1, kr2, kr3, kr4, kr5, kr6, kr7, kr8, kr9, kaa, lb0, lb1, lb2, lb3, lb4, lb5, lb6, lb7, li0, li1, li2, li3, li4, li5, li6, li7, true_and, and_true, Option.some.injEq, exists_eq_left', Option.toList_some, Option.toList_none, List.cons_append, List.nil_append, xcat_nil, xcat_int, xcat_ref, xcat_long, not_true, not_false_iff, if_true, if_false, and_self, and_false, false_and, or_true, true_or, or_self, z01, z10, zle8, Nat.reduceAdd, Nat.reduceLeDiff]
  refine hK.1 rfl _ s nl np nb nc (nr + 1) nh nk (hf.tr ((((Fm.sI.tr Fm.sI).tr Fm.sI).tr Fm.sI).tr Fm.sI)) (hv.mv rfl rfl ?_ ?_ ?_ rfl rfl ?_ ?_ ?_) ⟨?_, hE, hr.2.2.1, ?_, ?_, ?_, ?_⟩
  · unfold mAddR; simp (disch := omega) only [xIf_sI, xIf_sJ]
  · unfold mAddR; simp (disch := omega) only [xIf_sI, xIf_sJ]
  · unfold mAddR; simp (disch := omega) only [xJ_sI, xJ_ne]
  · simp (disch := omega) only [xIf_sI, xIf_sJ]
  · simp (disch := omega) only [xIf_sI, xIf_sJ]
  · simp (disch := omega) only [xJ_sI, xJ_ne]
  · exact okG.addR hr.1 hlt hd hx
  · unfold mAddR; simp (disch := omega) only [xI_ne, xI_sJ]; exact hr.2.2.2.1
  · exact cpD.addR hr.2.2.2.2.1 hr.1 hlt
  · exact hr.2.2.2.2.2.1
  · exact hr.2.2.2.2.2.2
theorem rateM_mid (hv : Wk m v E) (hr : Rs m v E s nl np nb nc nr nh nk) (hP : ∀ z, zr 203 66 [.ref 278, .int p, .int c, .int z, .null, .null] [.int (fRn (xI m (E + 15)) (xI m (E + 16)) (xI m (E + 17)) p c nr), .ref 278] v P) : zr 203 19 [.ref 278, .int p, .int c, .null, .null, .null] [] v P := by
  have hb := hr.1.1.b
  obtain ⟨h0, r4, r5, r6, j, k0, -⟩ := hv.1.1.cf
  have hfa := hv.2.1
  have lr := fun P => latestRate_rel (p := p) (c := c) (P := P) hv.1.1 hr
  unfold fRn at hP
  rcases fRl_cases (xI m (E + 15)) (xI m (E + 16)) (xI m (E + 17)) p c 999 nr with q | ⟨k, hk, q, -⟩
  · rw [q] at hP lr
    rw [if_neg (by decide)] at hP
    simp (disch := omega) only [r203_19, r203_20, r203_23, r203_26, r203_27, r203_30, r203_31, r203_34, r203_35, r203_36, r203_39, r203_40, r203_41, r203_42, r203_43, r203_46, r203_47, h0, r4, j, k0, hfa, lr, show (0 : Int32) ≤ 0 by decide, true_and, and_true, Option.some.injEq, exists_eq_left', Option.toList_some, Option.toList_none, List.cons_append, List.nil_append, xcat_nil, xcat_int, xcat_ref, xcat_long, not_true, not_false_iff, if_true, if_false, and_self, and_false, false_and, or_true, true_or, or_self, z01, z10, zle8, Nat.reduceAdd, Nat.reduceLeDiff]
    exact hP _
  · rw [q] at hP lr
    rw [if_pos (nI_pos' (by omega)), xix_nI (by omega)] at hP
    obtain ⟨z1, z2, z3, z4⟩ := hr.2.2.2.2.1.rt hk
    simp (disch := omega) only [r203_19, r203_20, r203_23, r203_26, r203_27, r203_30, r203_31, r203_34, r203_35, r203_36, r203_39, r203_40, r203_41, r203_42, r203_43, r203_46, r203_47, r203_50, r203_51, r203_54, r203_57, r203_58, r203_59, r203_60, r203_61, r203_62, r203_63, r203_64, r203_65, h0, r4, j, k0, hfa, lr, z3, show (0 : Int32) ≤ 0 by decide, xinbT, xixT, leT, leF, ltT, ltF, ngF, psT, n1F, n2F, km2, km3, km4, km5, km10, km15, km25, kl8, kl14, kl24, kl34, kl274, kl354, kl384, kr1, kr2, kr3, kr4, kr5, kr6, kr7, kr8, kr9, kaa, lb0, lb1, lb2, lb3, lb4, lb5, lb6, lb7, li0, li1, li2, li3, li4, li5, li6, li7, true_and, and_true, Option.some.injEq, exists_eq_left', Option.toList_some, Option.toList_none, List.cons_append, List.nil_append, xcat_nil, xcat_int, xcat_ref, xcat_long, not_true, not_false_iff, if_true, if_false, and_self, and_false, false_and, or_true, true_or, or_self, z01, z10, zle8, Nat.reduceAdd, Nat.reduceLeDiff]
    exact hP _
theorem rateM (h : Wk g w E) (hr : Rs g w E s nl np nb nc nr nh nk) (hK : Lk2 (thW (cStart g (nI nr) 20) (fun m => cRate m E nc np nr)) w E P) : zr 203 0 [.ref 278, .null, .null, .null, .null, .null] [] w P := by
  have hb := hr.1.1.b
  obtain ⟨e0, e1, e2, e3, e4, e5, -⟩ := hr.e
  have h14 := hr.2.2.2.1
  have zF : ∀ v z1 z2, Fw v → zr 203 19 [.ref 278, .int z1, .int z2, .null, .null, .null] [] v P = P none v := fun v z1 z2 hz => by
    simp only [r203_19, r203_20, r203_23, r203_26, r203_27, r203_30, r203_31, r203_34, r203_35, r203_36, r203_39, r203_40, r203_41, r203_42, r203_43, r203_46, r203_47, r203_50, r203_51, r203_54, r203_57, r203_58, r203_59, r203_60, r203_61, r203_62, r203_63, r203_64, r203_65, r203_66, r203_69, r203_72, r203_74, r203_75, r203_76, r203_79, r203_82, r203_84, r203_85, r203_88, r203_91, r203_92, r203_95, r203_96, r203_97, r203_99, r203_101, r203_104, hz.1.1, hz.nz.1, hz.nz.2, readWhole_z hz, show ¬ ((-1 : Int32) ≠ -1) by decide, true_and, and_true, Option.some.injEq, exists_eq_left', Option.toList_some, Option.toList_none, List.cons_append, List.nil_append, xcat_nil, xcat_int, xcat_ref, xcat_long, not_true, not_false_iff, if_true, if_false, and_self, and_false, false_and, or_true, true_or, or_self, z01, z10, zle8, Nat.reduceAdd, Nat.reduceLeDiff]
  simp only [r203_0, r203_1, r203_2, r203_4, h.1.1.1, true_and, and_true, Option.some.injEq, exists_eq_left', Option.toList_some, Option.toList_none, List.cons_append, List.nil_append, xcat_nil, xcat_int, xcat_ref, xcat_long, not_true, not_false_iff, if_true, if_false, and_self, and_false, false_and, or_true, true_or, or_self, z01, z10, zle8, Nat.reduceAdd, Nat.reduceLeDiff]
  refine begins_rel (k := 5) (m := 20) h hr (by omega) e5 hb.2.2.2.2.2.1 (by omega) (fun hlt v hn hv => ?_) (fun hge v hn hv => ?_)
  · rw [show (20 : Int32) = nI 20 from rfl, cStart_go h14 hlt (by omega), thW_t rfl] at hK
    have hK : Lk2 (cRate (nxt g) E nc np nr) w E P := hK
    unfold cRate at hK
    have hr1 := hr.mv kp_nxt hn.ny
    simp only [r203_7, r203_8, r203_9, hv.1.1.1, true_and, and_true, Option.some.injEq, exists_eq_left', Option.toList_some, Option.toList_none, List.cons_append, List.nil_append, xcat_nil, xcat_int, xcat_ref, xcat_long, not_true, not_false_iff, if_true, if_false, and_self, and_false, false_and, or_true, true_or, or_self, z01, z10, zle8, Nat.reduceAdd, Nat.reduceLeDiff]
    refine readKnownP_rel hv hr1 (fun q hi v2 hn2 hv2 => ?_) (fun q v2 hn2 hv2 => ?_)
    · rw [thI_t q] at hK
      have kpN : Kp (nxt g) (cName (nxt g) 5 np).2 := kp_name
      generalize cName (nxt g) 5 np = o1 at *
      have hr2 := hr1.mv kpN hn2.ny
      simp only [r203_12, r203_13, r203_14, r203_15, hv2.1.1.1, true_and, and_true, Option.some.injEq, exists_eq_left', Option.toList_some, Option.toList_none, List.cons_append, List.nil_append, xcat_nil, xcat_int, xcat_ref, xcat_long, not_true, not_false_iff, if_true, if_false, and_self, and_false, false_and, or_true, true_or, or_self, z01, z10, zle8, Nat.reduceAdd, Nat.reduceLeDiff]
      refine readKnownC_rel hv2 hr2 (fun q3 hi3 v3 hn3 hv3 => ?_) (fun q3 v3 hn3 hv3 => ?_)
      · rw [thI_t q3] at hK
        have kpN : Kp o1.2 (cName o1.2 4 nc).2 := kp_name
        generalize cName o1.2 4 nc = o2 at *
        have hr3 := hr2.mv kpN hn3.ny
        simp only [r203_18, true_and, and_true, Option.some.injEq, exists_eq_left', Option.toList_some, Option.toList_none, List.cons_append, List.nil_append, xcat_nil, xcat_int, xcat_ref, xcat_long, not_true, not_false_iff, if_true, if_false, and_self, and_false, false_and, or_true, true_or, or_self, z01, z10, zle8, Nat.reduceAdd, Nat.reduceLeDiff]
        refine rateM_mid hv3 hr3 (fun z => ?_)
        have hlo := fRn_ok (p := o1.1) (c := o2.1) hr3.1
        generalize fRn (xI o2.2 (E + 15)) (xI o2.2 (E + 16)) (xI o2.2 (E + 17)) o1.1 o2.1 nr = lo at *
        simp only [r203_66, r203_69, hv3.1.1.1, true_and, and_true, Option.some.injEq, exists_eq_left', Option.toList_some, Option.toList_none, List.cons_append, List.nil_append, xcat_nil, xcat_int, xcat_ref, xcat_long, not_true, not_false_iff, if_true, if_false, and_self, and_false, false_and, or_true, true_or, or_self, z01, z10, zle8, Nat.reduceAdd, Nat.reduceLeDiff]
        refine readWhole_rel hv3 hlo (fun q4 v4 hn4 hv4 => ?_) (fun q4 v4 hn4 hv4 => ?_)
        · rw [thI_t q4] at hK
          have hin := cWhole_in q4
          have kpW : Kp o2.2 (cWhole o2.2 lo 999).2 := kp_whole
          generalize cWhole o2.2 lo 999 = a4 at *
          have hr4 := hr3.mv kpW hn4.ny
          have hd := i32_le0 (n := 999) q4 hin.2 (by omega)
          simp only [r203_72, r203_74, r203_75, r203_76, r203_79, hv4.1.1.1, true_and, and_true, Option.some.injEq, exists_eq_left', Option.toList_some, Option.toList_none, List.cons_append, List.nil_append, xcat_nil, xcat_int, xcat_ref, xcat_long, not_true, not_false_iff, if_true, if_false, and_self, and_false, false_and, or_true, true_or, or_self, z01, z10, zle8, Nat.reduceAdd, Nat.reduceLeDiff]
          refine readWhole_rel hv4 (by decide) (fun q5 v5 hn5 hv5 => ?_) (fun q5 v5 hn5 hv5 => ?_)
          · rw [thI_t q5] at hK
            have hin5 := cWhole_in q5
            have kpW : Kp a4.2 (cWhole a4.2 0 2500).2 := kp_whole
            generalize cWhole a4.2 0 2500 = a5 at *
            have hr5 := hr4.mv kpW hn5.ny
            simp only [r203_82, true_and, and_true, Option.some.injEq, exists_eq_left', Option.toList_some, Option.toList_none, List.cons_append, List.nil_append, xcat_nil, xcat_int, xcat_ref, xcat_long, not_true, not_false_iff, if_true, if_false, and_self, and_false, false_and, or_true, true_or, or_self, z01, z10, zle8, Nat.reduceAdd, Nat.reduceLeDiff]
            exact rateM_tail (d' := 0) hv5 hr5 hlt hd hin5 hK (hn.fm.tr (hn2.fm.tr (hn3.fm.tr (hn4.fm.tr hn5.fm))))
          · rw [thI_f q5] at hK
            simp only [r203_82, r203_84, r203_85, r203_88, r203_91, r203_92, r203_95, r203_96, r203_97, r203_99, r203_101, r203_104, hv5.1.1, hv5.fw.nz.1, hv5.fw.nz.2, next_z hv5.fw, flaw_z hv5.fw, readWhole_z hv5.fw, readKnown_z hv5.fw, known_z hv5.fw, readFresh_z hv5.fw, takes_z (r := 1000007) (k := 7) rfl (by omega) hv5.fw, takes_z (r := 1000008) (k := 8) rfl (by omega) hv5.fw, takes_z (r := 1000009) (k := 9) rfl (by omega) hv5.fw, readPart_z (r := 1000010) (k := 10) rfl (by omega) hv5.fw, readPart_z (r := 1000011) (k := 11) rfl (by omega) hv5.fw, readPart_z (r := 1000012) (k := 12) rfl (by omega) hv5.fw, readPart_z (r := 1000013) (k := 13) rfl (by omega) hv5.fw, true_and, and_true, Option.some.injEq, exists_eq_left', Option.toList_some, Option.toList_none, List.cons_append, List.nil_append, xcat_nil, xcat_int, xcat_ref, xcat_long, not_true, not_false_iff, if_true, if_false, and_self, and_false, false_and, or_true, true_or, or_self, z01, z10, zle8, Nat.reduceAdd, Nat.reduceLeDiff]
            exact hK.2 rfl v5 (hn.fm.tr (hn2.fm.tr (hn3.fm.tr (hn4.fm.tr hn5.fm)))) hv5
        · rw [thI_f q4] at hK
          simp only [r203_72, r203_74, r203_75, r203_76, r203_79, r203_82, r203_84, r203_85, r203_88, r203_91, r203_92, r203_95, r203_96, r203_97, r203_99, r203_101, r203_104, hv4.1.1, hv4.fw.nz.1, hv4.fw.nz.2, next_z hv4.fw, flaw_z hv4.fw, readWhole_z hv4.fw, readKnown_z hv4.fw, known_z hv4.fw, readFresh_z hv4.fw, takes_z (r := 1000007) (k := 7) rfl (by omega) hv4.fw, takes_z (r := 1000008) (k := 8) rfl (by omega) hv4.fw, takes_z (r := 1000009) (k := 9) rfl (by omega) hv4.fw, readPart_z (r := 1000010) (k := 10) rfl (by omega) hv4.fw, readPart_z (r := 1000011) (k := 11) rfl (by omega) hv4.fw, readPart_z (r := 1000012) (k := 12) rfl (by omega) hv4.fw, readPart_z (r := 1000013) (k := 13) rfl (by omega) hv4.fw, true_and, and_true, Option.some.injEq, exists_eq_left', Option.toList_some, Option.toList_none, List.cons_append, List.nil_append, xcat_nil, xcat_int, xcat_ref, xcat_long, not_true, not_false_iff, if_true, if_false, and_self, and_false, false_and, or_true, true_or, or_self, z01, z10, zle8, Nat.reduceAdd, Nat.reduceLeDiff]
          exact hK.2 rfl v4 (hn.fm.tr (hn2.fm.tr (hn3.fm.tr hn4.fm))) hv4
      · rw [thI_f q3] at hK
        simp only [r203_18, zF _ _ _ hv3.fw, true_and, and_true, Option.some.injEq, exists_eq_left', Option.toList_some, Option.toList_none, List.cons_append, List.nil_append, xcat_nil, xcat_int, xcat_ref, xcat_long, not_true, not_false_iff, if_true, if_false, and_self, and_false, false_and, or_true, true_or, or_self, z01, z10, zle8, Nat.reduceAdd, Nat.reduceLeDiff]
        exact hK.2 rfl v3 (hn.fm.tr (hn2.fm.tr hn3.fm)) hv3
    · rw [thI_f q] at hK
      simp only [r203_12, r203_13, r203_14, r203_15, r203_18, hv2.1.1, hv2.fw.nz.1, hv2.fw.nz.2, next_z hv2.fw, flaw_z hv2.fw, readWhole_z hv2.fw, readKnown_z hv2.fw, known_z hv2.fw, readFresh_z hv2.fw, takes_z (r := 1000007) (k := 7) rfl (by omega) hv2.fw, takes_z (r := 1000008) (k := 8) rfl (by omega) hv2.fw, takes_z (r := 1000009) (k := 9) rfl (by omega) hv2.fw, readPart_z (r := 1000010) (k := 10) rfl (by omega) hv2.fw, readPart_z (r := 1000011) (k := 11) rfl (by omega) hv2.fw, readPart_z (r := 1000012) (k := 12) rfl (by omega) hv2.fw, readPart_z (r := 1000013) (k := 13) rfl (by omega) hv2.fw, zF _ _ _ hv2.fw, true_and, and_true, Option.some.injEq, exists_eq_left', Option.toList_some, Option.toList_none, List.cons_append, List.nil_append, xcat_nil, xcat_int, xcat_ref, xcat_long, not_true, not_false_iff, if_true, if_false, and_self, and_false, false_and, or_true, true_or, or_self, z01, z10, zle8, Nat.reduceAdd, Nat.reduceLeDiff]
      exact hK.2 rfl v2 (hn.fm.tr hn2.fm) hv2
  · rw [show (20 : Int32) = nI 20 from rfl, cStart_full h14 hge (by omega), thW_f (r := (false, flt g 5)) Bool.false_ne_true] at hK
    simp only [r203_7, r203_8, r203_9, r203_12, r203_13, r203_14, r203_15, r203_18, hv.1.1, hv.fw.nz.1, hv.fw.nz.2, next_z hv.fw, flaw_z hv.fw, readWhole_z hv.fw, readKnown_z hv.fw, known_z hv.fw, readFresh_z hv.fw, takes_z (r := 1000007) (k := 7) rfl (by omega) hv.fw, takes_z (r := 1000008) (k := 8) rfl (by omega) hv.fw, takes_z (r := 1000009) (k := 9) rfl (by omega) hv.fw, readPart_z (r := 1000010) (k := 10) rfl (by omega) hv.fw, readPart_z (r := 1000011) (k := 11) rfl (by omega) hv.fw, readPart_z (r := 1000012) (k := 12) rfl (by omega) hv.fw, readPart_z (r := 1000013) (k := 13) rfl (by omega) hv.fw, zF _ _ _ hv.fw, true_and, and_true, Option.some.injEq, exists_eq_left', Option.toList_some, Option.toList_none, List.cons_append, List.nil_append, xcat_nil, xcat_int, xcat_ref, xcat_long, not_true, not_false_iff, if_true, if_false, and_self, and_false, false_and, or_true, true_or, or_self, z01, z10, zle8, Nat.reduceAdd, Nat.reduceLeDiff]
    exact hK.2 rfl v hn.fm hv
theorem rateM_no (h : Wk g w E) (hz : ∀ i, i < 402 → xI w 280 i = 0) (hP : ∀ v, Ny w v → Fz (flt g 6) v → P none v) : zr 203 0 [.ref 278, .null, .null, .null, .null, .null] [] w P := by
  simp only [r203_0, r203_1, r203_2, r203_4, h.1.1.1, true_and, and_true, Option.some.injEq, exists_eq_left', Option.toList_some, Option.toList_none, List.cons_append, List.nil_append, xcat_nil, xcat_int, xcat_ref, xcat_long, not_true, not_false_iff, if_true, if_false, and_self, and_false, false_and, or_true, true_or, or_self, z01, z10, zle8, Nat.reduceAdd, Nat.reduceLeDiff]
  refine begins_no (k := 5) (m := 20) h hz (by omega) (by omega) (by omega) (fun v hn hv => ?_)
  simp only [r203_7, r203_8, r203_9, r203_12, r203_13, r203_14, r203_15, r203_18, r203_19, r203_20, r203_23, r203_26, r203_27, r203_30, r203_31, r203_34, r203_35, r203_36, r203_39, r203_40, r203_41, r203_42, r203_43, r203_46, r203_47, r203_50, r203_51, r203_54, r203_57, r203_58, r203_59, r203_60, r203_61, r203_62, r203_63, r203_64, r203_65, r203_66, r203_69, r203_72, r203_74, r203_75, r203_76, r203_79, r203_82, r203_84, r203_85, r203_88, r203_91, r203_92, r203_95, r203_96, r203_97, r203_99, r203_101, r203_104, hv.1.1, hv.fw.nz.1, hv.fw.nz.2, next_z hv.fw, flaw_z hv.fw, readWhole_z hv.fw, readKnown_z hv.fw, known_z hv.fw, readFresh_z hv.fw, takes_z (r := 1000007) (k := 7) rfl (by omega) hv.fw, takes_z (r := 1000008) (k := 8) rfl (by omega) hv.fw, takes_z (r := 1000009) (k := 9) rfl (by omega) hv.fw, readPart_z (r := 1000010) (k := 10) rfl (by omega) hv.fw, readPart_z (r := 1000011) (k := 11) rfl (by omega) hv.fw, readPart_z (r := 1000012) (k := 12) rfl (by omega) hv.fw, readPart_z (r := 1000013) (k := 13) rfl (by omega) hv.fw, show ¬ ((-1 : Int32) ≠ -1) by decide, true_and, and_true, Option.some.injEq, exists_eq_left', Option.toList_some, Option.toList_none, List.cons_append, List.nil_append, xcat_nil, xcat_int, xcat_ref, xcat_long, not_true, not_false_iff, if_true, if_false, and_self, and_false, false_and, or_true, true_or, or_self, z01, z10, zle8, Nat.reduceAdd, Nat.reduceLeDiff]
  exact hP v hn hv
/-! a holiday -/
theorem holM_tail {d2 : Int32} (hv : Wk m v E) (hr : Rs m v E s nl np nb nc nr nh nk) (hlt : nh < 6) (hd : ∃ a b, a ≤ b ∧ b ≤ 999 ∧ d = nI a ∧ d2 = nI b) (hK : Lk2 (true, mAddH m (E + 12) nh p c d d2 x) w E P) (hf : Fm w v) : zr 205 51 [.ref 278, .int p, .int c, .int d, .int d2, .int x, .null] [] v P := by
  have hb := hr.1.1.b
  obtain ⟨e0, e1, e2, e3, e4, e5, e6, e7⟩ := hr.e
  obtain ⟨h0, r4, r5, r6, j, k0, -⟩ := hv.1.1.cf
  have hfa := hv.2.1
  have hE := hr.2.1
  simp (disch := omega) only [r205_51, r205_52, r205_55, r205_58, r205_59, r205_62, r205_63, r205_64, r205_67, r205_69, r205_70, r205_71, r205_72, r205_74, r205_75, r205_78, r205_80, r205_81, r205_82, r205_83, r205_86, r205_88, r205_89, r205_90, r205_91, r205_92, r205_93, r205_96, r205_98, r205_99, r205_100, r205_101, r205_102, r205_103, r205_106, r205_108, r205_109, r205_110, r205_112, r205_113, r205_114, r205_117, r205_119, r205_120, r205_121, r205_123, r205_124, r205_125, r205_128, r205_130, r205_131, r205_132, r205_133, r205_134, r205_135, h0, r4, j, k0, e6, hfa, show (0 : Int32) ≤ 0 by decide, xIs_sI, xIs_sJ, xR_sI, xR_sJ, xN_sI, xN_sJ, xI_sJ, xI_ate, xI_ne, xinbT, xixT, leT, leF, ltT, ltF, ngF, psT, n1F, n2F, km2, km3, km4, km5, km10, km15, km25, kl8, kl14, kl24, kl34, kl274, kl354, kl384, kr1, kr2, kr3, kr4, kr5, kr6, kr7, kr8, kr9, kaa, lb0, lb1, lb2, lb3, lb4, lb5, lb6, lb7, li0, li1, li2, li3, li4, li5, li6, li7, true_and, and_true, Option.some.injEq, exists_eq_left', Option.toList_some, Option.toList_none, List.cons_append, List.nil_append, xcat_nil, xcat_int, xcat_ref, xcat_long, not_true, not_false_iff, if_true, if_false, and_self, and_false, false_and, or_true, true_or, or_self, z01, z10, zle8, Nat.reduceAdd, Nat.reduceLeDiff]
  refine hK.1 rfl _ s nl np nb nc nr (nh + 1) nk (hf.tr (((((Fm.sI.tr Fm.sI).tr Fm.sI).tr Fm.sI).tr Fm.sI).tr Fm.sI)) (hv.mv rfl rfl ?_ ?_ ?_ rfl rfl ?_ ?_ ?_) ⟨?_, hE, hr.2.2.1, ?_, ?_, ?_, ?_⟩
  · unfold mAddH; simp (disch := omega) only [xIf_sI, xIf_sJ]
  · unfold mAddH; simp (disch := omega) only [xIf_sI, xIf_sJ]
  · unfold mAddH; simp (disch := omega) only [xJ_sI, xJ_ne]
  · simp (disch := omega) only [xIf_sI, xIf_sJ]
  · simp (disch := omega) only [xIf_sI, xIf_sJ]
  · simp (disch := omega) only [xJ_sI, xJ_ne]
  · exact okG.addH hr.1 hlt hd
  · unfold mAddH; simp (disch := omega) only [xI_ne, xI_sJ]; exact hr.2.2.2.1
  · exact cpD.addH hr.2.2.2.2.1 hr.1 hlt
  · exact hr.2.2.2.2.2.1
  · exact hr.2.2.2.2.2.2
theorem holM (h : Wk g w E) (hr : Rs g w E s nl np nb nc nr nh nk) (hK : Lk2 (thW (cStart g (nI nh) 6) (fun m => cHol m E nc np nh)) w E P) : zr 205 0 [.ref 278, .null, .null, .null, .null, .null, .null] [] w P := by
  have hb := hr.1.1.b
  obtain ⟨e0, e1, e2, e3, e4, e5, e6, e7⟩ := hr.e
  have h14 := hr.2.2.2.1
  simp only [r205_0, r205_1, r205_3, r205_5, h.1.1.1, true_and, and_true, Option.some.injEq, exists_eq_left', Option.toList_some, Option.toList_none, List.cons_append, List.nil_append, xcat_nil, xcat_int, xcat_ref, xcat_long, not_true, not_false_iff, if_true, if_false, and_self, and_false, false_and, or_true, true_or, or_self, z01, z10, zle8, Nat.reduceAdd, Nat.reduceLeDiff]
  refine begins_rel (k := 6) (m := 6) h hr (by omega) e6 hb.2.2.2.2.2.2.1 (by omega) (fun hlt v hn hv => ?_) (fun hge v hn hv => ?_)
  · rw [show (6 : Int32) = nI 6 from rfl, cStart_go h14 hlt (by omega), thW_t rfl] at hK
    have hK : Lk2 (cHol (nxt g) E nc np nh) w E P := hK
    unfold cHol at hK
    have hr1 := hr.mv kp_nxt hn.ny
    simp only [r205_8, r205_9, r205_10, hv.1.1.1, true_and, and_true, Option.some.injEq, exists_eq_left', Option.toList_some, Option.toList_none, List.cons_append, List.nil_append, xcat_nil, xcat_int, xcat_ref, xcat_long, not_true, not_false_iff, if_true, if_false, and_self, and_false, false_and, or_true, true_or, or_self, z01, z10, zle8, Nat.reduceAdd, Nat.reduceLeDiff]
    refine readKnownP_rel hv hr1 (fun q hi v2 hn2 hv2 => ?_) (fun q v2 hn2 hv2 => ?_)
    · rw [thI_t q] at hK
      have kpN : Kp (nxt g) (cName (nxt g) 5 np).2 := kp_name
      generalize cName (nxt g) 5 np = o1 at *
      have hr2 := hr1.mv kpN hn2.ny
      simp only [r205_13, r205_14, r205_15, r205_16, hv2.1.1.1, true_and, and_true, Option.some.injEq, exists_eq_left', Option.toList_some, Option.toList_none, List.cons_append, List.nil_append, xcat_nil, xcat_int, xcat_ref, xcat_long, not_true, not_false_iff, if_true, if_false, and_self, and_false, false_and, or_true, true_or, or_self, z01, z10, zle8, Nat.reduceAdd, Nat.reduceLeDiff]
      refine readKnownC_rel hv2 hr2 (fun q3 hi3 v3 hn3 hv3 => ?_) (fun q3 v3 hn3 hv3 => ?_)
      · rw [thI_t q3] at hK
        have kpN : Kp o1.2 (cName o1.2 4 nc).2 := kp_name
        generalize cName o1.2 4 nc = o2 at *
        have hr3 := hr2.mv kpN hn3.ny
        simp only [r205_19, r205_20, r205_21, r205_22, r205_25, hv3.1.1.1, true_and, and_true, Option.some.injEq, exists_eq_left', Option.toList_some, Option.toList_none, List.cons_append, List.nil_append, xcat_nil, xcat_int, xcat_ref, xcat_long, not_true, not_false_iff, if_true, if_false, and_self, and_false, false_and, or_true, true_or, or_self, z01, z10, zle8, Nat.reduceAdd, Nat.reduceLeDiff]
        refine readWhole_rel hv3 (by decide) (fun q4 v4 hn4 hv4 => ?_) (fun q4 v4 hn4 hv4 => ?_)
        · rw [thI_t q4] at hK
          have hin := cWhole_in q4
          have kpW : Kp o2.2 (cWhole o2.2 0 999).2 := kp_whole
          generalize cWhole o2.2 0 999 = a4 at *
          have hr4 := hr3.mv kpW hn4.ny
          simp only [r205_28, r205_29, r205_30, r205_31, r205_34, hv4.1.1.1, true_and, and_true, Option.some.injEq, exists_eq_left', Option.toList_some, Option.toList_none, List.cons_append, List.nil_append, xcat_nil, xcat_int, xcat_ref, xcat_long, not_true, not_false_iff, if_true, if_false, and_self, and_false, false_and, or_true, true_or, or_self, z01, z10, zle8, Nat.reduceAdd, Nat.reduceLeDiff]
          refine readWhole_rel hv4 q4 (fun q5 v5 hn5 hv5 => ?_) (fun q5 v5 hn5 hv5 => ?_)
          · rw [thI_t q5] at hK
            have hin5 := cWhole_in q5
            have kpW : Kp a4.2 (cWhole a4.2 a4.1 999).2 := kp_whole
            generalize cWhole a4.2 a4.1 999 = a5 at *
            have hr5 := hr4.mv kpW hn5.ny
            simp only [r205_37, r205_39, r205_40, r205_42, r205_43, r205_46, hv5.1.1.1, true_and, and_true, Option.some.injEq, exists_eq_left', Option.toList_some, Option.toList_none, List.cons_append, List.nil_append, xcat_nil, xcat_int, xcat_ref, xcat_long, not_true, not_false_iff, if_true, if_false, and_self, and_false, false_and, or_true, true_or, or_self, z01, z10, zle8, Nat.reduceAdd, Nat.reduceLeDiff]
            refine readPart_rel (r := 1000013) (k := 13) rfl (by omega) hv5 (by decide) (fun q6 q7 v6 hn6 hv6 => ?_) (fun q6 v6 hn6 hv6 => ?_) (fun q6 q7 v6 hn6 hv6 => ?_)
            · rw [thW_t q6, thI_t q7] at hK
              have kpW : Kp a5.2 (cWhole (cWord a5.2 13).2 1 9999).2 := kp_word.tr kp_whole
              generalize cWhole (cWord a5.2 13).2 1 9999 = a6 at *
              have hr6 := hr5.mv kpW hn6.ny
              simp only [r205_49, true_and, and_true, Option.some.injEq, exists_eq_left', Option.toList_some, Option.toList_none, List.cons_append, List.nil_append, xcat_nil, xcat_int, xcat_ref, xcat_long, not_true, not_false_iff, if_true, if_false, and_self, and_false, false_and, or_true, true_or, or_self, z01, z10, zle8, Nat.reduceAdd, Nat.reduceLeDiff]
              refine holM_tail hv6 hr6 hlt ?_ hK (hn.fm.tr (hn2.fm.tr (hn3.fm.tr (hn4.fm.tr (hn5.fm.tr hn6.fm)))))
              obtain ⟨a, ha, ea⟩ := i32_le0 (n := 999) q4 hin.2 (by omega)
              obtain ⟨b, hb', eb⟩ := i32_le0 (n := 999) q5 hin5.2 (by omega)
              refine ⟨a, b, ?_, hb', ea, eb⟩
              have z := hin5.1
              rw [ea, eb, i32_le, nI_toI (by omega), nI_toI (by omega)] at z
              omega
            · rw [thW_f q6] at hK
              simp only [r205_49, r205_51, r205_52, r205_55, r205_58, hv6.1.1, hv6.fw.nz.1, hv6.fw.nz.2, next_z hv6.fw, flaw_z hv6.fw, readWhole_z hv6.fw, readKnown_z hv6.fw, known_z hv6.fw, readFresh_z hv6.fw, takes_z (r := 1000007) (k := 7) rfl (by omega) hv6.fw, takes_z (r := 1000008) (k := 8) rfl (by omega) hv6.fw, takes_z (r := 1000009) (k := 9) rfl (by omega) hv6.fw, readPart_z (r := 1000010) (k := 10) rfl (by omega) hv6.fw, readPart_z (r := 1000011) (k := 11) rfl (by omega) hv6.fw, readPart_z (r := 1000012) (k := 12) rfl (by omega) hv6.fw, readPart_z (r := 1000013) (k := 13) rfl (by omega) hv6.fw, true_and, and_true, Option.some.injEq, exists_eq_left', Option.toList_some, Option.toList_none, List.cons_append, List.nil_append, xcat_nil, xcat_int, xcat_ref, xcat_long, not_true, not_false_iff, if_true, if_false, and_self, and_false, false_and, or_true, true_or, or_self, z01, z10, zle8, Nat.reduceAdd, Nat.reduceLeDiff]
              exact hK.2 rfl v6 (hn.fm.tr (hn2.fm.tr (hn3.fm.tr (hn4.fm.tr (hn5.fm.tr hn6.fm))))) hv6
            · rw [thW_t q6, thI_f q7] at hK
              simp only [r205_49, r205_51, r205_52, r205_55, r205_58, hv6.1.1, hv6.fw.nz.1, hv6.fw.nz.2, next_z hv6.fw, flaw_z hv6.fw, readWhole_z hv6.fw, readKnown_z hv6.fw, known_z hv6.fw, readFresh_z hv6.fw, takes_z (r := 1000007) (k := 7) rfl (by omega) hv6.fw, takes_z (r := 1000008) (k := 8) rfl (by omega) hv6.fw, takes_z (r := 1000009) (k := 9) rfl (by omega) hv6.fw, readPart_z (r := 1000010) (k := 10) rfl (by omega) hv6.fw, readPart_z (r := 1000011) (k := 11) rfl (by omega) hv6.fw, readPart_z (r := 1000012) (k := 12) rfl (by omega) hv6.fw, readPart_z (r := 1000013) (k := 13) rfl (by omega) hv6.fw, true_and, and_true, Option.some.injEq, exists_eq_left', Option.toList_some, Option.toList_none, List.cons_append, List.nil_append, xcat_nil, xcat_int, xcat_ref, xcat_long, not_true, not_false_iff, if_true, if_false, and_self, and_false, false_and, or_true, true_or, or_self, z01, z10, zle8, Nat.reduceAdd, Nat.reduceLeDiff]
              exact hK.2 rfl v6 (hn.fm.tr (hn2.fm.tr (hn3.fm.tr (hn4.fm.tr (hn5.fm.tr hn6.fm))))) hv6
          · rw [thI_f q5] at hK
            simp only [r205_37, r205_39, r205_40, r205_42, r205_43, r205_46, r205_49, r205_51, r205_52, r205_55, r205_58, hv5.1.1, hv5.fw.nz.1, hv5.fw.nz.2, next_z hv5.fw, flaw_z hv5.fw, readWhole_z hv5.fw, readKnown_z hv5.fw, known_z hv5.fw, readFresh_z hv5.fw, takes_z (r := 1000007) (k := 7) rfl (by omega) hv5.fw, takes_z (r := 1000008) (k := 8) rfl (by omega) hv5.fw, takes_z (r := 1000009) (k := 9) rfl (by omega) hv5.fw, readPart_z (r := 1000010) (k := 10) rfl (by omega) hv5.fw, readPart_z (r := 1000011) (k := 11) rfl (by omega) hv5.fw, readPart_z (r := 1000012) (k := 12) rfl (by omega) hv5.fw, readPart_z (r := 1000013) (k := 13) rfl (by omega) hv5.fw, true_and, and_true, Option.some.injEq, exists_eq_left', Option.toList_some, Option.toList_none, List.cons_append, List.nil_append, xcat_nil, xcat_int, xcat_ref, xcat_long, not_true, not_false_iff, if_true, if_false, and_self, and_false, false_and, or_true, true_or, or_self, z01, z10, zle8, Nat.reduceAdd, Nat.reduceLeDiff]
            exact hK.2 rfl v5 (hn.fm.tr (hn2.fm.tr (hn3.fm.tr (hn4.fm.tr hn5.fm)))) hv5
        · rw [thI_f q4] at hK
          simp only [r205_28, r205_29, r205_30, r205_31, r205_34, r205_37, r205_39, r205_40, r205_42, r205_43, r205_46, r205_49, r205_51, r205_52, r205_55, r205_58, hv4.1.1, hv4.fw.nz.1, hv4.fw.nz.2, next_z hv4.fw, flaw_z hv4.fw, readWhole_z hv4.fw, readKnown_z hv4.fw, known_z hv4.fw, readFresh_z hv4.fw, takes_z (r := 1000007) (k := 7) rfl (by omega) hv4.fw, takes_z (r := 1000008) (k := 8) rfl (by omega) hv4.fw, takes_z (r := 1000009) (k := 9) rfl (by omega) hv4.fw, readPart_z (r := 1000010) (k := 10) rfl (by omega) hv4.fw, readPart_z (r := 1000011) (k := 11) rfl (by omega) hv4.fw, readPart_z (r := 1000012) (k := 12) rfl (by omega) hv4.fw, readPart_z (r := 1000013) (k := 13) rfl (by omega) hv4.fw, true_and, and_true, Option.some.injEq, exists_eq_left', Option.toList_some, Option.toList_none, List.cons_append, List.nil_append, xcat_nil, xcat_int, xcat_ref, xcat_long, not_true, not_false_iff, if_true, if_false, and_self, and_false, false_and, or_true, true_or, or_self, z01, z10, zle8, Nat.reduceAdd, Nat.reduceLeDiff]
          exact hK.2 rfl v4 (hn.fm.tr (hn2.fm.tr (hn3.fm.tr hn4.fm))) hv4
      · rw [thI_f q3] at hK
        simp only [r205_19, r205_20, r205_21, r205_22, r205_25, r205_28, r205_29, r205_30, r205_31, r205_34, r205_37, r205_39, r205_40, r205_42, r205_43, r205_46, r205_49, r205_51, r205_52, r205_55, r205_58, hv3.1.1, hv3.fw.nz.1, hv3.fw.nz.2, next_z hv3.fw, flaw_z hv3.fw, readWhole_z hv3.fw, readKnown_z hv3.fw, known_z hv3.fw, readFresh_z hv3.fw, takes_z (r := 1000007) (k := 7) rfl (by omega) hv3.fw, takes_z (r := 1000008) (k := 8) rfl (by omega) hv3.fw, takes_z (r := 1000009) (k := 9) rfl (by omega) hv3.fw, readPart_z (r := 1000010) (k := 10) rfl (by omega) hv3.fw, readPart_z (r := 1000011) (k := 11) rfl (by omega) hv3.fw, readPart_z (r := 1000012) (k := 12) rfl (by omega) hv3.fw, readPart_z (r := 1000013) (k := 13) rfl (by omega) hv3.fw, true_and, and_true, Option.some.injEq, exists_eq_left', Option.toList_some, Option.toList_none, List.cons_append, List.nil_append, xcat_nil, xcat_int, xcat_ref, xcat_long, not_true, not_false_iff, if_true, if_false, and_self, and_false, false_and, or_true, true_or, or_self, z01, z10, zle8, Nat.reduceAdd, Nat.reduceLeDiff]
        exact hK.2 rfl v3 (hn.fm.tr (hn2.fm.tr hn3.fm)) hv3
    · rw [thI_f q] at hK
      simp only [r205_13, r205_14, r205_15, r205_16, r205_19, r205_20, r205_21, r205_22, r205_25, r205_28, r205_29, r205_30, r205_31, r205_34, r205_37, r205_39, r205_40, r205_42, r205_43, r205_46, r205_49, r205_51, r205_52, r205_55, r205_58, hv2.1.1, hv2.fw.nz.1, hv2.fw.nz.2, next_z hv2.fw, flaw_z hv2.fw, readWhole_z hv2.fw, readKnown_z hv2.fw, known_z hv2.fw, readFresh_z hv2.fw, takes_z (r := 1000007) (k := 7) rfl (by omega) hv2.fw, takes_z (r := 1000008) (k := 8) rfl (by omega) hv2.fw, takes_z (r := 1000009) (k := 9) rfl (by omega) hv2.fw, readPart_z (r := 1000010) (k := 10) rfl (by omega) hv2.fw, readPart_z (r := 1000011) (k := 11) rfl (by omega) hv2.fw, readPart_z (r := 1000012) (k := 12) rfl (by omega) hv2.fw, readPart_z (r := 1000013) (k := 13) rfl (by omega) hv2.fw, true_and, and_true, Option.some.injEq, exists_eq_left', Option.toList_some, Option.toList_none, List.cons_append, List.nil_append, xcat_nil, xcat_int, xcat_ref, xcat_long, not_true, not_false_iff, if_true, if_false, and_self, and_false, false_and, or_true, true_or, or_self, z01, z10, zle8, Nat.reduceAdd, Nat.reduceLeDiff]
      exact hK.2 rfl v2 (hn.fm.tr hn2.fm) hv2
  · rw [show (6 : Int32) = nI 6 from rfl, cStart_full h14 hge (by omega), thW_f (r := (false, flt g 5)) Bool.false_ne_true] at hK
    simp only [r205_8, r205_9, r205_10, r205_13, r205_14, r205_15, r205_16, r205_19, r205_20, r205_21, r205_22, r205_25, r205_28, r205_29, r205_30, r205_31, r205_34, r205_37, r205_39, r205_40, r205_42, r205_43, r205_46, r205_49, r205_51, r205_52, r205_55, r205_58, hv.1.1, hv.fw.nz.1, hv.fw.nz.2, next_z hv.fw, flaw_z hv.fw, readWhole_z hv.fw, readKnown_z hv.fw, known_z hv.fw, readFresh_z hv.fw, takes_z (r := 1000007) (k := 7) rfl (by omega) hv.fw, takes_z (r := 1000008) (k := 8) rfl (by omega) hv.fw, takes_z (r := 1000009) (k := 9) rfl (by omega) hv.fw, readPart_z (r := 1000010) (k := 10) rfl (by omega) hv.fw, readPart_z (r := 1000011) (k := 11) rfl (by omega) hv.fw, readPart_z (r := 1000012) (k := 12) rfl (by omega) hv.fw, readPart_z (r := 1000013) (k := 13) rfl (by omega) hv.fw, true_and, and_true, Option.some.injEq, exists_eq_left', Option.toList_some, Option.toList_none, List.cons_append, List.nil_append, xcat_nil, xcat_int, xcat_ref, xcat_long, not_true, not_false_iff, if_true, if_false, and_self, and_false, false_and, or_true, true_or, or_self, z01, z10, zle8, Nat.reduceAdd, Nat.reduceLeDiff]
    exact hK.2 rfl v hn.fm hv
theorem holM_no (h : Wk g w E) (hz : ∀ i, i < 402 → xI w 280 i = 0) (hP : ∀ v, Ny w v → Fz (flt g 6) v → P none v) : zr 205 0 [.ref 278, .null, .null, .null, .null, .null, .null] [] w P := by
  simp only [r205_0, r205_1, r205_3, r205_5, h.1.1.1, true_and, and_true, Option.some.injEq, exists_eq_left', Option.toList_some, Option.toList_none, List.cons_append, List.nil_append, xcat_nil, xcat_int, xcat_ref, xcat_long, not_true, not_false_iff, if_true, if_false, and_self, and_false, false_and, or_true, true_or, or_self, z01, z10, zle8, Nat.reduceAdd, Nat.reduceLeDiff]
  refine begins_no (k := 6) (m := 6) h hz (by omega) (by omega) (by omega) (fun v hn hv => ?_)
  simp only [r205_8, r205_9, r205_10, r205_13, r205_14, r205_15, r205_16, r205_19, r205_20, r205_21, r205_22, r205_25, r205_28, r205_29, r205_30, r205_31, r205_34, r205_37, r205_39, r205_40, r205_42, r205_43, r205_46, r205_49, r205_51, r205_52, r205_55, r205_58, hv.1.1, hv.fw.nz.1, hv.fw.nz.2, next_z hv.fw, flaw_z hv.fw, readWhole_z hv.fw, readKnown_z hv.fw, known_z hv.fw, readFresh_z hv.fw, takes_z (r := 1000007) (k := 7) rfl (by omega) hv.fw, takes_z (r := 1000008) (k := 8) rfl (by omega) hv.fw, takes_z (r := 1000009) (k := 9) rfl (by omega) hv.fw, readPart_z (r := 1000010) (k := 10) rfl (by omega) hv.fw, readPart_z (r := 1000011) (k := 11) rfl (by omega) hv.fw, readPart_z (r := 1000012) (k := 12) rfl (by omega) hv.fw, readPart_z (r := 1000013) (k := 13) rfl (by omega) hv.fw, true_and, and_true, Option.some.injEq, exists_eq_left', Option.toList_some, Option.toList_none, List.cons_append, List.nil_append, xcat_nil, xcat_int, xcat_ref, xcat_long, not_true, not_false_iff, if_true, if_false, and_self, and_false, false_and, or_true, true_or, or_self, z01, z10, zle8, Nat.reduceAdd, Nat.reduceLeDiff]
  exact hP v hn hv
/-! a cap -/
theorem capM_tail (hv : Wk m v E) (hr : Rs m v E s nl np nb nc nr nh nk) (hlt : nk < 6) (hx : 0 < x) (hK : Lk2 (true, mAddK m (E + 12) nk p c x) w E P) (hf : Fm w v) : zr 207 59 [.ref 278, .int p, .int c, .int x, .null] [] v P := by
  have hb := hr.1.1.b
  obtain ⟨e0, e1, e2, e3, e4, e5, e6, e7⟩ := hr.e
  obtain ⟨h0, r4, r5, r6, j, k0, -⟩ := hv.1.1.cf
  have hfa := hv.2.1
  have hE := hr.2.1
  simp (disch := omega) only [r207_59, r207_60, r207_63, r207_66, r207_67, r207_70, r207_71, r207_72, r207_75, r207_77, r207_78, r207_79, r207_80, r207_82, r207_83, r207_86, r207_88, r207_89, r207_90, r207_91, r207_94, r207_96, r207_97, r207_98, r207_99, r207_100, r207_101, r207_104, r207_106, r207_107, r207_108, r207_109, r207_110, r207_111, r207_114, r207_116, r207_117, r207_118, r207_119, r207_120, r207_121, h0, r4, j, k0, e7, hfa, show (0 : Int32) ≤ 0 by decide, xIs_sI, xIs_sJ, xR_sI, xR_sJ, xN_sI, xN_sJ, xI_sJ, xI_ate, xI_ne, xinbT, xixT, leT, leF, ltT, ltF, ngF, psT, n1F, n2F, km2, km3, km4, km5, km10, km15, km25, kl8, kl14, kl24, kl34, kl274, kl354, kl384, kr1, kr2, kr3, kr4, kr5, kr6, kr7, kr8, kr9, kaa, lb0, lb1, lb2, lb3, lb4, lb5, lb6, lb7, li0, li1, li2, li3, li4, li5, li6, li7, true_and, and_true, Option.some.injEq, exists_eq_left', Option.toList_some, Option.toList_none, List.cons_append, List.nil_append, xcat_nil, xcat_int, xcat_ref, xcat_long, not_true, not_false_iff, if_true, if_false, and_self, and_false, false_and, or_true, true_or, or_self, z01, z10, zle8, Nat.reduceAdd, Nat.reduceLeDiff]
  refine hK.1 rfl _ s nl np nb nc nr nh (nk + 1) (hf.tr (((Fm.sI.tr Fm.sI).tr Fm.sI).tr Fm.sI)) (hv.mv rfl rfl ?_ ?_ ?_ rfl rfl ?_ ?_ ?_) ⟨?_, hE, hr.2.2.1, ?_, ?_, ?_, ?_⟩
  · unfold mAddK; simp (disch := omega) only [xIf_sI, xIf_sJ]
  · unfold mAddK; simp (disch := omega) only [xIf_sI, xIf_sJ]
  · unfold mAddK; simp (disch := omega) only [xJ_sI, xJ_ne]
  · simp (disch := omega) only [xIf_sI, xIf_sJ]
  · simp (disch := omega) only [xIf_sI, xIf_sJ]
  · simp (disch := omega) only [xJ_sI, xJ_ne]
  · exact okG.addK hr.1 hlt hx
  · unfold mAddK; simp (disch := omega) only [xI_ne, xI_sJ]; exact hr.2.2.2.1
  · exact cpD.addK hr.2.2.2.2.1 hr.1 hlt
  · exact hr.2.2.2.2.2.1
  · exact hr.2.2.2.2.2.2
theorem capIn_rel (hv : sMd v) (hr : Rs m v E s nl np nb nc nr nh nk) : zr 206 0 [.ref 280, .int p, .int c, .null] [] v P = P (some (.int (fCi (xI m (E + 24)) (xI m (E + 25)) (xI m (E + 26)) p c nk))) v := by
  have hb := hr.1.1.b
  obtain ⟨e0, e1, e2, e3, e4, e5, e6, e7⟩ := hr.e
  obtain ⟨h0, r4, r5, r6, j, k0, -⟩ := hv.cf
  exact capIn_run ⟨j, k0⟩ e7 hb.2.2.2.2.2.2.2 (fun k hk => hr.2.2.2.2.1.ca hk)
theorem capM (h : Wk g w E) (hr : Rs g w E s nl np nb nc nr nh nk) (hK : Lk2 (thW (cStart g (nI nk) 6) (fun m => cCap m E nc np nk)) w E P) : zr 207 0 [.ref 278, .null, .null, .null, .null] [] w P := by
  have hb := hr.1.1.b
  obtain ⟨e0, e1, e2, e3, e4, e5, e6, e7⟩ := hr.e
  have h14 := hr.2.2.2.1
  simp only [r207_0, r207_1, r207_3, r207_5, h.1.1.1, true_and, and_true, Option.some.injEq, exists_eq_left', Option.toList_some, Option.toList_none, List.cons_append, List.nil_append, xcat_nil, xcat_int, xcat_ref, xcat_long, not_true, not_false_iff, if_true, if_false, and_self, and_false, false_and, or_true, true_or, or_self, z01, z10, zle8, Nat.reduceAdd, Nat.reduceLeDiff]
  refine begins_rel (k := 7) (m := 6) h hr (by omega) e7 hb.2.2.2.2.2.2.2 (by omega) (fun hlt v hn hv => ?_) (fun hge v hn hv => ?_)
  · rw [show (6 : Int32) = nI 6 from rfl, cStart_go h14 hlt (by omega), thW_t rfl] at hK
    have hK : Lk2 (cCap (nxt g) E nc np nk) w E P := hK
    unfold cCap at hK
    have hr1 := hr.mv kp_nxt hn.ny
    simp only [r207_8, r207_9, r207_10, hv.1.1.1, true_and, and_true, Option.some.injEq, exists_eq_left', Option.toList_some, Option.toList_none, List.cons_append, List.nil_append, xcat_nil, xcat_int, xcat_ref, xcat_long, not_true, not_false_iff, if_true, if_false, and_self, and_false, false_and, or_true, true_or, or_self, z01, z10, zle8, Nat.reduceAdd, Nat.reduceLeDiff]
    refine readKnownP_rel hv hr1 (fun q hi v2 hn2 hv2 => ?_) (fun q v2 hn2 hv2 => ?_)
    · rw [thI_t q] at hK
      have kpN : Kp (nxt g) (cName (nxt g) 5 np).2 := kp_name
      generalize cName (nxt g) 5 np = o1 at *
      have hr2 := hr1.mv kpN hn2.ny
      simp only [r207_13, r207_14, r207_15, r207_16, hv2.1.1.1, true_and, and_true, Option.some.injEq, exists_eq_left', Option.toList_some, Option.toList_none, List.cons_append, List.nil_append, xcat_nil, xcat_int, xcat_ref, xcat_long, not_true, not_false_iff, if_true, if_false, and_self, and_false, false_and, or_true, true_or, or_self, z01, z10, zle8, Nat.reduceAdd, Nat.reduceLeDiff]
      refine knownC_rel hv2 hr2 (fun q3 hnx hi3 => ?_) (fun q3 v3 hn3 hv3 => ?_)
      · rw [thI_t q3, hnx] at hK
        have hE := hr2.2.1
        have ek : xI (nxt o1.2) (E + 24) = xI o1.2 (E + 24) := kp_nxt.f (by omega) (by omega)
        have ek2 : xI (nxt o1.2) (E + 25) = xI o1.2 (E + 25) := kp_nxt.f (by omega) (by omega)
        rw [ek, ek2] at hK
        generalize (cName o1.2 4 nc).1 = cc at *
        obtain ⟨h0, r4, r5, r6, j, k0, -⟩ := hv2.1.1.cf
        have hfa := hv2.2.1
        have ci := fun P => capIn_rel (p := o1.1) (c := cc) (P := P) hv2.1.1 hr2
        unfold fCi at ci
        rcases fCt_cases (xI o1.2 (E + 24)) (xI o1.2 (E + 25)) o1.1 cc nk 0 with z | ⟨i, -, hi', z, -⟩
        · rw [z] at hK ci
          rw [if_neg (by decide)] at hK ci
          simp only [r207_19, r207_20, r207_21, r207_24, r207_27, r207_28, r207_31, r207_32, r207_33, r207_36, r207_38, r207_41, r207_42, r207_43, r207_46, r207_47, h0, r4, hfa, ci, true_and, and_true, Option.some.injEq, exists_eq_left', Option.toList_some, Option.toList_none, List.cons_append, List.nil_append, xcat_nil, xcat_int, xcat_ref, xcat_long, not_true, not_false_iff, if_true, if_false, and_self, and_false, false_and, or_true, true_or, or_self, z01, z10, zle8, Nat.reduceAdd, Nat.reduceLeDiff]
          refine hv2.next (fun v4 hn4 hv4 => ?_)
          have hr4 := hr2.mv kp_nxt hn4.ny
          simp only [r207_50, r207_51, r207_52, r207_55, hv4.1.1.1, true_and, and_true, Option.some.injEq, exists_eq_left', Option.toList_some, Option.toList_none, List.cons_append, List.nil_append, xcat_nil, xcat_int, xcat_ref, xcat_long, not_true, not_false_iff, if_true, if_false, and_self, and_false, false_and, or_true, true_or, or_self, z01, z10, zle8, Nat.reduceAdd, Nat.reduceLeDiff]
          refine readWhole_rel hv4 (by decide) (fun q5 v5 hn5 hv5 => ?_) (fun q5 v5 hn5 hv5 => ?_)
          · rw [thI_t q5] at hK
            have hin5 := cWhole_in q5
            have kpW : Kp (nxt o1.2) (cWhole (nxt o1.2) 1 9999).2 := kp_whole
            generalize cWhole (nxt o1.2) 1 9999 = a5 at *
            have hr5 := hr4.mv kpW hn5.ny
            simp only [r207_58, true_and, and_true, Option.some.injEq, exists_eq_left', Option.toList_some, Option.toList_none, List.cons_append, List.nil_append, xcat_nil, xcat_int, xcat_ref, xcat_long, not_true, not_false_iff, if_true, if_false, and_self, and_false, false_and, or_true, true_or, or_self, z01, z10, zle8, Nat.reduceAdd, Nat.reduceLeDiff]
            refine capM_tail hv5 hr5 hlt ?_ hK (hn.fm.tr (hn2.fm.tr (hn4.fm.tr hn5.fm)))
            have z := i32_le.mp hin5.1
            have e1 : (1 : Int32).toInt = 1 := rfl
            have e0 : (0 : Int32).toInt = 0 := rfl
            rw [i32_lt]
            omega
          · rw [thI_f q5] at hK
            simp only [r207_58, r207_59, r207_60, r207_63, r207_66, hv5.1.1, hv5.fw.nz.1, hv5.fw.nz.2, next_z hv5.fw, flaw_z hv5.fw, readWhole_z hv5.fw, readKnown_z hv5.fw, known_z hv5.fw, readFresh_z hv5.fw, takes_z (r := 1000007) (k := 7) rfl (by omega) hv5.fw, takes_z (r := 1000008) (k := 8) rfl (by omega) hv5.fw, takes_z (r := 1000009) (k := 9) rfl (by omega) hv5.fw, readPart_z (r := 1000010) (k := 10) rfl (by omega) hv5.fw, readPart_z (r := 1000011) (k := 11) rfl (by omega) hv5.fw, readPart_z (r := 1000012) (k := 12) rfl (by omega) hv5.fw, readPart_z (r := 1000013) (k := 13) rfl (by omega) hv5.fw, true_and, and_true, Option.some.injEq, exists_eq_left', Option.toList_some, Option.toList_none, List.cons_append, List.nil_append, xcat_nil, xcat_int, xcat_ref, xcat_long, not_true, not_false_iff, if_true, if_false, and_self, and_false, false_and, or_true, true_or, or_self, z01, z10, zle8, Nat.reduceAdd, Nat.reduceLeDiff]
            exact hK.2 rfl v5 (hn.fm.tr (hn2.fm.tr (hn4.fm.tr hn5.fm))) hv5
        · rw [z] at hK ci
          rw [if_pos (nI_pos' (by omega))] at hK ci
          rw [xix_nI (by omega)] at ci
          have n2 : ¬ xI o1.2 (E + 26) i = -2 := fun z2 => by
            have z3 := hr2.1.2.2.2.1.2 i (by omega)
            rw [z2] at z3
            exact absurd z3 (by decide)
          have zz : Fz (fail (nxt o1.2) 3 (xI o1.2 2 3)) (xsI (xsI v2 278 15 3) 278 12 0) := ⟨hv2.1.1, show (0 : Int32) < 3 by decide, rfl, rfl, hv2.2.2.1⟩
          have i1 := zz.1.1
          simp only [r207_19, r207_20, r207_21, r207_24, r207_27, r207_28, r207_31, r207_32, r207_33, r207_36, r207_38, r207_41, r207_42, r207_43, r207_46, r207_47, r207_50, r207_51, r207_52, r207_55, r207_58, r207_59, r207_60, r207_63, r207_66, h0, r4, hfa, ci, n2, flaw_0 h0 hfa, zz.1.1, zz.fw.nz.1, zz.fw.nz.2, next_z zz.fw, flaw_z zz.fw, readWhole_z zz.fw, readKnown_z zz.fw, known_z zz.fw, readFresh_z zz.fw, takes_z (r := 1000007) (k := 7) rfl (by omega) zz.fw, takes_z (r := 1000008) (k := 8) rfl (by omega) zz.fw, takes_z (r := 1000009) (k := 9) rfl (by omega) zz.fw, readPart_z (r := 1000010) (k := 10) rfl (by omega) zz.fw, readPart_z (r := 1000011) (k := 11) rfl (by omega) zz.fw, readPart_z (r := 1000012) (k := 12) rfl (by omega) zz.fw, readPart_z (r := 1000013) (k := 13) rfl (by omega) zz.fw, true_and, and_true, Option.some.injEq, exists_eq_left', Option.toList_some, Option.toList_none, List.cons_append, List.nil_append, xcat_nil, xcat_int, xcat_ref, xcat_long, not_true, not_false_iff, if_true, if_false, and_self, and_false, false_and, or_true, true_or, or_self, z01, z10, zle8, Nat.reduceAdd, Nat.reduceLeDiff]
          exact hK.2 rfl _ (hn.fm.tr (hn2.fm.tr ny_fl.fm)) zz
      · rw [thI_f q3] at hK
        simp only [r207_19, r207_20, r207_21, r207_24, r207_27, r207_28, r207_31, r207_32, r207_33, r207_36, r207_38, r207_41, r207_42, r207_43, r207_46, r207_47, r207_50, r207_51, r207_52, r207_55, r207_58, r207_59, r207_60, r207_63, r207_66, hv3.1.1, hv3.fw.nz.1, hv3.fw.nz.2, next_z hv3.fw, flaw_z hv3.fw, readWhole_z hv3.fw, readKnown_z hv3.fw, known_z hv3.fw, readFresh_z hv3.fw, takes_z (r := 1000007) (k := 7) rfl (by omega) hv3.fw, takes_z (r := 1000008) (k := 8) rfl (by omega) hv3.fw, takes_z (r := 1000009) (k := 9) rfl (by omega) hv3.fw, readPart_z (r := 1000010) (k := 10) rfl (by omega) hv3.fw, readPart_z (r := 1000011) (k := 11) rfl (by omega) hv3.fw, readPart_z (r := 1000012) (k := 12) rfl (by omega) hv3.fw, readPart_z (r := 1000013) (k := 13) rfl (by omega) hv3.fw, true_and, and_true, Option.some.injEq, exists_eq_left', Option.toList_some, Option.toList_none, List.cons_append, List.nil_append, xcat_nil, xcat_int, xcat_ref, xcat_long, not_true, not_false_iff, if_true, if_false, and_self, and_false, false_and, or_true, true_or, or_self, z01, z10, zle8, Nat.reduceAdd, Nat.reduceLeDiff]
        exact hK.2 rfl v3 (hn.fm.tr (hn2.fm.tr hn3.fm)) hv3
    · rw [thI_f q] at hK
      simp only [r207_13, r207_14, r207_15, r207_16, r207_19, r207_20, r207_21, r207_24, r207_27, r207_28, r207_31, r207_32, r207_33, r207_36, r207_38, r207_41, r207_42, r207_43, r207_46, r207_47, r207_50, r207_51, r207_52, r207_55, r207_58, r207_59, r207_60, r207_63, r207_66, hv2.1.1, hv2.fw.nz.1, hv2.fw.nz.2, next_z hv2.fw, flaw_z hv2.fw, readWhole_z hv2.fw, readKnown_z hv2.fw, known_z hv2.fw, readFresh_z hv2.fw, takes_z (r := 1000007) (k := 7) rfl (by omega) hv2.fw, takes_z (r := 1000008) (k := 8) rfl (by omega) hv2.fw, takes_z (r := 1000009) (k := 9) rfl (by omega) hv2.fw, readPart_z (r := 1000010) (k := 10) rfl (by omega) hv2.fw, readPart_z (r := 1000011) (k := 11) rfl (by omega) hv2.fw, readPart_z (r := 1000012) (k := 12) rfl (by omega) hv2.fw, readPart_z (r := 1000013) (k := 13) rfl (by omega) hv2.fw, true_and, and_true, Option.some.injEq, exists_eq_left', Option.toList_some, Option.toList_none, List.cons_append, List.nil_append, xcat_nil, xcat_int, xcat_ref, xcat_long, not_true, not_false_iff, if_true, if_false, and_self, and_false, false_and, or_true, true_or, or_self, z01, z10, zle8, Nat.reduceAdd, Nat.reduceLeDiff]
      exact hK.2 rfl v2 (hn.fm.tr hn2.fm) hv2
  · rw [show (6 : Int32) = nI 6 from rfl, cStart_full h14 hge (by omega), thW_f (r := (false, flt g 5)) Bool.false_ne_true] at hK
    simp only [r207_8, r207_9, r207_10, r207_13, r207_14, r207_15, r207_16, r207_19, r207_20, r207_21, r207_24, r207_27, r207_28, r207_31, r207_32, r207_33, r207_36, r207_38, r207_41, r207_42, r207_43, r207_46, r207_47, r207_50, r207_51, r207_52, r207_55, r207_58, r207_59, r207_60, r207_63, r207_66, hv.1.1, hv.fw.nz.1, hv.fw.nz.2, next_z hv.fw, flaw_z hv.fw, readWhole_z hv.fw, readKnown_z hv.fw, known_z hv.fw, readFresh_z hv.fw, takes_z (r := 1000007) (k := 7) rfl (by omega) hv.fw, takes_z (r := 1000008) (k := 8) rfl (by omega) hv.fw, takes_z (r := 1000009) (k := 9) rfl (by omega) hv.fw, readPart_z (r := 1000010) (k := 10) rfl (by omega) hv.fw, readPart_z (r := 1000011) (k := 11) rfl (by omega) hv.fw, readPart_z (r := 1000012) (k := 12) rfl (by omega) hv.fw, readPart_z (r := 1000013) (k := 13) rfl (by omega) hv.fw, true_and, and_true, Option.some.injEq, exists_eq_left', Option.toList_some, Option.toList_none, List.cons_append, List.nil_append, xcat_nil, xcat_int, xcat_ref, xcat_long, not_true, not_false_iff, if_true, if_false, and_self, and_false, false_and, or_true, true_or, or_self, z01, z10, zle8, Nat.reduceAdd, Nat.reduceLeDiff]
    exact hK.2 rfl v hn.fm hv
theorem capM_no (h : Wk g w E) (hz : ∀ i, i < 402 → xI w 280 i = 0) (hP : ∀ v, Ny w v → Fz (flt g 6) v → P none v) : zr 207 0 [.ref 278, .null, .null, .null, .null] [] w P := by
  simp only [r207_0, r207_1, r207_3, r207_5, h.1.1.1, true_and, and_true, Option.some.injEq, exists_eq_left', Option.toList_some, Option.toList_none, List.cons_append, List.nil_append, xcat_nil, xcat_int, xcat_ref, xcat_long, not_true, not_false_iff, if_true, if_false, and_self, and_false, false_and, or_true, true_or, or_self, z01, z10, zle8, Nat.reduceAdd, Nat.reduceLeDiff]
  refine begins_no (k := 7) (m := 6) h hz (by omega) (by omega) (by omega) (fun v hn hv => ?_)
  simp only [r207_8, r207_9, r207_10, r207_13, r207_14, r207_15, r207_16, r207_19, r207_20, r207_21, r207_24, r207_27, r207_28, r207_31, r207_32, r207_33, r207_36, r207_38, r207_41, r207_42, r207_43, r207_46, r207_47, r207_50, r207_51, r207_52, r207_55, r207_58, r207_59, r207_60, r207_63, r207_66, hv.1.1, hv.fw.nz.1, hv.fw.nz.2, next_z hv.fw, flaw_z hv.fw, readWhole_z hv.fw, readKnown_z hv.fw, known_z hv.fw, readFresh_z hv.fw, takes_z (r := 1000007) (k := 7) rfl (by omega) hv.fw, takes_z (r := 1000008) (k := 8) rfl (by omega) hv.fw, takes_z (r := 1000009) (k := 9) rfl (by omega) hv.fw, readPart_z (r := 1000010) (k := 10) rfl (by omega) hv.fw, readPart_z (r := 1000011) (k := 11) rfl (by omega) hv.fw, readPart_z (r := 1000012) (k := 12) rfl (by omega) hv.fw, readPart_z (r := 1000013) (k := 13) rfl (by omega) hv.fw, true_and, and_true, Option.some.injEq, exists_eq_left', Option.toList_some, Option.toList_none, List.cons_append, List.nil_append, xcat_nil, xcat_int, xcat_ref, xcat_long, not_true, not_false_iff, if_true, if_false, and_self, and_false, false_and, or_true, true_or, or_self, z01, z10, zle8, Nat.reduceAdd, Nat.reduceLeDiff]
  exact hP v hn hv
end
