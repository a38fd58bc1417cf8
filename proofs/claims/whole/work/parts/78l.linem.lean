/-! LINES: class and model side by side -/
theorem xJ_ate {u : xMem} {a k j : Nat} {v : Int64} (h : j = k) : xJ (xsJ u a k v) a j = v := by rw [xJ_sJ, if_pos ⟨rfl, h⟩]
theorem xJ_ne {u : xMem} {a k c j : Nat} {v : Int64} (h : c ≠ a ∨ j ≠ k) : xJ (xsJ u a k v) c j = xJ u c j := by rw [xJ_sJ, if_neg (by omega)]
theorem xIf_sJ {u : xMem} {a k b : Nat} {v : Int64} : xI (xsJ u a k v) b = xI u b := rfl
/-- what a line comes to, in both -/
def Lk2 (c : Bool × xMem) (w : xMem) (E : Nat) (P : Option Value → xMem → Prop) : Prop :=
  (c.1 = true → ∀ v s nl np nb nc nr nh nk, Fm w v → Wk c.2 v E → Rs c.2 v E s nl np nb nc nr nh nk → P none v) ∧ (c.1 = false → ∀ v, Fm w v → Fz c.2 v → P none v)
section
variable {w v g m : xMem} {P : Option Value → xMem → Prop} {E k n s nl np nb nc nr nh nk : Nat} {x y p c d lo hi : Int32}
theorem cStart_go (h : xI g 1 4 = 1) {j : Nat} (hlt : n < j) (hj : j ≤ 20) : cStart g (nI n) (nI j) = (true, nxt g) := by
  unfold cStart
  rw [h, if_neg (by decide), if_neg (nI_ge hlt (by omega))]
theorem cStart_full (h : xI g 1 4 = 1) {j : Nat} (hlt : ¬ n < j) (hn : n ≤ 20) : cStart g (nI n) (nI j) = (false, flt g 5) := by
  unfold cStart
  rw [h, if_neg (by decide), if_pos (nI_le (by omega) (by omega))]
theorem cStart_no (h : xI g 1 4 = 0) : cStart g x y = (false, flt g 6) := by
  unfold cStart
  rw [if_pos h]
theorem cWhole_in (h : 0 ≤ (cWhole g lo hi).1) : lo ≤ (cWhole g lo hi).1 ∧ (cWhole g lo hi).1 ≤ hi := by
  unfold cWhole at h ⊢
  by_cases c : xI g 2 5 = 2
  · rw [if_pos c] at h ⊢
    by_cases c2 : lo ≤ xI g 2 7 ∧ xI g 2 7 ≤ hi
    · rw [if_pos c2] at h ⊢
      exact c2
    · rw [if_neg c2] at h
      exact absurd h (show ¬ (0 : Int32) ≤ -1 by decide)
  · rw [if_neg c] at h
    exact absurd h (show ¬ (0 : Int32) ≤ -1 by decide)
theorem sMd.cf (h : sMd w) : xIs w 278 11 ∧ xR w 278 4 = some 280 ∧ xR w 278 5 = some 281 ∧ xR w 278 6 = some 282 ∧ xIs w 280 13 ∧ xN w 280 = 402 ∧ xIs w 281 14 ∧ xN w 281 = 6 ∧ xIs w 282 14 ∧ xN w 282 = 10 := by
  obtain ⟨h0, ⟨-, r4, r5, r6, -⟩, -, ⟨j, k0⟩, ⟨i1, n1⟩, ⟨i2, n2⟩, -⟩ := h
  exact ⟨h0, r4, r5, r6, j, k0, i1, n1, i2, n2⟩
/-! a class -/
theorem classM_tail {nm yy : Int64} (hv : Wk m v E) (hr : Rs m v E s nl np nb nc nr nh nk) (hlt : nc < 6) (ho : x = -2 ∨ ∃ i, i < nc ∧ x = nI i) (hnm : nmR nm yy) (hK : Lk2 (cClass2 E nc nm x m) w E P) (hf : Fm w v) : zr 197 32 [.ref 278, .long yy, .null, .int x] [] v P := by
  have hb := hr.1.1.b
  obtain ⟨e0, e1, e2, e3, -⟩ := hr.e
  obtain ⟨h0, r4, r5, r6, j, k0, i1, n1, i2, n2⟩ := hv.1.1.cf
  have hfa := hv.2.1
  have hE := hr.2.1
  simp (disch := omega) only [r197_32, r197_33, r197_36, r197_39, r197_40, r197_41, r197_44, r197_45, r197_48, r197_49, r197_50, r197_51, r197_52, r197_53, r197_56, r197_58, r197_59, r197_62, r197_63, r197_64, r197_65, r197_66, r197_67, r197_68, r197_71, r197_72, r197_73, r197_74, r197_75, r197_76, r197_77, h0, r4, r5, j, k0, i1, n1, e2, hfa, show (0 : Int32) ≤ 0 by decide, xIs_sI, xIs_sJ, xR_sI, xR_sJ, xN_sI, xN_sJ, xI_sJ, xI_ate, xI_ne, xinbT, xixT, leT, leF, ltT, ltF, ngF, psT, n1F, n2F, km2, km3, km4, km5, km10, km15, km25, kl8, kl14, kl24, kl34, kl274, kl354, kl384, kr1, kr2, kr3, kr4, kr5, kr6, kr7, kr8, kr9, kaa, lb0, lb1, lb2, lb3, lb4, lb5, lb6, lb7, li0, li1, li2, li3, li4, li5, li6, li7, true_and, and_true, Option.some.injEq, exists_eq_left', Option.toList_some, Option.toList_none, List.cons_append, List.nil_append, xcat_nil, xcat_int, xcat_ref, xcat_long, not_true, not_false_iff, if_true, if_false, and_self, and_false, false_and, or_true, true_or, or_self, z01, z10, zle8, Nat.reduceAdd, Nat.reduceLeDiff]
  refine hK.1 rfl _ s nl np nb (nc + 1) nr nh nk (hf.tr ((Fm.sJ1.tr Fm.sI).tr Fm.sI)) (hv.mv rfl rfl ?_ ?_ ?_ rfl rfl ?_ ?_ ?_) ⟨?_, hE, hr.2.2.1, ?_, ?_, ?_, ?_⟩
  · unfold cClass2 mAddC; simp (disch := omega) only [xIf_sI, xIf_sJ]
  · unfold cClass2 mAddC; simp (disch := omega) only [xIf_sI, xIf_sJ]
  · unfold cClass2 mAddC; simp (disch := omega) only [xJ_sI, xJ_ne]
  · simp (disch := omega) only [xIf_sI, xIf_sJ]
  · simp (disch := omega) only [xIf_sI, xIf_sJ]
  · simp (disch := omega) only [xJ_sI, xJ_ne]
  · exact okG.addC (g := xsJ m 4 nc nm) hr.1 hlt ho
  · unfold cClass2 mAddC; simp (disch := omega) only [xI_ne, xI_sJ]; exact hr.2.2.2.1
  · exact cpD.addC (v := xsJ v 281 nc yy) (g := xsJ m 4 nc nm) hr.2.2.2.2.1 hr.1 hlt
  · intro i hi
    unfold cClass2 mAddC
    by_cases e : i = nc
    · simp (disch := omega) only [xJ_sI, xJ_ate]
      exact hnm
    · simp (disch := omega) only [xJ_sI, xJ_ne]
      exact hr.2.2.2.2.2.1 i (by omega)
  · intro i hi
    unfold cClass2 mAddC
    simp (disch := omega) only [xJ_sI, xJ_ne]
    exact hr.2.2.2.2.2.2 i hi
theorem classM (h : Wk g w E) (hr : Rs g w E s nl np nb nc nr nh nk) (hK : Lk2 (thW (cStart g (nI nc) 6) (fun m => cClass m E nc np)) w E P) : zr 197 0 [.ref 278, .null, .null, .null] [] w P := by
  have hb := hr.1.1.b
  obtain ⟨e0, e1, e2, e3, -⟩ := hr.e
  have h14 := hr.2.2.2.1
  simp only [r197_0, r197_1, r197_2, r197_4, h.1.1.1, true_and, and_true, Option.some.injEq, exists_eq_left', Option.toList_some, Option.toList_none, List.cons_append, List.nil_append, xcat_nil, xcat_int, xcat_ref, xcat_long, not_true, not_false_iff, if_true, if_false, and_self, and_false, false_and, or_true, true_or, or_self, z01, z10, zle8, Nat.reduceAdd, Nat.reduceLeDiff]
  refine begins_rel (k := 2) (m := 6) h hr (by omega) e2 hb.2.2.2.2.1 (by omega) (fun hlt v hn hv => ?_) (fun hge v hn hv => ?_)
  · rw [show (6 : Int32) = nI 6 from rfl, cStart_go h14 hlt (by omega), thW_t rfl] at hK
    have hK : Lk2 (cClass (nxt g) E nc np) w E P := hK
    unfold cClass at hK
    have hr1 := hr.mv kp_nxt hn.ny
    simp only [r197_7, r197_8, hv.1.1.1, true_and, and_true, Option.some.injEq, exists_eq_left', Option.toList_some, Option.toList_none, List.cons_append, List.nil_append, xcat_nil, xcat_int, xcat_ref, xcat_long, not_true, not_false_iff, if_true, if_false, and_self, and_false, false_and, or_true, true_or, or_self, z01, z10, zle8, Nat.reduceAdd, Nat.reduceLeDiff]
    refine readFresh_rel hv hr1 (fun c v2 yy hn2 hv2 hnm => ?_) (fun c v2 yy hn2 hv2 => ?_)
    · rw [thJ_t c] at hK
      have kpF : Kp (nxt g) (cFresh (nxt g) nc np).2 := kp_fresh
      generalize cFresh (nxt g) nc np = a1 at *
      have hr2 := hr1.mv kpF hn2.ny
      simp only [r197_11, r197_12, r197_13, r197_15, hv2.1.1.1, true_and, and_true, Option.some.injEq, exists_eq_left', Option.toList_some, Option.toList_none, List.cons_append, List.nil_append, xcat_nil, xcat_int, xcat_ref, xcat_long, not_true, not_false_iff, if_true, if_false, and_self, and_false, false_and, or_true, true_or, or_self, z01, z10, zle8, Nat.reduceAdd, Nat.reduceLeDiff]
      by_cases c2 : cSay a1.2 7 = true
      · rw [if_pos c2] at hK
        refine takes_t (r := 1000007) (k := 7) rfl (by omega) hv2 c2 (fun v3 hn3 hv3 => ?_)
        have hr3 := hr2.mv kp_nxt hn3.ny
        simp only [r197_18, r197_21, r197_22, r197_23, hv3.1.1.1, true_and, and_true, Option.some.injEq, exists_eq_left', Option.toList_some, Option.toList_none, List.cons_append, List.nil_append, xcat_nil, xcat_int, xcat_ref, xcat_long, not_true, not_false_iff, if_true, if_false, and_self, and_false, false_and, or_true, true_or, or_self, z01, z10, zle8, Nat.reduceAdd, Nat.reduceLeDiff]
        refine readKnownC_rel hv3 hr3 (fun q hi v4 hn4 hv4 => ?_) (fun q v4 hn4 hv4 => ?_)
        · rw [thI_t q] at hK
          have kpN : Kp (nxt a1.2) (cName (nxt a1.2) 4 nc).2 := kp_name
          generalize cName (nxt a1.2) 4 nc = o1 at *
          have hr4 := hr3.mv kpN hn4.ny
          simp only [r197_26, r197_29, r197_31, true_and, and_true, Option.some.injEq, exists_eq_left', Option.toList_some, Option.toList_none, List.cons_append, List.nil_append, xcat_nil, xcat_int, xcat_ref, xcat_long, not_true, not_false_iff, if_true, if_false, and_self, and_false, false_and, or_true, true_or, or_self, z01, z10, zle8, Nat.reduceAdd, Nat.reduceLeDiff]
          exact classM_tail hv4 hr4 hlt (Or.inr hi) hnm hK (hn.fm.tr (hn2.fm.tr (hn3.fm.tr hn4.fm)))
        · rw [thI_f q] at hK
          simp only [r197_26, r197_29, r197_31, r197_32, r197_33, r197_36, r197_39, hv4.1.1, hv4.fw.nz.1, hv4.fw.nz.2, next_z hv4.fw, flaw_z hv4.fw, readWhole_z hv4.fw, readKnown_z hv4.fw, known_z hv4.fw, readFresh_z hv4.fw, takes_z (r := 1000007) (k := 7) rfl (by omega) hv4.fw, takes_z (r := 1000008) (k := 8) rfl (by omega) hv4.fw, takes_z (r := 1000009) (k := 9) rfl (by omega) hv4.fw, readPart_z (r := 1000010) (k := 10) rfl (by omega) hv4.fw, readPart_z (r := 1000011) (k := 11) rfl (by omega) hv4.fw, readPart_z (r := 1000012) (k := 12) rfl (by omega) hv4.fw, readPart_z (r := 1000013) (k := 13) rfl (by omega) hv4.fw, true_and, and_true, Option.some.injEq, exists_eq_left', Option.toList_some, Option.toList_none, List.cons_append, List.nil_append, xcat_nil, xcat_int, xcat_ref, xcat_long, not_true, not_false_iff, if_true, if_false, and_self, and_false, false_and, or_true, true_or, or_self, z01, z10, zle8, Nat.reduceAdd, Nat.reduceLeDiff]
          exact hK.2 rfl v4 (hn.fm.tr (hn2.fm.tr (hn3.fm.tr hn4.fm))) hv4
      · rw [if_neg c2] at hK
        simp only [r197_18, r197_21, r197_22, r197_23, r197_26, r197_29, r197_31, takes_f (r := 1000007) (k := 7) rfl (by omega) hv2 c2, true_and, and_true, Option.some.injEq, exists_eq_left', Option.toList_some, Option.toList_none, List.cons_append, List.nil_append, xcat_nil, xcat_int, xcat_ref, xcat_long, not_true, not_false_iff, if_true, if_false, and_self, and_false, false_and, or_true, true_or, or_self, z01, z10, zle8, Nat.reduceAdd, Nat.reduceLeDiff]
        exact classM_tail hv2 hr2 hlt (Or.inl rfl) hnm hK (hn.fm.tr hn2.fm)
    · rw [thJ_f c] at hK
      simp only [r197_11, r197_12, r197_13, r197_15, r197_18, r197_21, r197_22, r197_23, r197_26, r197_29, r197_31, r197_32, r197_33, r197_36, r197_39, hv2.1.1, hv2.fw.nz.1, hv2.fw.nz.2, next_z hv2.fw, flaw_z hv2.fw, readWhole_z hv2.fw, readKnown_z hv2.fw, known_z hv2.fw, readFresh_z hv2.fw, takes_z (r := 1000007) (k := 7) rfl (by omega) hv2.fw, takes_z (r := 1000008) (k := 8) rfl (by omega) hv2.fw, takes_z (r := 1000009) (k := 9) rfl (by omega) hv2.fw, readPart_z (r := 1000010) (k := 10) rfl (by omega) hv2.fw, readPart_z (r := 1000011) (k := 11) rfl (by omega) hv2.fw, readPart_z (r := 1000012) (k := 12) rfl (by omega) hv2.fw, readPart_z (r := 1000013) (k := 13) rfl (by omega) hv2.fw, true_and, and_true, Option.some.injEq, exists_eq_left', Option.toList_some, Option.toList_none, List.cons_append, List.nil_append, xcat_nil, xcat_int, xcat_ref, xcat_long, not_true, not_false_iff, if_true, if_false, and_self, and_false, false_and, or_true, true_or, or_self, z01, z10, zle8, Nat.reduceAdd, Nat.reduceLeDiff]
      exact hK.2 rfl v2 (hn.fm.tr hn2.fm) hv2
  · rw [show (6 : Int32) = nI 6 from rfl, cStart_full h14 hge (by omega), thW_f (r := (false, flt g 5)) Bool.false_ne_true] at hK
    simp only [r197_7, r197_8, r197_11, r197_12, r197_13, r197_15, r197_18, r197_21, r197_22, r197_23, r197_26, r197_29, r197_31, r197_32, r197_33, r197_36, r197_39, hv.1.1, hv.fw.nz.1, hv.fw.nz.2, next_z hv.fw, flaw_z hv.fw, readWhole_z hv.fw, readKnown_z hv.fw, known_z hv.fw, readFresh_z hv.fw, takes_z (r := 1000007) (k := 7) rfl (by omega) hv.fw, takes_z (r := 1000008) (k := 8) rfl (by omega) hv.fw, takes_z (r := 1000009) (k := 9) rfl (by omega) hv.fw, readPart_z (r := 1000010) (k := 10) rfl (by omega) hv.fw, readPart_z (r := 1000011) (k := 11) rfl (by omega) hv.fw, readPart_z (r := 1000012) (k := 12) rfl (by omega) hv.fw, readPart_z (r := 1000013) (k := 13) rfl (by omega) hv.fw, true_and, and_true, Option.some.injEq, exists_eq_left', Option.toList_some, Option.toList_none, List.cons_append, List.nil_append, xcat_nil, xcat_int, xcat_ref, xcat_long, not_true, not_false_iff, if_true, if_false, and_self, and_false, false_and, or_true, true_or, or_self, z01, z10, zle8, Nat.reduceAdd, Nat.reduceLeDiff]
    exact hK.2 rfl v hn.fm hv
theorem classM_no (h : Wk g w E) (hz : ∀ i, i < 402 → xI w 280 i = 0) (hP : ∀ v, Ny w v → Fz (flt g 6) v → P none v) : zr 197 0 [.ref 278, .null, .null, .null] [] w P := by
  simp only [r197_0, r197_1, r197_2, r197_4, h.1.1.1, true_and, and_true, Option.some.injEq, exists_eq_left', Option.toList_some, Option.toList_none, List.cons_append, List.nil_append, xcat_nil, xcat_int, xcat_ref, xcat_long, not_true, not_false_iff, if_true, if_false, and_self, and_false, false_and, or_true, true_or, or_self, z01, z10, zle8, Nat.reduceAdd, Nat.reduceLeDiff]
  refine begins_no (k := 2) (m := 6) h hz (by omega) (by omega) (by omega) (fun v hn hv => ?_)
  simp only [r197_7, r197_8, r197_11, r197_12, r197_13, r197_15, r197_18, r197_21, r197_22, r197_23, r197_26, r197_29, r197_31, r197_32, r197_33, r197_36, r197_39, hv.1.1, hv.fw.nz.1, hv.fw.nz.2, next_z hv.fw, flaw_z hv.fw, readWhole_z hv.fw, readKnown_z hv.fw, known_z hv.fw, readFresh_z hv.fw, takes_z (r := 1000007) (k := 7) rfl (by omega) hv.fw, takes_z (r := 1000008) (k := 8) rfl (by omega) hv.fw, takes_z (r := 1000009) (k := 9) rfl (by omega) hv.fw, readPart_z (r := 1000010) (k := 10) rfl (by omega) hv.fw, readPart_z (r := 1000011) (k := 11) rfl (by omega) hv.fw, readPart_z (r := 1000012) (k := 12) rfl (by omega) hv.fw, readPart_z (r := 1000013) (k := 13) rfl (by omega) hv.fw, true_and, and_true, Option.some.injEq, exists_eq_left', Option.toList_some, Option.toList_none, List.cons_append, List.nil_append, xcat_nil, xcat_int, xcat_ref, xcat_long, not_true, not_false_iff, if_true, if_false, and_self, and_false, false_and, or_true, true_or, or_self, z01, z10, zle8, Nat.reduceAdd, Nat.reduceLeDiff]
  exact hP v hn hv
/-! a place -/
theorem placeM_tail {nm yy : Int64} {t : Bool} (hv : Wk m v E) (hr : Rs m v E s nl np nb nc nr nh nk) (hlt : np < 10) (hnm : nmR nm yy) (hK : Lk2 (cPlace2 E np nm x t m) w E P) (hf : Fm w v) : zr 198 36 [.ref 278, .long yy, .null, .int x, .int (bI t), .null] [] v P := by
  have hb := hr.1.1.b
  obtain ⟨e0, e1, e2, e3, -⟩ := hr.e
  obtain ⟨h0, r4, r5, r6, j, k0, i1, n1, i2, n2⟩ := hv.1.1.cf
  have hfa := hv.2.1
  have hE := hr.2.1
  have key : P none (xsI (xsI (xsI (xsJ v 282 np yy) 280 (14 + np) x) 280 (24 + np) (bI t)) 280 3 (nI (np + 1))) := by
    refine hK.1 rfl _ s nl (np + 1) nb nc nr nh nk (hf.tr (((Fm.sJ2.tr Fm.sI).tr Fm.sI).tr Fm.sI)) (hv.mv rfl rfl ?_ ?_ ?_ rfl rfl ?_ ?_ ?_) ⟨?_, hE, hr.2.2.1, ?_, ?_, ?_, ?_⟩
    · unfold cPlace2 mAddP; simp (disch := omega) only [xIf_sI, xIf_sJ]
    · unfold cPlace2 mAddP; simp (disch := omega) only [xIf_sI, xIf_sJ]
    · unfold cPlace2 mAddP; simp (disch := omega) only [xJ_sI, xJ_ne]
    · simp (disch := omega) only [xIf_sI, xIf_sJ]
    · simp (disch := omega) only [xIf_sI, xIf_sJ]
    · simp (disch := omega) only [xJ_sI, xJ_ne]
    · exact okG.addP (g := xsJ m 5 np nm) hr.1 hlt
    · unfold cPlace2 mAddP; simp (disch := omega) only [xI_ne, xI_sJ]; exact hr.2.2.2.1
    · exact cpD.addP (v := xsJ v 282 np yy) (g := xsJ m 5 np nm) hr.2.2.2.2.1 hr.1 hlt
    · intro i hi
      unfold cPlace2 mAddP
      simp (disch := omega) only [xJ_sI, xJ_ne]
      exact hr.2.2.2.2.2.1 i hi
    · intro i hi
      unfold cPlace2 mAddP
      by_cases e : i = np
      · simp (disch := omega) only [xJ_sI, xJ_ate]
        exact hnm
      · simp (disch := omega) only [xJ_sI, xJ_ne]
        exact hr.2.2.2.2.2.2 i (by omega)
  cases t
  · simp only [bI_f] at key ⊢
    simp (disch := omega) only [r198_36, r198_37, r198_40, r198_43, r198_44, r198_45, r198_48, r198_49, r198_50, r198_52, r198_53, r198_56, r198_58, r198_59, r198_60, r198_61, r198_64, r198_66, r198_68, r198_69, r198_70, r198_71, r198_72, r198_75, r198_77, r198_79, r198_80, r198_82, r198_85, r198_86, r198_89, r198_90, r198_91, r198_92, r198_95, r198_96, r198_97, r198_98, r198_99, r198_100, r198_101, h0, r4, r6, j, k0, i2, n2, e3, hfa, show (0 : Int32) ≤ 0 by decide, xIs_sI, xIs_sJ, xR_sI, xR_sJ, xN_sI, xN_sJ, xI_sJ, xI_ate, xI_ne, xinbT, xixT, leT, leF, ltT, ltF, ngF, psT, n1F, n2F, km2, km3, km4, km5, km10, km15, km25, kl8, kl14, kl24, kl34, kl274, kl354, kl384, kr1, kr2, kr3, kr4, kr5, kr6, kr7, kr8, kr9, kaa, lb0, lb1, lb2, lb3, lb4, lb5, lb6, lb7, li0, li1, li2, li3, li4, li5, li6, li7, true_and, and_true, Option.some.injEq, exists_eq_left', Option.toList_some, Option.toList_none, List.cons_append, List.nil_append, xcat_nil, xcat_int, xcat_ref, xcat_long, not_true, not_false_iff, if_true, if_false, and_self, and_false, false_and, or_true, true_or, or_self, z01, z10, zle8, Nat.reduceAdd, Nat.reduceLeDiff]
    exact key
  · simp only [bI_t] at key ⊢
    simp (disch := omega) only [r198_36, r198_37, r198_40, r198_43, r198_44, r198_45, r198_48, r198_49, r198_50, r198_52, r198_53, r198_56, r198_58, r198_59, r198_60, r198_61, r198_64, r198_66, r198_68, r198_69, r198_70, r198_71, r198_72, r198_75, r198_77, r198_79, r198_80, r198_82, r198_85, r198_86, r198_89, r198_90, r198_91, r198_92, r198_95, r198_96, r198_97, r198_98, r198_99, r198_100, r198_101, h0, r4, r6, j, k0, i2, n2, e3, hfa, show (0 : Int32) ≤ 0 by decide, xIs_sI, xIs_sJ, xR_sI, xR_sJ, xN_sI, xN_sJ, xI_sJ, xI_ate, xI_ne, xinbT, xixT, leT, leF, ltT, ltF, ngF, psT, n1F, n2F, km2, km3, km4, km5, km10, km15, km25, kl8, kl14, kl24, kl34, kl274, kl354, kl384, kr1, kr2, kr3, kr4, kr5, kr6, kr7, kr8, kr9, kaa, lb0, lb1, lb2, lb3, lb4, lb5, lb6, lb7, li0, li1, li2, li3, li4, li5, li6, li7, true_and, and_true, Option.some.injEq, exists_eq_left', Option.toList_some, Option.toList_none, List.cons_append, List.nil_append, xcat_nil, xcat_int, xcat_ref, xcat_long, not_true, not_false_iff, if_true, if_false, and_self, and_false, false_and, or_true, true_or, or_self, z01, z10, zle8, Nat.reduceAdd, Nat.reduceLeDiff]
    exact key
theorem placeM (h : Wk g w E) (hr : Rs g w E s nl np nb nc nr nh nk) (hK : Lk2 (thW (cStart g (nI np) 10) (fun m => cPlace m E nc np nl)) w E P) : zr 198 0 [.ref 278, .null, .null, .null, .null, .null] [] w P := by
  have hb := hr.1.1.b
  obtain ⟨e0, e1, e2, e3, -⟩ := hr.e
  have h14 := hr.2.2.2.1
  simp only [r198_0, r198_1, r198_2, r198_4, h.1.1.1, true_and, and_true, Option.some.injEq, exists_eq_left', Option.toList_some, Option.toList_none, List.cons_append, List.nil_append, xcat_nil, xcat_int, xcat_ref, xcat_long, not_true, not_false_iff, if_true, if_false, and_self, and_false, false_and, or_true, true_or, or_self, z01, z10, zle8, Nat.reduceAdd, Nat.reduceLeDiff]
  refine begins_rel (k := 3) (m := 10) h hr (by omega) e3 hb.2.2.1 (by omega) (fun hlt v hn hv => ?_) (fun hge v hn hv => ?_)
  · rw [show (10 : Int32) = nI 10 from rfl, cStart_go h14 hlt (by omega), thW_t rfl] at hK
    have hK : Lk2 (cPlace (nxt g) E nc np nl) w E P := hK
    unfold cPlace at hK
    have hr1 := hr.mv kp_nxt hn.ny
    simp only [r198_7, r198_8, hv.1.1.1, true_and, and_true, Option.some.injEq, exists_eq_left', Option.toList_some, Option.toList_none, List.cons_append, List.nil_append, xcat_nil, xcat_int, xcat_ref, xcat_long, not_true, not_false_iff, if_true, if_false, and_self, and_false, false_and, or_true, true_or, or_self, z01, z10, zle8, Nat.reduceAdd, Nat.reduceLeDiff]
    refine readFresh_rel hv hr1 (fun c v2 yy hn2 hv2 hnm => ?_) (fun c v2 yy hn2 hv2 => ?_)
    · rw [thJ_t c] at hK
      have kpF : Kp (nxt g) (cFresh (nxt g) nc np).2 := kp_fresh
      generalize cFresh (nxt g) nc np = a1 at *
      have hr2 := hr1.mv kpF hn2.ny
      obtain ⟨-, e1, -⟩ := hr2.e
      obtain ⟨h0, r4, -, -, j, k0, -⟩ := hv2.1.1.cf
      simp (disch := omega) only [r198_11, r198_12, r198_13, r198_15, r198_16, r198_17, r198_20, r198_21, r198_22, r198_23, r198_24, h0, r4, j, k0, e1, xinbT, xixT, leT, leF, ltT, ltF, ngF, psT, n1F, n2F, km2, km3, km4, km5, km10, km15, km25, kl8, kl14, kl24, kl34, kl274, kl354, kl384, kr1, kr2, kr3, kr4, kr5, kr6, kr7, kr8, kr9, kaa, lb0, lb1, lb2, lb3, lb4, lb5, lb6, lb7, li0, li1, li2, li3, li4, li5, li6, li7, true_and, and_true, Option.some.injEq, exists_eq_left', Option.toList_some, Option.toList_none, List.cons_append, List.nil_append, xcat_nil, xcat_int, xcat_ref, xcat_long, not_true, not_false_iff, if_true, if_false, and_self, and_false, false_and, or_true, true_or, or_self, z01, z10, zle8, Nat.reduceAdd, Nat.reduceLeDiff]
      refine readPart_rel (r := 1000012) (k := 12) (hi := nI nl - 1) rfl (by omega) hv2 (by decide) (fun q1 q2 v3 hn3 hv3 => ?_) (fun q1 v3 hn3 hv3 => ?_) (fun q1 q2 v3 hn3 hv3 => ?_)
      · rw [thW_t q1, thI_t q2] at hK
        have kpW : Kp a1.2 (cWhole (cWord a1.2 12).2 0 (nI nl - 1)).2 := kp_word.tr kp_whole
        generalize cWhole (cWord a1.2 12).2 0 (nI nl - 1) = a3 at *
        have hr3 := hr2.mv kpW hn3.ny
        simp only [r198_27, r198_28, r198_29, r198_31, hv3.1.1.1, true_and, and_true, Option.some.injEq, exists_eq_left', Option.toList_some, Option.toList_none, List.cons_append, List.nil_append, xcat_nil, xcat_int, xcat_ref, xcat_long, not_true, not_false_iff, if_true, if_false, and_self, and_false, false_and, or_true, true_or, or_self, z01, z10, zle8, Nat.reduceAdd, Nat.reduceLeDiff]
        by_cases c2 : cSay a3.2 8 = true
        · rw [if_pos c2] at hK
          refine takes_t (r := 1000008) (k := 8) rfl (by omega) hv3 c2 (fun v4 hn4 hv4 => ?_)
          have hr4 := hr3.mv kp_nxt hn4.ny
          simp only [r198_34, true_and, and_true, Option.some.injEq, exists_eq_left', Option.toList_some, Option.toList_none, List.cons_append, List.nil_append, xcat_nil, xcat_int, xcat_ref, xcat_long, not_true, not_false_iff, if_true, if_false, and_self, and_false, false_and, or_true, true_or, or_self, z01, z10, zle8, Nat.reduceAdd, Nat.reduceLeDiff]
          exact placeM_tail (t := true) hv4 hr4 hlt hnm hK (hn.fm.tr (hn2.fm.tr (hn3.fm.tr hn4.fm)))
        · rw [if_neg c2] at hK
          simp only [r198_34, takes_f (r := 1000008) (k := 8) rfl (by omega) hv3 c2, true_and, and_true, Option.some.injEq, exists_eq_left', Option.toList_some, Option.toList_none, List.cons_append, List.nil_append, xcat_nil, xcat_int, xcat_ref, xcat_long, not_true, not_false_iff, if_true, if_false, and_self, and_false, false_and, or_true, true_or, or_self, z01, z10, zle8, Nat.reduceAdd, Nat.reduceLeDiff]
          exact placeM_tail (t := false) hv3 hr3 hlt hnm hK (hn.fm.tr (hn2.fm.tr hn3.fm))
      · rw [thW_f q1] at hK
        simp only [r198_27, r198_28, r198_29, r198_31, r198_34, r198_36, r198_37, r198_40, r198_43, hv3.1.1, hv3.fw.nz.1, hv3.fw.nz.2, next_z hv3.fw, flaw_z hv3.fw, readWhole_z hv3.fw, readKnown_z hv3.fw, known_z hv3.fw, readFresh_z hv3.fw, takes_z (r := 1000007) (k := 7) rfl (by omega) hv3.fw, takes_z (r := 1000008) (k := 8) rfl (by omega) hv3.fw, takes_z (r := 1000009) (k := 9) rfl (by omega) hv3.fw, readPart_z (r := 1000010) (k := 10) rfl (by omega) hv3.fw, readPart_z (r := 1000011) (k := 11) rfl (by omega) hv3.fw, readPart_z (r := 1000012) (k := 12) rfl (by omega) hv3.fw, readPart_z (r := 1000013) (k := 13) rfl (by omega) hv3.fw, true_and, and_true, Option.some.injEq, exists_eq_left', Option.toList_some, Option.toList_none, List.cons_append, List.nil_append, xcat_nil, xcat_int, xcat_ref, xcat_long, not_true, not_false_iff, if_true, if_false, and_self, and_false, false_and, or_true, true_or, or_self, z01, z10, zle8, Nat.reduceAdd, Nat.reduceLeDiff]
        exact hK.2 rfl v3 (hn.fm.tr (hn2.fm.tr hn3.fm)) hv3
      · rw [thW_t q1, thI_f q2] at hK
        simp only [r198_27, r198_28, r198_29, r198_31, r198_34, r198_36, r198_37, r198_40, r198_43, hv3.1.1, hv3.fw.nz.1, hv3.fw.nz.2, next_z hv3.fw, flaw_z hv3.fw, readWhole_z hv3.fw, readKnown_z hv3.fw, known_z hv3.fw, readFresh_z hv3.fw, takes_z (r := 1000007) (k := 7) rfl (by omega) hv3.fw, takes_z (r := 1000008) (k := 8) rfl (by omega) hv3.fw, takes_z (r := 1000009) (k := 9) rfl (by omega) hv3.fw, readPart_z (r := 1000010) (k := 10) rfl (by omega) hv3.fw, readPart_z (r := 1000011) (k := 11) rfl (by omega) hv3.fw, readPart_z (r := 1000012) (k := 12) rfl (by omega) hv3.fw, readPart_z (r := 1000013) (k := 13) rfl (by omega) hv3.fw, true_and, and_true, Option.some.injEq, exists_eq_left', Option.toList_some, Option.toList_none, List.cons_append, List.nil_append, xcat_nil, xcat_int, xcat_ref, xcat_long, not_true, not_false_iff, if_true, if_false, and_self, and_false, false_and, or_true, true_or, or_self, z01, z10, zle8, Nat.reduceAdd, Nat.reduceLeDiff]
        exact hK.2 rfl v3 (hn.fm.tr (hn2.fm.tr hn3.fm)) hv3
    · rw [thJ_f c] at hK
      have hr2 := hr1.mv (kp_fresh (nc := nc) (np := np)) hn2
      obtain ⟨-, e1, -⟩ := hr2.e
      obtain ⟨h0, r4, -, -, j, k0, -⟩ := hv2.1.cf
      simp (disch := omega) only [r198_11, r198_12, r198_13, r198_15, r198_16, r198_17, r198_20, r198_21, r198_22, r198_23, r198_24, r198_27, r198_28, r198_29, r198_31, r198_34, r198_36, r198_37, r198_40, r198_43, r4, j, k0, e1, hv2.1.1, hv2.fw.nz.1, hv2.fw.nz.2, next_z hv2.fw, flaw_z hv2.fw, readWhole_z hv2.fw, readKnown_z hv2.fw, known_z hv2.fw, readFresh_z hv2.fw, takes_z (r := 1000007) (k := 7) rfl (by omega) hv2.fw, takes_z (r := 1000008) (k := 8) rfl (by omega) hv2.fw, takes_z (r := 1000009) (k := 9) rfl (by omega) hv2.fw, readPart_z (r := 1000010) (k := 10) rfl (by omega) hv2.fw, readPart_z (r := 1000011) (k := 11) rfl (by omega) hv2.fw, readPart_z (r := 1000012) (k := 12) rfl (by omega) hv2.fw, readPart_z (r := 1000013) (k := 13) rfl (by omega) hv2.fw, xinbT, xixT, leT, leF, ltT, ltF, ngF, psT, n1F, n2F, km2, km3, km4, km5, km10, km15, km25, kl8, kl14, kl24, kl34, kl274, kl354, kl384, kr1, kr2, kr3, kr4, kr5, kr6, kr7, kr8, kr9, kaa, lb0, lb1, lb2, lb3, lb4, lb5, lb6, lb7, li0, li1, li2, li3, li4, li5, li6, li7, true_and, and_true, Option.some.injEq, exists_eq_left', Option.toList_some, Option.toList_none, List.cons_append, List.nil_append, xcat_nil, xcat_int, xcat_ref, xcat_long, not_true, not_false_iff, if_true, if_false, and_self, and_false, false_and, or_true, true_or, or_self, z01, z10, zle8, Nat.reduceAdd, Nat.reduceLeDiff]
      exact hK.2 rfl v2 (hn.fm.tr hn2.fm) hv2
  · rw [show (10 : Int32) = nI 10 from rfl, cStart_full h14 hge (by omega), thW_f (r := (false, flt g 5)) Bool.false_ne_true] at hK
    have hr2 := hr.mv (kp_flt (x := 5)) hn
    obtain ⟨-, e1, -⟩ := hr2.e
    obtain ⟨h0, r4, -, -, j, k0, -⟩ := hv.1.cf
    simp (disch := omega) only [r198_7, r198_8, r198_11, r198_12, r198_13, r198_15, r198_16, r198_17, r198_20, r198_21, r198_22, r198_23, r198_24, r198_27, r198_28, r198_29, r198_31, r198_34, r198_36, r198_37, r198_40, r198_43, r4, j, k0, e1, hv.1.1, hv.fw.nz.1, hv.fw.nz.2, next_z hv.fw, flaw_z hv.fw, readWhole_z hv.fw, readKnown_z hv.fw, known_z hv.fw, readFresh_z hv.fw, takes_z (r := 1000007) (k := 7) rfl (by omega) hv.fw, takes_z (r := 1000008) (k := 8) rfl (by omega) hv.fw, takes_z (r := 1000009) (k := 9) rfl (by omega) hv.fw, readPart_z (r := 1000010) (k := 10) rfl (by omega) hv.fw, readPart_z (r := 1000011) (k := 11) rfl (by omega) hv.fw, readPart_z (r := 1000012) (k := 12) rfl (by omega) hv.fw, readPart_z (r := 1000013) (k := 13) rfl (by omega) hv.fw, xinbT, xixT, leT, leF, ltT, ltF, ngF, psT, n1F, n2F, km2, km3, km4, km5, km10, km15, km25, kl8, kl14, kl24, kl34, kl274, kl354, kl384, kr1, kr2, kr3, kr4, kr5, kr6, kr7, kr8, kr9, kaa, lb0, lb1, lb2, lb3, lb4, lb5, lb6, lb7, li0, li1, li2, li3, li4, li5, li6, li7, true_and, and_true, Option.some.injEq, exists_eq_left', Option.toList_some, Option.toList_none, List.cons_append, List.nil_append, xcat_nil, xcat_int, xcat_ref, xcat_long, not_true, not_false_iff, if_true, if_false, and_self, and_false, false_and, or_true, true_or, or_self, z01, z10, zle8, Nat.reduceAdd, Nat.reduceLeDiff]
    exact hK.2 rfl v hn.fm hv
theorem placeM_no (h : Wk g w E) (hz : ∀ i, i < 402 → xI w 280 i = 0) (hP : ∀ v, Ny w v → Fz (flt g 6) v → P none v) : zr 198 0 [.ref 278, .null, .null, .null, .null, .null] [] w P := by
  simp only [r198_0, r198_1, r198_2, r198_4, h.1.1.1, true_and, and_true, Option.some.injEq, exists_eq_left', Option.toList_some, Option.toList_none, List.cons_append, List.nil_append, xcat_nil, xcat_int, xcat_ref, xcat_long, not_true, not_false_iff, if_true, if_false, and_self, and_false, false_and, or_true, true_or, or_self, z01, z10, zle8, Nat.reduceAdd, Nat.reduceLeDiff]
  refine begins_no (k := 3) (m := 10) h hz (by omega) (by omega) (by omega) (fun v hn hv => ?_)
  obtain ⟨h0, r4, -, -, j, k0, -⟩ := hv.1.cf
  have e1 : xI v 280 1 = 0 := by rw [hn.f (by omega)]; exact hz 1 (by omega)
  simp (disch := omega) only [r198_7, r198_8, r198_11, r198_12, r198_13, r198_15, r198_16, r198_17, r198_20, r198_21, r198_22, r198_23, r198_24, r198_27, r198_28, r198_29, r198_31, r198_34, r198_36, r198_37, r198_40, r198_43, r4, j, k0, e1, hv.1.1, hv.fw.nz.1, hv.fw.nz.2, next_z hv.fw, flaw_z hv.fw, readWhole_z hv.fw, readKnown_z hv.fw, known_z hv.fw, readFresh_z hv.fw, takes_z (r := 1000007) (k := 7) rfl (by omega) hv.fw, takes_z (r := 1000008) (k := 8) rfl (by omega) hv.fw, takes_z (r := 1000009) (k := 9) rfl (by omega) hv.fw, readPart_z (r := 1000010) (k := 10) rfl (by omega) hv.fw, readPart_z (r := 1000011) (k := 11) rfl (by omega) hv.fw, readPart_z (r := 1000012) (k := 12) rfl (by omega) hv.fw, readPart_z (r := 1000013) (k := 13) rfl (by omega) hv.fw, xinbT, xixT, leT, leF, ltT, ltF, ngF, psT, n1F, n2F, km2, km3, km4, km5, km10, km15, km25, kl8, kl14, kl24, kl34, kl274, kl354, kl384, kr1, kr2, kr3, kr4, kr5, kr6, kr7, kr8, kr9, kaa, lb0, lb1, lb2, lb3, lb4, lb5, lb6, lb7, li0, li1, li2, li3, li4, li5, li6, li7, true_and, and_true, Option.some.injEq, exists_eq_left', Option.toList_some, Option.toList_none, List.cons_append, List.nil_append, xcat_nil, xcat_int, xcat_ref, xcat_long, not_true, not_false_iff, if_true, if_false, and_self, and_false, false_and, or_true, true_or, or_self, z01, z10, zle8, Nat.reduceAdd, Nat.reduceLeDiff]
  exact hP v hn hv
end
