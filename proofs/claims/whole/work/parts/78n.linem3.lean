/-! LINES: bounds, the desk's own, in class and model -/
section
variable {w v g m : xMem} {P : Option Value → xMem → Prop} {E k n s nl np nb nc nr nh nk : Nat} {x y p c d lo hi z : Int32}
theorem fNf_ok (hG : okG g E s nl np nb nc nr nh nk) : 0 ≤ fNf (xI g (E + 5)) (xI g (E + 6)) p nb := by
  have hb := hG.1.b
  unfold fNf
  rcases fLat_cases (xI g (E + 5)) (xI g (E + 6)) p 999 nb with q | ⟨k, hk, q, -⟩
  · rw [q, if_neg (by decide)]; decide
  · obtain ⟨a, ha, e⟩ := hG.2.2.2.2.2.1 k hk
    rw [q, if_pos (nI_pos' (by omega)), xix_nI (by omega), e, nI_1]
    exact nI_pos' (by omega)
theorem latestBound_rel (hv : sMd v) (hr : Rs m v E s nl np nb nc nr nh nk) : zr 200 0 [.ref 280, .int p, .null] [] v P = P (some (.int (fLat (xI m (E + 5)) (xI m (E + 6)) p 999 nb))) v := by
  have hb := hr.1.1.b
  obtain ⟨e0, e1, e2, e3, e4, e5, -⟩ := hr.e
  obtain ⟨h0, r4, r5, r6, j, k0, -⟩ := hv.cf
  refine latestBound_run ⟨j, k0⟩ e4 hb.2.2.2.1 (fun k hk => ?_)
  obtain ⟨z1, -⟩ := hr.2.2.2.2.1.bo hk
  obtain ⟨a, ha, e⟩ := hr.1.2.2.2.2.2.1 k hk
  exact ⟨z1, by rw [e]; exact le999 ha⟩
theorem boundM_mid (hv : Wk m v E) (hr : Rs m v E s nl np nb nc nr nh nk) (hP : ∀ z, zr 201 45 [.ref 278, .int p, .int z, .null, .null, .null, .null] [.int (fNf (xI m (E + 5)) (xI m (E + 6)) p nb), .ref 278] v P) : zr 201 13 [.ref 278, .int p, .null, .null, .null, .null, .null] [] v P := by
  have hb := hr.1.1.b
  obtain ⟨h0, r4, r5, r6, j, k0, -⟩ := hv.1.1.cf
  have lr := fun P => latestBound_rel (p := p) (P := P) hv.1.1 hr
  unfold fNf at hP
  rcases fLat_cases (xI m (E + 5)) (xI m (E + 6)) p 999 nb with q | ⟨k, hk, q, -⟩
  · rw [q] at hP lr
    rw [if_neg (by decide)] at hP
    simp (disch := omega) only [r201_13, r201_14, r201_17, r201_18, r201_21, r201_22, r201_23, r201_24, r201_25, r201_28, r201_29, h0, r4, j, k0, lr, true_and, and_true, Option.some.injEq, exists_eq_left', Option.toList_some, Option.toList_none, List.cons_append, List.nil_append, xcat_nil, xcat_int, xcat_ref, xcat_long, not_true, not_false_iff, if_true, if_false, and_self, and_false, false_and, or_true, true_or, or_self, z01, z10, zle8, Nat.reduceAdd, Nat.reduceLeDiff]
    exact hP _
  · rw [q] at hP lr
    rw [if_pos (nI_pos' (by omega)), xix_nI (by omega)] at hP
    obtain ⟨z1, z2, z3⟩ := hr.2.2.2.2.1.bo hk
    simp (disch := omega) only [r201_13, r201_14, r201_17, r201_18, r201_21, r201_22, r201_23, r201_24, r201_25, r201_28, r201_29, r201_32, r201_33, r201_36, r201_37, r201_40, r201_41, r201_42, r201_43, r201_44, boundAt_run, h0, r4, j, k0, lr, z2, xinbT, xixT, leT, leF, ltT, ltF, ngF, psT, n1F, n2F, km2, km3, km4, km5, km10, km15, km25, kl8, kl14, kl24, kl34, kl274, kl354, kl384, kr1, kr2, kr3, kr4, kr5, kr6, kr7, kr8, kr9, kaa, lb0, lb1, lb2, lb3, lb4, lb5, lb6, lb7, li0, li1, li2, li3, li4, li5, li6, li7, true_and, and_true, Option.some.injEq, exists_eq_left', Option.toList_some, Option.toList_none, List.cons_append, List.nil_append, xcat_nil, xcat_int, xcat_ref, xcat_long, not_true, not_false_iff, if_true, if_false, and_self, and_false, false_and, or_true, true_or, or_self, z01, z10, zle8, Nat.reduceAdd, Nat.reduceLeDiff]
    exact hP _
theorem boundM_z2 (h : Fw v) (h4 : xI v 280 4 = nI n) (hn : n ≤ 16) : zr 201 51 [.ref 278, .int p, .int z, .null, .null, .null, .null] [.int x] v P = P none v := by
  obtain ⟨h0, r4, r5, r6, j, k0, -⟩ := h.1.cf
  simp (disch := omega) only [r201_51, r201_52, r201_53, r201_56, r201_57, r201_58, r201_61, r201_63, r201_64, r201_66, r201_67, r201_69, r201_72, r201_74, r201_75, r201_78, r201_163, r201_164, r201_167, r201_170, boundAt_run, h0, r4, j, k0, h4, takes_z (r := 1000009) (k := 9) rfl (by omega) h, h.nz.1, h.nz.2, xinbT, xixT, leT, leF, ltT, ltF, ngF, psT, n1F, n2F, km2, km3, km4, km5, km10, km15, km25, kl8, kl14, kl24, kl34, kl274, kl354, kl384, kr1, kr2, kr3, kr4, kr5, kr6, kr7, kr8, kr9, kaa, lb0, lb1, lb2, lb3, lb4, lb5, lb6, lb7, li0, li1, li2, li3, li4, li5, li6, li7, true_and, and_true, Option.some.injEq, exists_eq_left', Option.toList_some, Option.toList_none, List.cons_append, List.nil_append, xcat_nil, xcat_int, xcat_ref, xcat_long, not_true, not_false_iff, if_true, if_false, and_self, and_false, false_and, or_true, true_or, or_self, z01, z10, zle8, Nat.reduceAdd, Nat.reduceLeDiff]
theorem boundM_z (h : Fw v) (h4 : xI v 280 4 = nI n) (hn : n ≤ 16) : zr 201 13 [.ref 278, .int p, .null, .null, .null, .null, .null] [] v P = P none v := by
  obtain ⟨h0, r4, r5, r6, j, k0, -⟩ := h.1.cf
  have lb := fun P => latestBound_run (u := v) (ra := 280) (p := p) (P := P) (A := fun k => xI v 280 (34 + 15 * k)) (B := fun _ => 0) ⟨j, k0⟩ h4 hn (fun k hk => ⟨rfl, by decide⟩)
  have z2 := fun z x P => boundM_z2 (p := p) (z := z) (x := x) (P := P) h h4 hn
  rcases fLat_cases (fun k => xI v 280 (34 + 15 * k)) (fun _ => 0) p 999 n with q | ⟨k, hk, q, -⟩
  · rw [q] at lb
    simp (disch := omega) only [r201_13, r201_14, r201_17, r201_18, r201_21, r201_22, r201_23, r201_24, r201_25, r201_28, r201_29, r201_32, r201_33, r201_36, r201_37, r201_40, r201_41, r201_42, r201_43, r201_44, r201_45, r201_48, h0, r4, j, k0, lb, readWhole_z h, z2, true_and, and_true, Option.some.injEq, exists_eq_left', Option.toList_some, Option.toList_none, List.cons_append, List.nil_append, xcat_nil, xcat_int, xcat_ref, xcat_long, not_true, not_false_iff, if_true, if_false, and_self, and_false, false_and, or_true, true_or, or_self, z01, z10, zle8, Nat.reduceAdd, Nat.reduceLeDiff]
  · rw [q] at lb
    simp (disch := omega) only [r201_13, r201_14, r201_17, r201_18, r201_21, r201_22, r201_23, r201_24, r201_25, r201_28, r201_29, r201_32, r201_33, r201_36, r201_37, r201_40, r201_41, r201_42, r201_43, r201_44, r201_45, r201_48, boundAt_run, h0, r4, j, k0, lb, readWhole_z h, z2, xinbT, xixT, leT, leF, ltT, ltF, ngF, psT, n1F, n2F, km2, km3, km4, km5, km10, km15, km25, kl8, kl14, kl24, kl34, kl274, kl354, kl384, kr1, kr2, kr3, kr4, kr5, kr6, kr7, kr8, kr9, kaa, lb0, lb1, lb2, lb3, lb4, lb5, lb6, lb7, li0, li1, li2, li3, li4, li5, li6, li7, true_and, and_true, Option.some.injEq, exists_eq_left', Option.toList_some, Option.toList_none, List.cons_append, List.nil_append, xcat_nil, xcat_int, xcat_ref, xcat_long, not_true, not_false_iff, if_true, if_false, and_self, and_false, false_and, or_true, true_or, or_self, z01, z10, zle8, Nat.reduceAdd, Nat.reduceLeDiff]
/-- the corners read so far -/
def Co (m v : xMem) (E nb i : Nat) : Prop := ∀ t, t < i → (xI v 280 (37 + 15 * nb + 2 * t) = xI m (E + 8) (6 * nb + t) ∧ xI v 280 (38 + 15 * nb + 2 * t) = xI m (E + 9) (6 * nb + t)) ∧ (∃ a, a ≤ 40 ∧ xI m (E + 8) (6 * nb + t) = nI a) ∧ ∃ a, a ≤ 40 ∧ xI m (E + 9) (6 * nb + t) = nI a
theorem okG.put (h : okG g E s nl np nb nc nr nh nk) (hE : E = 6 ∨ E = 34) (hk : k < 6) : okG (mPut g (E + 4) nb k x y) E s nl np nb nc nr nh nk := by
  obtain ⟨h1, h2, h3, h4, h5, h6⟩ := h
  have e0 : mPut g (E + 4) nb k x y = xsI (xsI g (E + 8) (6 * nb + k) x) (E + 9) (6 * nb + k) y := rfl
  have f : ∀ c, c ≠ E + 8 → c ≠ E + 9 → xI (mPut g (E + 4) nb k x y) c = xI g c := fun c q1 q2 => by rw [e0, xIf_sI q2, xIf_sI q1]
  refine ⟨h1.mv rfl rfl (fun c hc => f c (by omega) (by omega)), ?_, ?_, ?_, ?_, ?_⟩
  · intro b hb i hi
    rw [f (E + 7) (by omega) (by omega)] at hi
    obtain ⟨c, hc, ec⟩ := h1.2.2.2.2.2.2.2.2.2.2 b hb
    have z := h2 b hb i hi
    rw [ec, xix_nI (by omega)] at hi
    rw [e0]
    simp (disch := omega) only [xI_ne]
    exact z
  · unfold okOn
    rw [f (E + 3) (by omega) (by omega)]
    exact h3
  · unfold okRv
    rw [f (E + 18) (by omega) (by omega), f (E + 26) (by omega) (by omega)]
    exact h4
  · unfold okRm
    rw [f (E + 18) (by omega) (by omega)]
    exact h5
  · unfold okDy
    rw [f (E + 6) (by omega) (by omega), f (E + 17) (by omega) (by omega), f (E + 21) (by omega) (by omega), f (E + 22) (by omega) (by omega)]
    exact h6
theorem boundM_tail {j : Nat} {z2 : Int32} (hv : Wk m v E) (hr : Rs m v E s nl np nb nc nr nh nk) (hlt : nb < 16) (hd : ∃ a, a ≤ 999 ∧ d = nI a) (hj : j ≤ 6) (hco : Co m v E nb j) (hK : Lk2 (true, mAdd m (E + 4) nb p d (nI j)) w E P) (hf : Fm w v) : zr 201 163 [.ref 278, .int p, .int z, .int d, .int (nI (34 + 15 * nb)), .int (nI j), .int z2] [] v P := by
  have hb := hr.1.1.b
  obtain ⟨e0, e1, e2, e3, e4, -⟩ := hr.e
  obtain ⟨h0, r4, r5, r6, j0, k0, -⟩ := hv.1.1.cf
  have hfa := hv.2.1
  have hE := hr.2.1
  simp (disch := omega) only [r201_163, r201_164, r201_167, r201_170, r201_171, r201_172, r201_175, r201_177, r201_178, r201_179, r201_180, r201_183, r201_185, r201_186, r201_187, r201_188, r201_189, r201_190, r201_193, r201_195, r201_196, r201_197, r201_199, r201_200, r201_201, r201_204, r201_205, r201_206, r201_207, r201_208, r201_209, r201_210, h0, r4, j0, k0, e4, hfa, show (0 : Int32) ≤ 0 by decide, xIs_sI, xIs_sJ, xR_sI, xR_sJ, xN_sI, xN_sJ, xI_sJ, xI_ate, xI_ne, xinbT, xixT, leT, leF, ltT, ltF, ngF, psT, n1F, n2F, km2, km3, km4, km5, km10, km15, km25, kl8, kl14, kl24, kl34, kl274, kl354, kl384, kr1, kr2, kr3, kr4, kr5, kr6, kr7, kr8, kr9, kaa, lb0, lb1, lb2, lb3, lb4, lb5, lb6, lb7, li0, li1, li2, li3, li4, li5, li6, li7, true_and, and_true, Option.some.injEq, exists_eq_left', Option.toList_some, Option.toList_none, List.cons_append, List.nil_append, xcat_nil, xcat_int, xcat_ref, xcat_long, not_true, not_false_iff, if_true, if_false, and_self, and_false, false_and, or_true, true_or, or_self, z01, z10, zle8, Nat.reduceAdd, Nat.reduceLeDiff]
  refine hK.1 rfl _ s nl np (nb + 1) nc nr nh nk (hf.tr (((Fm.sI.tr Fm.sI).tr Fm.sI).tr Fm.sI)) (hv.mv rfl rfl ?_ ?_ ?_ rfl rfl ?_ ?_ ?_) ⟨?_, hE, hr.2.2.1, ?_, ?_, ?_, ?_⟩
  · unfold mAdd; simp (disch := omega) only [xIf_sI, xIf_sJ]
  · unfold mAdd; simp (disch := omega) only [xIf_sI, xIf_sJ]
  · unfold mAdd; simp (disch := omega) only [xJ_sI, xJ_ne]
  · simp (disch := omega) only [xIf_sI, xIf_sJ]
  · simp (disch := omega) only [xIf_sI, xIf_sJ]
  · simp (disch := omega) only [xJ_sI, xJ_ne]
  · exact okG.addB hr.1 hlt hd ⟨hj, rfl⟩ (fun i hi => (hco i hi).2)
  · unfold mAdd; simp (disch := omega) only [xI_ne, xI_sJ]; exact hr.2.2.2.1
  · exact cpD.addB hr.2.2.2.2.1 hr.1 hlt hj rfl (fun i hi => (hco i hi).1)
  · exact hr.2.2.2.2.2.1
  · exact hr.2.2.2.2.2.2
theorem Fz.sI (h : Fz g w) : Fz g (xsI w 280 k x) := ⟨h.1, h.2.1, by rw [xI_ne (by omega)]; exact h.2.2.1, by rw [xI_ne (by omega)]; exact h.2.2.2.1, by rw [xI_ne (by omega)]; exact h.2.2.2.2⟩
theorem Wk.sI (h : Wk g w E) : Wk g (xsI w 280 k x) E := h.mv rfl rfl rfl rfl rfl rfl rfl (by rw [xIf_sI (by omega)]) (by rw [xIf_sI (by omega)]) rfl
theorem cornM_loop (hlt : nb < 16) (hd : ∃ a, a ≤ 999 ∧ d = nI a) : ∀ r i m v, i + r = 6 → Wk m v E → Rs m v E s nl np nb nc nr nh nk → Co m v E nb i → Fm w v → Lk2 (thI (cCor E nb (nI s) r i m) fun n m => (true, mAdd m (E + 4) nb p d n)) w E P →
    zr 201 74 [.ref 278, .int p, .int z, .int d, .int (nI (34 + 15 * nb)), .int (nI i), .int 0] [] v P := by
  intro r
  induction r with
  | zero =>
    intro i m v hi hv hr hco hf hK
    have : i = 6 := by omega
    subst this
    obtain ⟨h0, -⟩ := hv.1.1.cf
    have hfa := hv.2.1
    rw [thI_t (show 0 ≤ (cCor E nb (nI s) 0 6 m).1 by show (0 : Int32) ≤ nI 6; decide)] at hK
    rw [r201_74]
    simp only [r201_75, r201_78, r201_81, r201_83, r201_86, r201_88, r201_89, r201_92, r201_94, r201_96, h0, hfa, show ¬ nI 6 < (3 : Int32) by decide, show (6 : Int32) ≤ nI 6 by decide, true_and, and_true, Option.some.injEq, exists_eq_left', Option.toList_some, Option.toList_none, List.cons_append, List.nil_append, xcat_nil, xcat_int, xcat_ref, xcat_long, not_true, not_false_iff, if_true, if_false, and_self, and_false, false_and, or_true, true_or, or_self, z01, z10, zle8, Nat.reduceAdd, Nat.reduceLeDiff]
    exact boundM_tail hv hr hlt hd (by omega) hco hK hf
  | succ r ih =>
    intro i m v hi hv hr hco hf hK
    have hb := hr.1.1.b
    obtain ⟨e0, -⟩ := hr.e
    obtain ⟨h0, r4, -, -, j0, k0, -⟩ := hv.1.1.cf
    have hfa := hv.2.1
    have hE := hr.2.1
    obtain ⟨-, m3, -⟩ := mKd_2 hv.2.2.2.2.2.1
    have e12 := hv.2.2.2.2.1
    have q6 : ¬ (6 : Int32) ≤ nI i := nI_ge (a := i) (b := 6) (by omega) (by omega)
    have q3 : (nI i < 3) = (i < 3) := propext (nI_ltI (a := i) (b := 3) (by omega) (by omega))
    unfold cCor at hK
    by_cases c : i < 3 ∨ xI m 2 5 = 2
    · rw [if_pos c] at hK
      have hgo : zr 201 74 [.ref 278, .int p, .int z, .int d, .int (nI (34 + 15 * nb)), .int (nI i), .int 0] [] v P = zr 201 107 [.ref 278, .int p, .int z, .int d, .int (nI (34 + 15 * nb)), .int (nI i), .int 0] [] v P := by
        rw [r201_74]
        by_cases c3 : i < 3
        · simp only [r201_75, r201_78, r201_81, r201_83, r201_86, r201_88, r201_89, r201_92, r201_94, r201_96, r201_99, r201_100, r201_103, r201_104, h0, hfa, q3, c3, true_and, and_true, Option.some.injEq, exists_eq_left', Option.toList_some, Option.toList_none, List.cons_append, List.nil_append, xcat_nil, xcat_int, xcat_ref, xcat_long, not_true, not_false_iff, if_true, if_false, and_self, and_false, false_and, or_true, true_or, or_self, z01, z10, zle8, Nat.reduceAdd, Nat.reduceLeDiff]
        · have t3 : xI v 278 12 = 3 := by rw [e12]; exact m3.mpr (c.resolve_left c3)
          simp only [r201_75, r201_78, r201_81, r201_83, r201_86, r201_88, r201_89, r201_92, r201_94, r201_96, r201_99, r201_100, r201_103, r201_104, h0, hfa, q3, c3, q6, t3, true_and, and_true, Option.some.injEq, exists_eq_left', Option.toList_some, Option.toList_none, List.cons_append, List.nil_append, xcat_nil, xcat_int, xcat_ref, xcat_long, not_true, not_false_iff, if_true, if_false, and_self, and_false, false_and, or_true, true_or, or_self, z01, z10, zle8, Nat.reduceAdd, Nat.reduceLeDiff]
      rw [hgo]
      simp (disch := omega) only [r201_107, r201_108, r201_111, r201_113, r201_114, r201_115, r201_116, r201_118, r201_119, r201_120, r201_121, r201_122, r201_123, r201_126, r201_127, r201_128, h0, r4, j0, k0, e0, xinbT, xixT, leT, leF, ltT, ltF, ngF, psT, n1F, n2F, km2, km3, km4, km5, km10, km15, km25, kl8, kl14, kl24, kl34, kl274, kl354, kl384, kr1, kr2, kr3, kr4, kr5, kr6, kr7, kr8, kr9, kaa, lb0, lb1, lb2, lb3, lb4, lb5, lb6, lb7, li0, li1, li2, li3, li4, li5, li6, li7, true_and, and_true, Option.some.injEq, exists_eq_left', Option.toList_some, Option.toList_none, List.cons_append, List.nil_append, xcat_nil, xcat_int, xcat_ref, xcat_long, not_true, not_false_iff, if_true, if_false, and_self, and_false, false_and, or_true, true_or, or_self, z01, z10, zle8, Nat.reduceAdd, Nat.reduceLeDiff]
      refine readWhole_rel hv (by decide) (fun u1 v1 hn1 hv1 => ?_) (fun u1 v1 hn1 hv1 => ?_)
      · rw [if_pos u1] at hK
        have hin1 := cWhole_in u1
        have kp1 : Kp m (cWhole m 0 (nI s)).2 := kp_whole
        generalize cWhole m 0 (nI s) = a1 at *
        have hr1 := hr.mv kp1 hn1.ny
        obtain ⟨g0, s4, -, -, t0, l0, -⟩ := hv1.1.1.cf
        obtain ⟨b0, -⟩ := hr1.e
        have hv1' : Wk a1.2 (xsI v1 280 (34 + 15 * nb + 3 + 2 * i) a1.1) E := hv1.sI
        have c0 : xI (xsI v1 280 (34 + 15 * nb + 3 + 2 * i) a1.1) 280 0 = nI s := by rw [xI_ne (by omega)]; exact b0
        simp (disch := omega) only [r201_131, r201_132, r201_133, r201_136, r201_138, r201_139, r201_140, r201_141, r201_143, r201_144, r201_145, r201_146, r201_147, r201_148, r201_151, r201_152, r201_153, xIs_sI, xR_sI, xN_sI, g0, s4, t0, l0, c0, xinbT, xixT, leT, leF, ltT, ltF, ngF, psT, n1F, n2F, km2, km3, km4, km5, km10, km15, km25, kl8, kl14, kl24, kl34, kl274, kl354, kl384, kr1, kr2, kr3, kr4, kr5, kr6, kr7, kr8, kr9, kaa, lb0, lb1, lb2, lb3, lb4, lb5, lb6, lb7, li0, li1, li2, li3, li4, li5, li6, li7, true_and, and_true, Option.some.injEq, exists_eq_left', Option.toList_some, Option.toList_none, List.cons_append, List.nil_append, xcat_nil, xcat_int, xcat_ref, xcat_long, not_true, not_false_iff, if_true, if_false, and_self, and_false, false_and, or_true, true_or, or_self, z01, z10, zle8, Nat.reduceAdd, Nat.reduceLeDiff]
        refine readWhole_rel hv1' (by decide) (fun u2 v2 hn2 hv2 => ?_) (fun u2 v2 hn2 hv2 => ?_)
        · rw [if_pos u2] at hK
          have hin2 := cWhole_in u2
          have kp2 : Kp a1.2 (cWhole a1.2 0 (nI s)).2 := kp_whole
          generalize cWhole a1.2 0 (nI s) = a2 at *
          obtain ⟨g0, s4, -, -, t0, l0, -⟩ := hv2.1.1.cf
          simp (disch := omega) only [r201_156, r201_157, r201_160, t0, l0, xinbT, xixT, leT, leF, ltT, ltF, ngF, psT, n1F, n2F, km2, km3, km4, km5, km10, km15, km25, kl8, kl14, kl24, kl34, kl274, kl354, kl384, kr1, kr2, kr3, kr4, kr5, kr6, kr7, kr8, kr9, kaa, lb0, lb1, lb2, lb3, lb4, lb5, lb6, lb7, li0, li1, li2, li3, li4, li5, li6, li7, true_and, and_true, Option.some.injEq, exists_eq_left', Option.toList_some, Option.toList_none, List.cons_append, List.nil_append, xcat_nil, xcat_int, xcat_ref, xcat_long, not_true, not_false_iff, if_true, if_false, and_self, and_false, false_and, or_true, true_or, or_self, z01, z10, zle8, Nat.reduceAdd, Nat.reduceLeDiff]
          have em : xI (xsI v2 280 (34 + 15 * nb + 4 + 2 * i) a2.1) 280 = xI (xsI (xsI v1 280 (34 + 15 * nb + 3 + 2 * i) a1.1) 280 (34 + 15 * nb + 4 + 2 * i) a2.1) 280 := by
            funext t
            rw [xI_sI, xI_sI, hn2.ny.f (by omega)]
          have hr2 : Rs a2.2 v1 E s nl np nb nc nr nh nk := hr1.mv kp2 Ny.rf
          have e0' : mPut a2.2 (E + 4) nb i a1.1 a2.1 = xsI (xsI a2.2 (E + 8) (6 * nb + i) a1.1) (E + 9) (6 * nb + i) a2.1 := rfl
          refine ih (i + 1) (mPut a2.2 (E + 4) nb i a1.1 a2.1) _ (by omega) (hv2.mv rfl rfl ?_ ?_ rfl rfl rfl ?_ ?_ rfl) ⟨hr2.1.put hE (by omega), hE, hr2.2.2.1, ?_, ?_, ?_, ?_⟩ ?_ (hf.tr (hn1.fm.tr (Fm.sI.tr (hn2.fm.tr Fm.sI)))) hK
          · rw [e0', xIf_sI (by omega), xIf_sI (by omega)]
          · rw [e0', xIf_sI (by omega), xIf_sI (by omega)]
          · rw [xIf_sI (by omega)]
          · rw [xIf_sI (by omega)]
          · rw [e0', xI_ne (by omega), xI_ne (by omega)]
            exact hr2.2.2.2.1
          · rw [em]
            exact cpD.put hr2.2.2.2.2.1 hr2.1 hlt (by omega)
          · intro t ht
            have z1 := hr2.2.2.2.2.2.1 t ht
            rw [xJ_sI, hn2.2.2.2 281 t (by omega)]
            exact z1
          · intro t ht
            have z1 := hr2.2.2.2.2.2.2 t ht
            rw [xJ_sI, hn2.2.2.2 282 t (by omega)]
            exact z1
          · intro t ht
            rw [em, e0']
            by_cases e : t = i
            · subst e
              simp (disch := omega) only [xI_ate, xI_ne, and_self, true_and]
              obtain ⟨a, ha, ea⟩ := i32_le0 (n := s) hin1.1 hin1.2 (by omega)
              obtain ⟨b, hb', eb⟩ := i32_le0 (n := s) hin2.1 hin2.2 (by omega)
              exact ⟨⟨a, by omega, ea⟩, ⟨b, by omega, eb⟩⟩
            · have z1 := hco t (by omega)
              have k1 := kp1.tr kp2
              rw [← hn1.ny.f (c := 280) (by omega), ← k1.f (c := E + 8) (by omega) (by omega), ← k1.f (c := E + 9) (by omega) (by omega)] at z1
              simp (disch := omega) only [xI_ate, xI_ne]
              exact z1
        · rw [if_neg u2, thI_f (show ¬ (0 : Int32) ≤ -1 by decide)] at hK
          have hz := hv2.sI (k := 34 + 15 * nb + 4 + 2 * i) (x := 0)
          obtain ⟨g0, s4, -, -, t0, l0, -⟩ := hv2.1.cf
          simp (disch := omega) only [r201_156, r201_157, r201_160, t0, l0, r201_74, r201_75, r201_78, r201_163, r201_164, r201_167, r201_170, hz.1.1, hz.fw.nz.1, hz.fw.nz.2, xinbT, xixT, leT, leF, ltT, ltF, ngF, psT, n1F, n2F, km2, km3, km4, km5, km10, km15, km25, kl8, kl14, kl24, kl34, kl274, kl354, kl384, kr1, kr2, kr3, kr4, kr5, kr6, kr7, kr8, kr9, kaa, lb0, lb1, lb2, lb3, lb4, lb5, lb6, lb7, li0, li1, li2, li3, li4, li5, li6, li7, true_and, and_true, Option.some.injEq, exists_eq_left', Option.toList_some, Option.toList_none, List.cons_append, List.nil_append, xcat_nil, xcat_int, xcat_ref, xcat_long, not_true, not_false_iff, if_true, if_false, and_self, and_false, false_and, or_true, true_or, or_self, z01, z10, zle8, Nat.reduceAdd, Nat.reduceLeDiff]
          exact hK.2 rfl _ (hf.tr (hn1.fm.tr (Fm.sI.tr (hn2.fm.tr Fm.sI)))) hz
      · rw [if_neg u1, thI_f (show ¬ (0 : Int32) ≤ -1 by decide)] at hK
        have hr1 := hr.mv (kp_whole (lo := 0) (hi := nI s)) hn1
        obtain ⟨b0, -⟩ := hr1.e
        have hz1 := hv1.sI (k := 34 + 15 * nb + 3 + 2 * i) (x := 0)
        have hz := hz1.sI (k := 34 + 15 * nb + 4 + 2 * i) (x := 0)
        obtain ⟨g0, s4, -, -, t0, l0, -⟩ := hv1.1.cf
        have c0 : xI (xsI v1 280 (34 + 15 * nb + 3 + 2 * i) 0) 280 0 = nI s := by rw [xI_ne (by omega)]; exact b0
        simp (disch := omega) only [r201_131, r201_132, r201_133, r201_136, r201_138, r201_139, r201_140, r201_141, r201_143, r201_144, r201_145, r201_146, r201_147, r201_148, r201_151, r201_152, r201_153, r201_156, r201_157, r201_160, xIs_sI, xR_sI, xN_sI, g0, s4, t0, l0, c0, readWhole_z hz1.fw, r201_74, r201_75, r201_78, r201_163, r201_164, r201_167, r201_170, hz.fw.nz.1, hz.fw.nz.2, xinbT, xixT, leT, leF, ltT, ltF, ngF, psT, n1F, n2F, km2, km3, km4, km5, km10, km15, km25, kl8, kl14, kl24, kl34, kl274, kl354, kl384, kr1, kr2, kr3, kr4, kr5, kr6, kr7, kr8, kr9, kaa, lb0, lb1, lb2, lb3, lb4, lb5, lb6, lb7, li0, li1, li2, li3, li4, li5, li6, li7, true_and, and_true, Option.some.injEq, exists_eq_left', Option.toList_some, Option.toList_none, List.cons_append, List.nil_append, xcat_nil, xcat_int, xcat_ref, xcat_long, not_true, not_false_iff, if_true, if_false, and_self, and_false, false_and, or_true, true_or, or_self, z01, z10, zle8, Nat.reduceAdd, Nat.reduceLeDiff]
        exact hK.2 rfl _ (hf.tr (hn1.fm.tr (Fm.sI.tr Fm.sI))) hz
    · rw [if_neg c, thI_t (show 0 ≤ (nI i, m).1 from nI_pos' (by omega))] at hK
      have c3 : ¬ i < 3 := fun q => c (Or.inl q)
      have t3 : ¬ xI v 278 12 = 3 := by rw [e12]; exact fun q => c (Or.inr (m3.mp q))
      rw [r201_74]
      simp only [r201_75, r201_78, r201_81, r201_83, r201_86, r201_88, r201_89, r201_92, r201_94, r201_96, r201_99, r201_100, r201_103, r201_104, h0, hfa, q3, c3, q6, t3, true_and, and_true, Option.some.injEq, exists_eq_left', Option.toList_some, Option.toList_none, List.cons_append, List.nil_append, xcat_nil, xcat_int, xcat_ref, xcat_long, not_true, not_false_iff, if_true, if_false, and_self, and_false, false_and, or_true, true_or, or_self, z01, z10, zle8, Nat.reduceAdd, Nat.reduceLeDiff]
      exact boundM_tail hv hr hlt hd (by omega) hco hK hf
theorem boundM (h : Wk g w E) (hr : Rs g w E s nl np nb nc nr nh nk) (hK : Lk2 (thW (cStart g (nI nb) 16) (fun m => cBound m E np nb s)) w E P) : zr 201 0 [.ref 278, .null, .null, .null, .null, .null, .null] [] w P := by
  have hb := hr.1.1.b
  obtain ⟨e0, e1, e2, e3, e4, e5, -⟩ := hr.e
  have h14 := hr.2.2.2.1
  simp only [r201_0, r201_1, r201_2, r201_4, h.1.1.1, true_and, and_true, Option.some.injEq, exists_eq_left', Option.toList_some, Option.toList_none, List.cons_append, List.nil_append, xcat_nil, xcat_int, xcat_ref, xcat_long, not_true, not_false_iff, if_true, if_false, and_self, and_false, false_and, or_true, true_or, or_self, z01, z10, zle8, Nat.reduceAdd, Nat.reduceLeDiff]
  refine begins_rel (k := 4) (m := 16) h hr (by omega) e4 hb.2.2.2.1 (by omega) (fun hlt v hn hv => ?_) (fun hge v hn hv => ?_)
  · rw [show (16 : Int32) = nI 16 from rfl, cStart_go h14 hlt (by omega), thW_t rfl] at hK
    have hK : Lk2 (cBound (nxt g) E np nb s) w E P := hK
    unfold cBound at hK
    have hr1 := hr.mv kp_nxt hn.ny
    simp only [r201_7, r201_8, r201_9, hv.1.1.1, true_and, and_true, Option.some.injEq, exists_eq_left', Option.toList_some, Option.toList_none, List.cons_append, List.nil_append, xcat_nil, xcat_int, xcat_ref, xcat_long, not_true, not_false_iff, if_true, if_false, and_self, and_false, false_and, or_true, true_or, or_self, z01, z10, zle8, Nat.reduceAdd, Nat.reduceLeDiff]
    refine readKnownP_rel hv hr1 (fun q hi v2 hn2 hv2 => ?_) (fun q v2 hn2 hv2 => ?_)
    · rw [thI_t q] at hK
      have kpN : Kp (nxt g) (cName (nxt g) 5 np).2 := kp_name
      generalize cName (nxt g) 5 np = o1 at *
      have hr2 := hr1.mv kpN hn2.ny
      simp only [r201_12, true_and, and_true, Option.some.injEq, exists_eq_left', Option.toList_some, Option.toList_none, List.cons_append, List.nil_append, xcat_nil, xcat_int, xcat_ref, xcat_long, not_true, not_false_iff, if_true, if_false, and_self, and_false, false_and, or_true, true_or, or_self, z01, z10, zle8, Nat.reduceAdd, Nat.reduceLeDiff]
      refine boundM_mid hv2 hr2 (fun z => ?_)
      have hlo := fNf_ok (p := o1.1) hr2.1
      generalize fNf (xI o1.2 (E + 5)) (xI o1.2 (E + 6)) o1.1 nb = lo at *
      simp only [r201_45, r201_48, hv2.1.1.1, true_and, and_true, Option.some.injEq, exists_eq_left', Option.toList_some, Option.toList_none, List.cons_append, List.nil_append, xcat_nil, xcat_int, xcat_ref, xcat_long, not_true, not_false_iff, if_true, if_false, and_self, and_false, false_and, or_true, true_or, or_self, z01, z10, zle8, Nat.reduceAdd, Nat.reduceLeDiff]
      refine readWhole_rel hv2 hlo (fun q4 v4 hn4 hv4 => ?_) (fun q4 v4 hn4 hv4 => ?_)
      · rw [thI_t q4] at hK
        have hin := cWhole_in q4
        have kpW : Kp o1.2 (cWhole o1.2 lo 999).2 := kp_whole
        generalize cWhole o1.2 lo 999 = a4 at *
        have hr4 := hr2.mv kpW hn4.ny
        have hd := i32_le0 (n := 999) q4 hin.2 (by omega)
        obtain ⟨-, -, -, -, e4, -⟩ := hr4.e
        obtain ⟨h0, r4, -, -, j0, k0, -⟩ := hv4.1.1.cf
        have hf := hn.fm.tr (hn2.fm.tr hn4.fm)
        simp (disch := omega) only [r201_51, r201_52, r201_53, r201_56, r201_57, r201_58, r201_61, r201_63, r201_64, r201_66, r201_67, r201_69, boundAt_run, h0, r4, j0, k0, e4, xinbT, xixT, leT, leF, ltT, ltF, ngF, psT, n1F, n2F, km2, km3, km4, km5, km10, km15, km25, kl8, kl14, kl24, kl34, kl274, kl354, kl384, kr1, kr2, kr3, kr4, kr5, kr6, kr7, kr8, kr9, kaa, lb0, lb1, lb2, lb3, lb4, lb5, lb6, lb7, li0, li1, li2, li3, li4, li5, li6, li7, true_and, and_true, Option.some.injEq, exists_eq_left', Option.toList_some, Option.toList_none, List.cons_append, List.nil_append, xcat_nil, xcat_int, xcat_ref, xcat_long, not_true, not_false_iff, if_true, if_false, and_self, and_false, false_and, or_true, true_or, or_self, z01, z10, zle8, Nat.reduceAdd, Nat.reduceLeDiff]
        by_cases c2 : cSay a4.2 9 = true
        · rw [if_pos c2] at hK
          refine takes_t (r := 1000009) (k := 9) rfl (by omega) hv4 c2 (fun v5 hn5 hv5 => ?_)
          have hr5 := hr4.mv kp_nxt hn5.ny
          obtain ⟨h0, -⟩ := hv5.1.1.cf
          simp only [r201_72, r201_74, r201_75, r201_78, r201_81, r201_83, h0, hv5.2.1, true_and, and_true, Option.some.injEq, exists_eq_left', Option.toList_some, Option.toList_none, List.cons_append, List.nil_append, xcat_nil, xcat_int, xcat_ref, xcat_long, not_true, not_false_iff, if_true, if_false, and_self, and_false, false_and, or_true, true_or, or_self, z01, z10, zle8, Nat.reduceAdd, Nat.reduceLeDiff]
          exact boundM_tail (j := 0) hv5 hr5 hlt hd (by omega) (fun t ht => absurd ht (by omega)) hK (hf.tr hn5.fm)
        · rw [if_neg c2] at hK
          simp only [r201_72, takes_f (r := 1000009) (k := 9) rfl (by omega) hv4 c2, true_and, and_true, Option.some.injEq, exists_eq_left', Option.toList_some, Option.toList_none, List.cons_append, List.nil_append, xcat_nil, xcat_int, xcat_ref, xcat_long, not_true, not_false_iff, if_true, if_false, and_self, and_false, false_and, or_true, true_or, or_self, z01, z10, zle8, Nat.reduceAdd, Nat.reduceLeDiff]
          exact cornM_loop hlt hd 6 0 a4.2 v4 (by omega) hv4 hr4 (fun t ht => absurd ht (by omega)) hf hK
      · rw [thI_f q4] at hK
        have hr4 := hr2.mv (kp_whole (lo := lo) (hi := 999)) hn4
        obtain ⟨-, -, -, -, e4, -⟩ := hr4.e
        simp only [boundM_z2 hv4.fw e4 hb.2.2.2.1, true_and, and_true, Option.some.injEq, exists_eq_left', Option.toList_some, Option.toList_none, List.cons_append, List.nil_append, xcat_nil, xcat_int, xcat_ref, xcat_long, not_true, not_false_iff, if_true, if_false, and_self, and_false, false_and, or_true, true_or, or_self, z01, z10, zle8, Nat.reduceAdd, Nat.reduceLeDiff]
        exact hK.2 rfl v4 (hn.fm.tr (hn2.fm.tr hn4.fm)) hv4
    · rw [thI_f q] at hK
      have hr2 := hr1.mv (kp_name (A := 5) (n := np)) hn2
      obtain ⟨-, -, -, -, e4, -⟩ := hr2.e
      simp only [r201_12, boundM_z hv2.fw e4 hb.2.2.2.1, true_and, and_true, Option.some.injEq, exists_eq_left', Option.toList_some, Option.toList_none, List.cons_append, List.nil_append, xcat_nil, xcat_int, xcat_ref, xcat_long, not_true, not_false_iff, if_true, if_false, and_self, and_false, false_and, or_true, true_or, or_self, z01, z10, zle8, Nat.reduceAdd, Nat.reduceLeDiff]
      exact hK.2 rfl v2 (hn.fm.tr hn2.fm) hv2
  · rw [show (16 : Int32) = nI 16 from rfl, cStart_full h14 hge (by omega), thW_f (r := (false, flt g 5)) Bool.false_ne_true] at hK
    have hr2 := hr.mv (kp_flt (x := 5)) hn
    obtain ⟨-, -, -, -, e4, -⟩ := hr2.e
    simp only [r201_7, r201_8, r201_9, r201_12, hv.1.1, hv.fw.nz.1, hv.fw.nz.2, next_z hv.fw, flaw_z hv.fw, readWhole_z hv.fw, readKnown_z hv.fw, known_z hv.fw, readFresh_z hv.fw, takes_z (r := 1000007) (k := 7) rfl (by omega) hv.fw, takes_z (r := 1000008) (k := 8) rfl (by omega) hv.fw, takes_z (r := 1000009) (k := 9) rfl (by omega) hv.fw, readPart_z (r := 1000010) (k := 10) rfl (by omega) hv.fw, readPart_z (r := 1000011) (k := 11) rfl (by omega) hv.fw, readPart_z (r := 1000012) (k := 12) rfl (by omega) hv.fw, readPart_z (r := 1000013) (k := 13) rfl (by omega) hv.fw, boundM_z hv.fw e4 hb.2.2.2.1, true_and, and_true, Option.some.injEq, exists_eq_left', Option.toList_some, Option.toList_none, List.cons_append, List.nil_append, xcat_nil, xcat_int, xcat_ref, xcat_long, not_true, not_false_iff, if_true, if_false, and_self, and_false, false_and, or_true, true_or, or_self, z01, z10, zle8, Nat.reduceAdd, Nat.reduceLeDiff]
    exact hK.2 rfl v hn.fm hv
theorem boundM_no (h : Wk g w E) (hz : ∀ i, i < 402 → xI w 280 i = 0) (hP : ∀ v, Ny w v → Fz (flt g 6) v → P none v) : zr 201 0 [.ref 278, .null, .null, .null, .null, .null, .null] [] w P := by
  simp only [r201_0, r201_1, r201_2, r201_4, h.1.1.1, true_and, and_true, Option.some.injEq, exists_eq_left', Option.toList_some, Option.toList_none, List.cons_append, List.nil_append, xcat_nil, xcat_int, xcat_ref, xcat_long, not_true, not_false_iff, if_true, if_false, and_self, and_false, false_and, or_true, true_or, or_self, z01, z10, zle8, Nat.reduceAdd, Nat.reduceLeDiff]
  refine begins_no (k := 4) (m := 16) h hz (by omega) (by omega) (by omega) (fun v hn hv => ?_)
  have e4 : xI v 280 4 = nI 0 := by rw [hn.f (by omega)]; exact hz 4 (by omega)
  simp only [r201_7, r201_8, r201_9, r201_12, hv.1.1, hv.fw.nz.1, hv.fw.nz.2, next_z hv.fw, flaw_z hv.fw, readWhole_z hv.fw, readKnown_z hv.fw, known_z hv.fw, readFresh_z hv.fw, takes_z (r := 1000007) (k := 7) rfl (by omega) hv.fw, takes_z (r := 1000008) (k := 8) rfl (by omega) hv.fw, takes_z (r := 1000009) (k := 9) rfl (by omega) hv.fw, readPart_z (r := 1000010) (k := 10) rfl (by omega) hv.fw, readPart_z (r := 1000011) (k := 11) rfl (by omega) hv.fw, readPart_z (r := 1000012) (k := 12) rfl (by omega) hv.fw, readPart_z (r := 1000013) (k := 13) rfl (by omega) hv.fw, boundM_z hv.fw e4 (by omega), true_and, and_true, Option.some.injEq, exists_eq_left', Option.toList_some, Option.toList_none, List.cons_append, List.nil_append, xcat_nil, xcat_int, xcat_ref, xcat_long, not_true, not_false_iff, if_true, if_false, and_self, and_false, false_and, or_true, true_or, or_self, z01, z10, zle8, Nat.reduceAdd, Nat.reduceLeDiff]
  exact hP v hn hv
/-! the desk's own line -/
theorem deskM (h : Wk g w E) (hd : sDk g E) (hE : E = 6 ∨ E = 34) (hz : ∀ i, i < 402 → xI w 280 i = 0) (hK : Lk2 (cDesk g E) w E P) : zr 195 0 [.ref 278, .null, .null] [] w P := by
  obtain ⟨h0, r4, -, -, j0, k0, -⟩ := h.1.1.cf
  have e0 := hz 0 (by omega)
  unfold cDesk at hK
  simp (disch := omega) only [r195_0, r195_1, r195_4, r195_5, r195_6, r195_9, r195_10, r195_11, r195_14, r195_15, h0, r4, j0, k0, e0, show (0 : Int32) ≤ 0 by decide, xinbT, xixT, leT, leF, ltT, ltF, ngF, psT, n1F, n2F, km2, km3, km4, km5, km10, km15, km25, kl8, kl14, kl24, kl34, kl274, kl354, kl384, kr1, kr2, kr3, kr4, kr5, kr6, kr7, kr8, kr9, kaa, lb0, lb1, lb2, lb3, lb4, lb5, lb6, lb7, li0, li1, li2, li3, li4, li5, li6, li7, true_and, and_true, Option.some.injEq, exists_eq_left', Option.toList_some, Option.toList_none, List.cons_append, List.nil_append, xcat_nil, xcat_int, xcat_ref, xcat_long, not_true, not_false_iff, if_true, if_false, and_self, and_false, false_and, or_true, true_or, or_self, z01, z10, zle8, Nat.reduceAdd, Nat.reduceLeDiff]
  refine h.next (fun v hn hv => ?_)
  have k1 : Kp g (nxt g) := kp_nxt
  simp only [r195_18, r195_19, r195_21, r195_22, r195_24, hv.1.1.1, true_and, and_true, Option.some.injEq, exists_eq_left', Option.toList_some, Option.toList_none, List.cons_append, List.nil_append, xcat_nil, xcat_int, xcat_ref, xcat_long, not_true, not_false_iff, if_true, if_false, and_self, and_false, false_and, or_true, true_or, or_self, z01, z10, zle8, Nat.reduceAdd, Nat.reduceLeDiff]
  refine readPart_rel (r := 1000010) (k := 10) rfl (by omega) hv (by decide) (fun q1 q2 v3 hn3 hv3 => ?_) (fun q1 v3 hn3 hv3 => ?_) (fun q1 q2 v3 hn3 hv3 => ?_)
  · rw [thW_t q1, thI_t q2] at hK
    have hin := cWhole_in q2
    have kpW : Kp (nxt g) (cWhole (cWord (nxt g) 10).2 2 40).2 := kp_word.tr kp_whole
    generalize cWhole (cWord (nxt g) 10).2 2 40 = a3 at *
    have k3 := k1.tr kpW
    simp only [r195_27, r195_28, r195_29, r195_31, r195_32, r195_33, hv3.1.1.1, true_and, and_true, Option.some.injEq, exists_eq_left', Option.toList_some, Option.toList_none, List.cons_append, List.nil_append, xcat_nil, xcat_int, xcat_ref, xcat_long, not_true, not_false_iff, if_true, if_false, and_self, and_false, false_and, or_true, true_or, or_self, z01, z10, zle8, Nat.reduceAdd, Nat.reduceLeDiff]
    refine readPart_rel (r := 1000011) (k := 11) rfl (by omega) hv3 (by decide) (fun q4 q5 v5 hn5 hv5 => ?_) (fun q4 v5 hn5 hv5 => ?_) (fun q4 q5 v5 hn5 hv5 => ?_)
    · rw [thW_t q4, thI_t q5] at hK
      have hin5 := cWhole_in q5
      have kpW : Kp a3.2 (cWhole (cWord a3.2 11).2 1 4).2 := kp_word.tr kp_whole
      generalize cWhole (cWord a3.2 11).2 1 4 = a5 at *
      have k5 := k3.tr kpW
      obtain ⟨h0, r4, -, -, j0, k0, -⟩ := hv5.1.1.cf
      have hny := hn.ny.tr (hn3.ny.tr hn5.ny)
      obtain ⟨s, hs, es⟩ := i32_le0 (n := 40) q2 hin.2 (by omega)
      obtain ⟨nl, hl, el⟩ := i32_le0 (n := 4) q5 hin5.2 (by omega)
      have s2 : 2 ≤ s := by
        have z := hin.1
        rw [es, i32_le, nI_toI (by omega)] at z
        have e2 : (2 : Int32).toInt = 2 := rfl
        omega
      simp (disch := omega) only [r195_36, r195_37, r195_38, r195_41, r195_44, r195_45, r195_46, r195_49, r195_50, r195_51, r195_52, r195_53, r195_56, r195_57, r195_58, r195_59, h0, r4, j0, k0, hv5.2.1, show (0 : Int32) ≤ 0 by decide, xIs_sI, xR_sI, xN_sI, xinbT, xixT, leT, leF, ltT, ltF, ngF, psT, n1F, n2F, km2, km3, km4, km5, km10, km15, km25, kl8, kl14, kl24, kl34, kl274, kl354, kl384, kr1, kr2, kr3, kr4, kr5, kr6, kr7, kr8, kr9, kaa, lb0, lb1, lb2, lb3, lb4, lb5, lb6, lb7, li0, li1, li2, li3, li4, li5, li6, li7, true_and, and_true, Option.some.injEq, exists_eq_left', Option.toList_some, Option.toList_none, List.cons_append, List.nil_append, xcat_nil, xcat_int, xcat_ref, xcat_long, not_true, not_false_iff, if_true, if_false, and_self, and_false, false_and, or_true, true_or, or_self, z01, z10, zle8, Nat.reduceAdd, Nat.reduceLeDiff]
      have hok := okG_beg (s := s) (nl := nl) (k5.dk hd) hs hl
      have zz : ∀ i, i < 402 → xI v5 280 i = 0 := fun i hi => by rw [hny.f (by omega)]; exact hz i hi
      rw [es, el] at hK ⊢
      have hE' := hE
      have f1 : ∀ c, c ≠ 1 → xI (xsI (mBeg a5.2 E (nI s) (nI nl)) 1 4 1) c = xI (mBeg a5.2 E (nI s) (nI nl)) c := fun c hc => xIf_sI hc
      refine hK.1 rfl _ s nl 0 0 0 0 0 0 (hny.fm.tr (Fm.sI.tr Fm.sI)) (hv5.mv rfl rfl ?_ ?_ rfl rfl rfl ?_ ?_ rfl) ⟨hok.mv rfl rfl (fun c _ _ => f1 c (by omega)), hE, s2, ?_, ⟨⟨?_, ?_, ?_, ?_, ?_, ?_, ?_, ?_⟩, fun c hc => absurd hc (by omega), fun c hc => absurd hc (by omega), fun c hc => absurd hc (by omega), fun c hc => absurd hc (by omega), fun c hc => absurd hc (by omega), fun c hc => absurd hc (by omega)⟩, fun i hi => absurd hi (by omega), fun i hi => absurd hi (by omega)⟩
      · show xI (xsI (mBeg a5.2 E (nI s) (nI nl)) 1 4 1) 2 = _
        unfold mBeg
        simp (disch := omega) only [xIf_sI]
      · show xI (xsI (mBeg a5.2 E (nI s) (nI nl)) 1 4 1) 3 = _
        unfold mBeg
        simp (disch := omega) only [xIf_sI]
      · simp (disch := omega) only [xIf_sI]
      · simp (disch := omega) only [xIf_sI]
      · exact xI_at
      all_goals
        show _ = xI (xsI (mBeg a5.2 E (nI s) (nI nl)) 1 4 1) _ _
        rw [f1 _ (by omega)]
        unfold mBeg
        simp (disch := omega) only [xI_ate, xI_ne, zz]
    · rw [thW_f q4] at hK
      simp only [r195_36, r195_37, r195_38, r195_41, r195_44, hv5.1.1, hv5.fw.nz.1, hv5.fw.nz.2, next_z hv5.fw, flaw_z hv5.fw, readWhole_z hv5.fw, readKnown_z hv5.fw, known_z hv5.fw, readFresh_z hv5.fw, takes_z (r := 1000007) (k := 7) rfl (by omega) hv5.fw, takes_z (r := 1000008) (k := 8) rfl (by omega) hv5.fw, takes_z (r := 1000009) (k := 9) rfl (by omega) hv5.fw, readPart_z (r := 1000010) (k := 10) rfl (by omega) hv5.fw, readPart_z (r := 1000011) (k := 11) rfl (by omega) hv5.fw, readPart_z (r := 1000012) (k := 12) rfl (by omega) hv5.fw, readPart_z (r := 1000013) (k := 13) rfl (by omega) hv5.fw, true_and, and_true, Option.some.injEq, exists_eq_left', Option.toList_some, Option.toList_none, List.cons_append, List.nil_append, xcat_nil, xcat_int, xcat_ref, xcat_long, not_true, not_false_iff, if_true, if_false, and_self, and_false, false_and, or_true, true_or, or_self, z01, z10, zle8, Nat.reduceAdd, Nat.reduceLeDiff]
      exact hK.2 rfl v5 (hn.fm.tr (hn3.fm.tr hn5.fm)) hv5
    · rw [thW_t q4, thI_f q5] at hK
      simp only [r195_36, r195_37, r195_38, r195_41, r195_44, hv5.1.1, hv5.fw.nz.1, hv5.fw.nz.2, next_z hv5.fw, flaw_z hv5.fw, readWhole_z hv5.fw, readKnown_z hv5.fw, known_z hv5.fw, readFresh_z hv5.fw, takes_z (r := 1000007) (k := 7) rfl (by omega) hv5.fw, takes_z (r := 1000008) (k := 8) rfl (by omega) hv5.fw, takes_z (r := 1000009) (k := 9) rfl (by omega) hv5.fw, readPart_z (r := 1000010) (k := 10) rfl (by omega) hv5.fw, readPart_z (r := 1000011) (k := 11) rfl (by omega) hv5.fw, readPart_z (r := 1000012) (k := 12) rfl (by omega) hv5.fw, readPart_z (r := 1000013) (k := 13) rfl (by omega) hv5.fw, true_and, and_true, Option.some.injEq, exists_eq_left', Option.toList_some, Option.toList_none, List.cons_append, List.nil_append, xcat_nil, xcat_int, xcat_ref, xcat_long, not_true, not_false_iff, if_true, if_false, and_self, and_false, false_and, or_true, true_or, or_self, z01, z10, zle8, Nat.reduceAdd, Nat.reduceLeDiff]
      exact hK.2 rfl v5 (hn.fm.tr (hn3.fm.tr hn5.fm)) hv5
  · rw [thW_f q1] at hK
    simp only [r195_27, r195_28, r195_29, r195_31, r195_32, r195_33, r195_36, r195_37, r195_38, r195_41, r195_44, hv3.1.1, hv3.fw.nz.1, hv3.fw.nz.2, next_z hv3.fw, flaw_z hv3.fw, readWhole_z hv3.fw, readKnown_z hv3.fw, known_z hv3.fw, readFresh_z hv3.fw, takes_z (r := 1000007) (k := 7) rfl (by omega) hv3.fw, takes_z (r := 1000008) (k := 8) rfl (by omega) hv3.fw, takes_z (r := 1000009) (k := 9) rfl (by omega) hv3.fw, readPart_z (r := 1000010) (k := 10) rfl (by omega) hv3.fw, readPart_z (r := 1000011) (k := 11) rfl (by omega) hv3.fw, readPart_z (r := 1000012) (k := 12) rfl (by omega) hv3.fw, readPart_z (r := 1000013) (k := 13) rfl (by omega) hv3.fw, true_and, and_true, Option.some.injEq, exists_eq_left', Option.toList_some, Option.toList_none, List.cons_append, List.nil_append, xcat_nil, xcat_int, xcat_ref, xcat_long, not_true, not_false_iff, if_true, if_false, and_self, and_false, false_and, or_true, true_or, or_self, z01, z10, zle8, Nat.reduceAdd, Nat.reduceLeDiff]
    exact hK.2 rfl v3 (hn.fm.tr hn3.fm) hv3
  · rw [thW_t q1, thI_f q2] at hK
    simp only [r195_27, r195_28, r195_29, r195_31, r195_32, r195_33, r195_36, r195_37, r195_38, r195_41, r195_44, hv3.1.1, hv3.fw.nz.1, hv3.fw.nz.2, next_z hv3.fw, flaw_z hv3.fw, readWhole_z hv3.fw, readKnown_z hv3.fw, known_z hv3.fw, readFresh_z hv3.fw, takes_z (r := 1000007) (k := 7) rfl (by omega) hv3.fw, takes_z (r := 1000008) (k := 8) rfl (by omega) hv3.fw, takes_z (r := 1000009) (k := 9) rfl (by omega) hv3.fw, readPart_z (r := 1000010) (k := 10) rfl (by omega) hv3.fw, readPart_z (r := 1000011) (k := 11) rfl (by omega) hv3.fw, readPart_z (r := 1000012) (k := 12) rfl (by omega) hv3.fw, readPart_z (r := 1000013) (k := 13) rfl (by omega) hv3.fw, true_and, and_true, Option.some.injEq, exists_eq_left', Option.toList_some, Option.toList_none, List.cons_append, List.nil_append, xcat_nil, xcat_int, xcat_ref, xcat_long, not_true, not_false_iff, if_true, if_false, and_self, and_false, false_and, or_true, true_or, or_self, z01, z10, zle8, Nat.reduceAdd, Nat.reduceLeDiff]
    exact hK.2 rfl v3 (hn.fm.tr hn3.fm) hv3
theorem deskM_again (h : Wk g w E) (hr : Rs g w E s nl np nb nc nr nh nk) (hP : ∀ v, Ny w v → Fz (flt g 3) v → P none v) : zr 195 0 [.ref 278, .null, .null] [] w P := by
  have hb := hr.1.1.b
  obtain ⟨h0, r4, -, -, j0, k0, -⟩ := h.1.1.cf
  obtain ⟨e0, -⟩ := hr.e
  have s0 : ¬ nI s ≤ 0 := fun q => by
    rw [i32_le, nI_toI (by omega)] at q
    have e0 : (0 : Int32).toInt = 0 := rfl
    have := hr.2.2.1
    omega
  have zz := h.fz (x := 3) (by decide)
  simp (disch := omega) only [r195_0, r195_1, r195_4, r195_5, r195_6, r195_9, r195_10, r195_11, r195_14, r195_15, r195_18, r195_19, r195_21, r195_22, r195_24, r195_27, r195_28, r195_29, r195_31, r195_32, r195_33, r195_36, r195_37, r195_38, r195_41, r195_44, h0, r4, j0, k0, e0, s0, flaw_0 h0 h.2.1, zz.1.1, zz.fw.nz.1, zz.fw.nz.2, next_z zz.fw, flaw_z zz.fw, readWhole_z zz.fw, readKnown_z zz.fw, known_z zz.fw, readFresh_z zz.fw, takes_z (r := 1000007) (k := 7) rfl (by omega) zz.fw, takes_z (r := 1000008) (k := 8) rfl (by omega) zz.fw, takes_z (r := 1000009) (k := 9) rfl (by omega) zz.fw, readPart_z (r := 1000010) (k := 10) rfl (by omega) zz.fw, readPart_z (r := 1000011) (k := 11) rfl (by omega) zz.fw, readPart_z (r := 1000012) (k := 12) rfl (by omega) zz.fw, readPart_z (r := 1000013) (k := 13) rfl (by omega) zz.fw, xinbT, xixT, leT, leF, ltT, ltF, ngF, psT, n1F, n2F, km2, km3, km4, km5, km10, km15, km25, kl8, kl14, kl24, kl34, kl274, kl354, kl384, kr1, kr2, kr3, kr4, kr5, kr6, kr7, kr8, kr9, kaa, lb0, lb1, lb2, lb3, lb4, lb5, lb6, lb7, li0, li1, li2, li3, li4, li5, li6, li7, true_and, and_true, Option.some.injEq, exists_eq_left', Option.toList_some, Option.toList_none, List.cons_append, List.nil_append, xcat_nil, xcat_int, xcat_ref, xcat_long, not_true, not_false_iff, if_true, if_false, and_self, and_false, false_and, or_true, true_or, or_self, z01, z10, zle8, Nat.reduceAdd, Nat.reduceLeDiff]
  exact hP _ ny_fl zz
end
