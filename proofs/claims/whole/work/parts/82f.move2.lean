/-! MOVE: the state behind it -/
section
variable {u w g v : xMem} {P : Option Value → xMem → Prop} {D E s nl np nb nc nr nh nk n nf na f b cc B : Nat} {p d x y c dx dy z : Int32} {op : Bool}
/-- the class with a bound moved -/
def cMv (u : xMem) (D b nb cc na : Nat) (p d dx dy : Int32) : xMem := xsI (mKeep (mAdd (mvM u (D + 4) b nb dx dy cc) (D + 4) nb p d (nI cc)) na 3 0 0) 0 6 0
theorem cMv_f (hb : b < nb) (h6 : cc ≤ 6) (h8 : na ≤ 8) {a j : Nat} (h1 : a < D + 4 ∨ D + 9 < a) (h2 : a < 269 ∨ 272 < a) (h3 : a ≠ 0 ∨ j ≠ 6) : xI (cMv u D b nb cc na p d dx dy) a j = xI u a j := by
  have kk := keep_kept (u := mAdd (mvM u (D + 4) b nb dx dy cc) (D + 4) nb p d (nI cc)) (na := na) (k := 3) (x := 0) (y := 0) h8
  obtain ⟨m1, m2, m3, m4⟩ := mv_at (u := u) (B := D + 4) (dx := dx) (dy := dy) hb cc h6
  unfold cMv
  rw [xI_ne (by omega), kk.2.2.2.1 a j (by omega) (by omega) (by omega) (by omega)]
  unfold mAdd
  rw [xI_ne (by omega), xI_ne (by omega), xI_ne (by omega), xI_ne (by omega)]
  exact m3 a j (by omega)
theorem cMv_s (hb : b < nb) (h6 : cc ≤ 6) (h8 : na ≤ 8) : (cMv u D b nb cc na p d dx dy).1 = u.1 ∧ (cMv u D b nb cc na p d dx dy).2.2 = u.2.2 := by
  have kk := keep_kept (u := mAdd (mvM u (D + 4) b nb dx dy cc) (D + 4) nb p d (nI cc)) (na := na) (k := 3) (x := 0) (y := 0) h8
  obtain ⟨m1, m2, m3, m4⟩ := mv_at (u := u) (B := D + 4) (dx := dx) (dy := dy) hb cc h6
  exact ⟨kk.1.trans m1, kk.2.1.trans m2⟩
theorem cMv_g (h8 : na ≤ 8) (hD : D = 6 ∨ D = 34) {a : Nat} (h1 : D < a) (h2 : a ≤ D + 26) : xI (cMv u D b nb cc na p d dx dy) a = xI (mAdd (mvM u (D + 4) b nb dx dy cc) (D + 4) nb p d (nI cc)) a := by
  have kk := keep_kept (u := mAdd (mvM u (D + 4) b nb dx dy cc) (D + 4) nb p d (nI cc)) (na := na) (k := 3) (x := 0) (y := 0) h8
  unfold cMv
  rw [xIf_sI (by omega)]
  exact funext fun j => kk.2.2.2.1 a j (by omega) (by omega) (by omega) (by omega)
theorem cMv_ok (h : okG u D s nl np nb nc nr nh nk) (hD : D = 6 ∨ D = 34) (hb : b < nb) (h16 : nb < 16) (h6 : cc ≤ 6) (h8 : na ≤ 8) (hd : ∃ a, a ≤ 999 ∧ d = nI a) (hst : fSt (xI u (D + 8)) (xI u (D + 9)) dx dy (nI s) cc (6 * b) = true) : okG (cMv u D b nb cc na p d dx dy) D s nl np (nb + 1) nc nr nh nk := by
  have hB := h.1.b
  obtain ⟨m1, m2, m3, m4⟩ := mv_at (u := u) (B := D + 4) (dx := dx) (dy := dy) hb cc h6
  obtain ⟨s1, s2⟩ := cMv_s (u := u) (D := D) (b := b) (nb := nb) (cc := cc) (na := na) (p := p) (d := d) (dx := dx) (dy := dy) hb h6 h8
  have st : ∀ r i, fSt (xI u (D + 8)) (xI u (D + 9)) dx dy (nI s) r i = true → ∀ t, t < r → (0 ≤ xI u (D + 8) (i + t) + dx ∧ xI u (D + 8) (i + t) + dx ≤ nI s) ∧ 0 ≤ xI u (D + 9) (i + t) + dy ∧ xI u (D + 9) (i + t) + dy ≤ nI s := by
    intro r
    induction r with
    | zero => intro i _ t ht; omega
    | succ r ih =>
      intro i hi t ht
      unfold fSt at hi
      simp only [Bool.and_eq_true, decide_eq_true_eq] at hi
      by_cases z : t = 0
      · subst z
        exact hi.1
      · have := ih (i + 1) hi.2 (t - 1) (by omega)
        rw [show i + 1 + (t - 1) = i + t by omega] at this
        exact this
  refine (okG.addB (p := p) (mv_ok h hD cc h6) h16 hd ⟨h6, rfl⟩ (fun i hi => ?_)).mv (s1.trans m1.symm) (congrArg (fun q => q.2) (s2.trans m2.symm)) (fun a q1 q2 => cMv_g h8 hD q1 q2)
  obtain ⟨e8, e9⟩ := m4 i hi
  obtain ⟨z1, z2⟩ := st cc (6 * b) hst i hi
  have e8 : xI (mvM u (D + 4) b nb dx dy cc) (D + 8) (6 * nb + i) = xI u (D + 8) (6 * b + i) + dx := e8
  have e9 : xI (mvM u (D + 4) b nb dx dy cc) (D + 9) (6 * nb + i) = xI u (D + 9) (6 * b + i) + dy := e9
  rw [e8, e9]
  obtain ⟨a, ha, ea⟩ := i32_le0 z1.1 z1.2 (by omega)
  obtain ⟨a', ha', ea'⟩ := i32_le0 z2.1 z2.2 (by omega)
  exact ⟨⟨a, by omega, ea⟩, ⟨a', by omega, ea'⟩⟩
theorem cMv_cp {M : Nat → Int32} {V : xMem} {W : xMem} (h : okG u D s nl np nb nc nr nh nk) (hD : D = 6 ∨ D = 34) (hb : b < nb) (h16 : nb < 16) (h6 : cc ≤ 6) (h8 : na ≤ 8) (hc : cpD (xI W 279) u D np nb nc nr nh nk) (hV : Rw W V nb cc p d (nI cc) (fun t => xI u (D + 8) (6 * b + t) + dx) (fun t => xI u (D + 9) (6 * b + t) + dy)) : cpD (xI (xsI V 279 4 (nI (nb + 1))) 279) (cMv u D b nb cc na p d dx dy) D np (nb + 1) nc nr nh nk := by
  obtain ⟨m1, m2, m3, m4⟩ := mv_at (u := u) (B := D + 4) (dx := dx) (dy := dy) hb cc h6
  obtain ⟨w1, w2, w3, w4, w5, w6, w7, w8⟩ := hV
  have hc1 := (hc.far h w4).fag (w := mvM u (D + 4) b nb dx dy cc) h (fun c j q => m3 c j q)
  have hc2 := cpD.addB9 (v := V) (p := p) (d := d) (x := nI cc) hc1 (mv_ok h hD cc h6) h16 h6 rfl (fun i hi => by
    obtain ⟨e8, e9⟩ := m4 i hi
    obtain ⟨y8, y9⟩ := w8 i hi
    exact ⟨y8.trans e8.symm, y9.trans e9.symm⟩)
  have e : xI (xsI (xsI (xsI (xsI V 279 (34 + 15 * nb) p) 279 (34 + 15 * nb + 1) d) 279 (34 + 15 * nb + 2) (nI cc)) 279 4 (nI (nb + 1))) 279 = xI (xsI V 279 4 (nI (nb + 1))) 279 := by
    rw [xsI_id (u := V) w5, xsI_id (u := V) w6, xsI_id (u := V) w7]
  rw [e] at hc2
  exact hc2.mv (fun a q1 q2 => cMv_g h8 hD q1 q2)
theorem moveC_t (h : St u D E s nl np nb nc nr nh nk n nf na f op) (hb : b < nb) (h16 : nb < 16) (hc : xI u (D + 7) b = nI cc) (h6 : cc ≤ 6) (ho : xI u (D + 5) b = p) (hd : ∃ a, a ≤ 999 ∧ d = nI a) (hst : fSt (xI u (D + 8)) (xI u (D + 9)) dx dy (nI s) cc (6 * b) = true) : zr 148 148 [.ref 0, .int p, .int d, .int dx, .int dy, .ref (D + 4), .int (nI b)] [] u P = P (some (.int (fCnt (xI (cMv u D b nb cc na p d dx dy) (D + 5)) p (nb + 1)))) (cMv u D b nb cc na p d dx dy) := by
  have hB := h.b
  have hD := h.1.d
  have h8 : na ≤ 8 := hB.2.2.2.2.2.2.2.2.2.2.1
  obtain ⟨g1, g2, g3, g4, g5, g6⟩ := h.sp
  have hac := h.1.2.2.2.2.2.2.2.1
  have hsb := h.ok.sb
  have am := fun P => addMoved_run (d := d) (dx := dx) (dy := dy) (P := P) hsb h.ok.2.2.2.2.1.1 hb h16 hc h6
  rw [show xI u (D + 4 + 1) b = p from ho] at am
  obtain ⟨m1, m2, m3, m4⟩ := mv_at (u := u) (B := D + 4) (dx := dx) (dy := dy) hb cc h6
  have shm : mAdd (mvM u (D + 4) b nb dx dy cc) (D + 4) nb p d (nI cc) = (u.1, (mAdd (mvM u (D + 4) b nb dx dy cc) (D + 4) nb p d (nI cc)).2.1, (mAdd (mvM u (D + 4) b nb dx dy cc) (D + 4) nb p d (nI cc)).2.2.1, u.2.2.2) := shp (show (mAdd (mvM u (D + 4) b nb dx dy cc) (D + 4) nb p d (nI cc)).1 = u.1 from m1) (show (mAdd (mvM u (D + 4) b nb dx dy cc) (D + 4) nb p d (nI cc)).2.2.2 = u.2.2.2 from congrArg (fun q => q.2) m2)
  have hac2 : sAc (mAdd (mvM u (D + 4) b nb dx dy cc) (D + 4) nb p d (nI cc)) 269 := by rw [shm]; exact hac
  have a0 : xIs (mAdd (mvM u (D + 4) b nb dx dy cc) (D + 4) nb p d (nI cc)) 0 10 := by rw [shm]; exact g1
  have a4 : xR (mAdd (mvM u (D + 4) b nb dx dy cc) (D + 4) nb p d (nI cc)) 0 4 = some 269 := by rw [shm]; exact g5
  have en : xI (mAdd (mvM u (D + 4) b nb dx dy cc) (D + 4) nb p d (nI cc)) 269 0 = nI na := by
    unfold mAdd
    rw [xI_ne (by omega), xI_ne (by omega), xI_ne (by omega), xI_ne (by omega), m3 269 0 (by omega)]
    exact h.oka.1.1
  have kp := fun P => keep_run (u := mAdd (mvM u (D + 4) b nb dx dy cc) (D + 4) nb p d (nI cc)) (k := 3) (x := 0) (y := 0) (P := P) hac2 en h8
  have hok := cMv_ok (p := p) h.2.1 hD hb h16 h6 h8 hd hst
  have b0 : xIs (mKeep (mAdd (mvM u (D + 4) b nb dx dy cc) (D + 4) nb p d (nI cc)) na 3 0 0) 0 10 := by
    have kk := keep_kept (u := mAdd (mvM u (D + 4) b nb dx dy cc) (D + 4) nb p d (nI cc)) (na := na) (k := 3) (x := 0) (y := 0) h8
    rw [shp kk.1 (congrArg (fun q => q.2) kk.2.1)]
    exact a0
  have hokd : okD (mKeep (mAdd (mvM u (D + 4) b nb dx dy cc) (D + 4) nb p d (nI cc)) na 3 0 0) D s nl np (nb + 1) nc nr nh nk := hok.1.mv rfl rfl (fun a q => by
    show xI (mKeep _ na 3 0 0) a = xI (xsI (mKeep _ na 3 0 0) 0 6 0) a
    rw [xIf_sI (by omega)])
  have co := fun P => countOf_D (p := p) (P := P) hokd
  have e5 : xI (mKeep (mAdd (mvM u (D + 4) b nb dx dy cc) (D + 4) nb p d (nI cc)) na 3 0 0) (D + 5) = xI (cMv u D b nb cc na p d dx dy) (D + 5) := by
    unfold cMv
    rw [xIf_sI (by omega)]
  rw [e5] at co
  have i4 : xIs u (D + 4) 2 := hsb.1
  have b4 : xIs (mKeep (mAdd (mvM u (D + 4) b nb dx dy cc) (D + 4) nb p d (nI cc)) na 3 0 0) (D + 4) 2 := hokd.sb.1
  simp only [r148_148, r148_150, r148_152, r148_153, r148_154, r148_156, r148_159, r148_160, r148_163, r148_164, r148_165, r148_166, r148_169, r148_170, r148_172, r148_173, r148_176, r148_179, i4, am, a0, a4, hac2.1, kp, b0, b4, co, grant_run b0, true_and, and_true, Option.some.injEq, exists_eq_left', Option.toList_some, Option.toList_none, List.cons_append, List.nil_append, xcat_nil, xcat_int, xcat_ref, xcat_long, not_true, not_false_iff, if_true, if_false, and_self, and_false, false_and, or_true, true_or, or_self, z01, z10, zle8, Nat.reduceAdd, Nat.reduceLeDiff]
  rfl
theorem moveM_t {k5 : Int32} {W : xMem} (hg : okG (cMv u D b nb cc na p d dx dy) D s nl np (nb + 1) nc nr nh nk) (h : St u D E s nl np nb nc nr nh nk n nf na f op) (hx : Mx W u D s nl np nb nc nr nh nk) (hn : xI W 278 31 = nI na) (hb : b < nb) (h16 : nb < 16) (hc : xI u (D + 7) b = nI cc) (h6 : cc ≤ 6)
    (hP : ∀ V v, Rw W V nb cc p d (nI cc) (fun t => xI u (D + 8) (6 * b + t) + dx) (fun t => xI u (D + 9) (6 * b + t) + dy) → Kept (xsI V 279 4 (nI (nb + 1))) v 278 31 292 na 2 0 0 → P (some (.int (fCnt (xI (cMv u D b nb cc na p d dx dy) (D + 5)) p (nb + 1)))) (mGood v)) : zr 293 152 [.ref 278, .int p, .int d, .int dx, .int dy, .int k5, .int (nI b), .null, .null, .null] [] W P := by
  have hB := h.b
  have hD := h.1.d
  have h8 : na ≤ 8 := hB.2.2.2.2.2.2.2.2.2.2.1
  obtain ⟨h0, r3, j0, k0, -⟩ := hx.cf
  obtain ⟨-, -, -, -, e4, -⟩ := hx.2.1.1.e hx.2.2
  have z2 := (hx.2.2.bo hb).2.2
  rw [hc] at z2
  simp (disch := omega) only [r293_152, r293_153, r293_156, r293_157, r293_158, r293_161, r293_163, r293_164, r293_167, r293_169, r293_172, r293_173, r293_174, r293_175, r293_177, r293_178, r293_181, r293_183, r293_184, r293_185, r293_186, r293_189, r293_191, r293_192, r293_193, r293_194, r293_195, r293_196, r293_199, r293_201, r293_202, r293_203, r293_205, r293_206, r293_207, boundAt_run, h0, r3, j0, k0, e4, z2, xIs_sI, xR_sI, xN_sI, xinbT, xixT, leT, leF, ltT, ltF, ngF, psT, n1F, n2F, km2, km3, km4, km5, km10, km15, km25, kl8, kl14, kl24, kl34, kl274, kl354, kl384, kr1, kr2, kr3, kr4, kr5, kr6, kr7, kr8, kr9, kaa, lb0, lb1, lb2, lb3, lb4, lb5, lb6, lb7, li0, li1, li2, li3, li4, li5, li6, li7, true_and, and_true, Option.some.injEq, exists_eq_left', Option.toList_some, Option.toList_none, List.cons_append, List.nil_append, xcat_nil, xcat_int, xcat_ref, xcat_long, not_true, not_false_iff, if_true, if_false, and_self, and_false, false_and, or_true, true_or, or_self, z01, z10, zle8, Nat.reduceAdd, Nat.reduceLeDiff]
  refine moveM_loop (cc := cc) hx hb h16 hc h6 (fun V hV => ?_) cc 0 _ (by omega) ⟨rfl, rfl, fun b j q => ?_, fun j q => ?_, ?_, ?_, ?_, fun t ht => absurd ht (by omega)⟩
  · have hMV : sMd V := by rw [shp hV.1 (congrArg (fun q => q.2) hV.2.1)]; exact hx.1
    have hMV2 : sMd (xsI V 279 4 (nI (nb + 1))) := hMV
    obtain ⟨v0, ⟨v3, -⟩, ⟨v1, v2⟩, -⟩ := hMV
    have e4V : xI V 279 4 = nI nb := (hV.2.2.2.1 4 (by omega)).trans e4
    have e31 : xI (xsI V 279 4 (nI (nb + 1))) 278 31 = nI na := by rw [xI_ne (by omega), hV.2.2.1 278 31 (by omega)]; exact hn
    simp (disch := omega) only [r293_271, r293_272, r293_275, r293_276, r293_277, r293_278, r293_279, r293_280, r293_281, r293_282, r293_283, r293_284, r293_285, v0, v3, v1, v2, e4V, lb4, li4, kr1, xIs_sI, true_and, and_true, Option.some.injEq, exists_eq_left', Option.toList_some, Option.toList_none, List.cons_append, List.nil_append, xcat_nil, xcat_int, xcat_ref, xcat_long, not_true, not_false_iff, if_true, if_false, and_self, and_false, false_and, or_true, true_or, or_self, z01, z10, zle8, Nat.reduceAdd, Nat.reduceLeDiff]
    refine rem_run hMV2 e31 h8 (fun v hv => ?_)
    have hMv : sMd v := by rw [shp hv.1 (congrArg (fun q => q.2) hv.2.1)]; exact hMV2
    have cp := cMv_cp (M := fun _ => 0) (na := na) h.2.1 hD hb h16 h6 h8 hx.2.2 hV
    have e279 : xI v 279 = xI (xsI V 279 4 (nI (nb + 1))) 279 := funext fun j => hv.2.2.2.1 279 j (by omega) (by omega) (by omega) (by omega)
    rw [← e279] at cp
    have bm := fun P => boundMany_run (p := p) (P := P) hMv hg.1 cp
    simp only [r293_288, r293_289, r293_290, r293_291, r293_294, r293_297, hMv.1, bm, good_run hMv.1, true_and, and_true, Option.some.injEq, exists_eq_left', Option.toList_some, Option.toList_none, List.cons_append, List.nil_append, xcat_nil, xcat_int, xcat_ref, xcat_long, not_true, not_false_iff, if_true, if_false, and_self, and_false, false_and, or_true, true_or, or_self, z01, z10, zle8, Nat.reduceAdd, Nat.reduceLeDiff]
    exact hP V v hV hv
  · rw [xI_ne (by omega), xI_ne (by omega), xI_ne (by omega)]
  · rw [xI_ne (by omega), xI_ne (by omega), xI_ne (by omega)]
  · rw [xI_ne (by omega), xI_ne (by omega), xI_at]
  · rw [xI_ne (by omega), xI_at]
  · exact xI_at
theorem move_st {W V : xMem} (h : St u D E s nl np nb nc nr nh nk n nf na f op) (hb : b < nb) (h16 : nb < 16) (h6 : cc ≤ 6) (hd : ∃ a, a ≤ 999 ∧ d = nI a) (hst : fSt (xI u (D + 8)) (xI u (D + 9)) dx dy (nI s) cc (6 * b) = true) (hW : W = mThr (cMv u D b nb cc na p d dx dy))
    (hV : Rw W V nb cc p d (nI cc) (fun t => xI u (D + 8) (6 * b + t) + dx) (fun t => xI u (D + 9) (6 * b + t) + dy)) (hv : Kept (xsI V 279 4 (nI (nb + 1))) v 278 31 292 na 2 0 0) : Fr u (mGood v) ∧ Inv (mGood v) := by
  have hB := h.b
  have hD := h.1.d
  have h8 : na ≤ 8 := hB.2.2.2.2.2.2.2.2.2.2.1
  obtain ⟨c1, c2⟩ := cMv_s (u := u) (D := D) (b := b) (nb := nb) (cc := cc) (na := na) (p := p) (d := d) (dx := dx) (dy := dy) hb h6 h8
  have cF := fun a j q1 q2 q3 => cMv_f (u := u) (D := D) (b := b) (nb := nb) (cc := cc) (na := na) (p := p) (d := d) (dx := dx) (dy := dy) hb h6 h8 (a := a) (j := j) q1 q2 q3
  have hok := cMv_ok (p := p) h.2.1 hD hb h16 h6 h8 hd hst
  have w279 : xI W 279 = xI u 279 := by
    rw [hW]
    exact funext fun j => (xI_ne (by omega)).trans (cF 279 j (by omega) (by omega) (by omega))
  have cp := cMv_cp (M := fun _ => 0) (na := na) h.2.1 hD hb h16 h6 h8 (by rw [w279]; exact h.2.2.1) hV
  have fW : ∀ a j, (a ≠ 278 ∨ j ≠ 0) → xI W a j = xI (cMv u D b nb cc na p d dx dy) a j := fun a j q => by rw [hW]; exact xI_ne (by omega)
  have fv : ∀ a j, a ≠ 279 → (a < 292 ∨ 294 < a) → (a ≠ 278 ∨ (j ≠ 0 ∧ j ≠ 31)) → xI v a j = xI (cMv u D b nb cc na p d dx dy) a j := fun a j q1 q2 q3 => by
    rw [hv.2.2.2.1 a j (by omega) (by omega) (by omega) (by omega), xI_ne (by omega), hV.2.2.1 a j q1, fW a j (by omega)]
  have fm : ∀ a j, (a ≠ 278 ∨ (j ≠ 1 ∧ j ≠ 2)) → xI (mGood v) a j = xI v a j := fun a j q => by
    unfold mGood
    rw [xI_ne (by omega), xI_ne (by omega)]
  have fu : ∀ a j, (a < D + 4 ∨ D + 9 < a) → a ≠ 279 → (a < 292 ∨ 294 < a) → (a < 269 ∨ 272 < a) → (a ≠ 278 ∨ (j ≠ 0 ∧ j ≠ 1 ∧ j ≠ 2 ∧ j ≠ 31)) → (a ≠ 0 ∨ j ≠ 6) → xI (mGood v) a j = xI u a j := fun a j q0 q1 q2 q3 q4 q5 => by
    rw [fm a j (by omega), fv a j q1 q2 (by omega), cF a j q0 q3 q5]
  have s1 : (mGood v).1 = u.1 := hv.1.trans (hV.1.trans (by rw [hW]; exact c1))
  have s2 : (mGood v).2.2 = u.2.2 := hv.2.1.trans (hV.2.1.trans (by rw [hW]; exact c2))
  have s3 : (mGood v).2.2.2 = u.2.2.2 := congrArg (fun q => q.2) s2
  have gG : ∀ a, D < a → a ≤ D + 26 → xI (mGood v) a = xI (cMv u D b nb cc na p d dx dy) a := fun a q1 q2 => funext fun j => by
    rw [fm a j (by omega), fv a j (by omega) (by omega) (by omega)]
  have hG := hok.mv (w := mGood v) (s1.trans c1.symm) (s3.trans (congrArg (fun q => q.2) c2.symm)) gG
  have e279 : xI (mGood v) 279 = xI (xsI V 279 4 (nI (nb + 1))) 279 := funext fun j => by
    rw [fm 279 j (by omega), hv.2.2.2.1 279 j (by omega) (by omega) (by omega) (by omega)]
  have hC : cpD (xI (mGood v) 279) (mGood v) D np (nb + 1) nc nr nh nk := by
    rw [e279]
    exact cp.mv gG
  have kk := keep_kept (u := mAdd (mvM u (D + 4) b nb dx dy cc) (D + 4) nb p d (nI cc)) (na := na) (k := 3) (x := 0) (y := 0) h8
  obtain ⟨m1, m2, m3, m4⟩ := mv_at (u := u) (B := D + 4) (dx := dx) (dy := dy) hb cc h6
  have a6 : xI (mGood v) 0 6 = 0 := by
    rw [fm 0 6 (by omega), fv 0 6 (by omega) (by omega) (by omega)]
    exact xI_at
  refine ⟨⟨s1, by rw [s2], funext fun j => fu _ j (by omega) (by omega) (by omega) (by omega) (by omega) (by omega)⟩, ⟨?_, ?_⟩, D, E, s, nl, np, nb + 1, nc, nr, nh, nk, n, nf, naS na, f, op, h.mk2 s1 s3 hG hC (okA.keep (kc := 3) (km := 2) (lc := 0) (lm := 0) (uc := 0) (um := 0) h.oka ?_ ?_ (fun j hj => ?_) (fun j hj => ?_) (Or.inr (Or.inr (Or.inr (Or.inl ⟨rfl, rfl⟩)))) (by simp) (by simp) (by simp) (by simp)) (fun a j q => fu a j (by omega) (by omega) (by omega) (by omega) (by omega) (by omega))⟩
  · rw [a6]
    unfold mGood
    rw [xI_ne (by omega), xI_at]
  · rw [a6, if_neg (by decide)]
    exact xI_at
  · rw [fm 269 0 (by omega), fv 269 0 (by omega) (by omega) (by omega)]
    unfold cMv
    rw [xI_ne (by omega)]
    exact kk.2.2.1
  · rw [fm 278 31 (by omega)]
    exact hv.2.2.1
  · obtain ⟨k1, k2, k3⟩ := kk.2.2.2.2 j hj
    have e : ∀ a, 269 ≤ a → a ≤ 272 → xI (mAdd (mvM u (D + 4) b nb dx dy cc) (D + 4) nb p d (nI cc)) a = xI u a := fun a q1 q2 => funext fun j => by
      unfold mAdd
      rw [xI_ne (by omega), xI_ne (by omega), xI_ne (by omega), xI_ne (by omega)]
      exact m3 a j (by omega)
    rw [e 270 (by omega) (by omega)] at k1
    rw [e 271 (by omega) (by omega)] at k2
    rw [e 272 (by omega) (by omega)] at k3
    rw [fm 270 j (by omega), fm 271 j (by omega), fm 272 j (by omega), fv 270 j (by omega) (by omega) (by omega), fv 271 j (by omega) (by omega) (by omega), fv 272 j (by omega) (by omega) (by omega)]
    unfold cMv
    rw [xI_ne (by omega), xI_ne (by omega), xI_ne (by omega)]
    exact ⟨k1, k2, k3⟩
  · obtain ⟨k1, k2, k3⟩ := hv.2.2.2.2 j hj
    have e : ∀ a, 292 ≤ a → a ≤ 294 → xI (xsI V 279 4 (nI (nb + 1))) a = xI u a := fun a q1 q2 => funext fun j => by
      rw [xI_ne (by omega), hV.2.2.1 a j (by omega), fW a j (by omega), cF a j (by omega) (by omega) (by omega)]
    rw [e 292 (by omega) (by omega)] at k1
    rw [e 293 (by omega) (by omega)] at k2
    rw [e 294 (by omega) (by omega)] at k3
    rw [fm 292 j (by omega), fm 293 j (by omega), fm 294 j (by omega)]
    exact ⟨k1, k2, k3⟩
end
