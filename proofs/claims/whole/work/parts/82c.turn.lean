/-! TURN answered alike -/
section
variable {u w g : xMem} {P : Option Value → xMem → Prop} {D E s nl np nb nc nr nh nk n nf na f : Nat} {p q d x y c e k a t i l what many layer till price units : Int32} {op : Bool}
theorem latestRate9 (hx : Mx u g D s nl np nb nc nr nh nk) : zr 202 0 [.ref 279, .int p, .int c, .null] [] u P = P (some (.int (fRl (xI g (D + 15)) (xI g (D + 16)) (xI g (D + 17)) p c 999 nr))) u := by
  have hb := hx.2.1.1.b
  obtain ⟨e0, e1, e2, e3, e4, e5, -⟩ := hx.2.1.1.e hx.2.2
  refine latestRate_run hx.1.2.2.1 e5 hb.2.2.2.2.2.1 (fun k hk => ?_)
  obtain ⟨z1, z2, -⟩ := hx.2.2.rt hk
  obtain ⟨a, ha, e⟩ := hx.2.1.2.2.2.2.2.2.1 k hk
  exact ⟨z1, z2, by rw [e]; exact le999 ha⟩
/-- the first day on which a rate may come -/
theorem fRn_n (hG : okG g D s nl np nb nc nr nh nk) : (fRl (xI g (D + 15)) (xI g (D + 16)) (xI g (D + 17)) p c 999 nr = -1 ∧ fRn (xI g (D + 15)) (xI g (D + 16)) (xI g (D + 17)) p c nr = 0) ∨ ∃ k a, k < nr ∧ a ≤ 999 ∧ fRl (xI g (D + 15)) (xI g (D + 16)) (xI g (D + 17)) p c 999 nr = nI k ∧ xI g (D + 17) k = nI a ∧ fRn (xI g (D + 15)) (xI g (D + 16)) (xI g (D + 17)) p c nr = nI (a + 1) := by
  have hb := hG.1.b
  unfold fRn
  rcases fRl_cases (xI g (D + 15)) (xI g (D + 16)) (xI g (D + 17)) p c 999 nr with q | ⟨k, hk, q, -⟩
  · exact Or.inl ⟨q, by rw [q, if_neg (by decide)]⟩
  · obtain ⟨a, ha, e⟩ := hG.2.2.2.2.2.2.1 k hk
    exact Or.inr ⟨k, a, hk, ha, q, e, by rw [q, if_pos (nI_pos' (by omega)), xix_nI (by omega), e, nI_1]⟩
def mAr (w : xMem) (n : Nat) (p c d x : Int32) : xMem := xsI (xsI (xsI (xsI (xsI w 279 (274 + 4 * n) p) 279 (274 + 4 * n + 1) c) 279 (274 + 4 * n + 2) d) 279 (274 + 4 * n + 3) x) 279 5 (nI (n + 1))
theorem addsRate9 (hM : sMd u) (h5 : xI u 279 5 = nI nr) (h20 : nr < 20) : zr 204 0 [.ref 279, .int p, .int c, .int d, .int x, .null] [] u P = P none (mAr u nr p c d x) := by
  obtain ⟨-, -, ⟨j, k0⟩, -⟩ := hM
  simp (disch := omega) only [r204_0, r204_3, r204_4, r204_5, r204_6, r204_7, r204_8, r204_9, r204_11, r204_12, r204_14, r204_15, r204_16, r204_17, r204_19, r204_20, r204_21, r204_22, r204_23, r204_24, r204_26, r204_27, r204_28, r204_29, r204_30, r204_31, r204_33, r204_34, r204_35, r204_37, r204_38, r204_39, r204_40, r204_41, r204_42, r204_43, r204_44, r204_45, j, k0, h5, xIs_sI, xIs_sJ, xR_sI, xR_sJ, xN_sI, xN_sJ, xI_sJ, xI_ate, xI_ne, xinbT, xixT, leT, leF, ltT, ltF, ngF, psT, n1F, n2F, km2, km3, km4, km5, km10, km15, km25, kl8, kl14, kl24, kl34, kl274, kl354, kl384, kr1, kr2, kr3, kr4, kr5, kr6, kr7, kr8, kr9, kaa, lb0, lb1, lb2, lb3, lb4, lb5, lb6, lb7, li0, li1, li2, li3, li4, li5, li6, li7, true_and, and_true, Option.some.injEq, exists_eq_left', Option.toList_some, Option.toList_none, List.cons_append, List.nil_append, xcat_nil, xcat_int, xcat_ref, xcat_long, not_true, not_false_iff, if_true, if_false, and_self, and_false, false_and, or_true, true_or, or_self, z01, z10, zle8, Nat.reduceAdd, Nat.reduceLeDiff]
  rfl
theorem turnC_t (h : St u D E s nl np nb nc nr nh nk n nf na f op) {jp jc a r : Nat} (hjp : jp < np) (hjc : jc < nc) (hn : nr < 20) : zr 149 85 [.ref 0, .int p, .int c, .int d, .int x, .ref (D + 14)] [] u P = P (some (.int (nI (nr + 1)))) (xsI (mKeep (mAddR u (D + 14) nr p c d x) na 4 0 0) 0 6 0) := by
  have hb := h.b
  have hD := h.1.d
  have hr := h.ok.tf.2.2.2.1
  have hrn := h.ok.2.2.2.2.2.2.1.1
  obtain ⟨g1, g2, g3, g4, g5, g6⟩ := h.sp
  have hac := h.1.2.2.2.2.2.2.2.1
  have w6 : ∀ P, zr 65 0 [.ref (D + 14), .int p, .int c, .int d, .int x] [] u P = P none (mAddR u (D + 14) nr p c d x) := fun P => radd_run hr hrn hn
  have i14 : xIs u (D + 14) 6 := hr.1
  have hac2 : sAc (mAddR u (D + 14) nr p c d x) 269 := hac
  have en : xI (mAddR u (D + 14) nr p c d x) 269 0 = nI na := by
    unfold mAddR
    rw [xI_ne (by omega), xI_ne (by omega), xI_ne (by omega), xI_ne (by omega), xI_ne (by omega)]
    exact h.oka.1.1
  have kp := fun P => keep_run (u := mAddR u (D + 14) nr p c d x) (k := 4) (x := 0) (y := 0) (P := P) hac2 en hb.2.2.2.2.2.2.2.2.2.2.1
  have kk := keep_kept (u := mAddR u (D + 14) nr p c d x) (na := na) (k := 4) (x := 0) (y := 0) hb.2.2.2.2.2.2.2.2.2.2.1
  have e14 : xI (mAddR u (D + 14) nr p c d x) (D + 14) 0 = nI (nr + 1) := xI_at
  have k14 : xI (mKeep (mAddR u (D + 14) nr p c d x) na 4 0 0) (D + 14) 0 = nI (nr + 1) := (kk.2.2.2.1 _ _ (by omega) (by omega) (by omega) (by omega)).trans e14
  have sh := shp kk.1 (congrArg (fun q => q.2) kk.2.1)
  have a0 : xIs (mAddR u (D + 14) nr p c d x) 0 10 := g1
  have a4 : xR (mAddR u (D + 14) nr p c d x) 0 4 = some 269 := g5
  have a269 : xIs (mAddR u (D + 14) nr p c d x) 269 0 := hac.1
  have b0 : xIs (mKeep (mAddR u (D + 14) nr p c d x) na 4 0 0) 0 10 := by rw [sh]; exact g1
  have b14 : xIs (mKeep (mAddR u (D + 14) nr p c d x) na 4 0 0) (D + 14) 6 := by rw [sh]; exact i14
  simp only [r149_85, r149_87, r149_88, r149_89, r149_90, r149_92, r149_95, r149_96, r149_99, r149_100, r149_101, r149_102, r149_105, r149_106, r149_108, r149_111, r149_114, i14, w6, a0, a4, a269, kp, b0, b14, k14, grant_run b0, true_and, and_true, Option.some.injEq, exists_eq_left', Option.toList_some, Option.toList_none, List.cons_append, List.nil_append, xcat_nil, xcat_int, xcat_ref, xcat_long, not_true, not_false_iff, if_true, if_false, and_self, and_false, false_and, or_true, true_or, or_self, z01, z10, zle8, Nat.reduceAdd, Nat.reduceLeDiff]
theorem turnM_t {w : xMem} (h : St u D E s nl np nb nc nr nh nk n nf na f op) (hx : Mx (mThr w) u D s nl np nb nc nr nh nk) (hn : xI w 278 31 = nI na) (h20 : nr < 20) {k5 k6 : Int32} (hP : ∀ v, Kept (mAr (mThr w) nr p c d x) v 278 31 292 na 3 0 0 → P (some (.int (nI (nr + 1)))) (mGood v)) : zr 294 116 [.ref 278, .int p, .int c, .int d, .int x, .int k5, .int k6] [] (mThr w) P := by
  have hb := h.b
  obtain ⟨e0, e1, e2, e3, e4, e5, -⟩ := hx.2.1.1.e hx.2.2
  obtain ⟨h0, r3, j0, k0, -⟩ := hx.cf
  have ad := fun P => addsRate9 (u := mThr w) (p := p) (c := c) (d := d) (x := x) (P := P) hx.1 e5 h20
  have hM2 : sMd (mAr (mThr w) nr p c d x) := hx.1
  have i0 := hM2.1
  have e31 : xI (mAr (mThr w) nr p c d x) 278 31 = nI na := by
    unfold mAr
    rw [xI_ne (by omega), xI_ne (by omega), xI_ne (by omega), xI_ne (by omega), xI_ne (by omega)]
    exact hn
  simp only [r294_116, r294_117, r294_120, r294_121, r294_122, r294_123, r294_125, r294_128, r294_129, r294_130, r294_131, r294_132, h0, r3, ad, i0, true_and, and_true, Option.some.injEq, exists_eq_left', Option.toList_some, Option.toList_none, List.cons_append, List.nil_append, xcat_nil, xcat_int, xcat_ref, xcat_long, not_true, not_false_iff, if_true, if_false, and_self, and_false, false_and, or_true, true_or, or_self, z01, z10, zle8, Nat.reduceAdd, Nat.reduceLeDiff]
  refine rem_run hM2 e31 hb.2.2.2.2.2.2.2.2.2.2.1 (fun v hv => ?_)
  have sh := shp hv.1 (congrArg (fun q => q.2) hv.2.1)
  have hMv : sMd v := by rw [sh]; exact hM2
  have ev : xI v 279 5 = nI (nr + 1) := (hv.2.2.2.1 279 5 (by omega) (by omega) (by omega) (by omega)).trans xI_at
  obtain ⟨v0, ⟨s3, -⟩, ⟨v3, v4⟩, -⟩ := hMv
  simp (disch := omega) only [r294_135, r294_136, r294_137, r294_140, r294_141, r294_142, r294_145, v0, s3, v3, v4, ev, good_run v0, lb5, li5, true_and, and_true, Option.some.injEq, exists_eq_left', Option.toList_some, Option.toList_none, List.cons_append, List.nil_append, xcat_nil, xcat_int, xcat_ref, xcat_long, not_true, not_false_iff, if_true, if_false, and_self, and_false, false_and, or_true, true_or, or_self, z01, z10, zle8, Nat.reduceAdd, Nat.reduceLeDiff]
  exact hP v hv
theorem turn_st (h : St u D E s nl np nb nc nr nh nk n nf na f op) {v : xMem} (hn : nr < 20) (hd : ∃ a, a ≤ 999 ∧ d = nI a) (hx : 0 ≤ x ∧ x ≤ 2500) (hv : Kept (mAr (mThr (xsI (mKeep (mAddR u (D + 14) nr p c d x) na 4 0 0) 0 6 0)) nr p c d x) v 278 31 292 na 3 0 0) : Fr u (mGood v) ∧ Inv (mGood v) := by
  have hb := h.b
  have hD := h.1.d
  have kk := keep_kept (u := mAddR u (D + 14) nr p c d x) (na := na) (k := 4) (x := 0) (y := 0) hb.2.2.2.2.2.2.2.2.2.2.1
  have s1 : (mGood v).1 = u.1 := hv.1.trans kk.1
  have s2 : (mGood v).2.2 = u.2.2 := hv.2.1.trans kk.2.1
  have s3 : (mGood v).2.2.2 = u.2.2.2 := congrArg (fun q => q.2) s2
  have fv : ∀ b j, b ≠ 279 → (b < 292 ∨ 294 < b) → (b ≠ 278 ∨ (j ≠ 0 ∧ j ≠ 31)) → (b ≠ 0 ∨ j ≠ 6) → xI v b j = xI (mKeep (mAddR u (D + 14) nr p c d x) na 4 0 0) b j := fun b j q1 q2 q3 q4 => by
    rw [hv.2.2.2.1 b j (by omega) (by omega) (by omega) (by omega)]
    unfold mAr mThr
    rw [xI_ne (by omega), xI_ne (by omega), xI_ne (by omega), xI_ne (by omega), xI_ne (by omega), xI_ne (by omega), xI_ne (by omega)]
  have fk : ∀ b j, b ≠ 279 → (b < 292 ∨ 294 < b) → (b < 269 ∨ 272 < b) → (b ≠ 278 ∨ (j ≠ 0 ∧ j ≠ 31)) → (b ≠ 0 ∨ j ≠ 6) → xI v b j = xI (mAddR u (D + 14) nr p c d x) b j := fun b j q1 q2 q3 q4 q5 => by
    rw [fv b j q1 q2 q4 q5, kk.2.2.2.1 b j (by omega) (by omega) (by omega) (by omega)]
  have fm : ∀ b j, (b ≠ 278 ∨ (j ≠ 1 ∧ j ≠ 2)) → xI (mGood v) b j = xI v b j := fun b j q => by
    unfold mGood
    rw [xI_ne (by omega), xI_ne (by omega)]
  have ad : ∀ b j, (b < D + 14 ∨ D + 18 < b) → xI (mAddR u (D + 14) nr p c d x) b j = xI u b j := fun b j q => by
    unfold mAddR
    rw [xI_ne (by omega), xI_ne (by omega), xI_ne (by omega), xI_ne (by omega), xI_ne (by omega)]
  have fu : ∀ b j, (b < D + 14 ∨ D + 18 < b) → b ≠ 279 → (b < 292 ∨ 294 < b) → (b < 269 ∨ 272 < b) → (b ≠ 278 ∨ (j ≠ 0 ∧ j ≠ 1 ∧ j ≠ 2 ∧ j ≠ 31)) → (b ≠ 0 ∨ j ≠ 6) → xI (mGood v) b j = xI u b j := fun b j q0 q1 q2 q3 q4 q5 => by
    rw [fm b j (by omega), fk b j q1 q2 q3 (by omega) q5, ad b j q0]
  have gG : ∀ cc, D < cc → cc ≤ D + 26 → xI (mGood v) cc = xI (mAddR u (D + 14) nr p c d x) cc := fun cc q1 q2 => funext fun j => by
    rw [fm cc j (by omega), fk cc j (by omega) (by omega) (by omega) (by omega) (by omega)]
  have hG := (okG.addR (p := p) (c := c) h.2.1 hn hd hx).mv (w := mGood v) s1 s3 gG
  have e279 : xI (mGood v) 279 = xI (xsI (xsI (xsI (xsI (xsI u 279 (274 + 4 * nr) p) 279 (274 + 4 * nr + 1) c) 279 (274 + 4 * nr + 2) d) 279 (274 + 4 * nr + 3) x) 279 5 (nI (nr + 1))) 279 := funext fun j => by
    rw [fm 279 j (by omega), hv.2.2.2.1 279 j (by omega) (by omega) (by omega) (by omega)]
    have e : ∀ j, xI (mThr (xsI (mKeep (mAddR u (D + 14) nr p c d x) na 4 0 0) 0 6 0)) 279 j = xI u 279 j := fun j => by
      unfold mThr
      rw [xI_ne (by omega), xI_ne (by omega), kk.2.2.2.1 279 j (by omega) (by omega) (by omega) (by omega), ad 279 j (by omega)]
    unfold mAr
    simp only [xI_sI, e]
  have hC : cpD (xI (mGood v) 279) (mGood v) D np nb nc (nr + 1) nh nk := by
    rw [e279]
    exact (cpD.addR9 (v := u) (p := p) (c := c) (d := d) (x := x) h.2.2.1 h.2.1 hn).mv gG
  refine ⟨⟨s1, by rw [s2], funext fun j => fu _ j (by omega) (by omega) (by omega) (by omega) (by omega) (by omega)⟩, ⟨?_, ?_⟩, D, E, s, nl, np, nb, nc, nr + 1, nh, nk, n, nf, naS na, f, op, h.mk2 s1 s3 hG hC (okA.keep (kc := 4) (km := 3) (lc := 0) (lm := 0) (uc := 0) (um := 0) h.oka ?_ ?_ (fun j hj => ?_) (fun j hj => ?_) (Or.inr (Or.inr (Or.inr (Or.inr ⟨rfl, rfl⟩)))) (by simp) (by simp) (by simp) (by simp)) (fun b j q => fu b j (by omega) (by omega) (by omega) (by omega) (by omega) (by omega))⟩
  · have a : xI (mGood v) 278 1 = 0 := by unfold mGood; rw [xI_ne (by omega), xI_at]
    rw [a, fm 0 6 (by omega), hv.2.2.2.1 0 6 (by omega) (by omega) (by omega) (by omega)]
    unfold mAr mThr
    rw [xI_ne (by omega), xI_ne (by omega), xI_ne (by omega), xI_ne (by omega), xI_ne (by omega), xI_ne (by omega), xI_at]
  · have a : xI (mGood v) 278 2 = -1 := xI_at
    have a6 : xI (mGood v) 0 6 = 0 := by
      rw [fm 0 6 (by omega), hv.2.2.2.1 0 6 (by omega) (by omega) (by omega) (by omega)]
      unfold mAr mThr
      rw [xI_ne (by omega), xI_ne (by omega), xI_ne (by omega), xI_ne (by omega), xI_ne (by omega), xI_ne (by omega), xI_at]
    rw [a, a6, if_neg (by decide)]
  · rw [fm 269 0 (by omega), fv 269 0 (by omega) (by omega) (by omega) (by omega)]
    exact kk.2.2.1
  · rw [fm 278 31 (by omega)]
    exact hv.2.2.1
  · obtain ⟨c1, c2, c3⟩ := kk.2.2.2.2 j hj
    have e : ∀ b, 269 ≤ b → b ≤ 272 → xI (mAddR u (D + 14) nr p c d x) b = xI u b := fun b q1 q2 => funext fun j => ad b j (by omega)
    rw [e 270 (by omega) (by omega)] at c1
    rw [e 271 (by omega) (by omega)] at c2
    rw [e 272 (by omega) (by omega)] at c3
    rw [fm 270 j (by omega), fm 271 j (by omega), fm 272 j (by omega), fv 270 j (by omega) (by omega) (by omega) (by omega), fv 271 j (by omega) (by omega) (by omega) (by omega), fv 272 j (by omega) (by omega) (by omega) (by omega)]
    exact ⟨c1, c2, c3⟩
  · obtain ⟨c1, c2, c3⟩ := hv.2.2.2.2 j hj
    have e : ∀ b, 292 ≤ b → b ≤ 294 → xI (mAr (mThr (xsI (mKeep (mAddR u (D + 14) nr p c d x) na 4 0 0) 0 6 0)) nr p c d x) b = xI u b := fun b q1 q2 => funext fun j => by
      unfold mAr mThr
      rw [xI_ne (by omega), xI_ne (by omega), xI_ne (by omega), xI_ne (by omega), xI_ne (by omega), xI_ne (by omega), xI_ne (by omega), kk.2.2.2.1 b j (by omega) (by omega) (by omega) (by omega), ad b j (by omega)]
    rw [e 292 (by omega) (by omega)] at c1
    rw [e 293 (by omega) (by omega)] at c2
    rw [e 294 (by omega) (by omega)] at c3
    rw [fm 292 j (by omega), fm 293 j (by omega), fm 294 j (by omega)]
    exact ⟨c1, c2, c3⟩
end
