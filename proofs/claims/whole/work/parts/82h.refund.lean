/-! REFUND -/
section
variable {u w g : xMem} {P : Option Value → xMem → Prop} {D E s nl np nb nc nr nh nk n nf na f : Nat} {p q d x y c e k a t i l what many layer till price units : Int32} {op : Bool}
theorem okB.mv6 (h : okB u n nf nc np) (hf : ∀ b, b = 62 ∨ b = 64 ∨ b = 65 → xI w b = xI u b) (hl : ∀ l k j, l < n → k ≤ 4 → (k ≠ 0 ∨ j ≠ 6) → xI w (69 + 5 * l + k) j = xI u (69 + 5 * l + k) j) : okB w n nf nc np := by
  obtain ⟨h1, h2, h3, h4, h5⟩ := h
  have hn := h1.1.2
  have l0 : ∀ l j, l < n → j ≠ 6 → xI w (69 + 5 * l) j = xI u (69 + 5 * l) j := fun l j q1 q2 => hl l 0 j q1 (by omega) (Or.inr q2)
  have lk : ∀ l k, l < n → 1 ≤ k → k ≤ 4 → xI w (69 + 5 * l + k) = xI u (69 + 5 * l + k) := fun l k q1 q2 q3 => funext fun j => hl l k j q1 q3 (by omega)
  have pe : ∀ l, l < n → pn w l = pn u l := fun l q => by unfold pn; rw [l0 l 8 q (by omega)]
  refine ⟨⟨⟨by rw [hf 62 (by omega)]; exact h1.1.1, hn⟩, fun l q => ?_⟩, by rw [hf 62 (by omega)]; exact h2, fun l q => ?_, by rw [hf 64 (by omega), hf 65 (by omega)]; exact h4, by rw [hf 64 (by omega)]; exact h5⟩
  · rw [l0 l 8 q (by omega), pe l q]
    exact h1.2 l q
  · rw [l0 l 3 q (by omega), l0 l 0 q (by omega), l0 l 1 q (by omega), l0 l 2 q (by omega), l0 l 7 q (by omega), lk l 1 q (by omega) (by omega), lk l 3 q (by omega) (by omega), lk l 4 q (by omega) (by omega), pe l q, hf 64 (by omega)]
    exact h3 l q
theorem cpB.mv6 {u' g' : xMem} {l0 : Nat} {z : Int32} (h : cpB u g n nf np) (hn : n ≤ 40) (hp4 : ∀ l, l < n → pn g l ≤ 4) (h20 : xI u' 278 20 = xI u 278 20) (h27 : xI u' 278 27 = xI u 278 27) (hu : ∀ b, b = 290 ∨ b = 291 → xI u' b = xI u b) (hf : ∀ b, b = 62 ∨ b = 64 ∨ b = 65 → xI g' b = xI g b)
    (hl : ∀ l k j, l < 40 → k ≤ 4 → (k ≠ 0 ∨ j ≠ 6 ∨ l ≠ l0) → xI g' (69 + 5 * l + k) j = xI g (69 + 5 * l + k) j) (hz : xI g' (69 + 5 * l0) 6 = z) (hb : ∀ j, xI u' 286 j = if j = 25 * l0 + 6 then z else xI u 286 j) : cpB u' g' n nf np := by
  obtain ⟨h1, h2, h3, h4⟩ := h
  have lk : ∀ l k, l < 40 → 1 ≤ k → k ≤ 4 → xI g' (69 + 5 * l + k) = xI g (69 + 5 * l + k) := fun l k q1 q2 q3 => funext fun j => hl l k j q1 q3 (by omega)
  have s0 : ∀ l j, l < 40 → j ≠ 6 → xI g' (69 + 5 * l) j = xI g (69 + 5 * l) j := fun l j q1 q2 => hl l 0 j q1 (by omega) (Or.inr (Or.inl q2))
  have pe : ∀ l, l < 40 → pn g' l = pn g l := fun l q => by unfold pn; rw [s0 l 8 q (by omega)]
  refine ⟨h20.trans h1, h27.trans h2, fun l q => ?_, ?_⟩
  · obtain ⟨a1, a2, a3, a4⟩ := h3 l q
    refine ⟨fun k hk => ?_, ?_, ?_, fun i hi => ?_⟩
    · rw [hb]
      by_cases c : l = l0 ∧ k = 6
      · rw [if_pos (by omega), c.1, c.2, hz]
      · rw [if_neg (by omega), a1 k hk]
        exact (hl l 0 k (by omega) (by omega) (by omega)).symm
    · rw [hb, if_neg (by omega), a2, s0 l 8 (by omega) (by omega)]
    · rw [hb, if_neg (by omega), a3, s0 l 7 (by omega) (by omega)]
    · rw [pe l (by omega)] at hi
      have i4 := hp4 l q
      rw [hb, hb, hb, hb, if_neg (by omega), if_neg (by omega), if_neg (by omega), if_neg (by omega), lk l 1 (by omega) (by omega) (by omega), lk l 2 (by omega) (by omega) (by omega), lk l 3 (by omega) (by omega) (by omega), lk l 4 (by omega) (by omega) (by omega)]
      exact a4 i hi
  · rw [hu 290 (by omega), hu 291 (by omega), hf 64 (by omega), hf 65 (by omega)]
    exact h4
/-- less is left of a line -/
def rfU (u : xMem) (l : Nat) (units : Int32) : xMem := xsI u (69 + 5 * l) 6 (xI u (69 + 5 * l) 6 - units)
def cRf (u : xMem) (l na : Nat) (units : Int32) : xMem := xsI (mKeep (rfU u l units) na 2 (nI l) units) 0 6 0
theorem cRf_s {l : Nat} (h8 : na ≤ 8) : (cRf u l na units).1 = u.1 ∧ (cRf u l na units).2.2 = u.2.2 := by
  have kk := keep_kept (u := rfU u l units) (na := na) (k := 2) (x := nI l) (y := units) h8
  exact ⟨kk.1, kk.2.1⟩
theorem cRf_f {l a j : Nat} (h8 : na ≤ 8) (h1 : a < 269 ∨ 272 < a) (h2 : a ≠ 0 ∨ j ≠ 6) (h3 : a ≠ 69 + 5 * l ∨ j ≠ 6) : xI (cRf u l na units) a j = xI u a j := by
  have kk := keep_kept (u := rfU u l units) (na := na) (k := 2) (x := nI l) (y := units) h8
  unfold cRf
  rw [xI_ne (by omega), kk.2.2.2.1 a j (by omega) (by omega) (by omega) (by omega)]
  exact xI_ne (by omega)
theorem cRf_6 {l : Nat} (h8 : na ≤ 8) (hl : l < 40) : xI (cRf u l na units) (69 + 5 * l) 6 = xI u (69 + 5 * l) 6 - units := by
  have kk := keep_kept (u := rfU u l units) (na := na) (k := 2) (x := nI l) (y := units) h8
  unfold cRf
  rw [xI_ne (by omega), kk.2.2.2.1 (69 + 5 * l) 6 (by omega) (by omega) (by omega) (by omega)]
  exact xI_at
theorem refundC_t (h : St u D E s nl np nb nc nr nh nk n nf na f true) {l : Nat} (hl : l < n) : zr 147 42 [.ref 0, .int (nI l), .int units, .ref (69 + 5 * l), .null] [] u P = P (some (.int (lTo u (-1) l - lTo (rfU u l units) (-1) l))) (cRf u l na units) := by
  have hb := h.b
  have h8 : na ≤ 8 := hb.2.2.2.2.2.2.2.2.2.2.1
  obtain ⟨g1, g2, g3, g4, g5, g6⟩ := h.sp
  have hac := h.1.2.2.2.2.2.2.2.1
  have hL := (h.bk.ln (l := l) (by omega)).2
  have t1 := fun P => lTo_run (p := -1) (P := P) h.bk h.okl hl
  have kk := keep_kept (u := rfU u l units) (na := na) (k := 2) (x := nI l) (y := units) h8
  have i0 : xIs (rfU u l units) 0 10 := g1
  have i4 : xR (rfU u l units) 0 4 = some 269 := g5
  have hac2 : sAc (rfU u l units) 269 := hac
  have en : xI (rfU u l units) 269 0 = nI na := by
    show xI (xsI u (69 + 5 * l) 6 _) 269 0 = _
    rw [xI_ne (by omega)]
    exact h.oka.1.1
  have kp := fun P => keep_run (u := rfU u l units) (k := 2) (x := nI l) (y := units) (P := P) hac2 en h8
  have sh := shp kk.1 (congrArg (fun q => q.2) kk.2.1)
  have b0 : xIs (mKeep (rfU u l units) na 2 (nI l) units) 0 10 := by rw [sh]; exact g1
  have bk2 : sBk (mKeep (rfU u l units) na 2 (nI l) units) 62 := by rw [sh]; exact h.bk
  have bl : xIs (mKeep (rfU u l units) na 2 (nI l) units) (69 + 5 * l) 5 := (bk2.ln (l := l) (by omega)).2.1
  have fk : ∀ a j, (a < 269 ∨ 272 < a) → xI (mKeep (rfU u l units) na 2 (nI l) units) a j = xI (rfU u l units) a j := fun a j q => kk.2.2.2.1 a j (by omega) (by omega) (by omega) (by omega)
  have fr : ∀ a j, (a ≠ 69 + 5 * l ∨ j ≠ 6) → xI (rfU u l units) a j = xI u a j := fun a j q => xI_ne (by omega)
  have okl2 : okL (mKeep (rfU u l units) na 2 (nI l) units) n := by
    obtain ⟨⟨o1, o2⟩, o3⟩ := h.okl
    refine ⟨⟨by rw [fk 62 0 (by omega), fr 62 0 (by omega)]; exact o1, o2⟩, fun l' hl' => ?_⟩
    unfold pn
    rw [fk (69 + 5 * l') 8 (by omega), fr (69 + 5 * l') 8 (by omega)]
    exact o3 l' hl'
  have t2 := fun P => lTo_run (p := -1) (P := P) bk2 okl2 hl
  have e2 : lTo (mKeep (rfU u l units) na 2 (nI l) units) (-1) l = lTo (rfU u l units) (-1) l := lTo_congr (fun k hk j _ => fk _ j (by omega))
  rw [e2] at t2
  have hi : xIs (rfU u l units) (69 + 5 * l) 5 := hL.1
  have e6 : xsI u (69 + 5 * l) 6 (xI u (69 + 5 * l) 6 - units) = rfU u l units := rfl
  simp only [r147_42, r147_43, r147_44, r147_47, r147_49, r147_50, r147_51, r147_54, r147_55, r147_56, r147_59, r147_60, r147_63, r147_64, r147_65, r147_66, r147_69, r147_70, r147_72, r147_73, r147_74, r147_77, r147_78, r147_81, hL.1, t1, e6, i0, i4, hac2.1, kp, b0, bl, t2, grant_run b0, true_and, and_true, Option.some.injEq, exists_eq_left', Option.toList_some, Option.toList_none, List.cons_append, List.nil_append, xcat_nil, xcat_int, xcat_ref, xcat_long, not_true, not_false_iff, if_true, if_false, and_self, and_false, false_and, or_true, true_or, or_self, z01, z10, zle8, Nat.reduceAdd, Nat.reduceLeDiff]
  rfl
theorem refund_st {v : xMem} (h : St u D E s nl np nb nc nr nh nk n nf na f true) {l : Nat} (hl : l < n) (hv : Kept (xsI (mThr (cRf u l na units)) 286 (25 * l + 6) (xI u (69 + 5 * l) 6 - units)) v 278 31 292 na 1 (nI l) units) : (Fr u (mGood v) ∧ Inv (mGood v)) ∧ cpB v (rfU u l units) n nf np ∧ okB (rfU u l units) n nf nc np := by
  have hb := h.b
  have hD := h.1.d
  have h8 : na ≤ 8 := hb.2.2.2.2.2.2.2.2.2.2.1
  have kk := keep_kept (u := rfU u l units) (na := na) (k := 2) (x := nI l) (y := units) h8
  obtain ⟨c1, c2⟩ := cRf_s (u := u) (l := l) (units := units) h8
  have cF := fun a j q1 q2 q3 => cRf_f (u := u) (l := l) (units := units) (a := a) (j := j) h8 q1 q2 q3
  have fv : ∀ a j, a ≠ 286 → (a < 292 ∨ 294 < a) → (a ≠ 278 ∨ (j ≠ 0 ∧ j ≠ 31)) → xI v a j = xI (cRf u l na units) a j := fun a j q1 q2 q3 => by
    rw [hv.2.2.2.1 a j (by omega) (by omega) (by omega) (by omega), xI_ne (by omega)]
    exact xI_ne (by omega)
  have fm : ∀ a j, (a ≠ 278 ∨ (j ≠ 1 ∧ j ≠ 2)) → xI (mGood v) a j = xI v a j := fun a j q => by
    unfold mGood
    rw [xI_ne (by omega), xI_ne (by omega)]
  have fu : ∀ a j, a ≠ 286 → (a < 292 ∨ 294 < a) → (a < 269 ∨ 272 < a) → (a ≠ 278 ∨ (j ≠ 0 ∧ j ≠ 1 ∧ j ≠ 2 ∧ j ≠ 31)) → (a ≠ 0 ∨ j ≠ 6) → (a ≠ 69 + 5 * l ∨ j ≠ 6) → xI (mGood v) a j = xI u a j := fun a j q1 q2 q3 q4 q5 q6 => by
    rw [fm a j (by omega), fv a j q1 q2 (by omega), cF a j q3 q5 q6]
  have s1 : (mGood v).1 = u.1 := hv.1.trans c1
  have s2 : (mGood v).2.2 = u.2.2 := hv.2.1.trans c2
  have s3 : (mGood v).2.2.2 = u.2.2.2 := congrArg (fun q => q.2) s2
  have e286 : ∀ j, xI v 286 j = if j = 25 * l + 6 then xI u (69 + 5 * l) 6 - units else xI u 286 j := fun j => by
    rw [hv.2.2.2.1 286 j (by omega) (by omega) (by omega) (by omega)]
    by_cases c : j = 25 * l + 6
    · rw [if_pos c, xI_ate c]
    · rw [if_neg c, xI_ne (by omega)]
      exact (xI_ne (by omega)).trans (cF 286 j (by omega) (by omega) (by omega))
  have okB1 : okB (rfU u l units) n nf nc np := h.okb.mv6 (fun b q => by unfold rfU; rw [xIf_sI (by omega)]) (fun l' k j q1 q2 q3 => xI_ne (by omega))
  have v278 : ∀ j, j ≠ 0 → j ≠ 31 → xI v 278 j = xI u 278 j := fun j q1 q2 => by rw [fv 278 j (by omega) (by omega) (by omega), cF 278 j (by omega) (by omega) (by omega)]
  have vb : ∀ b, b = 290 ∨ b = 291 → xI v b = xI u b := fun b q => funext fun j => by rw [fv b j (by omega) (by omega) (by omega), cF b j (by omega) (by omega) (by omega)]
  have cpB1 : cpB v (rfU u l units) n nf np := h.2.2.2.2.2.1.mv6 (l0 := l) (z := xI u (69 + 5 * l) 6 - units) h.okl.1.2 (fun l hl => (h.okl.2 l hl).2) (v278 20 (by omega) (by omega)) (v278 27 (by omega) (by omega)) vb (fun b q => by unfold rfU; rw [xIf_sI (by omega)]) (fun l' k j q1 q2 q3 => xI_ne (by omega)) xI_at e286
  have fl : ∀ l' k j, l' < 40 → k ≤ 4 → (k ≠ 0 ∨ j ≠ 6 ∨ l' ≠ l) → xI (mGood v) (69 + 5 * l' + k) j = xI u (69 + 5 * l' + k) j := fun l' k j q1 q2 q3 => fu _ j (by omega) (by omega) (by omega) (by omega) (by omega) (by omega)
  have a6 : xI (mGood v) 0 6 = 0 := by
    rw [fm 0 6 (by omega), fv 0 6 (by omega) (by omega) (by omega)]
    exact xI_at
  have z6 : xI (mGood v) (69 + 5 * l) 6 = xI u (69 + 5 * l) 6 - units := by
    rw [fm _ 6 (by omega), fv _ 6 (by omega) (by omega) (by omega)]
    exact cRf_6 h8 (by omega)
  refine ⟨⟨⟨s1, by rw [s2], funext fun j => fu _ j (by omega) (by omega) (by omega) (by omega) (by omega) (by omega)⟩, ⟨?_, ?_⟩, D, E, s, nl, np, nb, nc, nr, nh, nk, n, nf, naS na, f, true, h.mk3 s1 s3 (h.okb.mv6 (fun b q => funext fun j => fu b j (by omega) (by omega) (by omega) (by omega) (by omega) (by omega)) (fun l' k j q1 q2 q3 => fl l' k j (by omega) q2 (by omega))) (h.2.2.2.2.2.1.mv6 (l0 := l) (z := xI u (69 + 5 * l) 6 - units) h.okl.1.2 (fun l hl => (h.okl.2 l hl).2) (by rw [fm 278 20 (by omega)]; exact v278 20 (by omega) (by omega)) (by rw [fm 278 27 (by omega)]; exact v278 27 (by omega) (by omega)) (fun b q => funext fun j => by rw [fm b j (by omega), vb b q]) (fun b q => funext fun j => fu b j (by omega) (by omega) (by omega) (by omega) (by omega) (by omega)) fl z6 (fun j => by rw [fm 286 j (by omega)]; exact e286 j)) (okA.keep (kc := 2) (km := 1) (lc := nI l) (lm := nI l) (uc := units) (um := units) h.oka ?_ ?_ (fun j hj => ?_) (fun j hj => ?_) (Or.inr (Or.inr (Or.inl ⟨rfl, rfl, l, by omega, rfl, rfl, rfl⟩))) (by simp) (by simp) (by simp) (by simp)) (fun a j q => fu a j (by omega) (by omega) (by omega) (by omega) (by omega) (by omega))⟩, cpB1, okB1⟩
  · rw [a6]
    unfold mGood
    rw [xI_ne (by omega), xI_at]
  · rw [a6, if_neg (by decide)]
    exact xI_at
  · rw [fm 269 0 (by omega), fv 269 0 (by omega) (by omega) (by omega)]
    unfold cRf
    rw [xI_ne (by omega)]
    exact kk.2.2.1
  · rw [fm 278 31 (by omega)]
    exact hv.2.2.1
  · obtain ⟨k1, k2, k3⟩ := kk.2.2.2.2 j hj
    have e : ∀ a, 269 ≤ a → a ≤ 272 → xI (rfU u l units) a = xI u a := fun a q1 q2 => funext fun j => xI_ne (by omega)
    rw [e 270 (by omega) (by omega)] at k1
    rw [e 271 (by omega) (by omega)] at k2
    rw [e 272 (by omega) (by omega)] at k3
    rw [fm 270 j (by omega), fm 271 j (by omega), fm 272 j (by omega), fv 270 j (by omega) (by omega) (by omega), fv 271 j (by omega) (by omega) (by omega), fv 272 j (by omega) (by omega) (by omega)]
    unfold cRf
    rw [xI_ne (by omega), xI_ne (by omega), xI_ne (by omega)]
    exact ⟨k1, k2, k3⟩
  · obtain ⟨k1, k2, k3⟩ := hv.2.2.2.2 j hj
    have e : ∀ a, 292 ≤ a → a ≤ 294 → xI (xsI (mThr (cRf u l na units)) 286 (25 * l + 6) (xI u (69 + 5 * l) 6 - units)) a = xI u a := fun a q1 q2 => funext fun j => by
      rw [xI_ne (by omega)]
      exact (xI_ne (by omega)).trans (cF a j (by omega) (by omega) (by omega))
    rw [e 292 (by omega) (by omega)] at k1
    rw [e 293 (by omega) (by omega)] at k2
    rw [e 294 (by omega) (by omega)] at k3
    rw [fm 292 j (by omega), fm 293 j (by omega), fm 294 j (by omega)]
    exact ⟨k1, k2, k3⟩
theorem refundM_t {l : Nat} (h : St u D E s nl np nb nc nr nh nk n nf na f true) (hx : Mx (mThr (cRf u l na units)) u D s nl np nb nc nr nh nk) (hB : cpB (mThr (cRf u l na units)) u n nf np) (hn : xI (mThr (cRf u l na units)) 278 31 = nI na) (hl : l < n) (hP : ∀ v, Kept (xsI (mThr (cRf u l na units)) 286 (25 * l + 6) (xI u (69 + 5 * l) 6 - units)) v 278 31 292 na 1 (nI l) units → P (some (.int (lTo u (-1) l - lTo (rfU u l units) (-1) l))) (mGood v)) : zr 291 40 [.ref 278, .int (nI l), .int units, .null] [] (mThr (cRf u l na units)) P := by
  have hb := h.b
  have h8 : na ≤ 8 := hb.2.2.2.2.2.2.2.2.2.2.1
  have ld := fun P => lineDue_run (P := P) hx.1 hB h.okb hl
  obtain ⟨h0, ⟨-, -, -, -, -, -, -, r19, -⟩, -, -, -, -, -, -, -, ⟨j6, n6⟩, -⟩ := hx.1
  have e6 := (hB.2.2.1 l hl).1 6 (by omega)
  have hM2 : sMd (xsI (mThr (cRf u l na units)) 286 (25 * l + 6) (xI u (69 + 5 * l) 6 - units)) := hx.1
  have e31 : xI (xsI (mThr (cRf u l na units)) 286 (25 * l + 6) (xI u (69 + 5 * l) 6 - units)) 278 31 = nI na := by rw [xI_ne (by omega)]; exact hn
  simp (disch := omega) only [r291_40, r291_41, r291_42, r291_45, r291_46, r291_47, r291_50, r291_52, r291_53, r291_54, r291_56, r291_57, r291_58, r291_59, r291_60, r291_61, r291_62, r291_63, r291_64, r291_65, r291_66, h0, r19, j6, n6, ld, e6, xIs_sI, xinbT, xixT, leT, leF, ltT, ltF, ngF, psT, n1F, n2F, km2, km3, km4, km5, km10, km15, km25, kl8, kl14, kl24, kl34, kl274, kl354, kl384, kr1, kr2, kr3, kr4, kr5, kr6, kr7, kr8, kr9, kaa, lb0, lb1, lb2, lb3, lb4, lb5, lb6, lb7, li0, li1, li2, li3, li4, li5, li6, li7, true_and, and_true, Option.some.injEq, exists_eq_left', Option.toList_some, Option.toList_none, List.cons_append, List.nil_append, xcat_nil, xcat_int, xcat_ref, xcat_long, not_true, not_false_iff, if_true, if_false, and_self, and_false, false_and, or_true, true_or, or_self, z01, z10, zle8, Nat.reduceAdd, Nat.reduceLeDiff]
  refine rem_run hM2 e31 h8 (fun v hv => ?_)
  obtain ⟨-, cp1, ok1⟩ := refund_st h hl hv
  have hMv : sMd v := by rw [shp hv.1 (congrArg (fun q => q.2) hv.2.1)]; exact hM2
  have ld2 := fun P => lineDue_run (P := P) hMv cp1 ok1 hl
  simp only [r291_69, r291_70, r291_71, r291_72, r291_73, r291_76, r291_77, r291_80, hMv.1, ld2, good_run hMv.1, true_and, and_true, Option.some.injEq, exists_eq_left', Option.toList_some, Option.toList_none, List.cons_append, List.nil_append, xcat_nil, xcat_int, xcat_ref, xcat_long, not_true, not_false_iff, if_true, if_false, and_self, and_false, false_and, or_true, true_or, or_self, z01, z10, zle8, Nat.reduceAdd, Nat.reduceLeDiff]
  exact hP v hv
end
