/-! UNDO of a filing: its state -/
section
variable {u w g : xMem} {P : Option Value → xMem → Prop} {D E s nl np nb nc nr nh nk n nf na f : Nat} {p q d x y c e k a t i l what many layer till price units : Int32} {op : Bool}
theorem un_0 {V : xMem} {j : Nat} (h : St u D E s nl np nb nc nr nh nk n (nf + 1) (j + 1) f true) (hk : xI u 270 j = 0) (hV : UfL (xsI (mThr (cUn (mDr u nf n) j)) 278 31 (nI j)) V nf n) : Fr u (mGood (xsI V 278 27 (nI nf))) ∧ Inv (mGood (xsI V 278 27 (nI nf))) := by
  have hD := h.1.d
  have hb := h.b
  have hn := h.okl.1.2
  obtain ⟨d1, d2, d3, d4, d5⟩ := mDr_at u nf n
  obtain ⟨V1, V2, VF, Vl⟩ := hV
  obtain ⟨c0, c1, c3, c4⟩ := h.oka.le
  have c0' := (cntA_le h.oka.2.2.1).2 hk
  have fW : ∀ a i, (a ≠ 278 ∨ (i ≠ 0 ∧ i ≠ 31)) → (a ≠ 269 ∨ i ≠ 0) → (a ≠ 0 ∨ i ≠ 6) → xI (xsI (mThr (cUn (mDr u nf n) j)) 278 31 (nI j)) a i = xI (mDr u nf n) a i := fun a i q1 q2 q3 => by
    unfold mThr cUn
    rw [xI_ne (by omega), xI_ne (by omega), xI_ne (by omega), xI_ne (by omega)]
  have fm : ∀ a i, (a ≠ 278 ∨ (i ≠ 1 ∧ i ≠ 2 ∧ i ≠ 27)) → xI (mGood (xsI V 278 27 (nI nf))) a i = xI V a i := fun a i q => by
    unfold mGood
    rw [xI_ne (by omega), xI_ne (by omega), xI_ne (by omega)]
  have fd : ∀ a i, (a ≠ 278 ∨ (i ≠ 0 ∧ i ≠ 1 ∧ i ≠ 2 ∧ i ≠ 27 ∧ i ≠ 31)) → (a ≠ 269 ∨ i ≠ 0) → (a ≠ 0 ∨ i ≠ 6) → (a ≠ 286 ∨ ∀ l, l < n → i ≠ 25 * l + 8) → xI (mGood (xsI V 278 27 (nI nf))) a i = xI (mDr u nf n) a i := fun a i q1 q2 q3 q4 => by
    rw [fm a i (by omega), VF a i q4, fW a i (by omega) q2 q3]
  have F : ∀ a i, (a ≠ 278 ∨ (i ≠ 0 ∧ i ≠ 1 ∧ i ≠ 2 ∧ i ≠ 27 ∧ i ≠ 31)) → (a ≠ 269 ∨ i ≠ 0) → (a ≠ 0 ∨ i ≠ 6) → (a ≠ 286 ∨ ∀ l, l < n → i ≠ 25 * l + 8) → (a ≠ 62 ∨ i ≠ 2) → (i ≠ 7 ∨ ∀ l, l < n → a ≠ 69 + 5 * l) → xI (mGood (xsI V 278 27 (nI nf))) a i = xI u a i := fun a i q1 q2 q3 q4 q5 q6 => by
    rw [fd a i q1 q2 q3 q4, d4 a i q5 q6]
  have s1 : (mGood (xsI V 278 27 (nI nf))).1 = u.1 := V1.trans d1
  have s2 : (mGood (xsI V 278 27 (nI nf))).2.2 = u.2.2 := V2.trans d2
  have g06 : xI (mGood (xsI V 278 27 (nI nf))) 0 6 = 0 := by
    rw [fm 0 6 (by omega), VF 0 6 (by omega), xI_ne (by omega)]
    exact (xI_ne (by omega)).trans xI_at
  have g1 : xI (mGood (xsI V 278 27 (nI nf))) 278 1 = 0 := by
    unfold mGood
    rw [xI_ne (by omega), xI_at]
  have g2 : xI (mGood (xsI V 278 27 (nI nf))) 278 2 = -1 := xI_at
  have g31 : xI (mGood (xsI V 278 27 (nI nf))) 278 31 = nI j := by
    rw [fm 278 31 (by omega), VF 278 31 (by omega)]
    exact xI_at
  have g269 : xI (mGood (xsI V 278 27 (nI nf))) 269 0 = nI j := by
    rw [fm 269 0 (by omega), VF 269 0 (by omega), xI_ne (by omega)]
    exact (xI_ne (by omega)).trans ((xI_ne (by omega)).trans xI_at)
  have g27 : xI (mGood (xsI V 278 27 (nI nf))) 278 27 = nI nf := by
    unfold mGood
    rw [xI_ne (by omega), xI_ne (by omega), xI_at]
  have g62 : xI (mGood (xsI V 278 27 (nI nf))) 62 2 = nI nf := (fd 62 2 (by omega) (by omega) (by omega) (by omega)).trans d3
  have l7 : ∀ l, l < n → xI (mGood (xsI V 278 27 (nI nf))) (69 + 5 * l) 7 = if xI u (69 + 5 * l) 7 = nI nf then -1 else xI u (69 + 5 * l) 7 := fun l hl => (fd _ 7 (by omega) (by omega) (by omega) (by omega)).trans (d5 l hl)
  have W6 : ∀ i, xI (xsI (mThr (cUn (mDr u nf n) j)) 278 31 (nI j)) 286 i = xI u 286 i := fun i => by
    rw [fW 286 i (by omega) (by omega) (by omega)]
    exact d4 286 i (by omega) (Or.inr (fun l hl => by omega))
  have e8 : ∀ l, l < n → xI (mGood (xsI V 278 27 (nI nf))) 286 (25 * l + 8) = if xI u 286 (25 * l + 8) = nI (nf + 1) then 0 else xI u 286 (25 * l + 8) := fun l hl => by
    rw [fm 286 _ (by omega), Vl l hl, W6]
  have lk : ∀ l k i, l < n → k ≤ 4 → (k ≠ 0 ∨ i ≠ 7) → xI (mGood (xsI V 278 27 (nI nf))) (69 + 5 * l + k) i = xI u (69 + 5 * l + k) i := fun l k i q1 q2 q3 => F _ i (by omega) (by omega) (by omega) (by omega) (by omega) (q3.elim (fun z => Or.inr (fun l' hl' => by omega)) Or.inl)
  have e286 : ∀ l k, l < n → k < 25 → k ≠ 8 → xI (mGood (xsI V 278 27 (nI nf))) 286 (25 * l + k) = xI u 286 (25 * l + k) := fun l k q1 q2 q3 => F 286 _ (by omega) (by omega) (by omega) (Or.inr (fun l' hl' => by omega)) (by omega) (Or.inr (fun l' hl' => by omega))
  have G : ∀ b i, b = 62 ∧ i = 0 ∨ b = 64 ∨ b = 65 ∨ b = 290 ∨ b = 291 ∨ (b = 278 ∧ (i = 20 ∨ i = 7 ∨ i = 9 ∨ i = 15)) ∨ (270 ≤ b ∧ b ≤ 272) ∨ (292 ≤ b ∧ b ≤ 294) ∨ (b = 0 ∧ i = 2) ∨ (1 ≤ b ∧ b ≤ 3) ∨ (D < b ∧ b ≤ D + 26) ∨ b = 279 ∨ b = 283 ∨ b = 2000000 → xI (mGood (xsI V 278 27 (nI nf))) b i = xI u b i := fun b i q => F b i (by omega) (by omega) (by omega) (by omega) (by omega) (Or.inr (fun l hl => by omega))
  generalize mGood (xsI V 278 27 (nI nf)) = m at *
  obtain ⟨o1, o2, o3, o4, o5⟩ := h.okb
  obtain ⟨p1, p2, p3, p4⟩ := h.2.2.2.2.2.1
  have l0 : ∀ l i, l < n → i ≠ 7 → xI m (69 + 5 * l) i = xI u (69 + 5 * l) i := fun l i q1 q2 => lk l 0 i q1 (by omega) (Or.inr q2)
  have lc : ∀ l k, l < n → 1 ≤ k → k ≤ 4 → xI m (69 + 5 * l + k) = xI u (69 + 5 * l + k) := fun l k q1 q2 q3 => funext fun i => lk l k i q1 q3 (by omega)
  have pe : ∀ l, l < n → pn m l = pn u l := fun l q => by unfold pn; rw [l0 l 8 q (by omega)]
  have G64 : xI m 64 = xI u 64 := funext fun i => G 64 i (by omega)
  have G65 : xI m 65 = xI u 65 := funext fun i => G 65 i (by omega)
  have okB1 : okB m n nf nc np := by
    refine ⟨⟨⟨by rw [G 62 0 (by omega)]; exact o1.1.1, hn⟩, fun l q => ?_⟩, ⟨g62, by omega⟩, fun l q => ?_, ?_, ?_⟩
    · rw [pe l q, l0 l 8 q (by omega)]
      exact o1.2 l q
    · obtain ⟨a1, a2, a3, a4, a5, a6⟩ := o3 l q
      rw [l0 l 3 q (by omega), l0 l 0 q (by omega), l0 l 1 q (by omega), l0 l 2 q (by omega), lc l 1 q (by omega) (by omega), lc l 3 q (by omega) (by omega), lc l 4 q (by omega) (by omega), pe l q, l7 l q, G64]
      refine ⟨a1, a2, a3, a4, ?_, a6⟩
      by_cases z : xI u (69 + 5 * l) 7 = nI nf
      · rw [if_pos z]
        exact Or.inl rfl
      · rw [if_neg z]
        rcases a5 with a5 | ⟨ff, hff, e, g⟩
        · exact Or.inl a5
        · refine Or.inr ⟨ff, ?_, e, g⟩
          by_cases y : ff = nf
          · subst y
            exact absurd e z
          · omega
    · rw [G64, G65]
      exact fun ff q => o4 ff (by omega)
    · rw [G64]
      exact fun a b q1 q2 => o5 a b q1 (by omega)
  have cpB1 : cpB m m n nf np := by
    refine ⟨by rw [G 278 20 (by omega)]; exact p1, g27, fun l q => ?_, fun ff hff => ?_⟩
    · obtain ⟨a1, a2, a3, a4⟩ := p3 l q
      refine ⟨fun k hk => ?_, ?_, ?_, fun i hi => ?_⟩
      · rw [e286 l k q (by omega) (by omega), l0 l k q (by omega)]
        exact a1 k hk
      · rw [e286 l 7 q (by omega) (by omega), l0 l 8 q (by omega)]
        exact a2
      · rw [e8 l q, l7 l q, a3]
        rcases s7 h.okb q with e | ⟨ff, hff, e, -⟩
        · have z1 : ¬ (0 : Int32) = nI (nf + 1) := fun y => nI_ne0 (n := nf + 1) (by omega) (by omega) y.symm
          have z2 : ¬ (-1 : Int32) = nI nf := fun y => by
            have y := congrArg Int32.toInt y
            rw [nI_toI (by omega)] at y
            have e1 : (-1 : Int32).toInt = -1 := rfl
            omega
          rw [e, show (-1 : Int32) + 1 = 0 from rfl, if_neg z1, if_neg z2]
          rfl
        · rw [e, nI_1]
          by_cases y : ff = nf
          · subst y
            rw [if_pos rfl, if_pos rfl]
            rfl
          · have z1 : ¬ nI (ff + 1) = nI (nf + 1) := of_eq_false (neT (by omega) (by omega) (by omega))
            have z2 : ¬ nI ff = nI nf := of_eq_false (neT (by omega) (by omega) (by omega))
            rw [if_neg z1, if_neg z2, nI_1]
      · rw [pe l q] at hi
        have i4 := (h.okb.1.2 l q).2
        have ee : ∀ k, k < 25 → k ≠ 8 → xI m 286 (25 * l + k) = xI u 286 (25 * l + k) := fun k q1 q2 => e286 l k q q1 q2
        rw [show 25 * l + 9 + 4 * i = 25 * l + (9 + 4 * i) by omega, show 25 * l + (9 + 4 * i) + 1 = 25 * l + (10 + 4 * i) by omega, show 25 * l + (9 + 4 * i) + 2 = 25 * l + (11 + 4 * i) by omega, show 25 * l + (9 + 4 * i) + 3 = 25 * l + (12 + 4 * i) by omega, ee _ (by omega) (by omega), ee _ (by omega) (by omega), ee _ (by omega) (by omega), ee _ (by omega) (by omega), lc l 1 q (by omega) (by omega), lc l 2 q (by omega) (by omega), lc l 3 q (by omega) (by omega), lc l 4 q (by omega) (by omega)]
        obtain ⟨b1, b2, b3, b4⟩ := a4 i hi
        exact ⟨by rw [← b1]; congr 1; omega, by rw [← b2]; congr 1; omega, by rw [← b3]; congr 1; omega, by rw [← b4]; congr 1; omega⟩
    · rw [G 290 ff (by omega), G64, G65]
      refine ⟨(p4 ff (by omega)).1, fun q hq => ?_⟩
      rw [G 291 _ (by omega)]
      exact (p4 ff (by omega)).2 q hq
  have okA1 : okA m j n nf nb nr := h.oka.pop g269 g31 (fun a q => funext fun k => G a k (by omega)) (by omega) c1 c3 c4
  exact ⟨⟨s1, by rw [s2], funext fun k => G _ k (by omega)⟩, ⟨by rw [g06, g1], by rw [g06, if_neg (by decide)]; exact g2⟩, D, E, s, nl, np, nb, nc, nr, nh, nk, n, nf, j, f, true, h.mk3 s1 (congrArg (fun q => q.2) s2) okB1 cpB1 okA1 (fun a k q => G a k (by omega))⟩
/-- what the model's run needs of the memory that the class left -/
theorem un_w {T : xMem} {j : Nat} (h : St u D E s nl np nb nc nr nh nk n nf (j + 1) f true) (t1 : T.1 = u.1) (t2 : T.2.2 = u.2.2) (tF : ∀ a i, 278 ≤ a → xI T a i = xI u a i) : Fr u (cUn T j) ∧ (∀ P, zr 295 0 [.ref 278] [] (cUn T j) P = zr 295 46 [.ref 278] [.int (xI u 292 j)] (xsI (mThr (cUn T j)) 278 31 (nI j)) P) ∧ sMd (xsI (mThr (cUn T j)) 278 31 (nI j)) ∧ ∀ a i, 278 ≤ a → (a ≠ 278 ∨ (i ≠ 0 ∧ i ≠ 31)) → xI (xsI (mThr (cUn T j)) 278 31 (nI j)) a i = xI u a i := by
  have h8 : j + 1 ≤ 8 := h.oka.1.2.1
  have cF : ∀ a i, 278 ≤ a → xI (cUn T j) a i = xI u a i := fun a i q => by
    unfold cUn
    rw [xI_ne (by omega), xI_ne (by omega)]
    exact tF a i q
  have c1 : (cUn T j).1 = u.1 := t1
  have c2 : (cUn T j).2.2 = u.2.2 := t2
  have cM : sMd (cUn T j) := by rw [shp c1 (congrArg (fun q => q.2) c2)]; exact h.1.2.2.2.2.2.2.2.2.2.1
  refine ⟨⟨c1, by rw [c2], funext fun k => cF _ k (by omega)⟩, fun P => ?_, cM, fun a i q1 q2 => ?_⟩
  · rw [undoM_h cM ((cF 278 7 (by omega)).trans h.2.2.2.1.2.1) ((cF 278 31 (by omega)).trans h.oka.1.2.2) (by omega), cF 292 j (by omega)]
  · rw [xI_ne (by omega)]
    exact (xI_ne (by omega)).trans (cF a i q1)
theorem undo_t {j : Nat} (h : St u D E s nl np nb nc nr nh nk n nf (j + 1) f true) : Both 150 295 [.ref 0] [.ref 278] u := by
  have hD := h.1.d
  have h8 : j + 1 ≤ 8 := h.oka.1.2.1
  have hn := h.okl.1.2
  obtain ⟨p1, p2, p3, p4⟩ := h.2.2.2.2.2.1
  unfold Both
  rcases h.oka.2.1 j (by omega) with ⟨k1, k2⟩ | ⟨k1, k2⟩ | ⟨k1, k2, l, hl, k3, k4, k5⟩ | ⟨k1, k2⟩ | ⟨k1, k2⟩
  · have z := (cntA_le h.oka.2.2.1).2 k1
    obtain ⟨nf', rfl⟩ : ∃ x, nf = x + 1 := ⟨nf - 1, by omega⟩
    obtain ⟨d1, d2, d3, d4, d5⟩ := mDr_at u nf' n
    rw [undoC_t h (fun P => tb_0 h (by omega) k1) d1 d2 (d4 269 0 (by omega) (by omega))]
    obtain ⟨w1, w2, w3, w4⟩ := un_w h d1 d2 (fun a i q => d4 a i (by omega) (Or.inr (fun l hl => by omega)))
    refine ⟨w1, ?_⟩
    rw [w2, k2]
    refine unM_4 w3 ((w4 278 20 (by omega) (by omega)).trans p1) ((w4 278 27 (by omega) (by omega)).trans p2) hn (fun V hV => ?_)
    obtain ⟨f1, f2⟩ := un_0 h k1 hV
    exact ⟨⟨_, rfl, rfl⟩, f1, f2⟩
  · have z := (cntA_le h.oka.2.2.2.1).2 k1
    obtain ⟨n', rfl⟩ : ∃ x, n = x + 1 := ⟨n - 1, by omega⟩
    rw [undoC_t h (fun P => tb_1 h (by omega) k1) rfl rfl (xI_ne (by omega))]
    obtain ⟨w1, w2, w3, w4⟩ := un_w h (T := xsI u 62 0 (nI n')) rfl rfl (fun a i q => xI_ne (by omega))
    refine ⟨w1, ?_⟩
    rw [w2, k2, unM_0 (n := n') w3 ((w4 278 20 (by omega) (by omega)).trans p1)]
    obtain ⟨x1, x2, x3⟩ := Un.of (u := u) (j := j) (a := 62) (i := 0) (a' := 278) (i' := 20) (z := nI n') (z' := nI n') rfl (by omega) (by omega)
    obtain ⟨f1, f2⟩ := un_1 h k1 x1 x2 x3
    exact ⟨⟨_, rfl, rfl⟩, f1, f2⟩
  · rw [undoC_t h (fun P => tb_2 h (by omega) k1 hl k3) rfl rfl (xI_ne (by omega))]
    obtain ⟨w1, w2, w3, w4⟩ := un_w h (T := xsI u (69 + 5 * l) 6 (xI u (69 + 5 * l) 6 + xI u 272 j)) rfl rfl (fun a i q => xI_ne (by omega))
    refine ⟨w1, ?_⟩
    rw [w2, k2, unM_1 (l := l) (j := j) w3 xI_at (by omega) hl ((w4 293 j (by omega) (by omega)).trans k4), w4 286 _ (by omega) (by omega), w4 294 j (by omega) (by omega)]
    obtain ⟨x1, x2, x3⟩ := Un.of (u := u) (j := j) (a := 69 + 5 * l) (i := 6) (a' := 286) (i' := 25 * l + 6) (z := xI u (69 + 5 * l) 6 + xI u 272 j) (z' := xI u 286 (25 * l + 6) + xI u 294 j) rfl (by omega) (by omega)
    obtain ⟨f1, f2⟩ := un_2 h hl k1 x1 (fun q => by rw [x2, x3, k5, (p3 l q).1 6 (by omega)])
    exact ⟨⟨_, rfl, rfl⟩, f1, f2⟩
  · have z := (cntA_le h.oka.2.2.2.2.1).2 k1
    obtain ⟨nb', rfl⟩ : ∃ x, nb = x + 1 := ⟨nb - 1, by omega⟩
    rw [undoC_t h (fun P => tb_3 h (by omega) k1) rfl rfl (xI_ne (by omega))]
    obtain ⟨w1, w2, w3, w4⟩ := un_w h (T := xsI u (D + 4) 0 (nI nb')) rfl rfl (fun a i q => xI_ne (by omega))
    refine ⟨w1, ?_⟩
    rw [w2, k2, unM_2 (n := nb') w3 ((w4 279 4 (by omega) (by omega)).trans (h.2.1.1.e h.2.2.1).2.2.2.2.1)]
    obtain ⟨x1, x2, x3⟩ := Un.of (u := u) (j := j) (a := D + 4) (i := 0) (a' := 279) (i' := 4) (z := nI nb') (z' := nI nb') rfl (by omega) (by omega)
    obtain ⟨f1, f2⟩ := un_3 h k1 x1 x2 x3
    exact ⟨⟨_, rfl, rfl⟩, f1, f2⟩
  · have z := (cntA_le h.oka.2.2.2.2.2).2 k1
    obtain ⟨nr', rfl⟩ : ∃ x, nr = x + 1 := ⟨nr - 1, by omega⟩
    rw [undoC_t h (fun P => tb_4 h (by omega) k1) rfl rfl (xI_ne (by omega))]
    obtain ⟨w1, w2, w3, w4⟩ := un_w h (T := xsI u (D + 14) 0 (nI nr')) rfl rfl (fun a i q => xI_ne (by omega))
    refine ⟨w1, ?_⟩
    rw [w2, k2, unM_3 (n := nr') w3 ((w4 279 5 (by omega) (by omega)).trans (h.2.1.1.e h.2.2.1).2.2.2.2.2.1)]
    obtain ⟨x1, x2, x3⟩ := Un.of (u := u) (j := j) (a := D + 14) (i := 0) (a' := 279) (i' := 5) (z := nI nr') (z' := nI nr') rfl (by omega) (by omega)
    obtain ⟨f1, f2⟩ := un_4 h k1 x1 x2 x3
    exact ⟨⟨_, rfl, rfl⟩, f1, f2⟩
theorem both_undo (h : St u D E s nl np nb nc nr nh nk n nf na f op) : Both 150 295 [.ref 0] [.ref 278] u := by
  cases op with
  | false =>
    obtain ⟨g1, g2, g3, g4, g5, g6⟩ := h.sp
    have g7 := h.isop
    refine both h (a := 0) (t := 1) ?_ ?_ (by decide)
    · intro P hP
      simp (disch := omega) only [r150_0, r150_1, r150_4, r150_7, r150_8, r150_11, r150_14, r150_17, r150_18, r150_19, r150_22, r150_23, r150_24, r150_25, r150_26, r150_29, r150_32, r150_33, r150_34, r150_37, r150_38, r150_41, r150_42, r150_45, r150_46, r150_47, r150_50, r150_51, r150_52, r150_55, r150_56, g1, g7, bI_f, true_and, and_true, Option.some.injEq, exists_eq_left', Option.toList_some, Option.toList_none, List.cons_append, List.nil_append, xcat_nil, xcat_int, xcat_ref, xcat_long, not_true, not_false_iff, if_true, if_false, and_self, and_false, false_and, or_true, true_or, or_self, z01, z10, zle8, Nat.reduceAdd, Nat.reduceLeDiff]
      exact QC.good hP xag.rf
    · intro w hw P hP
      have hx := h.mx (hw.tr ag_thr.m)
      have ho := h.o (hw.tr ag_thr.m)
      have hw0 : xIs w 278 11 := (h.mx hw).1.1
      simp (disch := omega) only [r295_0, r295_1, r295_2, r295_5, r295_6, r295_9, r295_12, r295_13, r295_16, r295_19, r295_20, r295_21, r295_24, r295_25, r295_26, mThr_f, hw0, hx.1.1, ho, bI_f, refused_run hx.1.1, true_and, and_true, Option.some.injEq, exists_eq_left', Option.toList_some, Option.toList_none, List.cons_append, List.nil_append, xcat_nil, xcat_int, xcat_ref, xcat_long, not_true, not_false_iff, if_true, if_false, and_self, and_false, false_and, or_true, true_or, or_self, z01, z10, zle8, Nat.reduceAdd, Nat.reduceLeDiff]
      exact QM.ref hP ag_thr
  | true =>
    cases na with
    | zero =>
      obtain ⟨g1, g2, g3, g4, g5, g6⟩ := h.sp
      have g7 := h.isop
      have a0 := (ac_facts h).1
      have e0 : xI u 269 0 = 0 := h.oka.1.1
      refine both h (a := 0) (t := 1) ?_ ?_ (by decide)
      · intro P hP
        simp (disch := omega) only [r150_0, r150_1, r150_4, r150_7, r150_8, r150_11, r150_14, r150_17, r150_18, r150_19, r150_22, r150_23, r150_24, r150_25, r150_26, r150_29, r150_32, r150_33, r150_34, r150_37, r150_38, r150_41, r150_42, r150_45, r150_46, r150_47, r150_50, r150_51, r150_52, r150_55, r150_56, g1, g5, g7, a0, e0, bI_t, true_and, and_true, Option.some.injEq, exists_eq_left', Option.toList_some, Option.toList_none, List.cons_append, List.nil_append, xcat_nil, xcat_int, xcat_ref, xcat_long, not_true, not_false_iff, if_true, if_false, and_self, and_false, false_and, or_true, true_or, or_self, z01, z10, zle8, Nat.reduceAdd, Nat.reduceLeDiff]
        exact QC.good hP xag.rf
      · intro w hw P hP
        have hx := h.mx (hw.tr ag_thr.m)
        have ho := h.o (hw.tr ag_thr.m)
        have hw0 : xIs w 278 11 := (h.mx hw).1.1
        have e31 : xI (mThr w) 278 31 = 0 := ((hw.tr ag_thr.m).2.2 278 31 (fun q => by unfold SC at q; omega)).trans h.oka.1.2.2
        simp (disch := omega) only [r295_0, r295_1, r295_2, r295_5, r295_6, r295_9, r295_12, r295_13, r295_16, r295_19, r295_20, r295_21, r295_24, r295_25, r295_26, mThr_f, hw0, hx.1.1, ho, e31, bI_t, refused_run hx.1.1, true_and, and_true, Option.some.injEq, exists_eq_left', Option.toList_some, Option.toList_none, List.cons_append, List.nil_append, xcat_nil, xcat_int, xcat_ref, xcat_long, not_true, not_false_iff, if_true, if_false, and_self, and_false, false_and, or_true, true_or, or_self, z01, z10, zle8, Nat.reduceAdd, Nat.reduceLeDiff]
        exact QM.ref hP ag_thr
    | succ j => exact undo_t h
end
