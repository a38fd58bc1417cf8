/-! UNDO: its state -/
/-- an act taken back by both, S the cells that it touched -/
def Un (u m : xMem) (j : Nat) (S : Nat → Nat → Prop) : Prop := m.1 = u.1 ∧ m.2.2 = u.2.2 ∧ (xI m 0 6 = 0 ∧ xI m 278 1 = 0 ∧ xI m 278 2 = -1 ∧ xI m 269 0 = nI j ∧ xI m 278 31 = nI j) ∧
  ∀ a i, ¬ S a i → (a ≠ 0 ∨ i ≠ 6) → (a ≠ 278 ∨ (i ≠ 0 ∧ i ≠ 1 ∧ i ≠ 2 ∧ i ≠ 31)) → (a ≠ 269 ∨ i ≠ 0) → xI m a i = xI u a i
section
variable {u w g : xMem} {P : Option Value → xMem → Prop} {D E s nl np nb nc nr nh nk n nf na f : Nat} {p q d x y c e k a t i l what many layer till price units : Int32} {op : Bool}
theorem okA.pop {m : xMem} {j n' nf' nb' nr' : Nat} (h : okA u (j + 1) n nf nb nr) (e0 : xI m 269 0 = nI j) (e1 : xI m 278 31 = nI j) (hc : ∀ a, (270 ≤ a ∧ a ≤ 272) ∨ (292 ≤ a ∧ a ≤ 294) → xI m a = xI u a) (i0 : cntA (xI u 270) 0 j ≤ nf') (i1 : cntA (xI u 270) 1 j ≤ n') (i3 : cntA (xI u 270) 3 j ≤ nb') (i4 : cntA (xI u 270) 4 j ≤ nr') : okA m j n' nf' nb' nr' := by
  obtain ⟨⟨a1, a2, a3⟩, a4, -⟩ := h
  refine ⟨⟨e0, by omega, e1⟩, fun k hk => ?_, by rw [hc 270 (by omega)]; exact i0, by rw [hc 270 (by omega)]; exact i1, by rw [hc 270 (by omega)]; exact i3, by rw [hc 270 (by omega)]; exact i4⟩
  rw [hc 270 (by omega), hc 271 (by omega), hc 272 (by omega), hc 292 (by omega), hc 293 (by omega), hc 294 (by omega)]
  exact a4 k (by omega)
theorem cntA_le {K : Nat → Int32} {k : Int32} {j m : Nat} (h : cntA K k (j + 1) ≤ m) : cntA K k j ≤ m ∧ (K j = k → cntA K k j + 1 ≤ m) := by
  have e : cntA K k (j + 1) = cntA K k j + (if K j = k then 1 else 0) := rfl
  rw [e] at h
  constructor
  · exact Nat.le_trans (Nat.le_add_right _ _) h
  · intro z
    rw [if_pos z] at h
    exact h
theorem okA.le {j : Nat} (h : okA u (j + 1) n nf nb nr) : cntA (xI u 270) 0 j ≤ nf ∧ cntA (xI u 270) 1 j ≤ n ∧ cntA (xI u 270) 3 j ≤ nb ∧ cntA (xI u 270) 4 j ≤ nr := ⟨(cntA_le h.2.2.1).1, (cntA_le h.2.2.2.1).1, (cntA_le h.2.2.2.2.1).1, (cntA_le h.2.2.2.2.2).1⟩
theorem Un.of {m : xMem} {j a i a' i' : Nat} {z z' : Int32} (e : m = mGood (xsI (xsI (mThr (cUn (xsI u a i z) j)) 278 31 (nI j)) a' i' z')) (ha : a < 269 ∧ (a ≠ 0 ∨ i ≠ 6)) (ha' : 278 ≤ a' ∧ (a' ≠ 278 ∨ i' = 20)) : Un u m j (fun b k => (b = a ∧ k = i) ∨ (b = a' ∧ k = i')) ∧ xI m a i = z ∧ xI m a' i' = z' := by
  subst e
  unfold mGood mThr cUn
  refine ⟨⟨rfl, rfl, ⟨?_, ?_, ?_, ?_, ?_⟩, fun b k q1 q2 q3 q4 => ?_⟩, ?_, ?_⟩
  · simp (disch := omega) only [xI_ate, xI_ne]
  · simp (disch := omega) only [xI_ate, xI_ne]
  · simp (disch := omega) only [xI_ate, xI_ne]
  · simp (disch := omega) only [xI_ate, xI_ne]
  · simp (disch := omega) only [xI_ate, xI_ne]
  · simp (disch := omega) only [xI_ate, xI_ne]
  · simp (disch := omega) only [xI_ate, xI_ne]
  · simp (disch := omega) only [xI_ate, xI_ne]
theorem un_fr {m : xMem} {j : Nat} {S : Nat → Nat → Prop} (h : Un u m j S) (h2 : ∀ k, ¬ S 2000000 k) : Fr u m ∧ Tr m := by
  obtain ⟨h1, h2', ⟨e1, e2, e3, -⟩, F⟩ := h
  exact ⟨⟨h1, by rw [h2'], funext fun k => F _ k (h2 k) (by omega) (by omega) (by omega)⟩, ⟨by rw [e1, e2], by rw [e1, if_neg (by decide)]; exact e3⟩⟩
/-- a sale taken back -/
theorem un_1 {m : xMem} {j : Nat} (h : St u D E s nl np nb nc nr nh nk (n + 1) nf (j + 1) f true) (hk : xI u 270 j = 1) (hU : Un u m j (fun b k => (b = 62 ∧ k = 0) ∨ (b = 278 ∧ k = 20))) (e1 : xI m 62 0 = nI n) (e2 : xI m 278 20 = nI n) : Fr u m ∧ Inv m := by
  have hD := h.1.d
  obtain ⟨f1, f2⟩ := un_fr hU (fun k => by omega)
  obtain ⟨h1, h2, ⟨-, -, -, g1, g2⟩, F⟩ := hU
  obtain ⟨c0, c1, c3, c4⟩ := h.oka.le
  have c1' := (cntA_le h.oka.2.2.2.1).2 hk
  have hn := h.okl.1.2
  have G : ∀ b, (b = 64 ∨ b = 65 ∨ (69 ≤ b ∧ b ≤ 268) ∨ b = 286 ∨ b = 290 ∨ b = 291) → xI m b = xI u b := fun b q => funext fun k => F b k (by omega) (by omega) (by omega) (by omega)
  obtain ⟨o1, o2, o3, o4, o5⟩ := h.okb
  obtain ⟨p1, p2, p3, p4⟩ := h.2.2.2.2.2.1
  have pe : ∀ l, l < 40 → pn m l = pn u l := fun l q => by unfold pn; rw [G _ (by omega)]
  have okB1 : okB m n nf nc np := by
    refine ⟨⟨⟨e1, by omega⟩, fun l q => ?_⟩, by rw [F 62 2 (by omega) (by omega) (by omega) (by omega)]; exact o2, fun l q => ?_, by rw [G 64 (by omega), G 65 (by omega)]; exact o4, by rw [G 64 (by omega)]; exact o5⟩
    · rw [pe l (by omega), G _ (by omega)]
      exact o1.2 l (by omega)
    · rw [pe l (by omega), G (69 + 5 * l) (by omega), G (69 + 5 * l + 1) (by omega), G (69 + 5 * l + 3) (by omega), G (69 + 5 * l + 4) (by omega), G 64 (by omega)]
      exact o3 l (by omega)
  have cpB1 : cpB m m n nf np := by
    refine ⟨e2, by rw [F 278 27 (by omega) (by omega) (by omega) (by omega)]; exact p2, fun l q => ?_, by rw [G 64 (by omega), G 65 (by omega), G 290 (by omega), G 291 (by omega)]; exact p4⟩
    rw [pe l (by omega), G (69 + 5 * l) (by omega), G (69 + 5 * l + 1) (by omega), G (69 + 5 * l + 2) (by omega), G (69 + 5 * l + 3) (by omega), G (69 + 5 * l + 4) (by omega), G 286 (by omega)]
    exact p3 l (by omega)
  have okA1 : okA m j n nf nb nr := h.oka.pop g1 g2 (fun a q => funext fun k => F a k (by omega) (by omega) (by omega) (by omega)) c0 (by omega) c3 c4
  exact ⟨f1, f2, D, E, s, nl, np, nb, nc, nr, nh, nk, n, nf, j, f, true, h.mk3 h1 (congrArg (fun q => q.2) h2) okB1 cpB1 okA1 (fun a k q => F a k (by omega) (by omega) (by omega) (by omega))⟩
theorem cpB.mv7 {u' g' : xMem} {l0 : Nat} (h : cpB u g n nf np) (hn : n ≤ 40) (hp4 : ∀ l, l < n → pn g l ≤ 4) (h20 : xI u' 278 20 = xI u 278 20) (h27 : xI u' 278 27 = xI u 278 27) (hu : ∀ b, b = 290 ∨ b = 291 → xI u' b = xI u b) (hf : ∀ b, b = 62 ∨ b = 64 ∨ b = 65 → xI g' b = xI g b)
    (hl : ∀ l k j, l < 40 → k ≤ 4 → (k ≠ 0 ∨ j ≠ 6 ∨ l ≠ l0) → xI g' (69 + 5 * l + k) j = xI g (69 + 5 * l + k) j) (hz : l0 < n → xI u' 286 (25 * l0 + 6) = xI g' (69 + 5 * l0) 6) (hb : ∀ j, j ≠ 25 * l0 + 6 → xI u' 286 j = xI u 286 j) : cpB u' g' n nf np := by
  obtain ⟨h1, h2, h3, h4⟩ := h
  have lk : ∀ l k, l < 40 → 1 ≤ k → k ≤ 4 → xI g' (69 + 5 * l + k) = xI g (69 + 5 * l + k) := fun l k q1 q2 q3 => funext fun j => hl l k j q1 q3 (by omega)
  have s0 : ∀ l j, l < 40 → j ≠ 6 → xI g' (69 + 5 * l) j = xI g (69 + 5 * l) j := fun l j q1 q2 => hl l 0 j q1 (by omega) (Or.inr (Or.inl q2))
  have pe : ∀ l, l < 40 → pn g' l = pn g l := fun l q => by unfold pn; rw [s0 l 8 q (by omega)]
  refine ⟨h20.trans h1, h27.trans h2, fun l q => ?_, ?_⟩
  · obtain ⟨a1, a2, a3, a4⟩ := h3 l q
    refine ⟨fun k hk => ?_, ?_, ?_, fun i hi => ?_⟩
    · by_cases c : l = l0 ∧ k = 6
      · rw [c.1, c.2]
        exact hz (by omega)
      · rw [hb _ (by omega), a1 k hk]
        exact (hl l 0 k (by omega) (by omega) (by omega)).symm
    · rw [hb _ (by omega), a2, s0 l 8 (by omega) (by omega)]
    · rw [hb _ (by omega), a3, s0 l 7 (by omega) (by omega)]
    · rw [pe l (by omega)] at hi
      have i4 := hp4 l q
      rw [hb _ (by omega), hb _ (by omega), hb _ (by omega), hb _ (by omega), lk l 1 (by omega) (by omega) (by omega), lk l 2 (by omega) (by omega) (by omega), lk l 3 (by omega) (by omega) (by omega), lk l 4 (by omega) (by omega) (by omega)]
      exact a4 i hi
  · rw [hu 290 (by omega), hu 291 (by omega), hf 64 (by omega), hf 65 (by omega)]
    exact h4
/-- a refund taken back -/
theorem un_2 {m : xMem} {j l0 : Nat} (h : St u D E s nl np nb nc nr nh nk n nf (j + 1) f true) (hl0 : l0 < 40) (hk : xI u 270 j = 2) (hU : Un u m j (fun b k => (b = 69 + 5 * l0 ∧ k = 6) ∨ (b = 286 ∧ k = 25 * l0 + 6))) (e1 : l0 < n → xI m 286 (25 * l0 + 6) = xI m (69 + 5 * l0) 6) : Fr u m ∧ Inv m := by
  have hD := h.1.d
  obtain ⟨f1, f2⟩ := un_fr hU (fun k => by omega)
  obtain ⟨h1, h2, ⟨-, -, -, g1, g2⟩, F⟩ := hU
  obtain ⟨c0, c1, c3, c4⟩ := h.oka.le
  have hn := h.okl.1.2
  have okB1 : okB m n nf nc np := h.okb.mv6 (fun b q => funext fun k => F b k (by omega) (by omega) (by omega) (by omega)) (fun l k i q1 q2 q3 => F _ i (by omega) (by omega) (by omega) (by omega))
  have cpB1 : cpB m m n nf np := h.2.2.2.2.2.1.mv7 (l0 := l0) hn (fun l hl => (h.okl.2 l hl).2) (F 278 20 (by omega) (by omega) (by omega) (by omega)) (F 278 27 (by omega) (by omega) (by omega) (by omega)) (fun b q => funext fun k => F b k (by omega) (by omega) (by omega) (by omega)) (fun b q => funext fun k => F b k (by omega) (by omega) (by omega) (by omega)) (fun l k i q1 q2 q3 => F _ i (by omega) (by omega) (by omega) (by omega)) e1 (fun i q => F 286 i (by omega) (by omega) (by omega) (by omega))
  have okA1 : okA m j n nf nb nr := h.oka.pop g1 g2 (fun a q => funext fun k => F a k (by omega) (by omega) (by omega) (by omega)) c0 c1 c3 c4
  exact ⟨f1, f2, D, E, s, nl, np, nb, nc, nr, nh, nk, n, nf, j, f, true, h.mk3 h1 (congrArg (fun q => q.2) h2) okB1 cpB1 okA1 (fun a k q => F a k (by omega) (by omega) (by omega) (by omega))⟩
/-- a move taken back -/
theorem un_3 {m : xMem} {j : Nat} (h : St u D E s nl np (nb + 1) nc nr nh nk n nf (j + 1) f true) (hk : xI u 270 j = 3) (hU : Un u m j (fun b k => (b = D + 4 ∧ k = 0) ∨ (b = 279 ∧ k = 4))) (e1 : xI m (D + 4) 0 = nI nb) (e2 : xI m 279 4 = nI nb) : Fr u m ∧ Inv m := by
  have hD := h.1.d
  have hb := h.b
  obtain ⟨f1, f2⟩ := un_fr hU (fun k => by omega)
  obtain ⟨h1, h2, ⟨-, -, -, g1, g2⟩, F⟩ := hU
  have h3 : m.2.2.2 = u.2.2.2 := congrArg (fun q => q.2) h2
  obtain ⟨c0, c1, c3, c4⟩ := h.oka.le
  have c3' := (cntA_le h.oka.2.2.2.2.1).2 hk
  have G : ∀ b, D < b → b ≤ D + 26 → b ≠ D + 4 → xI m b = xI u b := fun b q1 q2 q3 => funext fun k => F b k (by omega) (by omega) (by omega) (by omega)
  have M : ∀ i, i ≠ 4 → xI m 279 i = xI u 279 i := fun i q => F 279 i (by omega) (by omega) (by omega) (by omega)
  obtain ⟨⟨k1, k2, k3, k4, k5, k6, k7, k8, k9, k10, k11⟩, x2, x3, x4, x5, x6⟩ := h.2.1
  have okG1 : okG m D s nl np nb nc nr nh nk := by
    refine ⟨⟨by rw [shp h1 h3]; exact k1, by rw [G _ (by omega) (by omega) (by omega)]; exact k2, by rw [G _ (by omega) (by omega) (by omega)]; exact k3, by rw [G _ (by omega) (by omega) (by omega)]; exact k4, ⟨e1, by omega⟩, by rw [G _ (by omega) (by omega) (by omega)]; exact k6, by rw [G _ (by omega) (by omega) (by omega)]; exact k7, by rw [G _ (by omega) (by omega) (by omega)]; exact k8, by rw [G _ (by omega) (by omega) (by omega)]; exact k9, by rw [G _ (by omega) (by omega) (by omega)]; exact k10, ?_⟩, ?_, ?_, ?_, ?_, ?_⟩
    · rw [G _ (by omega) (by omega) (by omega)]
      exact fun b q => k11 b (by omega)
    · unfold okXY
      rw [G (D + 7) (by omega) (by omega) (by omega), G (D + 8) (by omega) (by omega) (by omega), G (D + 9) (by omega) (by omega) (by omega)]
      exact fun b q => x2 b (by omega)
    · unfold okOn
      rw [G (D + 3) (by omega) (by omega) (by omega)]
      exact x3
    · unfold okRv
      rw [G (D + 18) (by omega) (by omega) (by omega), G (D + 26) (by omega) (by omega) (by omega)]
      exact x4
    · unfold okRm
      rw [G (D + 18) (by omega) (by omega) (by omega)]
      exact x5
    · unfold okDy
      rw [G (D + 6) (by omega) (by omega) (by omega), G (D + 17) (by omega) (by omega) (by omega), G (D + 21) (by omega) (by omega) (by omega), G (D + 22) (by omega) (by omega) (by omega)]
      exact ⟨fun b q => x6.1 b (by omega), x6.2⟩
  obtain ⟨⟨y0, y1, y2, y3, y4, y5, y6, y7⟩, b1, b2, b3, b4, b5, b6⟩ := h.2.2.1
  have cpD1 : cpD (xI m 279) m D np nb nc nr nh nk := by
    refine ⟨⟨?_, ?_, ?_, ?_, e2.trans e1.symm, ?_, ?_, ?_⟩, fun c hc => ?_, fun p hp => ?_, fun b hb => ?_, fun r hr => ?_, fun q hq => ?_, fun q hq => ?_⟩
    · rw [M 0 (by omega), G _ (by omega) (by omega) (by omega)]; exact y0
    · rw [M 1 (by omega), G _ (by omega) (by omega) (by omega)]; exact y1
    · rw [M 2 (by omega), G _ (by omega) (by omega) (by omega)]; exact y2
    · rw [M 3 (by omega), G _ (by omega) (by omega) (by omega)]; exact y3
    · rw [M 5 (by omega), G _ (by omega) (by omega) (by omega)]; exact y5
    · rw [M 6 (by omega), G _ (by omega) (by omega) (by omega)]; exact y6
    · rw [M 7 (by omega), G _ (by omega) (by omega) (by omega)]; exact y7
    · rw [M _ (by omega), G _ (by omega) (by omega) (by omega)]; exact b1 c hc
    · rw [M _ (by omega), M _ (by omega), G _ (by omega) (by omega) (by omega), G _ (by omega) (by omega) (by omega)]; exact b2 p hp
    · obtain ⟨z1, z2, z3, z4⟩ := b3 b (by omega)
      rw [G (D + 5) (by omega) (by omega) (by omega), G (D + 6) (by omega) (by omega) (by omega), G (D + 7) (by omega) (by omega) (by omega), G (D + 8) (by omega) (by omega) (by omega), G (D + 9) (by omega) (by omega) (by omega), M _ (by omega), M _ (by omega), M _ (by omega)]
      refine ⟨z1, z2, z3, fun i hi => ?_⟩
      rw [M _ (by omega), M _ (by omega)]
      exact z4 i hi
    · rw [M _ (by omega), M _ (by omega), M _ (by omega), M _ (by omega), G (D + 15) (by omega) (by omega) (by omega), G (D + 16) (by omega) (by omega) (by omega), G (D + 17) (by omega) (by omega) (by omega), G (D + 18) (by omega) (by omega) (by omega)]; exact b4 r hr
    · rw [M _ (by omega), M _ (by omega), M _ (by omega), M _ (by omega), M _ (by omega), G (D + 19) (by omega) (by omega) (by omega), G (D + 20) (by omega) (by omega) (by omega), G (D + 21) (by omega) (by omega) (by omega), G (D + 22) (by omega) (by omega) (by omega), G (D + 23) (by omega) (by omega) (by omega)]; exact b5 q hq
    · rw [M _ (by omega), M _ (by omega), M _ (by omega), G (D + 24) (by omega) (by omega) (by omega), G (D + 25) (by omega) (by omega) (by omega), G (D + 26) (by omega) (by omega) (by omega)]; exact b6 q hq
  have okA1 : okA m j n nf nb nr := h.oka.pop g1 g2 (fun a q => funext fun k => F a k (by omega) (by omega) (by omega) (by omega)) c0 c1 (by omega) c4
  exact ⟨f1, f2, D, E, s, nl, np, nb, nc, nr, nh, nk, n, nf, j, f, true, h.mk2 h1 h3 okG1 cpD1 okA1 (fun a k q => F a k (by omega) (by omega) (by omega) (by omega))⟩
/-- a turn taken back -/
theorem un_4 {m : xMem} {j : Nat} (h : St u D E s nl np nb nc (nr + 1) nh nk n nf (j + 1) f true) (hk : xI u 270 j = 4) (hU : Un u m j (fun b k => (b = D + 14 ∧ k = 0) ∨ (b = 279 ∧ k = 5))) (e1 : xI m (D + 14) 0 = nI nr) (e2 : xI m 279 5 = nI nr) : Fr u m ∧ Inv m := by
  have hD := h.1.d
  have hb := h.b
  obtain ⟨f1, f2⟩ := un_fr hU (fun k => by omega)
  obtain ⟨h1, h2, ⟨-, -, -, g1, g2⟩, F⟩ := hU
  have h3 : m.2.2.2 = u.2.2.2 := congrArg (fun q => q.2) h2
  obtain ⟨c0, c1, c3, c4⟩ := h.oka.le
  have c4' := (cntA_le h.oka.2.2.2.2.2).2 hk
  have G : ∀ b, D < b → b ≤ D + 26 → b ≠ D + 14 → xI m b = xI u b := fun b q1 q2 q3 => funext fun k => F b k (by omega) (by omega) (by omega) (by omega)
  have M : ∀ i, i ≠ 5 → xI m 279 i = xI u 279 i := fun i q => F 279 i (by omega) (by omega) (by omega) (by omega)
  obtain ⟨⟨k1, k2, k3, k4, k5, k6, k7, k8, k9, k10, k11⟩, x2, x3, x4, x5, x6⟩ := h.2.1
  have okG1 : okG m D s nl np nb nc nr nh nk := by
    refine ⟨⟨by rw [shp h1 h3]; exact k1, by rw [G _ (by omega) (by omega) (by omega)]; exact k2, by rw [G _ (by omega) (by omega) (by omega)]; exact k3, by rw [G _ (by omega) (by omega) (by omega)]; exact k4, by rw [G _ (by omega) (by omega) (by omega)]; exact k5, by rw [G _ (by omega) (by omega) (by omega)]; exact k6, ⟨e1, by omega⟩, by rw [G _ (by omega) (by omega) (by omega)]; exact k8, by rw [G _ (by omega) (by omega) (by omega)]; exact k9, by rw [G _ (by omega) (by omega) (by omega)]; exact k10, ?_⟩, ?_, ?_, ?_, ?_, ?_⟩
    · rw [G _ (by omega) (by omega) (by omega)]
      exact k11
    · unfold okXY
      rw [G (D + 7) (by omega) (by omega) (by omega), G (D + 8) (by omega) (by omega) (by omega), G (D + 9) (by omega) (by omega) (by omega)]
      exact x2
    · unfold okOn
      rw [G (D + 3) (by omega) (by omega) (by omega)]
      exact x3
    · unfold okRv
      rw [G (D + 18) (by omega) (by omega) (by omega), G (D + 26) (by omega) (by omega) (by omega)]
      exact ⟨fun r q => x4.1 r (by omega), x4.2⟩
    · unfold okRm
      rw [G (D + 18) (by omega) (by omega) (by omega)]
      exact fun r q => x5 r (by omega)
    · unfold okDy
      rw [G (D + 6) (by omega) (by omega) (by omega), G (D + 17) (by omega) (by omega) (by omega), G (D + 21) (by omega) (by omega) (by omega), G (D + 22) (by omega) (by omega) (by omega)]
      exact ⟨x6.1, fun r q => x6.2.1 r (by omega), x6.2.2⟩
  obtain ⟨⟨y0, y1, y2, y3, y4, y5, y6, y7⟩, b1, b2, b3, b4, b5, b6⟩ := h.2.2.1
  have cpD1 : cpD (xI m 279) m D np nb nc nr nh nk := by
    refine ⟨⟨?_, ?_, ?_, ?_, ?_, e2.trans e1.symm, ?_, ?_⟩, fun c hc => ?_, fun p hp => ?_, fun b hb => ?_, fun r hr => ?_, fun q hq => ?_, fun q hq => ?_⟩
    · rw [M 0 (by omega), G _ (by omega) (by omega) (by omega)]; exact y0
    · rw [M 1 (by omega), G _ (by omega) (by omega) (by omega)]; exact y1
    · rw [M 2 (by omega), G _ (by omega) (by omega) (by omega)]; exact y2
    · rw [M 3 (by omega), G _ (by omega) (by omega) (by omega)]; exact y3
    · rw [M 4 (by omega), G _ (by omega) (by omega) (by omega)]; exact y4
    · rw [M 6 (by omega), G _ (by omega) (by omega) (by omega)]; exact y6
    · rw [M 7 (by omega), G _ (by omega) (by omega) (by omega)]; exact y7
    · rw [M _ (by omega), G _ (by omega) (by omega) (by omega)]; exact b1 c hc
    · rw [M _ (by omega), M _ (by omega), G _ (by omega) (by omega) (by omega), G _ (by omega) (by omega) (by omega)]; exact b2 p hp
    · obtain ⟨z1, z2, z3, z4⟩ := b3 b hb
      rw [G (D + 5) (by omega) (by omega) (by omega), G (D + 6) (by omega) (by omega) (by omega), G (D + 7) (by omega) (by omega) (by omega), G (D + 8) (by omega) (by omega) (by omega), G (D + 9) (by omega) (by omega) (by omega), M _ (by omega), M _ (by omega), M _ (by omega)]
      refine ⟨z1, z2, z3, fun i hi => ?_⟩
      rw [M _ (by omega), M _ (by omega)]
      exact z4 i hi
    · rw [M _ (by omega), M _ (by omega), M _ (by omega), M _ (by omega), G (D + 15) (by omega) (by omega) (by omega), G (D + 16) (by omega) (by omega) (by omega), G (D + 17) (by omega) (by omega) (by omega), G (D + 18) (by omega) (by omega) (by omega)]; exact b4 r (by omega)
    · rw [M _ (by omega), M _ (by omega), M _ (by omega), M _ (by omega), M _ (by omega), G (D + 19) (by omega) (by omega) (by omega), G (D + 20) (by omega) (by omega) (by omega), G (D + 21) (by omega) (by omega) (by omega), G (D + 22) (by omega) (by omega) (by omega), G (D + 23) (by omega) (by omega) (by omega)]; exact b5 q hq
    · rw [M _ (by omega), M _ (by omega), M _ (by omega), G (D + 24) (by omega) (by omega) (by omega), G (D + 25) (by omega) (by omega) (by omega), G (D + 26) (by omega) (by omega) (by omega)]; exact b6 q hq
  have okA1 : okA m j n nf nb nr := h.oka.pop g1 g2 (fun a q => funext fun k => F a k (by omega) (by omega) (by omega) (by omega)) c0 c1 c3 (by omega)
  exact ⟨f1, f2, D, E, s, nl, np, nb, nc, nr, nh, nk, n, nf, j, f, true, h.mk2 h1 h3 okG1 cpD1 okA1 (fun a k q => F a k (by omega) (by omega) (by omega) (by omega))⟩
end
