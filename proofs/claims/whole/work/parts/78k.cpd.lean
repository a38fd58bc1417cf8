/-! THE DESK that is read: class and model, as lines are added -/
theorem xI_ate {u : xMem} {a k j : Nat} {v : Int32} (h : j = k) : xI (xsI u a k v) a j = v := by subst h; exact xI_at
/-- what reading leaves as it is, in the model -/
def Fm (w v : xMem) : Prop := v.1 = w.1 ∧ v.2.2.2 = w.2.2.2 ∧ (∀ c j, c ≠ 280 → (c ≠ 278 ∨ (j < 11 ∨ 15 < j)) → xI v c j = xI w c j) ∧ ∀ c j, c ≠ 278 → c ≠ 281 → c ≠ 282 → xJ v c j = xJ w c j
section
variable {w v g g' m : xMem} {M : Nat → Int32} {P : Option Value → xMem → Prop} {e a b E r k n s nl np nb nc nr nh nk : Nat} {x y p c d lo hi : Int32}
theorem Fm.rf : Fm w w := ⟨rfl, rfl, fun _ _ _ _ => rfl, fun _ _ _ _ _ => rfl⟩
theorem Fm.tr {u : xMem} (h : Fm u w) (k : Fm w v) : Fm u v := ⟨k.1.trans h.1, k.2.1.trans h.2.1, fun c j a b => (k.2.2.1 c j a b).trans (h.2.2.1 c j a b), fun c j a b d => (k.2.2.2 c j a b d).trans (h.2.2.2 c j a b d)⟩
theorem Ny.fm (h : Ny w v) : Fm w v := ⟨h.1, h.2.1, fun c j _ b => h.2.2.1 c j b, fun c j a _ _ => h.2.2.2 c j a⟩
theorem Nx.fm (h : Nx w v) : Fm w v := h.ny.fm
theorem Fm.sI : Fm w (xsI w 280 k x) := ⟨rfl, rfl, fun c j q _ => xI_ne (Or.inl q), fun _ _ _ _ _ => rfl⟩
theorem Fm.sJ1 {z : Int64} : Fm w (xsJ w 281 k z) := ⟨rfl, rfl, fun _ _ _ _ => rfl, fun c j _ q _ => by rw [xJ_sJ, if_neg (fun z => q z.1)]⟩
theorem Fm.sJ2 {z : Int64} : Fm w (xsJ w 282 k z) := ⟨rfl, rfl, fun _ _ _ _ => rfl, fun c j _ _ q => by rw [xJ_sJ, if_neg (fun z => q z.1)]⟩
theorem shp {u w : xMem} (h1 : w.1 = u.1) (h2 : w.2.2.2 = u.2.2.2) : w = (u.1, w.2.1, w.2.2.1, u.2.2.2) := by
  obtain ⟨k, i, j, r⟩ := w
  have h1 : k = u.1 := h1
  have h2 : r = u.2.2.2 := h2
  rw [h1, h2]
theorem Fm.md (h : Fm w v) (k : sMd w) : sMd v := by
  rw [shp h.1 h.2.1]
  exact k
theorem Wk.mv (h : Wk g w E) (a1 : g'.1 = g.1) (a2 : g'.2.2.2 = g.2.2.2) (a3 : xI g' 2 = xI g 2) (a4 : xI g' 3 = xI g 3) (a5 : xJ g' 2 6 = xJ g 2 6) (b1 : v.1 = w.1) (b2 : v.2.2.2 = w.2.2.2) (b3 : xI v 278 = xI w 278) (b4 : xI v 283 = xI w 283) (b5 : xJ v 278 16 = xJ w 278 16) : Wk g' v E := by
  obtain ⟨⟨h1, ⟨h2, e, a, b, h3⟩, h4, h5, h6⟩, h7, h8⟩ := h
  refine ⟨⟨?_, ⟨?_, e, a, b, ?_⟩, ?_, ?_, ?_⟩, ?_, ?_⟩
  · rw [shp b1 b2]; exact h1
  · rw [shp a1 a2]; exact h2
  · unfold Tq at h3 ⊢
    rw [a3]
    refine ⟨?_, h3.2⟩
    rw [shp a1 a2]
    exact h3.1
  · rw [b3, a3]; exact h4
  · rw [b4, a4]; exact h5
  · rw [a4]; exact h6
  · rw [b3]; exact h7
  · unfold Lx at h8 ⊢
    rw [b3, a3, a4, a5, b5]
    exact h8
theorem cpD.addC (h : cpD (xI v 280) g E np nb nc nr nh nk) (hG : okG g E s nl np nb nc nr nh nk) (hn : nc < 6) : cpD (xI (xsI (xsI v 280 (8 + nc) x) 280 2 (nI (nc + 1))) 280) (mAddC g E nc x) E np nb (nc + 1) nr nh nk := by
  have e0 : mAddC g E nc x = (xsI (xsI g (E + 13) nc x) (E + 12) 0 (nI (nc + 1))) := rfl
  rw [e0]
  have hb := hG.1.b
  have h6 := hG.1.2.2.2.2.2.2.2.2.2.2
  obtain ⟨⟨a0, a1, a2, a3, a4, a5, a6, a7⟩, b1, b2, b3, b4, b5, b6⟩ := h
  refine ⟨⟨?_, ?_, ?_, ?_, ?_, ?_, ?_, ?_⟩, fun c hc => ?_, fun p hp => ?_, fun b hb => ?_, fun r hr => ?_, fun q hq => ?_, fun q hq => ?_⟩
  · simp (disch := omega) only [xI_ate, xI_ne, a0]
  · simp (disch := omega) only [xI_ate, xI_ne, a1]
  · simp (disch := omega) only [xI_ate, xI_ne]
  · simp (disch := omega) only [xI_ate, xI_ne, a3]
  · simp (disch := omega) only [xI_ate, xI_ne, a4]
  · simp (disch := omega) only [xI_ate, xI_ne, a5]
  · simp (disch := omega) only [xI_ate, xI_ne, a6]
  · simp (disch := omega) only [xI_ate, xI_ne, a7]
  · by_cases e : c = nc
    · subst e
      simp (disch := omega) only [xI_ate, xI_ne]
    · have z := b1 c (by omega)
      simp (disch := omega) only [xI_ate, xI_ne, z, and_self]
  · have z := b2 p hp
    simp (disch := omega) only [xI_ate, xI_ne, z, and_self]
  · obtain ⟨c1, c2, c3, c4⟩ := b3 b hb
    obtain ⟨cc, hcc, ec⟩ := h6 b hb
    refine ⟨by simp (disch := omega) only [xI_ate, xI_ne, c1], by simp (disch := omega) only [xI_ate, xI_ne, c2], by simp (disch := omega) only [xI_ate, xI_ne, c3], fun i hi => ?_⟩
    rw [show xI (xsI (xsI g (E + 13) nc x) (E + 12) 0 (nI (nc + 1))) (E + 7) b = xI g (E + 7) b by simp (disch := omega) only [xI_ate, xI_ne]] at hi
    have z := c4 i hi
    rw [ec, xix_nI (by omega)] at hi
    exact ⟨by simp (disch := omega) only [xI_ate, xI_ne, z.1], by simp (disch := omega) only [xI_ate, xI_ne, z.2]⟩
  · have z := b4 r hr
    simp (disch := omega) only [xI_ate, xI_ne, z, and_self]
  · have z := b5 q hq
    simp (disch := omega) only [xI_ate, xI_ne, z, and_self]
  · have z := b6 q hq
    simp (disch := omega) only [xI_ate, xI_ne, z, and_self]
theorem cpD.addP (h : cpD (xI v 280) g E np nb nc nr nh nk) (hG : okG g E s nl np nb nc nr nh nk) (hn : np < 10) : cpD (xI (xsI (xsI (xsI v 280 (14 + np) x) 280 (24 + np) y) 280 3 (nI (np + 1))) 280) (mAddP g E np x y) E (np + 1) nb nc nr nh nk := by
  have e0 : mAddP g E np x y = (xsI (xsI (xsI g (E + 2) np x) (E + 3) np y) (E + 1) 2 (nI (np + 1))) := rfl
  rw [e0]
  have hb := hG.1.b
  have h6 := hG.1.2.2.2.2.2.2.2.2.2.2
  obtain ⟨⟨a0, a1, a2, a3, a4, a5, a6, a7⟩, b1, b2, b3, b4, b5, b6⟩ := h
  refine ⟨⟨?_, ?_, ?_, ?_, ?_, ?_, ?_, ?_⟩, fun c hc => ?_, fun p hp => ?_, fun b hb => ?_, fun r hr => ?_, fun q hq => ?_, fun q hq => ?_⟩
  · simp (disch := omega) only [xI_ate, xI_ne, a0]
  · simp (disch := omega) only [xI_ate, xI_ne, a1]
  · simp (disch := omega) only [xI_ate, xI_ne, a2]
  · simp (disch := omega) only [xI_ate, xI_ne]
  · simp (disch := omega) only [xI_ate, xI_ne, a4]
  · simp (disch := omega) only [xI_ate, xI_ne, a5]
  · simp (disch := omega) only [xI_ate, xI_ne, a6]
  · simp (disch := omega) only [xI_ate, xI_ne, a7]
  · have z := b1 c hc
    simp (disch := omega) only [xI_ate, xI_ne, z, and_self]
  · by_cases e : p = np
    · subst e
      simp (disch := omega) only [xI_ate, xI_ne, and_self]
    · have z := b2 p (by omega)
      simp (disch := omega) only [xI_ate, xI_ne, z, and_self]
  · obtain ⟨c1, c2, c3, c4⟩ := b3 b hb
    obtain ⟨cc, hcc, ec⟩ := h6 b hb
    refine ⟨by simp (disch := omega) only [xI_ate, xI_ne, c1], by simp (disch := omega) only [xI_ate, xI_ne, c2], by simp (disch := omega) only [xI_ate, xI_ne, c3], fun i hi => ?_⟩
    rw [show xI (xsI (xsI (xsI g (E + 2) np x) (E + 3) np y) (E + 1) 2 (nI (np + 1))) (E + 7) b = xI g (E + 7) b by simp (disch := omega) only [xI_ate, xI_ne]] at hi
    have z := c4 i hi
    rw [ec, xix_nI (by omega)] at hi
    exact ⟨by simp (disch := omega) only [xI_ate, xI_ne, z.1], by simp (disch := omega) only [xI_ate, xI_ne, z.2]⟩
  · have z := b4 r hr
    simp (disch := omega) only [xI_ate, xI_ne, z, and_self]
  · have z := b5 q hq
    simp (disch := omega) only [xI_ate, xI_ne, z, and_self]
  · have z := b6 q hq
    simp (disch := omega) only [xI_ate, xI_ne, z, and_self]
theorem cpD.addR (h : cpD (xI v 280) g E np nb nc nr nh nk) (hG : okG g E s nl np nb nc nr nh nk) (hn : nr < 20) : cpD (xI (xsI (xsI (xsI (xsI (xsI v 280 (274 + 4 * nr) p) 280 (274 + 4 * nr + 1) c) 280 (274 + 4 * nr + 2) d) 280 (274 + 4 * nr + 3) x) 280 5 (nI (nr + 1))) 280) (mAddR g (E + 14) nr p c d x) E np nb nc (nr + 1) nh nk := by
  have e0 : mAddR g (E + 14) nr p c d x = (xsI (xsI (xsI (xsI (xsI g (E + 15) nr p) (E + 16) nr c) (E + 17) nr d) (E + 18) nr x) (E + 14) 0 (nI (nr + 1))) := rfl
  rw [e0]
  have hb := hG.1.b
  have h6 := hG.1.2.2.2.2.2.2.2.2.2.2
  obtain ⟨⟨a0, a1, a2, a3, a4, a5, a6, a7⟩, b1, b2, b3, b4, b5, b6⟩ := h
  refine ⟨⟨?_, ?_, ?_, ?_, ?_, ?_, ?_, ?_⟩, fun c hc => ?_, fun p hp => ?_, fun b hb => ?_, fun r hr => ?_, fun q hq => ?_, fun q hq => ?_⟩
  · simp (disch := omega) only [xI_ate, xI_ne, a0]
  · simp (disch := omega) only [xI_ate, xI_ne, a1]
  · simp (disch := omega) only [xI_ate, xI_ne, a2]
  · simp (disch := omega) only [xI_ate, xI_ne, a3]
  · simp (disch := omega) only [xI_ate, xI_ne, a4]
  · simp (disch := omega) only [xI_ate, xI_ne]
  · simp (disch := omega) only [xI_ate, xI_ne, a6]
  · simp (disch := omega) only [xI_ate, xI_ne, a7]
  · have z := b1 c hc
    simp (disch := omega) only [xI_ate, xI_ne, z, and_self]
  · have z := b2 p hp
    simp (disch := omega) only [xI_ate, xI_ne, z, and_self]
  · obtain ⟨c1, c2, c3, c4⟩ := b3 b hb
    obtain ⟨cc, hcc, ec⟩ := h6 b hb
    refine ⟨by simp (disch := omega) only [xI_ate, xI_ne, c1], by simp (disch := omega) only [xI_ate, xI_ne, c2], by simp (disch := omega) only [xI_ate, xI_ne, c3], fun i hi => ?_⟩
    rw [show xI (xsI (xsI (xsI (xsI (xsI g (E + 15) nr p) (E + 16) nr c) (E + 17) nr d) (E + 18) nr x) (E + 14) 0 (nI (nr + 1))) (E + 7) b = xI g (E + 7) b by simp (disch := omega) only [xI_ate, xI_ne]] at hi
    have z := c4 i hi
    rw [ec, xix_nI (by omega)] at hi
    exact ⟨by simp (disch := omega) only [xI_ate, xI_ne, z.1], by simp (disch := omega) only [xI_ate, xI_ne, z.2]⟩
  · by_cases e : r = nr
    · subst e
      simp (disch := omega) only [xI_ate, xI_ne, and_self]
    · have z := b4 r (by omega)
      simp (disch := omega) only [xI_ate, xI_ne, z, and_self]
  · have z := b5 q hq
    simp (disch := omega) only [xI_ate, xI_ne, z, and_self]
  · have z := b6 q hq
    simp (disch := omega) only [xI_ate, xI_ne, z, and_self]
theorem cpD.addH (h : cpD (xI v 280) g E np nb nc nr nh nk) (hG : okG g E s nl np nb nc nr nh nk) (hn : nh < 6) : cpD (xI (xsI (xsI (xsI (xsI (xsI (xsI v 280 (354 + 5 * nh) p) 280 (354 + 5 * nh + 1) c) 280 (354 + 5 * nh + 2) d) 280 (354 + 5 * nh + 3) x) 280 (354 + 5 * nh + 4) y) 280 6 (nI (nh + 1))) 280) (mAddH g (E + 12) nh p c d x y) E np nb nc nr (nh + 1) nk := by
  have e0 : mAddH g (E + 12) nh p c d x y = (xsI (xsI (xsI (xsI (xsI (xsI g (E + 19) nh p) (E + 20) nh c) (E + 21) nh d) (E + 22) nh x) (E + 23) nh y) (E + 12) 3 (nI (nh + 1))) := rfl
  rw [e0]
  have hb := hG.1.b
  have h6 := hG.1.2.2.2.2.2.2.2.2.2.2
  obtain ⟨⟨a0, a1, a2, a3, a4, a5, a6, a7⟩, b1, b2, b3, b4, b5, b6⟩ := h
  refine ⟨⟨?_, ?_, ?_, ?_, ?_, ?_, ?_, ?_⟩, fun c hc => ?_, fun p hp => ?_, fun b hb => ?_, fun r hr => ?_, fun q hq => ?_, fun q hq => ?_⟩
  · simp (disch := omega) only [xI_ate, xI_ne, a0]
  · simp (disch := omega) only [xI_ate, xI_ne, a1]
  · simp (disch := omega) only [xI_ate, xI_ne, a2]
  · simp (disch := omega) only [xI_ate, xI_ne, a3]
  · simp (disch := omega) only [xI_ate, xI_ne, a4]
  · simp (disch := omega) only [xI_ate, xI_ne, a5]
  · simp (disch := omega) only [xI_ate, xI_ne]
  · simp (disch := omega) only [xI_ate, xI_ne, a7]
  · have z := b1 c hc
    simp (disch := omega) only [xI_ate, xI_ne, z, and_self]
  · have z := b2 p hp
    simp (disch := omega) only [xI_ate, xI_ne, z, and_self]
  · obtain ⟨c1, c2, c3, c4⟩ := b3 b hb
    obtain ⟨cc, hcc, ec⟩ := h6 b hb
    refine ⟨by simp (disch := omega) only [xI_ate, xI_ne, c1], by simp (disch := omega) only [xI_ate, xI_ne, c2], by simp (disch := omega) only [xI_ate, xI_ne, c3], fun i hi => ?_⟩
    rw [show xI (xsI (xsI (xsI (xsI (xsI (xsI g (E + 19) nh p) (E + 20) nh c) (E + 21) nh d) (E + 22) nh x) (E + 23) nh y) (E + 12) 3 (nI (nh + 1))) (E + 7) b = xI g (E + 7) b by simp (disch := omega) only [xI_ate, xI_ne]] at hi
    have z := c4 i hi
    rw [ec, xix_nI (by omega)] at hi
    exact ⟨by simp (disch := omega) only [xI_ate, xI_ne, z.1], by simp (disch := omega) only [xI_ate, xI_ne, z.2]⟩
  · have z := b4 r hr
    simp (disch := omega) only [xI_ate, xI_ne, z, and_self]
  · by_cases e : q = nh
    · subst e
      simp (disch := omega) only [xI_ate, xI_ne, and_self]
    · have z := b5 q (by omega)
      simp (disch := omega) only [xI_ate, xI_ne, z, and_self]
  · have z := b6 q hq
    simp (disch := omega) only [xI_ate, xI_ne, z, and_self]
theorem cpD.addK (h : cpD (xI v 280) g E np nb nc nr nh nk) (hG : okG g E s nl np nb nc nr nh nk) (hn : nk < 6) : cpD (xI (xsI (xsI (xsI (xsI v 280 (384 + 3 * nk) p) 280 (384 + 3 * nk + 1) c) 280 (384 + 3 * nk + 2) x) 280 7 (nI (nk + 1))) 280) (mAddK g (E + 12) nk p c x) E np nb nc nr nh (nk + 1) := by
  have e0 : mAddK g (E + 12) nk p c x = (xsI (xsI (xsI (xsI g (E + 24) nk p) (E + 25) nk c) (E + 26) nk x) (E + 12) 9 (nI (nk + 1))) := rfl
  rw [e0]
  have hb := hG.1.b
  have h6 := hG.1.2.2.2.2.2.2.2.2.2.2
  obtain ⟨⟨a0, a1, a2, a3, a4, a5, a6, a7⟩, b1, b2, b3, b4, b5, b6⟩ := h
  refine ⟨⟨?_, ?_, ?_, ?_, ?_, ?_, ?_, ?_⟩, fun c hc => ?_, fun p hp => ?_, fun b hb => ?_, fun r hr => ?_, fun q hq => ?_, fun q hq => ?_⟩
  · simp (disch := omega) only [xI_ate, xI_ne, a0]
  · simp (disch := omega) only [xI_ate, xI_ne, a1]
  · simp (disch := omega) only [xI_ate, xI_ne, a2]
  · simp (disch := omega) only [xI_ate, xI_ne, a3]
  · simp (disch := omega) only [xI_ate, xI_ne, a4]
  · simp (disch := omega) only [xI_ate, xI_ne, a5]
  · simp (disch := omega) only [xI_ate, xI_ne, a6]
  · simp (disch := omega) only [xI_ate, xI_ne]
  · have z := b1 c hc
    simp (disch := omega) only [xI_ate, xI_ne, z, and_self]
  · have z := b2 p hp
    simp (disch := omega) only [xI_ate, xI_ne, z, and_self]
  · obtain ⟨c1, c2, c3, c4⟩ := b3 b hb
    obtain ⟨cc, hcc, ec⟩ := h6 b hb
    refine ⟨by simp (disch := omega) only [xI_ate, xI_ne, c1], by simp (disch := omega) only [xI_ate, xI_ne, c2], by simp (disch := omega) only [xI_ate, xI_ne, c3], fun i hi => ?_⟩
    rw [show xI (xsI (xsI (xsI (xsI g (E + 24) nk p) (E + 25) nk c) (E + 26) nk x) (E + 12) 9 (nI (nk + 1))) (E + 7) b = xI g (E + 7) b by simp (disch := omega) only [xI_ate, xI_ne]] at hi
    have z := c4 i hi
    rw [ec, xix_nI (by omega)] at hi
    exact ⟨by simp (disch := omega) only [xI_ate, xI_ne, z.1], by simp (disch := omega) only [xI_ate, xI_ne, z.2]⟩
  · have z := b4 r hr
    simp (disch := omega) only [xI_ate, xI_ne, z, and_self]
  · have z := b5 q hq
    simp (disch := omega) only [xI_ate, xI_ne, z, and_self]
  · by_cases e : q = nk
    · subst e
      simp (disch := omega) only [xI_ate, xI_ne, and_self]
    · have z := b6 q (by omega)
      simp (disch := omega) only [xI_ate, xI_ne, z, and_self]
theorem cpD.addB (h : cpD (xI v 280) g E np nb nc nr nh nk) (hG : okG g E s nl np nb nc nr nh nk) (hn : nb < 16) {m : Nat} (h7 : m ≤ 6) (hx : x = nI m) (hco : ∀ i, i < m → xI v 280 (37 + 15 * nb + 2 * i) = xI g (E + 8) (6 * nb + i) ∧ xI v 280 (38 + 15 * nb + 2 * i) = xI g (E + 9) (6 * nb + i)) : cpD (xI (xsI (xsI (xsI (xsI v 280 (34 + 15 * nb) p) 280 (34 + 15 * nb + 1) d) 280 (34 + 15 * nb + 2) x) 280 4 (nI (nb + 1))) 280) (mAdd g (E + 4) nb p d x) E np (nb + 1) nc nr nh nk := by
  have e0 : mAdd g (E + 4) nb p d x = (xsI (xsI (xsI (xsI g (E + 5) nb p) (E + 6) nb d) (E + 7) nb x) (E + 4) 0 (nI (nb + 1))) := rfl
  rw [e0]
  have hb := hG.1.b
  have h6 := hG.1.2.2.2.2.2.2.2.2.2.2
  obtain ⟨⟨a0, a1, a2, a3, a4, a5, a6, a7⟩, b1, b2, b3, b4, b5, b6⟩ := h
  refine ⟨⟨?_, ?_, ?_, ?_, ?_, ?_, ?_, ?_⟩, fun c hc => ?_, fun p hp => ?_, fun b hb => ?_, fun r hr => ?_, fun q hq => ?_, fun q hq => ?_⟩
  · simp (disch := omega) only [xI_ate, xI_ne, a0]
  · simp (disch := omega) only [xI_ate, xI_ne, a1]
  · simp (disch := omega) only [xI_ate, xI_ne, a2]
  · simp (disch := omega) only [xI_ate, xI_ne, a3]
  · simp (disch := omega) only [xI_ate, xI_ne]
  · simp (disch := omega) only [xI_ate, xI_ne, a5]
  · simp (disch := omega) only [xI_ate, xI_ne, a6]
  · simp (disch := omega) only [xI_ate, xI_ne, a7]
  · have z := b1 c hc
    simp (disch := omega) only [xI_ate, xI_ne, z, and_self]
  · have z := b2 p hp
    simp (disch := omega) only [xI_ate, xI_ne, z, and_self]
  · by_cases e : b = nb
    · subst e
      refine ⟨by simp (disch := omega) only [xI_ate, xI_ne], by simp (disch := omega) only [xI_ate, xI_ne], by simp (disch := omega) only [xI_ate, xI_ne], fun i hi => ?_⟩
      have hi : i < m := by
        have : i < xix x := by
          have hi2 := hi
          rw [show xI (xsI (xsI (xsI (xsI g (E + 5) b p) (E + 6) b d) (E + 7) b x) (E + 4) 0 (nI (b + 1))) (E + 7) b = x by simp (disch := omega) only [xI_ate, xI_ne]] at hi2
          exact hi2
        rw [hx, xix_nI (by omega)] at this
        exact this
      have z := hco i hi
      constructor
      · simp (disch := omega) only [xI_ate, xI_ne, z]
      · simp (disch := omega) only [xI_ate, xI_ne, z]
    · obtain ⟨c1, c2, c3, c4⟩ := b3 b (by omega)
      obtain ⟨cc, hcc, ec⟩ := h6 b (by omega)
      refine ⟨by simp (disch := omega) only [xI_ate, xI_ne, c1], by simp (disch := omega) only [xI_ate, xI_ne, c2], by simp (disch := omega) only [xI_ate, xI_ne, c3], fun i hi => ?_⟩
      rw [show xI (xsI (xsI (xsI (xsI g (E + 5) nb p) (E + 6) nb d) (E + 7) nb x) (E + 4) 0 (nI (nb + 1))) (E + 7) b = xI g (E + 7) b by simp (disch := omega) only [xI_ate, xI_ne]] at hi
      have z := c4 i hi
      rw [ec, xix_nI (by omega)] at hi
      exact ⟨by simp (disch := omega) only [xI_ate, xI_ne, z.1], by simp (disch := omega) only [xI_ate, xI_ne, z.2]⟩
  · have z := b4 r hr
    simp (disch := omega) only [xI_ate, xI_ne, z, and_self]
  · have z := b5 q hq
    simp (disch := omega) only [xI_ate, xI_ne, z, and_self]
  · have z := b6 q hq
    simp (disch := omega) only [xI_ate, xI_ne, z, and_self]
theorem cpD.put (h : cpD (xI v 280) g E np nb nc nr nh nk) (hG : okG g E s nl np nb nc nr nh nk) (hn : nb < 16) (hk : k < 6) : cpD (xI (xsI (xsI v 280 (34 + 15 * nb + 3 + 2 * k) x) 280 (34 + 15 * nb + 4 + 2 * k) y) 280) (mPut g (E + 4) nb k x y) E np nb nc nr nh nk := by
  have e0 : mPut g (E + 4) nb k x y = (xsI (xsI g (E + 8) (6 * nb + k) x) (E + 9) (6 * nb + k) y) := rfl
  rw [e0]
  have hb := hG.1.b
  have h6 := hG.1.2.2.2.2.2.2.2.2.2.2
  obtain ⟨⟨a0, a1, a2, a3, a4, a5, a6, a7⟩, b1, b2, b3, b4, b5, b6⟩ := h
  refine ⟨⟨?_, ?_, ?_, ?_, ?_, ?_, ?_, ?_⟩, fun c hc => ?_, fun p hp => ?_, fun b hb => ?_, fun r hr => ?_, fun q hq => ?_, fun q hq => ?_⟩
  · simp (disch := omega) only [xI_ate, xI_ne, a0]
  · simp (disch := omega) only [xI_ate, xI_ne, a1]
  · simp (disch := omega) only [xI_ate, xI_ne, a2]
  · simp (disch := omega) only [xI_ate, xI_ne, a3]
  · simp (disch := omega) only [xI_ate, xI_ne, a4]
  · simp (disch := omega) only [xI_ate, xI_ne, a5]
  · simp (disch := omega) only [xI_ate, xI_ne, a6]
  · simp (disch := omega) only [xI_ate, xI_ne, a7]
  · have z := b1 c hc
    simp (disch := omega) only [xI_ate, xI_ne, z, and_self]
  · have z := b2 p hp
    simp (disch := omega) only [xI_ate, xI_ne, z, and_self]
  · obtain ⟨c1, c2, c3, c4⟩ := b3 b hb
    obtain ⟨cc, hcc, ec⟩ := h6 b hb
    refine ⟨by simp (disch := omega) only [xI_ate, xI_ne, c1], by simp (disch := omega) only [xI_ate, xI_ne, c2], by simp (disch := omega) only [xI_ate, xI_ne, c3], fun i hi => ?_⟩
    rw [show xI (xsI (xsI g (E + 8) (6 * nb + k) x) (E + 9) (6 * nb + k) y) (E + 7) b = xI g (E + 7) b by simp (disch := omega) only [xI_ate, xI_ne]] at hi
    have z := c4 i hi
    rw [ec, xix_nI (by omega)] at hi
    exact ⟨by simp (disch := omega) only [xI_ate, xI_ne, z.1], by simp (disch := omega) only [xI_ate, xI_ne, z.2]⟩
  · have z := b4 r hr
    simp (disch := omega) only [xI_ate, xI_ne, z, and_self]
  · have z := b5 q hq
    simp (disch := omega) only [xI_ate, xI_ne, z, and_self]
  · have z := b6 q hq
    simp (disch := omega) only [xI_ate, xI_ne, z, and_self]
end
