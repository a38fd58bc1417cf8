/-! THE DESK that stands: rates and bounds added -/
section
variable {w v g g' m : xMem} {M : Nat → Int32} {P : Option Value → xMem → Prop} {e a b E r k n s nl np nb nc nr nh nk : Nat} {x y p c d lo hi : Int32}
theorem cpD.addR9 (h : cpD (xI v 279) g E np nb nc nr nh nk) (hG : okG g E s nl np nb nc nr nh nk) (hn : nr < 20) : cpD (xI (xsI (xsI (xsI (xsI (xsI v 279 (274 + 4 * nr) p) 279 (274 + 4 * nr + 1) c) 279 (274 + 4 * nr + 2) d) 279 (274 + 4 * nr + 3) x) 279 5 (nI (nr + 1))) 279) (mAddR g (E + 14) nr p c d x) E np nb nc (nr + 1) nh nk := by
  have e0 : mAddR g (E + 14) nr p c d x = (xsI (xsI (xsI (xsI (xsI g (E + 15) nr p) (E + 16) nr c) (E + 17) nr d) (E + 18) nr x) (E + 14) 0 (nI (nr + 1))) := rfl
  rw [e0]
  have hb := hG.1.b
  have h6 := hG.1.2.2.2.2.2.2.2.2.2.2
  obtain ⟨⟨a0, a1, a2, a3, a4, a5, a6, a7⟩, b1, b2, b3, b4, b5, b6⟩ := h
  refine ⟨⟨?_, ?_, ?_, ?_, ?_, ?_, ?_, ?_⟩, fun c hc => ?_, fun p hp => ?_, fun b hb => ?_, fun r hr => ?_, fun q hq => ?_, fun q hq => ?_⟩
  · simp (disch := omega) only [xI_ate, xI_ne, a0]
  · simp (disch := omega) only [xI_ate, xI_ne, a1]
  · simp (disch := omega) only [xI_ate, xI_ne, a2]
  · simp (disch := omega) only [xI_ate, xI_ne, a3]
  · simp (disch := omega) only [xI_ate, xI_ne, a4]
  · simp (disch := omega) only [xI_ate, xI_ne]
  · simp (disch := omega) only [xI_ate, xI_ne, a6]
  · simp (disch := omega) only [xI_ate, xI_ne, a7]
  · have z := b1 c hc
    simp (disch := omega) only [xI_ate, xI_ne, z, and_self]
  · have z := b2 p hp
    simp (disch := omega) only [xI_ate, xI_ne, z, and_self]
  · obtain ⟨c1, c2, c3, c4⟩ := b3 b hb
    obtain ⟨cc, hcc, ec⟩ := h6 b hb
    refine ⟨by simp (disch := omega) only [xI_ate, xI_ne, c1], by simp (disch := omega) only [xI_ate, xI_ne, c2], by simp (disch := omega) only [xI_ate, xI_ne, c3], fun i hi => ?_⟩
    rw [show xI (xsI (xsI (xsI (xsI (xsI g (E + 15) nr p) (E + 16) nr c) (E + 17) nr d) (E + 18) nr x) (E + 14) 0 (nI (nr + 1))) (E + 7) b = xI g (E + 7) b by simp (disch := omega) only [xI_ate, xI_ne]] at hi
    have z := c4 i hi
    rw [ec, xix_nI (by omega)] at hi
    exact ⟨by simp (disch := omega) only [xI_ate, xI_ne, z.1], by simp (disch := omega) only [xI_ate, xI_ne, z.2]⟩
  · by_cases e : r = nr
    · subst e
      simp (disch := omega) only [xI_ate, xI_ne, and_self]
    · have z := b4 r (by omega)
      simp (disch := omega) only [xI_ate, xI_ne, z, and_self]
  · have z := b5 q hq
    simp (disch := omega) only [xI_ate, xI_ne, z, and_self]
  · have z := b6 q hq
    simp (disch := omega) only [xI_ate, xI_ne, z, and_self]
theorem cpD.addB9 (h : cpD (xI v 279) g E np nb nc nr nh nk) (hG : okG g E s nl np nb nc nr nh nk) (hn : nb < 16) {m : Nat} (h7 : m ≤ 6) (hx : x = nI m) (hco : ∀ i, i < m → xI v 279 (37 + 15 * nb + 2 * i) = xI g (E + 8) (6 * nb + i) ∧ xI v 279 (38 + 15 * nb + 2 * i) = xI g (E + 9) (6 * nb + i)) : cpD (xI (xsI (xsI (xsI (xsI v 279 (34 + 15 * nb) p) 279 (34 + 15 * nb + 1) d) 279 (34 + 15 * nb + 2) x) 279 4 (nI (nb + 1))) 279) (mAdd g (E + 4) nb p d x) E np (nb + 1) nc nr nh nk := by
  have e0 : mAdd g (E + 4) nb p d x = (xsI (xsI (xsI (xsI g (E + 5) nb p) (E + 6) nb d) (E + 7) nb x) (E + 4) 0 (nI (nb + 1))) := rfl
  rw [e0]
  have hb := hG.1.b
  have h6 := hG.1.2.2.2.2.2.2.2.2.2.2
  obtain ⟨⟨a0, a1, a2, a3, a4, a5, a6, a7⟩, b1, b2, b3, b4, b5, b6⟩ := h
  refine ⟨⟨?_, ?_, ?_, ?_, ?_, ?_, ?_, ?_⟩, fun c hc => ?_, fun p hp => ?_, fun b hb => ?_, fun r hr => ?_, fun q hq => ?_, fun q hq => ?_⟩
  · simp (disch := omega) only [xI_ate, xI_ne, a0]
  · simp (disch := omega) only [xI_ate, xI_ne, a1]
  · simp (disch := omega) only [xI_ate, xI_ne, a2]
  · simp (disch := omega) only [xI_ate, xI_ne, a3]
  · simp (disch := omega) only [xI_ate, xI_ne]
  · simp (disch := omega) only [xI_ate, xI_ne, a5]
  · simp (disch := omega) only [xI_ate, xI_ne, a6]
  · simp (disch := omega) only [xI_ate, xI_ne, a7]
  · have z := b1 c hc
    simp (disch := omega) only [xI_ate, xI_ne, z, and_self]
  · have z := b2 p hp
    simp (disch := omega) only [xI_ate, xI_ne, z, and_self]
  · by_cases e : b = nb
    · subst e
      refine ⟨by simp (disch := omega) only [xI_ate, xI_ne], by simp (disch := omega) only [xI_ate, xI_ne], by simp (disch := omega) only [xI_ate, xI_ne], fun i hi => ?_⟩
      have hi : i < m := by
        have : i < xix x := by
          have hi2 := hi
          rw [show xI (xsI (xsI (xsI (xsI g (E + 5) b p) (E + 6) b d) (E + 7) b x) (E + 4) 0 (nI (b + 1))) (E + 7) b = x by simp (disch := omega) only [xI_ate, xI_ne]] at hi2
          exact hi2
        rw [hx, xix_nI (by omega)] at this
        exact this
      have z := hco i hi
      constructor
      · simp (disch := omega) only [xI_ate, xI_ne, z]
      · simp (disch := omega) only [xI_ate, xI_ne, z]
    · obtain ⟨c1, c2, c3, c4⟩ := b3 b (by omega)
      obtain ⟨cc, hcc, ec⟩ := h6 b (by omega)
      refine ⟨by simp (disch := omega) only [xI_ate, xI_ne, c1], by simp (disch := omega) only [xI_ate, xI_ne, c2], by simp (disch := omega) only [xI_ate, xI_ne, c3], fun i hi => ?_⟩
      rw [show xI (xsI (xsI (xsI (xsI g (E + 5) nb p) (E + 6) nb d) (E + 7) nb x) (E + 4) 0 (nI (nb + 1))) (E + 7) b = xI g (E + 7) b by simp (disch := omega) only [xI_ate, xI_ne]] at hi
      have z := c4 i hi
      rw [ec, xix_nI (by omega)] at hi
      exact ⟨by simp (disch := omega) only [xI_ate, xI_ne, z.1], by simp (disch := omega) only [xI_ate, xI_ne, z.2]⟩
  · have z := b4 r hr
    simp (disch := omega) only [xI_ate, xI_ne, z, and_self]
  · have z := b5 q hq
    simp (disch := omega) only [xI_ate, xI_ne, z, and_self]
  · have z := b6 q hq
    simp (disch := omega) only [xI_ate, xI_ne, z, and_self]
theorem cpD.put9 (h : cpD (xI v 279) g E np nb nc nr nh nk) (hG : okG g E s nl np nb nc nr nh nk) (hn : nb < 16) (hk : k < 6) : cpD (xI (xsI (xsI v 279 (34 + 15 * nb + 3 + 2 * k) x) 279 (34 + 15 * nb + 4 + 2 * k) y) 279) (mPut g (E + 4) nb k x y) E np nb nc nr nh nk := by
  have e0 : mPut g (E + 4) nb k x y = (xsI (xsI g (E + 8) (6 * nb + k) x) (E + 9) (6 * nb + k) y) := rfl
  rw [e0]
  have hb := hG.1.b
  have h6 := hG.1.2.2.2.2.2.2.2.2.2.2
  obtain ⟨⟨a0, a1, a2, a3, a4, a5, a6, a7⟩, b1, b2, b3, b4, b5, b6⟩ := h
  refine ⟨⟨?_, ?_, ?_, ?_, ?_, ?_, ?_, ?_⟩, fun c hc => ?_, fun p hp => ?_, fun b hb => ?_, fun r hr => ?_, fun q hq => ?_, fun q hq => ?_⟩
  · simp (disch := omega) only [xI_ate, xI_ne, a0]
  · simp (disch := omega) only [xI_ate, xI_ne, a1]
  · simp (disch := omega) only [xI_ate, xI_ne, a2]
  · simp (disch := omega) only [xI_ate, xI_ne, a3]
  · simp (disch := omega) only [xI_ate, xI_ne, a4]
  · simp (disch := omega) only [xI_ate, xI_ne, a5]
  · simp (disch := omega) only [xI_ate, xI_ne, a6]
  · simp (disch := omega) only [xI_ate, xI_ne, a7]
  · have z := b1 c hc
    simp (disch := omega) only [xI_ate, xI_ne, z, and_self]
  · have z := b2 p hp
    simp (disch := omega) only [xI_ate, xI_ne, z, and_self]
  · obtain ⟨c1, c2, c3, c4⟩ := b3 b hb
    obtain ⟨cc, hcc, ec⟩ := h6 b hb
    refine ⟨by simp (disch := omega) only [xI_ate, xI_ne, c1], by simp (disch := omega) only [xI_ate, xI_ne, c2], by simp (disch := omega) only [xI_ate, xI_ne, c3], fun i hi => ?_⟩
    rw [show xI (xsI (xsI g (E + 8) (6 * nb + k) x) (E + 9) (6 * nb + k) y) (E + 7) b = xI g (E + 7) b by simp (disch := omega) only [xI_ate, xI_ne]] at hi
    have z := c4 i hi
    rw [ec, xix_nI (by omega)] at hi
    exact ⟨by simp (disch := omega) only [xI_ate, xI_ne, z.1], by simp (disch := omega) only [xI_ate, xI_ne, z.2]⟩
  · have z := b4 r hr
    simp (disch := omega) only [xI_ate, xI_ne, z, and_self]
  · have z := b5 q hq
    simp (disch := omega) only [xI_ate, xI_ne, z, and_self]
  · have z := b6 q hq
    simp (disch := omega) only [xI_ate, xI_ne, z, and_self]
end
