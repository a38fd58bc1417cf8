/-! SALE: its state -/
section
variable {u w g : xMem} {P : Option Value → xMem → Prop} {D E s nl np nb nc nr nh nk n nf na f : Nat} {p q d x y c e k a t i l what many layer till price units : Int32} {op : Bool}
theorem okB.snoc {m : xMem} {L : List Int32} {fr fc : Int32 → Int32} {ff : Int32 → Bool} {jc a0 a1 a2 : Nat} (h : okB u n nf nc np) (hn : n < 40) (h0 : xI m 62 0 = nI (n + 1)) (h2 : xI m 62 2 = xI u 62 2) (hf : ∀ b, b = 64 ∨ b = 65 → xI m b = xI u b) (hl : ∀ l k j, l < n → k ≤ 4 → xI m (69 + 5 * l + k) j = xI u (69 + 5 * l + k) j)
    (hc : jc < nc ∧ xI m (69 + 5 * n) 3 = nI jc) (hd : a0 ≤ 999 ∧ xI m (69 + 5 * n) 0 = nI a0) (hx : a1 ≤ 40 ∧ xI m (69 + 5 * n) 1 = nI a1) (hy : a2 ≤ 40 ∧ xI m (69 + 5 * n) 2 = nI a2) (h7 : xI m (69 + 5 * n) 7 = -1) (hp : Pts m (69 + 5 * n) L fr fc ff) (hL : L.length ≤ 4) (hm : ∀ q, q ∈ L → ∃ k, k < np ∧ q = nI k) (hfc : ∀ q, fc q = -2 ∨ 0 ≤ fc q) : okB m (n + 1) nf nc np := by
  obtain ⟨o1, o2, o3, o4, o5⟩ := h
  have lk : ∀ l k, l < n → k ≤ 4 → xI m (69 + 5 * l + k) = xI u (69 + 5 * l + k) := fun l k q1 q2 => funext fun j => hl l k j q1 q2
  have l0 : ∀ l, l < n → xI m (69 + 5 * l) = xI u (69 + 5 * l) := fun l q => lk l 0 q (by omega)
  have pe : ∀ l, l < n → pn m l = pn u l := fun l q => by unfold pn; rw [l0 l q]
  have pN : pn m n = L.length := by unfold pn; rw [hp.1, xix_nI (by omega)]
  refine ⟨⟨⟨h0, by omega⟩, fun l q => ?_⟩, by rw [h2]; exact o2, fun l q => ?_, by rw [hf 64 (by omega), hf 65 (by omega)]; exact o4, by rw [hf 64 (by omega)]; exact o5⟩
  · by_cases z : l = n
    · subst z
      rw [pN]
      exact ⟨hp.1, hL⟩
    · rw [pe l (by omega), l0 l (by omega)]
      exact o1.2 l (by omega)
  · by_cases z : l = n
    · subst z
      refine ⟨⟨jc, hc⟩, ⟨a0, hd⟩, ⟨a1, hx⟩, ⟨a2, hy⟩, Or.inl h7, fun i hi => ?_⟩
      rw [pN] at hi
      obtain ⟨p1, -, p3, p4⟩ := hp.2 i hi
      obtain ⟨k, hk, ek⟩ := hm _ (getD_mem hi)
      refine ⟨⟨k, hk, p1.trans ek⟩, ?_, ⟨_, p4⟩⟩
      rw [p3]
      exact hfc _
    · rw [l0 l (by omega), lk l 1 (by omega) (by omega), lk l 3 (by omega) (by omega), lk l 4 (by omega) (by omega), pe l (by omega), hf 64 (by omega)]
      exact o3 l (by omega)
theorem cpB.snoc {m : xMem} {L : List Int32} {fr fc : Int32 → Int32} {ff : Int32 → Bool} (h : cpB u u n nf np) (hn : n < 40) (hp4 : ∀ l, l < n → pn u l ≤ 4) (h0 : xI m 278 20 = nI (n + 1)) (h2 : xI m 278 27 = xI u 278 27) (hf : ∀ b, b = 64 ∨ b = 65 ∨ b = 290 ∨ b = 291 → xI m b = xI u b) (hl : ∀ l k j, l < n → k ≤ 4 → xI m (69 + 5 * l + k) j = xI u (69 + 5 * l + k) j)
    (hb : ∀ j, j < 25 * n → xI m 286 j = xI u 286 j) (hs : ∀ k, k < 7 → xI m 286 (25 * n + k) = xI m (69 + 5 * n) k) (h7 : xI m (69 + 5 * n) 7 = -1) (h8 : xI m 286 (25 * n + 8) = 0) (hq : xI m 286 (25 * n + 7) = nI L.length) (hp : Pts m (69 + 5 * n) L fr fc ff) (hL : L.length ≤ 4)
    (hr : ∀ t, t < L.length → xI m 286 (25 * n + 9 + 4 * t) = L.getD t 0 ∧ xI m 286 (25 * n + 9 + 4 * t + 1) = fr (L.getD t 0) ∧ xI m 286 (25 * n + 9 + 4 * t + 2) = fc (L.getD t 0) ∧ xI m 286 (25 * n + 9 + 4 * t + 3) = bI (ff (L.getD t 0))) : cpB m m (n + 1) nf np := by
  obtain ⟨o1, o2, o3, o4⟩ := h
  have lk : ∀ l k, l < n → k ≤ 4 → xI m (69 + 5 * l + k) = xI u (69 + 5 * l + k) := fun l k q1 q2 => funext fun j => hl l k j q1 q2
  have l0 : ∀ l, l < n → xI m (69 + 5 * l) = xI u (69 + 5 * l) := fun l q => lk l 0 q (by omega)
  have pe : ∀ l, l < n → pn m l = pn u l := fun l q => by unfold pn; rw [l0 l q]
  have pN : pn m n = L.length := by unfold pn; rw [hp.1, xix_nI (by omega)]
  refine ⟨h0, h2.trans o2, fun l q => ?_, by rw [hf 290 (by omega), hf 291 (by omega), hf 64 (by omega), hf 65 (by omega)]; exact o4⟩
  by_cases z : l = n
  · subst z
    refine ⟨hs, hq.trans hp.1.symm, by rw [h8, h7]; rfl, fun i hi => ?_⟩
    rw [pN] at hi
    obtain ⟨p1, p2, p3, p4⟩ := hp.2 i hi
    obtain ⟨r1, r2, r3, r4⟩ := hr i hi
    exact ⟨r1.trans p1.symm, r2.trans p2.symm, r3.trans p3.symm, r4.trans p4.symm⟩
  · obtain ⟨a1, a2, a3, a4⟩ := o3 l (by omega)
    have i4 := hp4 l (by omega)
    refine ⟨fun k hk => ?_, ?_, ?_, fun i hi => ?_⟩
    · rw [hb _ (by omega), l0 l (by omega)]
      exact a1 k hk
    · rw [hb _ (by omega), l0 l (by omega)]
      exact a2
    · rw [hb _ (by omega), l0 l (by omega)]
      exact a3
    · rw [pe l (by omega)] at hi
      rw [hb _ (by omega), hb _ (by omega), hb _ (by omega), hb _ (by omega), lk l 1 (by omega) (by omega), lk l 2 (by omega) (by omega), lk l 3 (by omega) (by omega), lk l 4 (by omega) (by omega)]
      exact a4 i hi
theorem mixSC (u m : xMem) : ∃ w, xag SC u w ∧ ∀ a j, SC a j → xI w a j = xI m a j := by
  classical
  exact ⟨(u.1, (fun a k => if SC a k then m.2.1 a k else u.2.1 a k), u.2.2), ⟨rfl, rfl, fun a j q => if_neg q⟩, fun a j q => if_pos q⟩
theorem St.mk4 {m : xMem} {n' nf' na' : Nat} (h : St u D E s nl np nb nc nr nh nk n nf na f true) (h1 : m.1 = u.1) (h2 : m.2.2 = u.2.2) (hB : okB m n' nf' nc np) (hC : cpB m m n' nf' np) (hA : okA m na' n' nf' nb nr)
    (hf : ∀ b j, ¬ SC b j → (b = 0 ∧ j = 2) ∨ (1 ≤ b ∧ b ≤ 3) ∨ (D < b ∧ b ≤ D + 26) ∨ (b = 278 ∧ (j = 7 ∨ j = 9 ∨ j = 15)) ∨ b = 279 ∨ b = 283 → xI m b j = xI u b j) : St m D E s nl np nb nc nr nh nk n' nf' na' f true := by
  obtain ⟨w, hw, hs⟩ := mixSC u m
  refine (h.ag hw).mk3 (h1.trans hw.1.symm) (congrArg (fun q => q.2) (h2.trans hw.2.1.symm)) hB hC hA (fun b j q => ?_)
  by_cases z : SC b j
  · exact (hs b j z).symm
  · rw [hf b j z q, hw.2.2 b j z]
theorem sale_st {c V v : xMem} {j a0 a1 a2 : Nat} {L : List Int32} {fr fc : Int32 → Int32} {ff : Int32 → Bool} (h : St u D E s nl np nb nc nr nh nk n nf na f true) (hj : j < nc) (hn : n < 40) (hL : L.length ≤ 4) (hm : ∀ q, q ∈ L → ∃ k, k < np ∧ q = nI k) (hfc : ∀ q, fc q = -2 ∨ 0 ≤ fc q) (hd : a0 ≤ 999) (hx : a1 ≤ 40) (hy : a2 ≤ 40)
    (hc : SlC u c n na L (nI a0) (nI a1) (nI a2) (nI j) units price fr fc ff) (hV : SlM (mThr c) V n L.length L (nI a0) (nI a1) (nI a2) (nI j) units price fr fc ff) (hv : Kept V v 278 31 292 na 0 (nI n) units) : Fr u (mGood (xsI v 278 20 (nI (n + 1)))) ∧ Inv (mGood (xsI v 278 20 (nI (n + 1)))) := by
  have hb := h.b
  have hD := h.1.d
  obtain ⟨c1, c2, cF, ⟨c06, c620⟩, ⟨l0, l1, l2, l3, l4, l5, l6, l7⟩, cP, cna, cA⟩ := hc
  obtain ⟨V1, V2, VF, -, VB, ⟨m0, m1, m2, m3, m4, m5, m6, m7, m8⟩, Vr⟩ := hV
  obtain ⟨v1, v2, v31, vF, vA⟩ := hv
  have fm : ∀ a k, (a ≠ 278 ∨ (k ≠ 1 ∧ k ≠ 2 ∧ k ≠ 20)) → xI (mGood (xsI v 278 20 (nI (n + 1)))) a k = xI v a k := fun a k q => by
    unfold mGood
    rw [xI_ne (by omega), xI_ne (by omega), xI_ne (by omega)]
  have fV : ∀ a k, (a ≠ 278 ∨ (k ≠ 1 ∧ k ≠ 2 ∧ k ≠ 20 ∧ k ≠ 31)) → (a < 292 ∨ 294 < a) → xI (mGood (xsI v 278 20 (nI (n + 1)))) a k = xI V a k := fun a k q1 q2 => by
    rw [fm a k (by omega), vF a k (by omega) (by omega) (by omega) (by omega)]
  have fc' : ∀ a k, (a ≠ 278 ∨ (k ≠ 0 ∧ k ≠ 1 ∧ k ≠ 2 ∧ k ≠ 20 ∧ k ≠ 31)) → (a < 292 ∨ 294 < a) → a ≠ 284 → a ≠ 286 → xI (mGood (xsI v 278 20 (nI (n + 1)))) a k = xI c a k := fun a k q1 q2 q3 q4 => by
    rw [fV a k (by omega) q2, VF a k q3 q4]
    exact xI_ne (by omega)
  have fu : ∀ a k, ¬ SC a k → (a < 69 + 5 * n ∨ 73 + 5 * n < a) → (a ≠ 62 ∨ k ≠ 0) → (a < 269 ∨ 272 < a) → (a ≠ 278 ∨ (k ≠ 0 ∧ k ≠ 1 ∧ k ≠ 2 ∧ k ≠ 20 ∧ k ≠ 31)) → (a < 292 ∨ 294 < a) → a ≠ 284 → a ≠ 286 → xI (mGood (xsI v 278 20 (nI (n + 1)))) a k = xI u a k := fun a k q1 q2 q3 q4 q5 q6 q7 q8 => by
    rw [fc' a k q5 q6 q7 q8, cF a k q1 q2 q3 q4]
  have s1 : (mGood (xsI v 278 20 (nI (n + 1)))).1 = u.1 := v1.trans (V1.trans c1)
  have s2 : (mGood (xsI v 278 20 (nI (n + 1)))).2.2 = u.2.2 := v2.trans (V2.trans c2)
  have g06 : xI (mGood (xsI v 278 20 (nI (n + 1)))) 0 6 = 0 := (fc' 0 6 (by omega) (by omega) (by omega) (by omega)).trans c06
  have g1 : xI (mGood (xsI v 278 20 (nI (n + 1)))) 278 1 = 0 := by
    unfold mGood
    rw [xI_ne (by omega), xI_at]
  have g2 : xI (mGood (xsI v 278 20 (nI (n + 1)))) 278 2 = -1 := xI_at
  have g20 : xI (mGood (xsI v 278 20 (nI (n + 1)))) 278 20 = nI (n + 1) := by
    unfold mGood
    rw [xI_ne (by omega), xI_ne (by omega), xI_at]
  have g31 : xI (mGood (xsI v 278 20 (nI (n + 1)))) 278 31 = nI (naS na) := (fm 278 31 (by omega)).trans v31
  have ga : ∀ k, k < 8 → xI (mGood (xsI v 278 20 (nI (n + 1)))) 292 k = shA (xI u 292) na 0 k ∧ xI (mGood (xsI v 278 20 (nI (n + 1)))) 293 k = shA (xI u 293) na (nI n) k ∧ xI (mGood (xsI v 278 20 (nI (n + 1)))) 294 k = shA (xI u 294) na units k := fun k hk => by
    obtain ⟨k1, k2, k3⟩ := vA k hk
    have e : ∀ a, 292 ≤ a → a ≤ 294 → xI V a = xI u a := fun a q1 q2 => funext fun j => by
      rw [VF a j (by omega) (by omega)]
      exact (xI_ne (by omega)).trans (cF a j (fun q => by unfold SC at q; omega) (by omega) (by omega) (by omega))
    rw [e 292 (by omega) (by omega)] at k1
    rw [e 293 (by omega) (by omega)] at k2
    rw [e 294 (by omega) (by omega)] at k3
    rw [fm 292 k (by omega), fm 293 k (by omega), fm 294 k (by omega)]
    exact ⟨k1, k2, k3⟩
  have vB : ∀ k, k < 25 * n → xI (mGood (xsI v 278 20 (nI (n + 1)))) 286 k = xI u 286 k := fun k hk => by
    rw [fV 286 k (by omega) (by omega), VB k (Or.inl hk)]
    exact (xI_ne (by omega)).trans (cF 286 k (fun q => by unfold SC at q; omega) (by omega) (by omega) (by omega))
  have fV6 : ∀ k, xI (mGood (xsI v 278 20 (nI (n + 1)))) 286 k = xI V 286 k := fun k => fV 286 k (by omega) (by omega)
  have fcl : ∀ k t, k ≤ 4 → xI (mGood (xsI v 278 20 (nI (n + 1)))) (69 + 5 * n + k) t = xI c (69 + 5 * n + k) t := fun k t q => fc' _ t (by omega) (by omega) (by omega) (by omega)
  have gP : Pts (mGood (xsI v 278 20 (nI (n + 1)))) (69 + 5 * n) L fr fc ff := by
    refine ⟨(fcl 0 8 (by omega)).trans cP.1, fun i hi => ?_⟩
    rw [fcl 1 i (by omega), fcl 2 i (by omega), fcl 3 i (by omega), fcl 4 i (by omega)]
    exact cP.2 i hi
  have fl : ∀ l k t, l < n → k ≤ 4 → xI (mGood (xsI v 278 20 (nI (n + 1)))) (69 + 5 * l + k) t = xI u (69 + 5 * l + k) t := fun l k t q1 q2 => fu _ t (fun q => by unfold SC at q; omega) (by omega) (by omega) (by omega) (by omega) (by omega) (by omega) (by omega)
  have fh : ∀ a k, a = 62 ∧ k = 2 ∨ a = 64 ∨ a = 65 ∨ a = 290 ∨ a = 291 ∨ a = 278 ∧ (k = 27 ∨ k = 7 ∨ k = 9 ∨ k = 15) ∨ (a = 0 ∧ k = 2) ∨ (1 ≤ a ∧ a ≤ 3) ∨ a = 279 ∨ a = 283 ∨ a = 2000000 → xI (mGood (xsI v 278 20 (nI (n + 1)))) a k = xI u a k := fun a k q => fu a k (fun q => by unfold SC at q; omega) (by omega) (by omega) (by omega) (by omega) (by omega) (by omega) (by omega)
  have gA : ∀ k, k < 8 → xI (mGood (xsI v 278 20 (nI (n + 1)))) 270 k = shA (xI u 270) na 1 k ∧ xI (mGood (xsI v 278 20 (nI (n + 1)))) 271 k = shA (xI u 271) na 0 k ∧ xI (mGood (xsI v 278 20 (nI (n + 1)))) 272 k = shA (xI u 272) na 0 k := fun k hk => by
    rw [fc' 270 k (by omega) (by omega) (by omega) (by omega), fc' 271 k (by omega) (by omega) (by omega) (by omega), fc' 272 k (by omega) (by omega) (by omega) (by omega)]
    exact cA k hk
  have g269 : xI (mGood (xsI v 278 20 (nI (n + 1)))) 269 0 = nI (naS na) := (fc' 269 0 (by omega) (by omega) (by omega) (by omega)).trans cna
  have g62 : xI (mGood (xsI v 278 20 (nI (n + 1)))) 62 0 = nI (n + 1) := (fc' 62 0 (by omega) (by omega) (by omega) (by omega)).trans c620
  have fs : ∀ t, xI (mGood (xsI v 278 20 (nI (n + 1)))) (69 + 5 * n) t = xI c (69 + 5 * n) t := fun t => fcl 0 t (by omega)
  have fD : ∀ b j, D < b ∧ b ≤ D + 26 → ¬ SC b j → xI (mGood (xsI v 278 20 (nI (n + 1)))) b j = xI u b j := fun b j q1 q3 => fu b j q3 (by omega) (by omega) (by omega) (by omega) (by omega) (by omega) (by omega)
  generalize mGood (xsI v 278 20 (nI (n + 1))) = m at *
  have hs : ∀ k, k < 7 → xI m 286 (25 * n + k) = xI m (69 + 5 * n) k := fun k hk => by
    rw [fV6, fs]
    have : k = 0 ∨ k = 1 ∨ k = 2 ∨ k = 3 ∨ k = 4 ∨ k = 5 ∨ k = 6 := by omega
    rcases this with rfl | rfl | rfl | rfl | rfl | rfl | rfl
    · exact m0.trans l0.symm
    · exact m1.trans l1.symm
    · exact m2.trans l2.symm
    · exact m3.trans l3.symm
    · exact m4.trans l4.symm
    · exact m5.trans l5.symm
    · exact m6.trans l6.symm
  have okB1 : okB m (n + 1) nf nc np := h.okb.snoc hn g62 (fh 62 2 (by omega)) (fun b q => funext fun k => fh b k (by omega)) fl ⟨hj, (fs 3).trans l3⟩ ⟨hd, (fs 0).trans l0⟩ ⟨hx, (fs 1).trans l1⟩ ⟨hy, (fs 2).trans l2⟩ ((fs 7).trans l7) gP hL hm hfc
  have cpB1 : cpB m m (n + 1) nf np := h.2.2.2.2.2.1.snoc hn (fun l hl => (h.okl.2 l hl).2) g20 (fh 278 27 (by omega)) (fun b q => funext fun k => fh b k (by omega)) fl vB hs ((fs 7).trans l7) ((fV6 _).trans m8) ((fV6 _).trans m7) gP hL (fun t ht => by rw [fV6, fV6, fV6, fV6]; exact Vr t ht)
  have okA1 : okA m (naS na) (n + 1) nf nb nr := okA.keep (kc := 1) (km := 0) (lc := 0) (lm := nI n) (uc := 0) (um := units) h.oka g269 g31 gA ga (Or.inr (Or.inl ⟨rfl, rfl⟩)) (by simp) (by simp) (by simp) (by simp)
  refine ⟨⟨s1, by rw [s2], funext fun k => fh _ k (by omega)⟩, ⟨by rw [g06, g1], by rw [g06, if_neg (by decide)]; exact g2⟩, D, E, s, nl, np, nb, nc, nr, nh, nk, n + 1, nf, naS na, f, true, h.mk4 s1 s2 okB1 cpB1 okA1 (fun a k z q => ?_)⟩
  by_cases y : D < a ∧ a ≤ D + 26
  · exact fD a k y z
  · exact fh a k (by omega)
end
