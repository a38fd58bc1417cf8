/-! FILE: its state -/
section
variable {u w g : xMem} {P : Option Value → xMem → Prop} {D E s nl np nb nc nr nh nk n nf na f : Nat} {p q d x y c e k a t i l what many layer till price units : Int32} {op : Bool}
theorem Fld.cg {m m' : xMem} (h : Fld u m d n nf) (hn : n ≤ 40) (h62 : xI m' 62 0 = xI m 62 0) (h62b : xI m' 62 2 = xI m 62 2) (hf : ∀ b j, b = 64 ∨ b = 65 ∨ (69 ≤ b ∧ b ≤ 268) → xI m' b j = xI m b j) : Fld u m' d n nf := by
  obtain ⟨m1, m2, m3, m4, m5, m6, m7, m8⟩ := h
  exact ⟨fun j hj => (hf 65 j (by omega)).trans (m1 j hj), fun q hq => (hf 65 _ (by omega)).trans (m2 q hq), fun j hj => (hf 64 j (by omega)).trans (m3 j hj), (hf 64 _ (by omega)).trans m4, h62.trans m5, h62b.trans m6, fun l k j q1 q2 q3 => (hf _ j (by omega)).trans (m7 l k j q1 q2 q3), fun l hl => (hf _ 7 (by omega)).trans (m8 l hl)⟩
theorem file_st {V V2 v : xMem} (h : St u D E s nl np nb nc nr nh nk n nf na f true) (h12 : nf < 12) (hd : fLf u nf < d) (hd9 : ∃ a, a ≤ 999 ∧ d = nI a) (hV : FlQ (mThr (cFi u d n nf na)) V u d n nf np) (hV2 : FlL (xsI (xsI V 290 nf d) 278 27 (nI (nf + 1))) V2 d nf n) (hv : Kept V2 v 278 31 292 na 4 0 0) : Fr u (mGood v) ∧ Inv (mGood v) := by
  have hb := h.b
  have hD := h.1.d
  have h8 : na ≤ 8 := hb.2.2.2.2.2.2.2.2.2.2.1
  have h10 : np ≤ 10 := by omega
  have hn := h.okl.1.2
  obtain ⟨c1, c2, cF, cFl, c06, cna, cA⟩ := cFi_at (u := u) (d := d) (n := n) (nf := nf) (na := na) h8 hn
  generalize cFi u d n nf na = c at *
  obtain ⟨V1, V12, VF, Vq⟩ := hV
  obtain ⟨X1, X2, XF, Xl⟩ := hV2
  obtain ⟨v1, v2, v31, vF, vA⟩ := hv
  have fm : ∀ a k, (a ≠ 278 ∨ (k ≠ 1 ∧ k ≠ 2)) → xI (mGood v) a k = xI v a k := fun a k q => by
    unfold mGood
    rw [xI_ne (by omega), xI_ne (by omega)]
  have fX : ∀ a k, (a ≠ 278 ∨ (k ≠ 1 ∧ k ≠ 2 ∧ k ≠ 31)) → (a < 292 ∨ 294 < a) → xI (mGood v) a k = xI V2 a k := fun a k q1 q2 => by
    rw [fm a k (by omega), vF a k (by omega) (by omega) (by omega) (by omega)]
  have fV : ∀ a k, (a ≠ 278 ∨ (k ≠ 1 ∧ k ≠ 2 ∧ k ≠ 27 ∧ k ≠ 31)) → (a < 292 ∨ 294 < a) → (a ≠ 286 ∨ ∀ l, l < n → k ≠ 25 * l + 8) → (a ≠ 290 ∨ k ≠ nf) → xI (mGood v) a k = xI V a k := fun a k q1 q2 q3 q4 => by
    rw [fX a k (by omega) q2, XF a k q3, xI_ne (by omega), xI_ne (by omega)]
  have fc : ∀ a k, (a ≠ 278 ∨ (k ≠ 0 ∧ k ≠ 1 ∧ k ≠ 2 ∧ k ≠ 27 ∧ k ≠ 31)) → (a < 292 ∨ 294 < a) → (a ≠ 286 ∨ ∀ l, l < n → k ≠ 25 * l + 8) → (a ≠ 290 ∨ k ≠ nf) → (a ≠ 291 ∨ k < 10 * nf) → xI (mGood v) a k = xI c a k := fun a k q1 q2 q3 q4 q5 => by
    rw [fV a k (by omega) q2 q3 q4, VF a k q5]
    exact xI_ne (by omega)
  have cu : ∀ a k, 278 ≤ a → xI c a k = xI u a k := fun a k q => cF a k (by omega) (by omega) (by omega) (Or.inr (fun l hl => by omega)) (by omega) (by omega)
  have s1 : (mGood v).1 = u.1 := v1.trans (X1.trans (V1.trans c1))
  have s2 : (mGood v).2.2 = u.2.2 := v2.trans (X2.trans (V12.trans c2))
  have s3 : (mGood v).2.2.2 = u.2.2.2 := congrArg (fun q => q.2) s2
  have g06 : xI (mGood v) 0 6 = 0 := (fc 0 6 (by omega) (by omega) (by omega) (by omega) (by omega)).trans c06
  have g1 : xI (mGood v) 278 1 = 0 := by
    unfold mGood
    rw [xI_ne (by omega), xI_at]
  have g2 : xI (mGood v) 278 2 = -1 := xI_at
  have g31 : xI (mGood v) 278 31 = nI (naS na) := (fm 278 31 (by omega)).trans v31
  have Vu : ∀ a k, 279 ≤ a → (a ≠ 291 ∨ k < 10 * nf) → xI V a k = xI u a k := fun a k q1 q2 => by
    rw [VF a k q2, ← cu a k (by omega)]
    exact xI_ne (by omega)
  have ga : ∀ k, k < 8 → xI (mGood v) 292 k = shA (xI u 292) na 4 k ∧ xI (mGood v) 293 k = shA (xI u 293) na 0 k ∧ xI (mGood v) 294 k = shA (xI u 294) na 0 k := fun k hk => by
    obtain ⟨k1, k2, k3⟩ := vA k hk
    have e : ∀ a, 292 ≤ a → a ≤ 294 → xI V2 a = xI u a := fun a q1 q2 => funext fun j => by
      rw [XF a j (by omega), xI_ne (by omega), xI_ne (by omega)]
      exact Vu a j (by omega) (by omega)
    rw [e 292 (by omega) (by omega)] at k1
    rw [e 293 (by omega) (by omega)] at k2
    rw [e 294 (by omega) (by omega)] at k3
    rw [fm 292 k (by omega), fm 293 k (by omega), fm 294 k (by omega)]
    exact ⟨k1, k2, k3⟩
  have gA : ∀ k, k < 8 → xI (mGood v) 270 k = shA (xI u 270) na 0 k ∧ xI (mGood v) 271 k = shA (xI u 271) na 0 k ∧ xI (mGood v) 272 k = shA (xI u 272) na 0 k := fun k hk => by
    rw [fc 270 k (by omega) (by omega) (by omega) (by omega) (by omega), fc 271 k (by omega) (by omega) (by omega) (by omega) (by omega), fc 272 k (by omega) (by omega) (by omega) (by omega) (by omega)]
    exact cA k hk
  have g269 : xI (mGood v) 269 0 = nI (naS na) := (fc 269 0 (by omega) (by omega) (by omega) (by omega) (by omega)).trans cna
  have fld : Fld u (mGood v) d n nf := cFl.cg hn (fc 62 0 (by omega) (by omega) (by omega) (by omega) (by omega)) (fc 62 2 (by omega) (by omega) (by omega) (by omega) (by omega)) (fun b j q => fc b j (by omega) (by omega) (by omega) (by omega) (by omega))
  have e27 : xI (mGood v) 278 27 = nI (nf + 1) := by
    rw [fX 278 27 (by omega) (by omega), XF 278 27 (by omega)]
    exact xI_at
  have e20 : xI (mGood v) 278 20 = xI u 278 20 := by
    rw [fc 278 20 (by omega) (by omega) (by omega) (by omega) (by omega)]
    exact cu 278 20 (by omega)
  have e290 : ∀ j, j < nf → xI (mGood v) 290 j = xI u 290 j := fun j hj => by
    rw [fc 290 j (by omega) (by omega) (by omega) (by omega) (by omega)]
    exact cu 290 j (by omega)
  have en : xI (mGood v) 290 nf = d := by
    rw [fX 290 nf (by omega) (by omega), XF 290 nf (by omega), xI_ne (by omega)]
    exact xI_at
  have e291 : ∀ j, j < 10 * nf → xI (mGood v) 291 j = xI u 291 j := fun j hj => by
    rw [fc 291 j (by omega) (by omega) (by omega) (by omega) (by omega)]
    exact cu 291 j (by omega)
  have eq : ∀ q, q < np → xI (mGood v) 291 (10 * nf + q) = fUp2 u d (nI q) n nf := fun q hq => by
    rw [fV 291 _ (by omega) (by omega) (by omega) (by omega)]
    exact Vq q hq
  have e286 : ∀ l k, l < n → k < 25 → k ≠ 8 → xI (mGood v) 286 (25 * l + k) = xI u 286 (25 * l + k) := fun l k q1 q2 q3 => by
    rw [fc 286 _ (by omega) (by omega) (Or.inr (fun l' hl' => by omega)) (by omega) (by omega)]
    exact cu 286 _ (by omega)
  have e8 : ∀ l, l < n → xI (mGood v) 286 (25 * l + 8) = if xI u 286 (25 * l + 8) = 0 ∧ xI u 286 (25 * l) ≤ d then nI (nf + 1) else xI u 286 (25 * l + 8) := fun l hl => by
    have z : ∀ k, xI (xsI (xsI V 290 nf d) 278 27 (nI (nf + 1))) 286 k = xI u 286 k := fun k => by
      rw [xI_ne (by omega), xI_ne (by omega)]
      exact Vu 286 k (by omega) (by omega)
    rw [fX 286 _ (by omega) (by omega), Xl l hl, z, z]
  have fh : ∀ b j, (b = 0 ∧ j = 2) ∨ (1 ≤ b ∧ b ≤ 3) ∨ (D < b ∧ b ≤ D + 26) ∨ (b = 278 ∧ (j = 7 ∨ j = 9 ∨ j = 15)) ∨ b = 279 ∨ b = 283 ∨ b = 2000000 → xI (mGood v) b j = xI u b j := fun b j q => by
    rw [fc b j (by omega) (by omega) (by omega) (by omega) (by omega)]
    exact cF b j (by omega) (by omega) (by omega) (Or.inr (fun l hl => by omega)) (by omega) (by omega)
  generalize mGood v = m at *
  have okB1 : okB m n (nf + 1) nc np := h.okb.file h10 h12 hd hd9 fld
  have cpB1 : cpB m m n (nf + 1) np := h.2.2.2.2.2.1.file h.okb h10 fld e20 e27 e290 en e291 eq e286 e8
  have okA1 : okA m (naS na) n (nf + 1) nb nr := okA.keep (kc := 0) (km := 4) (lc := 0) (lm := 0) (uc := 0) (um := 0) h.oka g269 g31 gA ga (Or.inl ⟨rfl, rfl⟩) (by simp) (by simp) (by simp) (by simp)
  exact ⟨⟨s1, by rw [s2], funext fun k => fh _ k (by omega)⟩, ⟨by rw [g06, g1], by rw [g06, if_neg (by decide)]; exact g2⟩, D, E, s, nl, np, nb, nc, nr, nh, nk, n, nf + 1, naS na, f, true, h.mk3 s1 s3 okB1 cpB1 okA1 (fun a k q => fh a k (by omega))⟩
end
