/-! FILE: the runs, the book -/
/-- a filing made, in the class's book -/
def Fld (u m : xMem) (d : Int32) (n nf : Nat) : Prop :=
  (∀ j, j < 10 * nf → xI m 65 j = xI u 65 j) ∧ (∀ q, q < 10 → xI m 65 (10 * nf + q) = fUp2 u d (nI q) n nf) ∧ (∀ j, j < nf → xI m 64 j = xI u 64 j) ∧ xI m 64 nf = d ∧ xI m 62 0 = xI u 62 0 ∧ xI m 62 2 = nI (nf + 1) ∧
  (∀ l k j, l < n → k ≤ 4 → (k ≠ 0 ∨ j ≠ 7) → xI m (69 + 5 * l + k) j = xI u (69 + 5 * l + k) j) ∧ ∀ l, l < n → xI m (69 + 5 * l) 7 = if xI u (69 + 5 * l) 7 < 0 ∧ xI u (69 + 5 * l) 0 ≤ d then nI nf else xI u (69 + 5 * l) 7
def FlQ (W V g : xMem) (d : Int32) (n nf i : Nat) : Prop := V.1 = W.1 ∧ V.2.2 = W.2.2 ∧ (∀ a j, (a ≠ 291 ∨ j < 10 * nf) → xI V a j = xI W a j) ∧ ∀ q, q < i → xI V 291 (10 * nf + q) = fUp2 g d (nI q) n nf
def FlL (W V : xMem) (d : Int32) (nf i : Nat) : Prop := V.1 = W.1 ∧ V.2.2 = W.2.2 ∧ (∀ a j, (a ≠ 286 ∨ ∀ l, l < i → j ≠ 25 * l + 8) → xI V a j = xI W a j) ∧ ∀ l, l < i → xI V 286 (25 * l + 8) = if xI W 286 (25 * l + 8) = 0 ∧ xI W 286 (25 * l) ≤ d then nI (nf + 1) else xI W 286 (25 * l + 8)
section
variable {u w g : xMem} {P : Option Value → xMem → Prop} {D E s nl np nb nc nr nh nk n nf na f : Nat} {p q d x y c e k a t i l what many layer till price units : Int32} {op : Bool}
theorem fTx_no {pl tax : Nat → Int32} (hp : p ≠ -1) : ∀ n, (∀ i, i < n → pl i ≠ p) → fTx pl tax p n = 0 := by
  intro n
  induction n with
  | zero => intro _; rfl
  | succ n ih =>
    intro h
    unfold fTx
    rw [if_neg (fun z => z.elim hp (h n (by omega))), ih (fun i hi => h i (by omega))]
theorem sumIf_no {q : Nat → Bool} {f : Nat → Int32} (n : Nat) (h : ∀ i, i < n → f i = 0) : sumIf q f n = 0 := by
  have := sumIf_ext (q := q) (f := f) (m := 0) n (fun i _ h2 => h i (by omega))
  rw [Nat.zero_add] at this
  rw [this]
  rfl
theorem subN_no {f : Nat → Int32} : ∀ n, (∀ i, i < n → f i = 0) → subN 0 f n = 0 := by
  intro n
  induction n with
  | zero => intro _; rfl
  | succ n ih =>
    intro h
    unfold subN
    rw [ih (fun i hi => h i (by omega)), h n (by omega)]
    rfl
theorem fUp2_no (h : okB g n nf nc np) {r : Nat} (h1 : np ≤ r) (h2 : r < 10) : fUp2 g d (nI r) n nf = 0 := by
  unfold fUp2 fUd
  have ne : nI r ≠ -1 := fun z => by
    have y := congrArg Int32.toInt z
    rw [nI_toI (by omega)] at y
    have e1 : (-1 : Int32).toInt = -1 := rfl
    omega
  rw [sumIf_no n (fun l hl => ?_)]
  · exact subN_no nf (fun f hf => by rw [fPd_one h2]; exact (h.2.2.2.1 f hf).2 r h1 h2)
  · unfold lTo
    refine fTx_no ne _ (fun i hi => ?_)
    obtain ⟨⟨q, hq, e⟩, -⟩ := (h.2.2.1 l hl).2.2.2.2.2 i hi
    rw [e]
    intro z
    have y := congrArg Int32.toInt z
    rw [nI_toI (by omega), nI_toI (by omega)] at y
    omega
theorem s7 (h : okB g n nf nc np) {l : Nat} (hl : l < n) : xI g (69 + 5 * l) 7 = -1 ∨ ∃ f, f < nf ∧ xI g (69 + 5 * l) 7 = nI f ∧ xI g (69 + 5 * l) 0 ≤ xI g 64 f := (h.2.2.1 l hl).2.2.2.2.1
theorem okB.file {m : xMem} (h : okB u n nf nc np) (h10 : np ≤ 10) (h12 : nf < 12) (hd : fLf u nf < d) (hd9 : ∃ a, a ≤ 999 ∧ d = nI a) (hm : Fld u m d n nf) : okB m n (nf + 1) nc np := by
  have h' := h
  obtain ⟨m1, m2, m3, m4, m5, m6, m7, m8⟩ := hm
  obtain ⟨o1, o2, o3, o4, o5⟩ := h
  have l0 : ∀ l j, l < n → j ≠ 7 → xI m (69 + 5 * l) j = xI u (69 + 5 * l) j := fun l j q1 q2 => m7 l 0 j q1 (by omega) (Or.inr q2)
  have lk : ∀ l k, l < n → 1 ≤ k → k ≤ 4 → xI m (69 + 5 * l + k) = xI u (69 + 5 * l + k) := fun l k q1 q2 q3 => funext fun j => m7 l k j q1 q3 (by omega)
  have pe : ∀ l, l < n → pn m l = pn u l := fun l q => by unfold pn; rw [l0 l 8 q (by omega)]
  refine ⟨⟨⟨by rw [m5]; exact o1.1.1, o1.1.2⟩, fun l q => ?_⟩, ⟨m6, by omega⟩, fun l q => ?_, fun f hf => ?_, fun f f' h1 h2 => ?_⟩
  · rw [l0 l 8 q (by omega), pe l q]
    exact o1.2 l q
  · obtain ⟨a1, a2, a3, a4, a5, a6⟩ := o3 l q
    rw [l0 l 3 q (by omega), l0 l 0 q (by omega), l0 l 1 q (by omega), l0 l 2 q (by omega), lk l 1 q (by omega) (by omega), lk l 3 q (by omega) (by omega), lk l 4 q (by omega) (by omega), pe l q, m8 l q]
    refine ⟨a1, a2, a3, a4, ?_, a6⟩
    by_cases z : xI u (69 + 5 * l) 7 < 0 ∧ xI u (69 + 5 * l) 0 ≤ d
    · rw [if_pos z]
      exact Or.inr ⟨nf, by omega, rfl, by rw [m4]; exact z.2⟩
    · rw [if_neg z]
      rcases a5 with a5 | ⟨f, hf, e, g⟩
      · exact Or.inl a5
      · exact Or.inr ⟨f, by omega, e, by rw [m3 f hf]; exact g⟩
  · by_cases z : f = nf
    · subst z
      refine ⟨by rw [m4]; exact hd9, fun q h1 h2 => ?_⟩
      rw [m2 q h2]
      exact fUp2_no h' h1 h2
    · obtain ⟨p1, p2⟩ := o4 f (by omega)
      refine ⟨by rw [m3 f (by omega)]; exact p1, fun q h1 h2 => ?_⟩
      rw [m1 _ (by omega)]
      exact p2 q h1 h2
  · by_cases z : f' = nf
    · subst z
      rw [m4, m3 f h1]
      exact fLf_all h' hd h1
    · rw [m3 f (by omega), m3 f' (by omega)]
      exact o5 f f' h1 (by omega)
theorem cpB.file {m : xMem} (h : cpB u u n nf np) (hB : okB u n nf nc np) (h10 : np ≤ 10) (hm : Fld u m d n nf) (e20 : xI m 278 20 = xI u 278 20) (e27 : xI m 278 27 = nI (nf + 1)) (e290 : ∀ j, j < nf → xI m 290 j = xI u 290 j) (en : xI m 290 nf = d) (e291 : ∀ j, j < 10 * nf → xI m 291 j = xI u 291 j) (eq : ∀ q, q < np → xI m 291 (10 * nf + q) = fUp2 u d (nI q) n nf)
    (e286 : ∀ l k, l < n → k < 25 → k ≠ 8 → xI m 286 (25 * l + k) = xI u 286 (25 * l + k)) (e8 : ∀ l, l < n → xI m 286 (25 * l + 8) = if xI u 286 (25 * l + 8) = 0 ∧ xI u 286 (25 * l) ≤ d then nI (nf + 1) else xI u 286 (25 * l + 8)) : cpB m m n (nf + 1) np := by
  obtain ⟨m1, m2, m3, m4, m5, m6, m7, m8⟩ := hm
  obtain ⟨o1, o2, o3, o4⟩ := h
  have l0 : ∀ l j, l < n → j ≠ 7 → xI m (69 + 5 * l) j = xI u (69 + 5 * l) j := fun l j q1 q2 => m7 l 0 j q1 (by omega) (Or.inr q2)
  have lk : ∀ l k, l < n → 1 ≤ k → k ≤ 4 → xI m (69 + 5 * l + k) = xI u (69 + 5 * l + k) := fun l k q1 q2 q3 => funext fun j => m7 l k j q1 q3 (by omega)
  have pe : ∀ l, l < n → pn m l = pn u l := fun l q => by unfold pn; rw [l0 l 8 q (by omega)]
  refine ⟨e20.trans o1, e27, fun l q => ?_, fun f hf => ?_⟩
  · obtain ⟨a1, a2, a3, a4⟩ := o3 l q
    refine ⟨fun k hk => ?_, ?_, ?_, fun i hi => ?_⟩
    · rw [e286 l k q (by omega) (by omega), l0 l k q (by omega)]
      exact a1 k hk
    · rw [e286 l 7 q (by omega) (by omega), l0 l 8 q (by omega)]
      exact a2
    · have a0 := a1 0 (by omega)
      rw [Nat.add_zero] at a0
      rw [e8 l q, m8 l q, a3, a0]
      rcases s7 hB q with e | ⟨f, hf, e, -⟩
      · rw [e]
        by_cases z : xI u (69 + 5 * l) 0 ≤ d
        · rw [if_pos ⟨rfl, z⟩, if_pos ⟨by decide, z⟩, nI_1]
        · rw [if_neg (fun y => z y.2), if_neg (fun y => z y.2)]
      · have h12 := hB.2.1.2
        have z1 : ¬ nI (f + 1) = 0 := nI_ne0 (by omega) (by omega)
        have z2 : ¬ nI f < 0 := i32_nlt.mpr (nI_pos' (by omega))
        rw [e, nI_1, if_neg (fun y => z1 y.1), if_neg (fun y => z2 y.1), nI_1]
    · rw [pe l q] at hi
      have i4 := (hB.1.2 l q).2
      have ee : ∀ k, k < 25 → k ≠ 8 → xI m 286 (25 * l + k) = xI u 286 (25 * l + k) := fun k q1 q2 => e286 l k q q1 q2
      rw [show 25 * l + 9 + 4 * i = 25 * l + (9 + 4 * i) by omega, show 25 * l + (9 + 4 * i) + 1 = 25 * l + (10 + 4 * i) by omega, show 25 * l + (9 + 4 * i) + 2 = 25 * l + (11 + 4 * i) by omega, show 25 * l + (9 + 4 * i) + 3 = 25 * l + (12 + 4 * i) by omega, ee _ (by omega) (by omega), ee _ (by omega) (by omega), ee _ (by omega) (by omega), ee _ (by omega) (by omega), lk l 1 q (by omega) (by omega), lk l 2 q (by omega) (by omega), lk l 3 q (by omega) (by omega), lk l 4 q (by omega) (by omega)]
      obtain ⟨b1, b2, b3, b4⟩ := a4 i hi
      exact ⟨by rw [← b1]; congr 1; omega, by rw [← b2]; congr 1; omega, by rw [← b3]; congr 1; omega, by rw [← b4]; congr 1; omega⟩
  · by_cases z : f = nf
    · subst z
      exact ⟨en.trans m4.symm, fun q hq => (eq q hq).trans (m2 q (by omega)).symm⟩
    · rw [e290 f (by omega), m3 f (by omega)]
      refine ⟨(o4 f (by omega)).1, fun q hq => ?_⟩
      rw [e291 _ (by omega), m1 _ (by omega)]
      exact (o4 f (by omega)).2 q hq
theorem mFile_at : (mFile u d n nf).1 = u.1 ∧ (mFile u d n nf).2.2 = u.2.2 ∧ (∀ a j, a ≠ 65 → (a ≠ 64 ∨ j ≠ nf) → (a ≠ 62 ∨ j ≠ 2) → (j ≠ 7 ∨ ∀ l, l < n → a ≠ 69 + 5 * l) → xI (mFile u d n nf) a j = xI u a j) ∧ Fld u (mFile u d n nf) d n nf := by
  obtain ⟨g1, g2, g3, g4⟩ := mFl_at (mFp u d n nf 10) d nf n
  have f : ∀ a j, (a ≠ 64 ∨ j ≠ nf) → (a ≠ 62 ∨ j ≠ 2) → xI (mFile u d n nf) a j = xI (mFl (mFp u d n nf 10) d nf n) a j := fun a j q1 q2 => by
    unfold mFile
    rw [xI_ne (by omega), xI_ne (by omega)]
  refine ⟨g1, g2, fun a j q1 q2 q3 q4 => ?_, fun j hj => ?_, fun q hq => ?_, fun j hj => ?_, ?_, ?_, xI_at, fun l k j q1 q2 q3 => ?_, fun l hl => ?_⟩
  · rw [f a j q2 q3, g3 a j q4, mFp_f q1]
  · rw [f 65 j (by omega) (by omega), g3 65 j (Or.inr (fun l hl => by omega)), mFp_lo hj]
  · rw [f 65 _ (by omega) (by omega), g3 65 _ (Or.inr (fun l hl => by omega))]
    show (if 65 = 65 ∧ 10 * nf ≤ 10 * nf + q ∧ 10 * nf + q < 10 * nf + 10 then fUp2 u d (nI (10 * nf + q - 10 * nf)) n nf else _) = _
    rw [if_pos (by omega), Nat.add_sub_cancel_left]
  · rw [f 64 j (by omega) (by omega), g3 64 j (Or.inr (fun l hl => by omega)), mFp_f (by omega)]
  · unfold mFile
    rw [xI_ne (by omega), xI_at]
  · rw [f 62 0 (by omega) (by omega), g3 62 0 (by omega), mFp_f (by omega)]
  · rw [f _ j (by omega) (by omega), g3 _ j (q3.elim (fun z => Or.inr (fun l' hl' => by omega)) Or.inl), mFp_f (by omega)]
  · rw [f _ 7 (by omega) (by omega), g4 l hl, mFp_f (by omega)]
def cFi (u : xMem) (d : Int32) (n nf na : Nat) : xMem := xsI (mKeep (mFile u d n nf) na 0 0 0) 0 6 0
theorem cFi_at (h8 : na ≤ 8) (hn : n ≤ 40) : (cFi u d n nf na).1 = u.1 ∧ (cFi u d n nf na).2.2 = u.2.2 ∧ (∀ a j, a ≠ 65 → (a ≠ 64 ∨ j ≠ nf) → (a ≠ 62 ∨ j ≠ 2) → (j ≠ 7 ∨ ∀ l, l < n → a ≠ 69 + 5 * l) → (a < 269 ∨ 272 < a) → (a ≠ 0 ∨ j ≠ 6) → xI (cFi u d n nf na) a j = xI u a j) ∧ Fld u (cFi u d n nf na) d n nf ∧ xI (cFi u d n nf na) 0 6 = 0 ∧ xI (cFi u d n nf na) 269 0 = nI (naS na) ∧ ∀ j, j < 8 → xI (cFi u d n nf na) 270 j = shA (xI u 270) na 0 j ∧ xI (cFi u d n nf na) 271 j = shA (xI u 271) na 0 j ∧ xI (cFi u d n nf na) 272 j = shA (xI u 272) na 0 j := by
  obtain ⟨g1, g2, g3, m1, m2, m3, m4, m5, m6, m7, m8⟩ := mFile_at (u := u) (d := d) (n := n) (nf := nf)
  have kk := keep_kept (u := mFile u d n nf) (na := na) (k := 0) (x := 0) (y := 0) h8
  have f : ∀ a j, (a < 269 ∨ 272 < a) → (a ≠ 0 ∨ j ≠ 6) → xI (cFi u d n nf na) a j = xI (mFile u d n nf) a j := fun a j q1 q2 => by
    unfold cFi
    rw [xI_ne (by omega), kk.2.2.2.1 a j (by omega) (by omega) (by omega) (by omega)]
  refine ⟨kk.1.trans g1, kk.2.1.trans g2, fun a j q1 q2 q3 q4 q5 q6 => ?_, ⟨fun j hj => ?_, fun q hq => ?_, fun j hj => ?_, ?_, ?_, ?_, fun l k j q1 q2 q3 => ?_, fun l hl => ?_⟩, xI_at, ?_, fun j hj => ?_⟩
  · rw [f a j q5 q6, g3 a j q1 q2 q3 q4]
  · rw [f _ _ (by omega) (by omega)]; exact m1 j hj
  · rw [f _ _ (by omega) (by omega)]; exact m2 q hq
  · rw [f _ _ (by omega) (by omega)]; exact m3 j hj
  · rw [f _ _ (by omega) (by omega)]; exact m4
  · rw [f _ _ (by omega) (by omega)]; exact m5
  · rw [f _ _ (by omega) (by omega)]; exact m6
  · rw [f _ _ (by omega) (by omega)]; exact m7 l k j q1 q2 q3
  · rw [f _ _ (by omega) (by omega)]; exact m8 l hl
  · unfold cFi
    rw [xI_ne (by omega)]
    exact kk.2.2.1
  · obtain ⟨k1, k2, k3⟩ := kk.2.2.2.2 j hj
    have e : ∀ a, 269 ≤ a → a ≤ 272 → xI (mFile u d n nf) a = xI u a := fun a q1 q2 => funext fun j => g3 a j (by omega) (by omega) (by omega) (Or.inr (fun l hl => by omega))
    rw [e 270 (by omega) (by omega)] at k1
    rw [e 271 (by omega) (by omega)] at k2
    rw [e 272 (by omega) (by omega)] at k3
    unfold cFi
    rw [xI_ne (by omega), xI_ne (by omega), xI_ne (by omega)]
    exact ⟨k1, k2, k3⟩
theorem fPd_fld {m : xMem} (hB : okB m n (nf + 1) nc np) (h10 : np ≤ 10) (hm : Fld u m d n nf) : fPd m (-1) nf = sumN (fun k => fUp2 u d (nI k) n nf) np := by
  rw [fPd_sum hB h10 (by omega)]
  refine sumN_congr np (fun i hi => ?_)
  rw [fPd_one (by omega)]
  exact hm.2.1 i (by omega)
theorem fileC_t (h : St u D E s nl np nb nc nr nh nk n nf na f true) (h12 : nf < 12) (hd : fLf u nf < d) (hd9 : ∃ a, a ≤ 999 ∧ d = nI a) : zr 145 56 [.ref 0, .int d] [] u P = P (some (.int (sumN (fun k => fUp2 u d (nI k) n nf) np))) (cFi u d n nf na) := by
  have hb := h.b
  have h8 : na ≤ 8 := hb.2.2.2.2.2.2.2.2.2.2.1
  have h10 : np ≤ 10 := by omega
  obtain ⟨g1, g2, g3, g4, g5, g6⟩ := h.sp
  have hac := h.1.2.2.2.2.2.2.2.1
  have b0 := h.bk.1
  have af := fun P => addFiling_run (d := d) (P := P) h.bk h.okl h.okb.2.1.1 h12
  obtain ⟨F1, F2, F3, FF⟩ := mFile_at (u := u) (d := d) (n := n) (nf := nf)
  have shF := shp F1 (congrArg (fun q => q.2) F2)
  have i0 : xIs (mFile u d n nf) 0 10 := by rw [shF]; exact g1
  have i4 : xR (mFile u d n nf) 0 4 = some 269 := by rw [shF]; exact g5
  have hac2 : sAc (mFile u d n nf) 269 := by rw [shF]; exact hac
  have en : xI (mFile u d n nf) 269 0 = nI na := (F3 269 0 (by omega) (by omega) (by omega) (by omega)).trans h.oka.1.1
  have kp := fun P => keep_run (u := mFile u d n nf) (k := 0) (x := 0) (y := 0) (P := P) hac2 en h8
  have kk := keep_kept (u := mFile u d n nf) (na := na) (k := 0) (x := 0) (y := 0) h8
  have shK := shp kk.1 (congrArg (fun q => q.2) kk.2.1)
  have q0 : xIs (mKeep (mFile u d n nf) na 0 0 0) 0 10 := by rw [shK]; exact i0
  have q3 : xR (mKeep (mFile u d n nf) na 0 0 0) 0 3 = some 62 := by rw [shK, shF]; exact g4
  have qb : sBk (mKeep (mFile u d n nf) na 0 0 0) 62 := by rw [shK, shF]; exact h.bk
  have qf : ∀ a j, (a < 269 ∨ 272 < a) → xI (mKeep (mFile u d n nf) na 0 0 0) a j = xI (mFile u d n nf) a j := fun a j q => kk.2.2.2.1 a j (by omega) (by omega) (by omega) (by omega)
  have q2 : xI (mKeep (mFile u d n nf) na 0 0 0) 62 2 = nI (nf + 1) := (qf 62 2 (by omega)).trans FF.2.2.2.2.2.1
  have pb := fun P => paidBy_run (p := -1) (P := P) qb (f := nf) h12
  have okF : okB (mFile u d n nf) n (nf + 1) nc np := h.okb.file h10 h12 hd hd9 FF
  have eP : fPd (mKeep (mFile u d n nf) na 0 0 0) (-1) nf = sumN (fun k => fUp2 u d (nI k) n nf) np := by
    rw [← fPd_fld okF h10 FF]
    unfold fPd
    exact sumIf_congr 10 (fun i hi => ⟨rfl, qf 65 _ (by omega)⟩)
  rw [eP] at pb
  have m1 : nI (nf + 1) - 1 = nI nf := by rw [← nI_1]; exact Int32.add_sub_cancel ..
  simp only [r145_56, r145_57, r145_60, r145_61, r145_64, r145_65, r145_68, r145_69, r145_70, r145_71, r145_74, r145_75, r145_76, r145_79, r145_80, r145_83, r145_86, r145_87, r145_88, r145_89, r145_92, r145_95, g1, g4, b0, af, i0, i4, hac2.1, kp, q0, q3, qb.1, q2, m1, pb, grant_run q0, true_and, and_true, Option.some.injEq, exists_eq_left', Option.toList_some, Option.toList_none, List.cons_append, List.nil_append, xcat_nil, xcat_int, xcat_ref, xcat_long, not_true, not_false_iff, if_true, if_false, and_self, and_false, false_and, or_true, true_or, or_self, z01, z10, zle8, Nat.reduceAdd, Nat.reduceLeDiff]
  rfl
theorem FlQ.mx {W V : xMem} {i : Nat} (hx : Mx W g D s nl np nb nc nr nh nk) (hV : FlQ W V g d n nf i) : Mx V g D s nl np nb nc nr nh nk := by
  refine ⟨by rw [shp hV.1 (congrArg (fun q => q.2) hV.2.1)]; exact hx.1, hx.2.1, ?_⟩
  rw [show xI V 279 = xI W 279 from funext fun k => hV.2.2.1 279 k (by omega)]
  exact hx.2.2
theorem FlQ.cb {W V : xMem} {i : Nat} (hc : cpB W g n nf np) (h10 : np ≤ 10) (hV : FlQ W V g d n nf i) : cpB V g n nf np := by
  obtain ⟨-, -, F, -⟩ := hV
  refine ⟨(F 278 20 (by omega)).trans hc.1, (F 278 27 (by omega)).trans hc.2.1, ?_, fun f hf => ⟨(F 290 f (by omega)).trans (hc.2.2.2 f hf).1, fun q hq => (F 291 _ (Or.inr (by omega))).trans ((hc.2.2.2 f hf).2 q hq)⟩⟩
  rw [show xI V 286 = xI W 286 from funext fun k => F 286 k (by omega)]
  exact hc.2.2.1
theorem fileM_l1 {W : xMem} (hx : Mx W g D s nl np nb nc nr nh nk) (hc : cpB W g n nf np) (hB : okB g n nf nc np) (hd : fLf g nf < d) (h12 : nf < 12) (hP : ∀ V v4, FlQ W V g d n nf np → zr 284 96 [.ref 278, .int d, .int (sumN (fun k => fUp2 g d (nI k) n nf) np), .int (nI np), v4] [] V P) :
    ∀ r i V v4, i + r = np → FlQ W V g d n nf i → zr 284 51 [.ref 278, .int d, .int (sumN (fun k => fUp2 g d (nI k) n nf) i), .int (nI i), v4] [] V P := by
  have hb := hx.2.1.1.b
  intro r
  induction r with
  | zero =>
    intro i V v4 hi hV
    have : i = np := by omega
    subst this
    have mV := hV.mx hx
    obtain ⟨h0, r3, -⟩ := mV.cf
    have e3 := (mV.2.1.1.e mV.2.2).2.2.2.1
    have i2 := mV.1.2.2.1
    rw [r284_51]
    simp (disch := omega) only [r284_52, r284_53, r284_56, r284_57, r284_58, h0, r3, i2.1, i2.2, e3, xinbT, xixT, leT, leF, ltT, ltF, ngF, psT, n1F, n2F, km2, km3, km4, km5, km10, km15, km25, kl8, kl14, kl24, kl34, kl274, kl354, kl384, kr1, kr2, kr3, kr4, kr5, kr6, kr7, kr8, kr9, kaa, lb0, lb1, lb2, lb3, lb4, lb5, lb6, lb7, li0, li1, li2, li3, li4, li5, li6, li7, true_and, and_true, Option.some.injEq, exists_eq_left', Option.toList_some, Option.toList_none, List.cons_append, List.nil_append, xcat_nil, xcat_int, xcat_ref, xcat_long, not_true, not_false_iff, if_true, if_false, and_self, and_false, false_and, or_true, true_or, or_self, z01, z10, zle8, Nat.reduceAdd, Nat.reduceLeDiff]
    exact hP V v4 hV
  | succ r ih =>
    intro i V v4 hi hV
    have mV := hV.mx hx
    have cV := hV.cb hc (by omega)
    obtain ⟨h0, r3, -⟩ := mV.cf
    have e3 := (mV.2.1.1.e mV.2.2).2.2.2.1
    have i2 := mV.1.2.2.1
    obtain ⟨-, r25, r26, -, i26, n26⟩ := mV.1.cb
    have e27 := cV.2.1
    have wp := fun P => wouldPay_run (P := P) mV cV hB hd (q := i) (by omega)
    have ih := fun V v4 => ih (i + 1) V v4 (by omega)
    simp only [sumN] at ih
    rw [r284_51]
    simp (disch := omega) only [r284_52, r284_53, r284_56, r284_57, r284_58, r284_61, r284_62, r284_63, r284_64, r284_67, r284_69, r284_70, r284_73, r284_75, r284_76, r284_79, r284_80, r284_81, r284_82, r284_84, r284_85, r284_86, r284_88, r284_89, r284_90, r284_93, h0, r3, i2.1, i2.2, e3, r26, i26, n26, e27, wp, xinbT, xixT, leT, leF, ltT, ltF, ngF, psT, n1F, n2F, km2, km3, km4, km5, km10, km15, km25, kl8, kl14, kl24, kl34, kl274, kl354, kl384, kr1, kr2, kr3, kr4, kr5, kr6, kr7, kr8, kr9, kaa, lb0, lb1, lb2, lb3, lb4, lb5, lb6, lb7, li0, li1, li2, li3, li4, li5, li6, li7, true_and, and_true, Option.some.injEq, exists_eq_left', Option.toList_some, Option.toList_none, List.cons_append, List.nil_append, xcat_nil, xcat_int, xcat_ref, xcat_long, not_true, not_false_iff, if_true, if_false, and_self, and_false, false_and, or_true, true_or, or_self, z01, z10, zle8, Nat.reduceAdd, Nat.reduceLeDiff]
    refine ih _ _ ⟨hV.1, hV.2.1, fun a j q => ?_, fun q hq => ?_⟩
    · rw [xI_ne (by omega)]
      exact hV.2.2.1 a j q
    · by_cases z : q = i
      · subst z
        exact xI_at
      · rw [xI_ne (by omega)]
        exact hV.2.2.2 q (by omega)
theorem toldv {W : xMem} (hM : sMd W) {l : Nat} (hl : l < 40) : (∀ P : Option Value → xMem → Prop, zr 262 0 [.ref 278, .int (nI l), .int 8] [] W P = P (some (.int (xI W 286 (25 * l + 8)))) W) ∧ ∀ P : Option Value → xMem → Prop, zr 262 0 [.ref 278, .int (nI l), .int 0] [] W P = P (some (.int (xI W 286 (25 * l)))) W := by
  obtain ⟨h0, ⟨-, -, -, -, -, -, -, r8, -⟩, -, -, -, -, -, -, -, ⟨j, k0⟩, -⟩ := hM
  constructor
  · intro P
    simp (disch := omega) only [r262_0, r262_1, r262_4, r262_6, r262_7, r262_8, r262_9, r262_10, r262_11, h0, r8, j, k0, xinbT, xixT, leT, leF, ltT, ltF, ngF, psT, n1F, n2F, km2, km3, km4, km5, km10, km15, km25, kl8, kl14, kl24, kl34, kl274, kl354, kl384, kr1, kr2, kr3, kr4, kr5, kr6, kr7, kr8, kr9, kaa, lb0, lb1, lb2, lb3, lb4, lb5, lb6, lb7, li0, li1, li2, li3, li4, li5, li6, li7, true_and, and_true, Option.some.injEq, exists_eq_left', Option.toList_some, Option.toList_none, List.cons_append, List.nil_append, xcat_nil, xcat_int, xcat_ref, xcat_long, not_true, not_false_iff, if_true, if_false, and_self, and_false, false_and, or_true, true_or, or_self, z01, z10, zle8, Nat.reduceAdd, Nat.reduceLeDiff]
  · intro P
    simp (disch := omega) only [r262_0, r262_1, r262_4, r262_6, r262_7, r262_8, r262_9, r262_10, r262_11, h0, r8, j, k0, Int32.add_zero, xinbT, xixT, leT, leF, ltT, ltF, ngF, psT, n1F, n2F, km2, km3, km4, km5, km10, km15, km25, kl8, kl14, kl24, kl34, kl274, kl354, kl384, kr1, kr2, kr3, kr4, kr5, kr6, kr7, kr8, kr9, kaa, lb0, lb1, lb2, lb3, lb4, lb5, lb6, lb7, li0, li1, li2, li3, li4, li5, li6, li7, true_and, and_true, Option.some.injEq, exists_eq_left', Option.toList_some, Option.toList_none, List.cons_append, List.nil_append, xcat_nil, xcat_int, xcat_ref, xcat_long, not_true, not_false_iff, if_true, if_false, and_self, and_false, false_and, or_true, true_or, or_self, z01, z10, zle8, Nat.reduceAdd, Nat.reduceLeDiff]
theorem fileM_l2 {W : xMem} {sm : Int32} {v4 : Value} (hM : sMd W) (h20 : xI W 278 20 = nI n) (h27 : xI W 278 27 = nI (nf + 1)) (hn : n ≤ 40) (hP : ∀ V, FlL W V d nf n → zr 284 168 [.ref 278, .int d, .int sm, .int (nI n), v4] [] V P) :
    ∀ r i V, i + r = n → FlL W V d nf i → zr 284 118 [.ref 278, .int d, .int sm, .int (nI i), v4] [] V P := by
  intro r
  induction r with
  | zero =>
    intro i V hi hV
    have : i = n := by omega
    subst this
    have mV : sMd V := by rw [shp hV.1 (congrArg (fun q => q.2) hV.2.1)]; exact hM
    have e20 := (hV.2.2.1 278 20 (by omega)).trans h20
    rw [r284_118]
    simp (disch := omega) only [r284_119, r284_120, r284_123, mV.1, e20, xinbT, xixT, leT, leF, ltT, ltF, ngF, psT, n1F, n2F, km2, km3, km4, km5, km10, km15, km25, kl8, kl14, kl24, kl34, kl274, kl354, kl384, kr1, kr2, kr3, kr4, kr5, kr6, kr7, kr8, kr9, kaa, lb0, lb1, lb2, lb3, lb4, lb5, lb6, lb7, li0, li1, li2, li3, li4, li5, li6, li7, true_and, and_true, Option.some.injEq, exists_eq_left', Option.toList_some, Option.toList_none, List.cons_append, List.nil_append, xcat_nil, xcat_int, xcat_ref, xcat_long, not_true, not_false_iff, if_true, if_false, and_self, and_false, false_and, or_true, true_or, or_self, z01, z10, zle8, Nat.reduceAdd, Nat.reduceLeDiff]
    exact hP V hV
  | succ r ih =>
    intro i V hi hV
    have mV : sMd V := by rw [shp hV.1 (congrArg (fun q => q.2) hV.2.1)]; exact hM
    have e20 := (hV.2.2.1 278 20 (by omega)).trans h20
    have e27 := (hV.2.2.1 278 27 (by omega)).trans h27
    obtain ⟨t8, t0⟩ := toldv mV (l := i) (by omega)
    have c8 : xI V 286 (25 * i + 8) = xI W 286 (25 * i + 8) := hV.2.2.1 _ _ (Or.inr (fun l hl => by omega))
    have c0 : xI V 286 (25 * i) = xI W 286 (25 * i) := hV.2.2.1 _ _ (Or.inr (fun l hl => by omega))
    rw [c8] at t8
    rw [c0] at t0
    obtain ⟨h0, ⟨-, -, -, -, -, -, -, r19, -⟩, -, -, -, -, -, -, -, ⟨j6, n6⟩, -⟩ := mV
    have ih := fun V => ih (i + 1) V (by omega)
    have nx : ∀ V' : xMem, V'.1 = V.1 → V'.2.2 = V.2.2 → (∀ a j, (a ≠ 286 ∨ j ≠ 25 * i + 8) → xI V' a j = xI V a j) → (xI V' 286 (25 * i + 8) = if xI W 286 (25 * i + 8) = 0 ∧ xI W 286 (25 * i) ≤ d then nI (nf + 1) else xI W 286 (25 * i + 8)) → FlL W V' d nf (i + 1) := fun V' w1 w2 w3 w4 => by
      refine ⟨w1.trans hV.1, w2.trans hV.2.1, fun a j q => ?_, fun l hl => ?_⟩
      · rw [w3 a j (q.imp id (fun z => z i (by omega)))]
        exact hV.2.2.1 a j (q.imp id (fun z l hl => z l (by omega)))
      · by_cases z : l = i
        · subst z
          exact w4
        · rw [w3 286 _ (by omega)]
          exact hV.2.2.2 l (by omega)
    rw [r284_118]
    simp (disch := omega) only [r284_119, r284_120, r284_123, r284_126, r284_127, r284_128, r284_130, r284_133, r284_136, r284_137, r284_138, r284_139, r284_142, r284_143, r284_146, r284_147, r284_150, r284_152, r284_153, r284_154, r284_156, r284_157, r284_158, r284_161, r284_162, r284_165, h0, e20, e27, t8, t0, r19, j6, n6, xinbT, xixT, leT, leF, ltT, ltF, ngF, psT, n1F, n2F, km2, km3, km4, km5, km10, km15, km25, kl8, kl14, kl24, kl34, kl274, kl354, kl384, kr1, kr2, kr3, kr4, kr5, kr6, kr7, kr8, kr9, kaa, lb0, lb1, lb2, lb3, lb4, lb5, lb6, lb7, li0, li1, li2, li3, li4, li5, li6, li7, true_and, and_true, Option.some.injEq, exists_eq_left', Option.toList_some, Option.toList_none, List.cons_append, List.nil_append, xcat_nil, xcat_int, xcat_ref, xcat_long, not_true, not_false_iff, if_true, if_false, and_self, and_false, false_and, or_true, true_or, or_self, z01, z10, zle8, Nat.reduceAdd, Nat.reduceLeDiff]
    by_cases z8 : xI W 286 (25 * i + 8) = 0
    · by_cases z0 : d < xI W 286 (25 * i)
      · simp only [z8, z0, true_and, and_true, Option.some.injEq, exists_eq_left', Option.toList_some, Option.toList_none, List.cons_append, List.nil_append, xcat_nil, xcat_int, xcat_ref, xcat_long, not_true, not_false_iff, if_true, if_false, and_self, and_false, false_and, or_true, true_or, or_self, z01, z10, zle8, Nat.reduceAdd, Nat.reduceLeDiff]
        refine ih _ (nx V rfl rfl (fun _ _ _ => rfl) ?_)
        rw [if_neg (fun y => absurd z0 (i32_nlt.mpr y.2))]
        exact c8
      · simp only [z8, z0, true_and, and_true, Option.some.injEq, exists_eq_left', Option.toList_some, Option.toList_none, List.cons_append, List.nil_append, xcat_nil, xcat_int, xcat_ref, xcat_long, not_true, not_false_iff, if_true, if_false, and_self, and_false, false_and, or_true, true_or, or_self, z01, z10, zle8, Nat.reduceAdd, Nat.reduceLeDiff]
        refine ih _ (nx _ rfl rfl (fun a j q => xI_ne q) ?_)
        rw [if_pos ⟨z8, i32_nlt.mp z0⟩]
        exact xI_at
    · simp only [z8, true_and, and_true, Option.some.injEq, exists_eq_left', Option.toList_some, Option.toList_none, List.cons_append, List.nil_append, xcat_nil, xcat_int, xcat_ref, xcat_long, not_true, not_false_iff, if_true, if_false, and_self, and_false, false_and, or_true, true_or, or_self, z01, z10, zle8, Nat.reduceAdd, Nat.reduceLeDiff]
      refine ih _ (nx V rfl rfl (fun _ _ _ => rfl) ?_)
      rw [if_neg (fun y => z8 y.1)]
      exact c8
theorem fileM_t {W : xMem} (hx : Mx W g D s nl np nb nc nr nh nk) (hc : cpB W g n nf np) (hB : okB g n nf nc np) (hd : fLf g nf < d) (h12 : nf < 12) (h8 : na ≤ 8) (h31 : xI W 278 31 = nI na)
    (hP : ∀ V V2 v, FlQ W V g d n nf np → FlL (xsI (xsI V 290 nf d) 278 27 (nI (nf + 1))) V2 d nf n → Kept V2 v 278 31 292 na 4 0 0 → P (some (.int (sumN (fun k => fUp2 g d (nI k) n nf) np))) (mGood v)) : zr 284 47 [.ref 278, .int d, .null, .null, .null] [] W P := by
  have hn := hB.1.1.2
  simp only [r284_47, r284_48, r284_49, r284_50, true_and, and_true, Option.some.injEq, exists_eq_left', Option.toList_some, Option.toList_none, List.cons_append, List.nil_append, xcat_nil, xcat_int, xcat_ref, xcat_long, not_true, not_false_iff, if_true, if_false, and_self, and_false, false_and, or_true, true_or, or_self, z01, z10, zle8, Nat.reduceAdd, Nat.reduceLeDiff]
  refine fileM_l1 hx hc hB hd h12 (fun V v4 hV => ?_) np 0 W .null (by omega) ⟨rfl, rfl, fun _ _ _ => rfl, fun q hq => absurd hq (by omega)⟩
  have mV := hV.mx hx
  have h10 : np ≤ 10 := by have := hx.2.1.1.b; omega
  have cV := hV.cb hc h10
  obtain ⟨h0, r25, r26, ⟨i25, n25⟩, -⟩ := mV.1.cb
  have e27 := cV.2.1
  have i1 : xIs (xsI V 290 nf d) 278 11 := h0
  have e27b : xI (xsI V 290 nf d) 278 27 = nI nf := (xI_ne (by omega)).trans e27
  simp (disch := omega) only [r284_96, r284_97, r284_100, r284_101, r284_104, r284_105, r284_106, r284_107, r284_108, r284_111, r284_112, r284_113, r284_116, r284_117, h0, r25, i25, n25, e27, i1, e27b, xinbT, xixT, leT, leF, ltT, ltF, ngF, psT, n1F, n2F, km2, km3, km4, km5, km10, km15, km25, kl8, kl14, kl24, kl34, kl274, kl354, kl384, kr1, kr2, kr3, kr4, kr5, kr6, kr7, kr8, kr9, kaa, lb0, lb1, lb2, lb3, lb4, lb5, lb6, lb7, li0, li1, li2, li3, li4, li5, li6, li7, true_and, and_true, Option.some.injEq, exists_eq_left', Option.toList_some, Option.toList_none, List.cons_append, List.nil_append, xcat_nil, xcat_int, xcat_ref, xcat_long, not_true, not_false_iff, if_true, if_false, and_self, and_false, false_and, or_true, true_or, or_self, z01, z10, zle8, Nat.reduceAdd, Nat.reduceLeDiff]
  have hM2 : sMd (xsI (xsI V 290 nf d) 278 27 (nI (nf + 1))) := mV.1
  have e20 : xI (xsI (xsI V 290 nf d) 278 27 (nI (nf + 1))) 278 20 = nI n := by rw [xI_ne (by omega), xI_ne (by omega)]; exact cV.1
  have e31 : xI (xsI (xsI V 290 nf d) 278 27 (nI (nf + 1))) 278 31 = nI na := by rw [xI_ne (by omega), xI_ne (by omega)]; exact (hV.2.2.1 278 31 (by omega)).trans h31
  refine fileM_l2 hM2 e20 xI_at hn (fun V2 hV2 => ?_) n 0 _ (by omega) ⟨rfl, rfl, fun _ _ _ => rfl, fun q hq => absurd hq (by omega)⟩
  have hMV : sMd V2 := by rw [shp hV2.1 (congrArg (fun q => q.2) hV2.2.1)]; exact hM2
  have e31b : xI V2 278 31 = nI na := (hV2.2.2.1 278 31 (by omega)).trans e31
  simp only [r284_168, r284_169, r284_170, r284_171, r284_172, hMV.1, true_and, and_true, Option.some.injEq, exists_eq_left', Option.toList_some, Option.toList_none, List.cons_append, List.nil_append, xcat_nil, xcat_int, xcat_ref, xcat_long, not_true, not_false_iff, if_true, if_false, and_self, and_false, false_and, or_true, true_or, or_self, z01, z10, zle8, Nat.reduceAdd, Nat.reduceLeDiff]
  refine rem_run hMV e31b h8 (fun v hv => ?_)
  have hMv : sMd v := by rw [shp hv.1 (congrArg (fun q => q.2) hv.2.1)]; exact hMV
  simp only [r284_175, r284_176, r284_177, r284_180, hMv.1, good_run hMv.1, true_and, and_true, Option.some.injEq, exists_eq_left', Option.toList_some, Option.toList_none, List.cons_append, List.nil_append, xcat_nil, xcat_int, xcat_ref, xcat_long, not_true, not_false_iff, if_true, if_false, and_self, and_false, false_and, or_true, true_or, or_self, z01, z10, zle8, Nat.reduceAdd, Nat.reduceLeDiff]
  exact hP V V2 v hV hV2 hv
end
