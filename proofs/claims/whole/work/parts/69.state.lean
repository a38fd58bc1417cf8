/-! THE STATE between two calls: class and model side by side -/
/-- the lines and filings of the class are sound -/
def okB (u : xMem) (n nf nc np : Nat) : Prop :=
  okL u n ∧ (xI u 62 2 = nI nf ∧ nf ≤ 12) ∧
  (∀ l, l < n → (∃ j, j < nc ∧ xI u (69 + 5 * l) 3 = nI j) ∧ (∃ a, a ≤ 999 ∧ xI u (69 + 5 * l) 0 = nI a) ∧ (∃ a, a ≤ 40 ∧ xI u (69 + 5 * l) 1 = nI a) ∧ (∃ a, a ≤ 40 ∧ xI u (69 + 5 * l) 2 = nI a) ∧
    (xI u (69 + 5 * l) 7 = -1 ∨ ∃ f, f < nf ∧ xI u (69 + 5 * l) 7 = nI f ∧ xI u (69 + 5 * l) 0 ≤ xI u 64 f) ∧
    ∀ i, i < pn u l → (∃ q, q < np ∧ xI u (69 + 5 * l + 1) i = nI q) ∧ (xI u (69 + 5 * l + 3) i = -2 ∨ 0 ≤ xI u (69 + 5 * l + 3) i) ∧ ∃ b, xI u (69 + 5 * l + 4) i = bI b) ∧
  (∀ f, f < nf → (∃ a, a ≤ 999 ∧ xI u 64 f = nI a) ∧ ∀ q, np ≤ q → q < 10 → xI u 65 (10 * f + q) = 0) ∧
  ∀ f f', f < f' → f' < nf → xI u 64 f < xI u 64 f'
/-- the model's book in u tells the class's book in g -/
def cpB (u g : xMem) (n nf np : Nat) : Prop :=
  xI u 278 20 = nI n ∧ xI u 278 27 = nI nf ∧
  (∀ l, l < n → (∀ k, k < 7 → xI u 286 (25 * l + k) = xI g (69 + 5 * l) k) ∧ xI u 286 (25 * l + 7) = xI g (69 + 5 * l) 8 ∧ xI u 286 (25 * l + 8) = xI g (69 + 5 * l) 7 + 1 ∧
    ∀ i, i < pn g l → xI u 286 (25 * l + 9 + 4 * i) = xI g (69 + 5 * l + 1) i ∧ xI u 286 (25 * l + 9 + 4 * i + 1) = xI g (69 + 5 * l + 2) i ∧ xI u 286 (25 * l + 9 + 4 * i + 2) = xI g (69 + 5 * l + 3) i ∧ xI u 286 (25 * l + 9 + 4 * i + 3) = xI g (69 + 5 * l + 4) i) ∧
  ∀ f, f < nf → xI u 290 f = xI g 64 f ∧ ∀ q, q < np → xI u 291 (10 * f + q) = xI g 65 (10 * f + q)
/-- how many of the first acts are of a kind -/
def cntA (K : Nat → Int32) (k : Int32) : Nat → Nat
  | 0 => 0
  | i + 1 => cntA K k i + (if K i = k then 1 else 0)
/-- the acts of class and model -/
def okA (u : xMem) (na n nf nb nr : Nat) : Prop :=
  (xI u 269 0 = nI na ∧ na ≤ 8 ∧ xI u 278 31 = nI na) ∧
  (∀ k, k < na → (xI u 270 k = 0 ∧ xI u 292 k = 4) ∨ (xI u 270 k = 1 ∧ xI u 292 k = 0) ∨ (xI u 270 k = 2 ∧ xI u 292 k = 1 ∧ ∃ l, l < 40 ∧ xI u 271 k = nI l ∧ xI u 293 k = nI l ∧ xI u 272 k = xI u 294 k) ∨ (xI u 270 k = 3 ∧ xI u 292 k = 2) ∨ (xI u 270 k = 4 ∧ xI u 292 k = 3)) ∧
  cntA (xI u 270) 0 na ≤ nf ∧ cntA (xI u 270) 1 na ≤ n ∧ cntA (xI u 270) 3 na ≤ nb ∧ cntA (xI u 270) 4 na ≤ nr
/-- the tapes at rest, the faults -/
def okT (u : xMem) (f : Nat) : Prop := (xI u 2 1 = nI f ∧ xI u 278 9 = nI f ∧ f ≤ 1200) ∧ ((∀ j, xI u 3 j = xI u 283 j) ∧ ∀ j, j < 1200 → -128 ≤ xI u 3 j ∧ xI u 3 j ≤ 127) ∧ xI u 278 15 = xI u 1 5
def St (u : xMem) (D E s nl np nb nc nr nh nk n nf na f : Nat) (op : Bool) : Prop :=
  Sh u D E ∧ okG u D s nl np nb nc nr nh nk ∧ cpD (xI u 279) u D np nb nc nr nh nk ∧ (xI u 0 2 = bI op ∧ xI u 278 7 = bI op ∧ (op = false → n = 0)) ∧ okB u n nf nc np ∧ cpB u u n nf np ∧ okA u na n nf nb nr ∧ okT u f
/-- the trouble of both -/
def Tr (u : xMem) : Prop := xI u 278 1 = xI u 0 6 ∧ xI u 278 2 = if xI u 0 6 = 4 then xI u 1 6 else -1
def Inv (u : xMem) : Prop := Tr u ∧ ∃ D E s nl np nb nc nr nh nk n nf na f op, St u D E s nl np nb nc nr nh nk n nf na f op
/-- what no call but a throwing one changes -/
def Fr (u w : xMem) : Prop := w.1 = u.1 ∧ w.2.2.2.2 = u.2.2.2.2 ∧ xI w 2000000 = xI u 2000000
/-- a call of both -/
def Both (m m' : Nat) (ls ls' : List Value) (u : xMem) : Prop := zr m 0 ls [] u (fun r u1 => Fr u u1 ∧ zr m' 0 ls' [] u1 (fun r' u2 => (∃ x, r = some (.int x) ∧ r' = some (.int x)) ∧ Fr u u2 ∧ Inv u2))
theorem Fr.rf {u : xMem} : Fr u u := ⟨rfl, rfl, rfl⟩
theorem Fr.tr {u v w : xMem} (h : Fr u v) (k : Fr v w) : Fr u w := ⟨k.1.trans h.1, k.2.1.trans h.2.1, k.2.2.trans h.2.2⟩
section
variable {S : Nat → Nat → Prop} {u w v g : xMem} {P : Option Value → xMem → Prop} {D E s nl np nb nc nr nh nk n nf na f m m' : Nat} {op : Bool} {a t : Int32} {ls ls' : List Value}
theorem xag.fr (h : xag S u w) (hS : ∀ j, ¬ S 2000000 j) : Fr u w := ⟨h.1, by rw [h.2.1], h.f hS⟩
theorem xag.scfr (h : xag SC u w) : Fr u w := h.fr (fun j q => by unfold SC at q; omega)
theorem xag.dks (h : xag S u w) (k : Sh u D E) : Sh w D E := by
  have e := h.eq
  rw [e]
  exact k
/-- what is not scratch -/
theorem scI (h : xag SC u w) {b : Nat} (hb : ∀ j, ¬ SC b j) : xI w b = xI u b := h.f hb
theorem okG.ag (h : okG u D s nl np nb nc nr nh nk) (hw : xag SC u w) (hD : D = 6 ∨ D = 34) : okG w D s nl np nb nc nr nh nk := by
  obtain ⟨h1, h2, h3, h4, h5, h6⟩ := h
  refine ⟨h1.ag hw hD, ?_, ?_, ?_, ?_, ?_⟩
  · unfold okXY
    rw [agD hw hD 7 (by omega), agD hw hD 8 (by omega), agD hw hD 9 (by omega)]
    exact h2
  · unfold okOn
    rw [agD hw hD 3 (by omega)]
    exact h3
  · unfold okRv
    rw [agD hw hD 18 (by omega), agD hw hD 26 (by omega)]
    exact h4
  · unfold okRm
    rw [agD hw hD 18 (by omega)]
    exact h5
  · unfold okDy
    rw [agD hw hD 6 (by omega), agD hw hD 17 (by omega), agD hw hD 21 (by omega), agD hw hD 22 (by omega)]
    exact h6
theorem cpD.ag2 {M : Nat → Int32} (h : cpD M u D np nb nc nr nh nk) (hw : xag SC u w) (hD : D = 6 ∨ D = 34) : cpD M w D np nb nc nr nh nk := by
  unfold cpD at h ⊢
  rw [agG hw hD 0 (by omega), agG hw hD 1 (by omega), agG hw hD 2 (by omega)]
  rw [agD hw hD 2 (by omega), agD hw hD 3 (by omega), agD hw hD 4 (by omega), agD hw hD 5 (by omega), agD hw hD 6 (by omega), agD hw hD 7 (by omega), agD hw hD 8 (by omega), agD hw hD 9 (by omega), agD hw hD 12 (by omega), agD hw hD 13 (by omega), agD hw hD 14 (by omega), agD hw hD 15 (by omega), agD hw hD 16 (by omega), agD hw hD 17 (by omega), agD hw hD 18 (by omega), agD hw hD 19 (by omega), agD hw hD 20 (by omega), agD hw hD 21 (by omega), agD hw hD 22 (by omega), agD hw hD 23 (by omega), agD hw hD 24 (by omega), agD hw hD 25 (by omega), agD hw hD 26 (by omega)]
  exact h
theorem scln (h : xag SC u w) {l k : Nat} (hl : l < 40) (hk : k ≤ 4) : xI w (69 + 5 * l + k) = xI u (69 + 5 * l + k) := scI h (fun j q => by unfold SC at q; omega)
theorem scln0 (h : xag SC u w) {l : Nat} (hl : l < 40) : xI w (69 + 5 * l) = xI u (69 + 5 * l) := scln h hl (k := 0) (by omega)
theorem sc278 (h : xag SC u w) {j : Nat} (hj : j ≠ 0 ∧ j ≠ 1 ∧ j ≠ 2 ∧ j ≠ 24) : xI w 278 j = xI u 278 j := h.2.2 278 j (fun q => by unfold SC at q; omega)
theorem pn_ag (h : xag SC u w) {l : Nat} (hl : l < 40) : pn w l = pn u l := by
  unfold pn
  rw [scln0 h hl]
theorem okL.ag (h : okL u n) (hw : xag SC u w) : okL w n := by
  obtain ⟨⟨h1, h2⟩, h3⟩ := h
  refine ⟨⟨?_, h2⟩, fun l hl => ?_⟩
  · rw [scI hw (fun j q => by unfold SC at q; omega)]
    exact h1
  · rw [scln0 hw (by omega), pn_ag hw (by omega)]
    exact h3 l hl
theorem okB.ag (h : okB u n nf nc np) (hw : xag SC u w) : okB w n nf nc np := by
  obtain ⟨h1, h2, h3, h4, h5⟩ := h
  have hn := h1.1.2
  have e62 : xI w 62 = xI u 62 := scI hw (fun j q => by unfold SC at q; omega)
  have e64 : xI w 64 = xI u 64 := scI hw (fun j q => by unfold SC at q; omega)
  have e65 : xI w 65 = xI u 65 := scI hw (fun j q => by unfold SC at q; omega)
  refine ⟨h1.ag hw, by rw [e62]; exact h2, fun l hl => ?_, by rw [e64, e65]; exact h4, by rw [e64]; exact h5⟩
  rw [scln0 hw (by omega), scln hw (k := 1) (by omega) (by omega), scln hw (k := 3) (by omega) (by omega), scln hw (k := 4) (by omega) (by omega), pn_ag hw (by omega), e64]
  exact h3 l hl
theorem cpB.ag (h : cpB u g n nf np) (hw : xag SC u w) : cpB w g n nf np := by
  obtain ⟨h1, h2, h3, h4⟩ := h
  have e86 : xI w 286 = xI u 286 := scI hw (fun j q => by unfold SC at q; omega)
  have e90 : xI w 290 = xI u 290 := scI hw (fun j q => by unfold SC at q; omega)
  have e91 : xI w 291 = xI u 291 := scI hw (fun j q => by unfold SC at q; omega)
  refine ⟨by rw [sc278 hw (by omega)]; exact h1, by rw [sc278 hw (by omega)]; exact h2, by rw [e86]; exact h3, by rw [e90, e91]; exact h4⟩
theorem cpB.ag2 (h : cpB v u n nf np) (hw : xag SC u w) (hn : n ≤ 40) : cpB v w n nf np := by
  obtain ⟨h1, h2, h3, h4⟩ := h
  have e64 : xI w 64 = xI u 64 := scI hw (fun j q => by unfold SC at q; omega)
  have e65 : xI w 65 = xI u 65 := scI hw (fun j q => by unfold SC at q; omega)
  refine ⟨h1, h2, fun l hl => ?_, by rw [e64, e65]; exact h4⟩
  rw [scln0 hw (by omega), scln hw (k := 1) (by omega) (by omega), scln hw (k := 2) (by omega) (by omega), scln hw (k := 3) (by omega) (by omega), scln hw (k := 4) (by omega) (by omega), pn_ag hw (by omega)]
  exact h3 l hl
theorem okA.ag (h : okA u na n nf nb nr) (hw : xag SC u w) : okA w na n nf nb nr := by
  have e : ∀ b, 269 ≤ b → b ≤ 272 ∨ 292 ≤ b → xI w b = xI u b := fun b h1 h2 => scI hw (fun j q => by unfold SC at q; omega)
  unfold okA
  rw [e 269 (by omega) (by omega), e 270 (by omega) (by omega), e 271 (by omega) (by omega), e 272 (by omega) (by omega), e 292 (by omega) (by omega), e 293 (by omega) (by omega), e 294 (by omega) (by omega), sc278 hw (by omega)]
  exact h
theorem okT.ag (h : okT u f) (hw : xag SC u w) : okT w f := by
  have e : ∀ b, 1 ≤ b → b ≤ 3 ∨ b = 283 → xI w b = xI u b := fun b h1 h2 => scI hw (fun j q => by unfold SC at q; omega)
  unfold okT
  rw [e 1 (by omega) (by omega), e 2 (by omega) (by omega), e 3 (by omega) (by omega), e 283 (by omega) (by omega), sc278 hw (by omega), sc278 hw (by omega)]
  exact h
theorem Sh.d (h : Sh u D E) : D = 6 ∨ D = 34 := by
  rcases h.1 with q | q
  · exact Or.inl q.1
  · exact Or.inr q.1
theorem St.ag (h : St u D E s nl np nb nc nr nh nk n nf na f op) (hw : xag SC u w) : St w D E s nl np nb nc nr nh nk n nf na f op := by
  obtain ⟨h1, h2, h3, ⟨h4, h4', h4''⟩, h5, h6, h7, h8⟩ := h
  have hD := h1.d
  refine ⟨hw.dks h1, h2.ag hw hD, ?_, ⟨?_, ?_, h4''⟩, h5.ag hw, (h6.ag hw).ag2 hw h5.1.1.2, h7.ag hw, h8.ag hw⟩
  · rw [scI hw (fun j q => by unfold SC at q; omega)]
    exact h3.ag2 hw hD
  · rw [hw.2.2 0 2 (fun q => by unfold SC at q; omega)]
    exact h4
  · rw [sc278 hw (by omega)]
    exact h4'
/-- the model over w, told by the desk of u -/
theorem St.mx (h : St u D E s nl np nb nc nr nh nk n nf na f op) (hw : xag SC u w) : Mx w u D s nl np nb nc nr nh nk := by
  obtain ⟨h1, h2, h3, -⟩ := h
  refine ⟨h1.2.2.2.2.2.2.2.2.2.1.ag hw, h2, ?_⟩
  rw [scI hw (fun j q => by unfold SC at q; omega)]
  exact h3
theorem St.o (h : St u D E s nl np nb nc nr nh nk n nf na f op) (hw : xag SC u w) : xI w 278 7 = bI op := by
  rw [sc278 hw (by omega)]
  exact h.2.2.2.1.2.1
/-- a query answered alike -/
theorem both (h : St u D E s nl np nb nc nr nh nk n nf na f op) (hC : QC m ls u a t) (hM : ∀ w, xag SC u w → QM m' ls' w a t) (ht : t ≠ 4) : Both m m' ls ls' u := by
  refine hC _ (fun v hv h6 => ⟨hv.scfr, hM v hv _ (fun z hz t1 t2 => ⟨⟨a, rfl, rfl⟩, (hv.tr hz.m).scfr, ⟨?_, ?_⟩, D, E, s, nl, np, nb, nc, nr, nh, nk, n, nf, na, f, op, h.ag (hv.tr hz.m)⟩)⟩)
  · rw [t1, hz.2.2 0 6 (fun q => by unfold SCm at q; omega), h6]
  · rw [t2, hz.2.2 0 6 (fun q => by unfold SCm at q; omega), h6, if_neg ht]
end
