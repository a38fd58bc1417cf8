/-! SCRATCH, and stacks of the desk -/
/-- what queries may write -/
def SC (a j : Nat) : Prop := (a = 0 ∧ j = 6) ∨ (a = 7 ∧ j = 8) ∨ (a = 35 ∧ j = 8) ∨ a = 16 ∨ a = 17 ∨ a = 33 ∨ a = 44 ∨ a = 45 ∨ a = 61 ∨ (66 ≤ a ∧ a ≤ 68) ∨ (273 ≤ a ∧ a ≤ 277) ∨ (a = 278 ∧ (j = 0 ∨ j = 1 ∨ j = 2 ∨ j = 24)) ∨ a = 284 ∨ a = 285 ∨ (287 ≤ a ∧ a ≤ 289)
section
variable {u w : xMem} {P : Option Value → xMem → Prop} {D s nl np nb nc nr nh nk : Nat} {p c d x y : Int32}
theorem agD (hw : xag SC u w) (hD : D = 6 ∨ D = 34) (k : Nat) (hk : (2 ≤ k ∧ k ≤ 9) ∨ (12 ≤ k ∧ k ≤ 26)) : xI w (D + k) = xI u (D + k) := hw.f (fun j q => by unfold SC at q; omega)
theorem agG (hw : xag SC u w) (hD : D = 6 ∨ D = 34) (j : Nat) (hj : j ≠ 8) : xI w (D + 1) j = xI u (D + 1) j := hw.2.2 _ _ (fun q => by unfold SC at q; omega)
theorem okD.ag (h : okD u D s nl np nb nc nr nh nk) (hw : xag SC u w) (hD : D = 6 ∨ D = 34) : okD w D s nl np nb nc nr nh nk := by
  obtain ⟨h0, h1, h2, h3, h4, h5, h6, h7, h8, h9, h10⟩ := h
  refine ⟨hw.dk h0, ?_, ?_, ?_, ?_, ?_, ?_, ?_, ?_, ?_, ?_⟩
  · rw [agG hw hD 0 (by omega)]; exact h1
  · rw [agG hw hD 1 (by omega)]; exact h2
  · rw [agG hw hD 2 (by omega)]; exact h3
  · rw [agD hw hD 4 (by omega)]; exact h4
  · rw [agD hw hD 12 (by omega)]; exact h5
  · rw [agD hw hD 14 (by omega)]; exact h6
  · rw [agD hw hD 12 (by omega)]; exact h7
  · rw [agD hw hD 12 (by omega)]; exact h8
  · rw [agD hw hD 13 (by omega)]; exact h9
  · rw [agD hw hD 7 (by omega)]; exact h10
theorem dCh_ag (hw : xag SC u w) (hD : D = 6 ∨ D = 34) : dCh w D nb d = dCh u D nb d := by
  unfold dCh
  rw [agD hw hD 5 (by omega), agD hw hD 6 (by omega)]
/-- the stack of the desk -/
def dStk (u : xMem) (D nb np nl : Nat) (d x y : Int32) : List Int32 := fStk (xI u (D + 2)) (xI u (D + 3)) (dCh u D nb d) (xI u (D + 8)) (xI u (D + 9)) (xI u (D + 7)) np nl x y
theorem dStk_ag (hw : xag SC u w) (hD : D = 6 ∨ D = 34) : dStk w D nb np nl d x y = dStk u D nb np nl d x y := by
  unfold dStk
  rw [dCh_ag hw hD, agD hw hD 2 (by omega), agD hw hD 3 (by omega), agD hw hD 8 (by omega), agD hw hD 9 (by omega), agD hw hD 7 (by omega)]
theorem fSet_congr {lay ch ch' X Y nc : Nat → Int32} {layer x y : Int32} : ∀ r i, (∀ j, i ≤ j → j < i + r → ch j = ch' j) → fSet lay ch X Y nc layer x y r i = fSet lay ch' X Y nc layer x y r i := by
  intro r
  induction r with
  | zero => intro i _; rfl
  | succ r ih =>
    intro i h
    unfold fSet
    rw [h i (by omega) (by omega), ih (i + 1) (fun j h1 h2 => h j (by omega) (by omega))]
theorem fStk_congr {lay only ch ch' X Y nc : Nat → Int32} {np nl : Nat} {x y : Int32} (h : ∀ j, j < np → ch j = ch' j) : fStk lay only ch X Y nc np nl x y = fStk lay only ch' X Y nc np nl x y := by
  unfold fStk
  have e : (fun l => fSet lay ch X Y nc (nI l) x y np 0) = fun l => fSet lay ch' X Y nc (nI l) x y np 0 := by
    funext l
    exact fSet_congr np 0 (fun j _ h2 => h j (by omega))
  rw [e]
theorem fPile_mem {sett only : Nat → Int32} {np : Nat} (h : ∀ i, sett i = -2 ∨ ∃ k, k < np ∧ sett i = nI k) : ∀ r i (p : Int32), p ∈ fPile sett only r i → ∃ k, k < np ∧ p = nI k := by
  intro r
  induction r with
  | zero => intro i p hp; cases hp
  | succ r ih =>
    intro i p hp
    unfold fPile at hp
    rcases h i with hs | ⟨k, hk, hs⟩
    · rw [hs, if_pos (by decide)] at hp
      exact ih (i + 1) p hp
    · by_cases c1 : sett i < 0
      · rw [if_pos c1] at hp
        exact ih (i + 1) p hp
      · rw [if_neg c1] at hp
        split at hp
        · rcases List.mem_cons.mp hp with q | q
          · exact ⟨k, hk, q.trans hs⟩
          · exact ih (i + 1) p q
        · rcases List.mem_cons.mp hp with q | q
          · exact ⟨k, hk, q.trans hs⟩
          · cases q
theorem dStk_mem {q : Int32} (h : q ∈ dStk u D nb np nl d x y) : ∃ k, k < np ∧ q = nI k := by
  refine fPile_mem (fun i => ?_) nl 0 q h
  rcases fSet_cases (xI u (D + 2)) (dCh u D nb d) (xI u (D + 8)) (xI u (D + 9)) (xI u (D + 7)) (nI i) x y np 0 with hs | ⟨k, -, hk, hs, -⟩
  · exact Or.inl hs
  · exact Or.inr ⟨k, by omega, hs⟩
theorem dStk_len : (dStk u D nb np nl d x y).length ≤ nl := fPile_len _ _ _ _
/-- the bounds of a day are chosen -/
def Lk (u : xMem) (D nb np : Nat) (d : Int32) : Prop := ∀ i, i < np → xI u (D + 10) i = dCh u D nb d i
/-- the stack L is laid -/
def Pl (u : xMem) (D : Nat) (L : List Int32) : Prop := xI u (D + 1) 8 = nI L.length ∧ ∀ j, j < L.length → xI u (D + 11) j = L.getD j 0
/-- the bounds chosen alone -/
def SL (D : Nat) : Nat → Nat → Prop := fun a _ => a = D + 10
theorem xag.scP (h : xag (SGp (D + 1)) u w) (hD : D = 6 ∨ D = 34) : xag SC u w := h.wk (fun a j q => by unfold SGp at q; unfold SC; omega)
theorem xag.scL (h : xag (SL D) u w) (hD : D = 6 ∨ D = 34) : xag SC u w := h.wk (fun a j q => by unfold SL at q; unfold SC; omega)
theorem look_lk (h : okD u D s nl np nb nc nr nh nk) (hD : D = 6 ∨ D = 34) (hP : ∀ w, xag (SL D) u w → Lk w D nb np d → P none w) : zr 45 0 [.ref (D + 1), .int d, .null] [] u P := by
  rw [look_run (g := D + 1) h.1.2.2.1 h.2.2.2.2.1.1 h.2.2.2.2.1.2 h.2.2.2.1.1 h.2.2.2.1.2]
  have hw : xag (SL D) u (xfill u (D + 10) np (dCh u D nb d)) := xag.fill (fun j => rfl)
  show P none (xfill u (D + 10) np (dCh u D nb d))
  refine hP _ hw ?_
  intro i hi
  rw [dCh_ag (hw.scL hD) hD, xI_fill, if_pos ⟨rfl, hi⟩]
theorem pile_lk (h : okD u D s nl np nb nc nr nh nk) (hD : D = 6 ∨ D = 34) (hk : Lk u D nb np d) (hP : ∀ w, xag (SGp (D + 1)) u w → Lk w D nb np d → Pl w D (dStk u D nb np nl d x y) → P none w) : zr 47 0 [.ref (D + 1), .int x, .int y, .null, .null] [] u P := by
  have hch : okCh (xI u (D + 10)) (xI u (D + 7)) np := by
    intro i hi h0
    rw [hk i hi] at h0 ⊢
    exact dCh_ok (d := d) h i hi h0
  have hq := pile_run (P := P) (x := x) (y := y) (g := D + 1) h.1.2.2.1 h.2.2.2.1.1 h.2.2.2.1.2 h.2.2.1.1 h.2.2.1.2 hch
  have e : fPile (fun l => fSet (xI u (D + 2)) (xI u (D + 10)) (xI u (D + 8)) (xI u (D + 9)) (xI u (D + 7)) (nI l) x y np 0) (xI u (D + 3)) nl 0 = dStk u D nb np nl d x y := fStk_congr hk
  have hq : zr 47 0 [.ref (D + 1), .int x, .int y, .null, .null] [] u P = P none (xpile u (D + 1) (fPile (fun l => fSet (xI u (D + 2)) (xI u (D + 10)) (xI u (D + 8)) (xI u (D + 9)) (xI u (D + 7)) (nI l) x y np 0) (xI u (D + 3)) nl 0)) := hq
  rw [hq, e]
  have hw : xag (SGp (D + 1)) u (xpile u (D + 1) (dStk u D nb np nl d x y)) := xag.pile (Or.inl ⟨rfl, rfl⟩) (fun j => Or.inr rfl)
  refine hP _ hw ?_ ⟨xI_pile8, fun j hj => xI_pileA hj⟩
  intro i hi
  rw [dCh_ag (hw.scP hD) hD, xIf_pile (by omega) (by omega)]
  exact hk i hi
/-- a fresh view of what a run may leave behind -/
theorem okD.gr (h : okD u D s nl np nb nc nr nh nk) : sGr u (D + 1) := h.1.2.2.1
theorem okD.tf (h : okD u D s nl np nb nc nr nh nk) : sTf u (D + 12) := h.1.2.2.2.1
theorem rate_run (h : okD u D s nl np nb nc nr nh nk) {j : Nat} (hj : j < nc) : zr 99 0 [.ref (D + 12), .int p, .int (nI j), .int d, .null, .null, .null] [] u P = P (some (.int (tRate u (D + 12) nr p (nI j) d))) u :=
  rateFor_run h.tf h.2.2.2.2.2.2.1.1 h.2.2.2.2.2.2.1.2 h.2.2.2.2.2.2.2.2.2.1 h.2.2.2.2.2.1.2 ⟨j, hj, rfl⟩
def tCap (u : xMem) (t n : Nat) (p c : Int32) : Int32 := fCap (xI u (t + 12)) (xI u (t + 13)) (xI u (t + 14)) (xI u (t + 1)) p c n
def tFree (u : xMem) (t n : Nat) (p c d price : Int32) : Bool := fFr (xI u (t + 7)) (xI u (t + 8)) (xI u (t + 9)) (xI u (t + 10)) (xI u (t + 11)) (xI u (t + 1)) p c d price n 0
theorem cap_run (h : okD u D s nl np nb nc nr nh nk) {j : Nat} (hj : j < nc) : zr 102 0 [.ref (D + 12), .int p, .int (nI j), .null, .null, .null] [] u P = P (some (.int (tCap u (D + 12) nk p (nI j)))) u :=
  capFor_run h.tf h.2.2.2.2.2.2.2.2.1.1 h.2.2.2.2.2.2.2.2.1.2 h.2.2.2.2.2.2.2.2.2.1 h.2.2.2.2.2.1.2 ⟨j, hj, rfl⟩
theorem free_run (h : okD u D s nl np nb nc nr nh nk) {j : Nat} (hj : j < nc) {price : Int32} : zr 100 0 [.ref (D + 12), .int p, .int (nI j), .int d, .int price, .null] [] u P = P (some (.int (bI (tFree u (D + 12) nh p (nI j) d price)))) u :=
  isFree_run h.tf h.2.2.2.2.2.2.2.1.1 h.2.2.2.2.2.2.2.1.2 h.2.2.2.2.2.2.2.2.2.1 h.2.2.2.2.2.1.2 ⟨j, hj, rfl⟩
theorem tRate_ag (hw : xag SC u w) (hD : D = 6 ∨ D = 34) : tRate w (D + 12) nr p c d = tRate u (D + 12) nr p c d := by
  unfold tRate
  rw [show D + 12 + 3 = D + 15 from rfl, show D + 12 + 4 = D + 16 from rfl, show D + 12 + 5 = D + 17 from rfl, show D + 12 + 6 = D + 18 from rfl, show D + 12 + 1 = D + 13 from rfl, agD hw hD 15 (by omega), agD hw hD 16 (by omega), agD hw hD 17 (by omega), agD hw hD 18 (by omega), agD hw hD 13 (by omega)]
theorem tCap_ag (hw : xag SC u w) (hD : D = 6 ∨ D = 34) : tCap w (D + 12) nk p c = tCap u (D + 12) nk p c := by
  unfold tCap
  rw [show D + 12 + 12 = D + 24 from rfl, show D + 12 + 13 = D + 25 from rfl, show D + 12 + 14 = D + 26 from rfl, show D + 12 + 1 = D + 13 from rfl, agD hw hD 24 (by omega), agD hw hD 25 (by omega), agD hw hD 26 (by omega), agD hw hD 13 (by omega)]
theorem tFree_ag {price : Int32} (hw : xag SC u w) (hD : D = 6 ∨ D = 34) : tFree w (D + 12) nh p c d price = tFree u (D + 12) nh p c d price := by
  unfold tFree
  rw [show D + 12 + 7 = D + 19 from rfl, show D + 12 + 8 = D + 20 from rfl, show D + 12 + 9 = D + 21 from rfl, show D + 12 + 10 = D + 22 from rfl, show D + 12 + 11 = D + 23 from rfl, show D + 12 + 1 = D + 13 from rfl, agD hw hD 19 (by omega), agD hw hD 20 (by omega), agD hw hD 21 (by omega), agD hw hD 22 (by omega), agD hw hD 23 (by omega), agD hw hD 13 (by omega)]
end
