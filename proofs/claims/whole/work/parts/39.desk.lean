/-! THE DESK: rates of all places, sums over stacks, the cheapest point -/
section
variable {u : xMem} {P : Option Value → xMem → Prop} {D n m nr np nl s : Nat} {p c d x y : Int32}
/-- the rate of place p for class c on day d, at the tariff t -/
def tRate (u : xMem) (t n : Nat) (p c d : Int32) : Int32 := fRate (xI u (t + 3)) (xI u (t + 4)) (xI u (t + 5)) (xI u (t + 6)) (xI u (t + 1)) p c d n
theorem xfill_f {a b : Nat} {f : Nat → Int32} {n : Nat} (h : b ≠ a) : xI (xfill u a n f) b = xI u b := xIf_fill h
/-- the desk at D is sound: its counts, its classes -/
def okD (u : xMem) (D s nl np nb nc nr nh nk : Nat) : Prop := sDk u D ∧ (xI u (D + 1) 0 = nI s ∧ s ≤ 40) ∧ (xI u (D + 1) 1 = nI nl ∧ nl ≤ 4) ∧ (xI u (D + 1) 2 = nI np ∧ np ≤ 10) ∧ (xI u (D + 4) 0 = nI nb ∧ nb ≤ 16) ∧ (xI u (D + 12) 0 = nI nc ∧ nc ≤ 6) ∧ (xI u (D + 14) 0 = nI nr ∧ nr ≤ 20) ∧ (xI u (D + 12) 3 = nI nh ∧ nh ≤ 6) ∧ (xI u (D + 12) 9 = nI nk ∧ nk ≤ 6) ∧ okCof (xI u (D + 13)) nc ∧ ∀ b, b < nb → ∃ c, c ≤ 6 ∧ xI u (D + 7) b = nI c
/-- the bounds chosen for a day -/
def dCh (u : xMem) (D nb : Nat) (d : Int32) : Nat → Int32 := fun p => fLat (xI u (D + 5)) (xI u (D + 6)) (nI p) d nb
theorem dCh_ok {nb nc nh nk : Nat} (h : okD u D s nl np nb nc nr nh nk) : okCh (dCh u D nb d) (xI u (D + 7)) np := by
  intro i hi h0
  rcases fLat_cases (xI u (D + 5)) (xI u (D + 6)) (nI i) d nb with q | ⟨k, hk, q, -⟩
  · have h0 : 0 ≤ fLat (xI u (D + 5)) (xI u (D + 6)) (nI i) d nb := h0
    rw [q] at h0
    exact absurd h0 (by decide)
  · obtain ⟨c, hc, e⟩ := h.2.2.2.2.2.2.2.2.2.2 k hk
    have := h.2.2.2.2.1.2
    exact ⟨k, c, by omega, q, e, hc⟩
end
