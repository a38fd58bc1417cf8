/-! THE FIRST MEMORY -/
def x0 (L : Nat) (xs : Nat → Int32) : xMem := (fun _ => 0, fun a j => if a = 2000000 then xs j else 0, fun _ _ => 0, fun _ _ => none, fun a => if a = 2000000 then L else 0, true, 0, 0, 0)
/-- from here on nothing is made but exceptions -/
def xoff (u : xMem) : xMem := (u.1, u.2.1, u.2.2.1, u.2.2.2.1, u.2.2.2.2.1, false, u.2.2.2.2.2.2)
theorem op3 {pc : Nat} {o : xOp} (hp : pc ≠ 2152) (h : xcd2 oId 0 pc = o) : xcd3 0 pc = o := (if_neg (fun q => hp q.2)).trans h
theorem o3_0 : xcd3 0 0 = oNew 10 7 3 := op3 (by decide) (ch_0 (by omega) rfl)
theorem o3_3 : xcd3 0 3 = oDup 4 := op3 (by decide) (ch_0 (by omega) rfl)
theorem o3_4 : xcd3 0 4 = oCalV 10 106 0 7 := op3 (by decide) (ch_0 (by omega) rfl)
theorem o3_7 : xcd3 0 7 = oAs 1 8 := op3 (by decide) (ch_0 (by omega) rfl)
theorem o3_8 : xcd3 0 8 = oNew 11 32 11 := op3 (by decide) (ch_0 (by omega) rfl)
theorem o3_11 : xcd3 0 11 = oDup 12 := op3 (by decide) (ch_0 (by omega) rfl)
theorem o3_12 : xcd3 0 12 = oCalV 11 170 0 15 := op3 (by decide) (ch_0 (by omega) rfl)
theorem o3_15 : xcd3 0 15 = oAs 2 16 := op3 (by decide) (ch_0 (by omega) rfl)
theorem o3_16 : xcd3 0 16 = oI 1 17 := op3 (by decide) (ch_0 (by omega) rfl)
theorem o3_17 : xcd3 0 17 = oNewA 14 19 := op3 (by decide) (ch_0 (by omega) rfl)
theorem o3_19 : xcd3 0 19 = oAs 3 20 := op3 (by decide) (ch_0 (by omega) rfl)
theorem o3_20 : xcd3 0 20 = oI 0 21 := op3 (by decide) (ch_0 (by omega) rfl)
theorem o3_21 : xcd3 0 21 = oIs 4 23 := op3 (by decide) (ch_0 (by omega) rfl)
/-- what the law makes first: cells 0 .. 295, the first state -/
theorem law_made {l : Launch} {G : xG} (L : Nat) (xs : Nat → Int32) : ∃ u1 u2 : xMem, (xW u1 = 278 ∧ xV u1 = true ∧ xW u2 = 295 ∧ xV u2 = true) ∧
    (xle (xnew (x0 L xs) 10 0 7) u1 ∧ xMet l G (xtb 106) [.ref 0] (xnew (x0 L xs) 10 0 7) none u1) ∧ (xle (xnew u1 11 0 32) u2 ∧ xMet l G (xtb 170) [.ref 278] (xnew u1 11 0 32) none u2) ∧
    Inv (xnew u2 14 1 1) ∧ xN (xnew u2 14 1 1) 2000000 = L ∧ xI (xnew u2 14 1 1) 2000000 = xs ∧ xT (xnew u2 14 1 1) = 296 ∧ xS (xnew u2 14 1 1) ≤ 600000 := by
  obtain ⟨n1, r1, u1, e1, rfl, hF1⟩ := mk_SP (u := x0 L xs) (Q := fun r u' => r = none ∧ F1 (x0 L xs) u') rfl rfl (fun u' h => ⟨rfl, h⟩)
  have w1 : xW u1 = 278 := hF1.1.1
  have v1 : xV u1 = true := hF1.1.2
  obtain ⟨n2, r2, u2, e2, rfl, hF2⟩ := mk_Mo (u := u1) (Q := fun r u' => r = none ∧ F2 u1 u') w1 v1 (fun u' h => ⟨rfl, h⟩)
  have w2 : xW u2 = 295 := hF2.1.1
  have v2 : xV u2 = true := hF2.1.2.trans v1
  obtain ⟨hInv, hW3, hN3, hI3⟩ := inv0 hF1 hF2
  have c1 := mcal (l := l) (G := G) (n := n1) (m := 106) (as := [.ref 0]) (by decide) (by decide) (Nat.le_of_ble_eq_true rfl) (xex_2 (I := oId) _ _ _ _ _ _ _ e1)
  have c2 := mcal (l := l) (G := G) (n := n2) (m := 170) (as := [.ref 278]) (by decide) (by decide) (Nat.le_of_ble_eq_true rfl) (xex_2 (I := oId) _ _ _ _ _ _ _ e2)
  have s1 := ctor_S n1 106 (by decide) _ _ _ _ _ _ e1
  have s2 := ctor_S n2 170 (by decide) _ _ _ _ _ _ e2
  have t1 : xW u1 + 1 = 1 + xT u1 := c1.1.2.2.2 rfl
  have t2 : xW u2 + (xT u1 + 1) = xW u1 + 1 + xT u2 := c2.1.2.2.2 v1
  have s1 : xS u1 + 2000 * 1 ≤ 7 + 2000 * xT u1 := s1
  have s2 : xS u2 + 2000 * (xT u1 + 1) ≤ xS u1 + 32 + 2000 * xT u2 := s2
  refine ⟨u1, u2, ⟨w1, v1, w2, v2⟩, c1, c2, hInv, hN3, hI3, ?_, ?_⟩
  · show xT u2 + 1 = 296
    omega
  · show xS u2 + 1 ≤ 600000
    omega
