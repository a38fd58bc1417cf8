/-! THE LAW'S RUN: its own idle is the operation I -/
def xcd2 (I : xOp) : Nat → Nat → xOp
  | 1, _ => I
  | 0, pc => xcd 0 pc
  | m + 2, pc => xcd (m + 2) pc
def zl (I : xOp) (m pc : Nat) (ls st : List Value) (u : xMem) (P : Option Value → xMem → Prop) : Prop := xRun (xcd2 I) xtb m pc ls st u P
section
variable {I : xOp} {m pc nx : Nat} {ls st : List Value} {u : xMem} {P P' : Option Value → xMem → Prop} {x y : Int32} {v w : Int64} {a b k ci kd i : Nat}
theorem xcd2_of (h : xcd m pc ls st u ≠ none) : xcd2 I m pc ls st u = xcd m pc ls st u := by
  match m, h with
  | 0, h => rfl
  | 1, h => exact absurd rfl h
  | m + 2, h => rfl
theorem xex_2 : ∀ (n m pc : Nat) (ls st : List Value) (u : xMem) (r : Option Value × xMem), xex xcd xtb n m pc ls st u = some r → xex (xcd2 I) xtb n m pc ls st u = some r := by
  intro n
  induction n with
  | zero => intro m pc ls st u r h; cases h
  | succ n ih =>
    intro m pc ls st u r h
    unfold xex at h ⊢
    cases ha : xcd m pc ls st u with
    | none => rw [ha] at h; cases h
    | some a =>
      rw [ha] at h
      rw [xcd2_of (by rw [ha]; exact fun q => by cases q), ha]
      match a, h with
      | .inl (pc1, ls1, st1, u1), h => exact ih _ _ _ _ _ _ h
      | .inr (.inl (m', as, pc1, ls1, st1, u1)), h =>
        dsimp only at h ⊢
        split at h
        · rename_i hf
          rw [if_pos hf]
          split at h
          · cases h
          · rename_i r1 u2 hin
            rw [ih _ _ _ _ _ _ hin]
            exact ih _ _ _ _ _ _ h
        · cases h
      | .inr (.inr r1), h => exact h
theorem zl_of (h : zr m pc ls st u P) : zl I m pc ls st u P := by
  obtain ⟨n, r, u', h1, h2⟩ := h
  exact ⟨n, r, u', xex_2 _ _ _ _ _ _ _ h1, h2⟩
theorem zl_g {c : Prop} [dc : Decidable c] {pc1 : Nat} {ls1 st1 : List Value} {u1 : xMem} (h : xcd2 I m pc ls st u = if c then xgo pc1 ls1 st1 u1 else none) : zl I m pc ls st u P = (c ∧ zl I m pc1 ls1 st1 u1 P) := by
  by_cases hc : c
  · rw [if_pos hc] at h
    simp only [hc, true_and]
    exact xRun_go h
  · rw [if_neg hc] at h
    simp only [hc, false_and]
    exact xRun_no h
theorem zl_I {v : Int32} (h : xcd2 I m pc = oI v nx) : zl I m pc ls st u P = zl I m nx ls (.int v :: st) u P := xRun_go (by rw [h]; rfl)
theorem zl_Il (h : xcd2 I m pc = oIl i nx) (hl : ls[i]? = some (.int x)) : zl I m pc ls st u P = zl I m nx ls (.int x :: st) u P := xRun_go (by rw [h]; unfold oIl; rw [hl])
theorem zl_Al (h : xcd2 I m pc = oAl i nx) (hl : ls[i]? = some (.ref a)) : zl I m pc ls st u P = zl I m nx ls (.ref a :: st) u P := xRun_go (by rw [h]; unfold oAl; rw [hl])
theorem zl_Is (h : xcd2 I m pc = oIs i nx) (hl : i < ls.length ∧ xok ls i = true) : zl I m pc ls (.int x :: st) u P = zl I m nx (ls.set i (.int x)) st u P := xRun_go (by rw [h]; exact if_pos hl)
theorem zl_As (h : xcd2 I m pc = oAs i nx) (hl : i < ls.length ∧ xok ls i = true) : zl I m pc ls (.ref a :: st) u P = zl I m nx (ls.set i (.ref a)) st u P := xRun_go (by rw [h]; exact if_pos hl)
theorem zl_Inc {d : Int32} (h : xcd2 I m pc = oInc i d nx) (hl : ls[i]? = some (.int x)) (ho : xok ls i = true) : zl I m pc ls st u P = zl I m nx (ls.set i (.int (x + d))) st u P := xRun_go (by rw [h]; unfold oInc; rw [hl]; exact if_pos ho)
theorem zl_B {f : Int32 → Int32 → Int32} (h : xcd2 I m pc = oB f nx) : zl I m pc ls (.int y :: .int x :: st) u P = zl I m nx ls (.int (f x y) :: st) u P := xRun_go (by rw [h]; rfl)
theorem zl_Lcmp (h : xcd2 I m pc = oLcmp nx) : zl I m pc ls (.long w :: .long v :: st) u P = zl I m nx ls (.int (lg_cmp v w) :: st) u P := xRun_go (by rw [h]; rfl)
theorem zl_I2l (h : xcd2 I m pc = oI2l nx) : zl I m pc ls (.int x :: st) u P = zl I m nx ls (.long x.toInt64 :: st) u P := xRun_go (by rw [h]; rfl)
theorem zl_If {c : Int32 → Prop} {dc : ∀ x, Decidable (c x)} {t : Nat} (h : xcd2 I m pc = oIf (fun x => decide (c x)) t nx) : zl I m pc ls (.int x :: st) u P = (if c x then zl I m t ls st u P else zl I m nx ls st u P) := by
  by_cases hc : c x
  · rw [if_pos hc]
    refine xRun_go ?_
    rw [h]
    simp [oIf, hc]
  · rw [if_neg hc]
    refine xRun_go ?_
    rw [h]
    simp [oIf, hc]
theorem zl_Cmp {c : Int32 → Int32 → Prop} {dc : ∀ x y, Decidable (c x y)} {t : Nat} (h : xcd2 I m pc = oCmp (fun x y => decide (c x y)) t nx) : zl I m pc ls (.int y :: .int x :: st) u P = (if c x y then zl I m t ls st u P else zl I m nx ls st u P) := by
  by_cases hc : c x y
  · rw [if_pos hc]
    refine xRun_go ?_
    rw [h]
    simp [oCmp, hc]
  · rw [if_neg hc]
    refine xRun_go ?_
    rw [h]
    simp [oCmp, hc]
theorem zl_Goto {t : Nat} (h : xcd2 I m pc = oGoto t) : zl I m pc ls st u P = zl I m t ls st u P := xRun_go (by rw [h]; rfl)
theorem zl_Sw {ts : List Nat} {d : Nat} (h : xcd2 I m pc = oSw ts d) : zl I m pc ls (.int x :: st) u P = zl I m (if x < 0 ∨ nI ts.length ≤ x then d else ts.getD x.toNatClampNeg d) ls st u P := by
  by_cases hc : x < 0 ∨ nI ts.length ≤ x
  · rw [if_pos hc]
    refine xRun_go ?_
    rw [h]
    simp [oSw, hc]
  · rw [if_neg hc]
    refine xRun_go ?_
    rw [h]
    simp [oSw, hc]
theorem zl_LdJ (h : xcd2 I m pc = oLdJ nx) : zl I m pc ls (.int x :: .ref a :: st) u P = ((xIs u a 14 ∧ xinb x (xN u a)) ∧ zl I m nx ls (.long (xJ u a (xix x)) :: st) u P) := zl_g (c := (a < xW u ∧ xK u a = 14) ∧ (0 ≤ x ∧ x.toNatClampNeg < xN u a)) (by rw [h]; rfl)
theorem zl_CV {m' n : Nat} {s0 as rest ls' : List Value} (h : xcd2 I m pc = oCalV ci m' n nx) (hs : s0[n]? = some (.ref a)) (ht : (s0.take n).reverse = as) (hr : s0.drop (n + 1) = rest) (hf : (((.ref a :: as) : List Value).flatMap xent1).length ≤ mN (xtb m') ∧ m' ≠ 0 ∧ m' ≠ 2) (he : xentL (mN (xtb m')) (.ref a :: as) = ls') :
    zl I m pc ls s0 u P = ((xIs u a ci ∧ xcat rest ≤ 8) ∧ zl I m' 0 ls' [] u (fun r u2 => zl I m nx ls (r.toList ++ rest) u2 P)) := by
  subst ht
  subst hr
  subst he
  by_cases hc : xIs u a ci ∧ xcat (s0.drop (n + 1)) ≤ 8
  · simp only [hc, true_and, and_self]
    refine xRun_cal ?_ hf
    rw [h]
    unfold oCalV
    rw [hs]
    exact if_pos hc
  · simp only [hc, false_and]
    refine xRun_no ?_
    rw [h]
    unfold oCalV
    rw [hs]
    exact if_neg hc
theorem zl_CS {m' n : Nat} {s0 as rest ls' : List Value} (h : xcd2 I m pc = oCal m' n nx) (hn : n ≤ s0.length) (ht : (s0.take n).reverse = as) (hr : s0.drop n = rest) (hf : (as.flatMap xent1).length ≤ mN (xtb m') ∧ m' ≠ 0 ∧ m' ≠ 2) (he : xentL (mN (xtb m')) as = ls') :
    zl I m pc ls s0 u P = (xcat rest ≤ 8 ∧ zl I m' 0 ls' [] u (fun r u2 => zl I m nx ls (r.toList ++ rest) u2 P)) := by
  subst ht
  subst hr
  subst he
  by_cases hc : xcat (s0.drop n) ≤ 8
  · simp only [hc, true_and]
    refine xRun_cal ?_ hf
    rw [h]
    exact if_pos ⟨hn, hc⟩
  · simp only [hc, false_and]
    refine xRun_no ?_
    rw [h]
    exact if_neg (fun q => hc q.2)
theorem zl_Ri (h : xcd2 I m pc = oRi 0) : zl I m pc ls [.int x] u P = P (some (.int x)) u := xRun_end (by rw [h]; rfl)
theorem zl_Rz (h : xcd2 I m pc = oRz 0) : zl I m pc ls [.int x] u P = ((x = 0 ∨ x = 1) ∧ P (some (.int x)) u) := by
  by_cases hc : x = 0 ∨ x = 1
  · simp only [hc, true_and]
    refine xRun_end ?_
    rw [h]
    exact if_pos hc
  · simp only [hc, false_and]
    refine xRun_no ?_
    rw [h]
    exact if_neg hc
theorem zl_Scr (h : xcd2 I m pc = oScr nx) : zl I m pc ls (.int x :: .ref a :: st) u P = ((a = 2000000 ∧ xinb x (xN u 2000000)) ∧ zl I m nx ls (.int (xI u 2000000 (xix x)) :: st) u P) := zl_g (c := a = 2000000 ∧ (0 ≤ x ∧ x.toNatClampNeg < xN u 2000000)) (by rw [h]; rfl)
theorem zl_Scl (h : xcd2 I m pc = oScl nx) : zl I m pc ls (.ref a :: st) u P = (a = 2000000 ∧ zl I m nx ls (.int (Int32.ofNat (xN u 2000000)) :: st) u P) := zl_g (c := a = 2000000) (by rw [h]; rfl)
end
