/-! ROWS FOR RUNS: how each operation moves a run on -/
def zr (m pc : Nat) (ls st : List Value) (u : xMem) (P : Option Value → xMem → Prop) : Prop := xRun xcd xtb m pc ls st u P
/-- the cell a is of kind c -/
def xIs (u : xMem) (a c : Nat) : Prop := a < xW u ∧ xK u a = c
def xinb (i : Int32) (n : Nat) : Prop := 0 ≤ i ∧ i.toNatClampNeg < n
def xix (i : Int32) : Nat := i.toNatClampNeg
section
variable {m pc nx : Nat} {ls st : List Value} {u : xMem} {P P' : Option Value → xMem → Prop} {x y : Int32} {v w : Int64} {a b k ci kd i : Nat}
theorem zr.mono (h : zr m pc ls st u P) (k : ∀ r u', P r u' → P' r u') : zr m pc ls st u P' := xRun.mono h k
theorem zr.eq {r0 : Option Value} {w : xMem} (h : zr m pc ls st u (fun r u' => r = r0 ∧ u' = w)) : zr m pc ls st u P = P r0 w := propext (xRun.eq h)
theorem zr_g {c : Prop} [dc : Decidable c] {pc1 : Nat} {ls1 st1 : List Value} {u1 : xMem} (h : xcd m pc ls st u = if c then xgo pc1 ls1 st1 u1 else none) : zr m pc ls st u P = (c ∧ zr m pc1 ls1 st1 u1 P) := by
  by_cases hc : c
  · rw [if_pos hc] at h
    simp only [hc, true_and]
    exact xRun_go h
  · rw [if_neg hc] at h
    simp only [hc, false_and]
    exact xRun_no h
theorem zr_I {v : Int32} (h : xcd m pc = oI v nx) : zr m pc ls st u P = zr m nx ls (.int v :: st) u P := xRun_go (by rw [h]; rfl)
theorem zr_J {v : Int64} (h : xcd m pc = oJ v nx) : zr m pc ls st u P = zr m nx ls (.long v :: st) u P := xRun_go (by rw [h]; rfl)
theorem zr_S (h : xcd m pc = oS k nx) : zr m pc ls st u P = zr m nx ls (.ref (1000000 + k) :: st) u P := xRun_go (by rw [h]; rfl)
theorem zr_Il (h : xcd m pc = oIl i nx) (hl : ls[i]? = some (.int x)) : zr m pc ls st u P = zr m nx ls (.int x :: st) u P := xRun_go (by rw [h]; unfold oIl; rw [hl])
theorem zr_Jl (h : xcd m pc = oJl i nx) (hl : ls[i]? = some (.long v)) : zr m pc ls st u P = zr m nx ls (.long v :: st) u P := xRun_go (by rw [h]; unfold oJl; rw [hl])
theorem zr_Al (h : xcd m pc = oAl i nx) (hl : ls[i]? = some (.ref a)) : zr m pc ls st u P = zr m nx ls (.ref a :: st) u P := xRun_go (by rw [h]; unfold oAl; rw [hl])
theorem zr_Is (h : xcd m pc = oIs i nx) (hl : i < ls.length ∧ xok ls i = true) : zr m pc ls (.int x :: st) u P = zr m nx (ls.set i (.int x)) st u P := xRun_go (by rw [h]; exact if_pos hl)
theorem zr_As (h : xcd m pc = oAs i nx) (hl : i < ls.length ∧ xok ls i = true) : zr m pc ls (.ref a :: st) u P = zr m nx (ls.set i (.ref a)) st u P := xRun_go (by rw [h]; exact if_pos hl)
theorem zr_Js (h : xcd m pc = oJs i nx) (hl : i + 1 < ls.length ∧ xok ls i = true) : zr m pc ls (.long v :: st) u P = zr m nx ((ls.set i (.long v)).set (i + 1) .null) st u P := xRun_go (by rw [h]; exact if_pos hl)
theorem zr_Inc {d : Int32} (h : xcd m pc = oInc i d nx) (hl : ls[i]? = some (.int x)) (ho : xok ls i = true) : zr m pc ls st u P = zr m nx (ls.set i (.int (x + d))) st u P := xRun_go (by rw [h]; unfold oInc; rw [hl]; exact if_pos ho)
theorem zr_B {f : Int32 → Int32 → Int32} (h : xcd m pc = oB f nx) : zr m pc ls (.int y :: .int x :: st) u P = zr m nx ls (.int (f x y) :: st) u P := xRun_go (by rw [h]; rfl)
theorem zr_Rem (h : xcd m pc = oRem nx) : zr m pc ls (.int y :: .int x :: st) u P = (¬ y = 0 ∧ zr m nx ls (.int (x - x / y * y) :: st) u P) := by
  refine zr_g ?_
  rw [h]
  show (if y = 0 then _ else _) = _
  split <;> rename_i q <;> simp [q]
theorem zr_LB {f : Int64 → Int64 → Int64} (h : xcd m pc = oLB f nx) : zr m pc ls (.long w :: .long v :: st) u P = zr m nx ls (.long (f v w) :: st) u P := xRun_go (by rw [h]; rfl)
theorem zr_Ldiv (h : xcd m pc = oLdiv nx) : zr m pc ls (.long w :: .long v :: st) u P = (¬ w = 0 ∧ zr m nx ls (.long (v / w) :: st) u P) := by
  refine zr_g ?_
  rw [h]
  show (if w = 0 then _ else _) = _
  split <;> rename_i q <;> simp [q]
theorem zr_Lshl (h : xcd m pc = oLshl nx) : zr m pc ls (.int y :: .long v :: st) u P = zr m nx ls (.long (v <<< (y.toInt64 &&& 63)) :: st) u P := xRun_go (by rw [h]; rfl)
theorem zr_Lcmp (h : xcd m pc = oLcmp nx) : zr m pc ls (.long w :: .long v :: st) u P = zr m nx ls (.int (lg_cmp v w) :: st) u P := xRun_go (by rw [h]; rfl)
theorem zr_I2l (h : xcd m pc = oI2l nx) : zr m pc ls (.int x :: st) u P = zr m nx ls (.long x.toInt64 :: st) u P := xRun_go (by rw [h]; rfl)
theorem zr_L2i (h : xcd m pc = oL2i nx) : zr m pc ls (.long v :: st) u P = zr m nx ls (.int v.toInt32 :: st) u P := xRun_go (by rw [h]; rfl)
theorem zr_I2b (h : xcd m pc = oI2b nx) : zr m pc ls (.int x :: st) u P = zr m nx ls (.int x.toInt8.toInt32 :: st) u P := xRun_go (by rw [h]; rfl)
theorem zr_DupI (h : xcd m pc = oDup nx) : zr m pc ls (.int x :: st) u P = zr m nx ls (.int x :: .int x :: st) u P := xRun_go (by rw [h]; rfl)
theorem zr_DupA (h : xcd m pc = oDup nx) : zr m pc ls (.ref a :: st) u P = zr m nx ls (.ref a :: .ref a :: st) u P := xRun_go (by rw [h]; rfl)
theorem zr_PopI (h : xcd m pc = oPop nx) : zr m pc ls (.int x :: st) u P = zr m nx ls st u P := xRun_go (by rw [h]; rfl)
theorem zr_PopA (h : xcd m pc = oPop nx) : zr m pc ls (.ref a :: st) u P = zr m nx ls st u P := xRun_go (by rw [h]; rfl)
theorem zr_Dup2 (h : xcd m pc = oDup2 nx) : zr m pc ls (.int x :: .ref a :: st) u P = zr m nx ls (.int x :: .ref a :: .int x :: .ref a :: st) u P := xRun_go (by rw [h]; rfl)
theorem zr_If {c : Int32 → Prop} {dc : ∀ x, Decidable (c x)} {t : Nat} (h : xcd m pc = oIf (fun x => decide (c x)) t nx) : zr m pc ls (.int x :: st) u P = (if c x then zr m t ls st u P else zr m nx ls st u P) := by
  by_cases hc : c x
  · rw [if_pos hc]
    refine xRun_go ?_
    rw [h]
    simp [oIf, hc]
  · rw [if_neg hc]
    refine xRun_go ?_
    rw [h]
    simp [oIf, hc]
theorem zr_Cmp {c : Int32 → Int32 → Prop} {dc : ∀ x y, Decidable (c x y)} {t : Nat} (h : xcd m pc = oCmp (fun x y => decide (c x y)) t nx) : zr m pc ls (.int y :: .int x :: st) u P = (if c x y then zr m t ls st u P else zr m nx ls st u P) := by
  by_cases hc : c x y
  · rw [if_pos hc]
    refine xRun_go ?_
    rw [h]
    simp [oCmp, hc]
  · rw [if_neg hc]
    refine xRun_go ?_
    rw [h]
    simp [oCmp, hc]
theorem zr_Goto {t : Nat} (h : xcd m pc = oGoto t) : zr m pc ls st u P = zr m t ls st u P := xRun_go (by rw [h]; rfl)
theorem zr_Sw {ts : List Nat} {d : Nat} (h : xcd m pc = oSw ts d) : zr m pc ls (.int x :: st) u P = zr m (if x < 0 ∨ nI ts.length ≤ x then d else ts.getD x.toNatClampNeg d) ls st u P := by
  by_cases hc : x < 0 ∨ nI ts.length ≤ x
  · rw [if_pos hc]
    refine xRun_go ?_
    rw [h]
    simp [oSw, hc]
  · rw [if_neg hc]
    refine xRun_go ?_
    rw [h]
    simp [oSw, hc]
theorem zr_GI (h : xcd m pc = oGI ci k nx) : zr m pc ls (.ref a :: st) u P = (xIs u a ci ∧ zr m nx ls (.int (xI u a k) :: st) u P) := zr_g (c := a < xW u ∧ xK u a = ci) (by rw [h]; rfl)
theorem zr_GJ (h : xcd m pc = oGJ ci k nx) : zr m pc ls (.ref a :: st) u P = (xIs u a ci ∧ zr m nx ls (.long (xJ u a k) :: st) u P) := zr_g (c := a < xW u ∧ xK u a = ci) (by rw [h]; rfl)
theorem zr_GR (h : xcd m pc = oGR ci k nx) : zr m pc ls (.ref a :: st) u P = (xIs u a ci ∧ ∃ b, xR u a k = some b ∧ zr m nx ls (.ref b :: st) u P) := by
  cases hb : xR u a k with
  | none =>
    simp only [reduceCtorEq, false_and, exists_false, and_false]
    refine xRun_no ?_
    rw [h]
    simp [oGR, hb]
  | some b =>
    simp only [Option.some.injEq, exists_eq_left']
    refine zr_g (c := a < xW u ∧ xK u a = ci) ?_
    rw [h]
    simp [oGR, hb]
theorem zr_PI (h : xcd m pc = oPI ci k nx) : zr m pc ls (.int x :: .ref a :: st) u P = (xIs u a ci ∧ zr m nx ls st (xsI u a k x) P) := zr_g (c := a < xW u ∧ xK u a = ci) (by rw [h]; rfl)
theorem zr_PZ (h : xcd m pc = oPZ ci k nx) : zr m pc ls (.int x :: .ref a :: st) u P = ((xIs u a ci ∧ (x = 0 ∨ x = 1)) ∧ zr m nx ls st (xsI u a k x) P) := zr_g (c := (a < xW u ∧ xK u a = ci) ∧ (x = 0 ∨ x = 1)) (by rw [h]; rfl)
theorem zr_PJ (h : xcd m pc = oPJ ci k nx) : zr m pc ls (.long v :: .ref a :: st) u P = (xIs u a ci ∧ zr m nx ls st (xsJ u a k v) P) := zr_g (c := a < xW u ∧ xK u a = ci) (by rw [h]; rfl)
theorem zr_PR (h : xcd m pc = oPR ci k nx) : zr m pc ls (.ref b :: .ref a :: st) u P = (xIs u a ci ∧ zr m nx ls st (xsR u a k (some b)) P) := zr_g (c := a < xW u ∧ xK u a = ci) (by rw [h]; rfl)
theorem zr_Ld (h : xcd m pc = oLd kd nx) : zr m pc ls (.int x :: .ref a :: st) u P = ((xIs u a kd ∧ xinb x (xN u a)) ∧ zr m nx ls (.int (xI u a (xix x)) :: st) u P) := zr_g (c := (a < xW u ∧ xK u a = kd) ∧ (0 ≤ x ∧ x.toNatClampNeg < xN u a)) (by rw [h]; rfl)
theorem zr_LdJ (h : xcd m pc = oLdJ nx) : zr m pc ls (.int x :: .ref a :: st) u P = ((xIs u a 14 ∧ xinb x (xN u a)) ∧ zr m nx ls (.long (xJ u a (xix x)) :: st) u P) := zr_g (c := (a < xW u ∧ xK u a = 14) ∧ (0 ≤ x ∧ x.toNatClampNeg < xN u a)) (by rw [h]; rfl)
theorem zr_LdR (h : xcd m pc = oLdR nx) : zr m pc ls (.int x :: .ref a :: st) u P = ((xIs u a 16 ∧ xinb x (xN u a)) ∧ ∃ b, xR u a (xix x) = some b ∧ zr m nx ls (.ref b :: st) u P) := by
  cases hb : xR u a (xix x) with
  | none =>
    simp only [reduceCtorEq, false_and, exists_false, and_false]
    refine xRun_no ?_
    rw [h]
    have hb : xR u a x.toNatClampNeg = none := hb
    simp [oLdR, hb]
  | some b =>
    simp only [Option.some.injEq, exists_eq_left']
    refine zr_g (c := (a < xW u ∧ xK u a = 16) ∧ (0 ≤ x ∧ x.toNatClampNeg < xN u a)) ?_
    rw [h]
    have hb : xR u a x.toNatClampNeg = some b := hb
    simp [oLdR, hb]
theorem zr_St {f : Int32 → Int32} (h : xcd m pc = oSt kd f nx) : zr m pc ls (.int y :: .int x :: .ref a :: st) u P = ((xIs u a kd ∧ xinb x (xN u a)) ∧ zr m nx ls st (xsI u a (xix x) (f y)) P) := zr_g (c := (a < xW u ∧ xK u a = kd) ∧ (0 ≤ x ∧ x.toNatClampNeg < xN u a)) (by rw [h]; rfl)
theorem zr_StJ (h : xcd m pc = oStJ nx) : zr m pc ls (.long v :: .int x :: .ref a :: st) u P = ((xIs u a 14 ∧ xinb x (xN u a)) ∧ zr m nx ls st (xsJ u a (xix x) v) P) := zr_g (c := (a < xW u ∧ xK u a = 14) ∧ (0 ≤ x ∧ x.toNatClampNeg < xN u a)) (by rw [h]; rfl)
theorem zr_Len (h : xcd m pc = oLen kd nx) : zr m pc ls (.ref a :: st) u P = (xIs u a kd ∧ zr m nx ls (.int (Int32.ofNat (xN u a)) :: st) u P) := zr_g (c := a < xW u ∧ xK u a = kd) (by rw [h]; rfl)
theorem zr_CV {m' n : Nat} {s0 as rest ls' : List Value} (h : xcd m pc = oCalV ci m' n nx) (hs : s0[n]? = some (.ref a)) (ht : (s0.take n).reverse = as) (hr : s0.drop (n + 1) = rest) (hf : (((.ref a :: as) : List Value).flatMap xent1).length ≤ mN (xtb m') ∧ m' ≠ 0 ∧ m' ≠ 2) (he : xentL (mN (xtb m')) (.ref a :: as) = ls') :
    zr m pc ls s0 u P = ((xIs u a ci ∧ xcat rest ≤ 8) ∧ zr m' 0 ls' [] u (fun r u2 => zr m nx ls (r.toList ++ rest) u2 P)) := by
  subst ht
  subst hr
  subst he
  by_cases hc : xIs u a ci ∧ xcat (s0.drop (n + 1)) ≤ 8
  · simp only [hc, true_and, and_self]
    refine xRun_cal ?_ hf
    rw [h]
    unfold oCalV
    rw [hs]
    exact if_pos hc
  · simp only [hc, false_and]
    refine xRun_no ?_
    rw [h]
    unfold oCalV
    rw [hs]
    exact if_neg hc
theorem zr_CS {m' n : Nat} {s0 as rest ls' : List Value} (h : xcd m pc = oCal m' n nx) (hn : n ≤ s0.length) (ht : (s0.take n).reverse = as) (hr : s0.drop n = rest) (hf : (as.flatMap xent1).length ≤ mN (xtb m') ∧ m' ≠ 0 ∧ m' ≠ 2) (he : xentL (mN (xtb m')) as = ls') :
    zr m pc ls s0 u P = (xcat rest ≤ 8 ∧ zr m' 0 ls' [] u (fun r u2 => zr m nx ls (r.toList ++ rest) u2 P)) := by
  subst ht
  subst hr
  subst he
  by_cases hc : xcat (s0.drop n) ≤ 8
  · simp only [hc, true_and]
    refine xRun_cal ?_ hf
    rw [h]
    exact if_pos ⟨hn, hc⟩
  · simp only [hc, false_and]
    refine xRun_no ?_
    rw [h]
    exact if_neg (fun q => hc q.2)
theorem zr_Obj (h : xcd m pc = oObj nx) : zr m pc ls (.ref a :: st) u P = (xcat st ≤ 8 ∧ zr m nx ls st u P) := zr_g (by rw [h]; rfl)
theorem zr_Min (h : xcd m pc = oMin nx) : zr m pc ls (.int y :: .int x :: st) u P = (xcat st ≤ 8 ∧ zr m nx ls (.int (if y < x then y else x) :: st) u P) := zr_g (by rw [h]; rfl)
theorem zr_Max (h : xcd m pc = oMax nx) : zr m pc ls (.int y :: .int x :: st) u P = (xcat st ≤ 8 ∧ zr m nx ls (.int (if x < y then y else x) :: st) u P) := zr_g (by rw [h]; rfl)
theorem zr_Tl (h : xcd m pc = oTl nx) : zr m pc ls (.ref a :: st) u P = (((1000000 ≤ a ∧ a < 1000000 + xtexts.length) ∧ xcat st ≤ 6) ∧ zr m nx ls (.int (nI (xtxt (a - 1000000)).length) :: st) u P) := zr_g (by rw [h]; rfl)
theorem zr_Tc (h : xcd m pc = oTc nx) : zr m pc ls (.int x :: .ref a :: st) u P = ((((1000000 ≤ a ∧ a < 1000000 + xtexts.length) ∧ xcat st ≤ 6) ∧ (0 ≤ x ∧ x.toNatClampNeg < (xtxt (a - 1000000)).length)) ∧ zr m nx ls (.int (nI ((xtxt (a - 1000000)).getD x.toNatClampNeg 0)) :: st) u P) := zr_g (by rw [h]; rfl)
theorem zr_Ri (h : xcd m pc = oRi 0) : zr m pc ls [.int x] u P = P (some (.int x)) u := xRun_end (by rw [h]; rfl)
theorem zr_Rz (h : xcd m pc = oRz 0) : zr m pc ls [.int x] u P = ((x = 0 ∨ x = 1) ∧ P (some (.int x)) u) := by
  by_cases hc : x = 0 ∨ x = 1
  · simp only [hc, true_and]
    refine xRun_end ?_
    rw [h]
    exact if_pos hc
  · simp only [hc, false_and]
    refine xRun_no ?_
    rw [h]
    exact if_neg hc
theorem zr_Rj (h : xcd m pc = oRj 0) : zr m pc ls [.long v] u P = P (some (.long v)) u := xRun_end (by rw [h]; rfl)
theorem zr_Rv (h : xcd m pc = oRv 0) : zr m pc ls [] u P = P none u := xRun_end (by rw [h]; rfl)
theorem zr_Thr (h : xcd m pc = oThr) : zr m pc ls [] u P = P (some (.retAddr 0)) u := xRun_end (by rw [h]; rfl)
end
