/-! THE ABSTRACT MACHINE: memory of cells by number, operations as functions, a run with fuel. -/
abbrev xMem : Type := (Nat → Nat) × (Nat → Nat → Int32) × (Nat → Nat → Int64) × (Nat → Nat → Option Nat) × (Nat → Nat) × Bool × Nat × Nat × Nat
def xK (u : xMem) (a : Nat) : Nat := u.1 a
def xI (u : xMem) (a k : Nat) : Int32 := u.2.1 a k
def xJ (u : xMem) (a k : Nat) : Int64 := u.2.2.1 a k
def xR (u : xMem) (a k : Nat) : Option Nat := u.2.2.2.1 a k
def xN (u : xMem) (a : Nat) : Nat := u.2.2.2.2.1 a
def xV (u : xMem) : Bool := u.2.2.2.2.2.1
def xW (u : xMem) : Nat := u.2.2.2.2.2.2.1
def xT (u : xMem) : Nat := u.2.2.2.2.2.2.2.1
def xS (u : xMem) : Nat := u.2.2.2.2.2.2.2.2
def xu2 {α : Type} (f : Nat → Nat → α) (a k : Nat) (v : α) : Nat → Nat → α := fun b j => if b = a ∧ j = k then v else f b j
def xu1 {α : Type} (f : Nat → α) (a : Nat) (v : α) : Nat → α := fun b => if b = a then v else f b
def xsI (u : xMem) (a k : Nat) (v : Int32) : xMem := (u.1, xu2 u.2.1 a k v, u.2.2)
def xsJ (u : xMem) (a k : Nat) (v : Int64) : xMem := (u.1, u.2.1, xu2 u.2.2.1 a k v, u.2.2.2)
def xsR (u : xMem) (a k : Nat) (v : Option Nat) : xMem := (u.1, u.2.1, u.2.2.1, xu2 u.2.2.2.1 a k v, u.2.2.2.2)
/-- a new cell of kind kd, length n, of sl slots -/
def xnew (u : xMem) (kd n sl : Nat) : xMem :=
  (xu1 u.1 u.2.2.2.2.2.2.1 kd, xu1 u.2.1 u.2.2.2.2.2.2.1 (fun _ => 0), xu1 u.2.2.1 u.2.2.2.2.2.2.1 (fun _ => 0), xu1 u.2.2.2.1 u.2.2.2.2.2.2.1 (fun _ => none), xu1 u.2.2.2.2.1 u.2.2.2.2.2.2.1 n, u.2.2.2.2.2.1, u.2.2.2.2.2.2.1 + 1, u.2.2.2.2.2.2.2.1 + 1, u.2.2.2.2.2.2.2.2 + sl)
section XMEM
variable {u : xMem} {a b k j : Nat}
theorem xI_sI {v : Int32} : xI (xsI u a k v) b j = if b = a ∧ j = k then v else xI u b j := rfl
theorem xI_sJ {v : Int64} : xI (xsJ u a k v) b j = xI u b j := rfl
theorem xI_sR {v : Option Nat} : xI (xsR u a k v) b j = xI u b j := rfl
theorem xJ_sI {v : Int32} : xJ (xsI u a k v) b j = xJ u b j := rfl
theorem xJ_sJ {v : Int64} : xJ (xsJ u a k v) b j = if b = a ∧ j = k then v else xJ u b j := rfl
theorem xJ_sR {v : Option Nat} : xJ (xsR u a k v) b j = xJ u b j := rfl
theorem xR_sI {v : Int32} : xR (xsI u a k v) b j = xR u b j := rfl
theorem xR_sJ {v : Int64} : xR (xsJ u a k v) b j = xR u b j := rfl
theorem xR_sR {v : Option Nat} : xR (xsR u a k v) b j = if b = a ∧ j = k then v else xR u b j := rfl
theorem xK_sI {v : Int32} : xK (xsI u a k v) b = xK u b := rfl
theorem xK_sJ {v : Int64} : xK (xsJ u a k v) b = xK u b := rfl
theorem xK_sR {v : Option Nat} : xK (xsR u a k v) b = xK u b := rfl
theorem xN_sI {v : Int32} : xN (xsI u a k v) b = xN u b := rfl
theorem xN_sJ {v : Int64} : xN (xsJ u a k v) b = xN u b := rfl
theorem xN_sR {v : Option Nat} : xN (xsR u a k v) b = xN u b := rfl
theorem xW_sI {v : Int32} : xW (xsI u a k v) = xW u := rfl
theorem xW_sJ {v : Int64} : xW (xsJ u a k v) = xW u := rfl
theorem xW_sR {v : Option Nat} : xW (xsR u a k v) = xW u := rfl
end XMEM
/-- the text of a String constant, by its number -/
def xtexts : List (List Nat) := [[100, 101, 115, 107], [99, 108, 97, 115, 115], [112, 108, 97, 99, 101], [98, 111, 117, 110, 100], [114, 97, 116, 101], [104, 111, 108, 105, 100, 97, 121], [99, 97, 112], [111, 102], [111, 110, 108, 121], [110, 111, 110, 101], [115, 105, 122, 101], [108, 97, 121, 101, 114, 115], [108, 97, 121, 101, 114], [112, 114, 105, 99, 101]]
def xtxt (k : Nat) : List Nat := xtexts.getD k []
/-! what an operation brings about: the next frame, a call, or the end -/
abbrev xAct : Type := Option ((Nat × List Value × List Value × xMem) ⊕ ((Nat × List Value × Nat × List Value × List Value × xMem) ⊕ (Option Value × xMem)))
abbrev xOp : Type := List Value → List Value → xMem → xAct
def xgo (nx : Nat) (ls st : List Value) (u : xMem) : xAct := some (.inl (nx, ls, st, u))
def xcal (m : Nat) (as : List Value) (nx : Nat) (ls st : List Value) (u : xMem) : xAct := some (.inr (.inl (m, as, nx, ls, st, u)))
def xend (r : Option Value) (u : xMem) : xAct := some (.inr (.inr (r, u)))
def oNo : xOp := fun _ _ _ => none
def oI (v : Int32) (nx : Nat) : xOp := fun ls st u => xgo nx ls (.int v :: st) u
def oJ (v : Int64) (nx : Nat) : xOp := fun ls st u => xgo nx ls (.long v :: st) u
/-- a String constant -/
def oS (k : Nat) (nx : Nat) : xOp := fun ls st u => xgo nx ls (.ref (1000000 + k) :: st) u
def oIl (i nx : Nat) : xOp := fun ls st u => match ls[i]? with
  | some (.int x) => xgo nx ls (.int x :: st) u
  | _ => none
def oJl (i nx : Nat) : xOp := fun ls st u => match ls[i]? with
  | some (.long x) => xgo nx ls (.long x :: st) u
  | _ => none
def oAl (i nx : Nat) : xOp := fun ls st u => match ls[i]? with
  | some (.ref x) => xgo nx ls (.ref x :: st) u
  | _ => none
/-- no long begins just before i -/
def xok (ls : List Value) (i : Nat) : Bool := match i with
  | 0 => true
  | i + 1 => match ls[i]? with
    | some (.long _) => false
    | some (.double _) => false
    | _ => true
def oIs (i nx : Nat) : xOp := fun ls st u => match st with
  | .int x :: r => if i < ls.length ∧ xok ls i = true then xgo nx (ls.set i (.int x)) r u else none
  | _ => none
def oAs (i nx : Nat) : xOp := fun ls st u => match st with
  | .ref x :: r => if i < ls.length ∧ xok ls i = true then xgo nx (ls.set i (.ref x)) r u else none
  | _ => none
def oJs (i nx : Nat) : xOp := fun ls st u => match st with
  | .long x :: r => if i + 1 < ls.length ∧ xok ls i = true then xgo nx ((ls.set i (.long x)).set (i + 1) .null) r u else none
  | _ => none
def oInc (i : Nat) (v : Int32) (nx : Nat) : xOp := fun ls st u => match ls[i]? with
  | some (.int x) => if xok ls i = true then xgo nx (ls.set i (.int (x + v))) st u else none
  | _ => none
def oB (f : Int32 → Int32 → Int32) (nx : Nat) : xOp := fun ls st u => match st with
  | .int y :: .int x :: r => xgo nx ls (.int (f x y) :: r) u
  | _ => none
def oRem (nx : Nat) : xOp := fun ls st u => match st with
  | .int y :: .int x :: r => if y = 0 then none else xgo nx ls (.int (x - x / y * y) :: r) u
  | _ => none
def oLB (f : Int64 → Int64 → Int64) (nx : Nat) : xOp := fun ls st u => match st with
  | .long y :: .long x :: r => xgo nx ls (.long (f x y) :: r) u
  | _ => none
def oLdiv (nx : Nat) : xOp := fun ls st u => match st with
  | .long y :: .long x :: r => if y = 0 then none else xgo nx ls (.long (x / y) :: r) u
  | _ => none
def oLshl (nx : Nat) : xOp := fun ls st u => match st with
  | .int y :: .long x :: r => xgo nx ls (.long (x <<< (y.toInt64 &&& 63)) :: r) u
  | _ => none
def oLcmp (nx : Nat) : xOp := fun ls st u => match st with
  | .long y :: .long x :: r => xgo nx ls (.int (lg_cmp x y) :: r) u
  | _ => none
def oI2l (nx : Nat) : xOp := fun ls st u => match st with
  | .int x :: r => xgo nx ls (.long x.toInt64 :: r) u
  | _ => none
def oL2i (nx : Nat) : xOp := fun ls st u => match st with
  | .long x :: r => xgo nx ls (.int x.toInt32 :: r) u
  | _ => none
def oI2b (nx : Nat) : xOp := fun ls st u => match st with
  | .int x :: r => xgo nx ls (.int x.toInt8.toInt32 :: r) u
  | _ => none
/-- of category 1 -/
def xc1 : Value → Bool
  | .int _ => true
  | .ref _ => true
  | _ => false
def oDup (nx : Nat) : xOp := fun ls st u => match st with
  | v :: r => if xc1 v = true then xgo nx ls (v :: v :: r) u else none
  | _ => none
def oPop (nx : Nat) : xOp := fun ls st u => match st with
  | v :: r => if xc1 v = true then xgo nx ls r u else none
  | _ => none
def oDup2 (nx : Nat) : xOp := fun ls st u => match st with
  | v :: w :: r => if xc1 v = true ∧ xc1 w = true then xgo nx ls (v :: w :: v :: w :: r) u else none
  | _ => none
/-- a branch: by its condition -/
def oIf (c : Int32 → Bool) (t nx : Nat) : xOp := fun ls st u => match st with
  | .int x :: r => if c x = true then xgo t ls r u else xgo nx ls r u
  | _ => none
def oCmp (c : Int32 → Int32 → Bool) (t nx : Nat) : xOp := fun ls st u => match st with
  | .int y :: .int x :: r => if c x y = true then xgo t ls r u else xgo nx ls r u
  | _ => none
def oGoto (t : Nat) : xOp := fun ls st u => xgo t ls st u
/-- a switch over 0, 1, ..: the targets, and the default -/
def oSw (ts : List Nat) (d : Nat) : xOp := fun ls st u => match st with
  | .int x :: r => if x < 0 ∨ nI ts.length ≤ x then xgo d ls r u else xgo (ts.getD x.toNatClampNeg d) ls r u
  | _ => none
/-! fields: of class ci, the field k -/
def oGI (ci k nx : Nat) : xOp := fun ls st u => match st with
  | .ref a :: r => if a < xW u ∧ xK u a = ci then xgo nx ls (.int (xI u a k) :: r) u else none
  | _ => none
def oGJ (ci k nx : Nat) : xOp := fun ls st u => match st with
  | .ref a :: r => if a < xW u ∧ xK u a = ci then xgo nx ls (.long (xJ u a k) :: r) u else none
  | _ => none
def oGR (ci k nx : Nat) : xOp := fun ls st u => match st with
  | .ref a :: r => if a < xW u ∧ xK u a = ci then (match xR u a k with
    | some b => xgo nx ls (.ref b :: r) u
    | none => none) else none
  | _ => none
def oPI (ci k nx : Nat) : xOp := fun ls st u => match st with
  | .int x :: .ref a :: r => if a < xW u ∧ xK u a = ci then xgo nx ls r (xsI u a k x) else none
  | _ => none
def oPZ (ci k nx : Nat) : xOp := fun ls st u => match st with
  | .int x :: .ref a :: r => if (a < xW u ∧ xK u a = ci) ∧ (x = 0 ∨ x = 1) then xgo nx ls r (xsI u a k x) else none
  | _ => none
def oPJ (ci k nx : Nat) : xOp := fun ls st u => match st with
  | .long x :: .ref a :: r => if a < xW u ∧ xK u a = ci then xgo nx ls r (xsJ u a k x) else none
  | _ => none
def oPR (ci k nx : Nat) : xOp := fun ls st u => match st with
  | .ref x :: .ref a :: r => if a < xW u ∧ xK u a = ci then xgo nx ls r (xsR u a k (some x)) else none
  | _ => none
/-! arrays -/
def oLd (kd nx : Nat) : xOp := fun ls st u => match st with
  | .int i :: .ref a :: r => if (a < xW u ∧ xK u a = kd) ∧ (0 ≤ i ∧ i.toNatClampNeg < xN u a) then xgo nx ls (.int (xI u a i.toNatClampNeg) :: r) u else none
  | _ => none
def oLdJ (nx : Nat) : xOp := fun ls st u => match st with
  | .int i :: .ref a :: r => if (a < xW u ∧ xK u a = 14) ∧ (0 ≤ i ∧ i.toNatClampNeg < xN u a) then xgo nx ls (.long (xJ u a i.toNatClampNeg) :: r) u else none
  | _ => none
def oLdR (nx : Nat) : xOp := fun ls st u => match st with
  | .int i :: .ref a :: r => if (a < xW u ∧ xK u a = 16) ∧ (0 ≤ i ∧ i.toNatClampNeg < xN u a) then (match xR u a i.toNatClampNeg with
    | some b => xgo nx ls (.ref b :: r) u
    | none => none) else none
  | _ => none
/-- a store: f narrows -/
def oSt (kd : Nat) (f : Int32 → Int32) (nx : Nat) : xOp := fun ls st u => match st with
  | .int x :: .int i :: .ref a :: r => if (a < xW u ∧ xK u a = kd) ∧ (0 ≤ i ∧ i.toNatClampNeg < xN u a) then xgo nx ls r (xsI u a i.toNatClampNeg (f x)) else none
  | _ => none
def oStJ (nx : Nat) : xOp := fun ls st u => match st with
  | .long x :: .int i :: .ref a :: r => if (a < xW u ∧ xK u a = 14) ∧ (0 ≤ i ∧ i.toNatClampNeg < xN u a) then xgo nx ls r (xsJ u a i.toNatClampNeg x) else none
  | _ => none
def oStR (nx : Nat) : xOp := fun ls st u => match st with
  | .ref x :: .int i :: .ref a :: r => if ((a < xW u ∧ xK u a = 16) ∧ (x < xW u ∧ xK u x = 5)) ∧ (0 ≤ i ∧ i.toNatClampNeg < xN u a) then xgo nx ls r (xsR u a i.toNatClampNeg (some x)) else none
  | _ => none
def oLen (kd nx : Nat) : xOp := fun ls st u => match st with
  | .ref a :: r => if a < xW u ∧ xK u a = kd then xgo nx ls (.int (Int32.ofNat (xN u a)) :: r) u else none
  | _ => none
/-- the law's own script -/
def oScr (nx : Nat) : xOp := fun ls st u => match st with
  | .int i :: .ref a :: r => if a = 2000000 ∧ (0 ≤ i ∧ i.toNatClampNeg < xN u 2000000) then xgo nx ls (.int (xI u 2000000 i.toNatClampNeg) :: r) u else none
  | _ => none
def oScl (nx : Nat) : xOp := fun ls st u => match st with
  | .ref a :: r => if a = 2000000 then xgo nx ls (.int (Int32.ofNat (xN u 2000000)) :: r) u else none
  | _ => none
/-! making -/
def oNew (ci n nx : Nat) : xOp := fun ls st u => if xV u = true ∧ xW u < 1000000 then xgo nx ls (.ref (xW u) :: st) (xnew u ci 0 n) else none
def oNewA (kd nx : Nat) : xOp := fun ls st u => match st with
  | .int n :: r => if (xV u = true ∧ xW u < 1000000) ∧ (0 ≤ n ∧ n ≤ 2000) then xgo nx ls (.ref (xW u) :: r) (xnew u kd n.toNatClampNeg n.toNatClampNeg) else none
  | _ => none
/-! calls: n arguments, the receiver among them where the method isn't static -/
def xent1 (v : Value) : List Value := match v with
  | .long x => [.long x, .null]
  | .double x => [.double x, .null]
  | v => [v]
/-- the locals with which a method begins -/
def xentL (n : Nat) (as : List Value) : List Value := as.flatMap xent1 ++ List.replicate (n - (as.flatMap xent1).length) .null
/-- of category 2 counted -/
def xcat (st : List Value) : Nat := (st.map fun v => v.category).sum
def oCal (m n nx : Nat) : xOp := fun ls st u => if n ≤ st.length ∧ xcat (st.drop n) ≤ 8 then xcal m (st.take n).reverse nx ls (st.drop n) u else none
/-- a call on an object of class ci -/
def oCalV (ci m n nx : Nat) : xOp := fun ls st u => match st[n]? with
  | some (.ref a) => if (a < xW u ∧ xK u a = ci) ∧ xcat (st.drop (n + 1)) ≤ 8 then xcal m (.ref a :: (st.take n).reverse) nx ls (st.drop (n + 1)) u else none
  | _ => none
def oObj (nx : Nat) : xOp := fun ls st u => match st with
  | .ref _ :: r => if xcat r ≤ 8 then xgo nx ls r u else none
  | _ => none
def oMin (nx : Nat) : xOp := fun ls st u => match st with
  | .int y :: .int x :: r => if xcat r ≤ 8 then xgo nx ls (.int (if y < x then y else x) :: r) u else none
  | _ => none
def oMax (nx : Nat) : xOp := fun ls st u => match st with
  | .int y :: .int x :: r => if xcat r ≤ 8 then xgo nx ls (.int (if x < y then y else x) :: r) u else none
  | _ => none
/-! texts: length and charAt of a constant -/
def oTl (nx : Nat) : xOp := fun ls st u => match st with
  | .ref a :: r => if (1000000 ≤ a ∧ a < 1000000 + xtexts.length) ∧ xcat r ≤ 6 then xgo nx ls (.int (nI (xtxt (a - 1000000)).length) :: r) u else none
  | _ => none
def oTc (nx : Nat) : xOp := fun ls st u => match st with
  | .int i :: .ref a :: r => if ((1000000 ≤ a ∧ a < 1000000 + xtexts.length) ∧ xcat r ≤ 6) ∧ (0 ≤ i ∧ i.toNatClampNeg < (xtxt (a - 1000000)).length) then xgo nx ls (.int (nI ((xtxt (a - 1000000)).getD i.toNatClampNeg 0)) :: r) u else none
  | _ => none
/-! the ends -/
def oRi (nx : Nat) : xOp := fun _ st u => match st with
  | [.int x] => xend (some (.int x)) u
  | _ => none
def oRz (nx : Nat) : xOp := fun _ st u => match st with
  | [.int x] => if x = 0 ∨ x = 1 then xend (some (.int x)) u else none
  | _ => none
def oRj (nx : Nat) : xOp := fun _ st u => match st with
  | [.long x] => xend (some (.long x)) u
  | _ => none
def oRv (nx : Nat) : xOp := fun _ st u => match st with
  | [] => xend none u
  | _ => none
/-- 'throw new ..()', as an end of its own -/
def oThr : xOp := fun _ st u => match st with
  | [] => xend (some (.retAddr 0)) u
  | _ => none
/-- what a run of it changes of the counts -/
def xle (u u1 : xMem) : Prop := xT u ≤ xT u1 ∧ xS u ≤ xS u1 ∧ xV u1 = xV u ∧ (xV u = true → xW u1 + xT u = xW u + xT u1)
theorem xle.rf (u : xMem) : xle u u := ⟨Nat.le_refl _, Nat.le_refl _, rfl, fun _ => rfl⟩
theorem xle.tr {u v w : xMem} (h : xle u v) (k : xle v w) : xle u w := ⟨Nat.le_trans h.1 k.1, Nat.le_trans h.2.1 k.2.1, k.2.2.1.trans h.2.2.1, fun q => by
  have e1 := h.2.2.2 q
  have e2 := k.2.2.2 (h.2.2.1.trans q)
  omega⟩
/-- an operation changes no count but by making -/
def xmoA (u : xMem) (act : (Nat × List Value × List Value × xMem) ⊕ ((Nat × List Value × Nat × List Value × List Value × xMem) ⊕ (Option Value × xMem))) : Prop := match act with
  | .inl (_, _, _, u1) => xle u u1
  | .inr (.inl (_, _, _, _, _, u1)) => u1 = u
  | .inr (.inr (_, u1)) => u1 = u
def xmo (op : xOp) : Prop := ∀ (ls st : List Value) (u : xMem) (act), op ls st u = some act → xmoA u act
theorem xle_new {u : xMem} {kd n sl : Nat} : xle u (xnew u kd n sl) := ⟨by show xT u ≤ xT u + 1; omega, by show xS u ≤ xS u + sl; omega, rfl, fun _ => by show xW u + 1 + xT u = xW u + (xT u + 1); omega⟩
theorem xmo_oNo : xmo (oNo ) := by
  intro ls st u act h
  unfold oNo at h
  repeat' split at h
  all_goals first | (cases h; done) | (simp only [xgo, xcal, xend, Option.some.injEq] at h; subst h; first | exact xle.rf _ | exact xle_new | rfl)
theorem xmo_oI (v : Int32) (nx : Nat) : xmo (oI v nx) := by
  intro ls st u act h
  unfold oI at h
  repeat' split at h
  all_goals first | (cases h; done) | (simp only [xgo, xcal, xend, Option.some.injEq] at h; subst h; first | exact xle.rf _ | exact xle_new | rfl)
theorem xmo_oJ (v : Int64) (nx : Nat) : xmo (oJ v nx) := by
  intro ls st u act h
  unfold oJ at h
  repeat' split at h
  all_goals first | (cases h; done) | (simp only [xgo, xcal, xend, Option.some.injEq] at h; subst h; first | exact xle.rf _ | exact xle_new | rfl)
theorem xmo_oS (k : Nat) (nx : Nat) : xmo (oS k nx) := by
  intro ls st u act h
  unfold oS at h
  repeat' split at h
  all_goals first | (cases h; done) | (simp only [xgo, xcal, xend, Option.some.injEq] at h; subst h; first | exact xle.rf _ | exact xle_new | rfl)
theorem xmo_oIl (i nx : Nat) : xmo (oIl i nx) := by
  intro ls st u act h
  unfold oIl at h
  repeat' split at h
  all_goals first | (cases h; done) | (simp only [xgo, xcal, xend, Option.some.injEq] at h; subst h; first | exact xle.rf _ | exact xle_new | rfl)
theorem xmo_oJl (i nx : Nat) : xmo (oJl i nx) := by
  intro ls st u act h
  unfold oJl at h
  repeat' split at h
  all_goals first | (cases h; done) | (simp only [xgo, xcal, xend, Option.some.injEq] at h; subst h; first | exact xle.rf _ | exact xle_new | rfl)
theorem xmo_oAl (i nx : Nat) : xmo (oAl i nx) := by
  intro ls st u act h
  unfold oAl at h
  repeat' split at h
  all_goals first | (cases h; done) | (simp only [xgo, xcal, xend, Option.some.injEq] at h; subst h; first | exact xle.rf _ | exact xle_new | rfl)
theorem xmo_oIs (i nx : Nat) : xmo (oIs i nx) := by
  intro ls st u act h
  unfold oIs at h
  repeat' split at h
  all_goals first | (cases h; done) | (simp only [xgo, xcal, xend, Option.some.injEq] at h; subst h; first | exact xle.rf _ | exact xle_new | rfl)
theorem xmo_oAs (i nx : Nat) : xmo (oAs i nx) := by
  intro ls st u act h
  unfold oAs at h
  repeat' split at h
  all_goals first | (cases h; done) | (simp only [xgo, xcal, xend, Option.some.injEq] at h; subst h; first | exact xle.rf _ | exact xle_new | rfl)
theorem xmo_oJs (i nx : Nat) : xmo (oJs i nx) := by
  intro ls st u act h
  unfold oJs at h
  repeat' split at h
  all_goals first | (cases h; done) | (simp only [xgo, xcal, xend, Option.some.injEq] at h; subst h; first | exact xle.rf _ | exact xle_new | rfl)
theorem xmo_oInc (i : Nat) (v : Int32) (nx : Nat) : xmo (oInc i v nx) := by
  intro ls st u act h
  unfold oInc at h
  repeat' split at h
  all_goals first | (cases h; done) | (simp only [xgo, xcal, xend, Option.some.injEq] at h; subst h; first | exact xle.rf _ | exact xle_new | rfl)
theorem xmo_oB (f : Int32 → Int32 → Int32) (nx : Nat) : xmo (oB f nx) := by
  intro ls st u act h
  unfold oB at h
  repeat' split at h
  all_goals first | (cases h; done) | (simp only [xgo, xcal, xend, Option.some.injEq] at h; subst h; first | exact xle.rf _ | exact xle_new | rfl)
theorem xmo_oRem (nx : Nat) : xmo (oRem nx) := by
  intro ls st u act h
  unfold oRem at h
  repeat' split at h
  all_goals first | (cases h; done) | (simp only [xgo, xcal, xend, Option.some.injEq] at h; subst h; first | exact xle.rf _ | exact xle_new | rfl)
theorem xmo_oLB (f : Int64 → Int64 → Int64) (nx : Nat) : xmo (oLB f nx) := by
  intro ls st u act h
  unfold oLB at h
  repeat' split at h
  all_goals first | (cases h; done) | (simp only [xgo, xcal, xend, Option.some.injEq] at h; subst h; first | exact xle.rf _ | exact xle_new | rfl)
theorem xmo_oLdiv (nx : Nat) : xmo (oLdiv nx) := by
  intro ls st u act h
  unfold oLdiv at h
  repeat' split at h
  all_goals first | (cases h; done) | (simp only [xgo, xcal, xend, Option.some.injEq] at h; subst h; first | exact xle.rf _ | exact xle_new | rfl)
theorem xmo_oLshl (nx : Nat) : xmo (oLshl nx) := by
  intro ls st u act h
  unfold oLshl at h
  repeat' split at h
  all_goals first | (cases h; done) | (simp only [xgo, xcal, xend, Option.some.injEq] at h; subst h; first | exact xle.rf _ | exact xle_new | rfl)
theorem xmo_oLcmp (nx : Nat) : xmo (oLcmp nx) := by
  intro ls st u act h
  unfold oLcmp at h
  repeat' split at h
  all_goals first | (cases h; done) | (simp only [xgo, xcal, xend, Option.some.injEq] at h; subst h; first | exact xle.rf _ | exact xle_new | rfl)
theorem xmo_oI2l (nx : Nat) : xmo (oI2l nx) := by
  intro ls st u act h
  unfold oI2l at h
  repeat' split at h
  all_goals first | (cases h; done) | (simp only [xgo, xcal, xend, Option.some.injEq] at h; subst h; first | exact xle.rf _ | exact xle_new | rfl)
theorem xmo_oL2i (nx : Nat) : xmo (oL2i nx) := by
  intro ls st u act h
  unfold oL2i at h
  repeat' split at h
  all_goals first | (cases h; done) | (simp only [xgo, xcal, xend, Option.some.injEq] at h; subst h; first | exact xle.rf _ | exact xle_new | rfl)
theorem xmo_oI2b (nx : Nat) : xmo (oI2b nx) := by
  intro ls st u act h
  unfold oI2b at h
  repeat' split at h
  all_goals first | (cases h; done) | (simp only [xgo, xcal, xend, Option.some.injEq] at h; subst h; first | exact xle.rf _ | exact xle_new | rfl)
theorem xmo_oDup (nx : Nat) : xmo (oDup nx) := by
  intro ls st u act h
  unfold oDup at h
  repeat' split at h
  all_goals first | (cases h; done) | (simp only [xgo, xcal, xend, Option.some.injEq] at h; subst h; first | exact xle.rf _ | exact xle_new | rfl)
theorem xmo_oPop (nx : Nat) : xmo (oPop nx) := by
  intro ls st u act h
  unfold oPop at h
  repeat' split at h
  all_goals first | (cases h; done) | (simp only [xgo, xcal, xend, Option.some.injEq] at h; subst h; first | exact xle.rf _ | exact xle_new | rfl)
theorem xmo_oDup2 (nx : Nat) : xmo (oDup2 nx) := by
  intro ls st u act h
  unfold oDup2 at h
  repeat' split at h
  all_goals first | (cases h; done) | (simp only [xgo, xcal, xend, Option.some.injEq] at h; subst h; first | exact xle.rf _ | exact xle_new | rfl)
theorem xmo_oIf (c : Int32 → Bool) (t nx : Nat) : xmo (oIf c t nx) := by
  intro ls st u act h
  unfold oIf at h
  repeat' split at h
  all_goals first | (cases h; done) | (simp only [xgo, xcal, xend, Option.some.injEq] at h; subst h; first | exact xle.rf _ | exact xle_new | rfl)
theorem xmo_oCmp (c : Int32 → Int32 → Bool) (t nx : Nat) : xmo (oCmp c t nx) := by
  intro ls st u act h
  unfold oCmp at h
  repeat' split at h
  all_goals first | (cases h; done) | (simp only [xgo, xcal, xend, Option.some.injEq] at h; subst h; first | exact xle.rf _ | exact xle_new | rfl)
theorem xmo_oGoto (t : Nat) : xmo (oGoto t) := by
  intro ls st u act h
  unfold oGoto at h
  repeat' split at h
  all_goals first | (cases h; done) | (simp only [xgo, xcal, xend, Option.some.injEq] at h; subst h; first | exact xle.rf _ | exact xle_new | rfl)
theorem xmo_oSw (ts : List Nat) (d : Nat) : xmo (oSw ts d) := by
  intro ls st u act h
  unfold oSw at h
  repeat' split at h
  all_goals first | (cases h; done) | (simp only [xgo, xcal, xend, Option.some.injEq] at h; subst h; first | exact xle.rf _ | exact xle_new | rfl)
theorem xmo_oGI (ci k nx : Nat) : xmo (oGI ci k nx) := by
  intro ls st u act h
  unfold oGI at h
  repeat' split at h
  all_goals first | (cases h; done) | (simp only [xgo, xcal, xend, Option.some.injEq] at h; subst h; first | exact xle.rf _ | exact xle_new | rfl)
theorem xmo_oGJ (ci k nx : Nat) : xmo (oGJ ci k nx) := by
  intro ls st u act h
  unfold oGJ at h
  repeat' split at h
  all_goals first | (cases h; done) | (simp only [xgo, xcal, xend, Option.some.injEq] at h; subst h; first | exact xle.rf _ | exact xle_new | rfl)
theorem xmo_oGR (ci k nx : Nat) : xmo (oGR ci k nx) := by
  intro ls st u act h
  unfold oGR at h
  repeat' split at h
  all_goals first | (cases h; done) | (simp only [xgo, xcal, xend, Option.some.injEq] at h; subst h; first | exact xle.rf _ | exact xle_new | rfl)
theorem xmo_oPI (ci k nx : Nat) : xmo (oPI ci k nx) := by
  intro ls st u act h
  unfold oPI at h
  repeat' split at h
  all_goals first | (cases h; done) | (simp only [xgo, xcal, xend, Option.some.injEq] at h; subst h; first | exact xle.rf _ | exact xle_new | rfl)
theorem xmo_oPZ (ci k nx : Nat) : xmo (oPZ ci k nx) := by
  intro ls st u act h
  unfold oPZ at h
  repeat' split at h
  all_goals first | (cases h; done) | (simp only [xgo, xcal, xend, Option.some.injEq] at h; subst h; first | exact xle.rf _ | exact xle_new | rfl)
theorem xmo_oPJ (ci k nx : Nat) : xmo (oPJ ci k nx) := by
  intro ls st u act h
  unfold oPJ at h
  repeat' split at h
  all_goals first | (cases h; done) | (simp only [xgo, xcal, xend, Option.some.injEq] at h; subst h; first | exact xle.rf _ | exact xle_new | rfl)
theorem xmo_oPR (ci k nx : Nat) : xmo (oPR ci k nx) := by
  intro ls st u act h
  unfold oPR at h
  repeat' split at h
  all_goals first | (cases h; done) | (simp only [xgo, xcal, xend, Option.some.injEq] at h; subst h; first | exact xle.rf _ | exact xle_new | rfl)
theorem xmo_oLd (kd nx : Nat) : xmo (oLd kd nx) := by
  intro ls st u act h
  unfold oLd at h
  repeat' split at h
  all_goals first | (cases h; done) | (simp only [xgo, xcal, xend, Option.some.injEq] at h; subst h; first | exact xle.rf _ | exact xle_new | rfl)
theorem xmo_oLdJ (nx : Nat) : xmo (oLdJ nx) := by
  intro ls st u act h
  unfold oLdJ at h
  repeat' split at h
  all_goals first | (cases h; done) | (simp only [xgo, xcal, xend, Option.some.injEq] at h; subst h; first | exact xle.rf _ | exact xle_new | rfl)
theorem xmo_oLdR (nx : Nat) : xmo (oLdR nx) := by
  intro ls st u act h
  unfold oLdR at h
  repeat' split at h
  all_goals first | (cases h; done) | (simp only [xgo, xcal, xend, Option.some.injEq] at h; subst h; first | exact xle.rf _ | exact xle_new | rfl)
theorem xmo_oSt (kd : Nat) (f : Int32 → Int32) (nx : Nat) : xmo (oSt kd f nx) := by
  intro ls st u act h
  unfold oSt at h
  repeat' split at h
  all_goals first | (cases h; done) | (simp only [xgo, xcal, xend, Option.some.injEq] at h; subst h; first | exact xle.rf _ | exact xle_new | rfl)
theorem xmo_oStJ (nx : Nat) : xmo (oStJ nx) := by
  intro ls st u act h
  unfold oStJ at h
  repeat' split at h
  all_goals first | (cases h; done) | (simp only [xgo, xcal, xend, Option.some.injEq] at h; subst h; first | exact xle.rf _ | exact xle_new | rfl)
theorem xmo_oStR (nx : Nat) : xmo (oStR nx) := by
  intro ls st u act h
  unfold oStR at h
  repeat' split at h
  all_goals first | (cases h; done) | (simp only [xgo, xcal, xend, Option.some.injEq] at h; subst h; first | exact xle.rf _ | exact xle_new | rfl)
theorem xmo_oLen (kd nx : Nat) : xmo (oLen kd nx) := by
  intro ls st u act h
  unfold oLen at h
  repeat' split at h
  all_goals first | (cases h; done) | (simp only [xgo, xcal, xend, Option.some.injEq] at h; subst h; first | exact xle.rf _ | exact xle_new | rfl)
theorem xmo_oScr (nx : Nat) : xmo (oScr nx) := by
  intro ls st u act h
  unfold oScr at h
  repeat' split at h
  all_goals first | (cases h; done) | (simp only [xgo, xcal, xend, Option.some.injEq] at h; subst h; first | exact xle.rf _ | exact xle_new | rfl)
theorem xmo_oScl (nx : Nat) : xmo (oScl nx) := by
  intro ls st u act h
  unfold oScl at h
  repeat' split at h
  all_goals first | (cases h; done) | (simp only [xgo, xcal, xend, Option.some.injEq] at h; subst h; first | exact xle.rf _ | exact xle_new | rfl)
theorem xmo_oNew (ci n nx : Nat) : xmo (oNew ci n nx) := by
  intro ls st u act h
  unfold oNew at h
  repeat' split at h
  all_goals first | (cases h; done) | (simp only [xgo, xcal, xend, Option.some.injEq] at h; subst h; first | exact xle.rf _ | exact xle_new | rfl)
theorem xmo_oNewA (kd nx : Nat) : xmo (oNewA kd nx) := by
  intro ls st u act h
  unfold oNewA at h
  repeat' split at h
  all_goals first | (cases h; done) | (simp only [xgo, xcal, xend, Option.some.injEq] at h; subst h; first | exact xle.rf _ | exact xle_new | rfl)
theorem xmo_oCal (m n nx : Nat) : xmo (oCal m n nx) := by
  intro ls st u act h
  unfold oCal at h
  repeat' split at h
  all_goals first | (cases h; done) | (simp only [xgo, xcal, xend, Option.some.injEq] at h; subst h; first | exact xle.rf _ | exact xle_new | rfl)
theorem xmo_oCalV (ci m n nx : Nat) : xmo (oCalV ci m n nx) := by
  intro ls st u act h
  unfold oCalV at h
  repeat' split at h
  all_goals first | (cases h; done) | (simp only [xgo, xcal, xend, Option.some.injEq] at h; subst h; first | exact xle.rf _ | exact xle_new | rfl)
theorem xmo_oObj (nx : Nat) : xmo (oObj nx) := by
  intro ls st u act h
  unfold oObj at h
  repeat' split at h
  all_goals first | (cases h; done) | (simp only [xgo, xcal, xend, Option.some.injEq] at h; subst h; first | exact xle.rf _ | exact xle_new | rfl)
theorem xmo_oMin (nx : Nat) : xmo (oMin nx) := by
  intro ls st u act h
  unfold oMin at h
  repeat' split at h
  all_goals first | (cases h; done) | (simp only [xgo, xcal, xend, Option.some.injEq] at h; subst h; first | exact xle.rf _ | exact xle_new | rfl)
theorem xmo_oMax (nx : Nat) : xmo (oMax nx) := by
  intro ls st u act h
  unfold oMax at h
  repeat' split at h
  all_goals first | (cases h; done) | (simp only [xgo, xcal, xend, Option.some.injEq] at h; subst h; first | exact xle.rf _ | exact xle_new | rfl)
theorem xmo_oTl (nx : Nat) : xmo (oTl nx) := by
  intro ls st u act h
  unfold oTl at h
  repeat' split at h
  all_goals first | (cases h; done) | (simp only [xgo, xcal, xend, Option.some.injEq] at h; subst h; first | exact xle.rf _ | exact xle_new | rfl)
theorem xmo_oTc (nx : Nat) : xmo (oTc nx) := by
  intro ls st u act h
  unfold oTc at h
  repeat' split at h
  all_goals first | (cases h; done) | (simp only [xgo, xcal, xend, Option.some.injEq] at h; subst h; first | exact xle.rf _ | exact xle_new | rfl)
theorem xmo_oRi (nx : Nat) : xmo (oRi nx) := by
  intro ls st u act h
  unfold oRi at h
  repeat' split at h
  all_goals first | (cases h; done) | (simp only [xgo, xcal, xend, Option.some.injEq] at h; subst h; first | exact xle.rf _ | exact xle_new | rfl)
theorem xmo_oRz (nx : Nat) : xmo (oRz nx) := by
  intro ls st u act h
  unfold oRz at h
  repeat' split at h
  all_goals first | (cases h; done) | (simp only [xgo, xcal, xend, Option.some.injEq] at h; subst h; first | exact xle.rf _ | exact xle_new | rfl)
theorem xmo_oRj (nx : Nat) : xmo (oRj nx) := by
  intro ls st u act h
  unfold oRj at h
  repeat' split at h
  all_goals first | (cases h; done) | (simp only [xgo, xcal, xend, Option.some.injEq] at h; subst h; first | exact xle.rf _ | exact xle_new | rfl)
theorem xmo_oRv (nx : Nat) : xmo (oRv nx) := by
  intro ls st u act h
  unfold oRv at h
  repeat' split at h
  all_goals first | (cases h; done) | (simp only [xgo, xcal, xend, Option.some.injEq] at h; subst h; first | exact xle.rf _ | exact xle_new | rfl)
theorem xmo_oThr : xmo oThr := by
  intro ls st u act h
  unfold oThr at h
  repeat' split at h
  all_goals first | (cases h; done) | (simp only [xgo, xcal, xend, Option.some.injEq] at h; subst h; first | exact xle.rf _ | exact xle_new | rfl)
