/-! NUMBERS AND SHAPES for the runs -/
theorem xinb_nI {k n : Nat} (h : k < n) (hn : n < 2 ^ 31) : xinb (nI k) n := by
  refine ⟨nI_pos' (by omega), ?_⟩
  rw [nI_clamp (by omega)]
  exact h
theorem xix_nI {k : Nat} (h : k < 2 ^ 31) : xix (nI k) = k := nI_clamp h
theorem xneg1 (x : Int32) : x + -1 = x - 1 := (Int32.sub_eq_add_neg x 1).symm
theorem xcat_nil : xcat [] = 0 := rfl
theorem xcat_int {x : Int32} {st : List Value} : xcat (.int x :: st) = xcat st + 1 := by simp [xcat, Value.category]; omega
theorem xcat_ref {a : Nat} {st : List Value} : xcat (.ref a :: st) = xcat st + 1 := by simp [xcat, Value.category]; omega
theorem xcat_long {x : Int64} {st : List Value} : xcat (.long x :: st) = xcat st + 2 := by simp [xcat, Value.category]; omega
theorem z01 : ((0 : Int32) = 1) = False := by decide
theorem z10 : ((1 : Int32) = 0) = False := by decide
theorem zle8 : (0 ≤ 8) = True := by decide
/-- a truth as a number -/
def bI (b : Bool) : Int32 := if b then 1 else 0
theorem bI_01 (b : Bool) : bI b = 0 ∨ bI b = 1 := by cases b <;> simp [bI]
theorem bI_t : bI true = 1 := rfl
theorem bI_f : bI false = 0 := rfl
theorem bI_0 {b : Bool} : (bI b = 0) = (b = false) := by cases b <;> simp [bI]
theorem bI_1 {b : Bool} : (bI b = 1) = (b = true) := by cases b <;> simp [bI]
theorem nI_lit (n : Nat) : (OfNat.ofNat n : Int32) = nI n := rfl
theorem nI_toI {n : Nat} (h : n < 2 ^ 31) : (nI n).toInt = n := nI_toInt h
theorem i32_le {x y : Int32} : x ≤ y ↔ x.toInt ≤ y.toInt := Int32.le_iff_toInt_le
theorem i32_lt {x y : Int32} : x < y ↔ x.toInt < y.toInt := Int32.lt_iff_toInt_lt
theorem i32_eq {x y : Int32} : x = y ↔ x.toInt = y.toInt := Int32.toInt_inj.symm
theorem i32_nlt {x y : Int32} : ¬ x < y ↔ y ≤ x := by rw [i32_lt, i32_le]; omega
theorem i32_nle {x y : Int32} : ¬ x ≤ y ↔ y < x := by rw [i32_lt, i32_le]; omega
/-- a number not below 0 is some nI -/
theorem i32_nI {x : Int32} (h : 0 ≤ x) : x = nI x.toNatClampNeg ∧ x.toNatClampNeg < 2 ^ 31 := by
  obtain ⟨j, hj, e⟩ := nI_of (x := x) (by rw [i32_nlt]; exact h)
  subst e
  rw [nI_clamp hj]
  exact ⟨rfl, hj⟩
theorem i32_in {x : Int32} {n : Nat} (h0 : 0 ≤ x) (h : x < nI n) (hn : n < 2 ^ 31) : ∃ k, k < n ∧ x = nI k := by
  obtain ⟨e, hj⟩ := i32_nI h0
  refine ⟨x.toNatClampNeg, ?_, e⟩
  rw [e] at h
  exact (nI_ltI hj hn).mp h
/-! the parts of memory -/
def sA (u : xMem) (a kd n : Nat) : Prop := xIs u a kd ∧ xN u a = n
/-- bounds lie at b -/
def sB (u : xMem) (b : Nat) : Prop := xIs u b 2 ∧ (xR u b 1 = some (b + 1) ∧ xR u b 2 = some (b + 2) ∧ xR u b 3 = some (b + 3) ∧ xR u b 4 = some (b + 4) ∧ xR u b 5 = some (b + 5)) ∧ sA u (b + 1) 13 16 ∧ sA u (b + 2) 13 16 ∧ sA u (b + 3) 13 16 ∧ sA u (b + 4) 13 96 ∧ sA u (b + 5) 13 96
/-- rates lie at b -/
def sRt (u : xMem) (b : Nat) : Prop := xIs u b 6 ∧ (xR u b 1 = some (b + 1) ∧ xR u b 2 = some (b + 2) ∧ xR u b 3 = some (b + 3) ∧ xR u b 4 = some (b + 4)) ∧ sA u (b + 1) 13 20 ∧ sA u (b + 2) 13 20 ∧ sA u (b + 3) 13 20 ∧ sA u (b + 4) 13 20
/-- a tariff lies at b -/
def sTf (u : xMem) (b : Nat) : Prop := xIs u b 9 ∧ (xR u b 1 = some (b + 1) ∧ xR u b 2 = some (b + 2) ∧ xR u b 4 = some (b + 7) ∧ xR u b 5 = some (b + 8) ∧ xR u b 6 = some (b + 9) ∧ xR u b 7 = some (b + 10) ∧ xR u b 8 = some (b + 11) ∧ xR u b 10 = some (b + 12) ∧ xR u b 11 = some (b + 13) ∧ xR u b 12 = some (b + 14)) ∧ sA u (b + 1) 13 6 ∧ sRt u (b + 2) ∧ sA u (b + 7) 13 6 ∧ sA u (b + 8) 13 6 ∧ sA u (b + 9) 13 6 ∧ sA u (b + 10) 13 6 ∧ sA u (b + 11) 13 6 ∧ sA u (b + 12) 13 6 ∧ sA u (b + 13) 13 6 ∧ sA u (b + 14) 13 6
/-- a ground lies at b -/
def sGr (u : xMem) (b : Nat) : Prop := xIs u b 4 ∧ (xR u b 3 = some (b + 1) ∧ xR u b 4 = some (b + 2) ∧ xR u b 5 = some (b + 3) ∧ xR u b 6 = some (b + 9) ∧ xR u b 7 = some (b + 10)) ∧ sA u (b + 1) 13 10 ∧ sA u (b + 2) 15 10 ∧ sB u (b + 3) ∧ sA u (b + 9) 13 10 ∧ sA u (b + 10) 13 4
/-- a desk lies at b -/
def sDk (u : xMem) (b : Nat) : Prop := xIs u b 3 ∧ (xR u b 0 = some (b + 1) ∧ xR u b 1 = some (b + 12) ∧ xR u b 2 = some (b + 27)) ∧ sGr u (b + 1) ∧ sTf u (b + 12) ∧ sA u (b + 27) 13 10
/-- a line lies at b -/
def sLn (u : xMem) (b : Nat) : Prop := xIs u b 5 ∧ (xR u b 9 = some (b + 1) ∧ xR u b 10 = some (b + 2) ∧ xR u b 11 = some (b + 3) ∧ xR u b 12 = some (b + 4)) ∧ sA u (b + 1) 13 4 ∧ sA u (b + 2) 13 4 ∧ sA u (b + 3) 13 4 ∧ sA u (b + 4) 15 4
/-- the book lies at b, its lines at b + 7, b + 12 .. -/
def sBk (u : xMem) (b : Nat) : Prop := xIs u b 1 ∧ (xR u b 1 = some (b + 1) ∧ xR u b 3 = some (b + 2) ∧ xR u b 4 = some (b + 3) ∧ xR u b 5 = some (b + 4) ∧ xR u b 6 = some (b + 5) ∧ xR u b 7 = some (b + 6)) ∧ sA u (b + 1) 16 40 ∧ sA u (b + 2) 13 12 ∧ sA u (b + 3) 13 120 ∧ sA u (b + 4) 13 60 ∧ sA u (b + 5) 13 60 ∧ sA u (b + 6) 15 60 ∧ ∀ l, l < 40 → xR u (b + 1) l = some (b + 7 + 5 * l) ∧ sLn u (b + 7 + 5 * l)
/-- the acts lie at b -/
def sAc (u : xMem) (b : Nat) : Prop := xIs u b 0 ∧ (xR u b 1 = some (b + 1) ∧ xR u b 2 = some (b + 2) ∧ xR u b 3 = some (b + 3)) ∧ sA u (b + 1) 13 8 ∧ sA u (b + 2) 13 8 ∧ sA u (b + 3) 13 8
/-- the tape lies at b -/
def sTp (u : xMem) (b : Nat) : Prop := xIs u b 8 ∧ xR u b 0 = some (b + 1) ∧ sA u (b + 1) 12 1200
