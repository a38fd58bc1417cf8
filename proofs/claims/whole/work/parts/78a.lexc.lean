/-! THE TAPE of the class: its tokens -/
theorem xm_ext {u w : xMem} (h1 : u.1 = w.1) (h2 : ∀ b j, xI u b j = xI w b j) (h3 : ∀ b j, xJ u b j = xJ w b j) (h4 : u.2.2.2 = w.2.2.2) : u = w := by
  obtain ⟨k, i, j, r⟩ := u
  obtain ⟨k', i', j', r'⟩ := w
  have e1 : k = k' := h1
  have e2 : i = i' := funext fun b => funext fun q => h2 b q
  have e3 : j = j' := funext fun b => funext fun q => h3 b q
  have e4 : r = r' := h4
  subst e1 e2 e3 e4
  rfl
theorem xsI_same {u : xMem} {a k : Nat} {v w : Int32} : xsI (xsI u a k v) a k w = xsI u a k w := by
  refine xm_ext rfl (fun b j => ?_) (fun b j => rfl) rfl
  simp only [xI_sI]
  by_cases c : b = a ∧ j = k
  · rw [if_pos c, if_pos c]
  · rw [if_neg c, if_neg c, if_neg c]
theorem xsI_id {u : xMem} {a k : Nat} {v : Int32} (h : xI u a k = v) : xsI u a k v = u := by
  refine xm_ext rfl (fun b j => ?_) (fun b j => rfl) rfl
  simp only [xI_sI]
  by_cases c : b = a ∧ j = k
  · rw [if_pos c, c.1, c.2, h]
  · rw [if_neg c]
/-- the end of a run of places that are q -/
def lRun (q : Nat → Bool) : Nat → Nat → Nat
  | 0, k => k
  | r + 1, k => if q k then lRun q r (k + 1) else k
theorem lRun_ge (q : Nat → Bool) : ∀ r k, k ≤ lRun q r k := by
  intro r
  induction r with
  | zero => intro k; exact Nat.le_refl _
  | succ r ih =>
    intro k
    unfold lRun
    split
    · exact Nat.le_trans (Nat.le_succ k) (ih (k + 1))
    · exact Nat.le_refl _
theorem lRun_le (q : Nat → Bool) : ∀ r k, lRun q r k ≤ k + r := by
  intro r
  induction r with
  | zero => intro k; exact Nat.le_refl _
  | succ r ih =>
    intro k
    unfold lRun
    split
    · have := ih (k + 1); omega
    · omega
theorem lRun_in (q : Nat → Bool) : ∀ r k j, k ≤ j → j < lRun q r k → q j = true := by
  intro r
  induction r with
  | zero => intro k j h1 h2; unfold lRun at h2; omega
  | succ r ih =>
    intro k j h1 h2
    unfold lRun at h2
    split at h2
    · next hq =>
      by_cases c : j = k
      · rw [c]; exact hq
      · exact ih (k + 1) j (by omega) h2
    · omega
theorem lRun_congr {q q' : Nat → Bool} : ∀ r k, (∀ j, k ≤ j → j < k + r → q j = q' j) → lRun q r k = lRun q' r k := by
  intro r
  induction r with
  | zero => intro k _; rfl
  | succ r ih =>
    intro k h
    unfold lRun
    rw [h k (by omega) (by omega), ih (k + 1) (fun j h1 h2 => h j (by omega) (by omega))]
def qBl (T : Nat → Int32) (k : Nat) : Bool := decide (T k = 32)
def qLt (T : Nat → Int32) (k : Nat) : Bool := decide (97 ≤ T k ∧ T k ≤ 122)
def qDg (T : Nat → Int32) (k : Nat) : Bool := decide (48 ≤ T k ∧ T k ≤ 57)
/-- a word as the class counts it, a whole -/
def fWd (T : Nat → Int32) (a : Nat) : Nat → Int64
  | 0 => 0
  | k + 1 => fWd T a k * 32 + (T (a + k) - 97 + 1).toInt64
def fWh (T : Nat → Int32) (a : Nat) : Nat → Int32
  | 0 => 0
  | k + 1 => fWh T a k * 10 + (T (a + k) - 48)
/-- the token at e, b: where it begins, its end, its kind -/
def tA (T : Nat → Int32) (e b : Nat) : Nat := lRun (qBl T) (e - b) b
def tN (T : Nat → Int32) (e b : Nat) : Nat :=
  if e ≤ tA T e b then tA T e b else if qLt T (tA T e b) = true then lRun (qLt T) (e - tA T e b) (tA T e b) else if qDg T (tA T e b) = true then lRun (qDg T) (e - tA T e b) (tA T e b) else if T (tA T e b) = 59 then tA T e b + 1 else tA T e b
def tKd (T : Nat → Int32) (e b : Nat) : Int32 :=
  if e ≤ tA T e b then 0 else if qLt T (tA T e b) = true then (if tN T e b - tA T e b ≤ 7 then 1 else 4) else if qDg T (tA T e b) = true then (if tN T e b - tA T e b ≤ 4 then 2 else 4) else if T (tA T e b) = 59 then 3 else 4
theorem tA_b {T : Nat → Int32} {e b : Nat} (h : b ≤ e) : b ≤ tA T e b ∧ tA T e b ≤ e := by
  have h1 := lRun_ge (qBl T) (e - b) b
  have h2 := lRun_le (qBl T) (e - b) b
  unfold tA
  omega
theorem tN_b {T : Nat → Int32} {e b : Nat} (h : b ≤ e) : tA T e b ≤ tN T e b ∧ tN T e b ≤ e := by
  have h0 := tA_b (T := T) h
  have h1 := lRun_ge (qLt T) (e - tA T e b) (tA T e b)
  have h2 := lRun_le (qLt T) (e - tA T e b) (tA T e b)
  have h3 := lRun_ge (qDg T) (e - tA T e b) (tA T e b)
  have h4 := lRun_le (qDg T) (e - tA T e b) (tA T e b)
  unfold tN
  split
  · omega
  · split
    · omega
    · split
      · omega
      · split <;> omega
/-- the token's fields set -/
def mTk (g : xMem) (a b k : Int32) (wd : Int64) (wh : Int32) : xMem := xsI (xsI (xsI (xsI (xsJ g 2 6 wd) 2 7 wh) 2 3 a) 2 4 b) 2 5 k
def isL (T : Nat → Int32) (e b : Nat) : Bool := decide (¬ e ≤ tA T e b) && qLt T (tA T e b)
def isD (T : Nat → Int32) (e b : Nat) : Bool := decide (¬ e ≤ tA T e b) && (!qLt T (tA T e b) && qDg T (tA T e b))
/-- the next token -/
def mStep (g : xMem) (e b : Nat) : xMem := mTk g (nI (tA (xI g 3) e b)) (nI (tN (xI g 3) e b)) (tKd (xI g 3) e b) (if isL (xI g 3) e b = true then fWd (xI g 3) (tA (xI g 3) e b) (tN (xI g 3) e b - tA (xI g 3) e b) else xJ g 2 6) (if isD (xI g 3) e b = true then fWh (xI g 3) (tA (xI g 3) e b) (tN (xI g 3) e b - tA (xI g 3) e b) else xI g 2 7)
theorem mTk_eq {g w : xMem} {a b k : Int32} {wd : Int64} {wh : Int32} (h1 : w.1 = g.1) (h2 : w.2.2.2 = g.2.2.2) (h3 : ∀ c j, c ≠ 2 → xI w c j = xI g c j) (h4 : ∀ j, j ≠ 3 → j ≠ 4 → j ≠ 5 → j ≠ 7 → xI w 2 j = xI g 2 j) (e3 : xI w 2 3 = a) (e4 : xI w 2 4 = b) (e5 : xI w 2 5 = k) (e7 : xI w 2 7 = wh) (h5 : ∀ c j, c ≠ 2 ∨ j ≠ 6 → xJ w c j = xJ g c j) (e6 : xJ w 2 6 = wd) : w = mTk g a b k wd wh := by
  refine xm_ext h1 (fun c j => ?_) (fun c j => ?_) h2
  · unfold mTk
    simp only [xI_sI, xI_sJ]
    by_cases hc : c = 2
    · subst hc
      by_cases c5 : j = 5
      · subst c5; rw [if_pos ⟨rfl, rfl⟩]; exact e5
      · rw [if_neg (fun q => c5 q.2)]
        by_cases c4 : j = 4
        · subst c4; rw [if_pos ⟨rfl, rfl⟩]; exact e4
        · rw [if_neg (fun q => c4 q.2)]
          by_cases c3 : j = 3
          · subst c3; rw [if_pos ⟨rfl, rfl⟩]; exact e3
          · rw [if_neg (fun q => c3 q.2)]
            by_cases c7 : j = 7
            · subst c7; rw [if_pos ⟨rfl, rfl⟩]; exact e7
            · rw [if_neg (fun q => c7 q.2)]
              exact h4 j c3 c4 c5 c7
    · rw [if_neg (fun q => hc q.1), if_neg (fun q => hc q.1), if_neg (fun q => hc q.1), if_neg (fun q => hc q.1)]
      exact h3 c j hc
  · unfold mTk
    simp only [xJ_sI, xJ_sJ]
    by_cases hc : c = 2 ∧ j = 6
    · rw [if_pos hc, hc.1, hc.2]; exact e6
    · rw [if_neg hc]
      exact h5 c j (by omega)
section
variable {g : xMem} {P : Option Value → xMem → Prop} {e b a : Nat} {x y : Int32}
theorem xI_ne {u : xMem} {a k c j : Nat} {v : Int32} (h : c ≠ a ∨ j ≠ k) : xI (xsI u a k v) c j = xI u c j := by rw [xI_sI, if_neg (by omega)]
/-- the tape at rest: its end, where it stands -/
def Tp (g : xMem) (e b : Nat) : Prop := sTp g 2 ∧ xI g 2 2 = nI e ∧ e ≤ 1200 ∧ xI g 2 4 = nI b ∧ b ≤ e
theorem skip_loop (h : sTp g 2) (he : xI g 2 2 = nI e) (h12 : e ≤ 1200) : ∀ r k, k + r = e → zr 89 8 [.ref 2] [] (xsI g 2 3 (nI k)) P = zr 89 46 [.ref 2] [] (xsI g 2 3 (nI (lRun (qBl (xI g 3)) r k))) P := by
  obtain ⟨h0, h1, h2, h3⟩ := h
  intro r
  induction r with
  | zero =>
    intro k hk
    have e2 : xI (xsI g 2 3 (nI k)) 2 2 = nI e := he
    have e3 : xI (xsI g 2 3 (nI k)) 2 3 = nI k := rfl
    rw [r89_8]
    simp (disch := omega) only [r89_9, r89_12, r89_13, r89_16, r89_19, r89_20, r89_23, r89_24, r89_27, r89_28, r89_30, r89_33, r89_34, r89_35, r89_38, r89_39, r89_40, r89_43, xIs_sI, h0, e2, e3, lRun, xinbT, xixT, leT, leF, ltT, ltF, ngF, psT, n1F, n2F, km2, km3, km4, km5, km10, km15, km25, kl8, kl14, kl24, kl34, kl274, kl354, kl384, kr1, kr2, kr3, kr4, kr5, kr6, kr7, kr8, kr9, kaa, lb0, lb1, lb2, lb3, lb4, lb5, lb6, lb7, li0, li1, li2, li3, li4, li5, li6, li7, true_and, and_true, Option.some.injEq, exists_eq_left', Option.toList_some, Option.toList_none, List.cons_append, List.nil_append, xcat_nil, xcat_int, xcat_ref, xcat_long, not_true, not_false_iff, if_true, if_false, and_self, and_false, false_and, or_true, true_or, or_self, z01, z10, zle8, Nat.reduceAdd, Nat.reduceLeDiff]
  | succ r ih =>
    intro k hk
    have e2 : xI (xsI g 2 3 (nI k)) 2 2 = nI e := he
    have e3 : xI (xsI g 2 3 (nI k)) 2 3 = nI k := rfl
    have e4 : xI (xsI g 2 3 (nI k)) 3 k = xI g 3 k := rfl
    have ih := ih (k + 1) (by omega)
    rw [r89_8]
    simp (disch := omega) only [r89_9, r89_12, r89_13, r89_16, r89_19, r89_20, r89_23, r89_24, r89_27, r89_28, r89_30, r89_33, r89_34, r89_35, r89_38, r89_39, r89_40, r89_43, xIs_sI, xR_sI, xN_sI, h0, h1, h2, h3, e2, e3, e4, xsI_same, ih, lRun, qBl, xinbT, xixT, leT, leF, ltT, ltF, ngF, psT, n1F, n2F, km2, km3, km4, km5, km10, km15, km25, kl8, kl14, kl24, kl34, kl274, kl354, kl384, kr1, kr2, kr3, kr4, kr5, kr6, kr7, kr8, kr9, kaa, lb0, lb1, lb2, lb3, lb4, lb5, lb6, lb7, li0, li1, li2, li3, li4, li5, li6, li7, true_and, and_true, Option.some.injEq, exists_eq_left', Option.toList_some, Option.toList_none, List.cons_append, List.nil_append, xcat_nil, xcat_int, xcat_ref, xcat_long, not_true, not_false_iff, if_true, if_false, and_self, and_false, false_and, or_true, true_or, or_self, z01, z10, zle8, Nat.reduceAdd, Nat.reduceLeDiff]
    by_cases c : xI g 3 k = 32
    · simp only [c, decide_true, true_and, and_true, Option.some.injEq, exists_eq_left', Option.toList_some, Option.toList_none, List.cons_append, List.nil_append, xcat_nil, xcat_int, xcat_ref, xcat_long, not_true, not_false_iff, if_true, if_false, and_self, and_false, false_and, or_true, true_or, or_self, z01, z10, zle8, Nat.reduceAdd, Nat.reduceLeDiff]
    · simp only [c, decide_false, Bool.false_eq_true, true_and, and_true, Option.some.injEq, exists_eq_left', Option.toList_some, Option.toList_none, List.cons_append, List.nil_append, xcat_nil, xcat_int, xcat_ref, xcat_long, not_true, not_false_iff, if_true, if_false, and_self, and_false, false_and, or_true, true_or, or_self, z01, z10, zle8, Nat.reduceAdd, Nat.reduceLeDiff]
/-- within takeWord -/
def mW (g : xMem) (a i : Nat) : xMem := xsI (xsJ g 2 6 (fWd (xI g 3) a i)) 2 4 (nI (a + i))
theorem mW_s {i : Nat} {v : Int64} (hv : v = fWd (xI g 3) a (i + 1)) : xsI (xsJ (mW g a i) 2 6 v) 2 4 (nI (a + i + 1)) = mW g a (i + 1) := by
  subst hv
  refine xm_ext rfl (fun c j => ?_) (fun c j => ?_) rfl
  · unfold mW
    simp only [xI_sI, xI_sJ]
    by_cases q : c = 2 ∧ j = 4
    · rw [if_pos q, if_pos q]; rfl
    · rw [if_neg q, if_neg q, if_neg q]
  · unfold mW
    simp only [xJ_sI, xJ_sJ]
    by_cases q : c = 2 ∧ j = 6
    · rw [if_pos q, if_pos q]
    · rw [if_neg q, if_neg q, if_neg q]
theorem word_loop (h : sTp g 2) (he : xI g 2 2 = nI e) (h12 : e ≤ 1200) : ∀ r i, a + i + r = e → zr 90 5 [.ref 2] [] (mW g a i) P = zr 90 85 [.ref 2] [] (mW g a (lRun (qLt (xI g 3)) r (a + i) - a)) P := by
  obtain ⟨h0, h1, h2, h3⟩ := h
  have s0 : ∀ i, xIs (mW g a i) 2 8 := fun i => h0
  have s1 : ∀ i, xR (mW g a i) 2 0 = some (2 + 1) := fun i => h1
  have s2 : ∀ i, xIs (mW g a i) (2 + 1) 12 := fun i => h2
  have s3 : ∀ i, xN (mW g a i) (2 + 1) = 1200 := fun i => h3
  have s4 : ∀ i, xI (mW g a i) 2 4 = nI (a + i) := fun i => rfl
  have s5 : ∀ i, xI (mW g a i) 2 2 = nI e := fun i => he
  have s6 : ∀ i j, xI (mW g a i) (2 + 1) j = xI g 3 j := fun i j => rfl
  have s7 : ∀ i, xJ (mW g a i) 2 6 = fWd (xI g 3) a i := fun i => rfl
  intro r
  induction r with
  | zero =>
    intro i hk
    rw [r90_5]
    simp (disch := omega) only [r90_6, r90_9, r90_10, r90_13, r90_16, r90_17, r90_20, r90_21, r90_24, r90_25, r90_27, r90_30, r90_31, r90_34, r90_35, r90_38, r90_39, r90_41, r90_44, r90_45, r90_46, r90_49, r90_52, r90_53, r90_54, r90_57, r90_58, r90_61, r90_62, r90_64, r90_65, r90_66, r90_67, r90_68, r90_69, r90_72, r90_73, r90_74, r90_77, r90_78, r90_79, r90_82, s0, s4, s5, lRun, xinbT, xixT, leT, leF, ltT, ltF, ngF, psT, n1F, n2F, km2, km3, km4, km5, km10, km15, km25, kl8, kl14, kl24, kl34, kl274, kl354, kl384, kr1, kr2, kr3, kr4, kr5, kr6, kr7, kr8, kr9, kaa, lb0, lb1, lb2, lb3, lb4, lb5, lb6, lb7, li0, li1, li2, li3, li4, li5, li6, li7, true_and, and_true, Option.some.injEq, exists_eq_left', Option.toList_some, Option.toList_none, List.cons_append, List.nil_append, xcat_nil, xcat_int, xcat_ref, xcat_long, not_true, not_false_iff, if_true, if_false, and_self, and_false, false_and, or_true, true_or, or_self, z01, z10, zle8, Nat.reduceAdd, Nat.reduceLeDiff]
    rw [show a + i - a = i by omega]
  | succ r ih =>
    intro i hk
    have ih := ih (i + 1) (by omega)
    rw [show a + (i + 1) = a + i + 1 by omega] at ih
    have hm : ∀ v, v = fWd (xI g 3) a (i + 1) → xsI (xsJ (mW g a i) 2 6 v) 2 4 (nI (a + i + 1)) = mW g a (i + 1) := fun v hv => mW_s hv
    have hm := hm (fWd (xI g 3) a i * 32 + (xI g 3 (a + i) - 97 + 1).toInt64) rfl
    have t0 : ∀ v, xIs (xsJ (mW g a i) 2 6 v) 2 8 := fun v => h0
    have t4 : ∀ v, xI (xsJ (mW g a i) 2 6 v) 2 4 = nI (a + i) := fun v => rfl
    rw [r90_5]
    simp (disch := omega) only [r90_6, r90_9, r90_10, r90_13, r90_16, r90_17, r90_20, r90_21, r90_24, r90_25, r90_27, r90_30, r90_31, r90_34, r90_35, r90_38, r90_39, r90_41, r90_44, r90_45, r90_46, r90_49, r90_52, r90_53, r90_54, r90_57, r90_58, r90_61, r90_62, r90_64, r90_65, r90_66, r90_67, r90_68, r90_69, r90_72, r90_73, r90_74, r90_77, r90_78, r90_79, r90_82, s0, s1, s2, s3, s4, s5, s6, s7, t0, t4, hm, ih, lRun, qLt, xinbT, xixT, leT, leF, ltT, ltF, ngF, psT, n1F, n2F, km2, km3, km4, km5, km10, km15, km25, kl8, kl14, kl24, kl34, kl274, kl354, kl384, kr1, kr2, kr3, kr4, kr5, kr6, kr7, kr8, kr9, kaa, lb0, lb1, lb2, lb3, lb4, lb5, lb6, lb7, li0, li1, li2, li3, li4, li5, li6, li7, true_and, and_true, Option.some.injEq, exists_eq_left', Option.toList_some, Option.toList_none, List.cons_append, List.nil_append, xcat_nil, xcat_int, xcat_ref, xcat_long, not_true, not_false_iff, if_true, if_false, and_self, and_false, false_and, or_true, true_or, or_self, z01, z10, zle8, Nat.reduceAdd, Nat.reduceLeDiff]
    by_cases c1 : xI g 3 (a + i) < 97
    · simp only [c1, i32_nle.mpr c1, decide_false, Bool.false_eq_true, true_and, and_true, Option.some.injEq, exists_eq_left', Option.toList_some, Option.toList_none, List.cons_append, List.nil_append, xcat_nil, xcat_int, xcat_ref, xcat_long, not_true, not_false_iff, if_true, if_false, and_self, and_false, false_and, or_true, true_or, or_self, z01, z10, zle8, Nat.reduceAdd, Nat.reduceLeDiff]
      rw [show a + i - a = i by omega]
    · by_cases c2 : 122 < xI g 3 (a + i)
      · simp only [c1, c2, i32_nle.mpr c2, decide_false, Bool.false_eq_true, true_and, and_true, Option.some.injEq, exists_eq_left', Option.toList_some, Option.toList_none, List.cons_append, List.nil_append, xcat_nil, xcat_int, xcat_ref, xcat_long, not_true, not_false_iff, if_true, if_false, and_self, and_false, false_and, or_true, true_or, or_self, z01, z10, zle8, Nat.reduceAdd, Nat.reduceLeDiff]
        rw [show a + i - a = i by omega]
      · simp only [c1, c2, i32_nlt.mp c1, i32_nlt.mp c2, decide_true, true_and, and_true, Option.some.injEq, exists_eq_left', Option.toList_some, Option.toList_none, List.cons_append, List.nil_append, xcat_nil, xcat_int, xcat_ref, xcat_long, not_true, not_false_iff, if_true, if_false, and_self, and_false, false_and, or_true, true_or, or_self, z01, z10, zle8, Nat.reduceAdd, Nat.reduceLeDiff]
/-- within takeWhole -/
def mH (g : xMem) (a i : Nat) : xMem := xsI (xsI g 2 7 (fWh (xI g 3) a i)) 2 4 (nI (a + i))
theorem mH_s {i : Nat} {v : Int32} (hv : v = fWh (xI g 3) a (i + 1)) : xsI (xsI (mH g a i) 2 7 v) 2 4 (nI (a + i + 1)) = mH g a (i + 1) := by
  subst hv
  refine xm_ext rfl (fun c j => ?_) (fun c j => rfl) rfl
  unfold mH
  simp only [xI_sI]
  by_cases q : c = 2 ∧ j = 4
  · rw [if_pos q, if_pos q]; rfl
  · rw [if_neg q, if_neg q, if_neg q]
    by_cases q2 : c = 2 ∧ j = 7
    · rw [if_pos q2, if_pos q2]
    · rw [if_neg q2, if_neg q2, if_neg q2]
theorem whole_loop (h : sTp g 2) (he : xI g 2 2 = nI e) (h12 : e ≤ 1200) : ∀ r i, a + i + r = e → zr 91 5 [.ref 2] [] (mH g a i) P = zr 91 81 [.ref 2] [] (mH g a (lRun (qDg (xI g 3)) r (a + i) - a)) P := by
  obtain ⟨h0, h1, h2, h3⟩ := h
  have s0 : ∀ i, xIs (mH g a i) 2 8 := fun i => h0
  have s1 : ∀ i, xR (mH g a i) 2 0 = some (2 + 1) := fun i => h1
  have s2 : ∀ i, xIs (mH g a i) (2 + 1) 12 := fun i => h2
  have s3 : ∀ i, xN (mH g a i) (2 + 1) = 1200 := fun i => h3
  have s4 : ∀ i, xI (mH g a i) 2 4 = nI (a + i) := fun i => rfl
  have s5 : ∀ i, xI (mH g a i) 2 2 = nI e := fun i => he
  have s6 : ∀ i j, xI (mH g a i) (2 + 1) j = xI g 3 j := fun i j => rfl
  have s7 : ∀ i, xI (mH g a i) 2 7 = fWh (xI g 3) a i := fun i => rfl
  intro r
  induction r with
  | zero =>
    intro i hk
    rw [r91_5]
    simp (disch := omega) only [r91_6, r91_9, r91_10, r91_13, r91_16, r91_17, r91_20, r91_21, r91_24, r91_25, r91_27, r91_30, r91_31, r91_34, r91_35, r91_38, r91_39, r91_41, r91_44, r91_45, r91_46, r91_49, r91_51, r91_52, r91_53, r91_56, r91_57, r91_60, r91_61, r91_63, r91_64, r91_65, r91_68, r91_69, r91_70, r91_73, r91_74, r91_75, r91_78, s0, s4, s5, lRun, xinbT, xixT, leT, leF, ltT, ltF, ngF, psT, n1F, n2F, km2, km3, km4, km5, km10, km15, km25, kl8, kl14, kl24, kl34, kl274, kl354, kl384, kr1, kr2, kr3, kr4, kr5, kr6, kr7, kr8, kr9, kaa, lb0, lb1, lb2, lb3, lb4, lb5, lb6, lb7, li0, li1, li2, li3, li4, li5, li6, li7, true_and, and_true, Option.some.injEq, exists_eq_left', Option.toList_some, Option.toList_none, List.cons_append, List.nil_append, xcat_nil, xcat_int, xcat_ref, xcat_long, not_true, not_false_iff, if_true, if_false, and_self, and_false, false_and, or_true, true_or, or_self, z01, z10, zle8, Nat.reduceAdd, Nat.reduceLeDiff]
    rw [show a + i - a = i by omega]
  | succ r ih =>
    intro i hk
    have ih := ih (i + 1) (by omega)
    rw [show a + (i + 1) = a + i + 1 by omega] at ih
    have hm := mH_s (g := g) (a := a) (i := i) (v := fWh (xI g 3) a i * 10 + (xI g 3 (a + i) - 48)) rfl
    have t0 : ∀ v, xIs (xsI (mH g a i) 2 7 v) 2 8 := fun v => h0
    have t4 : ∀ v, xI (xsI (mH g a i) 2 7 v) 2 4 = nI (a + i) := fun v => rfl
    rw [r91_5]
    simp (disch := omega) only [r91_6, r91_9, r91_10, r91_13, r91_16, r91_17, r91_20, r91_21, r91_24, r91_25, r91_27, r91_30, r91_31, r91_34, r91_35, r91_38, r91_39, r91_41, r91_44, r91_45, r91_46, r91_49, r91_51, r91_52, r91_53, r91_56, r91_57, r91_60, r91_61, r91_63, r91_64, r91_65, r91_68, r91_69, r91_70, r91_73, r91_74, r91_75, r91_78, s0, s1, s2, s3, s4, s5, s6, s7, t0, t4, hm, ih, lRun, qDg, xinbT, xixT, leT, leF, ltT, ltF, ngF, psT, n1F, n2F, km2, km3, km4, km5, km10, km15, km25, kl8, kl14, kl24, kl34, kl274, kl354, kl384, kr1, kr2, kr3, kr4, kr5, kr6, kr7, kr8, kr9, kaa, lb0, lb1, lb2, lb3, lb4, lb5, lb6, lb7, li0, li1, li2, li3, li4, li5, li6, li7, true_and, and_true, Option.some.injEq, exists_eq_left', Option.toList_some, Option.toList_none, List.cons_append, List.nil_append, xcat_nil, xcat_int, xcat_ref, xcat_long, not_true, not_false_iff, if_true, if_false, and_self, and_false, false_and, or_true, true_or, or_self, z01, z10, zle8, Nat.reduceAdd, Nat.reduceLeDiff]
    by_cases c1 : xI g 3 (a + i) < 48
    · simp only [c1, i32_nle.mpr c1, decide_false, Bool.false_eq_true, true_and, and_true, Option.some.injEq, exists_eq_left', Option.toList_some, Option.toList_none, List.cons_append, List.nil_append, xcat_nil, xcat_int, xcat_ref, xcat_long, not_true, not_false_iff, if_true, if_false, and_self, and_false, false_and, or_true, true_or, or_self, z01, z10, zle8, Nat.reduceAdd, Nat.reduceLeDiff]
      rw [show a + i - a = i by omega]
    · by_cases c2 : 57 < xI g 3 (a + i)
      · simp only [c1, c2, i32_nle.mpr c2, decide_false, Bool.false_eq_true, true_and, and_true, Option.some.injEq, exists_eq_left', Option.toList_some, Option.toList_none, List.cons_append, List.nil_append, xcat_nil, xcat_int, xcat_ref, xcat_long, not_true, not_false_iff, if_true, if_false, and_self, and_false, false_and, or_true, true_or, or_self, z01, z10, zle8, Nat.reduceAdd, Nat.reduceLeDiff]
        rw [show a + i - a = i by omega]
      · simp only [c1, c2, i32_nlt.mp c1, i32_nlt.mp c2, decide_true, true_and, and_true, Option.some.injEq, exists_eq_left', Option.toList_some, Option.toList_none, List.cons_append, List.nil_append, xcat_nil, xcat_int, xcat_ref, xcat_long, not_true, not_false_iff, if_true, if_false, and_self, and_false, false_and, or_true, true_or, or_self, z01, z10, zle8, Nat.reduceAdd, Nat.reduceLeDiff]
theorem subI {a b : Nat} (h : b ≤ a) (ha : a < 2147483648) : nI a - nI b = nI (a - b) := by
  rw [i32_eq, t_sub (nI_toI (by omega)) (nI_toI (by omega)) (by omega), nI_toI (by omega)]
  omega
theorem takeWord_run (h : sTp g 2) (he : xI g 2 2 = nI e) (h12 : e ≤ 1200) (ha : xI g 2 3 = nI a) (hb : xI g 2 4 = nI a) (hae : a ≤ e) :
    zr 90 0 [.ref 2] [] g P = P none (xsI (mW g a (lRun (qLt (xI g 3)) (e - a) a - a)) 2 5 (if lRun (qLt (xI g 3)) (e - a) a - a ≤ 7 then 1 else 4)) := by
  have h0 := h.1
  have e0 : xsJ g 2 6 0 = mW g a 0 := by
    refine xm_ext rfl (fun c j => ?_) (fun c j => rfl) rfl
    unfold mW
    simp only [xI_sI, xI_sJ]
    by_cases q : c = 2 ∧ j = 4
    · rw [if_pos q, q.1, q.2]; exact hb
    · rw [if_neg q]
  have hl := word_loop (P := P) (a := a) h he h12 (e - a) 0 (by omega)
  have hge := lRun_ge (qLt (xI g 3)) (e - a) a
  have hle := lRun_le (qLt (xI g 3)) (e - a) a
  rw [Nat.add_zero] at hl
  generalize lRun (qLt (xI g 3)) (e - a) a = z at *
  have s0 : xIs (mW g a (z - a)) 2 8 := h0
  have s4 : xI (mW g a (z - a)) 2 4 = nI (a + (z - a)) := rfl
  have s3 : xI (mW g a (z - a)) 2 3 = nI a := ha
  have sb : nI (a + (z - a)) - nI a = nI (z - a) := by rw [subI (by omega) (by omega)]; congr 1; omega
  simp only [r90_0, r90_1, r90_2, h0, e0, hl, true_and, and_true, Option.some.injEq, exists_eq_left', Option.toList_some, Option.toList_none, List.cons_append, List.nil_append, xcat_nil, xcat_int, xcat_ref, xcat_long, not_true, not_false_iff, if_true, if_false, and_self, and_false, false_and, or_true, true_or, or_self, z01, z10, zle8, Nat.reduceAdd, Nat.reduceLeDiff]
  simp only [r90_85, r90_86, r90_87, r90_90, r90_91, r90_94, r90_95, r90_97, r90_100, r90_101, r90_104, r90_105, r90_108, s0, s4, s3, sb, true_and, and_true, Option.some.injEq, exists_eq_left', Option.toList_some, Option.toList_none, List.cons_append, List.nil_append, xcat_nil, xcat_int, xcat_ref, xcat_long, not_true, not_false_iff, if_true, if_false, and_self, and_false, false_and, or_true, true_or, or_self, z01, z10, zle8, Nat.reduceAdd, Nat.reduceLeDiff]
  by_cases c : z - a ≤ 7
  · have c' : ¬ (7 : Int32) < nI (z - a) := nI_nlt1 (a := z - a) (b := 7) c (by omega)
    simp only [c, c', true_and, and_true, Option.some.injEq, exists_eq_left', Option.toList_some, Option.toList_none, List.cons_append, List.nil_append, xcat_nil, xcat_int, xcat_ref, xcat_long, not_true, not_false_iff, if_true, if_false, and_self, and_false, false_and, or_true, true_or, or_self, z01, z10, zle8, Nat.reduceAdd, Nat.reduceLeDiff]
  · have c' : (7 : Int32) < nI (z - a) := (nI_ltI (a := 7) (b := z - a) (by omega) (by omega)).mpr (by omega)
    simp only [c, c', true_and, and_true, Option.some.injEq, exists_eq_left', Option.toList_some, Option.toList_none, List.cons_append, List.nil_append, xcat_nil, xcat_int, xcat_ref, xcat_long, not_true, not_false_iff, if_true, if_false, and_self, and_false, false_and, or_true, true_or, or_self, z01, z10, zle8, Nat.reduceAdd, Nat.reduceLeDiff]
theorem takeWhole_run (h : sTp g 2) (he : xI g 2 2 = nI e) (h12 : e ≤ 1200) (ha : xI g 2 3 = nI a) (hb : xI g 2 4 = nI a) (hae : a ≤ e) :
    zr 91 0 [.ref 2] [] g P = P none (xsI (mH g a (lRun (qDg (xI g 3)) (e - a) a - a)) 2 5 (if lRun (qDg (xI g 3)) (e - a) a - a ≤ 4 then 2 else 4)) := by
  have h0 := h.1
  have e0 : xsI g 2 7 0 = mH g a 0 := by
    refine xm_ext rfl (fun c j => ?_) (fun c j => rfl) rfl
    unfold mH
    simp only [xI_sI]
    by_cases q : c = 2 ∧ j = 4
    · rw [if_pos q, if_neg (by omega), q.1, q.2]; exact hb
    · rw [if_neg q]; rfl
  have hl := whole_loop (P := P) (a := a) h he h12 (e - a) 0 (by omega)
  have hge := lRun_ge (qDg (xI g 3)) (e - a) a
  have hle := lRun_le (qDg (xI g 3)) (e - a) a
  rw [Nat.add_zero] at hl
  generalize lRun (qDg (xI g 3)) (e - a) a = z at *
  have s0 : xIs (mH g a (z - a)) 2 8 := h0
  have s4 : xI (mH g a (z - a)) 2 4 = nI (a + (z - a)) := rfl
  have s3 : xI (mH g a (z - a)) 2 3 = nI a := ha
  have sb : nI (a + (z - a)) - nI a = nI (z - a) := by rw [subI (by omega) (by omega)]; congr 1; omega
  simp only [r91_0, r91_1, r91_2, h0, e0, hl, true_and, and_true, Option.some.injEq, exists_eq_left', Option.toList_some, Option.toList_none, List.cons_append, List.nil_append, xcat_nil, xcat_int, xcat_ref, xcat_long, not_true, not_false_iff, if_true, if_false, and_self, and_false, false_and, or_true, true_or, or_self, z01, z10, zle8, Nat.reduceAdd, Nat.reduceLeDiff]
  simp only [r91_81, r91_82, r91_83, r91_86, r91_87, r91_90, r91_91, r91_92, r91_95, r91_96, r91_99, r91_100, r91_103, s0, s4, s3, sb, true_and, and_true, Option.some.injEq, exists_eq_left', Option.toList_some, Option.toList_none, List.cons_append, List.nil_append, xcat_nil, xcat_int, xcat_ref, xcat_long, not_true, not_false_iff, if_true, if_false, and_self, and_false, false_and, or_true, true_or, or_self, z01, z10, zle8, Nat.reduceAdd, Nat.reduceLeDiff]
  by_cases c : z - a ≤ 4
  · have c' : ¬ (4 : Int32) < nI (z - a) := nI_nlt1 (a := z - a) (b := 4) c (by omega)
    simp only [c, c', true_and, and_true, Option.some.injEq, exists_eq_left', Option.toList_some, Option.toList_none, List.cons_append, List.nil_append, xcat_nil, xcat_int, xcat_ref, xcat_long, not_true, not_false_iff, if_true, if_false, and_self, and_false, false_and, or_true, true_or, or_self, z01, z10, zle8, Nat.reduceAdd, Nat.reduceLeDiff]
  · have c' : (4 : Int32) < nI (z - a) := (nI_ltI (a := 4) (b := z - a) (by omega) (by omega)).mpr (by omega)
    simp only [c, c', true_and, and_true, Option.some.injEq, exists_eq_left', Option.toList_some, Option.toList_none, List.cons_append, List.nil_append, xcat_nil, xcat_int, xcat_ref, xcat_long, not_true, not_false_iff, if_true, if_false, and_self, and_false, false_and, or_true, true_or, or_self, z01, z10, zle8, Nat.reduceAdd, Nat.reduceLeDiff]
theorem step_run (h : Tp g e b) : zr 89 0 [.ref 2] [] g P = P none (mStep g e b) := by
  obtain ⟨hT, he, h12, hb, hbe⟩ := h
  have ⟨h0, h1, h2, h3⟩ := hT
  obtain ⟨a1, a2⟩ := tA_b (T := xI g 3) hbe
  have hl := skip_loop (P := P) hT he h12 (e - b) b (by omega)
  rw [show lRun (qBl (xI g 3)) (e - b) b = tA (xI g 3) e b from rfl] at hl
  have dN : tN (xI g 3) e b = if e ≤ tA (xI g 3) e b then tA (xI g 3) e b else if qLt (xI g 3) (tA (xI g 3) e b) = true then lRun (qLt (xI g 3)) (e - tA (xI g 3) e b) (tA (xI g 3) e b) else if qDg (xI g 3) (tA (xI g 3) e b) = true then lRun (qDg (xI g 3)) (e - tA (xI g 3) e b) (tA (xI g 3) e b) else if xI g 3 (tA (xI g 3) e b) = 59 then tA (xI g 3) e b + 1 else tA (xI g 3) e b := rfl
  unfold mStep isL isD tKd
  generalize tN (xI g 3) e b = N at *
  generalize tA (xI g 3) e b = z at *
  have p0 : xIs (xsI g 2 3 (nI z)) 2 8 := h0
  have p4 : xI (xsI g 2 3 (nI z)) 2 3 = nI z := rfl
  simp only [r89_0, r89_1, r89_2, r89_5, h0, hb, hl, true_and, and_true, Option.some.injEq, exists_eq_left', Option.toList_some, Option.toList_none, List.cons_append, List.nil_append, xcat_nil, xcat_int, xcat_ref, xcat_long, not_true, not_false_iff, if_true, if_false, and_self, and_false, false_and, or_true, true_or, or_self, z01, z10, zle8, Nat.reduceAdd, Nat.reduceLeDiff]
  simp only [r89_46, r89_47, r89_48, r89_51, p0, p4, true_and, and_true, Option.some.injEq, exists_eq_left', Option.toList_some, Option.toList_none, List.cons_append, List.nil_append, xcat_nil, xcat_int, xcat_ref, xcat_long, not_true, not_false_iff, if_true, if_false, and_self, and_false, false_and, or_true, true_or, or_self, z01, z10, zle8, Nat.reduceAdd, Nat.reduceLeDiff]
  -- the memory with the token's place set
  have q0 : xIs (xsI (xsI g 2 3 (nI z)) 2 4 (nI z)) 2 8 := h0
  have q1 : xR (xsI (xsI g 2 3 (nI z)) 2 4 (nI z)) 2 0 = some (2 + 1) := h1
  have q2 : xIs (xsI (xsI g 2 3 (nI z)) 2 4 (nI z)) (2 + 1) 12 := h2
  have q3 : xN (xsI (xsI g 2 3 (nI z)) 2 4 (nI z)) (2 + 1) = 1200 := h3
  have q4 : xI (xsI (xsI g 2 3 (nI z)) 2 4 (nI z)) 2 3 = nI z := rfl
  have q5 : xI (xsI (xsI g 2 3 (nI z)) 2 4 (nI z)) 2 2 = nI e := he
  have q6 : ∀ j, xI (xsI (xsI g 2 3 (nI z)) 2 4 (nI z)) (2 + 1) j = xI g 3 j := fun j => rfl
  have q7 : xI (xsI (xsI g 2 3 (nI z)) 2 4 (nI z)) 2 4 = nI z := rfl
  have qT : sTp (xsI (xsI g 2 3 (nI z)) 2 4 (nI z)) 2 := hT
  have q8 : xI (xsI (xsI g 2 3 (nI z)) 2 4 (nI z)) 3 = xI g 3 := rfl
  have g3 : ∀ c j, c ≠ 2 → xI (xsI (xsI g 2 3 (nI z)) 2 4 (nI z)) c j = xI g c j := fun c j hc => by rw [xI_ne (Or.inl hc), xI_ne (Or.inl hc)]
  have g4 : ∀ j, j ≠ 3 → j ≠ 4 → xI (xsI (xsI g 2 3 (nI z)) 2 4 (nI z)) 2 j = xI g 2 j := fun j a3 a4 => by rw [xI_ne (Or.inr a4), xI_ne (Or.inr a3)]
  have gJ : ∀ c j, xJ (xsI (xsI g 2 3 (nI z)) 2 4 (nI z)) c j = xJ g c j := fun c j => rfl
  have gk : (xsI (xsI g 2 3 (nI z)) 2 4 (nI z)).1 = g.1 := rfl
  have gr : (xsI (xsI g 2 3 (nI z)) 2 4 (nI z)).2.2.2 = g.2.2.2 := rfl
  generalize xsI (xsI g 2 3 (nI z)) 2 4 (nI z) = v at *
  by_cases c0 : e ≤ z
  · rw [if_pos c0] at dN
    subst dN
    simp (disch := omega) only [r89_54, r89_55, r89_58, r89_59, r89_62, r89_65, r89_66, r89_67, r89_70, r89_180, q0, q4, q5, if_pos c0, decide_not, decide_eq_true c0, Bool.not_true, Bool.false_and, Bool.false_eq_true, xinbT, xixT, leT, leF, ltT, ltF, ngF, psT, n1F, n2F, km2, km3, km4, km5, km10, km15, km25, kl8, kl14, kl24, kl34, kl274, kl354, kl384, kr1, kr2, kr3, kr4, kr5, kr6, kr7, kr8, kr9, kaa, lb0, lb1, lb2, lb3, lb4, lb5, lb6, lb7, li0, li1, li2, li3, li4, li5, li6, li7, true_and, and_true, Option.some.injEq, exists_eq_left', Option.toList_some, Option.toList_none, List.cons_append, List.nil_append, xcat_nil, xcat_int, xcat_ref, xcat_long, not_true, not_false_iff, if_true, if_false, and_self, and_false, false_and, or_true, true_or, or_self, z01, z10, zle8, Nat.reduceAdd, Nat.reduceLeDiff]
    congr 1
    exact mTk_eq gk gr (fun c j hc => by rw [xI_ne (Or.inl hc), g3 c j hc]) (fun j a3 a4 a5 a7 => by rw [xI_ne (Or.inr a5), g4 j a3 a4]) q4 q7 rfl (g4 7 (by decide) (by decide)) (fun c j hc => gJ c j) (gJ 2 6)
  · rw [if_neg c0] at dN
    simp (disch := omega) only [r89_54, r89_55, r89_58, r89_59, r89_62, r89_65, r89_66, r89_67, r89_70, q0, q4, q5, if_neg c0, decide_not, decide_eq_false c0, Bool.not_false, Bool.true_and, xinbT, xixT, leT, leF, ltT, ltF, ngF, psT, n1F, n2F, km2, km3, km4, km5, km10, km15, km25, kl8, kl14, kl24, kl34, kl274, kl354, kl384, kr1, kr2, kr3, kr4, kr5, kr6, kr7, kr8, kr9, kaa, lb0, lb1, lb2, lb3, lb4, lb5, lb6, lb7, li0, li1, li2, li3, li4, li5, li6, li7, true_and, and_true, Option.some.injEq, exists_eq_left', Option.toList_some, Option.toList_none, List.cons_append, List.nil_append, xcat_nil, xcat_int, xcat_ref, xcat_long, not_true, not_false_iff, if_true, if_false, and_self, and_false, false_and, or_true, true_or, or_self, z01, z10, zle8, Nat.reduceAdd, Nat.reduceLeDiff]
    by_cases c1 : qLt (xI g 3) z = true
    · have c1' := of_decide_eq_true c1
      have hq := fun P => takeWord_run (P := P) qT q5 h12 q4 q7 (by omega)
      rw [q8] at hq
      rw [if_pos c1] at dN
      have hge := lRun_ge (qLt (xI g 3)) (e - z) z
      rw [← dN] at hq hge
      simp (disch := omega) only [r89_73, r89_74, r89_77, r89_78, r89_81, r89_82, r89_84, r89_87, r89_88, r89_91, r89_92, r89_95, r89_96, r89_98, r89_101, r89_102, r89_105, r89_180, q0, q1, q2, q3, q4, q5, q6, c1, i32_nlt.mpr c1'.1, i32_nlt.mpr c1'.2, hq, Bool.not_true, Bool.false_and, Bool.false_eq_true, xinbT, xixT, leT, leF, ltT, ltF, ngF, psT, n1F, n2F, km2, km3, km4, km5, km10, km15, km25, kl8, kl14, kl24, kl34, kl274, kl354, kl384, kr1, kr2, kr3, kr4, kr5, kr6, kr7, kr8, kr9, kaa, lb0, lb1, lb2, lb3, lb4, lb5, lb6, lb7, li0, li1, li2, li3, li4, li5, li6, li7, true_and, and_true, Option.some.injEq, exists_eq_left', Option.toList_some, Option.toList_none, List.cons_append, List.nil_append, xcat_nil, xcat_int, xcat_ref, xcat_long, not_true, not_false_iff, if_true, if_false, and_self, and_false, false_and, or_true, true_or, or_self, z01, z10, zle8, Nat.reduceAdd, Nat.reduceLeDiff]
      congr 1
      refine mTk_eq gk gr (fun c j hc => ?_) (fun j a3 a4 a5 a7 => ?_) q4 ?_ rfl (g4 7 (by decide) (by decide)) (fun c j hc => ?_) ?_
      · rw [xI_ne (Or.inl hc)]
        unfold mW
        rw [xI_ne (Or.inl hc), xI_sJ, g3 c j hc]
      · rw [xI_ne (Or.inr a5)]
        unfold mW
        rw [xI_ne (Or.inr a4), xI_sJ, g4 j a3 a4]
      · show nI (z + (N - z)) = nI N
        congr 1
        omega
      · show xJ (mW v z (N - z)) c j = _
        unfold mW
        rw [xJ_sI, xJ_sJ, if_neg (by omega), gJ]
      · show fWd (xI v 3) z (N - z) = _
        rw [q8]
    · have c1' : ¬ (97 ≤ xI g 3 z ∧ xI g 3 z ≤ 122) := fun q => c1 (decide_eq_true q)
      rw [if_neg c1] at dN
      have f1 : qLt (xI g 3) z = false := Bool.eq_false_iff.mpr c1
      have hgo : zr 89 73 [.ref 2] [] v P = zr 89 108 [.ref 2] [] v P := by
        simp (disch := omega) only [r89_73, r89_74, r89_77, r89_78, r89_81, r89_82, r89_84, r89_87, r89_88, r89_91, r89_92, r89_95, r89_96, r89_98, q0, q1, q2, q3, q4, q5, q6, xinbT, xixT, leT, leF, ltT, ltF, ngF, psT, n1F, n2F, km2, km3, km4, km5, km10, km15, km25, kl8, kl14, kl24, kl34, kl274, kl354, kl384, kr1, kr2, kr3, kr4, kr5, kr6, kr7, kr8, kr9, kaa, lb0, lb1, lb2, lb3, lb4, lb5, lb6, lb7, li0, li1, li2, li3, li4, li5, li6, li7, true_and, and_true, Option.some.injEq, exists_eq_left', Option.toList_some, Option.toList_none, List.cons_append, List.nil_append, xcat_nil, xcat_int, xcat_ref, xcat_long, not_true, not_false_iff, if_true, if_false, and_self, and_false, false_and, or_true, true_or, or_self, z01, z10, zle8, Nat.reduceAdd, Nat.reduceLeDiff]
        by_cases d1 : xI g 3 z < 97
        · rw [if_pos d1]
        · rw [if_neg d1, if_pos (i32_nle.mp (fun q => c1' ⟨i32_nlt.mp d1, q⟩))]
      rw [hgo]
      by_cases c2 : qDg (xI g 3) z = true
      · have c2' := of_decide_eq_true c2
        have hq := fun P => takeWhole_run (P := P) qT q5 h12 q4 q7 (by omega)
        rw [q8] at hq
        rw [if_pos c2] at dN
        have hge := lRun_ge (qDg (xI g 3)) (e - z) z
        rw [← dN] at hq hge
        simp (disch := omega) only [r89_108, r89_109, r89_112, r89_113, r89_116, r89_117, r89_119, r89_122, r89_123, r89_126, r89_127, r89_130, r89_131, r89_133, r89_136, r89_137, r89_140, r89_180, q0, q1, q2, q3, q4, q5, q6, c2, f1, i32_nlt.mpr c2'.1, i32_nlt.mpr c2'.2, hq, Bool.not_false, Bool.true_and, Bool.false_eq_true, xinbT, xixT, leT, leF, ltT, ltF, ngF, psT, n1F, n2F, km2, km3, km4, km5, km10, km15, km25, kl8, kl14, kl24, kl34, kl274, kl354, kl384, kr1, kr2, kr3, kr4, kr5, kr6, kr7, kr8, kr9, kaa, lb0, lb1, lb2, lb3, lb4, lb5, lb6, lb7, li0, li1, li2, li3, li4, li5, li6, li7, true_and, and_true, Option.some.injEq, exists_eq_left', Option.toList_some, Option.toList_none, List.cons_append, List.nil_append, xcat_nil, xcat_int, xcat_ref, xcat_long, not_true, not_false_iff, if_true, if_false, and_self, and_false, false_and, or_true, true_or, or_self, z01, z10, zle8, Nat.reduceAdd, Nat.reduceLeDiff]
        congr 1
        refine mTk_eq gk gr (fun c j hc => ?_) (fun j a3 a4 a5 a7 => ?_) q4 ?_ rfl ?_ (fun c j hc => ?_) ?_
        · rw [xI_ne (Or.inl hc)]
          unfold mH
          rw [xI_ne (Or.inl hc), xI_ne (Or.inl hc), g3 c j hc]
        · rw [xI_ne (Or.inr a5)]
          unfold mH
          rw [xI_ne (Or.inr a4), xI_ne (Or.inr a7), g4 j a3 a4]
        · show nI (z + (N - z)) = nI N
          congr 1
          omega
        · show fWh (xI v 3) z (N - z) = _
          rw [q8]
        · exact gJ c j
        · exact gJ 2 6
      · have c2' : ¬ (48 ≤ xI g 3 z ∧ xI g 3 z ≤ 57) := fun q => c2 (decide_eq_true q)
        rw [if_neg c2] at dN
        have f2 : qDg (xI g 3) z = false := Bool.eq_false_iff.mpr c2
        have hgo : zr 89 108 [.ref 2] [] v P = zr 89 143 [.ref 2] [] v P := by
          simp (disch := omega) only [r89_108, r89_109, r89_112, r89_113, r89_116, r89_117, r89_119, r89_122, r89_123, r89_126, r89_127, r89_130, r89_131, r89_133, q0, q1, q2, q3, q4, q5, q6, xinbT, xixT, leT, leF, ltT, ltF, ngF, psT, n1F, n2F, km2, km3, km4, km5, km10, km15, km25, kl8, kl14, kl24, kl34, kl274, kl354, kl384, kr1, kr2, kr3, kr4, kr5, kr6, kr7, kr8, kr9, kaa, lb0, lb1, lb2, lb3, lb4, lb5, lb6, lb7, li0, li1, li2, li3, li4, li5, li6, li7, true_and, and_true, Option.some.injEq, exists_eq_left', Option.toList_some, Option.toList_none, List.cons_append, List.nil_append, xcat_nil, xcat_int, xcat_ref, xcat_long, not_true, not_false_iff, if_true, if_false, and_self, and_false, false_and, or_true, true_or, or_self, z01, z10, zle8, Nat.reduceAdd, Nat.reduceLeDiff]
          by_cases d1 : xI g 3 z < 48
          · rw [if_pos d1]
          · rw [if_neg d1, if_pos (i32_nle.mp (fun q => c2' ⟨i32_nlt.mp d1, q⟩))]
        rw [hgo]
        by_cases c3 : xI g 3 z = 59
        · rw [if_pos c3] at dN
          subst dN
          have w0 : xIs (xsI v 2 5 3) 2 8 := q0
          have w7 : xI (xsI v 2 5 3) 2 4 = nI z := q7
          simp (disch := omega) only [r89_143, r89_144, r89_147, r89_148, r89_151, r89_152, r89_154, r89_157, r89_158, r89_159, r89_162, r89_163, r89_164, r89_167, r89_168, r89_169, r89_172, r89_175, r89_176, r89_177, r89_180, q0, q1, q2, q3, q4, q5, q6, c3, f1, f2, w0, w7, Bool.not_false, Bool.true_and, Bool.false_eq_true, xinbT, xixT, leT, leF, ltT, ltF, ngF, psT, n1F, n2F, km2, km3, km4, km5, km10, km15, km25, kl8, kl14, kl24, kl34, kl274, kl354, kl384, kr1, kr2, kr3, kr4, kr5, kr6, kr7, kr8, kr9, kaa, lb0, lb1, lb2, lb3, lb4, lb5, lb6, lb7, li0, li1, li2, li3, li4, li5, li6, li7, true_and, and_true, Option.some.injEq, exists_eq_left', Option.toList_some, Option.toList_none, List.cons_append, List.nil_append, xcat_nil, xcat_int, xcat_ref, xcat_long, not_true, not_false_iff, if_true, if_false, and_self, and_false, false_and, or_true, true_or, or_self, z01, z10, zle8, Nat.reduceAdd, Nat.reduceLeDiff]
          congr 1
          exact mTk_eq gk gr (fun c j hc => by rw [xI_ne (Or.inl hc), xI_ne (Or.inl hc), g3 c j hc]) (fun j a3 a4 a5 a7 => by rw [xI_ne (Or.inr a4), xI_ne (Or.inr a5), g4 j a3 a4]) q4 rfl rfl (g4 7 (by decide) (by decide)) (fun c j hc => gJ c j) (gJ 2 6)
        · rw [if_neg c3] at dN
          subst dN
          simp (disch := omega) only [r89_143, r89_144, r89_147, r89_148, r89_151, r89_152, r89_154, r89_157, r89_158, r89_159, r89_162, r89_163, r89_164, r89_167, r89_168, r89_169, r89_172, r89_175, r89_176, r89_177, r89_180, q0, q1, q2, q3, q4, q5, q6, c3, f1, f2, Bool.not_false, Bool.true_and, Bool.false_eq_true, xinbT, xixT, leT, leF, ltT, ltF, ngF, psT, n1F, n2F, km2, km3, km4, km5, km10, km15, km25, kl8, kl14, kl24, kl34, kl274, kl354, kl384, kr1, kr2, kr3, kr4, kr5, kr6, kr7, kr8, kr9, kaa, lb0, lb1, lb2, lb3, lb4, lb5, lb6, lb7, li0, li1, li2, li3, li4, li5, li6, li7, true_and, and_true, Option.some.injEq, exists_eq_left', Option.toList_some, Option.toList_none, List.cons_append, List.nil_append, xcat_nil, xcat_int, xcat_ref, xcat_long, not_true, not_false_iff, if_true, if_false, and_self, and_false, false_and, or_true, true_or, or_self, z01, z10, zle8, Nat.reduceAdd, Nat.reduceLeDiff]
          congr 1
          exact mTk_eq gk gr (fun c j hc => by rw [xI_ne (Or.inl hc), g3 c j hc]) (fun j a3 a4 a5 a7 => by rw [xI_ne (Or.inr a5), g4 j a3 a4]) q4 q7 rfl (g4 7 (by decide) (by decide)) (fun c j hc => gJ c j) (gJ 2 6)
end
