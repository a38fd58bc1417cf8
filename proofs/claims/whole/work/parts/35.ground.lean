/-! GROUND -/
theorem xIs_sI {w : xMem} {a k c d : Nat} {v : Int32} : xIs (xsI w a k v) c d = xIs w c d := rfl
theorem xIs_sJ {w : xMem} {a k c d : Nat} {v : Int64} : xIs (xsJ w a k v) c d = xIs w c d := rfl
/-- the first n places of the array a, anew -/
def xfill (u : xMem) (a n : Nat) (f : Nat → Int32) : xMem := (u.1, (fun b j => if b = a ∧ j < n then f j else u.2.1 b j), u.2.2)
theorem xI_fill {u : xMem} {a n b j : Nat} {f : Nat → Int32} : xI (xfill u a n f) b j = if b = a ∧ j < n then f j else xI u b j := rfl
theorem xIf_fill {u : xMem} {a n b : Nat} {f : Nat → Int32} (h : b ≠ a) : xI (xfill u a n f) b = xI u b := by
  funext j
  rw [xI_fill, if_neg (fun q => h q.1)]
theorem xIf_sI {u : xMem} {a k b : Nat} {v : Int32} (h : b ≠ a) : xI (xsI u a k v) b = xI u b := by
  funext j
  rw [xI_sI, if_neg (fun q => h q.1)]
theorem xfill_0 {u : xMem} {a : Nat} {f : Nat → Int32} : xfill u a 0 f = u := by
  unfold xfill
  simp
theorem xfill_s {u : xMem} {a n : Nat} {f : Nat → Int32} : xsI (xfill u a n f) a n (f n) = xfill u a (n + 1) f := by
  unfold xsI xfill xu2
  refine Prod.ext rfl (Prod.ext ?_ rfl)
  funext b j
  show (if b = a ∧ j = n then f n else if b = a ∧ j < n then f j else u.2.1 b j) = if b = a ∧ j < n + 1 then f j else u.2.1 b j
  by_cases hb : b = a
  · by_cases hj : j = n
    · subst hj
      simp [hb]
    · by_cases hl : j < n
      · simp [hb, hj, hl, Nat.lt_succ_of_lt hl]
      · have : ¬ j < n + 1 := by omega
        simp [hb, hj, hl, this]
  · simp [hb]
def fSet (lay ch X Y nc : Nat → Int32) (layer x y : Int32) : Nat → Nat → Int32
  | 0, _ => -2
  | r + 1, i => if lay i = layer ∧ fHold X Y nc x y (ch i) = true then nI i else fSet lay ch X Y nc layer x y r (i + 1)
theorem fSet_cases (lay ch X Y nc : Nat → Int32) (layer x y : Int32) : ∀ r i, fSet lay ch X Y nc layer x y r i = -2 ∨ ∃ k, i ≤ k ∧ k < i + r ∧ fSet lay ch X Y nc layer x y r i = nI k ∧ lay k = layer ∧ fHold X Y nc x y (ch k) = true := by
  intro r
  induction r with
  | zero => exact fun _ => Or.inl rfl
  | succ r ih =>
    intro i
    unfold fSet
    by_cases h : lay i = layer ∧ fHold X Y nc x y (ch i) = true
    · rw [if_pos h]
      exact Or.inr ⟨i, by omega, by omega, rfl, h⟩
    · rw [if_neg h]
      rcases ih (i + 1) with h1 | ⟨k, hk, hk2, h2⟩
      · exact Or.inl h1
      · exact Or.inr ⟨k, by omega, by omega, h2⟩
/-- the stack: the places by layers -/
def fPile (sett : Nat → Int32) (only : Nat → Int32) : Nat → Nat → List Int32
  | 0, _ => []
  | r + 1, i => if sett i < 0 then fPile sett only r (i + 1) else if only (xix (sett i)) = 0 then sett i :: fPile sett only r (i + 1) else [sett i]
theorem fPile_len (sett only : Nat → Int32) : ∀ r i, (fPile sett only r i).length ≤ r := by
  intro r
  induction r with
  | zero => exact fun _ => Nat.le_refl _
  | succ r ih =>
    intro i
    unfold fPile
    have := ih (i + 1)
    split
    · omega
    · split
      · simp only [List.length_cons]
        omega
      · simp
/-- the stack L laid into the ground at g -/
def xpile (u : xMem) (g : Nat) (L : List Int32) : xMem := xsI (xfill u (g + 10) L.length (fun j => L.getD j 0)) g 8 (nI L.length)
theorem xpile_snoc {u : xMem} {g : Nat} {A : List Int32} {p : Int32} : xsI (xsI (xpile u g A) (g + 10) A.length p) g 8 (nI (A.length + 1)) = xpile u g (A ++ [p]) := by
  unfold xpile xsI xfill xu2
  refine Prod.ext rfl (Prod.ext ?_ ?_)
  · funext b j
    simp only [List.length_append, List.length_cons, List.length_nil, Nat.zero_add]
    by_cases hb : b = g
    · subst hb
      by_cases hj : j = 8 <;> simp [hj]
    · simp only [hb, false_and, if_false]
      by_cases hb2 : b = g + 10
      · subst hb2
        by_cases hj : j = A.length
        · subst hj
          simp
        · by_cases hl : j < A.length
          · have h2 : j < A.length + 1 := by omega
            simp [hj, hl, h2, List.getElem?_append_left hl]
          · have h2 : ¬ j < A.length + 1 := by omega
            simp [hj, hl, h2]
      · simp [hb2]
  · simp
theorem xIf_pile {u : xMem} {g b : Nat} {L : List Int32} (h : b ≠ g) (h2 : b ≠ g + 10) : xI (xpile u g L) b = xI u b := by
  unfold xpile
  rw [xIf_sI h, xIf_fill h2]
theorem xI_pile8 {u : xMem} {g : Nat} {L : List Int32} : xI (xpile u g L) g 8 = nI L.length := by
  unfold xpile
  rw [xI_sI, if_pos ⟨rfl, rfl⟩]
theorem xI_pileg {u : xMem} {g j : Nat} {L : List Int32} (h : j ≠ 8) : xI (xpile u g L) g j = xI u g j := by
  unfold xpile
  rw [xI_sI, if_neg (fun q => h q.2), xI_fill, if_neg (fun q => by have := q.1; omega)]
theorem xI_pileA {u : xMem} {g j : Nat} {L : List Int32} (h : j < L.length) : xI (xpile u g L) (g + 10) j = L.getD j 0 := by
  unfold xpile
  rw [xI_sI, if_neg (fun q => by have := q.1; omega), xI_fill, if_pos ⟨rfl, h⟩]
section
variable {u : xMem} {P : Option Value → xMem → Prop} {g n np nl : Nat} {p d x y layer : Int32}
theorem look_loop (hG : sGr u g) (hn : xI u (g + 3) 0 = nI n) (h : n ≤ 16) (hp : xI u g 2 = nI np) (hp10 : np ≤ 10) : ∀ r i, i + r = np →
    zr 45 2 [.ref g, .int d, .int (nI i)] [] (xfill u (g + 9) i (fun p => fLat (xI u (g + 4)) (xI u (g + 5)) (nI p) d n)) P = P none (xfill u (g + 9) np (fun p => fLat (xI u (g + 4)) (xI u (g + 5)) (nI p) d n)) := by
  have hB := hG.2.2.2.2.1
  have hl : ∀ i p (P : Option Value → xMem → Prop), zr 19 0 [.ref (g + 3), .int p, .int d, .null] [] (xfill u (g + 9) i (fun p => fLat (xI u (g + 4)) (xI u (g + 5)) (nI p) d n)) P = P (some (.int (fLat (xI u (g + 4)) (xI u (g + 5)) p d n))) (xfill u (g + 9) i (fun p => fLat (xI u (g + 4)) (xI u (g + 5)) (nI p) d n)) := by
    intro i p P
    rw [latest_run (u := xfill u (g + 9) i (fun p => fLat (xI u (g + 4)) (xI u (g + 5)) (nI p) d n)) hB (by rw [xIf_fill (by omega)]; exact hn) h, xIf_fill (by omega), xIf_fill (by omega)]
  have t1 : ∀ {n f a c}, xIs (xfill u (g + 9) n f) a c = xIs u a c := rfl
  have t2 : ∀ {n f a k}, xR (xfill u (g + 9) n f) a k = xR u a k := rfl
  have t3 : ∀ {n f a}, xN (xfill u (g + 9) n f) a = xN u a := rfl
  obtain ⟨h0, ⟨e3, e4, e5, e6, e7⟩, -, -, hB2, ⟨i6, n6⟩, -⟩ := hG
  have hB0 := hB2.1
  intro r
  induction r with
  | zero =>
    intro i hi
    have : i = np := by omega
    subst this
    rw [r45_2]
    simp only [r45_0, r45_1, r45_3, r45_4, r45_7, r45_10, r45_11, r45_14, r45_15, r45_16, r45_19, r45_20, r45_21, r45_24, r45_25, r45_28, r45_31, h0, t1, xIf_fill (show g ≠ g + 9 by omega), hp, true_and, and_true, Option.some.injEq, exists_eq_left', Option.toList_some, Option.toList_none, List.cons_append, List.nil_append, xcat_nil, xcat_int, xcat_ref, xcat_long, not_true, not_false_iff, if_true, if_false, and_self, and_false, false_and, or_true, true_or, or_self, z01, z10, zle8, Nat.reduceAdd, Nat.reduceLeDiff]
    rw [if_pos (nI_le (Nat.le_refl _) (by omega))]
  | succ r ih =>
    intro i hi
    have q0 : ¬ nI np ≤ nI i := nI_ge (by omega) (by omega)
    have q1 : xinb (nI i) 10 := xinb_nI (by omega) (by omega)
    have q2 : xix (nI i) = i := xix_nI (by omega)
    have ih := ih (i + 1) (by omega)
    rw [r45_2]
    simp only [r45_0, r45_1, r45_3, r45_4, r45_7, r45_10, r45_11, r45_14, r45_15, r45_16, r45_19, r45_20, r45_21, r45_24, r45_25, r45_28, r45_31, h0, hB0, hl, t1, t2, t3, e5, e6, i6, n6, xIf_fill (show g ≠ g + 9 by omega), hp, q0, q1, q2, nI_1, true_and, and_true, Option.some.injEq, exists_eq_left', Option.toList_some, Option.toList_none, List.cons_append, List.nil_append, xcat_nil, xcat_int, xcat_ref, xcat_long, not_true, not_false_iff, if_true, if_false, and_self, and_false, false_and, or_true, true_or, or_self, z01, z10, zle8, Nat.reduceAdd, Nat.reduceLeDiff]
    rw [xfill_s (f := fun p => fLat (xI u (g + 4)) (xI u (g + 5)) (nI p) d n)]
    exact ih
theorem look_run (hG : sGr u g) (hn : xI u (g + 3) 0 = nI n) (h : n ≤ 16) (hp : xI u g 2 = nI np) (hp10 : np ≤ 10) :
    zr 45 0 [.ref g, .int d, .null] [] u P = P none (xfill u (g + 9) np (fun p => fLat (xI u (g + 4)) (xI u (g + 5)) (nI p) d n)) := by
  have := look_loop (P := P) (d := d) hG hn h hp hp10 np 0 (by omega)
  rw [xfill_0] at this
  simp only [r45_0, r45_1]
  exact this
/-- what 'chosen' must be for 'holds' -/
def okCh (ch nc : Nat → Int32) (np : Nat) : Prop := ∀ i, i < np → 0 ≤ ch i → ∃ k c, k < 16 ∧ ch i = nI k ∧ nc k = nI c ∧ c ≤ 6
theorem firstWith_loop (hG : sGr u g) (hp : xI u g 2 = nI np) (hp10 : np ≤ 10) (hch : okCh (xI u (g + 9)) (xI u (g + 6)) np) : ∀ r i, i + r = np →
    zr 46 3 [.ref g, .int layer, .int x, .int y, .int (nI i)] [] u P = P (some (.int (fSet (xI u (g + 1)) (xI u (g + 9)) (xI u (g + 7)) (xI u (g + 8)) (xI u (g + 6)) layer x y r i))) u := by
  have hh := fun bd hbd P => holds_run (x := x) (y := y) (bd := bd) (P := P) hG.2.2.2.2.1 hbd
  obtain ⟨h0, ⟨e3, e4, e5, e6, e7⟩, ⟨i3, n3⟩, -, hB2, ⟨i6, n6⟩, -⟩ := hG
  have hB0 := hB2.1
  intro r
  induction r with
  | zero =>
    intro i hi
    have : i = np := by omega
    subst this
    rw [r46_3]
    simp only [r46_0, r46_1, r46_5, r46_6, r46_9, r46_12, r46_13, r46_16, r46_18, r46_19, r46_20, r46_23, r46_24, r46_27, r46_28, r46_31, r46_33, r46_34, r46_35, r46_36, r46_39, r46_42, r46_44, r46_45, r46_48, r46_51, r46_53, h0, hp, fSet, true_and, and_true, Option.some.injEq, exists_eq_left', Option.toList_some, Option.toList_none, List.cons_append, List.nil_append, xcat_nil, xcat_int, xcat_ref, xcat_long, not_true, not_false_iff, if_true, if_false, and_self, and_false, false_and, or_true, true_or, or_self, z01, z10, zle8, Nat.reduceAdd, Nat.reduceLeDiff]
    rw [if_pos (nI_le (Nat.le_refl _) (by omega))]
  | succ r ih =>
    intro i hi
    have q0 : ¬ nI np ≤ nI i := nI_ge (by omega) (by omega)
    have q1 : xinb (nI i) 10 := xinb_nI (by omega) (by omega)
    have q2 : xix (nI i) = i := xix_nI (by omega)
    have ih := ih (i + 1) (by omega)
    have hh := hh (xI u (g + 9) i) (hch i (by omega))
    rw [r46_3]
    simp only [r46_0, r46_1, r46_5, r46_6, r46_9, r46_12, r46_13, r46_16, r46_18, r46_19, r46_20, r46_23, r46_24, r46_27, r46_28, r46_31, r46_33, r46_34, r46_35, r46_36, r46_39, r46_42, r46_44, r46_45, r46_48, r46_51, r46_53, h0, hB0, hh, e3, e5, e6, i3, i6, n3, n6, hp, q0, q1, q2, nI_1, ih, fSet, bI_0, true_and, and_true, Option.some.injEq, exists_eq_left', Option.toList_some, Option.toList_none, List.cons_append, List.nil_append, xcat_nil, xcat_int, xcat_ref, xcat_long, not_true, not_false_iff, if_true, if_false, and_self, and_false, false_and, or_true, true_or, or_self, z01, z10, zle8, Nat.reduceAdd, Nat.reduceLeDiff]
    by_cases c1 : xI u (g + 1) i = layer
    · cases hf : fHold (xI u (g + 7)) (xI u (g + 8)) (xI u (g + 6)) x y (xI u (g + 9) i)
      · have hf' : fHold (xI u (g + 3 + 4)) (xI u (g + 3 + 5)) (xI u (g + 3 + 3)) x y (xI u (g + 9) i) = false := hf
        simp only [c1, hf', Bool.false_eq_true, true_and, and_true, Option.some.injEq, exists_eq_left', Option.toList_some, Option.toList_none, List.cons_append, List.nil_append, xcat_nil, xcat_int, xcat_ref, xcat_long, not_true, not_false_iff, if_true, if_false, and_self, and_false, false_and, or_true, true_or, or_self, z01, z10, zle8, Nat.reduceAdd, Nat.reduceLeDiff]
      · have hf' : fHold (xI u (g + 3 + 4)) (xI u (g + 3 + 5)) (xI u (g + 3 + 3)) x y (xI u (g + 9) i) = true := hf
        simp only [c1, hf', Bool.true_eq_false, true_and, and_true, Option.some.injEq, exists_eq_left', Option.toList_some, Option.toList_none, List.cons_append, List.nil_append, xcat_nil, xcat_int, xcat_ref, xcat_long, not_true, not_false_iff, if_true, if_false, and_self, and_false, false_and, or_true, true_or, or_self, z01, z10, zle8, Nat.reduceAdd, Nat.reduceLeDiff]
    · simp only [c1, true_and, and_true, Option.some.injEq, exists_eq_left', Option.toList_some, Option.toList_none, List.cons_append, List.nil_append, xcat_nil, xcat_int, xcat_ref, xcat_long, not_true, not_false_iff, if_true, if_false, and_self, and_false, false_and, or_true, true_or, or_self, z01, z10, zle8, Nat.reduceAdd, Nat.reduceLeDiff]
theorem firstWith_run (hG : sGr u g) (hp : xI u g 2 = nI np) (hp10 : np ≤ 10) (hch : okCh (xI u (g + 9)) (xI u (g + 6)) np) :
    zr 46 0 [.ref g, .int layer, .int x, .int y, .null] [] u P = P (some (.int (fSet (xI u (g + 1)) (xI u (g + 9)) (xI u (g + 7)) (xI u (g + 8)) (xI u (g + 6)) layer x y np 0))) u := by
  simp only [r46_0, r46_1]
  exact firstWith_loop hG hp hp10 hch np 0 (by omega)
theorem pile_loop (hG : sGr u g) (hp : xI u g 2 = nI np) (hp10 : np ≤ 10) (hl : xI u g 1 = nI nl) (hl4 : nl ≤ 4) (hch : okCh (xI u (g + 9)) (xI u (g + 6)) np) : ∀ r i (A : List Int32) (v : Value), i + r = nl → A.length ≤ i →
    zr 47 7 [.ref g, .int x, .int y, .int (nI i), v] [] (xpile u g A) P = P none (xpile u g (A ++ fPile (fun l => fSet (xI u (g + 1)) (xI u (g + 9)) (xI u (g + 7)) (xI u (g + 8)) (xI u (g + 6)) (nI l) x y np 0) (xI u (g + 2)) r i)) := by
  have hF : ∀ (A : List Int32) (layer : Int32) (P : Option Value → xMem → Prop), zr 46 0 [.ref g, .int layer, .int x, .int y, .null] [] (xpile u g A) P = P (some (.int (fSet (xI u (g + 1)) (xI u (g + 9)) (xI u (g + 7)) (xI u (g + 8)) (xI u (g + 6)) layer x y np 0))) (xpile u g A) := by
    intro A layer P
    rw [firstWith_run (u := xpile u g A) hG (by rw [xI_pileg (by omega)]; exact hp) hp10 (by rw [xIf_pile (by omega) (by omega), xIf_pile (by omega) (by omega)]; exact hch), xIf_pile (by omega) (by omega), xIf_pile (by omega) (by omega), xIf_pile (by omega) (by omega), xIf_pile (by omega) (by omega), xIf_pile (by omega) (by omega)]
  have t1 : ∀ {L a c}, xIs (xpile u g L) a c = xIs u a c := rfl
  have t2 : ∀ {L a k}, xR (xpile u g L) a k = xR u a k := rfl
  have t3 : ∀ {L a}, xN (xpile u g L) a = xN u a := rfl
  obtain ⟨h0, ⟨e3, e4, e5, e6, e7⟩, -, ⟨i4, n4⟩, -, -, ⟨i7, n7⟩⟩ := hG
  intro r
  induction r with
  | zero =>
    intro i A v hi hA
    have : i = nl := by omega
    subst this
    rw [r47_7]
    simp only [r47_0, r47_1, r47_2, r47_5, r47_6, r47_8, r47_9, r47_12, r47_15, r47_16, r47_17, r47_18, r47_19, r47_22, r47_24, r47_26, r47_29, r47_30, r47_33, r47_34, r47_37, r47_39, r47_40, r47_41, r47_42, r47_45, r47_46, r47_47, r47_50, r47_51, r47_54, r47_56, r47_57, r47_60, r47_61, r47_64, r47_67, h0, t1, xI_pileg (show 1 ≠ 8 by omega), hl, fPile, List.append_nil, true_and, and_true, Option.some.injEq, exists_eq_left', Option.toList_some, Option.toList_none, List.cons_append, List.nil_append, xcat_nil, xcat_int, xcat_ref, xcat_long, not_true, not_false_iff, if_true, if_false, and_self, and_false, false_and, or_true, true_or, or_self, z01, z10, zle8, Nat.reduceAdd, Nat.reduceLeDiff]
    rw [if_pos (nI_le (Nat.le_refl _) (by omega))]
  | succ r ih =>
    intro i A v hi hA
    have q0 : ¬ nI nl ≤ nI i := nI_ge (by omega) (by omega)
    have a1 : xinb (nI A.length) 4 := xinb_nI (by omega) (by omega)
    have a2 : xix (nI A.length) = A.length := xix_nI (by omega)
    rw [r47_7]
    rcases fSet_cases (xI u (g + 1)) (xI u (g + 9)) (xI u (g + 7)) (xI u (g + 8)) (xI u (g + 6)) (nI i) x y np 0 with hs | ⟨k, -, hk, hs, -⟩
    · have c0 : (-2 : Int32) < 0 := by decide
      have ih := ih (i + 1) A (.int (-2)) (by omega) (by omega)
      simp only [r47_0, r47_1, r47_2, r47_5, r47_6, r47_8, r47_9, r47_12, r47_15, r47_16, r47_17, r47_18, r47_19, r47_22, r47_24, r47_26, r47_29, r47_30, r47_33, r47_34, r47_37, r47_39, r47_40, r47_41, r47_42, r47_45, r47_46, r47_47, r47_50, r47_51, r47_54, r47_56, r47_57, r47_60, r47_61, r47_64, r47_67, h0, t1, t2, t3, hF, hs, c0, xI_pileg (show 1 ≠ 8 by omega), hl, q0, nI_1, ih, fPile, true_and, and_true, Option.some.injEq, exists_eq_left', Option.toList_some, Option.toList_none, List.cons_append, List.nil_append, xcat_nil, xcat_int, xcat_ref, xcat_long, not_true, not_false_iff, if_true, if_false, and_self, and_false, false_and, or_true, true_or, or_self, z01, z10, zle8, Nat.reduceAdd, Nat.reduceLeDiff]
    · have c0 : ¬ nI k < 0 := nI_pos (by omega)
      have k1 : xinb (nI k) 10 := xinb_nI (by omega) (by omega)
      have k2 : xix (nI k) = k := xix_nI (by omega)
      have ih := ih (i + 1) (A ++ [nI k]) (.int (nI k)) (by omega) (by simp; omega)
      simp only [r47_0, r47_1, r47_2, r47_5, r47_6, r47_8, r47_9, r47_12, r47_15, r47_16, r47_17, r47_18, r47_19, r47_22, r47_24, r47_26, r47_29, r47_30, r47_33, r47_34, r47_37, r47_39, r47_40, r47_41, r47_42, r47_45, r47_46, r47_47, r47_50, r47_51, r47_54, r47_56, r47_57, r47_60, r47_61, r47_64, r47_67, h0, t1, t2, t3, xIs_sI, xR_sI, xN_sI, hF, hs, c0, xI_pileg (show 1 ≠ 8 by omega), xI_pile8, hl, q0, nI_1, e4, e7, i4, i7, n4, n7, a1, a2, k1, k2, fPile, true_and, and_true, Option.some.injEq, exists_eq_left', Option.toList_some, Option.toList_none, List.cons_append, List.nil_append, xcat_nil, xcat_int, xcat_ref, xcat_long, not_true, not_false_iff, if_true, if_false, and_self, and_false, false_and, or_true, true_or, or_self, z01, z10, zle8, Nat.reduceAdd, Nat.reduceLeDiff]
      have hh : xI (xsI (xpile u g A) (g + 10) A.length (nI k)) g 8 = nI A.length := by rw [xI_sI, if_neg (show ¬ (g = g + 10 ∧ 8 = A.length) by omega), xI_pile8]
      rw [hh, nI_1, xpile_snoc, xIf_pile (by omega) (by omega)]
      by_cases c1 : xI u (g + 2) k = 0
      · simp only [c1, ih, List.append_assoc, List.cons_append, List.nil_append, true_and, and_true, Option.some.injEq, exists_eq_left', Option.toList_some, Option.toList_none, List.cons_append, List.nil_append, xcat_nil, xcat_int, xcat_ref, xcat_long, not_true, not_false_iff, if_true, if_false, and_self, and_false, false_and, or_true, true_or, or_self, z01, z10, zle8, Nat.reduceAdd, Nat.reduceLeDiff]
      · simp only [c1, true_and, and_true, Option.some.injEq, exists_eq_left', Option.toList_some, Option.toList_none, List.cons_append, List.nil_append, xcat_nil, xcat_int, xcat_ref, xcat_long, not_true, not_false_iff, if_true, if_false, and_self, and_false, false_and, or_true, true_or, or_self, z01, z10, zle8, Nat.reduceAdd, Nat.reduceLeDiff]
theorem pile_run (hG : sGr u g) (hp : xI u g 2 = nI np) (hp10 : np ≤ 10) (hl : xI u g 1 = nI nl) (hl4 : nl ≤ 4) (hch : okCh (xI u (g + 9)) (xI u (g + 6)) np) :
    zr 47 0 [.ref g, .int x, .int y, .null, .null] [] u P = P none (xpile u g (fPile (fun l => fSet (xI u (g + 1)) (xI u (g + 9)) (xI u (g + 7)) (xI u (g + 8)) (xI u (g + 6)) (nI l) x y np 0) (xI u (g + 2)) nl 0)) := by
  have hq := pile_loop (P := P) (x := x) (y := y) hG hp hp10 hl hl4 hch nl 0 [] .null (by omega) (by simp)
  have e : xpile u g [] = xsI u g 8 0 := by
    unfold xpile
    rw [show ([] : List Int32).length = 0 from rfl, xfill_0]
    rfl
  rw [e, List.nil_append] at hq
  simp only [r47_0, r47_1, r47_2, r47_5, r47_6, hG.1, true_and, and_true, Option.some.injEq, exists_eq_left', Option.toList_some, Option.toList_none, List.cons_append, List.nil_append, xcat_nil, xcat_int, xcat_ref, xcat_long, not_true, not_false_iff, if_true, if_false, and_self, and_false, false_and, or_true, true_or, or_self, z01, z10, zle8, Nat.reduceAdd, Nat.reduceLeDiff]
  exact hq
end
