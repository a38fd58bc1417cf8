/-! THE MODEL: points in bounds, settled, stacks -/
def mOdd (E : Nat → Nat → Bool) (f c : Nat) : Nat → Bool
  | 0 => false
  | k + 1 => xor (mOdd E f c k) (E (f + k) (f + (k + 1) % c))
def sOdd (E : Nat → Nat → Bool) (f : Nat) : Nat → Bool
  | 0 => false
  | k + 1 => xor (sOdd E f k) (E (f + k) (f + k + 1))
theorem mOdd_s {E : Nat → Nat → Bool} {f c : Nat} : ∀ k, k < c → mOdd E f c k = sOdd E f k := by
  intro k
  induction k with
  | zero => intro _; rfl
  | succ k ih =>
    intro h
    unfold mOdd sOdd
    rw [ih (by omega), Nat.mod_eq_of_lt h]
    rfl
theorem fOdd_s {X Y : Nat → Int32} {x y : Int32} {f c : Nat} : ∀ t, t < c → fOdd X Y x y f c (t + 1) = xor (fCr X Y x y (f + c - 1) f) (sOdd (fCr X Y x y) f t) := by
  intro t
  induction t with
  | zero =>
    intro _
    simp [fOdd, fromI, sOdd]
  | succ t ih =>
    intro h
    rw [show fOdd X Y x y f c (t + 1 + 1) = xor (fOdd X Y x y f c (t + 1)) (fCr X Y x y (fromI f c (t + 1)) (f + (t + 1))) from rfl, ih (by omega)]
    have e : fromI f c (t + 1) = f + t := by simp [fromI]
    rw [e, Bool.xor_assoc]
    rfl
theorem odd_turn {X Y : Nat → Int32} {x y : Int32} {f : Nat} : ∀ c, mOdd (fCr X Y x y) f c c = fOdd X Y x y f c c := by
  intro c
  cases c with
  | zero => rfl
  | succ c =>
    rw [fOdd_s c (by omega)]
    unfold mOdd
    rw [mOdd_s c (by omega), Nat.mod_self, Bool.xor_comm]
    rfl
section
variable {u g : xMem} {P : Option Value → xMem → Prop} {D s nl np nb nc nr nh nk : Nat} {p d x y c layer : Int32}
theorem isIn_run (hM : sMd u) (h : okD g D s nl np nb nc nr nh nk) (hc : cpD (xI u 279) g D np nb nc nr nh nk) (hX : okXY g D nb) {px py : Nat} (hx : px ≤ 40) (hy : py ≤ 40) :
    zr 230 0 [.ref 278, .int p, .int d, .int (nI px), .int (nI py), .null, .null, .null, .null] [] u P = P (some (.int (bI (fHold (xI g (D + 8)) (xI g (D + 9)) (xI g (D + 7)) (nI px) (nI py) (fLat (xI g (D + 5)) (xI g (D + 6)) p d nb))))) u := by
  have hB := fun P => boundOn_run (p := p) (d := d) (P := P) hM h hc
  have hN := fun P => manyOn_run (p := p) (d := d) (P := P) hM h hc
  have hb := h.2.2.2.2.1
  rcases fLat_cases (xI g (D + 5)) (xI g (D + 6)) p d nb with q | ⟨k, hk, q, -⟩
  · have e : fCo (xI g (D + 5)) (xI g (D + 6)) (xI g (D + 7)) p d nb = 0 := by unfold fCo; rw [q, if_neg (by decide)]
    simp only [r230_0, r230_1, r230_2, r230_3, r230_6, r230_8, r230_9, r230_10, r230_11, r230_14, r230_16, r230_17, r230_19, r230_20, hM.1, hB, hN, q, e, fHold, show ¬ (0 : Int32) ≤ -1 by decide, bI_f, true_and, and_true, Option.some.injEq, exists_eq_left', Option.toList_some, Option.toList_none, List.cons_append, List.nil_append, xcat_nil, xcat_int, xcat_ref, xcat_long, not_true, not_false_iff, if_true, if_false, and_self, and_false, false_and, or_true, true_or, or_self, z01, z10, zle8, Nat.reduceAdd, Nat.reduceLeDiff]
    rw [r230_22]
    simp only [r230_24, r230_26, r230_68, r230_70, if_pos (show (0 : Int32) ≤ 0 by decide), true_and, and_true, Option.some.injEq, exists_eq_left', Option.toList_some, Option.toList_none, List.cons_append, List.nil_append, xcat_nil, xcat_int, xcat_ref, xcat_long, not_true, not_false_iff, if_true, if_false, and_self, and_false, false_and, or_true, true_or, or_self, z01, z10, zle8, Nat.reduceAdd, Nat.reduceLeDiff]
  · obtain ⟨c, hc6, ec⟩ := h.2.2.2.2.2.2.2.2.2.2 k hk
    have q6 : xix (nI k) = k := xix_nI (by omega)
    have k3 : xix (nI c) = c := xix_nI (by omega)
    have e : fCo (xI g (D + 5)) (xI g (D + 6)) (xI g (D + 7)) p d nb = nI c := by unfold fCo; rw [q, if_pos (nI_pos' (by omega)), q6, ec]
    have e2 : fHold (xI g (D + 8)) (xI g (D + 9)) (xI g (D + 7)) (nI px) (nI py) (nI k) = mOdd (fCr (xI g (D + 8)) (xI g (D + 9)) (nI px) (nI py)) (6 * k) c c := by
      unfold fHold
      rw [if_pos (nI_pos' (by omega)), q6, ec, k3, odd_turn]
    have lp : ∀ r i, i + r = c → zr 230 22 [.ref 278, .int p, .int d, .int (nI px), .int (nI py), .int (nI k), .int (nI c), .int (bI (mOdd (fCr (xI g (D + 8)) (xI g (D + 9)) (nI px) (nI py)) (6 * k) c i)), .int (nI i)] [] u P = P (some (.int (bI (mOdd (fCr (xI g (D + 8)) (xI g (D + 9)) (nI px) (nI py)) (6 * k) c c)))) u := by
      intro r
      induction r with
      | zero =>
        intro i hi
        have : i = c := by omega
        subst this
        rw [r230_22]
        simp only [r230_24, r230_26, r230_68, r230_70, bI_01, true_and, and_true, Option.some.injEq, exists_eq_left', Option.toList_some, Option.toList_none, List.cons_append, List.nil_append, xcat_nil, xcat_int, xcat_ref, xcat_long, not_true, not_false_iff, if_true, if_false, and_self, and_false, false_and, or_true, true_or, or_self, z01, z10, zle8, Nat.reduceAdd, Nat.reduceLeDiff]
        rw [if_pos (nI_le (Nat.le_refl _) (by omega))]
      | succ r ih =>
        intro i hi
        have q0 : ¬ nI c ≤ nI i := nI_ge (by omega) (by omega)
        have q1 : ¬ nI c = 0 := nI_ne0 (by omega) (by omega)
        have qr : nI (i + 1) - nI (i + 1) / nI c * nI c = nI ((i + 1) % c) := pk_rem (by omega) (by omega) (by omega)
        have hmod : (i + 1) % c < c := Nat.mod_lt _ (by omega)
        have hE := fun P => isEastM_run (P := P) hM hc hX (b := k) (i := i) (j := (i + 1) % c) hk (by omega) (by rw [ec, k3]; omega) (by rw [ec, k3]; exact hmod) (by omega) (by omega) hx hy
        have ih := ih (i + 1) (by omega)
        simp only [mOdd] at ih
        rw [r230_22]
        simp only [r230_24, r230_26, r230_29, r230_30, r230_32, r230_34, r230_36, r230_37, r230_38, r230_40, r230_41, r230_42, r230_44, r230_47, r230_50, r230_52, r230_55, r230_56, r230_59, r230_60, r230_62, r230_65, hM.1, hE, q0, q1, qr, nI_1, bI_0, true_and, and_true, Option.some.injEq, exists_eq_left', Option.toList_some, Option.toList_none, List.cons_append, List.nil_append, xcat_nil, xcat_int, xcat_ref, xcat_long, not_true, not_false_iff, if_true, if_false, and_self, and_false, false_and, or_true, true_or, or_self, z01, z10, zle8, Nat.reduceAdd, Nat.reduceLeDiff]
        generalize mOdd (fCr (xI g (D + 8)) (xI g (D + 9)) (nI px) (nI py)) (6 * k) c i = o at ih ⊢
        generalize fCr (xI g (D + 8)) (xI g (D + 9)) (nI px) (nI py) (6 * k + i) (6 * k + (i + 1) % c) = ee at ih ⊢
        cases o <;> cases ee <;> simp only [Bool.xor_false, Bool.xor_true, Bool.false_xor, Bool.not_true, Bool.not_false, Bool.true_eq_false, Bool.false_eq_true, bI_t, bI_f, true_and, and_true, Option.some.injEq, exists_eq_left', Option.toList_some, Option.toList_none, List.cons_append, List.nil_append, xcat_nil, xcat_int, xcat_ref, xcat_long, not_true, not_false_iff, if_true, if_false, and_self, and_false, false_and, or_true, true_or, or_self, z01, z10, zle8, Nat.reduceAdd, Nat.reduceLeDiff] at ih ⊢ <;> exact ih
    simp only [r230_0, r230_1, r230_2, r230_3, r230_6, r230_8, r230_9, r230_10, r230_11, r230_14, r230_16, r230_17, r230_19, r230_20, hM.1, hB, hN, q, e, e2, true_and, and_true, Option.some.injEq, exists_eq_left', Option.toList_some, Option.toList_none, List.cons_append, List.nil_append, xcat_nil, xcat_int, xcat_ref, xcat_long, not_true, not_false_iff, if_true, if_false, and_self, and_false, false_and, or_true, true_or, or_self, z01, z10, zle8, Nat.reduceAdd, Nat.reduceLeDiff]
    exact lp c 0 (by omega)
theorem settledIn_run (hM : sMd u) (h : okD g D s nl np nb nc nr nh nk) (hc : cpD (xI u 279) g D np nb nc nr nh nk) (hX : okXY g D nb) {px py : Nat} (hx : px ≤ 40) (hy : py ≤ 40) :
    zr 235 0 [.ref 278, .int layer, .int d, .int (nI px), .int (nI py), .null] [] u P = P (some (.int (fSet (xI g (D + 2)) (dCh g D nb d) (xI g (D + 8)) (xI g (D + 9)) (xI g (D + 7)) layer (nI px) (nI py) np 0))) u := by
  have hI := fun p P => isIn_run (p := p) (d := d) (P := P) hM h hc hX hx hy
  have hp := h.2.2.2.1
  have h3 : xI u 279 3 = nI np := hc.1.2.2.2.1.trans hp.1
  obtain ⟨h0, ⟨r3, -⟩, ⟨j0, k0⟩, -⟩ := hM
  have a1 : xinb 3 402 := xinb_nI (k := 3) (by omega) (by omega)
  have a2 : xix 3 = 3 := xix_nI (k := 3) (by omega)
  have lp : ∀ r i, i + r = np → zr 235 3 [.ref 278, .int layer, .int d, .int (nI px), .int (nI py), .int (nI i)] [] u P = P (some (.int (fSet (xI g (D + 2)) (dCh g D nb d) (xI g (D + 8)) (xI g (D + 9)) (xI g (D + 7)) layer (nI px) (nI py) r i))) u := by
    intro r
    induction r with
    | zero =>
      intro i hi
      have : i = np := by omega
      subst this
      rw [r235_3]
      simp only [r235_0, r235_1, r235_5, r235_6, r235_9, r235_10, r235_11, r235_14, r235_15, r235_18, r235_20, r235_22, r235_23, r235_24, r235_25, r235_28, r235_29, r235_31, r235_32, r235_33, r235_35, r235_38, r235_41, r235_43, r235_44, r235_47, r235_50, r235_52, h0, r3, j0, k0, a1, a2, h3, fSet, true_and, and_true, Option.some.injEq, exists_eq_left', Option.toList_some, Option.toList_none, List.cons_append, List.nil_append, xcat_nil, xcat_int, xcat_ref, xcat_long, not_true, not_false_iff, if_true, if_false, and_self, and_false, false_and, or_true, true_or, or_self, z01, z10, zle8, Nat.reduceAdd, Nat.reduceLeDiff]
      rw [if_pos (nI_le (Nat.le_refl _) (by omega))]
    | succ r ih =>
      intro i hi
      have q0 : ¬ nI np ≤ nI i := nI_ge (by omega) (by omega)
      have q1 : xinb (nI (14 + i)) 402 := xinb_nI (by omega) (by omega)
      have q2 : xix (nI (14 + i)) = 14 + i := xix_nI (by omega)
      have q3 : 14 + nI i = nI (14 + i) := by rw [show (14 : Int32) = nI 14 from rfl, nI_add]
      obtain ⟨c1, -⟩ := hc.2.2.1 i (by omega)
      have ih := ih (i + 1) (by omega)
      rw [r235_3]
      simp only [r235_0, r235_1, r235_5, r235_6, r235_9, r235_10, r235_11, r235_14, r235_15, r235_18, r235_20, r235_22, r235_23, r235_24, r235_25, r235_28, r235_29, r235_31, r235_32, r235_33, r235_35, r235_38, r235_41, r235_43, r235_44, r235_47, r235_50, r235_52, h0, r3, j0, k0, a1, a2, h3, hI, q0, q1, q2, q3, c1, nI_1, ih, fSet, bI_0, true_and, and_true, Option.some.injEq, exists_eq_left', Option.toList_some, Option.toList_none, List.cons_append, List.nil_append, xcat_nil, xcat_int, xcat_ref, xcat_long, not_true, not_false_iff, if_true, if_false, and_self, and_false, false_and, or_true, true_or, or_self, z01, z10, zle8, Nat.reduceAdd, Nat.reduceLeDiff]
      by_cases g1 : xI g (D + 2) i = layer
      · cases hf : fHold (xI g (D + 8)) (xI g (D + 9)) (xI g (D + 7)) (nI px) (nI py) (fLat (xI g (D + 5)) (xI g (D + 6)) (nI i) d nb)
        · have hf' : fHold (xI g (D + 8)) (xI g (D + 9)) (xI g (D + 7)) (nI px) (nI py) (dCh g D nb d i) = false := hf
          simp only [g1, hf', Bool.false_eq_true, true_and, and_true, Option.some.injEq, exists_eq_left', Option.toList_some, Option.toList_none, List.cons_append, List.nil_append, xcat_nil, xcat_int, xcat_ref, xcat_long, not_true, not_false_iff, if_true, if_false, and_self, and_false, false_and, or_true, true_or, or_self, z01, z10, zle8, Nat.reduceAdd, Nat.reduceLeDiff]
        · have hf' : fHold (xI g (D + 8)) (xI g (D + 9)) (xI g (D + 7)) (nI px) (nI py) (dCh g D nb d i) = true := hf
          simp only [g1, hf', Bool.true_eq_false, true_and, and_true, Option.some.injEq, exists_eq_left', Option.toList_some, Option.toList_none, List.cons_append, List.nil_append, xcat_nil, xcat_int, xcat_ref, xcat_long, not_true, not_false_iff, if_true, if_false, and_self, and_false, false_and, or_true, true_or, or_self, z01, z10, zle8, Nat.reduceAdd, Nat.reduceLeDiff]
      · simp only [g1, true_and, and_true, Option.some.injEq, exists_eq_left', Option.toList_some, Option.toList_none, List.cons_append, List.nil_append, xcat_nil, xcat_int, xcat_ref, xcat_long, not_true, not_false_iff, if_true, if_false, and_self, and_false, false_and, or_true, true_or, or_self, z01, z10, zle8, Nat.reduceAdd, Nat.reduceLeDiff]
  simp only [r235_0, r235_1]
  exact lp np 0 (by omega)
end
