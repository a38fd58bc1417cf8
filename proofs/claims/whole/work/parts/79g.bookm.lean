/-! THE BOOK: sums over places, the model's loops -/
theorem sumN_add {f g : Nat → Int32} : ∀ n, sumN (fun k => f k + g k) n = sumN f n + sumN g n := by
  intro n
  induction n with
  | zero => rfl
  | succ n ih =>
    show sumN (fun k => f k + g k) n + (f n + g n) = (sumN f n + f n) + (sumN g n + g n)
    rw [ih]
    grind
theorem sumN_sub {f g : Nat → Int32} : ∀ n, sumN (fun k => f k - g k) n = sumN f n - sumN g n := by
  intro n
  induction n with
  | zero => show (0 : Int32) = 0 - 0; decide
  | succ n ih =>
    show sumN (fun k => f k - g k) n + (f n - g n) = (sumN f n + f n) - (sumN g n + g n)
    rw [ih]
    grind
theorem sumN_congr {f g : Nat → Int32} : ∀ n, (∀ i, i < n → f i = g i) → sumN f n = sumN g n := by
  intro n
  induction n with
  | zero => intro _; rfl
  | succ n ih =>
    intro h
    show sumN f n + f n = sumN g n + g n
    rw [ih (fun i hi => h i (by omega)), h n (by omega)]
theorem sumN_0 : ∀ n, sumN (fun _ => 0) n = 0 := by
  intro n
  induction n with
  | zero => rfl
  | succ n ih =>
    show sumN (fun _ => 0) n + 0 = 0
    rw [ih]
    rfl
theorem sumN_one {t : Int32} {q : Nat} : ∀ n, n ≤ 1000 → q < 1000 → sumN (fun k => if nI q = nI k then t else 0) n = if q < n then t else 0 := by
  intro n
  induction n with
  | zero => intro _ _; rfl
  | succ n ih =>
    intro hn hq
    show sumN (fun k => if nI q = nI k then t else 0) n + (if nI q = nI n then t else 0) = _
    rw [ih (by omega) hq]
    by_cases c : q = n
    · subst c
      rw [if_neg (by omega), if_pos rfl, if_pos (by omega)]
      grind
    · have : ¬ nI q = nI n := fun z => c ((nI_inj (by omega) (by omega)).mp z)
      rw [if_neg this]
      by_cases c2 : q < n
      · rw [if_pos c2, if_pos (by omega)]; grind
      · rw [if_neg c2, if_neg (by omega)]; grind
theorem sumIf_N {q : Nat → Bool} {f : Nat → Int32} : ∀ n, sumIf q f n = sumN (fun k => if q k = true then f k else 0) n := by
  intro n
  induction n with
  | zero => rfl
  | succ n ih =>
    show (if q n = true then sumIf q f n + f n else sumIf q f n) = sumN (fun k => if q k = true then f k else 0) n + (if q n = true then f n else 0)
    rw [ih]
    by_cases c : q n = true
    · rw [if_pos c, if_pos c]
    · rw [if_neg c, if_neg c, Int32.add_zero]
theorem sumIf_ext {q : Nat → Bool} {f : Nat → Int32} {m : Nat} : ∀ n, (∀ i, m ≤ i → i < m + n → f i = 0) → sumIf q f (m + n) = sumIf q f m := by
  intro n
  induction n with
  | zero => intro _; rfl
  | succ n ih =>
    intro h
    show (if q (m + n) = true then sumIf q f (m + n) + f (m + n) else sumIf q f (m + n)) = _
    rw [h (m + n) (by omega) (by omega), ih (fun i h1 h2 => h i h1 (by omega)), Int32.add_zero]
    split <;> rfl
/-- what all places get of a line -/
theorem fTx_sum {pl tax : Nat → Int32} {np : Nat} (hp : np ≤ 10) : ∀ n, (∀ i, i < n → ∃ q, q < np ∧ pl i = nI q) → fTx pl tax (-1) n = sumN (fun k => fTx pl tax (nI k) n) np := by
  intro n
  induction n with
  | zero => intro _; exact (sumN_0 np).symm
  | succ n ih =>
    intro h
    obtain ⟨q, hq, e⟩ := h n (by omega)
    have e1 : fTx pl tax (-1) (n + 1) = fTx pl tax (-1) n + tax n := by
      show (if (-1 : Int32) = -1 ∨ pl n = -1 then _ else _) = _
      rw [if_pos (Or.inl rfl)]
    have e2 : ∀ k, k < np → fTx pl tax (nI k) (n + 1) = fTx pl tax (nI k) n + (if nI q = nI k then tax n else 0) := fun k hk => by
      show (if nI k = -1 ∨ pl n = nI k then fTx pl tax (nI k) n + tax n else fTx pl tax (nI k) n) = _
      rw [e]
      have n1 : ¬ nI k = -1 := of_eq_false (n1F (by omega))
      by_cases c : nI q = nI k
      · rw [if_pos (Or.inr c), if_pos c]
      · rw [if_neg (fun z => z.elim n1 c), if_neg c, Int32.add_zero]
    rw [e1, sumN_congr np e2, sumN_add, sumN_one np (by omega) (by omega), if_pos hq, ih (fun i hi => h i (by omega))]
section
variable {u w g : xMem} {P : Option Value → xMem → Prop} {D E s nl np nb nc nr nh nk n nf na f : Nat} {p q d x y c e k a t i l what many layer till price units : Int32} {op : Bool}
theorem lTo_sum (h : okB g n nf nc np) (hp : np ≤ 10) {l : Nat} (hl : l < n) : lTo g (-1) l = sumN (fun k => lTo g (nI k) l) np := by
  unfold lTo
  exact fTx_sum hp (pn g l) (fun i hi => ((h.2.2.1 l hl).2.2.2.2.2 i hi).1)
theorem fPd_one {ff q : Nat} (hq : q < 10) : fPd g (nI q) ff = xI g 65 (10 * ff + q) := by
  unfold fPd
  have n1 : ¬ nI q = -1 := of_eq_false (n1F (by omega))
  rw [sumIf_N, sumN_congr (g := fun k => if nI q = nI k then xI g 65 (10 * ff + q) else 0) 10 (fun k hk => ?_), sumN_one 10 (by omega) (by omega), if_pos hq]
  by_cases c : nI q = nI k
  · rw [if_pos (by simp [c]), if_pos c, (nI_inj (by omega) (by omega)).mp c]
  · rw [if_neg (by simp [c, n1]), if_neg c]
theorem fPd_sum (h : okB g n nf nc np) (hp : np ≤ 10) {ff : Nat} (hf : ff < nf) : fPd g (-1) ff = sumN (fun k => fPd g (nI k) ff) np := by
  have hz := (h.2.2.2.1 ff hf).2
  have z := sumIf_ext (q := fun q => decide ((-1 : Int32) = -1 ∨ -1 = nI q)) (f := fun q => xI g 65 (10 * ff + q)) (m := np) (10 - np) (fun i h1 h2 => hz i h1 (by omega))
  rw [show np + (10 - np) = 10 by omega] at z
  have z : fPd g (-1) ff = _ := z
  rw [z, sumIf_N]
  refine sumN_congr np (fun k hk => ?_)
  rw [if_pos (by simp)]
  exact (fPd_one (g := g) (ff := ff) (q := k) (by omega)).symm
theorem subN_sum {A : Nat → Int32} {B : Nat → Nat → Int32} {np : Nat} : ∀ m, subN (sumN A np) (fun f => sumN (B f) np) m = sumN (fun k => subN (A k) (fun f => B f k) m) np := by
  intro m
  induction m with
  | zero => rfl
  | succ m ih =>
    show subN (sumN A np) (fun f => sumN (B f) np) m - sumN (B m) np = sumN (fun k => subN (A k) (fun f => B f k) m - B m k) np
    rw [ih, sumN_sub]
theorem sumIf_sum {q : Nat → Bool} {F : Nat → Int32} {G : Nat → Nat → Int32} {np : Nat} : ∀ m, (∀ l, l < m → F l = sumN (fun k => G k l) np) → sumIf q F m = sumN (fun k => sumIf q (G k) m) np := by
  intro m
  induction m with
  | zero => intro _; exact (sumN_0 np).symm
  | succ m ih =>
    intro h
    have i1 := ih (fun l hl => h l (by omega))
    show (if q m = true then sumIf q F m + F m else sumIf q F m) = sumN (fun k => if q m = true then sumIf q (G k) m + G k m else sumIf q (G k) m) np
    by_cases c : q m = true
    · simp only [c, if_true]
      rw [i1, h m (by omega), sumN_add]
    · simp only [c, if_false]
      exact i1
theorem fUp2_sum (h : okB g n nf nc np) (hp : np ≤ 10) : fUp2 g d (-1) n nf = sumN (fun k => fUp2 g d (nI k) n nf) np := by
  unfold fUp2 fUd
  rw [sumIf_sum (G := fun k l => lTo g (nI k) l) n (fun l hl => lTo_sum h hp hl), subN_congr (f' := fun f => sumN (fun k => fPd g (nI k) f) np) nf (fun f hf => fPd_sum h hp hf), subN_sum]
theorem i32_sub0 {x y : Int32} : (x - y = 0) = (x = y) := by
  apply propext
  constructor
  · intro h
    have := congrArg (· + y) h
    simp only [Int32.sub_add_cancel] at this
    rw [this]
    grind
  · intro h
    rw [h, Int32.sub_self]
/-! the model's loops -/
theorem sMd.cb (h : sMd u) : xIs u 278 11 ∧ xR u 278 25 = some 290 ∧ xR u 278 26 = some 291 ∧ (xIs u 290 13 ∧ xN u 290 = 12) ∧ xIs u 291 13 ∧ xN u 291 = 120 := by
  obtain ⟨h0, ⟨-, -, -, -, -, -, -, -, -, -, -, r25, r26, -⟩, -, -, -, -, -, -, -, -, -, -, -, i25, i26, -⟩ := h
  exact ⟨h0, r25, r26, i25, i26⟩
theorem filingM_tail (h : Mx u g D s nl np nb nc nr nh nk) (hc : cpB u g n nf np) (hB : okB g n nf nc np) {ff : Nat} (hf : ff < nf) : zr 280 43 [.ref 278, .int (nI ff), .int what, .null, .null] [] u P = P (some (.int (sumN (fCf g (nI ff)) n))) (mGood u) := by
  have hn := hB.1.1.2
  have h12 := hB.2.1.2
  have t8 := fun l (hl : l < n) P => told8_run (P := P) h.1 hc hn hl
  have h0 := h.1.1
  have lp : ∀ r l, l + r = n → zr 280 48 [.ref 278, .int (nI ff), .int what, .int (sumN (fCf g (nI ff)) l), .int (nI l)] [] u P = P (some (.int (sumN (fCf g (nI ff)) n))) (mGood u) := by
    intro r
    induction r with
    | zero =>
      intro l hl
      have : l = n := by omega
      subst this
      rw [r280_48]
      simp (disch := omega) only [r280_50, r280_51, r280_54, r280_85, r280_86, r280_87, r280_90, h0, hc.1, good_run h0, xinbT, xixT, leT, leF, ltT, ltF, ngF, psT, n1F, n2F, km2, km3, km4, km5, km10, km15, km25, kl8, kl14, kl24, kl34, kl274, kl354, kl384, kr1, kr2, kr3, kr4, kr5, kr6, kr7, kr8, kr9, kaa, lb0, lb1, lb2, lb3, lb4, lb5, lb6, lb7, li0, li1, li2, li3, li4, li5, li6, li7, true_and, and_true, Option.some.injEq, exists_eq_left', Option.toList_some, Option.toList_none, List.cons_append, List.nil_append, xcat_nil, xcat_int, xcat_ref, xcat_long, not_true, not_false_iff, if_true, if_false, and_self, and_false, false_and, or_true, true_or, or_self, z01, z10, zle8, Nat.reduceAdd, Nat.reduceLeDiff]
    | succ r ih =>
      intro l hl
      have ih := ih (l + 1) (by omega)
      simp only [sumN, fCf] at ih
      have t8 := t8 l (by omega)
      rw [r280_48]
      simp (disch := omega) only [r280_50, r280_51, r280_54, r280_57, r280_58, r280_59, r280_61, r280_63, r280_66, r280_67, r280_68, r280_69, r280_72, r280_73, r280_76, r280_77, r280_78, r280_79, r280_82, h0, hc.1, t8, kr1, leT, leF, ltT, ltF, true_and, and_true, Option.some.injEq, exists_eq_left', Option.toList_some, Option.toList_none, List.cons_append, List.nil_append, xcat_nil, xcat_int, xcat_ref, xcat_long, not_true, not_false_iff, if_true, if_false, and_self, and_false, false_and, or_true, true_or, or_self, z01, z10, zle8, Nat.reduceAdd, Nat.reduceLeDiff]
      have e : (xI g (69 + 5 * l) 7 + 1 = nI (ff + 1)) = (xI g (69 + 5 * l) 7 = nI ff) := by
        apply propext
        rw [← nI_1]
        constructor
        · intro q
          have := congrArg (· - 1) q
          simp only [Int32.add_sub_cancel] at this
          exact this
        · intro q
          rw [q]
      simp only [e]
      by_cases c : xI g (69 + 5 * l) 7 = nI ff
      · simp only [c, true_and, and_true, Option.some.injEq, exists_eq_left', Option.toList_some, Option.toList_none, List.cons_append, List.nil_append, xcat_nil, xcat_int, xcat_ref, xcat_long, not_true, not_false_iff, if_true, if_false, and_self, and_false, false_and, or_true, true_or, or_self, z01, z10, zle8, Nat.reduceAdd, Nat.reduceLeDiff] at ih ⊢
        exact ih
      · simp only [c, true_and, and_true, Option.some.injEq, exists_eq_left', Option.toList_some, Option.toList_none, List.cons_append, List.nil_append, xcat_nil, xcat_int, xcat_ref, xcat_long, not_true, not_false_iff, if_true, if_false, and_self, and_false, false_and, or_true, true_or, or_self, z01, z10, zle8, Nat.reduceAdd, Nat.reduceLeDiff] at ih ⊢
        exact ih
  simp only [r280_43, r280_44, r280_45, r280_46]
  exact lp n 0 (by omega)
theorem paysM_tail (h : Mx u g D s nl np nb nc nr nh nk) (hc : cpB u g n nf np) (hB : okB g n nf nc np) {ff : Nat} (hf : ff < nf) : zr 281 27 [.ref 278, .int (nI ff), .int p, .null, .null] [] u P = P (some (.int (fPd g p ff))) (mGood u) := by
  have hb := h.2.1.1.b
  have h12 := hB.2.1.2
  have hz := (hB.2.2.2.1 ff hf).2
  have hpd := fun q (hq : q < np) => (hc.2.2.2 ff hf).2 q hq
  obtain ⟨h0, r25, r26, i25, i26, n26⟩ := h.1.cb
  obtain ⟨-, r3, j0, k0, -⟩ := h.cf
  have e3 := (h.2.1.1.e h.2.2).2.2.2.1
  have e : fPd g p ff = sumIf (fun q => decide (p = -1 ∨ p = nI q)) (fun q => xI g 65 (10 * ff + q)) np := by
    unfold fPd
    have z := sumIf_ext (q := fun q => decide (p = -1 ∨ p = nI q)) (f := fun q => xI g 65 (10 * ff + q)) (m := np) (10 - np) (fun i h1 h2 => hz i h1 (by omega))
    rw [show np + (10 - np) = 10 by omega] at z
    exact z
  rw [e]
  have lp : ∀ r k, k + r = np → zr 281 32 [.ref 278, .int (nI ff), .int p, .int (sumIf (fun q => decide (p = -1 ∨ p = nI q)) (fun q => xI g 65 (10 * ff + q)) k), .int (nI k)] [] u P = P (some (.int (sumIf (fun q => decide (p = -1 ∨ p = nI q)) (fun q => xI g 65 (10 * ff + q)) np))) (mGood u) := by
    intro r
    induction r with
    | zero =>
      intro k hk
      have : k = np := by omega
      subst this
      rw [r281_32]
      simp (disch := omega) only [r281_34, r281_35, r281_38, r281_39, r281_40, r281_79, r281_80, r281_81, r281_84, h0, r3, j0, k0, e3, good_run h0, xinbT, xixT, leT, leF, ltT, ltF, ngF, psT, n1F, n2F, km2, km3, km4, km5, km10, km15, km25, kl8, kl14, kl24, kl34, kl274, kl354, kl384, kr1, kr2, kr3, kr4, kr5, kr6, kr7, kr8, kr9, kaa, lb0, lb1, lb2, lb3, lb4, lb5, lb6, lb7, li0, li1, li2, li3, li4, li5, li6, li7, true_and, and_true, Option.some.injEq, exists_eq_left', Option.toList_some, Option.toList_none, List.cons_append, List.nil_append, xcat_nil, xcat_int, xcat_ref, xcat_long, not_true, not_false_iff, if_true, if_false, and_self, and_false, false_and, or_true, true_or, or_self, z01, z10, zle8, Nat.reduceAdd, Nat.reduceLeDiff]
    | succ r ih =>
      intro k hk
      have ih := ih (k + 1) (by omega)
      simp only [sumIf] at ih
      have hpd := hpd k (by omega)
      rw [r281_32]
      simp (disch := omega) only [r281_34, r281_35, r281_38, r281_39, r281_40, r281_43, r281_44, r281_45, r281_46, r281_49, r281_51, r281_52, r281_55, r281_56, r281_59, r281_61, r281_62, r281_63, r281_65, r281_66, r281_67, r281_70, r281_71, r281_72, r281_73, r281_76, h0, r3, j0, k0, e3, r26, i26, n26, hpd, xinbT, xixT, leT, leF, ltT, ltF, ngF, psT, n1F, n2F, km2, km3, km4, km5, km10, km15, km25, kl8, kl14, kl24, kl34, kl274, kl354, kl384, kr1, kr2, kr3, kr4, kr5, kr6, kr7, kr8, kr9, kaa, lb0, lb1, lb2, lb3, lb4, lb5, lb6, lb7, li0, li1, li2, li3, li4, li5, li6, li7, true_and, and_true, Option.some.injEq, exists_eq_left', Option.toList_some, Option.toList_none, List.cons_append, List.nil_append, xcat_nil, xcat_int, xcat_ref, xcat_long, not_true, not_false_iff, if_true, if_false, and_self, and_false, false_and, or_true, true_or, or_self, z01, z10, zle8, Nat.reduceAdd, Nat.reduceLeDiff]
      by_cases c1 : p = -1
      · simp only [c1, true_or, decide_true, true_and, and_true, Option.some.injEq, exists_eq_left', Option.toList_some, Option.toList_none, List.cons_append, List.nil_append, xcat_nil, xcat_int, xcat_ref, xcat_long, not_true, not_false_iff, if_true, if_false, and_self, and_false, false_and, or_true, true_or, or_self, z01, z10, zle8, Nat.reduceAdd, Nat.reduceLeDiff] at ih ⊢
        exact ih
      · by_cases c2 : p = nI k
        · simp only [c1, c2, or_true, decide_true, true_and, and_true, Option.some.injEq, exists_eq_left', Option.toList_some, Option.toList_none, List.cons_append, List.nil_append, xcat_nil, xcat_int, xcat_ref, xcat_long, not_true, not_false_iff, if_true, if_false, and_self, and_false, false_and, or_true, true_or, or_self, z01, z10, zle8, Nat.reduceAdd, Nat.reduceLeDiff] at ih ⊢
          simp (disch := omega) only [n1F, true_and, and_true, Option.some.injEq, exists_eq_left', Option.toList_some, Option.toList_none, List.cons_append, List.nil_append, xcat_nil, xcat_int, xcat_ref, xcat_long, not_true, not_false_iff, if_true, if_false, and_self, and_false, false_and, or_true, true_or, or_self, z01, z10, zle8, Nat.reduceAdd, Nat.reduceLeDiff] at ih ⊢
          exact ih
        · have c3 : ¬ nI k = p := fun z => c2 z.symm
          simp only [c1, c2, c3, or_self, decide_false, Bool.false_eq_true, Int32.add_zero, true_and, and_true, Option.some.injEq, exists_eq_left', Option.toList_some, Option.toList_none, List.cons_append, List.nil_append, xcat_nil, xcat_int, xcat_ref, xcat_long, not_true, not_false_iff, if_true, if_false, and_self, and_false, false_and, or_true, true_or, or_self, z01, z10, zle8, Nat.reduceAdd, Nat.reduceLeDiff] at ih ⊢
          exact ih
  simp only [r281_27, r281_28, r281_29, r281_30]
  exact lp np 0 (by omega)
theorem fLf_all (hB : okB g n nf nc np) (hd : fLf g nf < d) {ff : Nat} (hf : ff < nf) : xI g 64 ff < d := by
  unfold fLf at hd
  rw [if_neg (by omega)] at hd
  by_cases c : ff = nf - 1
  · rw [c]; exact hd
  · have := hB.2.2.2.2 ff (nf - 1) (by omega) (by omega)
    rw [i32_lt] at this hd ⊢
    omega
theorem wouldPay_run (h : Mx u g D s nl np nb nc nr nh nk) (hc : cpB u g n nf np) (hB : okB g n nf nc np) (hd : fLf g nf < d) {q : Nat} (hq : q < np) : zr 276 0 [.ref 278, .int d, .int (nI q), .null, .null] [] u P = P (some (.int (fUp2 g d (nI q) n nf))) u := by
  have hb := h.2.1.1.b
  have hn := hB.1.1.2
  have h12 := hB.2.1.2
  obtain ⟨h0, r25, r26, i25, i26, n26⟩ := h.1.cb
  have t8 := fun l (hl : l < n) P => told8_run (P := P) h.1 hc hn hl
  have t0 := fun l (hl : l < n) P => told_run (P := P) h.1 hc hn hl (k := 0) (by omega)
  simp only [show nI 0 = 0 from rfl] at t0
  have nq : nI q ≠ -1 := of_eq_false (n1F (by omega))
  have lt := fun l (hl : l < n) P => lineTaxes_run (P := P) h.1 hc hB hl nq
  have lp2 : ∀ r ff, ff + r = nf → zr 276 59 [.ref 278, .int d, .int (nI q), .int (subN (fUd g d (nI q) n) (fPd g (nI q)) ff), .int (nI ff)] [] u P = P (some (.int (subN (fUd g d (nI q) n) (fPd g (nI q)) nf))) u := by
    intro r
    induction r with
    | zero =>
      intro ff hf
      have : ff = nf := by omega
      subst this
      rw [r276_59]
      simp (disch := omega) only [r276_61, r276_62, r276_65, r276_89, r276_90, h0, hc.2.1, xinbT, xixT, leT, leF, ltT, ltF, ngF, psT, n1F, n2F, km2, km3, km4, km5, km10, km15, km25, kl8, kl14, kl24, kl34, kl274, kl354, kl384, kr1, kr2, kr3, kr4, kr5, kr6, kr7, kr8, kr9, kaa, lb0, lb1, lb2, lb3, lb4, lb5, lb6, lb7, li0, li1, li2, li3, li4, li5, li6, li7, true_and, and_true, Option.some.injEq, exists_eq_left', Option.toList_some, Option.toList_none, List.cons_append, List.nil_append, xcat_nil, xcat_int, xcat_ref, xcat_long, not_true, not_false_iff, if_true, if_false, and_self, and_false, false_and, or_true, true_or, or_self, z01, z10, zle8, Nat.reduceAdd, Nat.reduceLeDiff]
    | succ r ih =>
      intro ff hf
      have ih := ih (ff + 1) (by omega)
      simp only [subN] at ih
      have hpd := (hc.2.2.2 ff (by omega)).2 q hq
      rw [← fPd_one (g := g) (by omega)] at hpd
      rw [r276_59]
      simp (disch := omega) only [r276_61, r276_62, r276_65, r276_68, r276_69, r276_70, r276_73, r276_75, r276_77, r276_78, r276_79, r276_80, r276_81, r276_82, r276_83, r276_86, h0, hc.2.1, r26, i26, n26, hpd, xinbT, xixT, leT, leF, ltT, ltF, ngF, psT, n1F, n2F, km2, km3, km4, km5, km10, km15, km25, kl8, kl14, kl24, kl34, kl274, kl354, kl384, kr1, kr2, kr3, kr4, kr5, kr6, kr7, kr8, kr9, kaa, lb0, lb1, lb2, lb3, lb4, lb5, lb6, lb7, li0, li1, li2, li3, li4, li5, li6, li7, true_and, and_true, Option.some.injEq, exists_eq_left', Option.toList_some, Option.toList_none, List.cons_append, List.nil_append, xcat_nil, xcat_int, xcat_ref, xcat_long, not_true, not_false_iff, if_true, if_false, and_self, and_false, false_and, or_true, true_or, or_self, z01, z10, zle8, Nat.reduceAdd, Nat.reduceLeDiff]
      exact ih
  have lp : ∀ r l, l + r = n → zr 276 5 [.ref 278, .int d, .int (nI q), .int (fUd g d (nI q) l), .int (nI l)] [] u P = P (some (.int (subN (fUd g d (nI q) n) (fPd g (nI q)) nf))) u := by
    intro r
    induction r with
    | zero =>
      intro l hl
      have : l = n := by omega
      subst this
      rw [r276_5]
      simp (disch := omega) only [r276_7, r276_8, r276_11, r276_56, r276_57, h0, hc.1, xinbT, xixT, leT, leF, ltT, ltF, ngF, psT, n1F, n2F, km2, km3, km4, km5, km10, km15, km25, kl8, kl14, kl24, kl34, kl274, kl354, kl384, kr1, kr2, kr3, kr4, kr5, kr6, kr7, kr8, kr9, kaa, lb0, lb1, lb2, lb3, lb4, lb5, lb6, lb7, li0, li1, li2, li3, li4, li5, li6, li7, true_and, and_true, Option.some.injEq, exists_eq_left', Option.toList_some, Option.toList_none, List.cons_append, List.nil_append, xcat_nil, xcat_int, xcat_ref, xcat_long, not_true, not_false_iff, if_true, if_false, and_self, and_false, false_and, or_true, true_or, or_self, z01, z10, zle8, Nat.reduceAdd, Nat.reduceLeDiff]
      exact lp2 nf 0 (by omega)
    | succ r ih =>
      intro l hl
      have ih := ih (l + 1) (by omega)
      unfold fUd at ih ⊢
      simp only [sumIf] at ih
      have t8 := t8 l (by omega)
      have t0 := t0 l (by omega)
      have lt := lt l (by omega)
      have hfl := (hB.2.2.1 l (by omega)).2.2.2.2.1
      have key : (0 < xI g (69 + 5 * l) 7 + 1) → xI g (69 + 5 * l) 0 ≤ d := by
        intro z
        rcases hfl with e | ⟨f, hf, e, le⟩
        · rw [e] at z
          exact absurd z (by decide)
        · have := fLf_all hB hd hf
          rw [i32_le] at le ⊢
          rw [i32_lt] at this
          omega
      rw [r276_5]
      simp (disch := omega) only [r276_7, r276_8, r276_11, r276_14, r276_15, r276_16, r276_18, r276_20, r276_23, r276_26, r276_27, r276_29, r276_30, r276_33, r276_34, r276_37, r276_38, r276_40, r276_41, r276_44, r276_47, r276_48, r276_49, r276_50, r276_53, h0, hc.1, t8, t0, lt, xinbT, xixT, leT, leF, ltT, ltF, ngF, psT, n1F, n2F, km2, km3, km4, km5, km10, km15, km25, kl8, kl14, kl24, kl34, kl274, kl354, kl384, kr1, kr2, kr3, kr4, kr5, kr6, kr7, kr8, kr9, kaa, lb0, lb1, lb2, lb3, lb4, lb5, lb6, lb7, li0, li1, li2, li3, li4, li5, li6, li7, true_and, and_true, Option.some.injEq, exists_eq_left', Option.toList_some, Option.toList_none, List.cons_append, List.nil_append, xcat_nil, xcat_int, xcat_ref, xcat_long, not_true, not_false_iff, if_true, if_false, and_self, and_false, false_and, or_true, true_or, or_self, z01, z10, zle8, Nat.reduceAdd, Nat.reduceLeDiff]
      by_cases c1 : xI g (69 + 5 * l) 0 ≤ d
      · have c2 : ¬ d < xI g (69 + 5 * l) 0 := i32_nlt.mpr c1
        simp only [c1, decide_true, true_and, and_true, Option.some.injEq, exists_eq_left', Option.toList_some, Option.toList_none, List.cons_append, List.nil_append, xcat_nil, xcat_int, xcat_ref, xcat_long, not_true, not_false_iff, if_true, if_false, and_self, and_false, false_and, or_true, true_or, or_self, z01, z10, zle8, Nat.reduceAdd, Nat.reduceLeDiff] at ih
        simp only [c2, ite_self, true_and, and_true, Option.some.injEq, exists_eq_left', Option.toList_some, Option.toList_none, List.cons_append, List.nil_append, xcat_nil, xcat_int, xcat_ref, xcat_long, not_true, not_false_iff, if_true, if_false, and_self, and_false, false_and, or_true, true_or, or_self, z01, z10, zle8, Nat.reduceAdd, Nat.reduceLeDiff]
        exact ih
      · have c2 : d < xI g (69 + 5 * l) 0 := i32_nle.mp c1
        have c3 : ¬ 0 < xI g (69 + 5 * l) 7 + 1 := fun z => c1 (key z)
        simp only [c1, decide_false, Bool.false_eq_true, true_and, and_true, Option.some.injEq, exists_eq_left', Option.toList_some, Option.toList_none, List.cons_append, List.nil_append, xcat_nil, xcat_int, xcat_ref, xcat_long, not_true, not_false_iff, if_true, if_false, and_self, and_false, false_and, or_true, true_or, or_self, z01, z10, zle8, Nat.reduceAdd, Nat.reduceLeDiff] at ih
        simp only [c2, c3, Int32.add_zero, true_and, and_true, Option.some.injEq, exists_eq_left', Option.toList_some, Option.toList_none, List.cons_append, List.nil_append, xcat_nil, xcat_int, xcat_ref, xcat_long, not_true, not_false_iff, if_true, if_false, and_self, and_false, false_and, or_true, true_or, or_self, z01, z10, zle8, Nat.reduceAdd, Nat.reduceLeDiff]
        exact ih
  simp only [r276_0, r276_1, r276_2, r276_3]
  exact lp n 0 (by omega)
theorem pend_sum (hB : okB g n nf nc np) (hp10 : np ≤ 10) (hp : p = -1 ∨ ∃ q, q < np ∧ p = nI q) : sumIf (fun k => decide (p = -1 ∨ p = nI k)) (fun k => fUp2 g d (nI k) n nf) np = fUp2 g d p n nf := by
  rcases hp with rfl | ⟨q, hq, rfl⟩
  · rw [fUp2_sum hB hp10, sumIf_N]
    exact sumN_congr np (fun k hk => by rw [if_pos (by simp)])
  · have n1 : ¬ nI q = -1 := of_eq_false (n1F (by omega))
    rw [sumIf_N, sumN_congr (g := fun k => if nI q = nI k then fUp2 g d (nI q) n nf else 0) np (fun k hk => ?_), sumN_one np (by omega) (by omega), if_pos hq]
    by_cases c : nI q = nI k
    · rw [if_pos (by simp [c]), if_pos c, (nI_inj (by omega) (by omega)).mp c]
    · rw [if_neg (by simp [c, n1]), if_neg c]
theorem pendingM_tail (h : Mx u g D s nl np nb nc nr nh nk) (hc : cpB u g n nf np) (hB : okB g n nf nc np) (hd : fLf g nf < d) (hp : p = -1 ∨ ∃ q, q < np ∧ p = nI q) : zr 283 40 [.ref 278, .int d, .int p, .null, .null] [] u P = P (some (.int (fUp2 g d p n nf))) (mGood u) := by
  have hb := h.2.1.1.b
  obtain ⟨h0, r3, j0, k0, -⟩ := h.cf
  have e3 := (h.2.1.1.e h.2.2).2.2.2.1
  have wp := fun q (hq : q < np) P => wouldPay_run (P := P) h hc hB hd hq
  rw [← pend_sum hB hb.2.2.1 hp]
  have lp : ∀ r k, k + r = np → zr 283 45 [.ref 278, .int d, .int p, .int (sumIf (fun k => decide (p = -1 ∨ p = nI k)) (fun k => fUp2 g d (nI k) n nf) k), .int (nI k)] [] u P = P (some (.int (sumIf (fun k => decide (p = -1 ∨ p = nI k)) (fun k => fUp2 g d (nI k) n nf) np))) (mGood u) := by
    intro r
    induction r with
    | zero =>
      intro k hk
      have : k = np := by omega
      subst this
      rw [r283_45]
      simp (disch := omega) only [r283_47, r283_48, r283_51, r283_52, r283_53, r283_87, r283_88, r283_89, r283_92, h0, r3, j0, k0, e3, good_run h0, xinbT, xixT, leT, leF, ltT, ltF, ngF, psT, n1F, n2F, km2, km3, km4, km5, km10, km15, km25, kl8, kl14, kl24, kl34, kl274, kl354, kl384, kr1, kr2, kr3, kr4, kr5, kr6, kr7, kr8, kr9, kaa, lb0, lb1, lb2, lb3, lb4, lb5, lb6, lb7, li0, li1, li2, li3, li4, li5, li6, li7, true_and, and_true, Option.some.injEq, exists_eq_left', Option.toList_some, Option.toList_none, List.cons_append, List.nil_append, xcat_nil, xcat_int, xcat_ref, xcat_long, not_true, not_false_iff, if_true, if_false, and_self, and_false, false_and, or_true, true_or, or_self, z01, z10, zle8, Nat.reduceAdd, Nat.reduceLeDiff]
    | succ r ih =>
      intro k hk
      have ih := ih (k + 1) (by omega)
      simp only [sumIf] at ih
      have wp := wp k (by omega)
      rw [r283_45]
      simp (disch := omega) only [r283_47, r283_48, r283_51, r283_52, r283_53, r283_56, r283_57, r283_58, r283_59, r283_62, r283_64, r283_65, r283_68, r283_69, r283_70, r283_72, r283_75, r283_78, r283_79, r283_80, r283_81, r283_84, h0, r3, j0, k0, e3, wp, xinbT, xixT, leT, leF, ltT, ltF, ngF, psT, n1F, n2F, km2, km3, km4, km5, km10, km15, km25, kl8, kl14, kl24, kl34, kl274, kl354, kl384, kr1, kr2, kr3, kr4, kr5, kr6, kr7, kr8, kr9, kaa, lb0, lb1, lb2, lb3, lb4, lb5, lb6, lb7, li0, li1, li2, li3, li4, li5, li6, li7, true_and, and_true, Option.some.injEq, exists_eq_left', Option.toList_some, Option.toList_none, List.cons_append, List.nil_append, xcat_nil, xcat_int, xcat_ref, xcat_long, not_true, not_false_iff, if_true, if_false, and_self, and_false, false_and, or_true, true_or, or_self, z01, z10, zle8, Nat.reduceAdd, Nat.reduceLeDiff]
      by_cases c1 : p = -1
      · simp only [c1, true_or, decide_true, true_and, and_true, Option.some.injEq, exists_eq_left', Option.toList_some, Option.toList_none, List.cons_append, List.nil_append, xcat_nil, xcat_int, xcat_ref, xcat_long, not_true, not_false_iff, if_true, if_false, and_self, and_false, false_and, or_true, true_or, or_self, z01, z10, zle8, Nat.reduceAdd, Nat.reduceLeDiff] at ih ⊢
        exact ih
      · by_cases c2 : p = nI k
        · simp only [c1, c2, or_true, decide_true, true_and, and_true, Option.some.injEq, exists_eq_left', Option.toList_some, Option.toList_none, List.cons_append, List.nil_append, xcat_nil, xcat_int, xcat_ref, xcat_long, not_true, not_false_iff, if_true, if_false, and_self, and_false, false_and, or_true, true_or, or_self, z01, z10, zle8, Nat.reduceAdd, Nat.reduceLeDiff] at ih ⊢
          simp (disch := omega) only [n1F, true_and, and_true, Option.some.injEq, exists_eq_left', Option.toList_some, Option.toList_none, List.cons_append, List.nil_append, xcat_nil, xcat_int, xcat_ref, xcat_long, not_true, not_false_iff, if_true, if_false, and_self, and_false, false_and, or_true, true_or, or_self, z01, z10, zle8, Nat.reduceAdd, Nat.reduceLeDiff] at ih ⊢
          exact ih
        · have c3 : ¬ nI k = p := fun z => c2 z.symm
          simp only [c1, c2, c3, or_self, decide_false, Bool.false_eq_true, Int32.add_zero, true_and, and_true, Option.some.injEq, exists_eq_left', Option.toList_some, Option.toList_none, List.cons_append, List.nil_append, xcat_nil, xcat_int, xcat_ref, xcat_long, not_true, not_false_iff, if_true, if_false, and_self, and_false, false_and, or_true, true_or, or_self, z01, z10, zle8, Nat.reduceAdd, Nat.reduceLeDiff] at ih ⊢
          exact ih
  simp only [r283_40, r283_41, r283_42, r283_43]
  exact lp np 0 (by omega)
/-- what a line would come to now -/
def lNow (g : xMem) (D nb np nl nr nh nk l : Nat) : Int32 := dDue g D nb np nl nr nh nk (xI g (69 + 5 * l) 0) (xI g (69 + 5 * l) 1) (xI g (69 + 5 * l) 2) (xI g (69 + 5 * l) 3) (xI g (69 + 5 * l) 6) (xI g (69 + 5 * l) 5)
theorem lNow_ag (hw : xag SC u w) (hD : D = 6 ∨ D = 34) {l : Nat} (hl : l < 40) : lNow w D nb np nl nr nh nk l = lNow u D nb np nl nr nh nk l := by
  unfold lNow
  rw [scln0 hw hl, dDue_ag hw hD]
theorem lTo_ag (hw : xag SC u w) {l : Nat} (hl : l < 40) : lTo w p l = lTo u p l := lTo_congr (fun k hk j _ => by rw [scln hw hl hk])
theorem shortC (h : St u D E s nl np nb nc nr nh nk n nf na f op) {l : Nat} (hl : l < n) (hP : ∀ v, xag SC u v → P (some (.int (lNow u D nb np nl nr nh nk l - lTo u (-1) l))) v) : zr 168 0 [.ref 0, .ref (69 + 5 * l)] [] u P := by
  have hb := h.b
  obtain ⟨⟨j, hj, ej⟩, -⟩ := h.okb.2.2.1 l hl
  obtain ⟨e8, h4⟩ := h.okl.2 l hl
  have hL := (h.bk.ln (l := l) (by omega)).2
  refine shortBy_run hj h.sp h.tl h.ok h.1.d (by omega) hL rfl rfl rfl ej rfl rfl e8 h4 (fun v hv => ?_)
  rw [← ej]
  exact hP v hv
def fWr (g : xMem) (D nb np nl nr nh nk : Nat) (l : Nat) : Int32 := if lNow g D nb np nl nr nh nk l = lTo g (-1) l then 0 else 1
theorem wrongC (h : St u D E s nl np nb nc nr nh nk n nf na f op) (hP : ∀ v, xag SC u v → xI v 0 6 = 0 → P (some (.int (sumN (fWr u D nb np nl nr nh nk) n))) v) : zr 143 13 [.ref 0, .null, .null] [] u P := by
  have hb := h.b
  have hD := h.1.d
  have lp : ∀ r l w, l + r = n → xag SC u w → zr 143 17 [.ref 0, .int (sumN (fWr u D nb np nl nr nh nk) l), .int (nI l)] [] w P := by
    intro r
    induction r with
    | zero =>
      intro l w hl hw
      have : l = n := by omega
      subst this
      have h' := h.ag hw
      obtain ⟨g1, g2, g3, g4, g5, g6⟩ := h'.sp
      rw [r143_17]
      simp (disch := omega) only [r143_18, r143_19, r143_22, r143_25, r143_61, r143_62, r143_63, r143_66, g1, g4, h'.bk.1, h'.okl.1.1, grant_run g1, xinbT, xixT, leT, leF, ltT, ltF, ngF, psT, n1F, n2F, km2, km3, km4, km5, km10, km15, km25, kl8, kl14, kl24, kl34, kl274, kl354, kl384, kr1, kr2, kr3, kr4, kr5, kr6, kr7, kr8, kr9, kaa, lb0, lb1, lb2, lb3, lb4, lb5, lb6, lb7, li0, li1, li2, li3, li4, li5, li6, li7, true_and, and_true, Option.some.injEq, exists_eq_left', Option.toList_some, Option.toList_none, List.cons_append, List.nil_append, xcat_nil, xcat_int, xcat_ref, xcat_long, not_true, not_false_iff, if_true, if_false, and_self, and_false, false_and, or_true, true_or, or_self, z01, z10, zle8, Nat.reduceAdd, Nat.reduceLeDiff]
      exact QC.good hP hw
    | succ r ih =>
      intro l w hl hw
      have h' := h.ag hw
      obtain ⟨g1, g2, g3, g4, g5, g6⟩ := h'.sp
      have hl1 := h'.bk.ln (l := l) (by omega)
      obtain ⟨k0, ⟨k1, -⟩, ⟨k2, k3⟩, -⟩ := h'.bk
      have hl2 := hl1.1
      have k1 : xR w 62 1 = some 63 := k1
      have k2 : xIs w 63 16 := k2
      have k3 : xN w 63 = 40 := k3
      rw [r143_17]
      simp (disch := omega) only [r143_18, r143_19, r143_22, r143_25, r143_28, r143_29, r143_30, r143_31, r143_34, r143_37, r143_38, r143_39, g1, g4, k0, k1, k2, k3, hl2, h'.okl.1.1, xinbT, xixT, leT, leF, ltT, ltF, ngF, psT, n1F, n2F, km2, km3, km4, km5, km10, km15, km25, kl8, kl14, kl24, kl34, kl274, kl354, kl384, kr1, kr2, kr3, kr4, kr5, kr6, kr7, kr8, kr9, kaa, lb0, lb1, lb2, lb3, lb4, lb5, lb6, lb7, li0, li1, li2, li3, li4, li5, li6, li7, true_and, and_true, Option.some.injEq, exists_eq_left', Option.toList_some, Option.toList_none, List.cons_append, List.nil_append, xcat_nil, xcat_int, xcat_ref, xcat_long, not_true, not_false_iff, if_true, if_false, and_self, and_false, false_and, or_true, true_or, or_self, z01, z10, zle8, Nat.reduceAdd, Nat.reduceLeDiff]
      refine shortC h' (l := l) (by omega) (fun v hv => ?_)
      have hv2 := hw.tr hv
      have ih := ih (l + 1) v (by omega) hv2
      simp only [sumN, fWr] at ih
      rw [lNow_ag hw hD (by omega), lTo_ag hw (by omega)]
      by_cases c : lNow u D nb np nl nr nh nk l = lTo u (-1) l
      · have c2 : lNow u D nb np nl nr nh nk l - lTo u (-1) l = 0 := by rw [i32_sub0]; exact c
        simp only [c, true_and, and_true, Option.some.injEq, exists_eq_left', Option.toList_some, Option.toList_none, List.cons_append, List.nil_append, xcat_nil, xcat_int, xcat_ref, xcat_long, not_true, not_false_iff, if_true, if_false, and_self, and_false, false_and, or_true, true_or, or_self, z01, z10, zle8, Nat.reduceAdd, Nat.reduceLeDiff] at ih
        simp only [r143_42, r143_45, r143_46, r143_49, r143_50, r143_53, r143_54, r143_55, r143_58, c2, bit_run, kr1, true_and, and_true, Option.some.injEq, exists_eq_left', Option.toList_some, Option.toList_none, List.cons_append, List.nil_append, xcat_nil, xcat_int, xcat_ref, xcat_long, not_true, not_false_iff, if_true, if_false, and_self, and_false, false_and, or_true, true_or, or_self, z01, z10, zle8, Nat.reduceAdd, Nat.reduceLeDiff]
        exact ih
      · have c2 : ¬ lNow u D nb np nl nr nh nk l - lTo u (-1) l = 0 := by rw [i32_sub0]; exact c
        simp only [c, true_and, and_true, Option.some.injEq, exists_eq_left', Option.toList_some, Option.toList_none, List.cons_append, List.nil_append, xcat_nil, xcat_int, xcat_ref, xcat_long, not_true, not_false_iff, if_true, if_false, and_self, and_false, false_and, or_true, true_or, or_self, z01, z10, zle8, Nat.reduceAdd, Nat.reduceLeDiff] at ih
        simp only [r143_42, r143_45, r143_46, r143_49, r143_50, r143_53, r143_54, r143_55, r143_58, c2, bit_run, kr1, true_and, and_true, Option.some.injEq, exists_eq_left', Option.toList_some, Option.toList_none, List.cons_append, List.nil_append, xcat_nil, xcat_int, xcat_ref, xcat_long, not_true, not_false_iff, if_true, if_false, and_self, and_false, false_and, or_true, true_or, or_self, z01, z10, zle8, Nat.reduceAdd, Nat.reduceLeDiff]
        exact ih
  simp only [r143_13, r143_14, r143_15, r143_16]
  exact lp n 0 u (by omega) xag.rf
theorem wrongM_tail (h : Mx u g D s nl np nb nc nr nh nk) (hc : cpB u g n nf np) (hB : okB g n nf nc np) (hP : ∀ v, xag SCm u v → xI v 278 1 = 0 → xI v 278 2 = -1 → P (some (.int (sumN (fWr g D nb np nl nr nh nk) n))) v) : zr 287 18 [.ref 278, .null, .null] [] u P := by
  have hn := hB.1.1.2
  have lp : ∀ r l w, l + r = n → xag SCm u w → zr 287 22 [.ref 278, .int (sumN (fWr g D nb np nl nr nh nk) l), .int (nI l)] [] w P := by
    intro r
    induction r with
    | zero =>
      intro l w hl hw
      have : l = n := by omega
      subst this
      have h0 := (h.ag hw.m).1.1
      have hc' := hc.ag hw.m
      rw [r287_22]
      simp (disch := omega) only [r287_23, r287_24, r287_27, r287_57, r287_58, r287_59, r287_62, h0, hc'.1, good_run h0, xinbT, xixT, leT, leF, ltT, ltF, ngF, psT, n1F, n2F, km2, km3, km4, km5, km10, km15, km25, kl8, kl14, kl24, kl34, kl274, kl354, kl384, kr1, kr2, kr3, kr4, kr5, kr6, kr7, kr8, kr9, kaa, lb0, lb1, lb2, lb3, lb4, lb5, lb6, lb7, li0, li1, li2, li3, li4, li5, li6, li7, true_and, and_true, Option.some.injEq, exists_eq_left', Option.toList_some, Option.toList_none, List.cons_append, List.nil_append, xcat_nil, xcat_int, xcat_ref, xcat_long, not_true, not_false_iff, if_true, if_false, and_self, and_false, false_and, or_true, true_or, or_self, z01, z10, zle8, Nat.reduceAdd, Nat.reduceLeDiff]
      exact QM.good hP hw
    | succ r ih =>
      intro l w hl hw
      have hx' := h.ag hw.m
      have h0 := hx'.1.1
      have hc' := hc.ag hw.m
      have d1 := fun P => dueNow_run (P := P) (l := l) hx' hc' hB (by omega)
      have hw2 : xag SCm u (xrow w 284 (dStk g D nb np nl (xI g (69 + 5 * l) 0) (xI g (69 + 5 * l) 1) (xI g (69 + 5 * l) 2))) := hw.tr (ag_row (Or.inl rfl))
      have d2 := fun P => lineDue_run (P := P) (l := l) (h.ag hw2.m).1 (hc.ag hw2.m) hB (by omega)
      have i0 : xIs (xrow w 284 (dStk g D nb np nl (xI g (69 + 5 * l) 0) (xI g (69 + 5 * l) 1) (xI g (69 + 5 * l) 2))) 278 11 := h0
      have ih := ih (l + 1) _ (by omega) hw2
      simp only [sumN, fWr, lNow] at ih
      rw [r287_22]
      simp (disch := omega) only [r287_23, r287_24, r287_27, r287_30, r287_31, r287_32, r287_33, r287_36, r287_37, r287_38, r287_41, r287_44, r287_45, r287_48, r287_49, r287_50, r287_51, r287_54, h0, i0, hc'.1, d1, d2, xinbT, xixT, leT, leF, ltT, ltF, ngF, psT, n1F, n2F, km2, km3, km4, km5, km10, km15, km25, kl8, kl14, kl24, kl34, kl274, kl354, kl384, kr1, kr2, kr3, kr4, kr5, kr6, kr7, kr8, kr9, kaa, lb0, lb1, lb2, lb3, lb4, lb5, lb6, lb7, li0, li1, li2, li3, li4, li5, li6, li7, true_and, and_true, Option.some.injEq, exists_eq_left', Option.toList_some, Option.toList_none, List.cons_append, List.nil_append, xcat_nil, xcat_int, xcat_ref, xcat_long, not_true, not_false_iff, if_true, if_false, and_self, and_false, false_and, or_true, true_or, or_self, z01, z10, zle8, Nat.reduceAdd, Nat.reduceLeDiff]
      by_cases c : dDue g D nb np nl nr nh nk (xI g (69 + 5 * l) 0) (xI g (69 + 5 * l) 1) (xI g (69 + 5 * l) 2) (xI g (69 + 5 * l) 3) (xI g (69 + 5 * l) 6) (xI g (69 + 5 * l) 5) = lTo g (-1) l
      · simp only [c, true_and, and_true, Option.some.injEq, exists_eq_left', Option.toList_some, Option.toList_none, List.cons_append, List.nil_append, xcat_nil, xcat_int, xcat_ref, xcat_long, not_true, not_false_iff, if_true, if_false, and_self, and_false, false_and, or_true, true_or, or_self, z01, z10, zle8, Nat.reduceAdd, Nat.reduceLeDiff] at ih ⊢
        exact ih
      · simp only [c, true_and, and_true, Option.some.injEq, exists_eq_left', Option.toList_some, Option.toList_none, List.cons_append, List.nil_append, xcat_nil, xcat_int, xcat_ref, xcat_long, not_true, not_false_iff, if_true, if_false, and_self, and_false, false_and, or_true, true_or, or_self, z01, z10, zle8, Nat.reduceAdd, Nat.reduceLeDiff] at ih ⊢
        exact ih
  simp only [r287_18, r287_19, r287_20, r287_21]
  exact lp n 0 u (by omega) xag.rf
theorem owedC (h : St u D E s nl np nb nc nr nh nk n nf na f op) {l : Nat} (hl : l < n) (hP : ∀ v, xag SC u v → xI v 0 6 = 0 → P (some (.int (lNow u D nb np nl nr nh nk l - lTo u (-1) l))) v) : zr 144 8 [.ref 0, .int (nI l)] [] u P := by
  have hb := h.b
  obtain ⟨g1, g2, g3, g4, g5, g6⟩ := h.sp
  have hl2 := (h.bk.ln (l := l) (by omega)).1
  obtain ⟨k0, ⟨k1, -⟩, ⟨k2, k3⟩, -⟩ := h.bk
  have k1 : xR u 62 1 = some 63 := k1
  have k2 : xIs u 63 16 := k2
  have k3 : xN u 63 = 40 := k3
  simp (disch := omega) only [r144_8, r144_9, r144_10, r144_11, r144_14, r144_17, r144_18, r144_19, g1, g4, k0, k1, k2, k3, hl2, xinbT, xixT, leT, leF, ltT, ltF, ngF, psT, n1F, n2F, km2, km3, km4, km5, km10, km15, km25, kl8, kl14, kl24, kl34, kl274, kl354, kl384, kr1, kr2, kr3, kr4, kr5, kr6, kr7, kr8, kr9, kaa, lb0, lb1, lb2, lb3, lb4, lb5, lb6, lb7, li0, li1, li2, li3, li4, li5, li6, li7, true_and, and_true, Option.some.injEq, exists_eq_left', Option.toList_some, Option.toList_none, List.cons_append, List.nil_append, xcat_nil, xcat_int, xcat_ref, xcat_long, not_true, not_false_iff, if_true, if_false, and_self, and_false, false_and, or_true, true_or, or_self, z01, z10, zle8, Nat.reduceAdd, Nat.reduceLeDiff]
  refine shortC h hl (fun v hv => ?_)
  have g1 := (h.ag hv).sp.1
  simp only [r144_22, r144_25, r144_33, g1, grant_run g1, true_and, and_true, Option.some.injEq, exists_eq_left', Option.toList_some, Option.toList_none, List.cons_append, List.nil_append, xcat_nil, xcat_int, xcat_ref, xcat_long, not_true, not_false_iff, if_true, if_false, and_self, and_false, false_and, or_true, true_or, or_self, z01, z10, zle8, Nat.reduceAdd, Nat.reduceLeDiff]
  exact QC.good hP hv
end
