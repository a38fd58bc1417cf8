/-! THE MODEL: loops of its queries -/
def mSm (E : Nat → Nat → Int32) (f c : Nat) : Nat → Int32
  | 0 => 0
  | k + 1 => mSm E f c k + E (f + k) (f + (k + 1) % c)
def sSm (E : Nat → Nat → Int32) (f : Nat) : Nat → Int32
  | 0 => 0
  | k + 1 => sSm E f k + E (f + k) (f + k + 1)
def eAr (X Y : Nat → Int32) (i j : Nat) : Int32 := X i * Y j - X j * Y i
theorem mSm_s {E : Nat → Nat → Int32} {f c : Nat} : ∀ k, k < c → mSm E f c k = sSm E f k := by
  intro k
  induction k with
  | zero => intro _; rfl
  | succ k ih =>
    intro h
    unfold mSm sSm
    rw [ih (by omega), Nat.mod_eq_of_lt h]
    rfl
theorem fAr_s {X Y : Nat → Int32} {f c : Nat} : ∀ t, t < c → fAr X Y f c (t + 1) = eAr X Y (f + c - 1) f + sSm (eAr X Y) f t := by
  intro t
  induction t with
  | zero =>
    intro _
    simp [fAr, fromI, sSm, eAr]
  | succ t ih =>
    intro h
    rw [show fAr X Y f c (t + 1 + 1) = fAr X Y f c (t + 1) + (X (fromI f c (t + 1)) * Y (f + (t + 1)) - X (f + (t + 1)) * Y (fromI f c (t + 1))) from rfl, ih (by omega)]
    have e : fromI f c (t + 1) = f + t := by simp [fromI]
    rw [e, Int32.add_assoc]
    rfl
theorem area_turn {X Y : Nat → Int32} {f : Nat} : ∀ c, mSm (eAr X Y) f c c = fAr X Y f c c := by
  intro c
  cases c with
  | zero => rfl
  | succ c =>
    rw [fAr_s c (by omega)]
    unfold mSm
    rw [mSm_s c (by omega), Nat.mod_self, Int32.add_comm]
    rfl
def mAny (E : Nat → Nat → Bool) (f c : Nat) : Nat → Bool
  | 0 => false
  | k + 1 => mAny E f c k || E (f + k) (f + (k + 1) % c)
def sAny (E : Nat → Nat → Bool) (f : Nat) : Nat → Bool
  | 0 => false
  | k + 1 => sAny E f k || E (f + k) (f + k + 1)
def cAny (E : Nat → Nat → Bool) (f c : Nat) : Nat → Bool
  | 0 => false
  | k + 1 => cAny E f c k || E (fromI f c k) (f + k)
theorem mAny_s {E : Nat → Nat → Bool} {f c : Nat} : ∀ k, k < c → mAny E f c k = sAny E f k := by
  intro k
  induction k with
  | zero => intro _; rfl
  | succ k ih =>
    intro h
    unfold mAny sAny
    rw [ih (by omega), Nat.mod_eq_of_lt h]
    rfl
theorem cAny_s {E : Nat → Nat → Bool} {f c : Nat} : ∀ t, t < c → cAny E f c (t + 1) = (E (f + c - 1) f || sAny E f t) := by
  intro t
  induction t with
  | zero =>
    intro _
    simp [cAny, fromI, sAny]
  | succ t ih =>
    intro h
    rw [show cAny E f c (t + 1 + 1) = (cAny E f c (t + 1) || E (fromI f c (t + 1)) (f + (t + 1))) from rfl, ih (by omega)]
    have e : fromI f c (t + 1) = f + t := by simp [fromI]
    rw [e, Bool.or_assoc]
    rfl
theorem any_turn {E : Nat → Nat → Bool} {f : Nat} : ∀ c, mAny E f c c = cAny E f c c := by
  intro c
  cases c with
  | zero => rfl
  | succ c =>
    rw [cAny_s c (by omega)]
    unfold mAny
    rw [mAny_s c (by omega), Nat.mod_self, Bool.or_comm]
    rfl
theorem fTc_c {X Y : Nat → Int32} {x y : Int32} {f c : Nat} : ∀ r t, t + r = c → (cAny (fOn X Y x y) f c t || fTc X Y x y f c r t) = cAny (fOn X Y x y) f c c := by
  intro r
  induction r with
  | zero =>
    intro t ht
    have : t = c := by omega
    subst this
    simp [fTc]
  | succ r ih =>
    intro t ht
    have := ih (t + 1) (by omega)
    rw [← this]
    simp only [fTc, cAny, Bool.or_assoc]
theorem touch_turn {X Y : Nat → Int32} {x y : Int32} {f c : Nat} : fTc X Y x y f c c 0 = mAny (fOn X Y x y) f c c := by
  rw [any_turn, ← fTc_c c 0 (by omega)]
  simp [cAny]
section
variable {u w g : xMem} {P : Option Value → xMem → Prop} {D s nl np nb nc nr nh nk n : Nat} {p d x y c e k a t : Int32} {v0 v1 : Value}
/-- the area that a place has on a day -/
def dAr (g : xMem) (D nb : Nat) (p d : Int32) : Int32 := if 0 ≤ fLat (xI g (D + 5)) (xI g (D + 6)) p d nb then fAr (xI g (D + 8)) (xI g (D + 9)) (6 * xix (fLat (xI g (D + 5)) (xI g (D + 6)) p d nb)) (xix (xI g (D + 7) (xix (fLat (xI g (D + 5)) (xI g (D + 6)) p d nb)))) (xix (xI g (D + 7) (xix (fLat (xI g (D + 5)) (xI g (D + 6)) p d nb)))) else 0
theorem areaM_tail {k' : Int32} (h : Mx u g D s nl np nb nc nr nh nk) : zr 228 26 [.ref 278, .int p, .int d, .int k', .null, .null, .null, .null, .null] [] u P = P (some (.int (dAr g D nb p d))) (mGood u) := by
  have hB := fun P => boundOn_run (p := p) (d := d) (P := P) h.1 h.2.1.1 h.2.2
  have hN := fun P => manyOn_run (p := p) (d := d) (P := P) h.1 h.2.1.1 h.2.2
  have hb := h.2.1.1.b
  have h0 := h.1.1
  rcases h.2.1.1.bd (p := p) (d := d) with q | ⟨k, c, hk, hc6, q, ec⟩
  · have e : fCo (xI g (D + 5)) (xI g (D + 6)) (xI g (D + 7)) p d nb = 0 := by unfold fCo; rw [q, if_neg (by decide)]
    unfold dAr
    rw [q, if_neg (by decide)]
    simp only [r228_26, r228_27, r228_28, r228_29, r228_32, r228_34, r228_35, r228_36, r228_37, r228_40, r228_42, r228_43, r228_45, r228_46, h0, hB, hN, q, e, true_and, and_true, Option.some.injEq, exists_eq_left', Option.toList_some, Option.toList_none, List.cons_append, List.nil_append, xcat_nil, xcat_int, xcat_ref, xcat_long, not_true, not_false_iff, if_true, if_false, and_self, and_false, false_and, or_true, true_or, or_self, z01, z10, zle8, Nat.reduceAdd, Nat.reduceLeDiff]
    rw [r228_48]
    simp only [r228_50, r228_52, r228_55, r228_57, r228_58, r228_59, r228_61, r228_62, r228_64, r228_66, r228_67, r228_69, r228_71, r228_74, r228_75, r228_77, r228_79, r228_82, r228_83, r228_84, r228_86, r228_88, r228_91, r228_92, r228_94, r228_96, r228_99, r228_100, r228_101, r228_102, r228_104, r228_107, r228_110, r228_111, r228_113, r228_116, h0, good_run h0, show (0 : Int32) ≤ 0 by decide, true_and, and_true, Option.some.injEq, exists_eq_left', Option.toList_some, Option.toList_none, List.cons_append, List.nil_append, xcat_nil, xcat_int, xcat_ref, xcat_long, not_true, not_false_iff, if_true, if_false, and_self, and_false, false_and, or_true, true_or, or_self, z01, z10, zle8, Nat.reduceAdd, Nat.reduceLeDiff]
  · have q6 : xix (nI k) = k := xix_nI (by omega)
    have k3 : xix (nI c) = c := xix_nI (by omega)
    have e : fCo (xI g (D + 5)) (xI g (D + 6)) (xI g (D + 7)) p d nb = nI c := by unfold fCo; rw [q, if_pos (nI_pos' (by omega)), q6, ec]
    unfold dAr
    rw [q, if_pos (nI_pos' (by omega)), q6, ec, k3, ← area_turn]
    have lp : ∀ r i v, i + r = c → zr 228 48 [.ref 278, .int p, .int d, .int k', .int (nI k), .int (nI c), .int (mSm (eAr (xI g (D + 8)) (xI g (D + 9))) (6 * k) c i), .int (nI i), v] [] u P = P (some (.int (mSm (eAr (xI g (D + 8)) (xI g (D + 9))) (6 * k) c c))) (mGood u) := by
      intro r
      induction r with
      | zero =>
        intro i v hi
        have : i = c := by omega
        subst this
        rw [r228_48]
        simp (disch := omega) only [r228_50, r228_52, r228_55, r228_57, r228_58, r228_59, r228_61, r228_62, r228_64, r228_66, r228_67, r228_69, r228_71, r228_74, r228_75, r228_77, r228_79, r228_82, r228_83, r228_84, r228_86, r228_88, r228_91, r228_92, r228_94, r228_96, r228_99, r228_100, r228_101, r228_102, r228_104, r228_107, r228_110, r228_111, r228_113, r228_116, h0, good_run h0, xinbT, xixT, leT, leF, ltT, ltF, ngF, psT, n1F, n2F, km2, km3, km4, km5, km10, km15, km25, kl8, kl14, kl24, kl34, kl274, kl354, kl384, kr1, kr2, kr3, kr4, kr5, kr6, kr7, kr8, kr9, kaa, lb0, lb1, lb2, lb3, lb4, lb5, lb6, lb7, li0, li1, li2, li3, li4, li5, li6, li7, true_and, and_true, Option.some.injEq, exists_eq_left', Option.toList_some, Option.toList_none, List.cons_append, List.nil_append, xcat_nil, xcat_int, xcat_ref, xcat_long, not_true, not_false_iff, if_true, if_false, and_self, and_false, false_and, or_true, true_or, or_self, z01, z10, zle8, Nat.reduceAdd, Nat.reduceLeDiff]
      | succ r ih =>
        intro i v hi
        have q1 : ¬ nI c = 0 := nI_ne0 (by omega) (by omega)
        have qr : nI (i + 1) - nI (i + 1) / nI c * nI c = nI ((i + 1) % c) := pk_rem (by omega) (by omega) (by omega)
        have hmod : (i + 1) % c < c := Nat.mod_lt _ (by omega)
        have x1 := fun P => xOf_run (P := P) h.1 h.2.2 (b := k) (i := i) hk (by omega) (by rw [ec, k3]; omega) (by omega)
        have y1 := fun P => yOf_run (P := P) h.1 h.2.2 (b := k) (i := i) hk (by omega) (by rw [ec, k3]; omega) (by omega)
        have x2 := fun P => xOf_run (P := P) h.1 h.2.2 (b := k) (i := (i + 1) % c) hk (by omega) (by rw [ec, k3]; exact hmod) (by omega)
        have y2 := fun P => yOf_run (P := P) h.1 h.2.2 (b := k) (i := (i + 1) % c) hk (by omega) (by rw [ec, k3]; exact hmod) (by omega)
        have ih := ih (i + 1) (.int (nI ((i + 1) % c))) (by omega)
        simp only [mSm, eAr] at ih
        rw [r228_48]
        simp (disch := omega) only [r228_50, r228_52, r228_55, r228_57, r228_58, r228_59, r228_61, r228_62, r228_64, r228_66, r228_67, r228_69, r228_71, r228_74, r228_75, r228_77, r228_79, r228_82, r228_83, r228_84, r228_86, r228_88, r228_91, r228_92, r228_94, r228_96, r228_99, r228_100, r228_101, r228_102, r228_104, r228_107, h0, x1, x2, y1, y2, q1, qr, xinbT, xixT, leT, leF, ltT, ltF, ngF, psT, n1F, n2F, km2, km3, km4, km5, km10, km15, km25, kl8, kl14, kl24, kl34, kl274, kl354, kl384, kr1, kr2, kr3, kr4, kr5, kr6, kr7, kr8, kr9, kaa, lb0, lb1, lb2, lb3, lb4, lb5, lb6, lb7, li0, li1, li2, li3, li4, li5, li6, li7, true_and, and_true, Option.some.injEq, exists_eq_left', Option.toList_some, Option.toList_none, List.cons_append, List.nil_append, xcat_nil, xcat_int, xcat_ref, xcat_long, not_true, not_false_iff, if_true, if_false, and_self, and_false, false_and, or_true, true_or, or_self, z01, z10, zle8, Nat.reduceAdd, Nat.reduceLeDiff]
        exact ih
    simp only [r228_26, r228_27, r228_28, r228_29, r228_32, r228_34, r228_35, r228_36, r228_37, r228_40, r228_42, r228_43, r228_45, r228_46, h0, hB, hN, q, e, true_and, and_true, Option.some.injEq, exists_eq_left', Option.toList_some, Option.toList_none, List.cons_append, List.nil_append, xcat_nil, xcat_int, xcat_ref, xcat_long, not_true, not_false_iff, if_true, if_false, and_self, and_false, false_and, or_true, true_or, or_self, z01, z10, zle8, Nat.reduceAdd, Nat.reduceLeDiff]
    exact lp c 0 .null (by omega)
theorem isBetween_run : zr 232 0 [.int x, .int y, .int c] [] u P = P (some (.int (bI (decide ((if c < y then c else y) ≤ x ∧ x ≤ (if y < c then c else y)))))) u := by
  simp only [r232_0, r232_1, r232_2, r232_5, r232_6, r232_7, r232_8, r232_11, r232_14, r232_15, r232_16, r232_17, r232_20, in_run, bI_01, true_and, and_true, Option.some.injEq, exists_eq_left', Option.toList_some, Option.toList_none, List.cons_append, List.nil_append, xcat_nil, xcat_int, xcat_ref, xcat_long, not_true, not_false_iff, if_true, if_false, and_self, and_false, false_and, or_true, true_or, or_self, z01, z10, zle8, Nat.reduceAdd, Nat.reduceLeDiff]
  by_cases q : y < c
  · have q2 : ¬ c < y := by rw [i32_lt] at q ⊢; omega
    simp only [if_pos q, if_neg q2, i32_nle.mpr q, true_and, and_true, Option.some.injEq, exists_eq_left', Option.toList_some, Option.toList_none, List.cons_append, List.nil_append, xcat_nil, xcat_int, xcat_ref, xcat_long, not_true, not_false_iff, if_true, if_false, and_self, and_false, false_and, or_true, true_or, or_self, z01, z10, zle8, Nat.reduceAdd, Nat.reduceLeDiff]
  · simp only [if_neg q, i32_nlt.mp q, true_and, and_true, Option.some.injEq, exists_eq_left', Option.toList_some, Option.toList_none, List.cons_append, List.nil_append, xcat_nil, xcat_int, xcat_ref, xcat_long, not_true, not_false_iff, if_true, if_false, and_self, and_false, false_and, or_true, true_or, or_self, z01, z10, zle8, Nat.reduceAdd, Nat.reduceLeDiff]
    by_cases q2 : c < y
    · rw [if_pos q2]
    · have : c = y := by rw [i32_eq]; rw [i32_lt] at q q2; omega
      rw [this, if_neg (by rw [i32_lt]; omega)]
/-- the point lies on an edge that a place has on a day -/
def dTo (g : xMem) (D nb : Nat) (p d x y : Int32) : Bool := if 0 ≤ fLat (xI g (D + 5)) (xI g (D + 6)) p d nb then fTc (xI g (D + 8)) (xI g (D + 9)) x y (6 * xix (fLat (xI g (D + 5)) (xI g (D + 6)) p d nb)) (xix (xI g (D + 7) (xix (fLat (xI g (D + 5)) (xI g (D + 6)) p d nb)))) (xix (xI g (D + 7) (xix (fLat (xI g (D + 5)) (xI g (D + 6)) p d nb)))) 0 else false
theorem edgeM_tail {k' : Int32} (h : Mx u g D s nl np nb nc nr nh nk) : zr 233 32 [.ref 278, .int p, .int d, .int x, .int y, .int k', .null, .null, .null, .null, .null, .null] [] u P = P (some (.int (bI (dTo g D nb p d x y)))) (mGood u) := by
  have hB := fun P => boundOn_run (p := p) (d := d) (P := P) h.1 h.2.1.1 h.2.2
  have hN := fun P => manyOn_run (p := p) (d := d) (P := P) h.1 h.2.1.1 h.2.2
  have hb := h.2.1.1.b
  have h0 := h.1.1
  rcases h.2.1.1.bd (p := p) (d := d) with q | ⟨k, c, hk, hc6, q, ec⟩
  · have e : fCo (xI g (D + 5)) (xI g (D + 6)) (xI g (D + 7)) p d nb = 0 := by unfold fCo; rw [q, if_neg (by decide)]
    unfold dTo
    rw [q, if_neg (by decide)]
    simp only [r233_32, r233_33, r233_34, r233_35, r233_38, r233_40, r233_41, r233_42, r233_43, r233_46, r233_48, r233_49, r233_51, r233_52, h0, hB, hN, q, e, true_and, and_true, Option.some.injEq, exists_eq_left', Option.toList_some, Option.toList_none, List.cons_append, List.nil_append, xcat_nil, xcat_int, xcat_ref, xcat_long, not_true, not_false_iff, if_true, if_false, and_self, and_false, false_and, or_true, true_or, or_self, z01, z10, zle8, Nat.reduceAdd, Nat.reduceLeDiff]
    rw [r233_54]
    simp only [r233_56, r233_58, r233_61, r233_63, r233_64, r233_65, r233_67, r233_68, r233_70, r233_71, r233_73, r233_75, r233_78, r233_79, r233_81, r233_83, r233_86, r233_87, r233_89, r233_90, r233_92, r233_94, r233_97, r233_98, r233_99, r233_100, r233_102, r233_104, r233_107, r233_108, r233_110, r233_112, r233_115, r233_116, r233_117, r233_118, r233_120, r233_122, r233_125, r233_126, r233_127, r233_128, r233_130, r233_132, r233_135, r233_137, r233_140, r233_141, r233_142, r233_144, r233_146, r233_149, r233_150, r233_152, r233_154, r233_157, r233_160, r233_163, r233_165, r233_166, r233_168, r233_170, r233_173, r233_174, r233_176, r233_178, r233_181, r233_184, r233_187, r233_188, r233_191, r233_192, r233_194, r233_197, r233_200, r233_201, r233_203, r233_206, r233_207, r233_210, r233_211, r233_214, h0, good_run h0, show (0 : Int32) ≤ 0 by decide, bI_f, true_and, and_true, Option.some.injEq, exists_eq_left', Option.toList_some, Option.toList_none, List.cons_append, List.nil_append, xcat_nil, xcat_int, xcat_ref, xcat_long, not_true, not_false_iff, if_true, if_false, and_self, and_false, false_and, or_true, true_or, or_self, z01, z10, zle8, Nat.reduceAdd, Nat.reduceLeDiff]
  · have q6 : xix (nI k) = k := xix_nI (by omega)
    have k3 : xix (nI c) = c := xix_nI (by omega)
    have e : fCo (xI g (D + 5)) (xI g (D + 6)) (xI g (D + 7)) p d nb = nI c := by unfold fCo; rw [q, if_pos (nI_pos' (by omega)), q6, ec]
    unfold dTo
    rw [q, if_pos (nI_pos' (by omega)), q6, ec, k3, touch_turn]
    have lp : ∀ r i v v', i + r = c → zr 233 54 [.ref 278, .int p, .int d, .int x, .int y, .int k', .int (nI k), .int (nI c), .int (bI (mAny (fOn (xI g (D + 8)) (xI g (D + 9)) x y) (6 * k) c i)), .int (nI i), v, v'] [] u P = P (some (.int (bI (mAny (fOn (xI g (D + 8)) (xI g (D + 9)) x y) (6 * k) c c)))) (mGood u) := by
      intro r
      induction r with
      | zero =>
        intro i v v' hi
        have : i = c := by omega
        subst this
        rw [r233_54]
        simp (disch := omega) only [r233_56, r233_58, r233_200, r233_201, r233_203, r233_206, r233_207, r233_210, r233_211, r233_214, h0, good_run h0, bI_0, xinbT, xixT, leT, leF, ltT, ltF, ngF, psT, n1F, n2F, km2, km3, km4, km5, km10, km15, km25, kl8, kl14, kl24, kl34, kl274, kl354, kl384, kr1, kr2, kr3, kr4, kr5, kr6, kr7, kr8, kr9, kaa, lb0, lb1, lb2, lb3, lb4, lb5, lb6, lb7, li0, li1, li2, li3, li4, li5, li6, li7, true_and, and_true, Option.some.injEq, exists_eq_left', Option.toList_some, Option.toList_none, List.cons_append, List.nil_append, xcat_nil, xcat_int, xcat_ref, xcat_long, not_true, not_false_iff, if_true, if_false, and_self, and_false, false_and, or_true, true_or, or_self, z01, z10, zle8, Nat.reduceAdd, Nat.reduceLeDiff]
        cases mAny (fOn (xI g (D + 8)) (xI g (D + 9)) x y) (6 * k) i i <;> simp only [bI_t, bI_f, Bool.true_eq_false, true_and, and_true, Option.some.injEq, exists_eq_left', Option.toList_some, Option.toList_none, List.cons_append, List.nil_append, xcat_nil, xcat_int, xcat_ref, xcat_long, not_true, not_false_iff, if_true, if_false, and_self, and_false, false_and, or_true, true_or, or_self, z01, z10, zle8, Nat.reduceAdd, Nat.reduceLeDiff]
      | succ r ih =>
        intro i v v' hi
        have q1 : ¬ nI c = 0 := nI_ne0 (by omega) (by omega)
        have qr : nI (i + 1) - nI (i + 1) / nI c * nI c = nI ((i + 1) % c) := pk_rem (by omega) (by omega) (by omega)
        have hmod : (i + 1) % c < c := Nat.mod_lt _ (by omega)
        have x1 := fun P => xOf_run (P := P) h.1 h.2.2 (b := k) (i := i) hk (by omega) (by rw [ec, k3]; omega) (by omega)
        have y1 := fun P => yOf_run (P := P) h.1 h.2.2 (b := k) (i := i) hk (by omega) (by rw [ec, k3]; omega) (by omega)
        have x2 := fun P => xOf_run (P := P) h.1 h.2.2 (b := k) (i := (i + 1) % c) hk (by omega) (by rw [ec, k3]; exact hmod) (by omega)
        have y2 := fun P => yOf_run (P := P) h.1 h.2.2 (b := k) (i := (i + 1) % c) hk (by omega) (by rw [ec, k3]; exact hmod) (by omega)
        have ih := fun v' => ih (i + 1) (.int (nI ((i + 1) % c))) v' (by omega)
        simp only [mAny, fOn] at ih
        rw [r233_54]
        simp (disch := omega) only [r233_56, r233_58, r233_61, r233_63, r233_64, r233_65, r233_67, r233_68, r233_70, r233_71, r233_73, r233_75, r233_78, r233_79, r233_81, r233_83, r233_86, r233_87, r233_89, r233_90, r233_92, r233_94, r233_97, r233_98, r233_99, r233_100, r233_102, r233_104, r233_107, r233_108, r233_110, r233_112, r233_115, r233_116, r233_117, r233_118, r233_120, r233_122, r233_125, r233_126, r233_127, r233_128, r233_130, r233_132, r233_135, r233_137, r233_140, r233_141, r233_142, r233_144, r233_146, r233_149, r233_150, r233_152, r233_154, r233_157, r233_160, r233_163, r233_165, r233_166, r233_168, r233_170, r233_173, r233_174, r233_176, r233_178, r233_181, r233_184, r233_187, r233_188, r233_191, r233_192, r233_194, r233_197, h0, x1, x2, y1, y2, q1, qr, isBetween_run, bI_0, xinbT, xixT, leT, leF, ltT, ltF, ngF, psT, n1F, n2F, km2, km3, km4, km5, km10, km15, km25, kl8, kl14, kl24, kl34, kl274, kl354, kl384, kr1, kr2, kr3, kr4, kr5, kr6, kr7, kr8, kr9, kaa, lb0, lb1, lb2, lb3, lb4, lb5, lb6, lb7, li0, li1, li2, li3, li4, li5, li6, li7, true_and, and_true, Option.some.injEq, exists_eq_left', Option.toList_some, Option.toList_none, List.cons_append, List.nil_append, xcat_nil, xcat_int, xcat_ref, xcat_long, not_true, not_false_iff, if_true, if_false, and_self, and_false, false_and, or_true, true_or, or_self, z01, z10, zle8, Nat.reduceAdd, Nat.reduceLeDiff]
        generalize mAny (fOn (xI g (D + 8)) (xI g (D + 9)) x y) (6 * k) c i = o at ih ⊢
        by_cases g1 : (xI g (D + 8) (6 * k + (i + 1) % c) - xI g (D + 8) (6 * k + i)) * (y - xI g (D + 9) (6 * k + i)) - (xI g (D + 9) (6 * k + (i + 1) % c) - xI g (D + 9) (6 * k + i)) * (x - xI g (D + 8) (6 * k + i)) = 0
        · simp only [g1, decide_true, Bool.true_and, true_and, and_true, Option.some.injEq, exists_eq_left', Option.toList_some, Option.toList_none, List.cons_append, List.nil_append, xcat_nil, xcat_int, xcat_ref, xcat_long, not_true, not_false_iff, if_true, if_false, and_self, and_false, false_and, or_true, true_or, or_self, z01, z10, zle8, Nat.reduceAdd, Nat.reduceLeDiff] at ih ⊢
          generalize decide ((if xI g (D + 8) (6 * k + (i + 1) % c) < xI g (D + 8) (6 * k + i) then xI g (D + 8) (6 * k + (i + 1) % c) else xI g (D + 8) (6 * k + i)) ≤ x ∧ x ≤ (if xI g (D + 8) (6 * k + i) < xI g (D + 8) (6 * k + (i + 1) % c) then xI g (D + 8) (6 * k + (i + 1) % c) else xI g (D + 8) (6 * k + i))) = b1 at ih ⊢
          generalize decide ((if xI g (D + 9) (6 * k + (i + 1) % c) < xI g (D + 9) (6 * k + i) then xI g (D + 9) (6 * k + (i + 1) % c) else xI g (D + 9) (6 * k + i)) ≤ y ∧ y ≤ (if xI g (D + 9) (6 * k + i) < xI g (D + 9) (6 * k + (i + 1) % c) then xI g (D + 9) (6 * k + (i + 1) % c) else xI g (D + 9) (6 * k + i))) = b2 at ih ⊢
          cases o <;> cases b1 <;> cases b2 <;> simp only [Bool.false_or, Bool.true_or, Bool.true_and, Bool.false_and, Bool.and_false, Bool.true_eq_false, Bool.false_eq_true, bI_t, bI_f, true_and, and_true, Option.some.injEq, exists_eq_left', Option.toList_some, Option.toList_none, List.cons_append, List.nil_append, xcat_nil, xcat_int, xcat_ref, xcat_long, not_true, not_false_iff, if_true, if_false, and_self, and_false, false_and, or_true, true_or, or_self, z01, z10, zle8, Nat.reduceAdd, Nat.reduceLeDiff] at ih ⊢ <;> exact ih _
        · simp only [g1, decide_false, Bool.false_and, Bool.or_false, true_and, and_true, Option.some.injEq, exists_eq_left', Option.toList_some, Option.toList_none, List.cons_append, List.nil_append, xcat_nil, xcat_int, xcat_ref, xcat_long, not_true, not_false_iff, if_true, if_false, and_self, and_false, false_and, or_true, true_or, or_self, z01, z10, zle8, Nat.reduceAdd, Nat.reduceLeDiff] at ih ⊢
          cases o <;> simp only [Bool.true_eq_false, bI_t, bI_f, true_and, and_true, Option.some.injEq, exists_eq_left', Option.toList_some, Option.toList_none, List.cons_append, List.nil_append, xcat_nil, xcat_int, xcat_ref, xcat_long, not_true, not_false_iff, if_true, if_false, and_self, and_false, false_and, or_true, true_or, or_self, z01, z10, zle8, Nat.reduceAdd, Nat.reduceLeDiff] at ih ⊢ <;> exact ih _
    simp only [r233_32, r233_33, r233_34, r233_35, r233_38, r233_40, r233_41, r233_42, r233_43, r233_46, r233_48, r233_49, r233_51, r233_52, h0, hB, hN, q, e, true_and, and_true, Option.some.injEq, exists_eq_left', Option.toList_some, Option.toList_none, List.cons_append, List.nil_append, xcat_nil, xcat_int, xcat_ref, xcat_long, not_true, not_false_iff, if_true, if_false, and_self, and_false, false_and, or_true, true_or, or_self, z01, z10, zle8, Nat.reduceAdd, Nat.reduceLeDiff]
    exact lp c 0 .null .null (by omega)
theorem nextMoveM_tail (h : Mx u g D s nl np nb nc nr nh nk) : zr 234 26 [.ref 278, .int p, .int d, .int k, .null] [] u P = P (some (.int (fNx (xI g (D + 5)) (xI g (D + 6)) p d nb 0))) (mGood u) := by
  have hb := h.2.1.1.b
  obtain ⟨-, -, -, -, h4, -⟩ := h.2.1.1.e h.2.2
  have hc := h.2.2
  obtain ⟨h0, ⟨r3, -⟩, ⟨j0, k0⟩, -⟩ := h.1
  have lp : ∀ r i, i + r = nb → zr 234 29 [.ref 278, .int p, .int d, .int k, .int (nI i)] [] u P = P (some (.int (fNx (xI g (D + 5)) (xI g (D + 6)) p d r i))) (mGood u) := by
    intro r
    induction r with
    | zero =>
      intro i hi
      have : i = nb := by omega
      subst this
      rw [r234_29]
      simp (disch := omega) only [r234_31, r234_32, r234_35, r234_36, r234_37, r234_40, r234_41, r234_44, r234_46, r234_49, r234_50, r234_51, r234_54, r234_55, r234_58, r234_60, r234_63, r234_64, r234_65, r234_66, r234_67, r234_70, r234_71, r234_72, r234_75, r234_77, r234_80, r234_81, r234_82, r234_83, r234_86, r234_87, r234_90, r234_93, r234_94, r234_96, r234_99, h0, r3, j0, k0, h4, good_run h0, fNx, xinbT, xixT, leT, leF, ltT, ltF, ngF, psT, n1F, n2F, km2, km3, km4, km5, km10, km15, km25, kl8, kl14, kl24, kl34, kl274, kl354, kl384, kr1, kr2, kr3, kr4, kr5, kr6, kr7, kr8, kr9, kaa, lb0, lb1, lb2, lb3, lb4, lb5, lb6, lb7, li0, li1, li2, li3, li4, li5, li6, li7, true_and, and_true, Option.some.injEq, exists_eq_left', Option.toList_some, Option.toList_none, List.cons_append, List.nil_append, xcat_nil, xcat_int, xcat_ref, xcat_long, not_true, not_false_iff, if_true, if_false, and_self, and_false, false_and, or_true, true_or, or_self, z01, z10, zle8, Nat.reduceAdd, Nat.reduceLeDiff]
    | succ r ih =>
      intro i hi
      have ih := ih (i + 1) (by omega)
      obtain ⟨a1, a2, -⟩ := hc.bo (i := i) (by omega)
      rw [r234_29]
      simp (disch := omega) only [r234_31, r234_32, r234_35, r234_36, r234_37, r234_40, r234_41, r234_44, r234_46, r234_49, r234_50, r234_51, r234_54, r234_55, r234_58, r234_60, r234_63, r234_64, r234_65, r234_66, r234_67, r234_70, r234_71, r234_72, r234_75, r234_77, r234_80, r234_81, r234_82, r234_83, r234_86, r234_87, r234_90, r234_93, r234_94, r234_96, r234_99, boundAt_run, h0, r3, j0, k0, h4, a1, a2, good_run h0, ih, fNx, xinbT, xixT, leT, leF, ltT, ltF, ngF, psT, n1F, n2F, km2, km3, km4, km5, km10, km15, km25, kl8, kl14, kl24, kl34, kl274, kl354, kl384, kr1, kr2, kr3, kr4, kr5, kr6, kr7, kr8, kr9, kaa, lb0, lb1, lb2, lb3, lb4, lb5, lb6, lb7, li0, li1, li2, li3, li4, li5, li6, li7, true_and, and_true, Option.some.injEq, exists_eq_left', Option.toList_some, Option.toList_none, List.cons_append, List.nil_append, xcat_nil, xcat_int, xcat_ref, xcat_long, not_true, not_false_iff, if_true, if_false, and_self, and_false, false_and, or_true, true_or, or_self, z01, z10, zle8, Nat.reduceAdd, Nat.reduceLeDiff]
      by_cases g1 : xI g (D + 5) i = p
      · by_cases g2 : d < xI g (D + 6) i
        · simp only [g1, g2, i32_nle.mpr g2, true_and, and_true, Option.some.injEq, exists_eq_left', Option.toList_some, Option.toList_none, List.cons_append, List.nil_append, xcat_nil, xcat_int, xcat_ref, xcat_long, not_true, not_false_iff, if_true, if_false, and_self, and_false, false_and, or_true, true_or, or_self, z01, z10, zle8, Nat.reduceAdd, Nat.reduceLeDiff]
        · simp only [g1, g2, i32_nlt.mp g2, true_and, and_true, Option.some.injEq, exists_eq_left', Option.toList_some, Option.toList_none, List.cons_append, List.nil_append, xcat_nil, xcat_int, xcat_ref, xcat_long, not_true, not_false_iff, if_true, if_false, and_self, and_false, false_and, or_true, true_or, or_self, z01, z10, zle8, Nat.reduceAdd, Nat.reduceLeDiff]
      · simp only [g1, true_and, and_true, Option.some.injEq, exists_eq_left', Option.toList_some, Option.toList_none, List.cons_append, List.nil_append, xcat_nil, xcat_int, xcat_ref, xcat_long, not_true, not_false_iff, if_true, if_false, and_self, and_false, false_and, or_true, true_or, or_self, z01, z10, zle8, Nat.reduceAdd, Nat.reduceLeDiff]
  simp only [r234_26, r234_27]
  exact lp nb 0 (by omega)
end
