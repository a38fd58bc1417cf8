/-! FEED in class and model -/
theorem nar_byte (x : Int32) : vp_nar .byte x = x.toInt8.toInt32 := rfl
/-- a byte of a number -/
def bt (v s : Int32) : Int32 := vp_nar .byte (v >>> (s &&& 31)).toInt8.toInt32
theorem bt_rg (v s : Int32) : -128 ≤ bt v s ∧ bt v s ≤ 127 := by
  unfold bt
  rw [nar_byte]
  generalize (v >>> (s &&& 31)).toInt8.toInt32.toInt8 = y
  have h1 := Int8.le_toInt y
  have h2 := Int8.toInt_lt y
  have e : y.toInt32.toInt = y.toInt := Int8.toInt_toInt32 y
  rw [i32_le, i32_le, e]
  have e1 : (-128 : Int32).toInt = -128 := rfl
  have e2 : (127 : Int32).toInt = 127 := rfl
  omega
/-- k bytes fed into A, counted in (c, s) -/
def fdM (u : xMem) (A c s f k : Nat) (B : Nat → Int32) : xMem := (u.1, (fun b j => if b = A ∧ f ≤ j ∧ j < f + k then B (j - f) else if b = c ∧ j = s then nI (f + k) else u.2.1 b j), u.2.2)
theorem xI_fd {u : xMem} {A c s f k b j : Nat} {B : Nat → Int32} : xI (fdM u A c s f k B) b j = if b = A ∧ f ≤ j ∧ j < f + k then B (j - f) else if b = c ∧ j = s then nI (f + k) else xI u b j := rfl
theorem fdM_0 {u : xMem} {A c s f : Nat} {B : Nat → Int32} (h : xI u c s = nI f) : fdM u A c s f 0 B = u := by
  refine xm_ext rfl (fun b j => ?_) (fun b j => rfl) rfl
  rw [xI_fd, if_neg (by omega)]
  by_cases z : b = c ∧ j = s
  · rw [if_pos z, z.1, z.2, h]
    rfl
  · rw [if_neg z]
theorem fdM_s {u : xMem} {A c s f k : Nat} {B : Nat → Int32} (hA : A ≠ c) : xsI (xsI (fdM u A c s f k B) A (f + k) (B k)) c s (nI (f + k + 1)) = fdM u A c s f (k + 1) B := by
  refine xm_ext rfl (fun b j => ?_) (fun b j => rfl) rfl
  rw [xI_sI, xI_sI, xI_fd, xI_fd]
  by_cases z : b = c ∧ j = s
  · rw [if_pos z, if_neg (by omega), if_pos z]
    rfl
  · rw [if_neg z, if_neg z]
    by_cases z2 : b = A ∧ j = f + k
    · rw [if_pos z2, if_pos (by omega), z2.2, show f + k - f = k by omega]
    · rw [if_neg z2]
      by_cases z3 : b = A ∧ f ≤ j ∧ j < f + k
      · rw [if_pos z3, if_pos (by omega)]
      · rw [if_neg z3, if_neg (by omega), if_neg z]
section
variable {u w g : xMem} {P : Option Value → xMem → Prop} {D E s nl np nb nc nr nh nk n nf na f : Nat} {p q d x y c e k a t i l what many layer till price units : Int32} {op : Bool}
theorem append_run {B : Nat → Int32} {v : Int32} {k : Nat} (h : sTp u 2) (hk : f + k + 4 ≤ 1200) (h0 : B k = bt v 24) (h1 : B (k + 1) = bt v 16) (h2 : B (k + 2) = bt v 8) (h3 : B (k + 3) = bt v 0) : zr 87 0 [.ref 2, .int v, .null] [] (fdM u 3 2 1 f k B) P = P none (fdM u 3 2 1 f (k + 4) B) := by
  have sp : ∀ i, sTp (fdM u 3 2 1 f i B) 2 := fun i => h
  have cn : ∀ i, xI (fdM u 3 2 1 f i B) 2 1 = nI (f + i) := fun i => by rw [xI_fd, if_neg (by omega), if_pos ⟨rfl, rfl⟩]
  have st : ∀ i (sh : Int32), f + i < 1200 → ¬ sh < 0 → B i = bt v sh → zr 87 3 [.ref 2, .int v, .int sh] [] (fdM u 3 2 1 f i B) P = zr 87 3 [.ref 2, .int v, .int (sh + -8)] [] (fdM u 3 2 1 f (i + 1) B) P := fun i sh hi hs hB => by
    obtain ⟨i0, r0, ⟨j0, n0⟩⟩ := sp i
    have cn := cn i
    have c2 : ∀ z, xI (xsI (fdM u 3 2 1 f i B) (2 + 1) (f + i) z) 2 1 = nI (f + i) := fun z => by rw [xI_ne (by omega)]; exact cn
    have e := fdM_s (u := u) (A := 3) (c := 2) (s := 1) (f := f) (k := i) (B := B) (by omega)
    rw [hB] at e
    unfold bt at e
    rw [r87_3]
    simp (disch := omega) only [r87_4, r87_7, r87_8, r87_11, r87_12, r87_15, r87_16, r87_17, r87_18, r87_19, r87_20, r87_21, r87_22, r87_25, r87_26, r87_27, r87_30, r87_33, hs, i0, r0, j0, n0, cn, c2, xIs_sI, xR_sI, xN_sI, xinbT, xixT, leT, leF, ltT, ltF, ngF, psT, n1F, n2F, km2, km3, km4, km5, km10, km15, km25, kl8, kl14, kl24, kl34, kl274, kl354, kl384, kr1, kr2, kr3, kr4, kr5, kr6, kr7, kr8, kr9, kaa, lb0, lb1, lb2, lb3, lb4, lb5, lb6, lb7, li0, li1, li2, li3, li4, li5, li6, li7, true_and, and_true, Option.some.injEq, exists_eq_left', Option.toList_some, Option.toList_none, List.cons_append, List.nil_append, xcat_nil, xcat_int, xcat_ref, xcat_long, not_true, not_false_iff, if_true, if_false, and_self, and_false, false_and, or_true, true_or, or_self, z01, z10, zle8, Nat.reduceAdd, Nat.reduceLeDiff]
    rw [← e]
  have e24 := st k 24 (by omega) (by decide) h0
  have e16 := st (k + 1) 16 (by omega) (by decide) h1
  have e8 := st (k + 2) 8 (by omega) (by decide) h2
  have e0 := st (k + 3) 0 (by omega) (by decide) h3
  simp only [r87_0, r87_2]
  rw [e24, show (24 : Int32) + -8 = 16 from rfl, e16, show (16 : Int32) + -8 = 8 from rfl, e8, show (8 : Int32) + -8 = 0 from rfl, e0, show (0 : Int32) + -8 = -8 from rfl, r87_3]
  simp only [r87_4, r87_36, show (-8 : Int32) < 0 by decide, true_and, and_true, Option.some.injEq, exists_eq_left', Option.toList_some, Option.toList_none, List.cons_append, List.nil_append, xcat_nil, xcat_int, xcat_ref, xcat_long, not_true, not_false_iff, if_true, if_false, and_self, and_false, false_and, or_true, true_or, or_self, z01, z10, zle8, Nat.reduceAdd, Nat.reduceLeDiff]
/-- the number that byte k is of -/
def selB (a b c d e : Int32) (k : Nat) : Int32 := if k < 4 then a else if k < 8 then b else if k < 12 then c else if k < 16 then d else e
def byB (a b c d e : Int32) (k : Nat) : Int32 := bt (selB a b c d e k) (nI (24 - 8 * (k % 4)))
theorem feedM_run {b : Int32} (hM : sMd u) (ht : xI u 278 9 = nI f) (hf : f + 20 ≤ 1200) : zr 208 20 [.ref 278, .int a, .int b, .int c, .int d, .int e, .null, .null] [] u P = P (some (.int (nI (f + 20)))) (fdM u 283 278 9 f 20 (byB a b c d e)) := by
  have sp : ∀ i, sMd (fdM u 283 278 9 f i (byB a b c d e)) := fun i => hM
  have cn : ∀ i, xI (fdM u 283 278 9 f i (byB a b c d e)) 278 9 = nI (f + i) := fun i => by rw [xI_fd, if_neg (by omega), if_pos ⟨rfl, rfl⟩]
  have lp : ∀ r i v7, i + r = 20 → zr 208 23 [.ref 278, .int a, .int b, .int c, .int d, .int e, .int (nI i), v7] [] (fdM u 283 278 9 f i (byB a b c d e)) P = P (some (.int (nI (f + 20)))) (fdM u 283 278 9 f 20 (byB a b c d e)) := by
    intro r
    induction r with
    | zero =>
      intro i v7 hi
      have : i = 20 := by omega
      subst this
      rw [r208_23]
      simp (disch := omega) only [r208_25, r208_27, r208_117, r208_118, r208_121, (sp 20).1, cn 20, show (20 : Int32) ≤ nI 20 by decide, true_and, and_true, Option.some.injEq, exists_eq_left', Option.toList_some, Option.toList_none, List.cons_append, List.nil_append, xcat_nil, xcat_int, xcat_ref, xcat_long, not_true, not_false_iff, if_true, if_false, and_self, and_false, false_and, or_true, true_or, or_self, z01, z10, zle8, Nat.reduceAdd, Nat.reduceLeDiff]
    | succ r ih =>
      intro i v7 hi
      have ih := fun v7 => ih (i + 1) v7 (by omega)
      obtain ⟨h0, ⟨-, -, -, -, r8, -⟩, -, -, -, -, ⟨j0, k0⟩, -⟩ := sp i
      have cn := cn i
      have c2 : ∀ z, xI (xsI (fdM u 283 278 9 f i (byB a b c d e)) 283 (f + i) z) 278 9 = nI (f + i) := fun z => by rw [xI_ne (by omega)]; exact cn
      have q20 : ¬ (20 : Int32) ≤ nI i := nI_ge (a := i) (b := 20) (by omega) (by omega)
      have q4 : ¬ (4 : Int32) = 0 := by decide
      have qr : nI i - nI i / 4 * 4 = nI (i % 4) := pk_rem (a := i) (d := 4) (by omega) (by omega) (by omega)
      have q24 : (24 : Int32) - 8 * nI (i % 4) = nI (24 - 8 * (i % 4)) := by
        rw [show (8 : Int32) = nI 8 from rfl, show (24 : Int32) = nI 24 from rfl, mul_nI, subI (by omega) (by omega)]
      have e' := fdM_s (u := u) (A := 283) (c := 278) (s := 9) (f := f) (k := i) (B := byB a b c d e) (by omega)
      rw [r208_23]
      by_cases c4 : i < 4
      · have n4 : ¬ (4 : Int32) ≤ nI i := nI_ge (a := i) (b := 4) (by omega) (by omega)
        have ev : byB a b c d e i = vp_nar .byte (a >>> (nI (24 - 8 * (i % 4)) &&& 31)).toInt8.toInt32 := by unfold byB bt selB; rw [if_pos c4]
        rw [ev] at e'
        simp (disch := omega) only [r208_25, r208_27, r208_30, r208_32, r208_33, r208_36, r208_37, r208_40, r208_42, r208_44, r208_47, r208_48, r208_51, r208_53, r208_55, r208_58, r208_59, r208_62, r208_64, r208_66, r208_69, r208_71, r208_74, r208_76, r208_78, r208_79, r208_82, r208_83, r208_86, r208_88, r208_90, r208_92, r208_94, r208_95, r208_96, r208_97, r208_98, r208_99, r208_100, r208_101, r208_102, r208_103, r208_106, r208_107, r208_108, r208_111, r208_114, h0, r8, j0, k0, cn, c2, q20, n4, q4, qr, q24, xIs_sI, xR_sI, xN_sI, xinbT, xixT, kr1, true_and, and_true, Option.some.injEq, exists_eq_left', Option.toList_some, Option.toList_none, List.cons_append, List.nil_append, xcat_nil, xcat_int, xcat_ref, xcat_long, not_true, not_false_iff, if_true, if_false, and_self, and_false, false_and, or_true, true_or, or_self, z01, z10, zle8, Nat.reduceAdd, Nat.reduceLeDiff]
        rw [e']
        exact ih _
      have y4 : (4 : Int32) ≤ nI i := nI_le (a := 4) (b := i) (by omega) (by omega)
      by_cases c8 : i < 8
      · have n4 : ¬ (8 : Int32) ≤ nI i := nI_ge (a := i) (b := 8) (by omega) (by omega)
        have ev : byB a b c d e i = vp_nar .byte (b >>> (nI (24 - 8 * (i % 4)) &&& 31)).toInt8.toInt32 := by unfold byB bt selB; rw [if_neg c4, if_pos c8]
        rw [ev] at e'
        simp (disch := omega) only [r208_25, r208_27, r208_30, r208_32, r208_33, r208_36, r208_37, r208_40, r208_42, r208_44, r208_47, r208_48, r208_51, r208_53, r208_55, r208_58, r208_59, r208_62, r208_64, r208_66, r208_69, r208_71, r208_74, r208_76, r208_78, r208_79, r208_82, r208_83, r208_86, r208_88, r208_90, r208_92, r208_94, r208_95, r208_96, r208_97, r208_98, r208_99, r208_100, r208_101, r208_102, r208_103, r208_106, r208_107, r208_108, r208_111, r208_114, h0, r8, j0, k0, cn, c2, q20, y4, n4, q4, qr, q24, xIs_sI, xR_sI, xN_sI, xinbT, xixT, kr1, true_and, and_true, Option.some.injEq, exists_eq_left', Option.toList_some, Option.toList_none, List.cons_append, List.nil_append, xcat_nil, xcat_int, xcat_ref, xcat_long, not_true, not_false_iff, if_true, if_false, and_self, and_false, false_and, or_true, true_or, or_self, z01, z10, zle8, Nat.reduceAdd, Nat.reduceLeDiff]
        rw [e']
        exact ih _
      have y8 : (8 : Int32) ≤ nI i := nI_le (a := 8) (b := i) (by omega) (by omega)
      by_cases c12 : i < 12
      · have n4 : ¬ (12 : Int32) ≤ nI i := nI_ge (a := i) (b := 12) (by omega) (by omega)
        have ev : byB a b c d e i = vp_nar .byte (c >>> (nI (24 - 8 * (i % 4)) &&& 31)).toInt8.toInt32 := by unfold byB bt selB; rw [if_neg c4, if_neg c8, if_pos c12]
        rw [ev] at e'
        simp (disch := omega) only [r208_25, r208_27, r208_30, r208_32, r208_33, r208_36, r208_37, r208_40, r208_42, r208_44, r208_47, r208_48, r208_51, r208_53, r208_55, r208_58, r208_59, r208_62, r208_64, r208_66, r208_69, r208_71, r208_74, r208_76, r208_78, r208_79, r208_82, r208_83, r208_86, r208_88, r208_90, r208_92, r208_94, r208_95, r208_96, r208_97, r208_98, r208_99, r208_100, r208_101, r208_102, r208_103, r208_106, r208_107, r208_108, r208_111, r208_114, h0, r8, j0, k0, cn, c2, q20, y4, y8, n4, q4, qr, q24, xIs_sI, xR_sI, xN_sI, xinbT, xixT, kr1, true_and, and_true, Option.some.injEq, exists_eq_left', Option.toList_some, Option.toList_none, List.cons_append, List.nil_append, xcat_nil, xcat_int, xcat_ref, xcat_long, not_true, not_false_iff, if_true, if_false, and_self, and_false, false_and, or_true, true_or, or_self, z01, z10, zle8, Nat.reduceAdd, Nat.reduceLeDiff]
        rw [e']
        exact ih _
      have y12 : (12 : Int32) ≤ nI i := nI_le (a := 12) (b := i) (by omega) (by omega)
      by_cases c16 : i < 16
      · have n4 : ¬ (16 : Int32) ≤ nI i := nI_ge (a := i) (b := 16) (by omega) (by omega)
        have ev : byB a b c d e i = vp_nar .byte (d >>> (nI (24 - 8 * (i % 4)) &&& 31)).toInt8.toInt32 := by unfold byB bt selB; rw [if_neg c4, if_neg c8, if_neg c12, if_pos c16]
        rw [ev] at e'
        simp (disch := omega) only [r208_25, r208_27, r208_30, r208_32, r208_33, r208_36, r208_37, r208_40, r208_42, r208_44, r208_47, r208_48, r208_51, r208_53, r208_55, r208_58, r208_59, r208_62, r208_64, r208_66, r208_69, r208_71, r208_74, r208_76, r208_78, r208_79, r208_82, r208_83, r208_86, r208_88, r208_90, r208_92, r208_94, r208_95, r208_96, r208_97, r208_98, r208_99, r208_100, r208_101, r208_102, r208_103, r208_106, r208_107, r208_108, r208_111, r208_114, h0, r8, j0, k0, cn, c2, q20, y4, y8, y12, n4, q4, qr, q24, xIs_sI, xR_sI, xN_sI, xinbT, xixT, kr1, true_and, and_true, Option.some.injEq, exists_eq_left', Option.toList_some, Option.toList_none, List.cons_append, List.nil_append, xcat_nil, xcat_int, xcat_ref, xcat_long, not_true, not_false_iff, if_true, if_false, and_self, and_false, false_and, or_true, true_or, or_self, z01, z10, zle8, Nat.reduceAdd, Nat.reduceLeDiff]
        rw [e']
        exact ih _
      · have y16 : (16 : Int32) ≤ nI i := nI_le (a := 16) (b := i) (by omega) (by omega)
        have ev : byB a b c d e i = vp_nar .byte (e >>> (nI (24 - 8 * (i % 4)) &&& 31)).toInt8.toInt32 := by unfold byB bt selB; rw [if_neg c4, if_neg c8, if_neg c12, if_neg c16]
        rw [ev] at e'
        simp (disch := omega) only [r208_25, r208_27, r208_30, r208_32, r208_33, r208_36, r208_37, r208_40, r208_42, r208_44, r208_47, r208_48, r208_51, r208_53, r208_55, r208_58, r208_59, r208_62, r208_64, r208_66, r208_69, r208_71, r208_74, r208_76, r208_78, r208_79, r208_82, r208_83, r208_86, r208_88, r208_90, r208_92, r208_94, r208_95, r208_96, r208_97, r208_98, r208_99, r208_100, r208_101, r208_102, r208_103, r208_106, r208_107, r208_108, r208_111, r208_114, h0, r8, j0, k0, cn, c2, q20, y4, y8, y12, y16, q4, qr, q24, xIs_sI, xR_sI, xN_sI, xinbT, xixT, kr1, true_and, and_true, Option.some.injEq, exists_eq_left', Option.toList_some, Option.toList_none, List.cons_append, List.nil_append, xcat_nil, xcat_int, xcat_ref, xcat_long, not_true, not_false_iff, if_true, if_false, and_self, and_false, false_and, or_true, true_or, or_self, z01, z10, zle8, Nat.reduceAdd, Nat.reduceLeDiff]
        rw [e']
        exact ih _
  have l0 := lp 20 0 .null (by omega)
  rw [fdM_0 ht] at l0
  simp only [r208_20, r208_21]
  exact l0
/-! moving the parts of a state -/
theorem okB.mv (h : okB u n nf nc np) (hf : ∀ b, b = 62 ∨ b = 64 ∨ b = 65 ∨ (69 ≤ b ∧ b ≤ 268) → xI w b = xI u b) : okB w n nf nc np := by
  obtain ⟨h1, h2, h3, h4, h5⟩ := h
  have hn := h1.1.2
  have ln : ∀ l k, l < n → k ≤ 4 → xI w (69 + 5 * l + k) = xI u (69 + 5 * l + k) := fun l k hl hk => hf _ (by omega)
  have l0 : ∀ l, l < n → xI w (69 + 5 * l) = xI u (69 + 5 * l) := fun l hl => ln l 0 hl (by omega)
  have pe : ∀ l, l < n → pn w l = pn u l := fun l hl => by unfold pn; rw [l0 l hl]
  refine ⟨⟨⟨by rw [hf 62 (by omega)]; exact h1.1.1, hn⟩, fun l hl => ?_⟩, by rw [hf 62 (by omega)]; exact h2, fun l hl => ?_, by rw [hf 64 (by omega), hf 65 (by omega)]; exact h4, by rw [hf 64 (by omega)]; exact h5⟩
  · rw [l0 l hl, pe l hl]
    exact h1.2 l hl
  · rw [l0 l hl, ln l 1 hl (by omega), ln l 3 hl (by omega), ln l 4 hl (by omega), pe l hl, hf 64 (by omega)]
    exact h3 l hl
theorem cpB.mv {u' g' : xMem} (h : cpB u g n nf np) (hn : n ≤ 40) (h20 : xI u' 278 20 = xI u 278 20) (h27 : xI u' 278 27 = xI u 278 27) (hu : ∀ b, b = 286 ∨ b = 290 ∨ b = 291 → xI u' b = xI u b) (hf : ∀ b, b = 62 ∨ b = 64 ∨ b = 65 ∨ (69 ≤ b ∧ b ≤ 268) → xI g' b = xI g b) : cpB u' g' n nf np := by
  obtain ⟨h1, h2, h3, h4⟩ := h
  have ln : ∀ l k, l < n → k ≤ 4 → xI g' (69 + 5 * l + k) = xI g (69 + 5 * l + k) := fun l k hl hk => hf _ (by omega)
  have l0 : ∀ l, l < n → xI g' (69 + 5 * l) = xI g (69 + 5 * l) := fun l hl => ln l 0 hl (by omega)
  have pe : ∀ l, l < n → pn g' l = pn g l := fun l hl => by unfold pn; rw [l0 l hl]
  refine ⟨h20.trans h1, h27.trans h2, fun l hl => ?_, ?_⟩
  · rw [hu 286 (by omega), l0 l hl, ln l 1 hl (by omega), ln l 2 hl (by omega), ln l 3 hl (by omega), ln l 4 hl (by omega), pe l hl]
    exact h3 l hl
  · rw [hu 290 (by omega), hu 291 (by omega), hf 64 (by omega), hf 65 (by omega)]
    exact h4
theorem okA.mv (h : okA u na n nf nb nr) (h31 : xI w 278 31 = xI u 278 31) (hf : ∀ b, (269 ≤ b ∧ b ≤ 272) ∨ (292 ≤ b ∧ b ≤ 294) → xI w b = xI u b) : okA w na n nf nb nr := by
  unfold okA
  rw [hf 269 (by omega), hf 270 (by omega), hf 271 (by omega), hf 272 (by omega), hf 292 (by omega), hf 293 (by omega), hf 294 (by omega), h31]
  exact h
theorem Sh.mv (h : Sh u D E) (h1 : w.1 = u.1) (h2 : w.2.2.2 = u.2.2.2) : Sh w D E := by
  rw [shp h1 h2]
  exact h
/-- only the tapes have changed -/
theorem St.tape (h : St u D E s nl np nb nc nr nh nk n nf na f op) {f' : Nat} (h1 : w.1 = u.1) (h2 : w.2.2.2 = u.2.2.2) (hf : ∀ b j, b ≠ 2 → b ≠ 3 → b ≠ 283 → (b ≠ 278 ∨ (j ≠ 0 ∧ j ≠ 9)) → xI w b j = xI u b j) (ht : okT w f') : St w D E s nl np nb nc nr nh nk n nf na f' op := by
  obtain ⟨a1, a2, a3, ⟨a4, a5, a6⟩, a7, a8, a9, -⟩ := h
  have hD := a1.d
  have g : ∀ b, b ≠ 2 → b ≠ 3 → b ≠ 283 → b ≠ 278 → xI w b = xI u b := fun b q1 q2 q3 q4 => funext fun j => hf b j q1 q2 q3 (Or.inl q4)
  refine ⟨a1.mv h1 h2, a2.mv h1 h2 (fun c q1 q2 => g c (by omega) (by omega) (by omega) (by omega)), ?_, ⟨?_, ?_, a6⟩, a7.mv (fun b hb => g b (by omega) (by omega) (by omega) (by omega)), a8.mv a7.1.1.2 (hf 278 20 (by omega) (by omega) (by omega) (by omega)) (hf 278 27 (by omega) (by omega) (by omega) (by omega)) (fun b hb => g b (by omega) (by omega) (by omega) (by omega)) (fun b hb => g b (by omega) (by omega) (by omega) (by omega)), a9.mv (hf 278 31 (by omega) (by omega) (by omega) (by omega)) (fun b hb => g b (by omega) (by omega) (by omega) (by omega)), ht⟩
  · rw [g 279 (by omega) (by omega) (by omega) (by omega)]
    exact a3.mv (fun c q1 q2 => g c (by omega) (by omega) (by omega) (by omega))
  · rw [g 0 (by omega) (by omega) (by omega) (by omega)]
    exact a4
  · rw [hf 278 7 (by omega) (by omega) (by omega) (by omega)]
    exact a5
theorem both_feed (hT : Tr u) {b : Int32} (h : St u D E s nl np nb nc nr nh nk n nf na f op) : Both 107 208 [.ref 0, .int a, .int b, .int c, .int d, .int e, .null] [.ref 278, .int a, .int b, .int c, .int d, .int e, .null, .null] u := by
  have hb := h.b
  obtain ⟨g1, g2, g3, g4, g5, g6⟩ := h.sp
  have hr := h.1.2.2.1
  have tp := h.1.2.2.2.1
  obtain ⟨⟨t1, t2, t3⟩, ⟨t4, t5⟩, t6⟩ := h.okt
  have hM := h.1.2.2.2.2.2.2.2.2.2.1
  unfold Both
  by_cases cf : f + 20 ≤ 1200
  · have q : nI (f + 20) ≤ (1200 : Int32) := nI_le (a := f + 20) (b := 1200) cf (by omega)
    have e20 : nI f + 20 = nI (f + 20) := by rw [show (20 : Int32) = nI 20 from rfl, nI_add]
    have a0 := fun P => append_run (P := P) (f := f) (B := byB a b c d e) (v := a) (k := 0) tp (by omega) rfl rfl rfl rfl
    have a1 := fun P => append_run (P := P) (f := f) (B := byB a b c d e) (v := b) (k := 4) tp (by omega) rfl rfl rfl rfl
    have a2 := fun P => append_run (P := P) (f := f) (B := byB a b c d e) (v := c) (k := 8) tp (by omega) rfl rfl rfl rfl
    have a3 := fun P => append_run (P := P) (f := f) (B := byB a b c d e) (v := d) (k := 12) tp (by omega) rfl rfl rfl rfl
    have a4 := fun P => append_run (P := P) (f := f) (B := byB a b c d e) (v := e) (k := 16) tp (by omega) rfl rfl rfl rfl
    rw [fdM_0 t1] at a0
    simp only [Nat.reduceAdd] at a0 a1 a2 a3 a4
    have is2 : ∀ k, xIs (fdM u 3 2 1 f k (byB a b c d e)) 2 8 := fun k => tp.1
    have cn : xI (fdM u 3 2 1 f 20 (byB a b c d e)) 2 1 = nI (f + 20) := by rw [xI_fd, if_neg (by omega), if_pos ⟨rfl, rfl⟩]
    have kC : ∀ P, zr 107 0 [.ref 0, .int a, .int b, .int c, .int d, .int e, .null] [] u P = P (some (.int (nI (f + 20)))) (fdM u 3 2 1 f 20 (byB a b c d e)) := fun P => by
      simp only [r107_0, r107_1, r107_4, r107_7, r107_9, r107_11, r107_14, r107_16, r107_17, r107_20, r107_23, r107_24, r107_25, r107_27, r107_28, r107_31, r107_33, r107_34, r107_37, r107_39, r107_40, r107_43, r107_45, r107_47, r107_50, r107_52, r107_54, r107_57, r107_59, r107_62, g1, g2, hr.1, hr.2.1.1, tp.1, t1, e20, q, a0, a1, a2, a3, a4, is2, cn, true_and, and_true, Option.some.injEq, exists_eq_left', Option.toList_some, Option.toList_none, List.cons_append, List.nil_append, xcat_nil, xcat_int, xcat_ref, xcat_long, not_true, not_false_iff, if_true, if_false, and_self, and_false, false_and, or_true, true_or, or_self, z01, z10, zle8, Nat.reduceAdd, Nat.reduceLeDiff]
    rw [kC]
    refine ⟨⟨rfl, rfl, funext fun j => by rw [xI_fd, if_neg (by omega), if_neg (by omega)]⟩, ?_⟩
    have hM2 : sMd (mThr (fdM u 3 2 1 f 20 (byB a b c d e))) := hM
    have m1 : xIs (fdM u 3 2 1 f 20 (byB a b c d e)) 278 11 := hM.1
    have m9 : xI (mThr (fdM u 3 2 1 f 20 (byB a b c d e))) 278 9 = nI f := by
      show xI (xsI _ 278 0 0) 278 9 = _
      rw [xI_ne (by omega), xI_fd, if_neg (by omega), if_neg (by omega)]
      exact t2
    have kM : ∀ P, zr 208 0 [.ref 278, .int a, .int b, .int c, .int d, .int e, .null, .null] [] (fdM u 3 2 1 f 20 (byB a b c d e)) P = P (some (.int (nI (f + 20)))) (fdM (mThr (fdM u 3 2 1 f 20 (byB a b c d e))) 283 278 9 f 20 (byB a b c d e)) := fun P => by
      simp only [r208_0, r208_1, r208_2, r208_5, r208_6, r208_9, r208_11, r208_12, r208_15, mThr_f, m1, hM2.1, m9, e20, q, feedM_run hM2 m9 cf, true_and, and_true, Option.some.injEq, exists_eq_left', Option.toList_some, Option.toList_none, List.cons_append, List.nil_append, xcat_nil, xcat_int, xcat_ref, xcat_long, not_true, not_false_iff, if_true, if_false, and_self, and_false, false_and, or_true, true_or, or_self, z01, z10, zle8, Nat.reduceAdd, Nat.reduceLeDiff]
    rw [kM]
    have fr : ∀ b' j, b' ≠ 2 → b' ≠ 3 → b' ≠ 283 → (b' ≠ 278 ∨ (j ≠ 0 ∧ j ≠ 9)) → xI (fdM (mThr (fdM u 3 2 1 f 20 (byB a b c d e))) 283 278 9 f 20 (byB a b c d e)) b' j = xI u b' j := fun b' j q1 q2 q3 q4 => by
      rw [xI_fd, if_neg (by omega), if_neg (by omega)]
      show xI (xsI _ 278 0 0) b' j = _
      rw [xI_ne (by omega), xI_fd, if_neg (by omega), if_neg (by omega)]
    refine ⟨⟨_, rfl, rfl⟩, ⟨rfl, rfl, funext fun j => fr _ j (by omega) (by omega) (by omega) (by omega)⟩, ⟨?_, ?_⟩, D, E, s, nl, np, nb, nc, nr, nh, nk, n, nf, na, f + 20, op, h.tape rfl rfl fr ⟨⟨?_, ?_, cf⟩, ⟨fun j => ?_, fun j hj => ?_⟩, ?_⟩⟩
    · rw [fr 278 1 (by omega) (by omega) (by omega) (by omega), fr 0 6 (by omega) (by omega) (by omega) (by omega)]
      exact hT.1
    · rw [fr 278 2 (by omega) (by omega) (by omega) (by omega), fr 0 6 (by omega) (by omega) (by omega) (by omega), fr 1 6 (by omega) (by omega) (by omega) (by omega)]
      exact hT.2
    · rw [xI_fd, if_neg (by omega), if_neg (by omega)]
      show xI (xsI _ 278 0 0) 2 1 = _
      rw [xI_ne (by omega)]
      exact cn
    · rw [xI_fd, if_neg (by omega), if_pos ⟨rfl, rfl⟩]
    · rw [xI_fd, if_neg (by omega), if_neg (by omega), xI_fd]
      show xI (xsI _ 278 0 0) 3 j = if 283 = 283 ∧ f ≤ j ∧ j < f + 20 then byB a b c d e (j - f) else if 283 = 278 ∧ j = 9 then nI (f + 20) else xI (xsI _ 278 0 0) 283 j
      rw [xI_ne (by omega), xI_ne (by omega), xI_fd, xI_fd]
      by_cases z : f ≤ j ∧ j < f + 20
      · rw [if_pos ⟨rfl, z⟩, if_pos ⟨rfl, z⟩]
      · rw [if_neg (fun y => z y.2), if_neg (by omega), if_neg (fun y => z y.2), if_neg (by omega), if_neg (by omega), if_neg (by omega)]
        exact t4 j
    · rw [xI_fd, if_neg (by omega), if_neg (by omega)]
      show -128 ≤ xI (xsI _ 278 0 0) 3 j ∧ xI (xsI _ 278 0 0) 3 j ≤ 127
      rw [xI_ne (by omega), xI_fd]
      by_cases z : f ≤ j ∧ j < f + 20
      · rw [if_pos ⟨rfl, z⟩]
        exact bt_rg _ _
      · rw [if_neg (fun y => z y.2), if_neg (by omega)]
        exact t5 j hj
    · rw [fr 278 15 (by omega) (by omega) (by omega) (by omega), fr 1 5 (by omega) (by omega) (by omega) (by omega)]
      exact t6
  · have q : ¬ nI (f + 20) ≤ (1200 : Int32) := nI_ge (a := 1200) (b := f + 20) (by omega) (by omega)
    have e20 : nI f + 20 = nI (f + 20) := by rw [show (20 : Int32) = nI 20 from rfl, nI_add]
    refine both0 hT h (a := -1) (fun P => ?_) (fun P => ?_)
    · simp only [r107_0, r107_1, r107_4, r107_7, r107_9, r107_11, r107_14, r107_16, r107_17, r107_20, r107_23, r107_24, g1, g2, hr.1, hr.2.1.1, tp.1, t1, e20, q, true_and, and_true, Option.some.injEq, exists_eq_left', Option.toList_some, Option.toList_none, List.cons_append, List.nil_append, xcat_nil, xcat_int, xcat_ref, xcat_long, not_true, not_false_iff, if_true, if_false, and_self, and_false, false_and, or_true, true_or, or_self, z01, z10, zle8, Nat.reduceAdd, Nat.reduceLeDiff]
    · have m9 : xI (mThr u) 278 9 = nI f := t2
      have m1 : xIs (mThr u) 278 11 := hM.1
      simp only [r208_0, r208_1, r208_2, r208_5, r208_6, r208_9, r208_11, r208_12, r208_15, r208_18, r208_19, mThr_f, hM.1, m1, m9, e20, q, true_and, and_true, Option.some.injEq, exists_eq_left', Option.toList_some, Option.toList_none, List.cons_append, List.nil_append, xcat_nil, xcat_int, xcat_ref, xcat_long, not_true, not_false_iff, if_true, if_false, and_self, and_false, false_and, or_true, true_or, or_self, z01, z10, zle8, Nat.reduceAdd, Nat.reduceLeDiff]
end
