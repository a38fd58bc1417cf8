/-! WORDS, wholes and names as the class reads them -/
/-- only the token and the fault have changed -/
def Kp (g w : xMem) : Prop := w.1 = g.1 ∧ w.2.2.2 = g.2.2.2 ∧ (∀ c j, c ≠ 1 → c ≠ 2 → xI w c j = xI g c j) ∧ (∀ c j, c ≠ 2 → xJ w c j = xJ g c j) ∧ (∀ j, j ≠ 5 → j ≠ 6 → xI w 1 j = xI g 1 j) ∧ ∀ j, j ≤ 2 → xI w 2 j = xI g 2 j
section
variable {g v w : xMem} {P : Option Value → xMem → Prop} {e a b E s nl np nb nc nr nh nk n r k : Nat} {x y p lo hi : Int32}
theorem Kp.rf : Kp g g := ⟨rfl, rfl, fun _ _ _ _ => rfl, fun _ _ _ => rfl, fun _ _ _ => rfl, fun _ _ => rfl⟩
theorem Kp.tr (h : Kp g v) (k : Kp v w) : Kp g w := ⟨k.1.trans h.1, k.2.1.trans h.2.1, fun c j a b => (k.2.2.1 c j a b).trans (h.2.2.1 c j a b), fun c j a => (k.2.2.2.1 c j a).trans (h.2.2.2.1 c j a), fun j a b => (k.2.2.2.2.1 j a b).trans (h.2.2.2.2.1 j a b), fun j a => (k.2.2.2.2.2 j a).trans (h.2.2.2.2.2 j a)⟩
theorem Kp.eq (h : Kp g w) : w = (g.1, w.2.1, w.2.2.1, g.2.2.2) := by
  obtain ⟨k, i, j, r⟩ := w
  have h1 : k = g.1 := h.1
  have h2 : r = g.2.2.2 := h.2.1
  rw [h1, h2]
theorem Kp.f (h : Kp g w) {c : Nat} (h1 : c ≠ 1) (h2 : c ≠ 2) : xI w c = xI g c := funext fun j => h.2.2.1 c j h1 h2
theorem Kp.rd (h : Kp g w) (k : sRd g E) : sRd w E := by rw [h.eq]; exact k
theorem Kp.dk (h : Kp g w) (k : sDk g E) : sDk w E := by rw [h.eq]; exact k
theorem Kp.okD (h : Kp g w) (hE : E = 6 ∨ E = 34) (k : okD g E s nl np nb nc nr nh nk) : okD w E s nl np nb nc nr nh nk := by
  obtain ⟨k1, k2⟩ := k
  refine ⟨h.dk k1, ?_⟩
  rw [h.f (c := E + 1) (by omega) (by omega), h.f (c := E + 4) (by omega) (by omega), h.f (c := E + 12) (by omega) (by omega), h.f (c := E + 14) (by omega) (by omega), h.f (c := E + 13) (by omega) (by omega), h.f (c := E + 7) (by omega) (by omega)]
  exact k2
/-- the tape and where its token stands -/
def Tq (g : xMem) (e a b : Nat) : Prop := sTp g 2 ∧ xI g 2 2 = nI e ∧ e ≤ 1200 ∧ xI g 2 4 = nI b ∧ b ≤ e ∧ xI g 2 3 = nI a ∧ a ≤ b
def nxt (g : xMem) : xMem := mStep g (xix (xI g 2 2)) (xix (xI g 2 4))
theorem Tq.nx (h : Tq g e a b) : nxt g = mStep g e b := by
  unfold nxt
  rw [h.2.1, h.2.2.2.1, xix_nI (by have := h.2.2.1; omega), xix_nI (by have := h.2.2.1; have := h.2.2.2.2.1; omega)]
theorem Tq.tp (h : Tq g e a b) : Tp g e b := ⟨h.1, h.2.1, h.2.2.1, h.2.2.2.1, h.2.2.2.2.1⟩
theorem Tq.next (h : Tq g e a b) : Tq (nxt g) e (tA (xI g 3) e b) (tN (xI g 3) e b) := by
  rw [h.nx]
  have hb := h.2.2.2.2.1
  exact ⟨h.1, h.2.1, h.2.2.1, rfl, (tN_b hb).2, rfl, (tN_b hb).1⟩
theorem kp_nxt : Kp g (nxt g) := by
  refine ⟨rfl, rfl, fun c j h1 h2 => ?_, fun c j h2 => ?_, fun j _ _ => rfl, fun j hj => ?_⟩
  · unfold nxt mStep mTk
    rw [xI_ne (Or.inl h2), xI_ne (Or.inl h2), xI_ne (Or.inl h2), xI_ne (Or.inl h2), xI_sJ]
  · unfold nxt mStep mTk
    rw [xJ_sI, xJ_sI, xJ_sI, xJ_sI, xJ_sJ, if_neg (fun q => h2 q.1)]
  · unfold nxt mStep mTk
    rw [xI_ne (Or.inr (by omega)), xI_ne (Or.inr (by omega)), xI_ne (Or.inr (by omega)), xI_ne (Or.inr (by omega)), xI_sJ]
def fail (g : xMem) (f p : Int32) : xMem := xsI (xsI g 1 5 f) 1 6 p
def flt (g : xMem) (f : Int32) : xMem := fail g f (xI g 2 3)
theorem kp_fail : Kp g (fail g x y) := by
  refine ⟨rfl, rfl, fun c j h1 h2 => ?_, fun c j h2 => rfl, fun j h5 h6 => ?_, fun j hj => rfl⟩
  · unfold fail
    rw [xI_ne (Or.inl h1), xI_ne (Or.inl h1)]
  · unfold fail
    rw [xI_ne (Or.inr h6), xI_ne (Or.inr h5)]
theorem kp_flt : Kp g (flt g x) := kp_fail
theorem Tq.fail (h : Tq g e a b) : Tq (fail g x y) e a b := h
/-- the reader in its shape -/
def Cs (g : xMem) (E : Nat) : Prop := sRd g E ∧ ∃ e a b, Tq g e a b
theorem Cs.nx (h : Cs g E) : Cs (nxt g) E := ⟨kp_nxt.rd h.1, by obtain ⟨e, a, b, q⟩ := h.2; exact ⟨e, _, _, q.next⟩⟩
theorem Cs.fl (h : Cs g E) : Cs (flt g x) E := ⟨kp_flt.rd h.1, by obtain ⟨e, a, b, q⟩ := h.2; exact ⟨e, a, b, q⟩⟩
theorem Cs.fa (h : Cs g E) : Cs (fail g x y) E := ⟨kp_fail.rd h.1, by obtain ⟨e, a, b, q⟩ := h.2; exact ⟨e, a, b, q⟩⟩
theorem nxt_run (h : Cs g E) : zr 89 0 [.ref 2] [] g P = P none (nxt g) := by
  obtain ⟨e, a, b, q⟩ := h.2
  rw [q.nx]
  exact step_run q.tp
theorem failsAt_run (h : Cs g E) : zr 70 0 [.ref 1, .int x, .int y] [] g P = P (some (.int 0)) (fail g x y) := by
  have h1 : xIs (xsI g 1 5 x) 1 7 := h.1.1
  simp only [r70_0, r70_1, r70_2, r70_5, r70_6, r70_7, r70_10, r70_11, h.1.1, h1, true_and, and_true, Option.some.injEq, exists_eq_left', Option.toList_some, Option.toList_none, List.cons_append, List.nil_append, xcat_nil, xcat_int, xcat_ref, xcat_long, not_true, not_false_iff, if_true, if_false, and_self, and_false, false_and, or_true, true_or, or_self, z01, z10, zle8, Nat.reduceAdd, Nat.reduceLeDiff]
  rfl
theorem fails_run (h : Cs g E) : zr 69 0 [.ref 1, .int x] [] g P = P (some (.int 0)) (flt g x) := by
  obtain ⟨e, a, b, q⟩ := h.2
  simp only [r69_0, r69_1, r69_2, r69_3, r69_6, r69_9, r69_12, h.1.1, h.1.2.1.1, q.1.1, failsAt_run h, true_and, and_true, Option.some.injEq, exists_eq_left', Option.toList_some, Option.toList_none, List.cons_append, List.nil_append, xcat_nil, xcat_int, xcat_ref, xcat_long, not_true, not_false_iff, if_true, if_false, and_self, and_false, false_and, or_true, true_or, or_self, z01, z10, zle8, Nat.reduceAdd, Nat.reduceLeDiff]
  rfl
/-! words -/
def fSay (T : Nat → Int32) (a : Nat) (t : List Nat) : Nat → Nat → Bool
  | 0, _ => true
  | r + 1, i => if T (a + i) = nI (t.getD i 0) then fSay T a t r (i + 1) else false
def cSay (g : xMem) (k : Nat) : Bool := decide (xI g 2 5 = 1) && (decide (xI g 2 4 - xI g 2 3 = nI (xtxt k).length) && fSay (xI g 3) (xix (xI g 2 3)) (xtxt k) (xtxt k).length 0)
theorem xtxt_len (k : Nat) : (xtxt k).length ≤ 7 := by
  by_cases h : k < 14
  · have : k = 0 ∨ k = 1 ∨ k = 2 ∨ k = 3 ∨ k = 4 ∨ k = 5 ∨ k = 6 ∨ k = 7 ∨ k = 8 ∨ k = 9 ∨ k = 10 ∨ k = 11 ∨ k = 12 ∨ k = 13 := by omega
    rcases this with rfl | rfl | rfl | rfl | rfl | rfl | rfl | rfl | rfl | rfl | rfl | rfl | rfl | rfl <;> decide
  · have : xtxt k = [] := by
      unfold xtxt
      rw [List.getD_eq_getElem?_getD, List.getElem?_eq_none (by show 14 ≤ k; omega)]
      rfl
    rw [this]
    decide
theorem says_run (hr : r = 1000000 + k) (hk : k < 14) (h : Tq g e a b) : zr 92 0 [.ref 2, .ref r, .null] [] g P = P (some (.int (bI (cSay g k)))) g := by
  subst hr
  have hl := xtxt_len k
  obtain ⟨⟨h0, h1, h2, h3⟩, he, h12, hb, hbe, ha, hab⟩ := h
  have t1 : (1000000 ≤ 1000000 + k ∧ 1000000 + k < 1000000 + xtexts.length) = True := eq_true ⟨by omega, by show 1000000 + k < 1000000 + 14; omega⟩
  have t2 : 1000000 + k - 1000000 = k := by omega
  have x6 : ∀ x : Int32, (xcat [Value.int x] ≤ 6) = True := fun x => eq_true (by rw [xcat_int, xcat_nil]; decide)
  have x62 : (1 ≤ 6) = True := eq_true (by decide)
  have lp : ∀ q i, i + q = (xtxt k).length → a + (xtxt k).length ≤ e → zr 92 28 [.ref 2, .ref (1000000 + k), .int (nI i)] [] g P = P (some (.int (bI (fSay (xI g 3) a (xtxt k) q i)))) g := by
    intro q
    induction q with
    | zero =>
      intro i hi _
      rw [r92_28]
      simp (disch := omega) only [r92_29, r92_30, r92_33, r92_36, r92_37, r92_40, r92_41, r92_44, r92_45, r92_46, r92_47, r92_48, r92_49, r92_52, r92_55, r92_56, r92_57, r92_60, r92_63, r92_64, t1, t2, x6, x62, xcat_int, xcat_nil, fSay, bI_t, xinbT, xixT, leT, leF, ltT, ltF, ngF, psT, n1F, n2F, km2, km3, km4, km5, km10, km15, km25, kl8, kl14, kl24, kl34, kl274, kl354, kl384, kr1, kr2, kr3, kr4, kr5, kr6, kr7, kr8, kr9, kaa, lb0, lb1, lb2, lb3, lb4, lb5, lb6, lb7, li0, li1, li2, li3, li4, li5, li6, li7, true_and, and_true, Option.some.injEq, exists_eq_left', Option.toList_some, Option.toList_none, List.cons_append, List.nil_append, xcat_nil, xcat_int, xcat_ref, xcat_long, not_true, not_false_iff, if_true, if_false, and_self, and_false, false_and, or_true, true_or, or_self, z01, z10, zle8, Nat.reduceAdd, Nat.reduceLeDiff]
    | succ q ih =>
      intro i hi ha2
      have ih := ih (i + 1) (by omega) ha2
      have q1 : (0 : Int32) ≤ nI i := nI_pos' (by omega)
      have q2 : (nI i).toNatClampNeg = i := nI_clamp (by omega)
      have q3 : (i < (xtxt k).length) = True := eq_true (by omega)
      rw [r92_28]
      simp (disch := omega) only [r92_29, r92_30, r92_33, r92_36, r92_37, r92_40, r92_41, r92_44, r92_45, r92_46, r92_47, r92_48, r92_49, r92_52, r92_55, r92_56, r92_57, r92_60, r92_63, r92_64, t1, t2, x6, x62, xcat_int, xcat_nil, h0, h1, h2, h3, ha, q1, q2, q3, ih, fSay, xinbT, xixT, leT, leF, ltT, ltF, ngF, psT, n1F, n2F, km2, km3, km4, km5, km10, km15, km25, kl8, kl14, kl24, kl34, kl274, kl354, kl384, kr1, kr2, kr3, kr4, kr5, kr6, kr7, kr8, kr9, kaa, lb0, lb1, lb2, lb3, lb4, lb5, lb6, lb7, li0, li1, li2, li3, li4, li5, li6, li7, true_and, and_true, Option.some.injEq, exists_eq_left', Option.toList_some, Option.toList_none, List.cons_append, List.nil_append, xcat_nil, xcat_int, xcat_ref, xcat_long, not_true, not_false_iff, if_true, if_false, and_self, and_false, false_and, or_true, true_or, or_self, z01, z10, zle8, Nat.reduceAdd, Nat.reduceLeDiff]
      by_cases c : xI g (2 + 1) (a + i) = nI ((xtxt k).getD i 0)
      · have c' : xI g 3 (a + i) = nI ((xtxt k).getD i 0) := c
        simp only [c, c', true_and, and_true, Option.some.injEq, exists_eq_left', Option.toList_some, Option.toList_none, List.cons_append, List.nil_append, xcat_nil, xcat_int, xcat_ref, xcat_long, not_true, not_false_iff, if_true, if_false, and_self, and_false, false_and, or_true, true_or, or_self, z01, z10, zle8, Nat.reduceAdd, Nat.reduceLeDiff]
      · have c' : ¬ xI g 3 (a + i) = nI ((xtxt k).getD i 0) := c
        simp only [c, c', bI_f, true_and, and_true, Option.some.injEq, exists_eq_left', Option.toList_some, Option.toList_none, List.cons_append, List.nil_append, xcat_nil, xcat_int, xcat_ref, xcat_long, not_true, not_false_iff, if_true, if_false, and_self, and_false, false_and, or_true, true_or, or_self, z01, z10, zle8, Nat.reduceAdd, Nat.reduceLeDiff]
  unfold cSay
  by_cases c1 : xI g 2 5 = 1
  · by_cases c2 : xI g 2 4 - xI g 2 3 = nI (xtxt k).length
    · have c3 : b - a = (xtxt k).length := by
        rw [hb, ha, subI hab (by omega), i32_eq, nI_toI (by omega), nI_toI (by omega)] at c2
        omega
      have lp := lp (xtxt k).length 0 (by omega) (by omega)
      rw [decide_eq_true c1, decide_eq_true c2, Bool.true_and, Bool.true_and, ha, xix_nI (by omega)]
      simp (disch := omega) only [r92_0, r92_1, r92_4, r92_5, r92_8, r92_9, r92_12, r92_13, r92_16, r92_17, r92_18, r92_21, r92_24, r92_25, r92_26, r92_27, h0, c1, c2, t1, t2, x6, x62, xcat_int, xcat_nil, true_and, and_true, Option.some.injEq, exists_eq_left', Option.toList_some, Option.toList_none, List.cons_append, List.nil_append, xcat_nil, xcat_int, xcat_ref, xcat_long, not_true, not_false_iff, if_true, if_false, and_self, and_false, false_and, or_true, true_or, or_self, z01, z10, zle8, Nat.reduceAdd, Nat.reduceLeDiff]
      exact lp
    · rw [decide_eq_false c2, Bool.false_and, Bool.and_false]
      simp (disch := omega) only [r92_0, r92_1, r92_4, r92_5, r92_8, r92_9, r92_12, r92_13, r92_16, r92_17, r92_18, r92_21, r92_24, r92_25, r92_26, r92_27, h0, c1, c2, t1, t2, x6, x62, xcat_int, xcat_nil, bI_f, true_and, and_true, Option.some.injEq, exists_eq_left', Option.toList_some, Option.toList_none, List.cons_append, List.nil_append, xcat_nil, xcat_int, xcat_ref, xcat_long, not_true, not_false_iff, if_true, if_false, and_self, and_false, false_and, or_true, true_or, or_self, z01, z10, zle8, Nat.reduceAdd, Nat.reduceLeDiff]
  · rw [decide_eq_false c1, Bool.false_and]
    simp (disch := omega) only [r92_0, r92_1, r92_4, r92_5, r92_8, r92_9, r92_12, r92_13, r92_16, r92_17, r92_18, r92_21, r92_24, r92_25, r92_26, r92_27, h0, c1, bI_f, true_and, and_true, Option.some.injEq, exists_eq_left', Option.toList_some, Option.toList_none, List.cons_append, List.nil_append, xcat_nil, xcat_int, xcat_ref, xcat_long, not_true, not_false_iff, if_true, if_false, and_self, and_false, false_and, or_true, true_or, or_self, z01, z10, zle8, Nat.reduceAdd, Nat.reduceLeDiff]
def cNm (g : xMem) : Bool := decide (xI g 2 5 = 1) && (!cSay g 0 && (!cSay g 1 && (!cSay g 2 && (!cSay g 3 && (!cSay g 4 && (!cSay g 5 && (!cSay g 6 && (!cSay g 7 && (!cSay g 8 && !cSay g 9)))))))))
theorem isName_run (h : Tq g e a b) : zr 93 0 [.ref 2] [] g P = P (some (.int (bI (cNm g)))) g := by
  have hs := fun r k hr hk P => says_run (r := r) (k := k) (P := P) hr hk h
  have s0 := hs 1000000 0 rfl (by omega)
  have s1 := hs 1000001 1 rfl (by omega)
  have s2 := hs 1000002 2 rfl (by omega)
  have s3 := hs 1000003 3 rfl (by omega)
  have s4 := hs 1000004 4 rfl (by omega)
  have s5 := hs 1000005 5 rfl (by omega)
  have s6 := hs 1000006 6 rfl (by omega)
  have s7 := hs 1000007 7 rfl (by omega)
  have s8 := hs 1000008 8 rfl (by omega)
  have s9 := hs 1000009 9 rfl (by omega)
  have h0 := h.1.1
  unfold cNm
  by_cases c : xI g 2 5 = 1
  · rw [decide_eq_true c, Bool.true_and]
    simp only [r93_0, r93_1, r93_4, r93_5, r93_8, r93_9, r93_11, r93_14, r93_17, r93_18, r93_20, r93_23, r93_26, r93_27, r93_29, r93_32, r93_35, r93_36, r93_38, r93_41, r93_44, r93_45, r93_47, r93_50, r93_53, r93_54, r93_56, r93_59, r93_62, r93_63, r93_65, r93_68, r93_71, r93_72, r93_74, r93_77, r93_80, r93_81, r93_83, r93_86, r93_89, r93_90, r93_92, r93_95, r93_98, r93_99, r93_102, r93_103, h0, c, s0, s1, s2, s3, s4, s5, s6, s7, s8, s9, bI_0, true_and, and_true, Option.some.injEq, exists_eq_left', Option.toList_some, Option.toList_none, List.cons_append, List.nil_append, xcat_nil, xcat_int, xcat_ref, xcat_long, not_true, not_false_iff, if_true, if_false, and_self, and_false, false_and, or_true, true_or, or_self, z01, z10, zle8, Nat.reduceAdd, Nat.reduceLeDiff]
    generalize cSay g 0 = b0
    generalize cSay g 1 = b1
    generalize cSay g 2 = b2
    generalize cSay g 3 = b3
    generalize cSay g 4 = b4
    generalize cSay g 5 = b5
    generalize cSay g 6 = b6
    generalize cSay g 7 = b7
    generalize cSay g 8 = b8
    generalize cSay g 9 = b9
    cases b0
    · cases b1
      · cases b2
        · cases b3
          · cases b4
            · cases b5
              · cases b6
                · cases b7
                  · cases b8
                    · cases b9
                      · simp [bI]
                      · simp [bI]
                    · simp [bI]
                  · simp [bI]
                · simp [bI]
              · simp [bI]
            · simp [bI]
          · simp [bI]
        · simp [bI]
      · simp [bI]
    · simp [bI]
  · rw [decide_eq_false c, Bool.false_and]
    simp only [r93_0, r93_1, r93_4, r93_5, r93_8, r93_9, r93_11, r93_14, r93_17, r93_18, r93_20, r93_23, r93_26, r93_27, r93_29, r93_32, r93_35, r93_36, r93_38, r93_41, r93_44, r93_45, r93_47, r93_50, r93_53, r93_54, r93_56, r93_59, r93_62, r93_63, r93_65, r93_68, r93_71, r93_72, r93_74, r93_77, r93_80, r93_81, r93_83, r93_86, r93_89, r93_90, r93_92, r93_95, r93_98, r93_99, r93_102, r93_103, h0, c, bI_f, true_and, and_true, Option.some.injEq, exists_eq_left', Option.toList_some, Option.toList_none, List.cons_append, List.nil_append, xcat_nil, xcat_int, xcat_ref, xcat_long, not_true, not_false_iff, if_true, if_false, and_self, and_false, false_and, or_true, true_or, or_self, z01, z10, zle8, Nat.reduceAdd, Nat.reduceLeDiff]
def cWord (g : xMem) (k : Nat) : Bool × xMem := if cSay g k = true then (true, nxt g) else (false, flt g 1)
theorem readWord_run (hr : r = 1000000 + k) (hk : k < 14) (h : Cs g E) : zr 81 0 [.ref 1, .ref r] [] g P = P (some (.int (bI (cWord g k).1))) (cWord g k).2 := by
  obtain ⟨e, a, b, q⟩ := h.2
  have hs := fun P => says_run (P := P) hr hk q
  unfold cWord
  by_cases c : cSay g k = true
  · simp only [r81_0, r81_1, r81_4, r81_5, r81_8, r81_11, r81_12, r81_13, r81_16, r81_17, r81_18, r81_21, r81_24, r81_25, h.1.1, h.1.2.1.1, q.1.1, hs, c, nxt_run h, bI_t, true_and, and_true, Option.some.injEq, exists_eq_left', Option.toList_some, Option.toList_none, List.cons_append, List.nil_append, xcat_nil, xcat_int, xcat_ref, xcat_long, not_true, not_false_iff, if_true, if_false, and_self, and_false, false_and, or_true, true_or, or_self, z01, z10, zle8, Nat.reduceAdd, Nat.reduceLeDiff]
  · simp only [r81_0, r81_1, r81_4, r81_5, r81_8, r81_11, r81_12, r81_13, r81_16, r81_17, r81_18, r81_21, r81_24, r81_25, h.1.1, h.1.2.1.1, q.1.1, hs, Bool.eq_false_iff.mpr c, fails_run h, bI_f, Bool.false_eq_true, true_and, and_true, Option.some.injEq, exists_eq_left', Option.toList_some, Option.toList_none, List.cons_append, List.nil_append, xcat_nil, xcat_int, xcat_ref, xcat_long, not_true, not_false_iff, if_true, if_false, and_self, and_false, false_and, or_true, true_or, or_self, z01, z10, zle8, Nat.reduceAdd, Nat.reduceLeDiff]
theorem Cs.word (h : Cs g E) : Cs (cWord g k).2 E := by
  unfold cWord
  split
  · exact h.nx
  · exact h.fl
theorem kp_word : Kp g (cWord g k).2 := by
  unfold cWord
  split
  · exact kp_nxt
  · exact kp_flt
def cWhole (g : xMem) (lo hi : Int32) : Int32 × xMem := if xI g 2 5 = 2 then (if lo ≤ xI g 2 7 ∧ xI g 2 7 ≤ hi then (xI g 2 7, nxt g) else (-1, flt g 4)) else (-1, flt g 1)
theorem readWhole_run (h : Cs g E) : zr 82 0 [.ref 1, .int lo, .int hi, .null] [] g P = P (some (.int (cWhole g lo hi).1)) (cWhole g lo hi).2 := by
  obtain ⟨e, a, b, q⟩ := h.2
  unfold cWhole
  by_cases c : xI g 2 5 = 2
  · by_cases c2 : lo ≤ xI g 2 7 ∧ xI g 2 7 ≤ hi
    · simp only [r82_0, r82_1, r82_4, r82_7, r82_8, r82_11, r82_12, r82_13, r82_16, r82_17, r82_18, r82_19, r82_20, r82_23, r82_26, r82_27, r82_28, r82_29, r82_30, r82_33, r82_36, r82_37, r82_38, r82_41, r82_42, r82_43, r82_44, r82_45, r82_48, r82_51, r82_52, h.1.1, h.1.2.1.1, q.1.1, c, within_run, decide_eq_true c2, if_pos c2, nxt_run h, bI_t, true_and, and_true, Option.some.injEq, exists_eq_left', Option.toList_some, Option.toList_none, List.cons_append, List.nil_append, xcat_nil, xcat_int, xcat_ref, xcat_long, not_true, not_false_iff, if_true, if_false, and_self, and_false, false_and, or_true, true_or, or_self, z01, z10, zle8, Nat.reduceAdd, Nat.reduceLeDiff]
    · simp only [r82_0, r82_1, r82_4, r82_7, r82_8, r82_11, r82_12, r82_13, r82_16, r82_17, r82_18, r82_19, r82_20, r82_23, r82_26, r82_27, r82_28, r82_29, r82_30, r82_33, r82_36, r82_37, r82_38, r82_41, r82_42, r82_43, r82_44, r82_45, r82_48, r82_51, r82_52, h.1.1, h.1.2.1.1, q.1.1, c, within_run, decide_eq_false c2, if_neg c2, fails_run h, bI_f, true_and, and_true, Option.some.injEq, exists_eq_left', Option.toList_some, Option.toList_none, List.cons_append, List.nil_append, xcat_nil, xcat_int, xcat_ref, xcat_long, not_true, not_false_iff, if_true, if_false, and_self, and_false, false_and, or_true, true_or, or_self, z01, z10, zle8, Nat.reduceAdd, Nat.reduceLeDiff]
  · simp only [r82_0, r82_1, r82_4, r82_7, r82_8, r82_11, r82_12, r82_13, r82_16, r82_17, r82_18, r82_19, r82_20, r82_23, r82_26, r82_27, r82_28, r82_29, r82_30, r82_33, r82_36, r82_37, r82_38, r82_41, r82_42, r82_43, r82_44, r82_45, r82_48, r82_51, r82_52, h.1.1, h.1.2.1.1, q.1.1, c, fails_run h, true_and, and_true, Option.some.injEq, exists_eq_left', Option.toList_some, Option.toList_none, List.cons_append, List.nil_append, xcat_nil, xcat_int, xcat_ref, xcat_long, not_true, not_false_iff, if_true, if_false, and_self, and_false, false_and, or_true, true_or, or_self, z01, z10, zle8, Nat.reduceAdd, Nat.reduceLeDiff]
theorem Cs.whole (h : Cs g E) : Cs (cWhole g lo hi).2 E := by
  unfold cWhole
  split
  · split
    · exact h.nx
    · exact h.fl
  · exact h.fl
theorem kp_whole : Kp g (cWhole g lo hi).2 := by
  unfold cWhole
  split
  · split
    · exact kp_nxt
    · exact kp_flt
  · exact kp_flt
/-! names -/
def fIx (N : Nat → Int64) (x : Int64) : Nat → Nat → Int32
  | 0, _ => -1
  | r + 1, i => if N i = x then nI i else fIx N x r (i + 1)
theorem fIx_cases (N : Nat → Int64) (x : Int64) : ∀ r i, fIx N x r i = -1 ∨ ∃ k, i ≤ k ∧ k < i + r ∧ fIx N x r i = nI k ∧ N k = x := by
  intro r
  induction r with
  | zero => intro i; exact Or.inl rfl
  | succ r ih =>
    intro i
    unfold fIx
    by_cases c : N i = x
    · rw [if_pos c]
      exact Or.inr ⟨i, by omega, by omega, rfl, c⟩
    · rw [if_neg c]
      rcases ih (i + 1) with h | ⟨k, h1, h2, h3, h4⟩
      · exact Or.inl h
      · exact Or.inr ⟨k, by omega, by omega, h3, h4⟩
theorem lcmp_0 {x y : Int64} : (lg_cmp x y = 0) = (x = y) := by
  apply propext
  unfold lg_cmp
  constructor
  · intro h
    split at h
    · cases h
    · split at h
      · assumption
      · cases h
  · intro h
    subst h
    split
    · next q => exact absurd q (by simp)
    · split
      · rfl
      · next q => exact absurd rfl q
theorem indexOf_run {A N m : Nat} {x : Int64} (hA : sA g A 14 N) (hN : N ≤ 1000) (hm : m ≤ N) : zr 85 0 [.ref A, .int (nI m), .long x, .null, .null] [] g P = P (some (.int (fIx (xJ g A) x m 0))) g := by
  obtain ⟨i0, n0⟩ := hA
  have lp : ∀ q i, i + q = m → zr 85 3 [.ref A, .int (nI m), .long x, .null, .int (nI i)] [] g P = P (some (.int (fIx (xJ g A) x q i))) g := by
    intro q
    induction q with
    | zero =>
      intro i hi
      rw [r85_3]
      simp (disch := omega) only [r85_0, r85_1, r85_5, r85_6, r85_9, r85_10, r85_12, r85_13, r85_14, r85_15, r85_18, r85_20, r85_21, r85_24, r85_27, r85_28, fIx, xinbT, xixT, leT, leF, ltT, ltF, ngF, psT, n1F, n2F, km2, km3, km4, km5, km10, km15, km25, kl8, kl14, kl24, kl34, kl274, kl354, kl384, kr1, kr2, kr3, kr4, kr5, kr6, kr7, kr8, kr9, kaa, lb0, lb1, lb2, lb3, lb4, lb5, lb6, lb7, li0, li1, li2, li3, li4, li5, li6, li7, true_and, and_true, Option.some.injEq, exists_eq_left', Option.toList_some, Option.toList_none, List.cons_append, List.nil_append, xcat_nil, xcat_int, xcat_ref, xcat_long, not_true, not_false_iff, if_true, if_false, and_self, and_false, false_and, or_true, true_or, or_self, z01, z10, zle8, Nat.reduceAdd, Nat.reduceLeDiff]
    | succ q ih =>
      intro i hi
      have ih := ih (i + 1) (by omega)
      rw [r85_3]
      simp (disch := omega) only [r85_0, r85_1, r85_5, r85_6, r85_9, r85_10, r85_12, r85_13, r85_14, r85_15, r85_18, r85_20, r85_21, r85_24, r85_27, r85_28, i0, n0, lcmp_0, ih, fIx, xinbT, xixT, leT, leF, ltT, ltF, ngF, psT, n1F, n2F, km2, km3, km4, km5, km10, km15, km25, kl8, kl14, kl24, kl34, kl274, kl354, kl384, kr1, kr2, kr3, kr4, kr5, kr6, kr7, kr8, kr9, kaa, lb0, lb1, lb2, lb3, lb4, lb5, lb6, lb7, li0, li1, li2, li3, li4, li5, li6, li7, true_and, and_true, Option.some.injEq, exists_eq_left', Option.toList_some, Option.toList_none, List.cons_append, List.nil_append, xcat_nil, xcat_int, xcat_ref, xcat_long, not_true, not_false_iff, if_true, if_false, and_self, and_false, false_and, or_true, true_or, or_self, z01, z10, zle8, Nat.reduceAdd, Nat.reduceLeDiff]
      by_cases c : xJ g A i = x
      · simp only [c, true_and, and_true, Option.some.injEq, exists_eq_left', Option.toList_some, Option.toList_none, List.cons_append, List.nil_append, xcat_nil, xcat_int, xcat_ref, xcat_long, not_true, not_false_iff, if_true, if_false, and_self, and_false, false_and, or_true, true_or, or_self, z01, z10, zle8, Nat.reduceAdd, Nat.reduceLeDiff]
      · simp only [c, true_and, and_true, Option.some.injEq, exists_eq_left', Option.toList_some, Option.toList_none, List.cons_append, List.nil_append, xcat_nil, xcat_int, xcat_ref, xcat_long, not_true, not_false_iff, if_true, if_false, and_self, and_false, false_and, or_true, true_or, or_self, z01, z10, zle8, Nat.reduceAdd, Nat.reduceLeDiff]
  simp only [r85_0, r85_1]
  exact lp m 0 (by omega)
def cFresh (g : xMem) (nc np : Nat) : Int64 × xMem := if cNm g = true then (if 0 ≤ fIx (xJ g 4) (xJ g 2 6) nc 0 ∨ 0 ≤ fIx (xJ g 5) (xJ g 2 6) np 0 then (-1, flt g 3) else (xJ g 2 6, nxt g)) else (-1, flt g 1)
theorem readNewName_run (h : Cs g E) (hd : okD g E s nl np nb nc nr nh nk) : zr 83 0 [.ref 1, .null, .null] [] g P = P (some (.long (cFresh g nc np).1)) (cFresh g nc np).2 := by
  obtain ⟨e, a, b, q⟩ := h.2
  obtain ⟨b1, b2, b3, b4, b5, b6, b7, b8⟩ := hd.b
  obtain ⟨⟨f1, f2, f3⟩, ⟨f4, f5, f6, f7, f8⟩, -, -, -, ⟨f23, -⟩, -⟩ := hd.cf
  have hnp := hd.2.2.2.1.1
  have hnc := hd.2.2.2.2.2.1.1
  have i1 := fun x P => indexOf_run (x := x) (P := P) h.1.2.2.1 (by omega) b5
  have i2 := fun x P => indexOf_run (x := x) (P := P) h.1.2.2.2 (by omega) b3
  obtain ⟨h0, ⟨r0, r1, r2, r3⟩, -⟩ := h.1
  unfold cFresh
  by_cases c : cNm g = true
  · by_cases c1 : 0 ≤ fIx (xJ g 4) (xJ g 2 6) nc 0
    · simp only [r83_0, r83_1, r83_4, r83_7, r83_10, r83_11, r83_12, r83_15, r83_16, r83_19, r83_20, r83_21, r83_24, r83_27, r83_28, r83_29, r83_32, r83_33, r83_36, r83_39, r83_42, r83_43, r83_46, r83_49, r83_50, r83_53, r83_54, r83_57, r83_60, r83_63, r83_64, r83_67, r83_70, r83_71, r83_72, r83_75, r83_76, r83_79, r83_80, r83_81, r83_84, r83_87, r83_88, h0, r0, r1, r2, r3, q.1.1, isName_run q, c, f1, f2, f3, f4, f23, hnp, hnc, i1, i2, c1, fails_run h, bI_t, true_and, and_true, Option.some.injEq, exists_eq_left', Option.toList_some, Option.toList_none, List.cons_append, List.nil_append, xcat_nil, xcat_int, xcat_ref, xcat_long, not_true, not_false_iff, if_true, if_false, and_self, and_false, false_and, or_true, true_or, or_self, z01, z10, zle8, Nat.reduceAdd, Nat.reduceLeDiff]
    · by_cases c2 : 0 ≤ fIx (xJ g 5) (xJ g 2 6) np 0
      · simp only [r83_0, r83_1, r83_4, r83_7, r83_10, r83_11, r83_12, r83_15, r83_16, r83_19, r83_20, r83_21, r83_24, r83_27, r83_28, r83_29, r83_32, r83_33, r83_36, r83_39, r83_42, r83_43, r83_46, r83_49, r83_50, r83_53, r83_54, r83_57, r83_60, r83_63, r83_64, r83_67, r83_70, r83_71, r83_72, r83_75, r83_76, r83_79, r83_80, r83_81, r83_84, r83_87, r83_88, h0, r0, r1, r2, r3, q.1.1, isName_run q, c, f1, f2, f3, f4, f23, hnp, hnc, i1, i2, c1, c2, i32_nlt.mpr c2, fails_run h, bI_t, true_and, and_true, Option.some.injEq, exists_eq_left', Option.toList_some, Option.toList_none, List.cons_append, List.nil_append, xcat_nil, xcat_int, xcat_ref, xcat_long, not_true, not_false_iff, if_true, if_false, and_self, and_false, false_and, or_true, true_or, or_self, z01, z10, zle8, Nat.reduceAdd, Nat.reduceLeDiff]
      · simp only [r83_0, r83_1, r83_4, r83_7, r83_10, r83_11, r83_12, r83_15, r83_16, r83_19, r83_20, r83_21, r83_24, r83_27, r83_28, r83_29, r83_32, r83_33, r83_36, r83_39, r83_42, r83_43, r83_46, r83_49, r83_50, r83_53, r83_54, r83_57, r83_60, r83_63, r83_64, r83_67, r83_70, r83_71, r83_72, r83_75, r83_76, r83_79, r83_80, r83_81, r83_84, r83_87, r83_88, h0, r0, r1, r2, r3, q.1.1, isName_run q, c, f1, f2, f3, f4, f23, hnp, hnc, i1, i2, c1, c2, i32_nle.mp c2, nxt_run h, bI_t, true_and, and_true, Option.some.injEq, exists_eq_left', Option.toList_some, Option.toList_none, List.cons_append, List.nil_append, xcat_nil, xcat_int, xcat_ref, xcat_long, not_true, not_false_iff, if_true, if_false, and_self, and_false, false_and, or_true, true_or, or_self, z01, z10, zle8, Nat.reduceAdd, Nat.reduceLeDiff]
  · simp only [r83_0, r83_1, r83_4, r83_7, r83_10, r83_11, r83_12, r83_15, r83_16, r83_19, r83_20, r83_21, r83_24, r83_27, r83_28, r83_29, r83_32, r83_33, r83_36, r83_39, r83_42, r83_43, r83_46, r83_49, r83_50, r83_53, r83_54, r83_57, r83_60, r83_63, r83_64, r83_67, r83_70, r83_71, r83_72, r83_75, r83_76, r83_79, r83_80, r83_81, r83_84, r83_87, r83_88, h0, r0, r1, r2, r3, q.1.1, isName_run q, Bool.eq_false_iff.mpr c, fails_run h, bI_f, Bool.false_eq_true, true_and, and_true, Option.some.injEq, exists_eq_left', Option.toList_some, Option.toList_none, List.cons_append, List.nil_append, xcat_nil, xcat_int, xcat_ref, xcat_long, not_true, not_false_iff, if_true, if_false, and_self, and_false, false_and, or_true, true_or, or_self, z01, z10, zle8, Nat.reduceAdd, Nat.reduceLeDiff]
theorem Cs.fresh (h : Cs g E) : Cs (cFresh g nc np).2 E := by
  unfold cFresh
  split
  · split
    · exact h.fl
    · exact h.nx
  · exact h.fl
theorem kp_fresh : Kp g (cFresh g nc np).2 := by
  unfold cFresh
  split
  · split
    · exact kp_flt
    · exact kp_nxt
  · exact kp_flt
def cName (g : xMem) (A n : Nat) : Int32 × xMem := if cNm g = true then (if 0 ≤ fIx (xJ g A) (xJ g 2 6) n 0 then (fIx (xJ g A) (xJ g 2 6) n 0, nxt g) else (-1, flt g 2)) else (-1, flt g 1)
theorem readName_run {A N : Nat} (h : Cs g E) (hA : sA g A 14 N) (hN : N ≤ 1000) (hm : n ≤ N) : zr 84 0 [.ref 1, .ref A, .int (nI n), .null] [] g P = P (some (.int (cName g A n).1)) (cName g A n).2 := by
  obtain ⟨e, a, b, q⟩ := h.2
  have i1 := fun x P => indexOf_run (x := x) (P := P) hA hN hm
  obtain ⟨h0, ⟨r0, r1, r2, r3⟩, -⟩ := h.1
  unfold cName
  by_cases c : cNm g = true
  · by_cases c1 : 0 ≤ fIx (xJ g A) (xJ g 2 6) n 0
    · simp only [r84_0, r84_1, r84_4, r84_7, r84_10, r84_11, r84_12, r84_15, r84_16, r84_17, r84_18, r84_19, r84_20, r84_21, r84_24, r84_27, r84_30, r84_31, r84_32, r84_35, r84_36, r84_37, r84_40, r84_41, r84_42, r84_43, r84_44, r84_47, r84_50, r84_51, h0, r0, r1, r2, r3, q.1.1, isName_run q, c, i1, c1, nxt_run h, bI_t, true_and, and_true, Option.some.injEq, exists_eq_left', Option.toList_some, Option.toList_none, List.cons_append, List.nil_append, xcat_nil, xcat_int, xcat_ref, xcat_long, not_true, not_false_iff, if_true, if_false, and_self, and_false, false_and, or_true, true_or, or_self, z01, z10, zle8, Nat.reduceAdd, Nat.reduceLeDiff]
    · simp only [r84_0, r84_1, r84_4, r84_7, r84_10, r84_11, r84_12, r84_15, r84_16, r84_17, r84_18, r84_19, r84_20, r84_21, r84_24, r84_27, r84_30, r84_31, r84_32, r84_35, r84_36, r84_37, r84_40, r84_41, r84_42, r84_43, r84_44, r84_47, r84_50, r84_51, h0, r0, r1, r2, r3, q.1.1, isName_run q, c, i1, c1, fails_run h, bI_t, true_and, and_true, Option.some.injEq, exists_eq_left', Option.toList_some, Option.toList_none, List.cons_append, List.nil_append, xcat_nil, xcat_int, xcat_ref, xcat_long, not_true, not_false_iff, if_true, if_false, and_self, and_false, false_and, or_true, true_or, or_self, z01, z10, zle8, Nat.reduceAdd, Nat.reduceLeDiff]
  · simp only [r84_0, r84_1, r84_4, r84_7, r84_10, r84_11, r84_12, r84_15, r84_16, r84_17, r84_18, r84_19, r84_20, r84_21, r84_24, r84_27, r84_30, r84_31, r84_32, r84_35, r84_36, r84_37, r84_40, r84_41, r84_42, r84_43, r84_44, r84_47, r84_50, r84_51, h0, r0, r1, r2, r3, q.1.1, isName_run q, Bool.eq_false_iff.mpr c, fails_run h, bI_f, Bool.false_eq_true, true_and, and_true, Option.some.injEq, exists_eq_left', Option.toList_some, Option.toList_none, List.cons_append, List.nil_append, xcat_nil, xcat_int, xcat_ref, xcat_long, not_true, not_false_iff, if_true, if_false, and_self, and_false, false_and, or_true, true_or, or_self, z01, z10, zle8, Nat.reduceAdd, Nat.reduceLeDiff]
theorem Cs.name {A : Nat} (h : Cs g E) : Cs (cName g A n).2 E := by
  unfold cName
  split
  · split
    · exact h.nx
    · exact h.fl
  · exact h.fl
theorem kp_name {A : Nat} : Kp g (cName g A n).2 := by
  unfold cName
  split
  · split
    · exact kp_nxt
    · exact kp_flt
  · exact kp_flt
def cStart (g : xMem) (told room : Int32) : Bool × xMem := if xI g 1 4 = 0 then (false, flt g 6) else if room ≤ told then (false, flt g 5) else (true, nxt g)
theorem starts_run (h : Cs g E) : zr 72 0 [.ref 1, .int x, .int y] [] g P = P (some (.int (bI (cStart g x y).1))) (cStart g x y).2 := by
  obtain ⟨e, a, b, q⟩ := h.2
  obtain ⟨h0, ⟨r0, -⟩, -⟩ := h.1
  unfold cStart
  by_cases c : xI g 1 4 = 0
  · simp only [r72_0, r72_1, r72_4, r72_7, r72_8, r72_10, r72_13, r72_14, r72_15, r72_16, r72_19, r72_20, r72_21, r72_24, r72_25, r72_26, r72_29, r72_32, r72_33, h0, r0, c, fails_run h, bI_f, true_and, and_true, Option.some.injEq, exists_eq_left', Option.toList_some, Option.toList_none, List.cons_append, List.nil_append, xcat_nil, xcat_int, xcat_ref, xcat_long, not_true, not_false_iff, if_true, if_false, and_self, and_false, false_and, or_true, true_or, or_self, z01, z10, zle8, Nat.reduceAdd, Nat.reduceLeDiff]
  · by_cases c1 : y ≤ x
    · simp only [r72_0, r72_1, r72_4, r72_7, r72_8, r72_10, r72_13, r72_14, r72_15, r72_16, r72_19, r72_20, r72_21, r72_24, r72_25, r72_26, r72_29, r72_32, r72_33, h0, r0, c, c1, i32_nlt.mpr c1, fails_run h, bI_f, true_and, and_true, Option.some.injEq, exists_eq_left', Option.toList_some, Option.toList_none, List.cons_append, List.nil_append, xcat_nil, xcat_int, xcat_ref, xcat_long, not_true, not_false_iff, if_true, if_false, and_self, and_false, false_and, or_true, true_or, or_self, z01, z10, zle8, Nat.reduceAdd, Nat.reduceLeDiff]
    · simp only [r72_0, r72_1, r72_4, r72_7, r72_8, r72_10, r72_13, r72_14, r72_15, r72_16, r72_19, r72_20, r72_21, r72_24, r72_25, r72_26, r72_29, r72_32, r72_33, h0, r0, c, c1, i32_nle.mp c1, q.1.1, nxt_run h, bI_t, true_and, and_true, Option.some.injEq, exists_eq_left', Option.toList_some, Option.toList_none, List.cons_append, List.nil_append, xcat_nil, xcat_int, xcat_ref, xcat_long, not_true, not_false_iff, if_true, if_false, and_self, and_false, false_and, or_true, true_or, or_self, z01, z10, zle8, Nat.reduceAdd, Nat.reduceLeDiff]
theorem Cs.start (h : Cs g E) : Cs (cStart g x y).2 E := by
  unfold cStart
  split
  · exact h.fl
  · split
    · exact h.fl
    · exact h.nx
theorem kp_start : Kp g (cStart g x y).2 := by
  unfold cStart
  split
  · exact kp_flt
  · split
    · exact kp_flt
    · exact kp_nxt
end
