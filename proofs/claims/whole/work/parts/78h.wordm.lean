/-! THE MODEL's words beside the class's -/
section
variable {w v g : xMem} {P : Option Value → xMem → Prop} {e a b E r k n : Nat} {x y lo hi : Int32}
/-- the tokens of both are the same -/
def Lx (g w : xMem) : Prop := xI w 278 13 = xI g 2 3 ∧ xI w 278 11 = xI g 2 4 ∧ xI w 278 12 = mKd (xI g 2 5) ∧ (xI g 2 5 = 0 ∨ xI g 2 5 = 1 ∨ xI g 2 5 = 2 ∨ xI g 2 5 = 3 ∨ xI g 2 5 = 4) ∧
  (xI g 2 5 = 1 → ∃ a n c, n ≤ 7 ∧ xI g 2 3 = nI a ∧ xI g 2 4 = nI (a + n) ∧ a + n ≤ 1200 ∧ Ltr (xI g 3) a n c ∧ xJ g 2 6 = lN (eN 32 (fun i => c i - 96) n) ∧ xJ w 278 16 = lN (eN 256 c n)) ∧ (xI g 2 5 = 2 → xI w 278 14 = xI g 2 7)
def Sy (g w : xMem) (E : Nat) : Prop := sMd w ∧ Cs g E ∧ xI w 278 10 = xI g 2 2 ∧ xI w 283 = xI g 3 ∧ Rg (xI g 3)
/-- both at work -/
def Wk (g w : xMem) (E : Nat) : Prop := Sy g w E ∧ xI w 278 15 = 0 ∧ Lx g w
/-- a fault in both -/
def Fz (g w : xMem) : Prop := sMd w ∧ 0 < xI g 1 5 ∧ xI w 278 15 = xI g 1 5 ∧ xI w 278 12 = 0 ∧ xI w 278 13 = xI g 1 6
/-- only token and fault have changed -/
def Ny (w v : xMem) : Prop := v.1 = w.1 ∧ v.2.2.2 = w.2.2.2 ∧ (∀ c j, c ≠ 278 ∨ (j < 11 ∨ 15 < j) → xI v c j = xI w c j) ∧ ∀ c j, c ≠ 278 → xJ v c j = xJ w c j
theorem Nx.ny (h : Nx w v) : Ny w v := ⟨h.1, h.2.1, fun c j q => h.2.2.1 c j (by omega), h.2.2.2⟩
theorem Ny.rf : Ny w w := ⟨rfl, rfl, fun _ _ _ => rfl, fun _ _ _ => rfl⟩
theorem Ny.tr {u : xMem} (h : Ny u w) (k : Ny w v) : Ny u v := ⟨k.1.trans h.1, k.2.1.trans h.2.1, fun c j q => (k.2.2.1 c j q).trans (h.2.2.1 c j q), fun c j q => (k.2.2.2 c j q).trans (h.2.2.2 c j q)⟩
theorem Ny.md (h : Ny w v) (k : sMd w) : sMd v := by
  have e : v = (w.1, v.2.1, v.2.2.1, w.2.2.2) := by
    obtain ⟨k, i, j, r⟩ := v
    have h1 : k = w.1 := h.1
    have h2 : r = w.2.2.2 := h.2.1
    rw [h1, h2]
  rw [e]
  exact k
theorem Ny.f (h : Ny w v) {c : Nat} (hc : c ≠ 278) : xI v c = xI w c := funext fun j => h.2.2.1 c j (Or.inl hc)
theorem tKd_1 {T : Nat → Int32} (h : tKd T e b = 1) : isL T e b = true ∧ tN T e b - tA T e b ≤ 7 ∧ tN T e b = lRun (qLt T) (e - tA T e b) (tA T e b) := by
  unfold tKd at h
  unfold isL
  split at h
  · exact absurd h (by decide)
  · next c0 =>
    split at h
    · next c1 =>
      split at h
      · next c2 => exact ⟨by rw [decide_eq_true c0, c1]; rfl, c2, by unfold tN; rw [if_neg c0, if_pos c1]⟩
      · exact absurd h (by decide)
    · split at h
      · split at h
        · exact absurd h (by decide)
        · exact absurd h (by decide)
      · split at h
        · exact absurd h (by decide)
        · exact absurd h (by decide)
theorem tKd_2 {T : Nat → Int32} (h : tKd T e b = 2) : isD T e b = true ∧ tN T e b - tA T e b ≤ 4 := by
  unfold tKd at h
  unfold isD
  split at h
  · exact absurd h (by decide)
  · next c0 =>
    split at h
    · split at h
      · exact absurd h (by decide)
      · exact absurd h (by decide)
    · next c1 =>
      split at h
      · next c2 =>
        split at h
        · next c3 => exact ⟨by rw [decide_eq_true c0, Bool.eq_false_iff.mpr c1, c2]; rfl, c3⟩
        · exact absurd h (by decide)
      · split at h
        · exact absurd h (by decide)
        · exact absurd h (by decide)
theorem tKd_r {T : Nat → Int32} : tKd T e b = 0 ∨ tKd T e b = 1 ∨ tKd T e b = 2 ∨ tKd T e b = 3 ∨ tKd T e b = 4 := by
  unfold tKd
  repeat' split
  all_goals simp
theorem next_rel (h : Sy g w E) (hf : xI w 278 15 = 0) (hb : xI w 278 11 = xI g 2 4) (hP : ∀ v, Nx w v → Wk (nxt g) v E → P none v) : zr 177 0 [.ref 278, .null] [] w P := by
  obtain ⟨hM, hC, h10, hT, hR⟩ := h
  obtain ⟨e, a, b, q⟩ := hC.2
  have hbe := q.2.2.2.2.1
  have h12 := q.2.2.1
  refine next_run hM hf (h10.trans q.2.1) h12 (by rw [hT]; exact hR) (hb.trans q.2.2.2.1) hbe (fun v hn n1 n2 n3 n4 n5 => hP v hn ⟨⟨hn.ny.md hM, hC.nx, ?_, ?_, ?_⟩, ?_, ?_⟩)
  · rw [hn.2.2.1 278 10 (by omega), h10]
    exact (kp_nxt.2.2.2.2.2 2 (by omega)).symm
  · rw [hn.ny.f (by omega), hT]
    exact (kp_nxt.f (by omega) (by omega)).symm
  · rw [show xI (nxt g) 3 = xI g 3 from kp_nxt.f (by omega) (by omega)]
    exact hR
  · rw [hn.2.2.1 278 15 (by omega)]
    exact hf
  · rw [hT] at n1 n2 n3 n4 n5
    have e3 : xI (nxt g) 2 3 = nI (tA (xI g 3) e b) := by rw [q.nx]; rfl
    have e4 : xI (nxt g) 2 4 = nI (tN (xI g 3) e b) := by rw [q.nx]; rfl
    have e5 : xI (nxt g) 2 5 = tKd (xI g 3) e b := by rw [q.nx]; rfl
    have eT : xI (nxt g) 3 = xI g 3 := kp_nxt.f (by omega) (by omega)
    have hN := tN_b (T := xI g 3) hbe
    refine ⟨n1.trans e3.symm, n2.trans e4.symm, by rw [n3, e5], by rw [e5]; exact tKd_r, fun z => ?_, fun z => ?_⟩
    · rw [e5] at z
      obtain ⟨l1, l2, l3⟩ := tKd_1 z
      have n4 := n4 l1
      rw [show min (tN (xI g 3) e b - tA (xI g 3) e b) 7 = tN (xI g 3) e b - tA (xI g 3) e b by omega] at n4
      have hL : Ltr (xI g 3) (tA (xI g 3) e b) (tN (xI g 3) e b - tA (xI g 3) e b) (fun i => xix (xI g 3 (tA (xI g 3) e b + i))) := Ltr_of (fun i hi => lRun_in (qLt (xI g 3)) (e - tA (xI g 3) e b) (tA (xI g 3) e b) _ (by omega) (by rw [← l3]; omega))
      refine ⟨tA (xI g 3) e b, tN (xI g 3) e b - tA (xI g 3) e b, _, l2, e3, ?_, by omega, by rw [eT]; exact hL, ?_, ?_⟩
      · rw [e4]; congr 1; omega
      · rw [q.nx]
        show (if isL (xI g 3) e b = true then _ else _) = _
        rw [if_pos l1]
        exact fWd_eN _ hL
      · rw [n4]
        exact fWm_eN _ hL
    · rw [e5] at z
      obtain ⟨l1, l2⟩ := tKd_2 z
      have n5 := n5 l1
      rw [show min (tN (xI g 3) e b - tA (xI g 3) e b) 4 = tN (xI g 3) e b - tA (xI g 3) e b by omega] at n5
      rw [n5, q.nx]
      show _ = (if isD (xI g 3) e b = true then _ else _)
      rw [if_pos l1]
theorem flaw_0 (hM : xIs w 278 11) (hf : xI w 278 15 = 0) : zr 181 0 [.ref 278, .int x] [] w P = P none (xsI (xsI w 278 15 x) 278 12 0) := by
  have i1 : xIs (xsI w 278 15 x) 278 11 := hM
  simp only [r181_0, r181_1, r181_4, r181_7, r181_8, r181_9, r181_12, r181_13, r181_14, r181_17, hM, hf, i1, true_and, and_true, Option.some.injEq, exists_eq_left', Option.toList_some, Option.toList_none, List.cons_append, List.nil_append, xcat_nil, xcat_int, xcat_ref, xcat_long, not_true, not_false_iff, if_true, if_false, and_self, and_false, false_and, or_true, true_or, or_self, z01, z10, zle8, Nat.reduceAdd, Nat.reduceLeDiff]
/-- the model with a fault: nothing moves any more -/
def Fw (w : xMem) : Prop := sMd w ∧ 0 < xI w 278 15 ∧ xI w 278 12 = 0
theorem Fz.fw (h : Fz g w) : Fw w := ⟨h.1, by rw [h.2.2.1]; exact h.2.1, h.2.2.2.1⟩
theorem Fw.nz (h : Fw w) : ¬ xI w 278 15 = 0 ∧ ¬ xI w 278 15 ≤ 0 := ⟨fun q => by have := h.2.1; rw [q] at this; exact absurd this (by decide), i32_nle.mpr h.2.1⟩
theorem flaw_z (h : Fw w) : zr 181 0 [.ref 278, .int x] [] w P = P none w := by
  simp only [r181_0, r181_1, r181_4, r181_7, r181_8, r181_9, r181_12, r181_13, r181_14, r181_17, h.1.1, h.nz.1, xsI_id h.2.2, true_and, and_true, Option.some.injEq, exists_eq_left', Option.toList_some, Option.toList_none, List.cons_append, List.nil_append, xcat_nil, xcat_int, xcat_ref, xcat_long, not_true, not_false_iff, if_true, if_false, and_self, and_false, false_and, or_true, true_or, or_self, z01, z10, zle8, Nat.reduceAdd, Nat.reduceLeDiff]
theorem next_z (h : Fw w) : zr 177 0 [.ref 278, .null] [] w P = P none w := by
  simp only [r177_0, r177_1, r177_4, r177_7, h.1.1, h.nz.2, true_and, and_true, Option.some.injEq, exists_eq_left', Option.toList_some, Option.toList_none, List.cons_append, List.nil_append, xcat_nil, xcat_int, xcat_ref, xcat_long, not_true, not_false_iff, if_true, if_false, and_self, and_false, false_and, or_true, true_or, or_self, z01, z10, zle8, Nat.reduceAdd, Nat.reduceLeDiff]
theorem isWord_run (hr : r = 1000000 + k) (hk : k < 14) (hM : xIs w 278 11) : zr 182 0 [.ref 278, .ref r, .null, .null, .null] [] w P = P (some (.int (bI (decide (xI w 278 12 = 2) && decide (xJ w 278 16 = fXm (xtxt k) (xtxt k).length))))) w := by
  subst hr
  have hl := xtxt_len k
  have t1 : (1000000 ≤ 1000000 + k ∧ 1000000 + k < 1000000 + xtexts.length) = True := eq_true ⟨by omega, by show 1000000 + k < 1000000 + 14; omega⟩
  have t2 : 1000000 + k - 1000000 = k := by omega
  have x62 : (1 ≤ 6) = True := eq_true (by decide)
  have x63 : (2 ≤ 6) = True := eq_true (by decide)
  have lp : ∀ q i, i + q = (xtxt k).length → zr 182 5 [.ref 278, .ref (1000000 + k), .long (fXm (xtxt k) i), .null, .int (nI i)] [] w P = zr 182 33 [.ref 278, .ref (1000000 + k), .long (fXm (xtxt k) (xtxt k).length), .null, .int (nI (xtxt k).length)] [] w P := by
    intro q
    induction q with
    | zero =>
      intro i hi
      have : i = (xtxt k).length := by omega
      subst this
      rw [r182_5]
      simp (disch := omega) only [r182_7, r182_8, r182_11, r182_14, r182_15, r182_17, r182_18, r182_19, r182_21, r182_24, r182_25, r182_26, r182_27, r182_30, t1, t2, x62, xcat_int, xcat_nil, xinbT, xixT, leT, leF, ltT, ltF, ngF, psT, n1F, n2F, km2, km3, km4, km5, km10, km15, km25, kl8, kl14, kl24, kl34, kl274, kl354, kl384, kr1, kr2, kr3, kr4, kr5, kr6, kr7, kr8, kr9, kaa, lb0, lb1, lb2, lb3, lb4, lb5, lb6, lb7, li0, li1, li2, li3, li4, li5, li6, li7, true_and, and_true, Option.some.injEq, exists_eq_left', Option.toList_some, Option.toList_none, List.cons_append, List.nil_append, xcat_nil, xcat_int, xcat_ref, xcat_long, not_true, not_false_iff, if_true, if_false, and_self, and_false, false_and, or_true, true_or, or_self, z01, z10, zle8, Nat.reduceAdd, Nat.reduceLeDiff]
    | succ q ih =>
      intro i hi
      have ih := ih (i + 1) (by omega)
      simp only [fXm] at ih
      have q1 : (0 : Int32) ≤ nI i := nI_pos' (by omega)
      have q2 : (nI i).toNatClampNeg = i := nI_clamp (by omega)
      have q3 : (i < (xtxt k).length) = True := eq_true (by omega)
      rw [r182_5]
      simp (disch := omega) only [r182_7, r182_8, r182_11, r182_14, r182_15, r182_17, r182_18, r182_19, r182_21, r182_24, r182_25, r182_26, r182_27, r182_30, t1, t2, x62, x63, xcat_int, xcat_long, xcat_nil, q1, q2, q3, ih, xinbT, xixT, leT, leF, ltT, ltF, ngF, psT, n1F, n2F, km2, km3, km4, km5, km10, km15, km25, kl8, kl14, kl24, kl34, kl274, kl354, kl384, kr1, kr2, kr3, kr4, kr5, kr6, kr7, kr8, kr9, kaa, lb0, lb1, lb2, lb3, lb4, lb5, lb6, lb7, li0, li1, li2, li3, li4, li5, li6, li7, true_and, and_true, Option.some.injEq, exists_eq_left', Option.toList_some, Option.toList_none, List.cons_append, List.nil_append, xcat_nil, xcat_int, xcat_ref, xcat_long, not_true, not_false_iff, if_true, if_false, and_self, and_false, false_and, or_true, true_or, or_self, z01, z10, zle8, Nat.reduceAdd, Nat.reduceLeDiff]
  have lp := lp (xtxt k).length 0 (by omega)
  simp only [r182_0, r182_1, r182_2, r182_3]
  refine Eq.trans lp ?_
  by_cases c1 : xI w 278 12 = 2
  · by_cases c2 : xJ w 278 16 = fXm (xtxt k) (xtxt k).length
    · simp only [r182_33, r182_34, r182_37, r182_38, r182_41, r182_42, r182_45, r182_46, r182_47, r182_50, r182_51, r182_54, r182_55, hM, c1, c2, lcmp_0, decide_true, Bool.and_self, bI_t, true_and, and_true, Option.some.injEq, exists_eq_left', Option.toList_some, Option.toList_none, List.cons_append, List.nil_append, xcat_nil, xcat_int, xcat_ref, xcat_long, not_true, not_false_iff, if_true, if_false, and_self, and_false, false_and, or_true, true_or, or_self, z01, z10, zle8, Nat.reduceAdd, Nat.reduceLeDiff]
    · simp only [r182_33, r182_34, r182_37, r182_38, r182_41, r182_42, r182_45, r182_46, r182_47, r182_50, r182_51, r182_54, r182_55, hM, c1, c2, lcmp_0, decide_true, decide_false, Bool.and_false, bI_f, true_and, and_true, Option.some.injEq, exists_eq_left', Option.toList_some, Option.toList_none, List.cons_append, List.nil_append, xcat_nil, xcat_int, xcat_ref, xcat_long, not_true, not_false_iff, if_true, if_false, and_self, and_false, false_and, or_true, true_or, or_self, z01, z10, zle8, Nat.reduceAdd, Nat.reduceLeDiff]
  · simp only [r182_33, r182_34, r182_37, r182_38, r182_41, r182_42, r182_45, r182_46, r182_47, r182_50, r182_51, r182_54, r182_55, hM, c1, decide_false, Bool.false_and, bI_f, true_and, and_true, Option.some.injEq, exists_eq_left', Option.toList_some, Option.toList_none, List.cons_append, List.nil_append, xcat_nil, xcat_int, xcat_ref, xcat_long, not_true, not_false_iff, if_true, if_false, and_self, and_false, false_and, or_true, true_or, or_self, z01, z10, zle8, Nat.reduceAdd, Nat.reduceLeDiff]
end
