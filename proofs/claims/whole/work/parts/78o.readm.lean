/-! A LINE in class and model; the class's frame -/
def K3 (g : xMem) : Prop := xI g 2 5 = 3 → xI g 2 4 = xI g 2 3 + 1
/-- what reading leaves as it is, in the class; where the token stands -/
def Fc (g m : xMem) (E : Nat) : Prop := m.1 = g.1 ∧ m.2.2.2 = g.2.2.2 ∧ (∀ c j, c ≠ 1 → c ≠ 2 → (c ≤ E ∨ E + 26 < c) → xI m c j = xI g c j) ∧ (∀ c j, c ≠ 2 → c ≠ 4 → c ≠ 5 → xJ m c j = xJ g c j) ∧ (∀ j, j ≠ 4 → j ≠ 5 → j ≠ 6 → xI m 1 j = xI g 1 j) ∧ (∀ j, j ≤ 2 → xI m 2 j = xI g 2 j) ∧ ∀ e a b, Tq g e a b → K3 g → ∃ a' b', Tq m e a' b' ∧ a ≤ a' ∧ K3 m
section
variable {w v g m : xMem} {P : Option Value → xMem → Prop} {E k n s nl np nb nc nr nh nk : Nat} {x y p c d lo hi z : Int32}
theorem Fc.rf : Fc g g E := ⟨rfl, rfl, fun _ _ _ _ _ => rfl, fun _ _ _ _ _ => rfl, fun _ _ _ _ => rfl, fun _ _ => rfl, fun e a b h k => ⟨a, b, h, Nat.le_refl a, k⟩⟩
theorem Fc.tr (h : Fc g m E) (k : Fc m w E) : Fc g w E := ⟨k.1.trans h.1, k.2.1.trans h.2.1, fun c j a b d => (k.2.2.1 c j a b d).trans (h.2.2.1 c j a b d), fun c j a b d => (k.2.2.2.1 c j a b d).trans (h.2.2.2.1 c j a b d), fun j a b d => (k.2.2.2.2.1 j a b d).trans (h.2.2.2.2.1 j a b d), fun j a => (k.2.2.2.2.2.1 j a).trans (h.2.2.2.2.2.1 j a), fun e a b q r => by
  obtain ⟨a1, b1, q1, l1, r1⟩ := h.2.2.2.2.2.2 e a b q r
  obtain ⟨a2, b2, q2, l2, r2⟩ := k.2.2.2.2.2.2 e a1 b1 q1 r1
  exact ⟨a2, b2, q2, by omega, r2⟩⟩
theorem tKd_3 {T : Nat → Int32} {e b : Nat} (h : tKd T e b = 3) : tN T e b = tA T e b + 1 := by
  unfold tKd at h
  unfold tN
  by_cases c0 : e ≤ tA T e b
  · rw [if_pos c0] at h; exact absurd h (by decide)
  · rw [if_neg c0] at h ⊢
    by_cases c1 : qLt T (tA T e b) = true
    · rw [if_pos c1] at h
      split at h <;> exact absurd h (by decide)
    · rw [if_neg c1] at h ⊢
      by_cases c2 : qDg T (tA T e b) = true
      · rw [if_pos c2] at h
        split at h <;> exact absurd h (by decide)
      · rw [if_neg c2] at h ⊢
        by_cases c3 : T (tA T e b) = 59
        · rw [if_pos c3]
        · rw [if_neg c3] at h; exact absurd h (by decide)
theorem k3_step {e b : Nat} : K3 (mStep g e b) := by
  intro h
  have h : tKd (xI g 3) e b = 3 := h
  show nI (tN (xI g 3) e b) = nI (tA (xI g 3) e b) + 1
  rw [tKd_3 h, nI_1]
theorem Kp.fc (h : Kp g m) (hE : E = 6 ∨ E = 34) (hq : ∀ e a b, Tq g e a b → K3 g → ∃ a' b', Tq m e a' b' ∧ a ≤ a' ∧ K3 m) : Fc g m E := ⟨h.1, h.2.1, fun c j a b _ => h.2.2.1 c j a b, fun c j a _ _ => h.2.2.2.1 c j a, fun j _ a b => h.2.2.2.2.1 j a b, fun j a => h.2.2.2.2.2 j a, hq⟩
theorem Fc.nx (hE : E = 6 ∨ E = 34) : Fc g (nxt g) E := kp_nxt.fc hE (fun e a b h _ => ⟨_, _, h.next, by
  have := (tA_b (T := xI g 3) (e := e) (b := b) h.2.2.2.2.1).1
  have := h.2.2.2.2.2.2
  omega, k3_step⟩)
theorem Fc.fl (hE : E = 6 ∨ E = 34) : Fc g (flt g x) E := kp_flt.fc hE (fun e a b h k => ⟨a, b, h, Nat.le_refl a, k⟩)
theorem Fc.fa (hE : E = 6 ∨ E = 34) : Fc g (fail g x y) E := kp_fail.fc hE (fun e a b h k => ⟨a, b, h, Nat.le_refl a, k⟩)
theorem Fc.sI (hE : E = 6 ∨ E = 34) {b : Nat} (h1 : E < b) (h2 : b ≤ E + 26) : Fc g (xsI g b k x) E := by
  have f : xI (xsI g b k x) 2 = xI g 2 := xIf_sI (by omega)
  refine ⟨rfl, rfl, fun c j _ _ q => xI_ne (by omega), fun _ _ _ _ _ => rfl, fun j _ _ _ => xI_ne (by omega), fun j _ => xI_ne (by omega), fun e a b' h k => ⟨a, b', ?_, Nat.le_refl a, ?_⟩⟩
  · unfold Tq at h ⊢
    rw [f]
    exact h
  · unfold K3 at k ⊢
    rw [f]
    exact k
theorem Fc.s14 : Fc g (xsI g 1 4 x) E := ⟨rfl, rfl, fun c j q _ _ => xI_ne (by omega), fun _ _ _ _ _ => rfl, fun j q _ _ => xI_ne (by omega), fun j _ => xI_ne (by omega), fun e a b h k => ⟨a, b, h, Nat.le_refl a, k⟩⟩
theorem Fc.sJ {z : Int64} {b : Nat} (hb : b = 4 ∨ b = 5) : Fc g (xsJ g b k z) E := ⟨rfl, rfl, fun _ _ _ _ _ => rfl, fun c j _ q1 q2 => xJ_ne (by omega), fun _ _ _ _ => rfl, fun _ _ => rfl, fun e a b h k => ⟨a, b, h, Nat.le_refl a, k⟩⟩
theorem thW_fc {r : Bool × xMem} {f : xMem → Bool × xMem} (h : Fc g r.2 E) (k : Fc r.2 (f r.2).2 E) : Fc g (thW r f).2 E := by
  unfold thW
  split
  · exact h.tr k
  · exact h
theorem thI_fc {r : Int32 × xMem} {f : Int32 → xMem → Bool × xMem} (h : Fc g r.2 E) (k : Fc r.2 (f r.1 r.2).2 E) : Fc g (thI r f).2 E := by
  unfold thI
  split
  · exact h.tr k
  · exact h
theorem thJ_fc {r : Int64 × xMem} {f : Int64 → xMem → Bool × xMem} (h : Fc g r.2 E) (k : Fc r.2 (f r.1 r.2).2 E) : Fc g (thJ r f).2 E := by
  unfold thJ
  split
  · exact h.tr k
  · exact h
theorem word_fc (hE : E = 6 ∨ E = 34) : Fc g (cWord g k).2 E := by
  unfold cWord
  split
  · exact Fc.nx hE
  · exact Fc.fl hE
theorem whole_fc (hE : E = 6 ∨ E = 34) : Fc g (cWhole g lo hi).2 E := by
  unfold cWhole
  split
  · split
    · exact Fc.nx hE
    · exact Fc.fl hE
  · exact Fc.fl hE
theorem fresh_fc (hE : E = 6 ∨ E = 34) : Fc g (cFresh g nc np).2 E := by
  unfold cFresh
  split
  · split
    · exact Fc.fl hE
    · exact Fc.nx hE
  · exact Fc.fl hE
theorem name_fc {A : Nat} (hE : E = 6 ∨ E = 34) : Fc g (cName g A n).2 E := by
  unfold cName
  split
  · split
    · exact Fc.nx hE
    · exact Fc.fl hE
  · exact Fc.fl hE
theorem start_fc (hE : E = 6 ∨ E = 34) : Fc g (cStart g x y).2 E := by
  unfold cStart
  split
  · exact Fc.fl hE
  · split
    · exact Fc.fl hE
    · exact Fc.nx hE
theorem desk_fc (hE : E = 6 ∨ E = 34) : Fc g (cDesk g E).2 E := by
  unfold cDesk
  refine thW_fc ((Fc.nx hE).tr (word_fc hE)) (thI_fc (whole_fc hE) (thW_fc (word_fc hE) (thI_fc (whole_fc hE) ?_)))
  unfold mBeg
  exact (((((((((Fc.sI hE (by omega) (by omega)).tr (Fc.sI hE (by omega) (by omega))).tr (Fc.sI hE (by omega) (by omega))).tr (Fc.sI hE (by omega) (by omega))).tr (Fc.sI hE (by omega) (by omega))).tr (Fc.sI hE (by omega) (by omega))).tr (Fc.sI hE (by omega) (by omega))).tr (Fc.sI hE (by omega) (by omega))).tr Fc.s14)
theorem class2_fc (hE : E = 6 ∨ E = 34) {nm : Int64} : Fc g (cClass2 E nc nm x g).2 E := by
  unfold cClass2 mAddC
  exact (((Fc.sJ (Or.inl rfl)).tr (Fc.sI hE (by omega) (by omega))).tr (Fc.sI hE (by omega) (by omega)))
theorem class_fc (hE : E = 6 ∨ E = 34) : Fc g (cClass g E nc np).2 E := by
  unfold cClass
  refine thJ_fc (fresh_fc hE) ?_
  split
  · exact (Fc.nx hE).tr (thI_fc (name_fc hE) (class2_fc hE))
  · exact class2_fc hE
theorem place2_fc (hE : E = 6 ∨ E = 34) {nm : Int64} {t : Bool} : Fc g (cPlace2 E np nm x t g).2 E := by
  unfold cPlace2 mAddP
  exact ((((Fc.sJ (Or.inr rfl)).tr (Fc.sI hE (by omega) (by omega))).tr (Fc.sI hE (by omega) (by omega))).tr (Fc.sI hE (by omega) (by omega)))
theorem place_fc (hE : E = 6 ∨ E = 34) : Fc g (cPlace g E nc np nl).2 E := by
  unfold cPlace
  refine thJ_fc (fresh_fc hE) (thW_fc (word_fc hE) (thI_fc (whole_fc hE) ?_))
  split
  · exact (Fc.nx hE).tr (place2_fc hE)
  · exact place2_fc hE
theorem addR_fc (hE : E = 6 ∨ E = 34) : Fc g (mAddR g (E + 14) nr p c d x) E := by
  unfold mAddR
  exact (((((Fc.sI hE (by omega) (by omega)).tr (Fc.sI hE (by omega) (by omega))).tr (Fc.sI hE (by omega) (by omega))).tr (Fc.sI hE (by omega) (by omega))).tr (Fc.sI hE (by omega) (by omega)))
theorem rate_fc (hE : E = 6 ∨ E = 34) : Fc g (cRate g E nc np nr).2 E := by
  unfold cRate
  exact thI_fc (name_fc hE) (thI_fc (name_fc hE) (thI_fc (whole_fc hE) (thI_fc (whole_fc hE) (addR_fc hE))))
theorem addH_fc (hE : E = 6 ∨ E = 34) : Fc g (mAddH g (E + 12) nh p c d x y) E := by
  unfold mAddH
  exact ((((((Fc.sI hE (by omega) (by omega)).tr (Fc.sI hE (by omega) (by omega))).tr (Fc.sI hE (by omega) (by omega))).tr (Fc.sI hE (by omega) (by omega))).tr (Fc.sI hE (by omega) (by omega))).tr (Fc.sI hE (by omega) (by omega)))
theorem hol_fc (hE : E = 6 ∨ E = 34) : Fc g (cHol g E nc np nh).2 E := by
  unfold cHol
  exact thI_fc (name_fc hE) (thI_fc (name_fc hE) (thI_fc (whole_fc hE) (thI_fc (whole_fc hE) (thW_fc (word_fc hE) (thI_fc (whole_fc hE) (addH_fc hE))))))
theorem addK_fc (hE : E = 6 ∨ E = 34) : Fc g (mAddK g (E + 12) nk p c x) E := by
  unfold mAddK
  exact ((((Fc.sI hE (by omega) (by omega)).tr (Fc.sI hE (by omega) (by omega))).tr (Fc.sI hE (by omega) (by omega))).tr (Fc.sI hE (by omega) (by omega)))
theorem cap_fc (hE : E = 6 ∨ E = 34) : Fc g (cCap g E nc np nk).2 E := by
  unfold cCap
  refine thI_fc (name_fc hE) (thI_fc (name_fc hE) ?_)
  split
  · exact Fc.fa hE
  · exact thI_fc (whole_fc hE) (addK_fc hE)
theorem put_fc (hE : E = 6 ∨ E = 34) : Fc g (mPut g (E + 4) nb k x y) E := by
  unfold mPut
  exact (Fc.sI hE (by omega) (by omega)).tr (Fc.sI hE (by omega) (by omega))
theorem add_fc (hE : E = 6 ∨ E = 34) : Fc g (mAdd g (E + 4) nb p d x) E := by
  unfold mAdd
  exact ((((Fc.sI hE (by omega) (by omega)).tr (Fc.sI hE (by omega) (by omega))).tr (Fc.sI hE (by omega) (by omega))).tr (Fc.sI hE (by omega) (by omega)))
theorem cor_fc (hE : E = 6 ∨ E = 34) : ∀ r i g, Fc g (cCor E nb x r i g).2 E := by
  intro r
  induction r with
  | zero => intro i g; exact Fc.rf
  | succ r ih =>
    intro i g
    unfold cCor
    split
    · split
      · split
        · exact (whole_fc hE).tr ((whole_fc hE).tr ((put_fc hE).tr (ih _ _)))
        · exact (whole_fc hE).tr (whole_fc hE)
      · exact whole_fc hE
    · exact Fc.rf
theorem bound_fc (hE : E = 6 ∨ E = 34) : Fc g (cBound g E np nb s).2 E := by
  unfold cBound
  refine thI_fc (name_fc hE) (thI_fc (whole_fc hE) ?_)
  split
  · exact (Fc.nx hE).tr (add_fc hE)
  · exact thI_fc (cor_fc hE _ _ _) (add_fc hE)
theorem line_fc (hE : E = 6 ∨ E = 34) : Fc g (cLine g E).2 E := by
  unfold cLine
  split
  · split
    · exact desk_fc hE
    · exact Fc.fl hE
  split
  · exact thW_fc (start_fc hE) (class_fc hE)
  split
  · exact thW_fc (start_fc hE) (place_fc hE)
  split
  · exact thW_fc (start_fc hE) (bound_fc hE)
  split
  · exact thW_fc (start_fc hE) (rate_fc hE)
  split
  · exact thW_fc (start_fc hE) (hol_fc hE)
  split
  · exact thW_fc (start_fc hE) (cap_fc hE)
  · exact Fc.fl hE
/-- both between two lines -/
def Bt (g w : xMem) (E : Nat) : Prop := Wk g w E ∧ sDk g E ∧ (E = 6 ∨ E = 34) ∧ ((xI g 1 4 = 0 ∧ ∀ i, i < 402 → xI w 280 i = 0) ∨ ∃ s nl np nb nc nr nh nk, Rs g w E s nl np nb nc nr nh nk)
theorem Bt.li (h : Bt g w E) : Li g E := by
  obtain ⟨h1, h2, h3, h4⟩ := h
  refine ⟨h1.1.2.1, h2, h3, ?_⟩
  rcases h4 with q | ⟨s, nl, np, nb, nc, nr, nh, nk, q⟩
  · exact Or.inl q.1
  · exact Or.inr ⟨q.2.2.2.1, s, nl, np, nb, nc, nr, nh, nk, q.1.1⟩
theorem lineM (h : Bt g w E) (hK : Lk2 (cLine g E) w E P) : zr 194 0 [.ref 278] [] w P := by
  obtain ⟨h1, hd, hE, h4⟩ := h
  have h0 := h1.1.1.1
  have hs := fun r k hr hk P => isWord_rel (r := r) (k := k) (P := P) hr hk h1
  have s0 := hs 1000000 0 rfl (by omega)
  have s1 := hs 1000001 1 rfl (by omega)
  have s2 := hs 1000002 2 rfl (by omega)
  have s3 := hs 1000003 3 rfl (by omega)
  have s4 := hs 1000004 4 rfl (by omega)
  have s5 := hs 1000005 5 rfl (by omega)
  have s6 := hs 1000006 6 rfl (by omega)
  have hRg : ∀ {c : Bool × xMem} {q : Nat}, (∀ u2, zr 194 q [.ref 278] [] u2 P = zr 194 117 [.ref 278] [] u2 P) → Lk2 c w E P → Lk2 c w E (fun r u2 => zr 194 q [.ref 278] (r.toList ++ []) u2 P) := fun {c q} hq k => by
    refine ⟨fun z v s nl np nb nc nr nh nk a b d => ?_, fun z v a b => ?_⟩
    · simp only [hq, r194_117, true_and, and_true, Option.some.injEq, exists_eq_left', Option.toList_some, Option.toList_none, List.cons_append, List.nil_append, xcat_nil, xcat_int, xcat_ref, xcat_long, not_true, not_false_iff, if_true, if_false, and_self, and_false, false_and, or_true, true_or, or_self, z01, z10, zle8, Nat.reduceAdd, Nat.reduceLeDiff]
      exact k.1 z v s nl np nb nc nr nh nk a b d
    · simp only [hq, r194_117, true_and, and_true, Option.some.injEq, exists_eq_left', Option.toList_some, Option.toList_none, List.cons_append, List.nil_append, xcat_nil, xcat_int, xcat_ref, xcat_long, not_true, not_false_iff, if_true, if_false, and_self, and_false, false_and, or_true, true_or, or_self, z01, z10, zle8, Nat.reduceAdd, Nat.reduceLeDiff]
      exact k.2 z v a b
  have hN : ∀ {q : Nat}, (∀ u2, zr 194 q [.ref 278] [] u2 P = zr 194 117 [.ref 278] [] u2 P) → Lk2 (false, flt g 6) w E P → ∀ v, Ny w v → Fz (flt g 6) v → (fun (r : Option Value) u2 => zr 194 q [.ref 278] (r.toList ++ []) u2 P) none v := fun {q} hq k v a b => by
    simp only [hq, r194_117, true_and, and_true, Option.some.injEq, exists_eq_left', Option.toList_some, Option.toList_none, List.cons_append, List.nil_append, xcat_nil, xcat_int, xcat_ref, xcat_long, not_true, not_false_iff, if_true, if_false, and_self, and_false, false_and, or_true, true_or, or_self, z01, z10, zle8, Nat.reduceAdd, Nat.reduceLeDiff]
    exact k.2 rfl v a.fm b
  unfold cLine at hK
  by_cases c0 : cSay g 0 = true
  · rw [if_pos c0] at hK
    simp only [r194_0, r194_1, r194_3, r194_6, r194_9, r194_10, h0, s0, c0, bI_t, true_and, and_true, Option.some.injEq, exists_eq_left', Option.toList_some, Option.toList_none, List.cons_append, List.nil_append, xcat_nil, xcat_int, xcat_ref, xcat_long, not_true, not_false_iff, if_true, if_false, and_self, and_false, false_and, or_true, true_or, or_self, z01, z10, zle8, Nat.reduceAdd, Nat.reduceLeDiff]
    rcases h4 with ⟨q1, q2⟩ | ⟨s, nl, np, nb, nc, nr, nh, nk, q⟩
    · rw [if_pos q1] at hK
      exact deskM h1 hd hE q2 (hRg (fun u2 => by rw [r194_13]) hK)
    · rw [if_neg (by rw [q.2.2.2.1]; decide)] at hK
      refine deskM_again h1 q (fun v a b => ?_)
      simp only [r194_13, r194_117, true_and, and_true, Option.some.injEq, exists_eq_left', Option.toList_some, Option.toList_none, List.cons_append, List.nil_append, xcat_nil, xcat_int, xcat_ref, xcat_long, not_true, not_false_iff, if_true, if_false, and_self, and_false, false_and, or_true, true_or, or_self, z01, z10, zle8, Nat.reduceAdd, Nat.reduceLeDiff]
      exact hK.2 rfl v a.fm b
  rw [if_neg c0] at hK
  have c0 := Bool.eq_false_iff.mpr c0
  by_cases c1 : cSay g 1 = true
  · rw [if_pos c1] at hK
    simp only [r194_0, r194_1, r194_3, r194_6, r194_16, r194_17, r194_19, r194_22, r194_25, r194_26, h0, s0, c0, s1, c1, bI_t, bI_f, true_and, and_true, Option.some.injEq, exists_eq_left', Option.toList_some, Option.toList_none, List.cons_append, List.nil_append, xcat_nil, xcat_int, xcat_ref, xcat_long, not_true, not_false_iff, if_true, if_false, and_self, and_false, false_and, or_true, true_or, or_self, z01, z10, zle8, Nat.reduceAdd, Nat.reduceLeDiff]
    rcases h4 with ⟨q1, q2⟩ | ⟨s, nl, np, nb, nc, nr, nh, nk, q⟩
    · rw [cStart_no q1, thW_f (r := (false, flt g 6)) Bool.false_ne_true] at hK
      exact classM_no h1 q2 (hN (fun u2 => by rw [r194_29]) hK)
    · have hb := q.1.1.b
      rw [show xI g (E + 12) 0 = nI nc from q.1.1.2.2.2.2.2.1.1, show xI g (E + 1) 2 = nI np from q.1.1.2.2.2.1.1, xix_nI (by omega), xix_nI (by omega)] at hK
      exact classM h1 q (hRg (fun u2 => by rw [r194_29]) hK)
  rw [if_neg c1] at hK
  have c1 := Bool.eq_false_iff.mpr c1
  by_cases c2 : cSay g 2 = true
  · rw [if_pos c2] at hK
    simp only [r194_0, r194_1, r194_3, r194_6, r194_16, r194_17, r194_19, r194_22, r194_32, r194_33, r194_35, r194_38, r194_41, r194_42, h0, s0, c0, s1, c1, s2, c2, bI_t, bI_f, true_and, and_true, Option.some.injEq, exists_eq_left', Option.toList_some, Option.toList_none, List.cons_append, List.nil_append, xcat_nil, xcat_int, xcat_ref, xcat_long, not_true, not_false_iff, if_true, if_false, and_self, and_false, false_and, or_true, true_or, or_self, z01, z10, zle8, Nat.reduceAdd, Nat.reduceLeDiff]
    rcases h4 with ⟨q1, q2⟩ | ⟨s, nl, np, nb, nc, nr, nh, nk, q⟩
    · rw [cStart_no q1, thW_f (r := (false, flt g 6)) Bool.false_ne_true] at hK
      exact placeM_no h1 q2 (hN (fun u2 => by rw [r194_45]) hK)
    · have hb := q.1.1.b
      rw [show xI g (E + 12) 0 = nI nc from q.1.1.2.2.2.2.2.1.1, show xI g (E + 1) 2 = nI np from q.1.1.2.2.2.1.1, show xI g (E + 1) 1 = nI nl from q.1.1.2.2.1.1, xix_nI (by omega), xix_nI (by omega), xix_nI (by omega)] at hK
      exact placeM h1 q (hRg (fun u2 => by rw [r194_45]) hK)
  rw [if_neg c2] at hK
  have c2 := Bool.eq_false_iff.mpr c2
  by_cases c3 : cSay g 3 = true
  · rw [if_pos c3] at hK
    simp only [r194_0, r194_1, r194_3, r194_6, r194_16, r194_17, r194_19, r194_22, r194_32, r194_33, r194_35, r194_38, r194_48, r194_49, r194_51, r194_54, r194_57, r194_58, h0, s0, c0, s1, c1, s2, c2, s3, c3, bI_t, bI_f, true_and, and_true, Option.some.injEq, exists_eq_left', Option.toList_some, Option.toList_none, List.cons_append, List.nil_append, xcat_nil, xcat_int, xcat_ref, xcat_long, not_true, not_false_iff, if_true, if_false, and_self, and_false, false_and, or_true, true_or, or_self, z01, z10, zle8, Nat.reduceAdd, Nat.reduceLeDiff]
    rcases h4 with ⟨q1, q2⟩ | ⟨s, nl, np, nb, nc, nr, nh, nk, q⟩
    · rw [cStart_no q1, thW_f (r := (false, flt g 6)) Bool.false_ne_true] at hK
      exact boundM_no h1 q2 (hN (fun u2 => by rw [r194_61]) hK)
    · have hb := q.1.1.b
      rw [show xI g (E + 4) 0 = nI nb from q.1.1.2.2.2.2.1.1, show xI g (E + 1) 2 = nI np from q.1.1.2.2.2.1.1, show xI g (E + 1) 0 = nI s from q.1.1.2.1.1, xix_nI (by omega), xix_nI (by omega), xix_nI (by omega)] at hK
      exact boundM h1 q (hRg (fun u2 => by rw [r194_61]) hK)
  rw [if_neg c3] at hK
  have c3 := Bool.eq_false_iff.mpr c3
  by_cases c4 : cSay g 4 = true
  · rw [if_pos c4] at hK
    simp only [r194_0, r194_1, r194_3, r194_6, r194_16, r194_17, r194_19, r194_22, r194_32, r194_33, r194_35, r194_38, r194_48, r194_49, r194_51, r194_54, r194_64, r194_65, r194_67, r194_70, r194_73, r194_74, h0, s0, c0, s1, c1, s2, c2, s3, c3, s4, c4, bI_t, bI_f, true_and, and_true, Option.some.injEq, exists_eq_left', Option.toList_some, Option.toList_none, List.cons_append, List.nil_append, xcat_nil, xcat_int, xcat_ref, xcat_long, not_true, not_false_iff, if_true, if_false, and_self, and_false, false_and, or_true, true_or, or_self, z01, z10, zle8, Nat.reduceAdd, Nat.reduceLeDiff]
    rcases h4 with ⟨q1, q2⟩ | ⟨s, nl, np, nb, nc, nr, nh, nk, q⟩
    · rw [cStart_no q1, thW_f (r := (false, flt g 6)) Bool.false_ne_true] at hK
      exact rateM_no h1 q2 (hN (fun u2 => by rw [r194_77]) hK)
    · have hb := q.1.1.b
      rw [show xI g (E + 14) 0 = nI nr from q.1.1.2.2.2.2.2.2.1.1, show xI g (E + 1) 2 = nI np from q.1.1.2.2.2.1.1, show xI g (E + 12) 0 = nI nc from q.1.1.2.2.2.2.2.1.1, xix_nI (by omega), xix_nI (by omega), xix_nI (by omega)] at hK
      exact rateM h1 q (hRg (fun u2 => by rw [r194_77]) hK)
  rw [if_neg c4] at hK
  have c4 := Bool.eq_false_iff.mpr c4
  by_cases c5 : cSay g 5 = true
  · rw [if_pos c5] at hK
    simp only [r194_0, r194_1, r194_3, r194_6, r194_16, r194_17, r194_19, r194_22, r194_32, r194_33, r194_35, r194_38, r194_48, r194_49, r194_51, r194_54, r194_64, r194_65, r194_67, r194_70, r194_80, r194_81, r194_83, r194_86, r194_89, r194_90, h0, s0, c0, s1, c1, s2, c2, s3, c3, s4, c4, s5, c5, bI_t, bI_f, true_and, and_true, Option.some.injEq, exists_eq_left', Option.toList_some, Option.toList_none, List.cons_append, List.nil_append, xcat_nil, xcat_int, xcat_ref, xcat_long, not_true, not_false_iff, if_true, if_false, and_self, and_false, false_and, or_true, true_or, or_self, z01, z10, zle8, Nat.reduceAdd, Nat.reduceLeDiff]
    rcases h4 with ⟨q1, q2⟩ | ⟨s, nl, np, nb, nc, nr, nh, nk, q⟩
    · rw [cStart_no q1, thW_f (r := (false, flt g 6)) Bool.false_ne_true] at hK
      exact holM_no h1 q2 (hN (fun u2 => by rw [r194_93]) hK)
    · have hb := q.1.1.b
      rw [show xI g (E + 12) 3 = nI nh from q.1.1.2.2.2.2.2.2.2.1.1, show xI g (E + 1) 2 = nI np from q.1.1.2.2.2.1.1, show xI g (E + 12) 0 = nI nc from q.1.1.2.2.2.2.2.1.1, xix_nI (by omega), xix_nI (by omega), xix_nI (by omega)] at hK
      exact holM h1 q (hRg (fun u2 => by rw [r194_93]) hK)
  rw [if_neg c5] at hK
  have c5 := Bool.eq_false_iff.mpr c5
  by_cases c6 : cSay g 6 = true
  · rw [if_pos c6] at hK
    simp only [r194_0, r194_1, r194_3, r194_6, r194_16, r194_17, r194_19, r194_22, r194_32, r194_33, r194_35, r194_38, r194_48, r194_49, r194_51, r194_54, r194_64, r194_65, r194_67, r194_70, r194_80, r194_81, r194_83, r194_86, r194_96, r194_97, r194_99, r194_102, r194_105, r194_106, h0, s0, c0, s1, c1, s2, c2, s3, c3, s4, c4, s5, c5, s6, c6, bI_t, bI_f, true_and, and_true, Option.some.injEq, exists_eq_left', Option.toList_some, Option.toList_none, List.cons_append, List.nil_append, xcat_nil, xcat_int, xcat_ref, xcat_long, not_true, not_false_iff, if_true, if_false, and_self, and_false, false_and, or_true, true_or, or_self, z01, z10, zle8, Nat.reduceAdd, Nat.reduceLeDiff]
    rcases h4 with ⟨q1, q2⟩ | ⟨s, nl, np, nb, nc, nr, nh, nk, q⟩
    · rw [cStart_no q1, thW_f (r := (false, flt g 6)) Bool.false_ne_true] at hK
      exact capM_no h1 q2 (hN (fun u2 => by rw [r194_109]) hK)
    · have hb := q.1.1.b
      rw [show xI g (E + 12) 9 = nI nk from q.1.1.2.2.2.2.2.2.2.2.1.1, show xI g (E + 1) 2 = nI np from q.1.1.2.2.2.1.1, show xI g (E + 12) 0 = nI nc from q.1.1.2.2.2.2.2.1.1, xix_nI (by omega), xix_nI (by omega), xix_nI (by omega)] at hK
      exact capM h1 q (hRg (fun u2 => by rw [r194_109]) hK)
  rw [if_neg c6] at hK
  have c6 := Bool.eq_false_iff.mpr c6
  have zz := h1.fz (x := 1) (by decide)
  simp only [r194_0, r194_1, r194_3, r194_6, r194_16, r194_17, r194_19, r194_22, r194_32, r194_33, r194_35, r194_38, r194_48, r194_49, r194_51, r194_54, r194_64, r194_65, r194_67, r194_70, r194_80, r194_81, r194_83, r194_86, r194_96, r194_97, r194_99, r194_102, r194_112, r194_113, r194_114, r194_117, h0, s0, c0, s1, c1, s2, c2, s3, c3, s4, c4, s5, c5, s6, c6, bI_f, flaw_0 h0 h1.2.1, true_and, and_true, Option.some.injEq, exists_eq_left', Option.toList_some, Option.toList_none, List.cons_append, List.nil_append, xcat_nil, xcat_int, xcat_ref, xcat_long, not_true, not_false_iff, if_true, if_false, and_self, and_false, false_and, or_true, true_or, or_self, z01, z10, zle8, Nat.reduceAdd, Nat.reduceLeDiff]
  exact hK.2 rfl _ ny_fl.fm zz
end
