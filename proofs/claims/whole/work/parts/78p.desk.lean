/-! THE WHOLE TEXT read, in class and model -/
def cOk (m : xMem) (E : Nat) : Bool := decide (¬ xI m (E + 12) 0 ≤ 0) && decide (¬ xI m (E + 1) 2 ≤ 0)
def cReads (E : Nat) : Nat → xMem → Bool × xMem
  | 0, g => (false, flt g 1)
  | r + 1, g => if (cLine g E).1 = true then (if xI (cLine g E).2 2 5 = 0 then (if cOk (cLine g E).2 E = true then (true, (cLine g E).2) else (false, flt (cLine g E).2 6)) else if xI (cLine g E).2 2 5 = 3 then cReads E r (nxt (cLine g E).2) else (false, flt (cLine g E).2 1)) else (false, (cLine g E).2)
/-- what a text comes to, in both -/
def Rd2 (c : Bool × xMem) (w : xMem) (E : Nat) (P : Option Value → xMem → Prop) : Prop :=
  (c.1 = true → ∀ v s nl np nb nc nr nh nk, Fm w v → xI v 278 15 = 0 → Rs c.2 v E s nl np nb nc nr nh nk → 0 < np → P none v) ∧ (c.1 = false → ∀ v, Fm w v → Fz c.2 v → P none v)
section
variable {w v g m : xMem} {P : Option Value → xMem → Prop} {E k n s nl np nb nc nr nh nk : Nat} {x y p c d lo hi z : Int32}
theorem isWhole_run (h : sRd g E) (hd : sDk g E) : zr 68 0 [.ref 1] [] g P = P (some (.int (bI (cOk g E)))) g := by
  obtain ⟨f1, f2, f3, f4, f5, f6, f7, f8, f9⟩ := hd.cf2
  obtain ⟨g0, ⟨r0, r1, r2, r3⟩, -⟩ := h
  unfold cOk
  by_cases c1 : xI g (E + 12) 0 ≤ 0
  · simp only [r68_0, r68_1, r68_4, r68_7, r68_10, r68_13, r68_14, r68_17, r68_20, r68_23, r68_26, r68_27, r68_30, r68_31, g0, r3, f1, f2, f3, f4, f7, c1, decide_false, Bool.false_and, bI_f, true_and, and_true, Option.some.injEq, exists_eq_left', Option.toList_some, Option.toList_none, List.cons_append, List.nil_append, xcat_nil, xcat_int, xcat_ref, xcat_long, not_true, not_false_iff, if_true, if_false, and_self, and_false, false_and, or_true, true_or, or_self, z01, z10, zle8, Nat.reduceAdd, Nat.reduceLeDiff]
  · by_cases c2 : xI g (E + 1) 2 ≤ 0
    · simp only [r68_0, r68_1, r68_4, r68_7, r68_10, r68_13, r68_14, r68_17, r68_20, r68_23, r68_26, r68_27, r68_30, r68_31, g0, r3, f1, f2, f3, f4, f7, c1, c2, decide_false, decide_true, Bool.and_false, bI_f, true_and, and_true, Option.some.injEq, exists_eq_left', Option.toList_some, Option.toList_none, List.cons_append, List.nil_append, xcat_nil, xcat_int, xcat_ref, xcat_long, not_true, not_false_iff, if_true, if_false, and_self, and_false, false_and, or_true, true_or, or_self, z01, z10, zle8, Nat.reduceAdd, Nat.reduceLeDiff]
    · simp only [r68_0, r68_1, r68_4, r68_7, r68_10, r68_13, r68_14, r68_17, r68_20, r68_23, r68_26, r68_27, r68_30, r68_31, g0, r3, f1, f2, f3, f4, f7, c1, c2, decide_true, Bool.and_self, bI_t, true_and, and_true, Option.some.injEq, exists_eq_left', Option.toList_some, Option.toList_none, List.cons_append, List.nil_append, xcat_nil, xcat_int, xcat_ref, xcat_long, not_true, not_false_iff, if_true, if_false, and_self, and_false, false_and, or_true, true_or, or_self, z01, z10, zle8, Nat.reduceAdd, Nat.reduceLeDiff]
theorem posI {a : Nat} (ha : a < 1000) : (nI a ≤ 0) = (a = 0) := by
  apply propext
  rw [i32_le, nI_toI (by omega)]
  have e0 : (0 : Int32).toInt = 0 := rfl
  omega
theorem reads_all {xn : Int32} : ∀ r k g w, k + r = 1201 → Bt g w E → (∃ e a b, Tq g e a b ∧ k ≤ a) → K3 g →
    (∀ P, zr 67 20 [.ref 1, .int xn, .int (nI k)] [] g P = P (some (.int (bI (cReads E r g).1))) (cReads E r g).2) ∧
    (∀ P v1, Rd2 (cReads E r g) w E P → zr 194 0 [.ref 278] [] w (fun r u2 => zr 193 30 [.ref 278, v1] (r.toList ++ []) u2 P)) ∧ Fc g (cReads E r g).2 E := by
  intro r
  induction r with
  | zero =>
    intro k g w hk hB hT
    obtain ⟨e, a, b, q, hka⟩ := hT
    exfalso
    have h1 := q.2.2.1
    have h2 := q.2.2.2.2.1
    have h3 := q.2.2.2.2.2.2
    omega
  | succ r ih =>
    intro k g w hk hB hT hK3
    have hE := hB.2.2.1
    have hLi := hB.li
    have hfc : Fc g (cLine g E).2 E := line_fc hE
    have hex : (cLine g E).1 = true → ∃ v s nl np nb nc nr nh nk, Fm w v ∧ Wk (cLine g E).2 v E ∧ Rs (cLine g E).2 v E s nl np nb nc nr nh nk := by
      intro c
      have hz : zr 194 0 [.ref 278] [] w (fun _ v => ∃ s nl np nb nc nr nh nk, Fm w v ∧ Wk (cLine g E).2 v E ∧ Rs (cLine g E).2 v E s nl np nb nc nr nh nk) := lineM hB ⟨fun _ v s nl np nb nc nr nh nk h1 h2 h3 => ⟨s, nl, np, nb, nc, nr, nh, nk, h1, h2, h3⟩, fun q => by rw [c] at q; cases q⟩
      obtain ⟨_, _, v, _, hv⟩ := hz
      exact ⟨v, hv⟩
    have hline := fun P v1 (hK : Lk2 (cLine g E) w E (fun r u2 => zr 193 30 [.ref 278, v1] (r.toList ++ []) u2 P)) => lineM hB hK
    have hcl := fun P => readLine_run (P := P) hLi
    have q12 : ¬ (1200 : Int32) < nI k := nI_nlt (a := 1200) (b := k) (by omega) (by omega)
    have q12' : (1200 : Int32) = nI 1200 := rfl
    have g0 := hLi.1.1.1
    unfold cReads
    generalize cLine g E = cl at *
    by_cases c0 : cl.1 = true
    · rw [if_pos c0]
      obtain ⟨v, s, nl, np, nb, nc, nr, nh, nk, hf, hv, hr⟩ := hex c0
      have hb := hr.1.1.b
      obtain ⟨e0, e1, e2, e3, -⟩ := hr.e
      have hcs := hv.1.2.1
      obtain ⟨e, a, b, q⟩ := hcs.2
      have m0 := hcs.1.1
      have m1 := hcs.1.2.1.1
      have t0 := q.1.1
      have hdm : sDk cl.2 E := hr.1.1.1
      have enc : xI cl.2 (E + 12) 0 = nI nc := hr.1.1.2.2.2.2.2.1.1
      have enp : xI cl.2 (E + 1) 2 = nI np := hr.1.1.2.2.2.1.1
      by_cases c5 : xI cl.2 2 5 = 0
      · rw [if_pos c5]
        by_cases c6 : cOk cl.2 E = true
        · rw [if_pos c6]
          have c7 := c6
          unfold cOk at c7
          simp (disch := omega) only [enc, enp, Bool.and_eq_true, decide_eq_true_eq, posI] at c7
          refine ⟨fun P => ?_, fun P v1 hK => ?_, hfc⟩
          · rw [r67_20]
            simp only [r67_21, r67_24, r67_27, r67_28, r67_31, r67_34, r67_35, r67_36, r67_37, r67_40, r67_43, r67_46, r67_47, r67_50, r67_53, r67_54, r67_56, r67_59, r67_62, r67_63, r67_66, r67_67, g0, hcl, c0, bI_t, m0, m1, t0, c5, q12, isWhole_run hcs.1 hdm, c6, or_true, true_and, and_true, Option.some.injEq, exists_eq_left', Option.toList_some, Option.toList_none, List.cons_append, List.nil_append, xcat_nil, xcat_int, xcat_ref, xcat_long, not_true, not_false_iff, if_true, if_false, and_self, and_false, false_and, or_true, true_or, or_self, z01, z10, zle8, Nat.reduceAdd, Nat.reduceLeDiff]
          · refine hline P v1 ⟨fun _ v s nl np nb nc nr nh nk hf hv hr => ?_, fun z => by rw [c0] at z; cases z⟩
            have hb := hr.1.1.b
            obtain ⟨e0, e1, e2, e3, -⟩ := hr.e
            obtain ⟨h0, r4, -, -, j0, k0, -⟩ := hv.1.1.cf
            obtain ⟨z2, z3, z4, z1⟩ := mKd_2 hv.2.2.2.2.2.1
            have t1 : xI v 278 12 = 1 := by rw [hv.2.2.2.2.1]; exact z1.mpr c5
            have enc : xI cl.2 (E + 12) 0 = nI nc := hr.1.1.2.2.2.2.2.1.1
            have enp : xI cl.2 (E + 1) 2 = nI np := hr.1.1.2.2.2.1.1
            have c7 := c6
            unfold cOk at c7
            simp (disch := omega) only [enc, enp, Bool.and_eq_true, decide_eq_true_eq, posI] at c7
            have n0 : ¬ nI s = 0 := nI_ne0 (by have := hr.2.2.1; omega) (by omega)
            have n1 : ¬ nI nc = 0 := nI_ne0 (by omega) (by omega)
            have n2 : ¬ nI np = 0 := nI_ne0 (by omega) (by omega)
            simp (disch := omega) only [Option.toList_none, List.nil_append, r193_30, r193_31, r193_34, r193_35, r193_49, r193_50, r193_53, r193_54, r193_57, r193_58, r193_59, r193_62, r193_63, r193_66, r193_69, r193_70, r193_73, r193_74, r193_75, r193_78, r193_79, r193_82, r193_83, r193_84, r193_87, r193_88, r193_91, r193_92, r193_93, r193_96, r193_97, r193_99, r193_102, h0, r4, j0, k0, t1, hv.2.1, e0, e2, e3, n0, n1, n2, show ¬ (1 : Int32) = 4 by decide, xinbT, xixT, leT, leF, ltT, ltF, ngF, psT, n1F, n2F, km2, km3, km4, km5, km10, km15, km25, kl8, kl14, kl24, kl34, kl274, kl354, kl384, kr1, kr2, kr3, kr4, kr5, kr6, kr7, kr8, kr9, kaa, lb0, lb1, lb2, lb3, lb4, lb5, lb6, lb7, li0, li1, li2, li3, li4, li5, li6, li7, true_and, and_true, Option.some.injEq, exists_eq_left', Option.toList_some, Option.toList_none, List.cons_append, List.nil_append, xcat_nil, xcat_int, xcat_ref, xcat_long, not_true, not_false_iff, if_true, if_false, and_self, and_false, false_and, or_true, true_or, or_self, z01, z10, zle8, Nat.reduceAdd, Nat.reduceLeDiff]
            exact hK.1 rfl v s nl np nb nc nr nh nk hf hv.2.1 hr (by omega)
        · rw [if_neg c6]
          refine ⟨fun P => ?_, fun P v1 hK => ?_, hfc.tr (Fc.fl hE)⟩
          · rw [r67_20]
            simp only [r67_21, r67_24, r67_27, r67_28, r67_31, r67_34, r67_35, r67_36, r67_37, r67_40, r67_43, r67_46, r67_47, r67_50, r67_53, r67_54, r67_56, r67_59, r67_62, r67_63, r67_66, r67_67, g0, hcl, c0, bI_t, bI_f, m0, m1, t0, c5, q12, isWhole_run hcs.1 hdm, Bool.eq_false_iff.mpr c6, fails_run hcs, true_and, and_true, Option.some.injEq, exists_eq_left', Option.toList_some, Option.toList_none, List.cons_append, List.nil_append, xcat_nil, xcat_int, xcat_ref, xcat_long, not_true, not_false_iff, if_true, if_false, and_self, and_false, false_and, or_true, true_or, or_self, z01, z10, zle8, Nat.reduceAdd, Nat.reduceLeDiff]
          · refine hline P v1 ⟨fun _ v s nl np nb nc nr nh nk hf hv hr => ?_, fun z => by rw [c0] at z; cases z⟩
            have hb := hr.1.1.b
            obtain ⟨e0, e1, e2, e3, -⟩ := hr.e
            obtain ⟨h0, r4, -, -, j0, k0, -⟩ := hv.1.1.cf
            obtain ⟨z2, z3, z4, z1⟩ := mKd_2 hv.2.2.2.2.2.1
            have t1 : xI v 278 12 = 1 := by rw [hv.2.2.2.2.1]; exact z1.mpr c5
            have enc : xI cl.2 (E + 12) 0 = nI nc := hr.1.1.2.2.2.2.2.1.1
            have enp : xI cl.2 (E + 1) 2 = nI np := hr.1.1.2.2.2.1.1
            have c7 := c6
            unfold cOk at c7
            simp (disch := omega) only [enc, enp, Bool.and_eq_true, decide_eq_true_eq, posI] at c7
            have n0 : ¬ nI s = 0 := nI_ne0 (by have := hr.2.2.1; omega) (by omega)
            have zz := hv.fz (x := 6) (by decide)
            by_cases c8 : nc = 0
            · subst c8
              simp (disch := omega) only [Option.toList_none, List.nil_append, r193_30, r193_31, r193_34, r193_35, r193_49, r193_50, r193_53, r193_54, r193_57, r193_58, r193_59, r193_62, r193_63, r193_66, r193_69, r193_70, r193_73, r193_74, r193_75, r193_78, r193_79, r193_82, r193_83, r193_84, r193_87, r193_88, r193_91, r193_92, r193_93, r193_96, r193_97, r193_99, r193_102, h0, r4, j0, k0, t1, hv.2.1, e0, e2, e3, n0, show nI 0 = 0 from rfl, flaw_0 h0 hv.2.1, show ¬ (1 : Int32) = 4 by decide, xinbT, xixT, leT, leF, ltT, ltF, ngF, psT, n1F, n2F, km2, km3, km4, km5, km10, km15, km25, kl8, kl14, kl24, kl34, kl274, kl354, kl384, kr1, kr2, kr3, kr4, kr5, kr6, kr7, kr8, kr9, kaa, lb0, lb1, lb2, lb3, lb4, lb5, lb6, lb7, li0, li1, li2, li3, li4, li5, li6, li7, true_and, and_true, Option.some.injEq, exists_eq_left', Option.toList_some, Option.toList_none, List.cons_append, List.nil_append, xcat_nil, xcat_int, xcat_ref, xcat_long, not_true, not_false_iff, if_true, if_false, and_self, and_false, false_and, or_true, true_or, or_self, z01, z10, zle8, Nat.reduceAdd, Nat.reduceLeDiff]
              exact hK.2 rfl _ (hf.tr ny_fl.fm) zz
            · have n1 : ¬ nI nc = 0 := nI_ne0 (by omega) (by omega)
              have c9 : np = 0 := by
                by_cases z : np = 0
                · exact z
                · exact absurd ⟨c8, z⟩ c7
              subst c9
              simp (disch := omega) only [Option.toList_none, List.nil_append, r193_30, r193_31, r193_34, r193_35, r193_49, r193_50, r193_53, r193_54, r193_57, r193_58, r193_59, r193_62, r193_63, r193_66, r193_69, r193_70, r193_73, r193_74, r193_75, r193_78, r193_79, r193_82, r193_83, r193_84, r193_87, r193_88, r193_91, r193_92, r193_93, r193_96, r193_97, r193_99, r193_102, h0, r4, j0, k0, t1, hv.2.1, e0, e2, e3, n0, n1, show nI 0 = 0 from rfl, flaw_0 h0 hv.2.1, show ¬ (1 : Int32) = 4 by decide, xinbT, xixT, leT, leF, ltT, ltF, ngF, psT, n1F, n2F, km2, km3, km4, km5, km10, km15, km25, kl8, kl14, kl24, kl34, kl274, kl354, kl384, kr1, kr2, kr3, kr4, kr5, kr6, kr7, kr8, kr9, kaa, lb0, lb1, lb2, lb3, lb4, lb5, lb6, lb7, li0, li1, li2, li3, li4, li5, li6, li7, true_and, and_true, Option.some.injEq, exists_eq_left', Option.toList_some, Option.toList_none, List.cons_append, List.nil_append, xcat_nil, xcat_int, xcat_ref, xcat_long, not_true, not_false_iff, if_true, if_false, and_self, and_false, false_and, or_true, true_or, or_self, z01, z10, zle8, Nat.reduceAdd, Nat.reduceLeDiff]
              exact hK.2 rfl _ (hf.tr ny_fl.fm) zz
      · rw [if_neg c5]
        by_cases c6 : xI cl.2 2 5 = 3
        · rw [if_pos c6]
          -- the next line
          have hN : ∀ v (hf : Fm w v) (hv : Wk cl.2 v E) s nl np nb nc nr nh nk (hr : Rs cl.2 v E s nl np nb nc nr nh nk), ∀ v2, Nx v v2 → Wk (nxt cl.2) v2 E → Bt (nxt cl.2) v2 E := fun v hf hv s nl np nb nc nr nh nk hr v2 hn hv2 => ⟨hv2, kp_nxt.dk hr.1.1.1, hE, Or.inr ⟨s, nl, np, nb, nc, nr, nh, nk, hr.mv kp_nxt hn.ny⟩⟩
          have hT2 : ∃ e a b, Tq (nxt cl.2) e a b ∧ k + 1 ≤ a := by
            obtain ⟨e, a, b, q, hka⟩ := hT
            obtain ⟨a', b', q2, l2, k2⟩ := hfc.2.2.2.2.2.2 e a b q hK3
            refine ⟨e, _, _, q2.next, ?_⟩
            have hb1 := (tA_b (T := xI cl.2 3) (e := e) (b := b') q2.2.2.2.2.1).1
            have k3 := k2 c6
            have u1 := q2.2.2.1
            have u2 := q2.2.2.2.2.1
            have u3 := q2.2.2.2.2.2.2
            rw [q2.2.2.2.1, q2.2.2.2.2.2.1, nI_1] at k3
            have k4 := (nI_eq (by omega) (by omega)).mp k3
            omega
          have hK32 : K3 (nxt cl.2) := by
            unfold nxt
            exact k3_step
          have hv2 : ∃ v2, Nx v v2 ∧ Wk (nxt cl.2) v2 E := by
            have hz : zr 177 0 [.ref 278, .null] [] v (fun _ v2 => Nx v v2 ∧ Wk (nxt cl.2) v2 E) := hv.next (fun v2 h1 h2 => ⟨h1, h2⟩)
            obtain ⟨_, _, v2, _, h⟩ := hz
            exact ⟨v2, h⟩
          obtain ⟨v2, hn2, hv2⟩ := hv2
          obtain ⟨iA, -, iC⟩ := ih (k + 1) (nxt cl.2) v2 (by omega) (hN v hf hv s nl np nb nc nr nh nk hr v2 hn2 hv2) hT2 hK32
          refine ⟨fun P => ?_, fun P v1 hK => ?_, hfc.tr ((Fc.nx hE).tr iC)⟩
          · rw [r67_20]
            simp only [r67_21, r67_24, r67_27, r67_28, r67_31, r67_36, r67_37, r67_40, r67_43, r67_68, r67_69, r67_72, r67_75, r67_76, r67_79, r67_80, r67_81, r67_84, r67_85, r67_86, r67_89, r67_92, r67_95, g0, hcl, c0, bI_t, m0, m1, t0, c5, c6, show ¬ (3 : Int32) = 0 by decide, q12, nxt_run hcs, nI_1, iA, true_and, and_true, Option.some.injEq, exists_eq_left', Option.toList_some, Option.toList_none, List.cons_append, List.nil_append, xcat_nil, xcat_int, xcat_ref, xcat_long, not_true, not_false_iff, if_true, if_false, and_self, and_false, false_and, or_true, true_or, or_self, z01, z10, zle8, Nat.reduceAdd, Nat.reduceLeDiff]
          · refine hline P v1 ⟨fun _ v s nl np nb nc nr nh nk hf hv hr => ?_, fun z => by rw [c0] at z; cases z⟩
            obtain ⟨h0, r4, -, -, j0, k0, -⟩ := hv.1.1.cf
            obtain ⟨z2, z3, z4, z1⟩ := mKd_2 hv.2.2.2.2.2.1
            have t1 : xI v 278 12 = 4 := by rw [hv.2.2.2.2.1]; exact z4.mpr c6
            simp only [Option.toList_none, List.nil_append, r193_30, r193_31, r193_34, r193_35, r193_38, r193_39, h0, t1, true_and, and_true, Option.some.injEq, exists_eq_left', Option.toList_some, Option.toList_none, List.cons_append, List.nil_append, xcat_nil, xcat_int, xcat_ref, xcat_long, not_true, not_false_iff, if_true, if_false, and_self, and_false, false_and, or_true, true_or, or_self, z01, z10, zle8, Nat.reduceAdd, Nat.reduceLeDiff]
            refine hv.next (fun v2 hn2 hv2 => ?_)
            obtain ⟨-, iB, -⟩ := ih (k + 1) (nxt cl.2) v2 (by omega) (hN v hf hv s nl np nb nc nr nh nk hr v2 hn2 hv2) hT2 hK32
            simp only [r193_42, r193_43, hv2.1.1.1, r193_46, true_and, and_true, Option.some.injEq, exists_eq_left', Option.toList_some, Option.toList_none, List.cons_append, List.nil_append, xcat_nil, xcat_int, xcat_ref, xcat_long, not_true, not_false_iff, if_true, if_false, and_self, and_false, false_and, or_true, true_or, or_self, z01, z10, zle8, Nat.reduceAdd, Nat.reduceLeDiff]
            refine iB P v1 ⟨fun z v3 s nl np nb nc nr nh nk a1 a2 a3 a4 => hK.1 z v3 s nl np nb nc nr nh nk (hf.tr (hn2.fm.tr a1)) a2 a3 a4, fun z v3 a1 a2 => hK.2 z v3 (hf.tr (hn2.fm.tr a1)) a2⟩
        · rw [if_neg c6]
          refine ⟨fun P => ?_, fun P v1 hK => ?_, hfc.tr (Fc.fl hE)⟩
          · rw [r67_20]
            simp only [r67_21, r67_24, r67_27, r67_28, r67_31, r67_36, r67_37, r67_40, r67_43, r67_68, r67_69, r67_72, r67_75, r67_76, r67_79, r67_80, r67_81, r67_84, g0, hcl, c0, bI_t, bI_f, m0, m1, t0, c5, c6, q12, fails_run hcs, true_and, and_true, Option.some.injEq, exists_eq_left', Option.toList_some, Option.toList_none, List.cons_append, List.nil_append, xcat_nil, xcat_int, xcat_ref, xcat_long, not_true, not_false_iff, if_true, if_false, and_self, and_false, false_and, or_true, true_or, or_self, z01, z10, zle8, Nat.reduceAdd, Nat.reduceLeDiff]
          · refine hline P v1 ⟨fun _ v s nl np nb nc nr nh nk hf hv hr => ?_, fun z => by rw [c0] at z; cases z⟩
            obtain ⟨h0, r4, -, -, j0, k0, -⟩ := hv.1.1.cf
            obtain ⟨z2, z3, z4, z1⟩ := mKd_2 hv.2.2.2.2.2.1
            have t4 : ¬ xI v 278 12 = 4 := by rw [hv.2.2.2.2.1]; exact fun q => c6 (z4.mp q)
            have t1 : ¬ xI v 278 12 = 1 := by rw [hv.2.2.2.2.1]; exact fun q => c5 (z1.mp q)
            have zz := hv.fz (x := 1) (by decide)
            simp only [Option.toList_none, List.nil_append, r193_30, r193_31, r193_34, r193_35, r193_49, r193_50, r193_53, r193_54, r193_57, r193_58, r193_59, r193_62, r193_63, r193_66, r193_69, r193_70, r193_73, r193_74, r193_75, r193_78, r193_79, r193_82, r193_83, r193_84, r193_87, r193_88, r193_91, r193_92, r193_93, r193_96, r193_97, r193_99, r193_102, h0, t1, t4, flaw_0 h0 hv.2.1, zz.1.1, zz.fw.nz.1, true_and, and_true, Option.some.injEq, exists_eq_left', Option.toList_some, Option.toList_none, List.cons_append, List.nil_append, xcat_nil, xcat_int, xcat_ref, xcat_long, not_true, not_false_iff, if_true, if_false, and_self, and_false, false_and, or_true, true_or, or_self, z01, z10, zle8, Nat.reduceAdd, Nat.reduceLeDiff]
            exact hK.2 rfl _ (hf.tr ny_fl.fm) zz
    · rw [if_neg c0]
      refine ⟨fun P => ?_, fun P v1 hK => ?_, hfc⟩
      · rw [r67_20]
        simp only [r67_21, r67_24, r67_27, r67_28, r67_31, r67_34, r67_35, g0, hcl, Bool.eq_false_iff.mpr c0, bI_f, q12, true_and, and_true, Option.some.injEq, exists_eq_left', Option.toList_some, Option.toList_none, List.cons_append, List.nil_append, xcat_nil, xcat_int, xcat_ref, xcat_long, not_true, not_false_iff, if_true, if_false, and_self, and_false, false_and, or_true, true_or, or_self, z01, z10, zle8, Nat.reduceAdd, Nat.reduceLeDiff]
      · refine hline P v1 ⟨fun z => absurd z c0, fun _ v hf hv => ?_⟩
        have t1 := hv.2.2.2.1
        simp only [Option.toList_none, List.nil_append, r193_30, r193_31, r193_34, r193_35, r193_49, r193_50, r193_53, r193_54, r193_57, r193_58, r193_59, r193_62, r193_63, r193_66, r193_69, r193_70, r193_73, r193_74, r193_75, r193_78, r193_79, r193_82, r193_83, r193_84, r193_87, r193_88, r193_91, r193_92, r193_93, r193_96, r193_97, r193_99, r193_102, hv.1.1, t1, flaw_z hv.fw, hv.fw.nz.1, show ¬ (0 : Int32) = 4 by decide, show ¬ (0 : Int32) = 1 by decide, true_and, and_true, Option.some.injEq, exists_eq_left', Option.toList_some, Option.toList_none, List.cons_append, List.nil_append, xcat_nil, xcat_int, xcat_ref, xcat_long, not_true, not_false_iff, if_true, if_false, and_self, and_false, false_and, or_true, true_or, or_self, z01, z10, zle8, Nat.reduceAdd, Nat.reduceLeDiff]
        exact hK.2 rfl v hf hv
end
