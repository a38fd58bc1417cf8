/-! ACTS kept, in class and model -/
def shA (F : Nat → Int32) (na : Nat) (v : Int32) (j : Nat) : Int32 := if na = 8 then (if j = 7 then v else F (j + 1)) else if j = na then v else F j
def naS (na : Nat) : Nat := if na = 8 then 8 else na + 1
def Kept (w v : xMem) (cc cs a na : Nat) (k x y : Int32) : Prop := v.1 = w.1 ∧ v.2.2 = w.2.2 ∧ xI v cc cs = nI (naS na) ∧ (∀ b j, b ≠ a → b ≠ a + 1 → b ≠ a + 2 → (b ≠ cc ∨ j ≠ cs) → xI v b j = xI w b j) ∧ ∀ j, j < 8 → xI v a j = shA (xI w a) na k j ∧ xI v (a + 1) j = shA (xI w (a + 1)) na x j ∧ xI v (a + 2) j = shA (xI w (a + 2)) na y j
section
variable {u w g : xMem} {P : Option Value → xMem → Prop} {D E s nl np nb nc nr nh nk n nf na f : Nat} {p q d x y c e k a t i l what many layer till price units : Int32} {op : Bool}
theorem keep_kept {k x y : Int32} (h8 : na ≤ 8) : Kept u (mKeep u na k x y) 269 0 270 na k x y := by
  unfold mKeep
  by_cases c : na = 8
  · subst c
    rw [if_pos rfl]
    obtain ⟨a1, a2, a3, a4, a5⟩ := mFg_at u 7
    have a6 : ∀ i j, j ≠ 0 → xI (mFg u i) 269 j = xI u 269 j := fun i j hj => by
      induction i with
      | zero => show xI (xsI u 269 0 7) 269 j = _; rw [xI_ne (by omega)]
      | succ i ih =>
        show xI (xsI (xsI (xsI (mFg u i) 270 i _) 271 i _) 272 i _) 269 j = _
        rw [xI_ne (by omega), xI_ne (by omega), xI_ne (by omega)]
        exact ih
    have a6 := a6 7
    generalize mFg u 7 = M at *
    unfold mAct
    refine ⟨a1, a2, by rw [xI_at]; rfl, fun b j q1 q2 q3 q4 => ?_, fun j hj => ⟨?_, ?_, ?_⟩⟩
    · by_cases z : b = 269
      · subst z
        rw [xI_ne (by omega), xI_ne (by omega), xI_ne (by omega), xI_ne (by omega)]
        exact a6 j (by omega)
      · rw [xI_ne (by omega), xI_ne (by omega), xI_ne (by omega), xI_ne (by omega)]
        exact a4 b j z q1 q2 q3
    · unfold shA
      rw [if_pos rfl, xI_ne (by omega), xI_ne (by omega), xI_ne (by omega)]
      by_cases z : j = 7
      · rw [if_pos z, xI_ate z]
      · rw [if_neg z, xI_ne (by omega), a5 270 (by omega) j, if_pos (by omega)]
    · unfold shA
      rw [if_pos rfl, xI_ne (by omega), xI_ne (by omega)]
      by_cases z : j = 7
      · rw [if_pos z, xI_ate z]
      · rw [if_neg z, xI_ne (by omega), xI_ne (by omega), a5 271 (by omega) j, if_pos (by omega)]
    · unfold shA
      rw [if_pos rfl, xI_ne (by omega)]
      by_cases z : j = 7
      · rw [if_pos z, xI_ate z]
      · rw [if_neg z, xI_ne (by omega), xI_ne (by omega), xI_ne (by omega), a5 272 (by omega) j, if_pos (by omega)]
  · rw [if_neg c]
    unfold mAct
    refine ⟨rfl, rfl, by rw [xI_at]; unfold naS; rw [if_neg c], fun b j q1 q2 q3 q4 => ?_, fun j hj => ⟨?_, ?_, ?_⟩⟩
    · rw [xI_ne (by omega), xI_ne (by omega), xI_ne (by omega), xI_ne (by omega)]
    · unfold shA
      rw [if_neg c, xI_ne (by omega), xI_ne (by omega), xI_ne (by omega)]
      by_cases z : j = na
      · rw [if_pos z, xI_ate z]
      · rw [if_neg z, xI_ne (by omega)]
    · unfold shA
      rw [if_neg c, xI_ne (by omega), xI_ne (by omega)]
      by_cases z : j = na
      · rw [if_pos z, xI_ate z]
      · rw [if_neg z, xI_ne (by omega), xI_ne (by omega)]
    · unfold shA
      rw [if_neg c, xI_ne (by omega)]
      by_cases z : j = na
      · rw [if_pos z, xI_ate z]
      · rw [if_neg z, xI_ne (by omega), xI_ne (by omega), xI_ne (by omega)]
theorem sMd.ac (h : sMd u) : xIs u 278 11 ∧ (xR u 278 28 = some 292 ∧ xR u 278 29 = some 293 ∧ xR u 278 30 = some 294) ∧ (xIs u 292 13 ∧ xN u 292 = 8) ∧ (xIs u 293 13 ∧ xN u 293 = 8) ∧ xIs u 294 13 ∧ xN u 294 = 8 := by
  obtain ⟨h0, ⟨-, -, -, -, -, -, -, -, -, -, -, -, -, r28, r29, r30⟩, -, -, -, -, -, -, -, -, -, -, -, -, -, b2, b3, b4⟩ := h
  exact ⟨h0, ⟨r28, r29, r30⟩, b2, b3, b4⟩
/-- the model's rows moved up by i -/
def mUp (u : xMem) : Nat → xMem
  | 0 => u
  | i + 1 => xsI (xsI (xsI (mUp u i) 292 i (xI u 292 (i + 1))) 293 i (xI u 293 (i + 1))) 294 i (xI u 294 (i + 1))
theorem mUp_at (u : xMem) : ∀ i, (mUp u i).1 = u.1 ∧ (mUp u i).2.2 = u.2.2 ∧ (∀ b j, b ≠ 292 → b ≠ 293 → b ≠ 294 → xI (mUp u i) b j = xI u b j) ∧ ∀ a, a = 292 ∨ a = 293 ∨ a = 294 → ∀ j, xI (mUp u i) a j = if j < i then xI u a (j + 1) else xI u a j := by
  intro i
  induction i with
  | zero => exact ⟨rfl, rfl, fun _ _ _ _ _ => rfl, fun a _ j => by rw [if_neg (by omega)]; rfl⟩
  | succ i ih =>
    obtain ⟨i1, i2, i3, i4⟩ := ih
    refine ⟨i1, i2, fun b j q1 q2 q3 => ?_, fun a ha j => ?_⟩
    · show xI (xsI (xsI (xsI (mUp u i) 292 i _) 293 i _) 294 i _) b j = _
      rw [xI_ne (by omega), xI_ne (by omega), xI_ne (by omega)]
      exact i3 b j q1 q2 q3
    · show xI (xsI (xsI (xsI (mUp u i) 292 i _) 293 i _) 294 i _) a j = _
      by_cases z : j = i
      · subst z
        rw [if_pos (by omega)]
        rcases ha with rfl | rfl | rfl
        · rw [xI_ne (by omega), xI_ne (by omega), xI_at]
        · rw [xI_ne (by omega), xI_at]
        · rw [xI_at]
      · rw [xI_ne (by omega), xI_ne (by omega), xI_ne (by omega), i4 a ha j]
        by_cases z2 : j < i
        · rw [if_pos z2, if_pos (by omega)]
        · rw [if_neg z2, if_neg (by omega)]
theorem rem_add {k x y : Int32} {v4 : Value} (hM : sMd w) (hn : xI w 278 31 = nI na) (h8 : na < 8) : zr 289 83 [.ref 278, .int k, .int x, .int y, v4] [] w P = P none (xsI (xsI (xsI (xsI w 292 na k) 293 na x) 294 na y) 278 31 (nI (na + 1))) := by
  obtain ⟨h0, ⟨r28, r29, r30⟩, ⟨i2, n2⟩, ⟨i3, n3⟩, i4, n4⟩ := hM.ac
  simp (disch := omega) only [r289_83, r289_84, r289_87, r289_88, r289_91, r289_92, r289_93, r289_94, r289_97, r289_98, r289_101, r289_102, r289_103, r289_104, r289_107, r289_108, r289_111, r289_112, r289_113, r289_114, r289_115, r289_118, r289_119, r289_120, r289_123, h0, r28, r29, r30, i2, n2, i3, n3, i4, n4, hn, xIs_sI, xIs_sJ, xR_sI, xR_sJ, xN_sI, xN_sJ, xI_sJ, xI_ate, xI_ne, xinbT, xixT, leT, leF, ltT, ltF, ngF, psT, n1F, n2F, km2, km3, km4, km5, km10, km15, km25, kl8, kl14, kl24, kl34, kl274, kl354, kl384, kr1, kr2, kr3, kr4, kr5, kr6, kr7, kr8, kr9, kaa, lb0, lb1, lb2, lb3, lb4, lb5, lb6, lb7, li0, li1, li2, li3, li4, li5, li6, li7, true_and, and_true, Option.some.injEq, exists_eq_left', Option.toList_some, Option.toList_none, List.cons_append, List.nil_append, xcat_nil, xcat_int, xcat_ref, xcat_long, not_true, not_false_iff, if_true, if_false, and_self, and_false, false_and, or_true, true_or, or_self, z01, z10, zle8, Nat.reduceAdd, Nat.reduceLeDiff]
theorem rem_run {k x y : Int32} (hM : sMd w) (hn : xI w 278 31 = nI na) (h8 : na ≤ 8) (hP : ∀ v, Kept w v 278 31 292 na k x y → P none v) : zr 289 0 [.ref 278, .int k, .int x, .int y, .null] [] w P := by
  by_cases c : na = 8
  · subst c
    have lp : ∀ r i, i + r = 7 → zr 289 12 [.ref 278, .int k, .int x, .int y, .int (nI (i + 1))] [] (mUp w i) P = zr 289 73 [.ref 278, .int k, .int x, .int y, .int (nI 8)] [] (mUp w 7) P := by
      intro r
      induction r with
      | zero =>
        intro i hi
        have : i = 7 := by omega
        subst this
        rw [r289_12]
        simp (disch := omega) only [r289_14, r289_16, show (8 : Int32) ≤ nI (7 + 1) by decide, true_and, and_true, Option.some.injEq, exists_eq_left', Option.toList_some, Option.toList_none, List.cons_append, List.nil_append, xcat_nil, xcat_int, xcat_ref, xcat_long, not_true, not_false_iff, if_true, if_false, and_self, and_false, false_and, or_true, true_or, or_self, z01, z10, zle8, Nat.reduceAdd, Nat.reduceLeDiff]
      | succ r ih =>
        intro i hi
        have ih := ih (i + 1) (by omega)
        obtain ⟨s1, s2, -, s4⟩ := mUp_at w i
        have sh := shp s1 (congrArg (fun q => q.2) s2)
        have hMi : sMd (mUp w i) := by rw [sh]; exact hM
        obtain ⟨h0, ⟨r28, r29, r30⟩, ⟨i2, n2⟩, ⟨i3, n3⟩, i4, n4⟩ := hMi.ac
        have q8 : ¬ (8 : Int32) ≤ nI (i + 1) := nI_ge (a := i + 1) (b := 8) (by omega) (by omega)
        have m1 : nI (i + 1) - 1 = nI i := by rw [← nI_1]; exact Int32.add_sub_cancel ..
        have e2 : xI (mUp w i) 292 (i + 1) = xI w 292 (i + 1) := by rw [s4 292 (by omega), if_neg (by omega)]
        have e3 : xI (mUp w i) 293 (i + 1) = xI w 293 (i + 1) := by rw [s4 293 (by omega), if_neg (by omega)]
        have e4 : xI (mUp w i) 294 (i + 1) = xI w 294 (i + 1) := by rw [s4 294 (by omega), if_neg (by omega)]
        rw [r289_12]
        simp (disch := omega) only [r289_14, r289_16, r289_19, r289_20, r289_23, r289_25, r289_26, r289_27, r289_28, r289_31, r289_33, r289_34, r289_35, r289_36, r289_39, r289_41, r289_42, r289_43, r289_44, r289_47, r289_49, r289_50, r289_51, r289_52, r289_55, r289_57, r289_58, r289_59, r289_60, r289_63, r289_65, r289_66, r289_67, r289_70, h0, r28, r29, r30, i2, n2, i3, n3, i4, n4, q8, m1, e2, e3, e4, xIs_sI, xIs_sJ, xR_sI, xR_sJ, xN_sI, xN_sJ, xI_sJ, xI_ate, xI_ne, xinbT, xixT, leT, leF, ltT, ltF, ngF, psT, n1F, n2F, km2, km3, km4, km5, km10, km15, km25, kl8, kl14, kl24, kl34, kl274, kl354, kl384, kr1, kr2, kr3, kr4, kr5, kr6, kr7, kr8, kr9, kaa, lb0, lb1, lb2, lb3, lb4, lb5, lb6, lb7, li0, li1, li2, li3, li4, li5, li6, li7, true_and, and_true, Option.some.injEq, exists_eq_left', Option.toList_some, Option.toList_none, List.cons_append, List.nil_append, xcat_nil, xcat_int, xcat_ref, xcat_long, not_true, not_false_iff, if_true, if_false, and_self, and_false, false_and, or_true, true_or, or_self, z01, z10, zle8, Nat.reduceAdd, Nat.reduceLeDiff]
        exact ih
    have l0 := lp 7 0 (by omega)
    obtain ⟨s1, s2, s3, s4⟩ := mUp_at w 7
    have l0 : zr 289 12 [.ref 278, .int k, .int x, .int y, .int 1] [] w P = zr 289 73 [.ref 278, .int k, .int x, .int y, .int (nI 8)] [] (mUp w 7) P := l0
    clear lp
    generalize mUp w 7 = M at *
    have sh := shp s1 (congrArg (fun q => q.2) s2)
    have hM7 : sMd (M) := by rw [sh]; exact hM
    have hM7' : sMd (xsI (M) 278 31 7) := hM7
    have e31 : xI (M) 278 31 = 8 := by rw [s3 278 31 (by omega) (by omega) (by omega), hn]; rfl
    have ra := rem_add (P := P) (k := k) (x := x) (y := y) (v4 := .int (nI 8)) (na := 7) hM7' xI_at (by omega)
    have h0 := hM.1
    have h7 := hM7.1
    simp only [r289_0, r289_1, r289_4, r289_6, r289_9, r289_10, h0, hn, show nI 8 = 8 from rfl, true_and, and_true, Option.some.injEq, exists_eq_left', Option.toList_some, Option.toList_none, List.cons_append, List.nil_append, xcat_nil, xcat_int, xcat_ref, xcat_long, not_true, not_false_iff, if_true, if_false, and_self, and_false, false_and, or_true, true_or, or_self, z01, z10, zle8, Nat.reduceAdd, Nat.reduceLeDiff]
    simp only [show nI 8 = 8 from rfl] at l0 ra
    rw [l0]
    simp only [r289_73, r289_74, r289_75, r289_78, r289_79, r289_80, h7, e31, show (8 : Int32) - 1 = 7 from rfl, ra, true_and, and_true, Option.some.injEq, exists_eq_left', Option.toList_some, Option.toList_none, List.cons_append, List.nil_append, xcat_nil, xcat_int, xcat_ref, xcat_long, not_true, not_false_iff, if_true, if_false, and_self, and_false, false_and, or_true, true_or, or_self, z01, z10, zle8, Nat.reduceAdd, Nat.reduceLeDiff]
    refine hP _ ⟨s1, s2, by rw [xI_at]; rfl, fun b j q1 q2 q3 q4 => ?_, fun j hj => ⟨?_, ?_, ?_⟩⟩
    · rw [xI_ne (by omega), xI_ne (by omega), xI_ne (by omega), xI_ne (by omega), xI_ne (by omega)]
      exact s3 b j q1 q2 q3
    · unfold shA
      rw [if_pos rfl, xI_ne (by omega), xI_ne (by omega), xI_ne (by omega)]
      by_cases z : j = 7
      · rw [if_pos z, xI_ate z]
      · rw [if_neg z, xI_ne (by omega), xI_ne (by omega), s4 292 (by omega) j, if_pos (by omega)]
    · unfold shA
      rw [if_pos rfl, xI_ne (by omega), xI_ne (by omega)]
      by_cases z : j = 7
      · rw [if_pos z, xI_ate z]
      · rw [if_neg z, xI_ne (by omega), xI_ne (by omega), xI_ne (by omega), s4 293 (by omega) j, if_pos (by omega)]
    · unfold shA
      rw [if_pos rfl, xI_ne (by omega)]
      by_cases z : j = 7
      · rw [if_pos z, xI_ate z]
      · rw [if_neg z, xI_ne (by omega), xI_ne (by omega), xI_ne (by omega), xI_ne (by omega), s4 294 (by omega) j, if_pos (by omega)]
  · have n8 : ¬ nI na = 8 := of_eq_false (neT (a := na) (b := 8) (by omega) (by omega) (by omega))
    simp only [r289_0, r289_1, r289_4, r289_6, hM.1, hn, n8, rem_add hM hn (show na < 8 by omega), true_and, and_true, Option.some.injEq, exists_eq_left', Option.toList_some, Option.toList_none, List.cons_append, List.nil_append, xcat_nil, xcat_int, xcat_ref, xcat_long, not_true, not_false_iff, if_true, if_false, and_self, and_false, false_and, or_true, true_or, or_self, z01, z10, zle8, Nat.reduceAdd, Nat.reduceLeDiff]
    refine hP _ ⟨rfl, rfl, by rw [xI_at]; unfold naS; rw [if_neg c], fun b j q1 q2 q3 q4 => ?_, fun j hj => ⟨?_, ?_, ?_⟩⟩
    · rw [xI_ne (by omega), xI_ne (by omega), xI_ne (by omega), xI_ne (by omega)]
    · unfold shA
      rw [if_neg c, xI_ne (by omega), xI_ne (by omega), xI_ne (by omega)]
      by_cases z : j = na
      · rw [if_pos z, xI_ate z]
      · rw [if_neg z, xI_ne (by omega)]
    · unfold shA
      rw [if_neg c, xI_ne (by omega), xI_ne (by omega)]
      by_cases z : j = na
      · rw [if_pos z, xI_ate z]
      · rw [if_neg z, xI_ne (by omega), xI_ne (by omega)]
    · unfold shA
      rw [if_neg c, xI_ne (by omega)]
      by_cases z : j = na
      · rw [if_pos z, xI_ate z]
      · rw [if_neg z, xI_ne (by omega), xI_ne (by omega), xI_ne (by omega)]
end
/-! how many acts of a kind -/
theorem cntA_congr {K K' : Nat → Int32} {k : Int32} : ∀ n, (∀ i, i < n → K i = K' i) → cntA K k n = cntA K' k n := by
  intro n
  induction n with
  | zero => intro _; rfl
  | succ n ih =>
    intro h
    unfold cntA
    rw [ih (fun i hi => h i (by omega)), h n (by omega)]
theorem cntA_sh {K : Nat → Int32} {k : Int32} : ∀ n, cntA (fun j => K (j + 1)) k n + (if K 0 = k then 1 else 0) = cntA K k (n + 1) := by
  intro n
  induction n with
  | zero => show 0 + _ = 0 + _; rfl
  | succ n ih =>
    show cntA (fun j => K (j + 1)) k n + (if K (n + 1) = k then 1 else 0) + (if K 0 = k then 1 else 0) = cntA K k (n + 1) + (if K (n + 1) = k then 1 else 0)
    omega
theorem cntA_keep {K K' : Nat → Int32} {k v : Int32} {na : Nat} (h8 : na ≤ 8) (h : ∀ j, j < 8 → K' j = shA K na v j) : cntA K' k (naS na) ≤ cntA K k na + (if v = k then 1 else 0) := by
  by_cases c : na = 8
  · subst c
    show cntA K' k 8 ≤ cntA K k 8 + _
    have e1 : cntA K' k 8 = cntA K' k 7 + (if K' 7 = k then 1 else 0) := rfl
    have e2 : K' 7 = v := by rw [h 7 (by omega)]; rfl
    have e3 : cntA K' k 7 = cntA (fun j => K (j + 1)) k 7 := cntA_congr 7 (fun i hi => by
      rw [h i (by omega)]
      unfold shA
      rw [if_pos rfl, if_neg (by omega)])
    have e4 : cntA (fun j => K (j + 1)) k 7 + (if K 0 = k then 1 else 0) = cntA K k 8 := cntA_sh (K := K) (k := k) 7
    rw [e1, e2, e3]
    omega
  · have e0 : naS na = na + 1 := by unfold naS; rw [if_neg c]
    rw [e0]
    have e1 : cntA K' k (na + 1) = cntA K' k na + (if K' na = k then 1 else 0) := rfl
    have e2 : K' na = v := by
      rw [h na (by omega)]
      unfold shA
      rw [if_neg c, if_pos rfl]
    have e3 : cntA K' k na = cntA K k na := cntA_congr na (fun i hi => by
      rw [h i (by omega)]
      unfold shA
      rw [if_neg c, if_neg (by omega)])
    rw [e1, e2, e3]
    exact Nat.le_refl _
/-- an act in both -/
def PrA (kc km lc lm uc um : Int32) : Prop := (kc = 0 ∧ km = 4) ∨ (kc = 1 ∧ km = 0) ∨ (kc = 2 ∧ km = 1 ∧ ∃ l, l < 40 ∧ lc = nI l ∧ lm = nI l ∧ uc = um) ∨ (kc = 3 ∧ km = 2) ∨ (kc = 4 ∧ km = 3)
section
variable {u w g : xMem} {P : Option Value → xMem → Prop} {D E s nl np nb nc nr nh nk n nf na f : Nat} {p q d x y c e k a t i l what many layer till price units : Int32} {op : Bool}
theorem okA.keep {m : xMem} {kc km lc lm uc um : Int32} {n' nf' nb' nr' : Nat} (h : okA u na n nf nb nr) (e0 : xI m 269 0 = nI (naS na)) (e1 : xI m 278 31 = nI (naS na)) (hc : ∀ j, j < 8 → xI m 270 j = shA (xI u 270) na kc j ∧ xI m 271 j = shA (xI u 271) na lc j ∧ xI m 272 j = shA (xI u 272) na uc j) (hm : ∀ j, j < 8 → xI m 292 j = shA (xI u 292) na km j ∧ xI m 293 j = shA (xI u 293) na lm j ∧ xI m 294 j = shA (xI u 294) na um j) (hp : PrA kc km lc lm uc um)
    (i0 : nf + (if kc = 0 then 1 else 0) ≤ nf') (i1 : n + (if kc = 1 then 1 else 0) ≤ n') (i3 : nb + (if kc = 3 then 1 else 0) ≤ nb') (i4 : nr + (if kc = 4 then 1 else 0) ≤ nr') : okA m (naS na) n' nf' nb' nr' := by
  obtain ⟨⟨a1, a2, a3⟩, a4, a5, a6, a7, a8⟩ := h
  have h8 : naS na ≤ 8 := by unfold naS; split <;> omega
  refine ⟨⟨e0, h8, e1⟩, fun k hk => ?_, ?_, ?_, ?_, ?_⟩
  · obtain ⟨c1, c2, c3⟩ := hc k (by omega)
    obtain ⟨m1, m2, m3⟩ := hm k (by omega)
    rw [c1, c2, c3, m1, m2, m3]
    unfold shA
    by_cases z : na = 8
    · simp only [z, if_true]
      by_cases z7 : k = 7
      · simp only [z7, if_true]
        exact hp
      · simp only [z7, if_false]
        exact a4 (k + 1) (by unfold naS at hk; rw [if_pos z] at hk; omega)
    · simp only [z, if_false]
      by_cases z7 : k = na
      · simp only [z7, if_true]
        exact hp
      · simp only [z7, if_false]
        exact a4 k (by unfold naS at hk; rw [if_neg z] at hk; omega)
  · have := cntA_keep (K := xI u 270) (K' := xI m 270) (k := 0) (v := kc) a2 (fun j hj => (hc j hj).1)
    omega
  · have := cntA_keep (K := xI u 270) (K' := xI m 270) (k := 1) (v := kc) a2 (fun j hj => (hc j hj).1)
    omega
  · have := cntA_keep (K := xI u 270) (K' := xI m 270) (k := 3) (v := kc) a2 (fun j hj => (hc j hj).1)
    omega
  · have := cntA_keep (K := xI u 270) (K' := xI m 270) (k := 4) (v := kc) a2 (fun j hj => (hc j hj).1)
    omega
/-- a state with another desk -/
theorem St.mk2 {m : xMem} {nb' nr' na' : Nat} (h : St u D E s nl np nb nc nr nh nk n nf na f op) (h1 : m.1 = u.1) (h2 : m.2.2.2 = u.2.2.2) (hG : okG m D s nl np nb' nc nr' nh nk) (hc : cpD (xI m 279) m D np nb' nc nr' nh nk) (hA : okA m na' n nf nb' nr')
    (hf : ∀ b j, (b = 0 ∧ j = 2) ∨ (1 ≤ b ∧ b ≤ 3) ∨ b = 62 ∨ b = 64 ∨ b = 65 ∨ (69 ≤ b ∧ b ≤ 268) ∨ (b = 278 ∧ (j = 7 ∨ j = 9 ∨ j = 15 ∨ j = 20 ∨ j = 27)) ∨ b = 283 ∨ b = 286 ∨ b = 290 ∨ b = 291 → xI m b j = xI u b j) : St m D E s nl np nb' nc nr' nh nk n nf na' f op := by
  obtain ⟨⟨t1, t2, t3⟩, ⟨t4, t5⟩, t6⟩ := h.okt
  have g : ∀ b, (1 ≤ b ∧ b ≤ 3) ∨ b = 62 ∨ b = 64 ∨ b = 65 ∨ (69 ≤ b ∧ b ≤ 268) ∨ b = 283 ∨ b = 286 ∨ b = 290 ∨ b = 291 → xI m b = xI u b := fun b hb => funext fun j => hf b j (by omega)
  refine ⟨h.1.mv h1 h2, hG, hc, ⟨by rw [hf 0 2 (by omega)]; exact h.2.2.2.1.1, by rw [hf 278 7 (by omega)]; exact h.2.2.2.1.2.1, h.2.2.2.1.2.2⟩, h.okb.mv (fun b q => g b (by omega)), h.2.2.2.2.2.1.mv h.okl.1.2 (hf 278 20 (by omega)) (hf 278 27 (by omega)) (fun b q => g b (by omega)) (fun b q => g b (by omega)), hA, ⟨?_, ?_, t3⟩, ⟨?_, ?_⟩, ?_⟩
  · rw [g 2 (by omega)]; exact t1
  · rw [hf 278 9 (by omega)]; exact t2
  · rw [g 3 (by omega), g 283 (by omega)]; exact t4
  · rw [g 3 (by omega)]; exact t5
  · rw [hf 278 15 (by omega), g 1 (by omega)]; exact t6
/-- a state with another book -/
theorem St.mk3 {m : xMem} {n' nf' na' : Nat} (h : St u D E s nl np nb nc nr nh nk n nf na f true) (h1 : m.1 = u.1) (h2 : m.2.2.2 = u.2.2.2) (hB : okB m n' nf' nc np) (hC : cpB m m n' nf' np) (hA : okA m na' n' nf' nb nr)
    (hf : ∀ b j, (b = 0 ∧ j = 2) ∨ (1 ≤ b ∧ b ≤ 3) ∨ (D < b ∧ b ≤ D + 26) ∨ (b = 278 ∧ (j = 7 ∨ j = 9 ∨ j = 15)) ∨ b = 279 ∨ b = 283 → xI m b j = xI u b j) : St m D E s nl np nb nc nr nh nk n' nf' na' f true := by
  obtain ⟨⟨t1, t2, t3⟩, ⟨t4, t5⟩, t6⟩ := h.okt
  have g : ∀ b, (1 ≤ b ∧ b ≤ 3) ∨ (D < b ∧ b ≤ D + 26) ∨ b = 279 ∨ b = 283 → xI m b = xI u b := fun b hb => funext fun j => hf b j (by omega)
  refine ⟨h.1.mv h1 h2, h.2.1.mv h1 h2 (fun c q1 q2 => g c (by omega)), ?_, ⟨by rw [hf 0 2 (by omega)]; exact h.2.2.2.1.1, by rw [hf 278 7 (by omega)]; exact h.2.2.2.1.2.1, fun z => by cases z⟩, hB, hC, hA, ⟨?_, ?_, t3⟩, ⟨?_, ?_⟩, ?_⟩
  · rw [g 279 (by omega)]
    exact h.2.2.1.mv (fun c q1 q2 => g c (by omega))
  · rw [g 2 (by omega)]; exact t1
  · rw [hf 278 9 (by omega)]; exact t2
  · rw [g 3 (by omega), g 283 (by omega)]; exact t4
  · rw [g 3 (by omega)]; exact t5
  · rw [hf 278 15 (by omega), g 1 (by omega)]; exact t6
end
