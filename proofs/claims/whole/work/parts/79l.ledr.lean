/-! THE LEDGER: the runs -/
/-- the class's rows tell the ledger -/
def Ce (v : xMem) (L : List Nat) : Prop := (∀ j, j < L.length → xI v 66 j = nI (L.getD j 0 / 6) ∧ xI v 67 j = nI (L.getD j 0 % 6)) ∧ ∀ k, k < 60 → xI v 68 k = bI (decide (k ∈ L))
/-- the model's -/
def Me (v : xMem) (L : List Nat) (S : Nat → Int32) : Prop := xI v 278 24 = nI L.length ∧ ∀ j, j < L.length → xI v 287 j = nI (L.getD j 0 / 6) ∧ xI v 288 j = nI (L.getD j 0 % 6) ∧ xI v 289 j = S (L.getD j 0)
section
variable {u w g : xMem} {P : Option Value → xMem → Prop} {D E s nl np nb nc nr nh nk n nf na f : Nat} {p q d x y c e k a t i l what many layer till price units : Int32} {op : Bool}
theorem sc6 {a k : Nat} (h : 66 ≤ a ∧ a ≤ 68) : xag SC u (xsI u a k x) := xag.sI (by unfold SC; omega)
theorem scm6 {a k : Nat} (h : 287 ≤ a ∧ a ≤ 289) : xag SCm u (xsI u a k x) := xag.sI (by unfold SCm; omega)
theorem scm24 : xag SCm u (xsI u 278 24 x) := xag.sI (by unfold SCm; omega)
theorem sBk.en (h : sBk u 62) : xIs u 62 1 ∧ (xR u 62 1 = some 63 ∧ xR u 62 5 = some 66 ∧ xR u 62 6 = some 67 ∧ xR u 62 7 = some 68) ∧ (xIs u 63 16 ∧ xN u 63 = 40) ∧ (xIs u 66 13 ∧ xN u 66 = 60) ∧ (xIs u 67 13 ∧ xN u 67 = 60) ∧ xIs u 68 15 ∧ xN u 68 = 60 := by
  obtain ⟨a, ⟨r1, -, -, r5, r6, r7⟩, b1, -, -, b4, b5, b6, -⟩ := h
  exact ⟨a, ⟨r1, r5, r6, r7⟩, b1, b4, b5, b6⟩
theorem gather_part (h : St u D E s nl np nb nc nr nh nk n nf na f op) {l : Nat} (hl : l < n) {L : List Nat} {S : Nat → Int32} (hE : okE L S) (hP : ∀ w v5, xag SC u w → Ce w (LgP u l L (pn u l)) → zr 11 122 [.ref 62, .int (nI (LgP u l L (pn u l)).length), .int (nI l), .ref (69 + 5 * l), .int (nI (pn u l)), v5] [] w P) : ∀ r i w v5, i + r = pn u l → xag SC u w → Ce w (LgP u l L i) → zr 11 46 [.ref 62, .int (nI (LgP u l L i).length), .int (nI l), .ref (69 + 5 * l), .int (nI i), v5] [] w P := by
  have hb := h.b
  intro r
  induction r with
  | zero =>
    intro i w v5 hi hw hc
    have : i = pn u l := by omega
    subst this
    have h' := h.ag hw
    have hL := (h'.bk.ln (l := l) (by omega)).2
    obtain ⟨e8, h4⟩ := h'.okl.2 l hl
    rw [pn_ag hw (by omega)] at e8 h4
    rw [r11_46]
    simp (disch := omega) only [r11_48, r11_49, r11_52, hL.1, e8, xinbT, xixT, leT, leF, ltT, ltF, ngF, psT, n1F, n2F, km2, km3, km4, km5, km10, km15, km25, kl8, kl14, kl24, kl34, kl274, kl354, kl384, kr1, kr2, kr3, kr4, kr5, kr6, kr7, kr8, kr9, kaa, lb0, lb1, lb2, lb3, lb4, lb5, lb6, lb7, li0, li1, li2, li3, li4, li5, li6, li7, true_and, and_true, Option.some.injEq, exists_eq_left', Option.toList_some, Option.toList_none, List.cons_append, List.nil_append, xcat_nil, xcat_int, xcat_ref, xcat_long, not_true, not_false_iff, if_true, if_false, and_self, and_false, false_and, or_true, true_or, or_self, z01, z10, zle8, Nat.reduceAdd, Nat.reduceLeDiff]
    exact hP w v5 hw hc
  | succ r ih =>
    intro i w v5 hi hw hc
    have h' := h.ag hw
    obtain ⟨k0, ⟨b1, b5, b6, b7⟩, -, ⟨j6, n6⟩, ⟨j7, n7⟩, j8, n8⟩ := h'.bk.en
    have hL := (h'.bk.ln (l := l) (by omega)).2
    obtain ⟨l0, ⟨l9, -⟩, ⟨l1, l2⟩, -⟩ := hL
    obtain ⟨e8, h4⟩ := h'.okl.2 l hl
    rw [pn_ag hw (by omega)] at e8 h4
    obtain ⟨q, j, hq, hj, eq, ej, ek, hk, k1, k2⟩ := key_b h.okb hb.2.2.1 hb.2.2.2.2.1 hl (i := i) (by omega)
    have eq' : xI w (69 + 5 * l + 1) i = nI q := by rw [scln hw (by omega) (by omega)]; exact eq
    have ej' : xI w (69 + 5 * l) 3 = nI j := by rw [scln0 hw (by omega)]; exact ej
    have okP := okE_P h.okb hb.2.2.1 hb.2.2.2.2.1 hl hE i (by omega)
    have hlen := okP.len
    have hm := hc.2 (6 * q + j) (by omega)
    have ih' := fun w v5 => ih (i + 1) w v5 (by omega)
    have e1 : LgP u l L (i + 1) = lgA (LgP u l L i) (6 * q + j) := by rw [← ek]; rfl
    rw [e1] at ih'
    unfold lgA at ih'
    rw [r11_46]
    by_cases c : 6 * q + j ∈ LgP u l L i
    · rw [if_pos c] at ih'
      rw [decide_eq_true c, bI_t] at hm
      simp (disch := omega) only [r11_48, r11_49, r11_52, r11_55, r11_56, r11_59, r11_61, r11_62, r11_64, r11_65, r11_66, r11_69, r11_70, r11_72, r11_73, r11_76, r11_78, r11_79, r11_116, r11_119, k0, b7, l0, l9, l1, l2, e8, eq', ej', j8, n8, hm, m6, xinbT, xixT, leT, leF, ltT, ltF, ngF, psT, n1F, n2F, km2, km3, km4, km5, km10, km15, km25, kl8, kl14, kl24, kl34, kl274, kl354, kl384, kr1, kr2, kr3, kr4, kr5, kr6, kr7, kr8, kr9, kaa, lb0, lb1, lb2, lb3, lb4, lb5, lb6, lb7, li0, li1, li2, li3, li4, li5, li6, li7, true_and, and_true, Option.some.injEq, exists_eq_left', Option.toList_some, Option.toList_none, List.cons_append, List.nil_append, xcat_nil, xcat_int, xcat_ref, xcat_long, not_true, not_false_iff, if_true, if_false, and_self, and_false, false_and, or_true, true_or, or_self, z01, z10, zle8, Nat.reduceAdd, Nat.reduceLeDiff]
      exact ih' w _ hw hc
    · rw [if_neg c] at ih'
      rw [decide_eq_false c, bI_f] at hm
      have hlt := okP.lt (by rw [← ek]; exact hk) c
      have w1 : xI (xsI w 68 (6 * q + j) 1) (69 + 5 * l + 1) i = nI q := by rw [xI_ne (by omega)]; exact eq'
      have w2 : ∀ z, xI (xsI (xsI w 68 (6 * q + j) 1) 66 (LgP u l L i).length z) (69 + 5 * l) 3 = nI j := fun z => by rw [xI_ne (by omega), xI_ne (by omega)]; exact ej'
      simp (disch := omega) only [r11_48, r11_49, r11_52, r11_55, r11_56, r11_59, r11_61, r11_62, r11_64, r11_65, r11_66, r11_69, r11_70, r11_72, r11_73, r11_76, r11_78, r11_79, r11_82, r11_83, r11_86, r11_88, r11_89, r11_90, r11_91, r11_94, r11_95, r11_96, r11_99, r11_101, r11_102, r11_103, r11_104, r11_107, r11_108, r11_109, r11_112, r11_113, r11_116, r11_119, k0, b5, b6, b7, l0, l9, l1, l2, e8, eq', ej', j6, n6, j7, n7, j8, n8, hm, m6, w1, w2, xIs_sI, xR_sI, xN_sI, show vp_nar .boolean 1 = 1 from rfl, xinbT, xixT, leT, leF, ltT, ltF, ngF, psT, n1F, n2F, km2, km3, km4, km5, km10, km15, km25, kl8, kl14, kl24, kl34, kl274, kl354, kl384, kr1, kr2, kr3, kr4, kr5, kr6, kr7, kr8, kr9, kaa, lb0, lb1, lb2, lb3, lb4, lb5, lb6, lb7, li0, li1, li2, li3, li4, li5, li6, li7, true_and, and_true, Option.some.injEq, exists_eq_left', Option.toList_some, Option.toList_none, List.cons_append, List.nil_append, xcat_nil, xcat_int, xcat_ref, xcat_long, not_true, not_false_iff, if_true, if_false, and_self, and_false, false_and, or_true, true_or, or_self, z01, z10, zle8, Nat.reduceAdd, Nat.reduceLeDiff]
      rw [show (LgP u l L i).length + 1 = (LgP u l L i ++ [6 * q + j]).length by rw [List.length_append]; rfl]
      refine ih' _ _ (hw.tr ((sc6 (by omega)).tr ((sc6 (by omega)).tr (sc6 (by omega))))) ⟨fun t ht => ?_, fun t ht => ?_⟩
      · rw [List.length_append] at ht
        have ht : t < (LgP u l L i).length + 1 := ht
        by_cases z : t = (LgP u l L i).length
        · subst z
          rw [appE]
          simp (disch := omega) only [xI_ate, xI_ne]
          exact ⟨by rw [show (6 * q + j) / 6 = q by omega], by rw [show (6 * q + j) % 6 = j by omega]⟩
        · rw [appD (by omega)]
          simp (disch := omega) only [xI_ate, xI_ne]
          exact hc.1 t (by omega)
      · have m1 : (t ∈ LgP u l L i ++ [6 * q + j]) = (t ∈ LgP u l L i ∨ t = 6 * q + j) := by simp
        by_cases z : t = 6 * q + j
        · subst z
          rw [decide_eq_true (by rw [m1]; exact Or.inr rfl)]
          simp (disch := omega) only [xI_ate, xI_ne, bI_t]
        · simp (disch := omega) only [xI_ate, xI_ne]
          rw [hc.2 t ht]
          by_cases z2 : t ∈ LgP u l L i
          · rw [decide_eq_true z2, decide_eq_true (by rw [m1]; exact Or.inl z2)]
          · rw [decide_eq_false z2, decide_eq_false (by rw [m1]; exact fun y => y.elim z2 z)]
theorem gatherC (h : St u D E s nl np nb nc nr nh nk n nf na f op) (hP : ∀ w, xag SC u w → Ce w (Lg u n) → P (some (.int (nI (Lg u n).length))) w) : zr 11 0 [.ref 62, .null, .null, .null, .null, .null] [] u P := by
  have hb := h.b
  have lp : ∀ r l w v3 v4 v5, l + r = n → xag SC u w → Ce w (Lg u l) → zr 11 28 [.ref 62, .int (nI (Lg u l).length), .int (nI l), v3, v4, v5] [] w P := by
    intro r
    induction r with
    | zero =>
      intro l w v3 v4 v5 hl hw hc
      have : l = n := by omega
      subst this
      have h' := h.ag hw
      rw [r11_28]
      simp (disch := omega) only [r11_29, r11_30, r11_33, r11_128, r11_129, h'.bk.1, h'.okl.1.1, xinbT, xixT, leT, leF, ltT, ltF, ngF, psT, n1F, n2F, km2, km3, km4, km5, km10, km15, km25, kl8, kl14, kl24, kl34, kl274, kl354, kl384, kr1, kr2, kr3, kr4, kr5, kr6, kr7, kr8, kr9, kaa, lb0, lb1, lb2, lb3, lb4, lb5, lb6, lb7, li0, li1, li2, li3, li4, li5, li6, li7, true_and, and_true, Option.some.injEq, exists_eq_left', Option.toList_some, Option.toList_none, List.cons_append, List.nil_append, xcat_nil, xcat_int, xcat_ref, xcat_long, not_true, not_false_iff, if_true, if_false, and_self, and_false, false_and, or_true, true_or, or_self, z01, z10, zle8, Nat.reduceAdd, Nat.reduceLeDiff]
      exact hP w hw hc
    | succ r ih =>
      intro l w v3 v4 v5 hl hw hc
      have h' := h.ag hw
      obtain ⟨k0, ⟨b1, -⟩, ⟨b2, b3⟩, -⟩ := h'.bk.en
      have hL1 := (h'.bk.ln (l := l) (by omega)).1
      have hok := okE_L h.okb hb.2.2.1 hb.2.2.2.2.1 l (by omega)
      rw [r11_28]
      simp (disch := omega) only [r11_29, r11_30, r11_33, r11_36, r11_37, r11_40, r11_41, r11_42, r11_43, r11_44, k0, b1, b2, b3, hL1, h'.okl.1.1, xinbT, xixT, leT, leF, ltT, ltF, ngF, psT, n1F, n2F, km2, km3, km4, km5, km10, km15, km25, kl8, kl14, kl24, kl34, kl274, kl354, kl384, kr1, kr2, kr3, kr4, kr5, kr6, kr7, kr8, kr9, kaa, lb0, lb1, lb2, lb3, lb4, lb5, lb6, lb7, li0, li1, li2, li3, li4, li5, li6, li7, true_and, and_true, Option.some.injEq, exists_eq_left', Option.toList_some, Option.toList_none, List.cons_append, List.nil_append, xcat_nil, xcat_int, xcat_ref, xcat_long, not_true, not_false_iff, if_true, if_false, and_self, and_false, false_and, or_true, true_or, or_self, z01, z10, zle8, Nat.reduceAdd, Nat.reduceLeDiff]
      refine gather_part h (l := l) (by omega) hok (fun w2 v5 hw2 hc2 => ?_) (pn u l) 0 w v5 (by omega) hw hc
      rw [r11_122, r11_125, nI_1]
      exact ih (l + 1) w2 _ _ _ (by omega) hw2 hc2
  have lz : ∀ r k w, k + r = 60 → xag SC u w → (∀ t, t < k → xI w 68 t = 0) → zr 11 2 [.ref 62, .int (nI k), .null, .null, .null, .null] [] w P := by
    intro r
    induction r with
    | zero =>
      intro k w hk hw hz
      have : k = 60 := by omega
      subst this
      have h' := h.ag hw
      obtain ⟨k0, ⟨-, -, -, b7⟩, -, -, -, j8, n8⟩ := h'.bk.en
      rw [r11_2]
      simp (disch := omega) only [r11_3, r11_4, r11_7, r11_8, r11_24, r11_25, r11_26, r11_27, k0, b7, j8, n8, show Int32.ofNat 60 ≤ nI 60 by decide, true_and, and_true, Option.some.injEq, exists_eq_left', Option.toList_some, Option.toList_none, List.cons_append, List.nil_append, xcat_nil, xcat_int, xcat_ref, xcat_long, not_true, not_false_iff, if_true, if_false, and_self, and_false, false_and, or_true, true_or, or_self, z01, z10, zle8, Nat.reduceAdd, Nat.reduceLeDiff]
      refine lp n 0 w .null .null .null (by omega) hw ⟨fun j hj => absurd hj (by simp [Lg]), fun t ht => ?_⟩
      rw [hz t ht]
      simp [Lg, bI]
    | succ r ih =>
      intro k w hk hw hz
      have h' := h.ag hw
      obtain ⟨k0, ⟨-, -, -, b7⟩, -, -, -, j8, n8⟩ := h'.bk.en
      have q6 : ¬ Int32.ofNat 60 ≤ nI k := nI_ge (a := k) (b := 60) (by omega) (by omega)
      rw [r11_2]
      simp (disch := omega) only [r11_3, r11_4, r11_7, r11_8, r11_11, r11_12, r11_15, r11_16, r11_17, r11_18, r11_21, k0, b7, j8, n8, q6, show vp_nar .boolean 0 = 0 from rfl, xinbT, xixT, leT, leF, ltT, ltF, ngF, psT, n1F, n2F, km2, km3, km4, km5, km10, km15, km25, kl8, kl14, kl24, kl34, kl274, kl354, kl384, kr1, kr2, kr3, kr4, kr5, kr6, kr7, kr8, kr9, kaa, lb0, lb1, lb2, lb3, lb4, lb5, lb6, lb7, li0, li1, li2, li3, li4, li5, li6, li7, true_and, and_true, Option.some.injEq, exists_eq_left', Option.toList_some, Option.toList_none, List.cons_append, List.nil_append, xcat_nil, xcat_int, xcat_ref, xcat_long, not_true, not_false_iff, if_true, if_false, and_self, and_false, false_and, or_true, true_or, or_self, z01, z10, zle8, Nat.reduceAdd, Nat.reduceLeDiff]
      refine ih (k + 1) _ (by omega) (hw.tr (sc6 (by omega))) (fun t ht => ?_)
      by_cases z : t = k
      · rw [xI_ate z]
      · rw [xI_ne (by omega)]
        exact hz t (by omega)
  simp only [r11_0, r11_1]
  exact lz 60 0 u (by omega) xag.rf (fun t ht => absurd ht (by omega))
/-! the model's ledger -/
theorem sMd.en (h : sMd u) : xIs u 278 11 ∧ (xR u 278 21 = some 287 ∧ xR u 278 22 = some 288 ∧ xR u 278 23 = some 289) ∧ (xIs u 287 13 ∧ xN u 287 = 60) ∧ (xIs u 288 13 ∧ xN u 288 = 60) ∧ xIs u 289 13 ∧ xN u 289 = 60 := by
  obtain ⟨h0, ⟨-, -, -, -, -, -, -, -, r21, r22, r23, -⟩, -, -, -, -, -, -, -, -, b7, b8, b9, -⟩ := h
  exact ⟨h0, ⟨r21, r22, r23⟩, b7, b8, b9⟩
theorem entryOf_rel {L : List Nat} {S : Nat → Int32} (hM : sMd u) (hE : okE L S) (hc : Me u L S) {q j : Nat} (hq : q < 10) (hj : j < 6)
    (h1 : ∀ t, t < L.length → L.getD t 0 = 6 * q + j → P (some (.int (nI t))) u) (h2 : ¬ 6 * q + j ∈ L → P (some (.int (nI L.length))) (xsI (xsI (xsI (xsI u 287 L.length (nI q)) 288 L.length (nI j)) 289 L.length 0) 278 24 (nI (L.length + 1)))) : zr 269 0 [.ref 278, .int (nI q), .int (nI j), .null] [] u P := by
  have hlen := hE.len
  obtain ⟨h0, ⟨r21, r22, r23⟩, ⟨i7, n7⟩, ⟨i8, n8⟩, i9, n9⟩ := hM.en
  have e24 := hc.1
  have lp : ∀ r t, t + r = L.length → (∀ i, i < t → ¬ L.getD i 0 = 6 * q + j) → zr 269 2 [.ref 278, .int (nI q), .int (nI j), .int (nI t)] [] u P := by
    intro r
    induction r with
    | zero =>
      intro t ht hn
      have : t = L.length := by omega
      subst this
      have hnot : ¬ 6 * q + j ∈ L := fun z => by
        obtain ⟨i, hi, e⟩ := memD.mp z
        exact hn i hi e
      have hlt := hE.lt (by omega) hnot
      have m1 : ∀ z, xI (xsI u 287 L.length z) 278 24 = nI L.length := fun z => by rw [xI_ne (by omega)]; exact e24
      have m2 : ∀ z z', xI (xsI (xsI u 287 L.length z) 288 L.length z') 278 24 = nI L.length := fun z z' => by rw [xI_ne (by omega)]; exact m1 z
      have m3 : ∀ z z' z'', xI (xsI (xsI (xsI u 287 L.length z) 288 L.length z') 289 L.length z'') 278 24 = nI L.length := fun z z' z'' => by rw [xI_ne (by omega)]; exact m2 z z'
      have m4 : nI (L.length + 1) - 1 = nI L.length := by rw [← nI_1]; exact Int32.add_sub_cancel ..
      rw [r269_2]
      simp (disch := omega) only [r269_3, r269_4, r269_7, r269_38, r269_39, r269_42, r269_43, r269_46, r269_47, r269_48, r269_49, r269_52, r269_53, r269_56, r269_57, r269_58, r269_59, r269_62, r269_63, r269_66, r269_67, r269_68, r269_69, r269_70, r269_73, r269_74, r269_75, r269_78, r269_79, r269_82, r269_83, r269_84, h0, r21, r22, r23, i7, n7, i8, n8, i9, n9, e24, m1, m2, m3, m4, xIs_sI, xR_sI, xN_sI, xI_at, xinbT, xixT, leT, leF, ltT, ltF, ngF, psT, n1F, n2F, km2, km3, km4, km5, km10, km15, km25, kl8, kl14, kl24, kl34, kl274, kl354, kl384, kr1, kr2, kr3, kr4, kr5, kr6, kr7, kr8, kr9, kaa, lb0, lb1, lb2, lb3, lb4, lb5, lb6, lb7, li0, li1, li2, li3, li4, li5, li6, li7, true_and, and_true, Option.some.injEq, exists_eq_left', Option.toList_some, Option.toList_none, List.cons_append, List.nil_append, xcat_nil, xcat_int, xcat_ref, xcat_long, not_true, not_false_iff, if_true, if_false, and_self, and_false, false_and, or_true, true_or, or_self, z01, z10, zle8, Nat.reduceAdd, Nat.reduceLeDiff]
      exact h2 hnot
    | succ r ih =>
      intro t ht hn
      obtain ⟨p1, p2, -⟩ := hc.2 t (by omega)
      have bt := hE.2.1 _ (memD.mpr ⟨t, by omega, rfl⟩)
      rw [r269_2]
      by_cases c : L.getD t 0 = 6 * q + j
      · have c1 : nI (L.getD t 0 / 6) = nI q := by rw [c, show (6 * q + j) / 6 = q by omega]
        have c2 : nI (L.getD t 0 % 6) = nI j := by rw [c, show (6 * q + j) % 6 = j by omega]
        simp (disch := omega) only [r269_3, r269_4, r269_7, r269_10, r269_11, r269_14, r269_15, r269_16, r269_17, r269_20, r269_21, r269_24, r269_25, r269_26, r269_27, r269_30, r269_31, h0, r21, r22, i7, n7, i8, n8, e24, p1, p2, c1, c2, xinbT, xixT, leT, leF, ltT, ltF, ngF, psT, n1F, n2F, km2, km3, km4, km5, km10, km15, km25, kl8, kl14, kl24, kl34, kl274, kl354, kl384, kr1, kr2, kr3, kr4, kr5, kr6, kr7, kr8, kr9, kaa, lb0, lb1, lb2, lb3, lb4, lb5, lb6, lb7, li0, li1, li2, li3, li4, li5, li6, li7, true_and, and_true, Option.some.injEq, exists_eq_left', Option.toList_some, Option.toList_none, List.cons_append, List.nil_append, xcat_nil, xcat_int, xcat_ref, xcat_long, not_true, not_false_iff, if_true, if_false, and_self, and_false, false_and, or_true, true_or, or_self, z01, z10, zle8, Nat.reduceAdd, Nat.reduceLeDiff]
        exact h1 t (by omega) c
      · have ih := ih (t + 1) (by omega) (fun i hi => by
          by_cases z : i = t
          · rw [z]; exact c
          · exact hn i (by omega))
        by_cases c1 : nI (L.getD t 0 / 6) = nI q
        · have c2 : ¬ nI (L.getD t 0 % 6) = nI j := fun z => by
            have a1 := (nI_inj (by omega) (by omega)).mp c1
            have a2 := (nI_inj (by omega) (by omega)).mp z
            omega
          simp (disch := omega) only [r269_3, r269_4, r269_7, r269_10, r269_11, r269_14, r269_15, r269_16, r269_17, r269_20, r269_21, r269_24, r269_25, r269_26, r269_27, r269_30, r269_31, r269_32, r269_35, h0, r21, r22, i7, n7, i8, n8, e24, p1, p2, c1, c2, xinbT, xixT, leT, leF, ltT, ltF, ngF, psT, n1F, n2F, km2, km3, km4, km5, km10, km15, km25, kl8, kl14, kl24, kl34, kl274, kl354, kl384, kr1, kr2, kr3, kr4, kr5, kr6, kr7, kr8, kr9, kaa, lb0, lb1, lb2, lb3, lb4, lb5, lb6, lb7, li0, li1, li2, li3, li4, li5, li6, li7, true_and, and_true, Option.some.injEq, exists_eq_left', Option.toList_some, Option.toList_none, List.cons_append, List.nil_append, xcat_nil, xcat_int, xcat_ref, xcat_long, not_true, not_false_iff, if_true, if_false, and_self, and_false, false_and, or_true, true_or, or_self, z01, z10, zle8, Nat.reduceAdd, Nat.reduceLeDiff]
          exact ih
        · simp (disch := omega) only [r269_3, r269_4, r269_7, r269_10, r269_11, r269_14, r269_15, r269_16, r269_17, r269_20, r269_21, r269_24, r269_25, r269_26, r269_27, r269_30, r269_31, r269_32, r269_35, h0, r21, r22, i7, n7, i8, n8, e24, p1, p2, c1, xinbT, xixT, leT, leF, ltT, ltF, ngF, psT, n1F, n2F, km2, km3, km4, km5, km10, km15, km25, kl8, kl14, kl24, kl34, kl274, kl354, kl384, kr1, kr2, kr3, kr4, kr5, kr6, kr7, kr8, kr9, kaa, lb0, lb1, lb2, lb3, lb4, lb5, lb6, lb7, li0, li1, li2, li3, li4, li5, li6, li7, true_and, and_true, Option.some.injEq, exists_eq_left', Option.toList_some, Option.toList_none, List.cons_append, List.nil_append, xcat_nil, xcat_int, xcat_ref, xcat_long, not_true, not_false_iff, if_true, if_false, and_self, and_false, false_and, or_true, true_or, or_self, z01, z10, zle8, Nat.reduceAdd, Nat.reduceLeDiff]
          exact ih
  simp only [r269_0, r269_1]
  exact lp L.length 0 (by omega) (fun i hi => absurd hi (by omega))
theorem ledger_part (h : Mx u g D s nl np nb nc nr nh nk) (hc : cpB u g n nf np) (hB : okB g n nf nc np) {l : Nat} (hl : l < n) {L : List Nat} {S : Nat → Int32} (hE : okE L S) (hP : ∀ w, xag SCm u w → Me w (LgP g l L (pn g l)) (SgP g l S (pn g l)) → zr 270 65 [.ref 278, .int (nI l), .int (nI (pn g l))] [] w P) : ∀ r i w, i + r = pn g l → xag SCm u w → Me w (LgP g l L i) (SgP g l S i) → zr 270 17 [.ref 278, .int (nI l), .int (nI i)] [] w P := by
  have hb := h.2.1.1.b
  have hn := hB.1.1.2
  obtain ⟨e8, h4⟩ := hB.1.2 l hl
  intro r
  induction r with
  | zero =>
    intro i w hi hw hm
    have : i = pn g l := by omega
    subst this
    have hx' := h.ag hw.m
    have t7 := fun P => told7_run (P := P) hx'.1 (hc.ag hw.m) hn hl
    rw [e8] at t7
    rw [r270_17]
    simp (disch := omega) only [r270_18, r270_19, r270_20, r270_22, r270_25, hx'.1.1, t7, xinbT, xixT, leT, leF, ltT, ltF, ngF, psT, n1F, n2F, km2, km3, km4, km5, km10, km15, km25, kl8, kl14, kl24, kl34, kl274, kl354, kl384, kr1, kr2, kr3, kr4, kr5, kr6, kr7, kr8, kr9, kaa, lb0, lb1, lb2, lb3, lb4, lb5, lb6, lb7, li0, li1, li2, li3, li4, li5, li6, li7, true_and, and_true, Option.some.injEq, exists_eq_left', Option.toList_some, Option.toList_none, List.cons_append, List.nil_append, xcat_nil, xcat_int, xcat_ref, xcat_long, not_true, not_false_iff, if_true, if_false, and_self, and_false, false_and, or_true, true_or, or_self, z01, z10, zle8, Nat.reduceAdd, Nat.reduceLeDiff]
    exact hP w hw hm
  | succ r ih =>
    intro i w hi hw hm
    have hx' := h.ag hw.m
    have hc' := hc.ag hw.m
    have h0 := hx'.1.1
    have t7 := fun P => told7_run (P := P) hx'.1 hc' hn hl
    rw [e8] at t7
    have t3 := fun P => told_run (P := P) hx'.1 hc' hn hl (k := 3) (by omega)
    have p0 := fun P => partIs0_run (P := P) hx'.1 hc' hn hl (i := i) (by omega) (by omega)
    obtain ⟨q, j, hq, hj, eq, ej, ek, hk, k1, k2⟩ := key_b hB hb.2.2.1 hb.2.2.2.2.1 hl (i := i) (by omega)
    rw [eq] at p0
    rw [ej] at t3
    simp only [show nI 3 = 3 from rfl] at t3
    have okP := okE_P hB hb.2.2.1 hb.2.2.2.2.1 hl hE i (by omega)
    have hlen := okP.len
    obtain ⟨-, ⟨-, -, r23⟩, -, -, i9, n9⟩ := hx'.1.en
    have e1 : LgP g l L (i + 1) = lgA (LgP g l L i) (6 * q + j) := by rw [← ek]; rfl
    have e2 : SgP g l S (i + 1) = upS (SgP g l S i) (6 * q + j) (lTax g (69 + 5 * l) i) := by rw [← ek]; rfl
    have ih' := fun w => ih (i + 1) w (by omega)
    rw [e1, e2] at ih'
    unfold lgA at ih'
    rw [r270_17]
    simp (disch := omega) only [r270_18, r270_19, r270_20, r270_22, r270_25, r270_28, r270_29, r270_32, r270_33, r270_34, r270_35, r270_36, r270_37, r270_40, r270_41, r270_42, r270_43, r270_46, h0, r23, t7, t3, p0, xinbT, xixT, leT, leF, ltT, ltF, ngF, psT, n1F, n2F, km2, km3, km4, km5, km10, km15, km25, kl8, kl14, kl24, kl34, kl274, kl354, kl384, kr1, kr2, kr3, kr4, kr5, kr6, kr7, kr8, kr9, kaa, lb0, lb1, lb2, lb3, lb4, lb5, lb6, lb7, li0, li1, li2, li3, li4, li5, li6, li7, true_and, and_true, Option.some.injEq, exists_eq_left', Option.toList_some, Option.toList_none, List.cons_append, List.nil_append, xcat_nil, xcat_int, xcat_ref, xcat_long, not_true, not_false_iff, if_true, if_false, and_self, and_false, false_and, or_true, true_or, or_self, z01, z10, zle8, Nat.reduceAdd, Nat.reduceLeDiff]
    refine entryOf_rel hx'.1 okP hm (by omega) (by omega) (fun t ht e => ?_) (fun hnot => ?_)
    · have hin : 6 * q + j ∈ LgP g l L i := memD.mpr ⟨t, ht, e⟩
      rw [if_pos hin] at ih'
      have pt := fun P => partTaxM_run (P := P) hx'.1 hc' hB hl (i := i) (by omega)
      have m9 := (hm.2 t ht).2.2
      simp (disch := omega) only [r270_49, r270_50, r270_51, r270_52, r270_53, r270_54, r270_57, r270_58, r270_59, r270_62, h0, i9, n9, m9, pt, xinbT, xixT, leT, leF, ltT, ltF, ngF, psT, n1F, n2F, km2, km3, km4, km5, km10, km15, km25, kl8, kl14, kl24, kl34, kl274, kl354, kl384, kr1, kr2, kr3, kr4, kr5, kr6, kr7, kr8, kr9, kaa, lb0, lb1, lb2, lb3, lb4, lb5, lb6, lb7, li0, li1, li2, li3, li4, li5, li6, li7, true_and, and_true, Option.some.injEq, exists_eq_left', Option.toList_some, Option.toList_none, List.cons_append, List.nil_append, xcat_nil, xcat_int, xcat_ref, xcat_long, not_true, not_false_iff, if_true, if_false, and_self, and_false, false_and, or_true, true_or, or_self, z01, z10, zle8, Nat.reduceAdd, Nat.reduceLeDiff]
      refine ih' _ (hw.tr (scm6 (by omega))) ⟨by rw [xI_ne (by omega)]; exact hm.1, fun s hs => ?_⟩
      obtain ⟨a1, a2, a3⟩ := hm.2 s hs
      refine ⟨by rw [xI_ne (by omega)]; exact a1, by rw [xI_ne (by omega)]; exact a2, ?_⟩
      unfold upS
      by_cases z : s = t
      · subst z
        rw [xI_ate rfl, if_pos e]
      · rw [xI_ne (by omega), if_neg (fun y => z (okP.2.2.1 s t hs ht (by rw [y, e]))), a3]
    · rw [if_neg hnot] at ih'
      have hlt := okP.lt (by omega) hnot
      have hw2 : xag SCm u (xsI (xsI (xsI (xsI w 287 (LgP g l L i).length (nI q)) 288 (LgP g l L i).length (nI j)) 289 (LgP g l L i).length 0) 278 24 (nI ((LgP g l L i).length + 1))) := hw.tr (((((scm6 (by omega)).tr (scm6 (by omega)))).tr (scm6 (by omega))).tr scm24)
      have pt := fun P => partTaxM_run (P := P) (h.ag hw2.m).1 (hc.ag hw2.m) hB hl (i := i) (by omega)
      simp (disch := omega) only [r270_49, r270_50, r270_51, r270_52, r270_53, r270_54, r270_57, r270_58, r270_59, r270_62, h0, i9, n9, pt, xIs_sI, xR_sI, xN_sI, xI_ate, xI_ne, xinbT, xixT, leT, leF, ltT, ltF, ngF, psT, n1F, n2F, km2, km3, km4, km5, km10, km15, km25, kl8, kl14, kl24, kl34, kl274, kl354, kl384, kr1, kr2, kr3, kr4, kr5, kr6, kr7, kr8, kr9, kaa, lb0, lb1, lb2, lb3, lb4, lb5, lb6, lb7, li0, li1, li2, li3, li4, li5, li6, li7, true_and, and_true, Option.some.injEq, exists_eq_left', Option.toList_some, Option.toList_none, List.cons_append, List.nil_append, xcat_nil, xcat_int, xcat_ref, xcat_long, not_true, not_false_iff, if_true, if_false, and_self, and_false, false_and, or_true, true_or, or_self, z01, z10, zle8, Nat.reduceAdd, Nat.reduceLeDiff]
      have h00 : okP.2.2.2 (6 * q + j) hnot = okP.2.2.2 (6 * q + j) hnot := rfl
      have z0 := okP.2.2.2 (6 * q + j) hnot
      refine ih' _ (hw2.tr (scm6 (by omega))) ⟨?_, fun s hs => ?_⟩
      · rw [List.length_append]
        simp (disch := omega) only [xI_ate, xI_ne]
        rfl
      · rw [List.length_append] at hs
        have hs : s < (LgP g l L i).length + 1 := hs
        by_cases z : s = (LgP g l L i).length
        · subst z
          rw [appE]
          simp (disch := omega) only [xI_ate, xI_ne]
          refine ⟨by rw [show (6 * q + j) / 6 = q by omega], by rw [show (6 * q + j) % 6 = j by omega], ?_⟩
          unfold upS
          rw [if_pos rfl, z0]
        · rw [appD (by omega)]
          obtain ⟨a1, a2, a3⟩ := hm.2 s (by omega)
          simp (disch := omega) only [xI_ate, xI_ne]
          refine ⟨a1, a2, ?_⟩
          unfold upS
          rw [if_neg (fun y => hnot (memD.mpr ⟨s, by omega, y⟩)), a3]
theorem ledgerM (h : Mx u g D s nl np nb nc nr nh nk) (hc : cpB u g n nf np) (hB : okB g n nf nc np) (hP : ∀ w, xag SCm u w → Me w (Lg g n) (Sg g n) → P none w) : zr 270 0 [.ref 278, .null, .null] [] u P := by
  have hb := h.2.1.1.b
  have hn := hB.1.1.2
  have lp : ∀ r l w v2, l + r = n → xag SCm u w → Me w (Lg g l) (Sg g l) → zr 270 7 [.ref 278, .int (nI l), v2] [] w P := by
    intro r
    induction r with
    | zero =>
      intro l w v2 hl hw hm
      have : l = n := by omega
      subst this
      have hx' := h.ag hw.m
      have hc' := hc.ag hw.m
      rw [r270_7]
      simp (disch := omega) only [r270_8, r270_9, r270_12, r270_71, hx'.1.1, hc'.1, xinbT, xixT, leT, leF, ltT, ltF, ngF, psT, n1F, n2F, km2, km3, km4, km5, km10, km15, km25, kl8, kl14, kl24, kl34, kl274, kl354, kl384, kr1, kr2, kr3, kr4, kr5, kr6, kr7, kr8, kr9, kaa, lb0, lb1, lb2, lb3, lb4, lb5, lb6, lb7, li0, li1, li2, li3, li4, li5, li6, li7, true_and, and_true, Option.some.injEq, exists_eq_left', Option.toList_some, Option.toList_none, List.cons_append, List.nil_append, xcat_nil, xcat_int, xcat_ref, xcat_long, not_true, not_false_iff, if_true, if_false, and_self, and_false, false_and, or_true, true_or, or_self, z01, z10, zle8, Nat.reduceAdd, Nat.reduceLeDiff]
      exact hP w hw hm
    | succ r ih =>
      intro l w v2 hl hw hm
      have hx' := h.ag hw.m
      have hc' := hc.ag hw.m
      rw [r270_7]
      simp (disch := omega) only [r270_8, r270_9, r270_12, r270_15, r270_16, hx'.1.1, hc'.1, xinbT, xixT, leT, leF, ltT, ltF, ngF, psT, n1F, n2F, km2, km3, km4, km5, km10, km15, km25, kl8, kl14, kl24, kl34, kl274, kl354, kl384, kr1, kr2, kr3, kr4, kr5, kr6, kr7, kr8, kr9, kaa, lb0, lb1, lb2, lb3, lb4, lb5, lb6, lb7, li0, li1, li2, li3, li4, li5, li6, li7, true_and, and_true, Option.some.injEq, exists_eq_left', Option.toList_some, Option.toList_none, List.cons_append, List.nil_append, xcat_nil, xcat_int, xcat_ref, xcat_long, not_true, not_false_iff, if_true, if_false, and_self, and_false, false_and, or_true, true_or, or_self, z01, z10, zle8, Nat.reduceAdd, Nat.reduceLeDiff]
      refine ledger_part h hc hB (l := l) (by omega) (okE_L hB hb.2.2.1 hb.2.2.2.2.1 l (by omega)) (fun w2 hw2 hm2 => ?_) (pn g l) 0 w (by omega) hw hm
      rw [r270_65, r270_68, nI_1]
      exact ih (l + 1) w2 _ (by omega) hw2 hm2
  simp only [r270_0, r270_1, r270_2, r270_5, r270_6, h.1.1, true_and, and_true, Option.some.injEq, exists_eq_left', Option.toList_some, Option.toList_none, List.cons_append, List.nil_append, xcat_nil, xcat_int, xcat_ref, xcat_long, not_true, not_false_iff, if_true, if_false, and_self, and_false, false_and, or_true, true_or, or_self, z01, z10, zle8, Nat.reduceAdd, Nat.reduceLeDiff]
  exact lp n 0 _ .null (by omega) scm24 ⟨by rw [xI_at]; rfl, fun j hj => absurd hj (by simp [Lg])⟩
end
