/-! LINES as the class reads them -/
def thW (r : Bool × xMem) (k : xMem → Bool × xMem) : Bool × xMem := if r.1 = true then k r.2 else (false, r.2)
def thI (r : Int32 × xMem) (k : Int32 → xMem → Bool × xMem) : Bool × xMem := if 0 ≤ r.1 then k r.1 r.2 else (false, r.2)
def thJ (r : Int64 × xMem) (k : Int64 → xMem → Bool × xMem) : Bool × xMem := if 0 ≤ lg_cmp r.1 0 then k r.1 r.2 else (false, r.2)
theorem thW_t {r : Bool × xMem} {k : xMem → Bool × xMem} (h : r.1 = true) : thW r k = k r.2 := if_pos h
theorem thW_f {r : Bool × xMem} {k : xMem → Bool × xMem} (h : ¬ r.1 = true) : thW r k = (false, r.2) := if_neg h
theorem thI_t {r : Int32 × xMem} {k : Int32 → xMem → Bool × xMem} (h : 0 ≤ r.1) : thI r k = k r.1 r.2 := if_pos h
theorem thI_f {r : Int32 × xMem} {k : Int32 → xMem → Bool × xMem} (h : ¬ 0 ≤ r.1) : thI r k = (false, r.2) := if_neg h
theorem thJ_t {r : Int64 × xMem} {k : Int64 → xMem → Bool × xMem} (h : 0 ≤ lg_cmp r.1 0) : thJ r k = k r.1 r.2 := if_pos h
theorem thJ_f {r : Int64 × xMem} {k : Int64 → xMem → Bool × xMem} (h : ¬ 0 ≤ lg_cmp r.1 0) : thJ r k = (false, r.2) := if_neg h
section
variable {g v w : xMem} {P : Option Value → xMem → Prop} {e a b E s nl np nb nc nr nh nk n r k : Nat} {x y p c d lo hi : Int32}
theorem okD.mv (k : okD g E s nl np nb nc nr nh nk) (h1 : w.1 = g.1) (h2 : w.2.2.2 = g.2.2.2) (hf : ∀ c, c = E + 1 ∨ c = E + 4 ∨ c = E + 7 ∨ c = E + 12 ∨ c = E + 13 ∨ c = E + 14 → xI w c = xI g c) : okD w E s nl np nb nc nr nh nk := by
  obtain ⟨k1, k2⟩ := k
  have e : w = (g.1, w.2.1, w.2.2.1, g.2.2.2) := by
    obtain ⟨k, i, j, r⟩ := w
    have h1 : k = g.1 := h1
    have h2 : r = g.2.2.2 := h2
    rw [h1, h2]
  refine ⟨by rw [e]; exact k1, ?_⟩
  rw [hf (E + 1) (by omega), hf (E + 4) (by omega), hf (E + 12) (by omega), hf (E + 14) (by omega), hf (E + 13) (by omega), hf (E + 7) (by omega)]
  exact k2
/-- the reader with its desk begun -/
def Ca (g : xMem) (E s nl np nb nc nr nh nk : Nat) : Prop := Cs g E ∧ okD g E s nl np nb nc nr nh nk ∧ (E = 6 ∨ E = 34)
theorem Ca.kp (h : Ca g E s nl np nb nc nr nh nk) (k : Kp g w) (hc : Cs w E) : Ca w E s nl np nb nc nr nh nk := ⟨hc, k.okD h.2.2 h.2.1, h.2.2⟩
theorem Ca.nx (h : Ca g E s nl np nb nc nr nh nk) : Ca (nxt g) E s nl np nb nc nr nh nk := h.kp kp_nxt h.1.nx
theorem Ca.word (h : Ca g E s nl np nb nc nr nh nk) : Ca (cWord g k).2 E s nl np nb nc nr nh nk := h.kp kp_word h.1.word
theorem Ca.whole (h : Ca g E s nl np nb nc nr nh nk) : Ca (cWhole g lo hi).2 E s nl np nb nc nr nh nk := h.kp kp_whole h.1.whole
theorem Ca.name {A : Nat} (h : Ca g E s nl np nb nc nr nh nk) : Ca (cName g A n).2 E s nl np nb nc nr nh nk := h.kp kp_name h.1.name
theorem Ca.fresh {m : Nat} (h : Ca g E s nl np nb nc nr nh nk) : Ca (cFresh g n m).2 E s nl np nb nc nr nh nk := h.kp kp_fresh h.1.fresh
/-! the desk's own line -/
def mBeg (g : xMem) (E : Nat) (s l : Int32) : xMem := xsI (xsI (xsI (xsI (xsI (xsI (xsI (xsI g (E + 1) 0 s) (E + 1) 1 l) (E + 1) 2 0) (E + 4) 0 0) (E + 12) 0 0) (E + 14) 0 0) (E + 12) 3 0) (E + 12) 9 0
theorem dbegin_run (h : sDk g E) : zr 35 0 [.ref E, .int x, .int y] [] g P = P none (mBeg g E x y) := by
  obtain ⟨a1, ⟨a2, a3, -⟩, ⟨b1, ⟨-, -, b5, -⟩, -, -, ⟨c1, -⟩, -⟩, ⟨d1, ⟨-, d2, -⟩, -, ⟨d3, -⟩, -⟩, -⟩ := h
  simp only [r35_0, r35_1, r35_4, r35_5, r35_6, r35_9, r35_10, r35_13, r35_16, r43_0, r43_1, r43_2, r43_5, r43_6, r43_7, r43_10, r43_11, r43_12, r43_15, r43_16, r43_19, r43_20, r43_23, r95_0, r95_1, r95_2, r95_5, r95_6, r95_9, r95_10, r95_13, r95_14, r95_15, r95_18, r95_19, r95_20, r95_23, xIs_sI, xR_sI, a1, a2, a3, b1, b5, c1, d1, d2, d3, true_and, and_true, Option.some.injEq, exists_eq_left', Option.toList_some, Option.toList_none, List.cons_append, List.nil_append, xcat_nil, xcat_int, xcat_ref, xcat_long, not_true, not_false_iff, if_true, if_false, and_self, and_false, false_and, or_true, true_or, or_self, z01, z10, zle8, Nat.reduceAdd, Nat.reduceLeDiff]
  rfl
def cDesk (g : xMem) (E : Nat) : Bool × xMem := thW (cWord (nxt g) 10) fun m => thI (cWhole m 2 40) fun s m => thW (cWord m 11) fun m => thI (cWhole m 1 4) fun l m => (true, xsI (mBeg m E s l) 1 4 1)
theorem readDesk_run (h : Cs g E) (hd : sDk g E) : zr 73 0 [.ref 1, .null, .null] [] g P = P (some (.int (bI (cDesk g E).1))) (cDesk g E).2 := by
  obtain ⟨e, a, b, q⟩ := h.2
  have h1 := h.nx
  have k1 : Kp g (nxt g) := kp_nxt
  have w1 := fun P => readWord_run (P := P) (r := 1000010) (k := 10) rfl (by omega) h1
  have h2 := h1.word (k := 10)
  have k2 := k1.tr (kp_word (k := 10))
  unfold cDesk
  generalize cWord (nxt g) 10 = a1 at *
  simp only [r73_0, r73_1, r73_4, r73_7, r73_8, r73_10, h.1.1, h.1.2.1.1, q.1.1, h1.1.1, nxt_run h, w1, true_and, and_true, Option.some.injEq, exists_eq_left', Option.toList_some, Option.toList_none, List.cons_append, List.nil_append, xcat_nil, xcat_int, xcat_ref, xcat_long, not_true, not_false_iff, if_true, if_false, and_self, and_false, false_and, or_true, true_or, or_self, z01, z10, zle8, Nat.reduceAdd, Nat.reduceLeDiff]
  by_cases c1 : a1.1 = true
  · rw [thW_t c1]
    have w2 := fun P => readWhole_run (P := P) (lo := 2) (hi := 40) h2
    have h3 := h2.whole (lo := 2) (hi := 40)
    have k3 := k2.tr (kp_whole (lo := 2) (hi := 40))
    generalize cWhole a1.2 2 40 = s1 at *
    simp only [r73_13, r73_16, r73_17, r73_18, r73_19, r73_20, r73_22, r73_25, r73_26, c1, bI_t, h2.1.1, w2, true_and, and_true, Option.some.injEq, exists_eq_left', Option.toList_some, Option.toList_none, List.cons_append, List.nil_append, xcat_nil, xcat_int, xcat_ref, xcat_long, not_true, not_false_iff, if_true, if_false, and_self, and_false, false_and, or_true, true_or, or_self, z01, z10, zle8, Nat.reduceAdd, Nat.reduceLeDiff]
    by_cases c2 : 0 ≤ s1.1
    · rw [thI_t c2]
      have w3 := fun P => readWord_run (P := P) (r := 1000011) (k := 11) rfl (by omega) h3
      have h4 := h3.word (k := 11)
      have k4 := k3.tr (kp_word (k := 11))
      generalize cWord s1.2 11 = a2 at *
      simp only [r73_27, r73_30, r73_31, r73_33, i32_nlt.mpr c2, h3.1.1, w3, true_and, and_true, Option.some.injEq, exists_eq_left', Option.toList_some, Option.toList_none, List.cons_append, List.nil_append, xcat_nil, xcat_int, xcat_ref, xcat_long, not_true, not_false_iff, if_true, if_false, and_self, and_false, false_and, or_true, true_or, or_self, z01, z10, zle8, Nat.reduceAdd, Nat.reduceLeDiff]
      by_cases c3 : a2.1 = true
      · rw [thW_t c3]
        have w4 := fun P => readWhole_run (P := P) (lo := 1) (hi := 4) h4
        have h5 := h4.whole (lo := 1) (hi := 4)
        have k5 := k4.tr (kp_whole (lo := 1) (hi := 4))
        generalize cWhole a2.2 1 4 = l1 at *
        simp only [r73_36, r73_39, r73_40, r73_41, r73_42, r73_43, r73_44, r73_47, r73_48, c3, bI_t, h4.1.1, w4, true_and, and_true, Option.some.injEq, exists_eq_left', Option.toList_some, Option.toList_none, List.cons_append, List.nil_append, xcat_nil, xcat_int, xcat_ref, xcat_long, not_true, not_false_iff, if_true, if_false, and_self, and_false, false_and, or_true, true_or, or_self, z01, z10, zle8, Nat.reduceAdd, Nat.reduceLeDiff]
        by_cases c4 : 0 ≤ l1.1
        · rw [thI_t c4]
          have hd5 := k5.dk hd
          have e1 : xIs (mBeg l1.2 E s1.1 l1.1) 1 7 := h5.1.1
          simp only [r73_49, r73_52, r73_53, r73_54, r73_55, r73_58, r73_59, r73_60, r73_63, r73_64, r73_65, r73_68, r73_69, c4, h5.1.1, h5.1.2.1.2.2.2, hd5.1, dbegin_run hd5, e1, bI_t, or_true, true_and, and_true, Option.some.injEq, exists_eq_left', Option.toList_some, Option.toList_none, List.cons_append, List.nil_append, xcat_nil, xcat_int, xcat_ref, xcat_long, not_true, not_false_iff, if_true, if_false, and_self, and_false, false_and, or_true, true_or, or_self, z01, z10, zle8, Nat.reduceAdd, Nat.reduceLeDiff]
        · rw [thI_f c4]
          simp only [r73_49, r73_52, r73_53, r73_54, r73_55, r73_58, r73_59, r73_60, r73_63, r73_64, r73_65, r73_68, r73_69, c4, bI_f, true_and, and_true, Option.some.injEq, exists_eq_left', Option.toList_some, Option.toList_none, List.cons_append, List.nil_append, xcat_nil, xcat_int, xcat_ref, xcat_long, not_true, not_false_iff, if_true, if_false, and_self, and_false, false_and, or_true, true_or, or_self, z01, z10, zle8, Nat.reduceAdd, Nat.reduceLeDiff]
      · rw [thW_f c3]
        simp only [r73_36, r73_39, r73_40, Bool.eq_false_iff.mpr c3, bI_f, true_and, and_true, Option.some.injEq, exists_eq_left', Option.toList_some, Option.toList_none, List.cons_append, List.nil_append, xcat_nil, xcat_int, xcat_ref, xcat_long, not_true, not_false_iff, if_true, if_false, and_self, and_false, false_and, or_true, true_or, or_self, z01, z10, zle8, Nat.reduceAdd, Nat.reduceLeDiff]
    · rw [thI_f c2]
      simp only [r73_27, r73_30, r73_31, r73_33, r73_36, r73_39, r73_40, i32_nle.mp c2, bI_f, true_and, and_true, Option.some.injEq, exists_eq_left', Option.toList_some, Option.toList_none, List.cons_append, List.nil_append, xcat_nil, xcat_int, xcat_ref, xcat_long, not_true, not_false_iff, if_true, if_false, and_self, and_false, false_and, or_true, true_or, or_self, z01, z10, zle8, Nat.reduceAdd, Nat.reduceLeDiff]
  · rw [thW_f c1]
    simp only [r73_13, r73_16, r73_17, Bool.eq_false_iff.mpr c1, bI_f, true_and, and_true, Option.some.injEq, exists_eq_left', Option.toList_some, Option.toList_none, List.cons_append, List.nil_append, xcat_nil, xcat_int, xcat_ref, xcat_long, not_true, not_false_iff, if_true, if_false, and_self, and_false, false_and, or_true, true_or, or_self, z01, z10, zle8, Nat.reduceAdd, Nat.reduceLeDiff]
/-! a class -/
def mAddC (g : xMem) (E n : Nat) (of : Int32) : xMem := xsI (xsI g (E + 13) n of) (E + 12) 0 (nI (n + 1))
theorem addClass_run (h : okD g E s nl np nb nc nr nh nk) (h6 : nc < 6) : zr 96 0 [.ref (E + 12), .int x] [] g P = P none (mAddC g E nc x) := by
  obtain ⟨-, -, -, -, -, ⟨f23, f24, f25, f26, f27⟩, -⟩ := h.cf
  have hn := h.2.2.2.2.2.1.1
  have e1 : xI (xsI g (E + 13) nc x) (E + 12) 0 = nI nc := by rw [xI_ne (Or.inl (by omega))]; exact hn
  simp (disch := omega) only [r96_0, r96_1, r96_4, r96_5, r96_8, r96_9, r96_10, r96_11, r96_12, r96_15, r96_16, r96_17, r96_20, xIs_sI, f23, f24, f26, f27, hn, e1, xinbT, xixT, leT, leF, ltT, ltF, ngF, psT, n1F, n2F, km2, km3, km4, km5, km10, km15, km25, kl8, kl14, kl24, kl34, kl274, kl354, kl384, kr1, kr2, kr3, kr4, kr5, kr6, kr7, kr8, kr9, kaa, lb0, lb1, lb2, lb3, lb4, lb5, lb6, lb7, li0, li1, li2, li3, li4, li5, li6, li7, true_and, and_true, Option.some.injEq, exists_eq_left', Option.toList_some, Option.toList_none, List.cons_append, List.nil_append, xcat_nil, xcat_int, xcat_ref, xcat_long, not_true, not_false_iff, if_true, if_false, and_self, and_false, false_and, or_true, true_or, or_self, z01, z10, zle8, Nat.reduceAdd, Nat.reduceLeDiff]
  rfl
def cClass2 (E nc : Nat) (nm : Int64) (of : Int32) (m : xMem) : Bool × xMem := (true, mAddC (xsJ m 4 nc nm) E nc of)
def cClass (g : xMem) (E nc np : Nat) : Bool × xMem := thJ (cFresh g nc np) fun nm m => if cSay m 7 = true then thI (cName (nxt m) 4 nc) (fun of m => cClass2 E nc nm of m) else cClass2 E nc nm (-2) m
theorem readClass_tail {nm : Int64} (h : Ca g E s nl np nb nc nr nh nk) (h6 : nc < 6) : zr 74 60 [.ref 1, .long nm, .null, .int x] [] g P = P (some (.int (bI (cClass2 E nc nm x g).1))) (cClass2 E nc nm x g).2 := by
  obtain ⟨h1, h2, h3⟩ := h
  obtain ⟨⟨f1, f2, f3⟩, -, -, -, -, ⟨f23, -⟩, -⟩ := h2.cf
  obtain ⟨g0, ⟨r0, r1, r2, r3⟩, ⟨s0, s1⟩, -⟩ := h1.1
  have hn := h2.2.2.2.2.2.1.1
  have h2' : okD (xsJ g 4 nc nm) E s nl np nb nc nr nh nk := h2
  have a0 : xIs (xsJ g 4 nc nm) 1 7 := g0
  have a1 : xR (xsJ g 4 nc nm) 1 3 = some E := r3
  have a2 : xIs (xsJ g 4 nc nm) E 3 := f1
  have a3 : xR (xsJ g 4 nc nm) E 1 = some (E + 12) := f3
  have a4 : xIs (xsJ g 4 nc nm) (E + 12) 9 := f23
  simp (disch := omega) only [r74_60, r74_61, r74_64, r74_65, r74_68, r74_71, r74_74, r74_75, r74_76, r74_77, r74_80, r74_83, r74_84, r74_87, r74_88, g0, r1, r3, f1, f3, f23, hn, s0, s1, a0, a1, a2, a3, a4, addClass_run h2' h6, cClass2, bI_t, or_true, xinbT, xixT, leT, leF, ltT, ltF, ngF, psT, n1F, n2F, km2, km3, km4, km5, km10, km15, km25, kl8, kl14, kl24, kl34, kl274, kl354, kl384, kr1, kr2, kr3, kr4, kr5, kr6, kr7, kr8, kr9, kaa, lb0, lb1, lb2, lb3, lb4, lb5, lb6, lb7, li0, li1, li2, li3, li4, li5, li6, li7, true_and, and_true, Option.some.injEq, exists_eq_left', Option.toList_some, Option.toList_none, List.cons_append, List.nil_append, xcat_nil, xcat_int, xcat_ref, xcat_long, not_true, not_false_iff, if_true, if_false, and_self, and_false, false_and, or_true, true_or, or_self, z01, z10, zle8, Nat.reduceAdd, Nat.reduceLeDiff]
theorem readClass_run (h : Ca g E s nl np nb nc nr nh nk) (h6 : nc < 6) : zr 74 0 [.ref 1, .null, .null, .null] [] g P = P (some (.int (bI (cClass g E nc np).1))) (cClass g E nc np).2 := by
  have w1 := fun P => readNewName_run (P := P) h.1 h.2.1
  have h1 := h.fresh (n := nc) (m := np)
  unfold cClass
  generalize cFresh g nc np = a1 at *
  simp only [r74_0, r74_1, r74_4, r74_5, r74_6, r74_7, h.1.1.1, w1, true_and, and_true, Option.some.injEq, exists_eq_left', Option.toList_some, Option.toList_none, List.cons_append, List.nil_append, xcat_nil, xcat_int, xcat_ref, xcat_long, not_true, not_false_iff, if_true, if_false, and_self, and_false, false_and, or_true, true_or, or_self, z01, z10, zle8, Nat.reduceAdd, Nat.reduceLeDiff]
  by_cases c1 : 0 ≤ lg_cmp a1.1 0
  · rw [thJ_t c1]
    obtain ⟨e, a, b, q⟩ := h1.1.2
    have w2 := fun P => says_run (P := P) (r := 1000007) (k := 7) rfl (by omega) q
    simp only [r74_8, r74_11, r74_12, r74_13, r74_15, r74_16, r74_17, r74_20, r74_22, c1, h1.1.1.1, h1.1.1.2.1.1, q.1.1, w2, true_and, and_true, Option.some.injEq, exists_eq_left', Option.toList_some, Option.toList_none, List.cons_append, List.nil_append, xcat_nil, xcat_int, xcat_ref, xcat_long, not_true, not_false_iff, if_true, if_false, and_self, and_false, false_and, or_true, true_or, or_self, z01, z10, zle8, Nat.reduceAdd, Nat.reduceLeDiff]
    by_cases c2 : cSay a1.2 7 = true
    · rw [if_pos c2]
      have h2 := h1.nx
      have hb := h1.2.1.b
      have w3 := fun P => readName_run (P := P) (n := nc) h2.1 h2.1.1.2.2.1 (by omega) hb.2.2.2.2.1
      have h3 := h2.name (A := 4) (n := nc)
      obtain ⟨⟨f1, f2, f3⟩, -, -, -, -, ⟨f23, -⟩, -⟩ := h2.2.1.cf
      have hn := h2.2.1.2.2.2.2.2.1.1
      generalize cName (nxt a1.2) 4 nc = o1 at *
      simp only [r74_25, r74_28, r74_29, r74_32, r74_35, r74_36, r74_37, r74_40, r74_41, r74_44, r74_47, r74_50, r74_53, r74_54, c2, bI_t, h1.1.1.1, h1.1.1.2.1.1, q.1.1, nxt_run h1.1, h2.1.1.1, h2.1.1.2.1.2.1, h2.1.1.2.1.2.2.2, f1, f3, f23, hn, w3, true_and, and_true, Option.some.injEq, exists_eq_left', Option.toList_some, Option.toList_none, List.cons_append, List.nil_append, xcat_nil, xcat_int, xcat_ref, xcat_long, not_true, not_false_iff, if_true, if_false, and_self, and_false, false_and, or_true, true_or, or_self, z01, z10, zle8, Nat.reduceAdd, Nat.reduceLeDiff]
      by_cases c3 : 0 ≤ o1.1
      · rw [thI_t c3]
        simp only [r74_55, c3, readClass_tail h3 h6, true_and, and_true, Option.some.injEq, exists_eq_left', Option.toList_some, Option.toList_none, List.cons_append, List.nil_append, xcat_nil, xcat_int, xcat_ref, xcat_long, not_true, not_false_iff, if_true, if_false, and_self, and_false, false_and, or_true, true_or, or_self, z01, z10, zle8, Nat.reduceAdd, Nat.reduceLeDiff]
      · rw [thI_f c3]
        simp only [r74_55, r74_58, r74_59, c3, bI_f, true_and, and_true, Option.some.injEq, exists_eq_left', Option.toList_some, Option.toList_none, List.cons_append, List.nil_append, xcat_nil, xcat_int, xcat_ref, xcat_long, not_true, not_false_iff, if_true, if_false, and_self, and_false, false_and, or_true, true_or, or_self, z01, z10, zle8, Nat.reduceAdd, Nat.reduceLeDiff]
    · rw [if_neg c2]
      simp only [r74_25, Bool.eq_false_iff.mpr c2, bI_f, readClass_tail h1 h6, true_and, and_true, Option.some.injEq, exists_eq_left', Option.toList_some, Option.toList_none, List.cons_append, List.nil_append, xcat_nil, xcat_int, xcat_ref, xcat_long, not_true, not_false_iff, if_true, if_false, and_self, and_false, false_and, or_true, true_or, or_self, z01, z10, zle8, Nat.reduceAdd, Nat.reduceLeDiff]
  · rw [thJ_f c1]
    simp only [r74_8, r74_11, r74_12, c1, bI_f, true_and, and_true, Option.some.injEq, exists_eq_left', Option.toList_some, Option.toList_none, List.cons_append, List.nil_append, xcat_nil, xcat_int, xcat_ref, xcat_long, not_true, not_false_iff, if_true, if_false, and_self, and_false, false_and, or_true, true_or, or_self, z01, z10, zle8, Nat.reduceAdd, Nat.reduceLeDiff]
/-! a place -/
def mAddP (g : xMem) (E n : Nat) (x y : Int32) : xMem := xsI (xsI (xsI g (E + 2) n x) (E + 3) n y) (E + 1) 2 (nI (n + 1))
theorem gadd_run {t : Bool} (h : okD g E s nl np nb nc nr nh nk) (h6 : np < 10) : zr 44 0 [.ref (E + 1), .int x, .int (bI t)] [] g P = P none (mAddP g E np x (bI t)) := by
  obtain ⟨-, ⟨f4, f5, f6, f7, f8⟩, ⟨f9, f10, f11, f12⟩, -⟩ := h.cf
  have hn := h.2.2.2.1.1
  have e1 : xI (xsI g (E + 2) np x) (E + 1) 2 = nI np := by rw [xI_ne (Or.inl (by omega))]; exact hn
  have e2 : ∀ z, xI (xsI (xsI g (E + 2) np x) (E + 3) np z) (E + 1) 2 = nI np := fun z => by rw [xI_ne (Or.inl (by omega))]; exact e1
  simp (disch := omega) only [r44_0, r44_1, r44_4, r44_5, r44_8, r44_9, r44_10, r44_11, r44_14, r44_15, r44_18, r44_19, r44_20, r44_21, r44_22, r44_25, r44_26, r44_27, r44_30, xIs_sI, xR_sI, xN_sI, f4, f5, f6, f9, f10, f11, f12, hn, e1, e2, vp_nar_bI, xinbT, xixT, leT, leF, ltT, ltF, ngF, psT, n1F, n2F, km2, km3, km4, km5, km10, km15, km25, kl8, kl14, kl24, kl34, kl274, kl354, kl384, kr1, kr2, kr3, kr4, kr5, kr6, kr7, kr8, kr9, kaa, lb0, lb1, lb2, lb3, lb4, lb5, lb6, lb7, li0, li1, li2, li3, li4, li5, li6, li7, true_and, and_true, Option.some.injEq, exists_eq_left', Option.toList_some, Option.toList_none, List.cons_append, List.nil_append, xcat_nil, xcat_int, xcat_ref, xcat_long, not_true, not_false_iff, if_true, if_false, and_self, and_false, false_and, or_true, true_or, or_self, z01, z10, zle8, Nat.reduceAdd, Nat.reduceLeDiff]
  rfl
def cPlace2 (E np : Nat) (nm : Int64) (lay : Int32) (t : Bool) (m : xMem) : Bool × xMem := (true, mAddP (xsJ m 5 np nm) E np lay (bI t))
def cPlace (g : xMem) (E nc np nl : Nat) : Bool × xMem := thJ (cFresh g nc np) fun nm m => thW (cWord m 12) fun m => thI (cWhole m 0 (nI nl - 1)) fun lay m => if cSay m 8 = true then cPlace2 E np nm lay true (nxt m) else cPlace2 E np nm lay false m
theorem readPlace_tail {nm : Int64} {t : Bool} (h : Ca g E s nl np nb nc nr nh nk) (h6 : np < 10) : zr 75 69 [.ref 1, .long nm, .null, .int x, .int (bI t)] [] g P = P (some (.int (bI (cPlace2 E np nm x t g).1))) (cPlace2 E np nm x t g).2 := by
  obtain ⟨h1, h2, h3⟩ := h
  obtain ⟨⟨f1, f2, f3⟩, ⟨f4, -⟩, -⟩ := h2.cf
  obtain ⟨g0, ⟨r0, r1, r2, r3⟩, -, ⟨s0, s1⟩⟩ := h1.1
  have hn := h2.2.2.2.1.1
  have h2' : okD (xsJ g 5 np nm) E s nl np nb nc nr nh nk := h2
  have a0 : xIs (xsJ g 5 np nm) 1 7 := g0
  have a1 : xR (xsJ g 5 np nm) 1 3 = some E := r3
  have a2 : xIs (xsJ g 5 np nm) E 3 := f1
  have a3 : xR (xsJ g 5 np nm) E 0 = some (E + 1) := f2
  have a4 : xIs (xsJ g 5 np nm) (E + 1) 4 := f4
  simp (disch := omega) only [r75_69, r75_70, r75_73, r75_74, r75_77, r75_80, r75_83, r75_84, r75_85, r75_86, r75_89, r75_92, r75_93, r75_95, r75_98, r75_99, g0, r2, r3, f1, f2, f4, hn, s0, s1, a0, a1, a2, a3, a4, gadd_run h2' h6, cPlace2, bI_t, or_true, xinbT, xixT, leT, leF, ltT, ltF, ngF, psT, n1F, n2F, km2, km3, km4, km5, km10, km15, km25, kl8, kl14, kl24, kl34, kl274, kl354, kl384, kr1, kr2, kr3, kr4, kr5, kr6, kr7, kr8, kr9, kaa, lb0, lb1, lb2, lb3, lb4, lb5, lb6, lb7, li0, li1, li2, li3, li4, li5, li6, li7, true_and, and_true, Option.some.injEq, exists_eq_left', Option.toList_some, Option.toList_none, List.cons_append, List.nil_append, xcat_nil, xcat_int, xcat_ref, xcat_long, not_true, not_false_iff, if_true, if_false, and_self, and_false, false_and, or_true, true_or, or_self, z01, z10, zle8, Nat.reduceAdd, Nat.reduceLeDiff]
theorem readPlace_run (h : Ca g E s nl np nb nc nr nh nk) (h6 : np < 10) : zr 75 0 [.ref 1, .null, .null, .null, .null] [] g P = P (some (.int (bI (cPlace g E nc np nl).1))) (cPlace g E nc np nl).2 := by
  have w1 := fun P => readNewName_run (P := P) h.1 h.2.1
  have h1 := h.fresh (n := nc) (m := np)
  unfold cPlace
  generalize cFresh g nc np = a1 at *
  simp only [r75_0, r75_1, r75_4, r75_5, r75_6, r75_7, h.1.1.1, w1, true_and, and_true, Option.some.injEq, exists_eq_left', Option.toList_some, Option.toList_none, List.cons_append, List.nil_append, xcat_nil, xcat_int, xcat_ref, xcat_long, not_true, not_false_iff, if_true, if_false, and_self, and_false, false_and, or_true, true_or, or_self, z01, z10, zle8, Nat.reduceAdd, Nat.reduceLeDiff]
  by_cases c1 : 0 ≤ lg_cmp a1.1 0
  · rw [thJ_t c1]
    have w2 := fun P => readWord_run (P := P) (r := 1000012) (k := 12) rfl (by omega) h1.1
    have h2 := h1.word (k := 12)
    generalize cWord a1.2 12 = a2 at *
    simp only [r75_8, r75_11, r75_12, r75_14, i32_nlt.mpr c1, h1.1.1.1, w2, true_and, and_true, Option.some.injEq, exists_eq_left', Option.toList_some, Option.toList_none, List.cons_append, List.nil_append, xcat_nil, xcat_int, xcat_ref, xcat_long, not_true, not_false_iff, if_true, if_false, and_self, and_false, false_and, or_true, true_or, or_self, z01, z10, zle8, Nat.reduceAdd, Nat.reduceLeDiff]
    by_cases c2 : a2.1 = true
    · rw [thW_t c2]
      have w3 := fun P => readWhole_run (P := P) (lo := 0) (hi := nI nl - 1) h2.1
      have h3 := h2.whole (lo := 0) (hi := nI nl - 1)
      obtain ⟨⟨f1, f2, f3⟩, ⟨f4, -⟩, -⟩ := h2.2.1.cf
      have hn := h2.2.1.2.2.1.1
      generalize cWhole a2.2 0 (nI nl - 1) = a3 at *
      simp only [r75_17, r75_20, r75_21, r75_22, r75_23, r75_24, r75_25, r75_28, r75_31, r75_34, r75_35, r75_36, r75_39, r75_40, c2, bI_t, h2.1.1.1, h2.1.1.2.1.2.2.2, f1, f2, f4, hn, w3, true_and, and_true, Option.some.injEq, exists_eq_left', Option.toList_some, Option.toList_none, List.cons_append, List.nil_append, xcat_nil, xcat_int, xcat_ref, xcat_long, not_true, not_false_iff, if_true, if_false, and_self, and_false, false_and, or_true, true_or, or_self, z01, z10, zle8, Nat.reduceAdd, Nat.reduceLeDiff]
      by_cases c3 : 0 ≤ a3.1
      · rw [thI_t c3]
        obtain ⟨e, a, b, q⟩ := h3.1.2
        have w4 := fun P => says_run (P := P) (r := 1000008) (k := 8) rfl (by omega) q
        simp only [r75_41, r75_44, r75_45, r75_46, r75_47, r75_50, r75_52, r75_55, r75_57, c3, h3.1.1.1, h3.1.1.2.1.1, q.1.1, w4, true_and, and_true, Option.some.injEq, exists_eq_left', Option.toList_some, Option.toList_none, List.cons_append, List.nil_append, xcat_nil, xcat_int, xcat_ref, xcat_long, not_true, not_false_iff, if_true, if_false, and_self, and_false, false_and, or_true, true_or, or_self, z01, z10, zle8, Nat.reduceAdd, Nat.reduceLeDiff]
        by_cases c4 : cSay a3.2 8 = true
        · rw [if_pos c4]
          have t1 := fun P => readPlace_tail (P := P) (nm := a1.1) (x := a3.1) (t := true) h3.nx h6
          simp only [bI_t] at t1
          simp only [r75_59, r75_62, r75_63, r75_66, c4, bI_t, h3.1.1.1, h3.1.1.2.1.1, q.1.1, nxt_run h3.1, t1, true_and, and_true, Option.some.injEq, exists_eq_left', Option.toList_some, Option.toList_none, List.cons_append, List.nil_append, xcat_nil, xcat_int, xcat_ref, xcat_long, not_true, not_false_iff, if_true, if_false, and_self, and_false, false_and, or_true, true_or, or_self, z01, z10, zle8, Nat.reduceAdd, Nat.reduceLeDiff]
        · rw [if_neg c4]
          have t1 := fun P => readPlace_tail (P := P) (nm := a1.1) (x := a3.1) (t := false) h3 h6
          simp only [bI_f] at t1
          simp only [r75_59, r75_62, r75_63, r75_66, Bool.eq_false_iff.mpr c4, bI_f, t1, true_and, and_true, Option.some.injEq, exists_eq_left', Option.toList_some, Option.toList_none, List.cons_append, List.nil_append, xcat_nil, xcat_int, xcat_ref, xcat_long, not_true, not_false_iff, if_true, if_false, and_self, and_false, false_and, or_true, true_or, or_self, z01, z10, zle8, Nat.reduceAdd, Nat.reduceLeDiff]
      · rw [thI_f c3]
        simp only [r75_41, r75_44, r75_45, c3, bI_f, true_and, and_true, Option.some.injEq, exists_eq_left', Option.toList_some, Option.toList_none, List.cons_append, List.nil_append, xcat_nil, xcat_int, xcat_ref, xcat_long, not_true, not_false_iff, if_true, if_false, and_self, and_false, false_and, or_true, true_or, or_self, z01, z10, zle8, Nat.reduceAdd, Nat.reduceLeDiff]
    · rw [thW_f c2]
      simp only [r75_17, r75_20, r75_21, Bool.eq_false_iff.mpr c2, bI_f, true_and, and_true, Option.some.injEq, exists_eq_left', Option.toList_some, Option.toList_none, List.cons_append, List.nil_append, xcat_nil, xcat_int, xcat_ref, xcat_long, not_true, not_false_iff, if_true, if_false, and_self, and_false, false_and, or_true, true_or, or_self, z01, z10, zle8, Nat.reduceAdd, Nat.reduceLeDiff]
  · rw [thJ_f c1]
    simp only [r75_8, r75_11, r75_12, r75_14, r75_17, r75_20, r75_21, i32_nle.mp c1, bI_f, true_and, and_true, Option.some.injEq, exists_eq_left', Option.toList_some, Option.toList_none, List.cons_append, List.nil_append, xcat_nil, xcat_int, xcat_ref, xcat_long, not_true, not_false_iff, if_true, if_false, and_self, and_false, false_and, or_true, true_or, or_self, z01, z10, zle8, Nat.reduceAdd, Nat.reduceLeDiff]
/-! a rate, a holiday, a cap -/
def mAddR (g : xMem) (b n : Nat) (p c d v : Int32) : xMem := xsI (xsI (xsI (xsI (xsI g (b + 1) n p) (b + 2) n c) (b + 3) n d) (b + 4) n v) b 0 (nI (n + 1))
theorem radd_run (h : sRt g b) (hn : xI g b 0 = nI n) (h6 : n < 20) : zr 65 0 [.ref b, .int p, .int c, .int d, .int x] [] g P = P none (mAddR g b n p c d x) := by
  obtain ⟨i0, ⟨e1, e2, e3, e4⟩, ⟨i1, n1⟩, ⟨i2, n2⟩, ⟨i3, n3⟩, ⟨i4, n4⟩⟩ := h
  have m1 : ∀ z, xI (xsI g (b + 1) n z) b 0 = nI n := fun z => by rw [xI_ne (Or.inl (by omega))]; exact hn
  have m2 : ∀ z z', xI (xsI (xsI g (b + 1) n z) (b + 2) n z') b 0 = nI n := fun z z' => by rw [xI_ne (Or.inl (by omega))]; exact m1 z
  have m3 : ∀ z z' z'', xI (xsI (xsI (xsI g (b + 1) n z) (b + 2) n z') (b + 3) n z'') b 0 = nI n := fun z z' z'' => by rw [xI_ne (Or.inl (by omega))]; exact m2 z z'
  have m4 : ∀ z z' z'' y, xI (xsI (xsI (xsI (xsI g (b + 1) n z) (b + 2) n z') (b + 3) n z'') (b + 4) n y) b 0 = nI n := fun z z' z'' y => by rw [xI_ne (Or.inl (by omega))]; exact m3 z z' z''
  simp (disch := omega) only [r65_0, r65_1, r65_4, r65_5, r65_8, r65_9, r65_10, r65_11, r65_14, r65_15, r65_18, r65_19, r65_20, r65_21, r65_24, r65_25, r65_28, r65_29, r65_30, r65_31, r65_34, r65_35, r65_38, r65_40, r65_41, r65_42, r65_43, r65_46, r65_47, r65_48, r65_51, xIs_sI, xR_sI, xN_sI, i0, e1, e2, e3, e4, i1, n1, i2, n2, i3, n3, i4, n4, hn, m1, m2, m3, m4, xinbT, xixT, leT, leF, ltT, ltF, ngF, psT, n1F, n2F, km2, km3, km4, km5, km10, km15, km25, kl8, kl14, kl24, kl34, kl274, kl354, kl384, kr1, kr2, kr3, kr4, kr5, kr6, kr7, kr8, kr9, kaa, lb0, lb1, lb2, lb3, lb4, lb5, lb6, lb7, li0, li1, li2, li3, li4, li5, li6, li7, true_and, and_true, Option.some.injEq, exists_eq_left', Option.toList_some, Option.toList_none, List.cons_append, List.nil_append, xcat_nil, xcat_int, xcat_ref, xcat_long, not_true, not_false_iff, if_true, if_false, and_self, and_false, false_and, or_true, true_or, or_self, z01, z10, zle8, Nat.reduceAdd, Nat.reduceLeDiff]
  rfl
def cRate (g : xMem) (E nc np nr : Nat) : Bool × xMem := thI (cName g 5 np) fun p m => thI (cName m 4 nc) fun c m => thI (cWhole m (fRn (xI m (E + 15)) (xI m (E + 16)) (xI m (E + 17)) p c nr) 999) fun d m => thI (cWhole m 0 2500) fun v m => (true, mAddR m (E + 14) nr p c d v)
theorem readRate_run (h : Ca g E s nl np nb nc nr nh nk) (h6 : nr < 20) : zr 78 0 [.ref 1, .null, .null, .null, .null, .null] [] g P = P (some (.int (bI (cRate g E nc np nr).1))) (cRate g E nc np nr).2 := by
  have hb := h.2.1.b
  obtain ⟨⟨f1, f2, f3⟩, ⟨f4, -⟩, -, -, -, ⟨f23, f24, f25, -⟩, f28, -⟩ := h.2.1.cf
  have w1 := fun P => readName_run (P := P) (n := np) h.1 h.1.1.2.2.2 (by omega) hb.2.2.1
  have h1 := h.name (A := 5) (n := np)
  have hnp := h.2.1.2.2.2.1.1
  unfold cRate
  generalize cName g 5 np = a1 at *
  simp only [r78_0, r78_1, r78_4, r78_7, r78_10, r78_11, r78_12, r78_13, r78_16, r78_17, r78_20, r78_23, r78_26, r78_29, r78_30, h.1.1.1, h.1.1.2.1.2.2.1, h.1.1.2.1.2.2.2, f1, f2, f3, f4, f23, f25, hnp, w1, true_and, and_true, Option.some.injEq, exists_eq_left', Option.toList_some, Option.toList_none, List.cons_append, List.nil_append, xcat_nil, xcat_int, xcat_ref, xcat_long, not_true, not_false_iff, if_true, if_false, and_self, and_false, false_and, or_true, true_or, or_self, z01, z10, zle8, Nat.reduceAdd, Nat.reduceLeDiff]
  by_cases c1 : 0 ≤ a1.1
  · rw [thI_t c1]
    obtain ⟨⟨f1, f2, f3⟩, ⟨f4, -⟩, -, -, -, ⟨f23, f24, f25, -⟩, f28, -⟩ := h1.2.1.cf
    have w2 := fun P => readName_run (P := P) (n := nc) h1.1 h1.1.1.2.2.1 (by omega) hb.2.2.2.2.1
    have h2 := h1.name (A := 4) (n := nc)
    have hnc := h1.2.1.2.2.2.2.2.1.1
    generalize cName a1.2 4 nc = a2 at *
    simp only [r78_31, r78_34, r78_35, r78_38, r78_39, r78_40, r78_43, r78_44, r78_47, r78_50, r78_53, r78_56, r78_57, c1, h1.1.1.1, h1.1.1.2.1.2.1, h1.1.1.2.1.2.2.2, f1, f3, f23, hnc, w2, true_and, and_true, Option.some.injEq, exists_eq_left', Option.toList_some, Option.toList_none, List.cons_append, List.nil_append, xcat_nil, xcat_int, xcat_ref, xcat_long, not_true, not_false_iff, if_true, if_false, and_self, and_false, false_and, or_true, true_or, or_self, z01, z10, zle8, Nat.reduceAdd, Nat.reduceLeDiff]
    by_cases c2 : 0 ≤ a2.1
    · rw [thI_t c2]
      have hr := h2.2.1.tf.2.2.2.1
      have hrn := h2.2.1.2.2.2.2.2.2.1.1
      have w3 := fun P => rnextFree_run (P := P) (p := a1.1) (c := a2.1) hr hrn hb.2.2.2.2.2.1
      have w4 := fun lo P => readWhole_run (P := P) (lo := lo) (hi := 999) h2.1
      have e0 : fRn (xI a2.2 (E + 12 + 2 + 1)) (xI a2.2 (E + 12 + 2 + 2)) (xI a2.2 (E + 12 + 2 + 3)) a1.1 a2.1 nr = fRn (xI a2.2 (E + 15)) (xI a2.2 (E + 16)) (xI a2.2 (E + 17)) a1.1 a2.1 nr := rfl
      rw [e0] at w3
      have w3 : ∀ P, zr 64 0 [.ref (E + 14), .int a1.1, .int a2.1, .null] [] a2.2 P = P (some (.int (fRn (xI a2.2 (E + 15)) (xI a2.2 (E + 16)) (xI a2.2 (E + 17)) a1.1 a2.1 nr))) a2.2 := w3
      have h28 : xIs a2.2 (E + 14) 6 := hr.1
      generalize fRn (xI a2.2 (E + 15)) (xI a2.2 (E + 16)) (xI a2.2 (E + 17)) a1.1 a2.1 nr = lo at *
      have w4 := w4 lo
      have h3 := h2.whole (lo := lo) (hi := 999)
      generalize cWhole a2.2 lo 999 = a3 at *
      simp only [r78_58, r78_61, r78_62, r78_63, r78_64, r78_65, r78_66, r78_67, r78_70, r78_73, r78_76, r78_78, c2, h28, w3, h2.1.1.1, w4, true_and, and_true, Option.some.injEq, exists_eq_left', Option.toList_some, Option.toList_none, List.cons_append, List.nil_append, xcat_nil, xcat_int, xcat_ref, xcat_long, not_true, not_false_iff, if_true, if_false, and_self, and_false, false_and, or_true, true_or, or_self, z01, z10, zle8, Nat.reduceAdd, Nat.reduceLeDiff]
      by_cases c3 : 0 ≤ a3.1
      · rw [thI_t c3]
        have w5 := fun P => readWhole_run (P := P) (lo := 0) (hi := 2500) h3.1
        have h4 := h3.whole (lo := 0) (hi := 2500)
        generalize cWhole a3.2 0 2500 = a4 at *
        simp only [r78_80, r78_83, r78_84, r78_87, r78_88, r78_89, r78_92, r78_95, r78_97, c3, h3.1.1.1, w5, true_and, and_true, Option.some.injEq, exists_eq_left', Option.toList_some, Option.toList_none, List.cons_append, List.nil_append, xcat_nil, xcat_int, xcat_ref, xcat_long, not_true, not_false_iff, if_true, if_false, and_self, and_false, false_and, or_true, true_or, or_self, z01, z10, zle8, Nat.reduceAdd, Nat.reduceLeDiff]
        by_cases c4 : 0 ≤ a4.1
        · rw [thI_t c4]
          have hr := h4.2.1.tf.2.2.2.1
          have hrn := h4.2.1.2.2.2.2.2.2.1.1
          have w6 : ∀ P, zr 65 0 [.ref (E + 14), .int a1.1, .int a2.1, .int a3.1, .int a4.1] [] a4.2 P = P none (mAddR a4.2 (E + 14) nr a1.1 a2.1 a3.1 a4.1) := fun P => radd_run hr hrn h6
          have h28 : xIs a4.2 (E + 14) 6 := hr.1
          simp only [r78_99, r78_102, r78_103, r78_104, r78_105, r78_106, r78_107, r78_109, r78_111, r78_114, r78_115, c4, h28, w6, bI_t, or_true, true_and, and_true, Option.some.injEq, exists_eq_left', Option.toList_some, Option.toList_none, List.cons_append, List.nil_append, xcat_nil, xcat_int, xcat_ref, xcat_long, not_true, not_false_iff, if_true, if_false, and_self, and_false, false_and, or_true, true_or, or_self, z01, z10, zle8, Nat.reduceAdd, Nat.reduceLeDiff]
        · rw [thI_f c4]
          simp only [r78_99, r78_102, r78_103, c4, bI_f, true_and, and_true, Option.some.injEq, exists_eq_left', Option.toList_some, Option.toList_none, List.cons_append, List.nil_append, xcat_nil, xcat_int, xcat_ref, xcat_long, not_true, not_false_iff, if_true, if_false, and_self, and_false, false_and, or_true, true_or, or_self, z01, z10, zle8, Nat.reduceAdd, Nat.reduceLeDiff]
      · rw [thI_f c3]
        simp only [r78_80, r78_83, r78_84, r78_95, r78_97, r78_99, r78_102, r78_103, c3, show ¬ (0 : Int32) ≤ -1 by decide, bI_f, true_and, and_true, Option.some.injEq, exists_eq_left', Option.toList_some, Option.toList_none, List.cons_append, List.nil_append, xcat_nil, xcat_int, xcat_ref, xcat_long, not_true, not_false_iff, if_true, if_false, and_self, and_false, false_and, or_true, true_or, or_self, z01, z10, zle8, Nat.reduceAdd, Nat.reduceLeDiff]
    · rw [thI_f c2]
      simp only [r78_58, r78_61, r78_62, c2, bI_f, true_and, and_true, Option.some.injEq, exists_eq_left', Option.toList_some, Option.toList_none, List.cons_append, List.nil_append, xcat_nil, xcat_int, xcat_ref, xcat_long, not_true, not_false_iff, if_true, if_false, and_self, and_false, false_and, or_true, true_or, or_self, z01, z10, zle8, Nat.reduceAdd, Nat.reduceLeDiff]
  · rw [thI_f c1]
    simp only [r78_31, r78_34, r78_35, r78_56, r78_57, r78_58, r78_61, r78_62, c1, show ¬ (0 : Int32) ≤ -1 by decide, bI_f, true_and, and_true, Option.some.injEq, exists_eq_left', Option.toList_some, Option.toList_none, List.cons_append, List.nil_append, xcat_nil, xcat_int, xcat_ref, xcat_long, not_true, not_false_iff, if_true, if_false, and_self, and_false, false_and, or_true, true_or, or_self, z01, z10, zle8, Nat.reduceAdd, Nat.reduceLeDiff]
def mAddH (g : xMem) (b n : Nat) (p c d x y : Int32) : xMem := xsI (xsI (xsI (xsI (xsI (xsI g (b + 7) n p) (b + 8) n c) (b + 9) n d) (b + 10) n x) (b + 11) n y) b 3 (nI (n + 1))
theorem hadd_run (h : sTf g b) (hn : xI g b 3 = nI n) (h6 : n < 6) : zr 97 0 [.ref b, .int p, .int c, .int d, .int x, .int y] [] g P = P none (mAddH g b n p c d x y) := by
  obtain ⟨i0, ⟨-, -, e1, e2, e3, e4, e5, -⟩, -, -, ⟨i1, n1⟩, ⟨i2, n2⟩, ⟨i3, n3⟩, ⟨i4, n4⟩, ⟨i5, n5⟩, -⟩ := h
  have m1 : ∀ z, xI (xsI g (b + 7) n z) b 3 = nI n := fun z => by rw [xI_ne (Or.inl (by omega))]; exact hn
  have m2 : ∀ z z', xI (xsI (xsI g (b + 7) n z) (b + 8) n z') b 3 = nI n := fun z z' => by rw [xI_ne (Or.inl (by omega))]; exact m1 z
  have m3 : ∀ z z' z'', xI (xsI (xsI (xsI g (b + 7) n z) (b + 8) n z') (b + 9) n z'') b 3 = nI n := fun z z' z'' => by rw [xI_ne (Or.inl (by omega))]; exact m2 z z'
  have m4 : ∀ z z' z'' y, xI (xsI (xsI (xsI (xsI g (b + 7) n z) (b + 8) n z') (b + 9) n z'') (b + 10) n y) b 3 = nI n := fun z z' z'' y => by rw [xI_ne (Or.inl (by omega))]; exact m3 z z' z''
  have m5 : ∀ z z' z'' y y', xI (xsI (xsI (xsI (xsI (xsI g (b + 7) n z) (b + 8) n z') (b + 9) n z'') (b + 10) n y) (b + 11) n y') b 3 = nI n := fun z z' z'' y y' => by rw [xI_ne (Or.inl (by omega))]; exact m4 z z' z'' y
  simp (disch := omega) only [r97_0, r97_1, r97_4, r97_5, r97_8, r97_9, r97_10, r97_11, r97_14, r97_15, r97_18, r97_19, r97_20, r97_21, r97_24, r97_25, r97_28, r97_29, r97_30, r97_31, r97_34, r97_35, r97_38, r97_40, r97_41, r97_42, r97_45, r97_46, r97_49, r97_51, r97_52, r97_53, r97_54, r97_57, r97_58, r97_59, r97_62, xIs_sI, xR_sI, xN_sI, i0, e1, e2, e3, e4, e5, i1, n1, i2, n2, i3, n3, i4, n4, i5, n5, hn, m1, m2, m3, m4, m5, xinbT, xixT, leT, leF, ltT, ltF, ngF, psT, n1F, n2F, km2, km3, km4, km5, km10, km15, km25, kl8, kl14, kl24, kl34, kl274, kl354, kl384, kr1, kr2, kr3, kr4, kr5, kr6, kr7, kr8, kr9, kaa, lb0, lb1, lb2, lb3, lb4, lb5, lb6, lb7, li0, li1, li2, li3, li4, li5, li6, li7, true_and, and_true, Option.some.injEq, exists_eq_left', Option.toList_some, Option.toList_none, List.cons_append, List.nil_append, xcat_nil, xcat_int, xcat_ref, xcat_long, not_true, not_false_iff, if_true, if_false, and_self, and_false, false_and, or_true, true_or, or_self, z01, z10, zle8, Nat.reduceAdd, Nat.reduceLeDiff]
  rfl
def mAddK (g : xMem) (b n : Nat) (p c x : Int32) : xMem := xsI (xsI (xsI (xsI g (b + 12) n p) (b + 13) n c) (b + 14) n x) b 9 (nI (n + 1))
theorem kadd_run (h : sTf g b) (hn : xI g b 9 = nI n) (h6 : n < 6) : zr 98 0 [.ref b, .int p, .int c, .int x] [] g P = P none (mAddK g b n p c x) := by
  obtain ⟨i0, ⟨-, -, -, -, -, -, -, e1, e2, e3⟩, -, -, -, -, -, -, -, ⟨i1, n1⟩, ⟨i2, n2⟩, ⟨i3, n3⟩⟩ := h
  have m1 : ∀ z, xI (xsI g (b + 12) n z) b 9 = nI n := fun z => by rw [xI_ne (Or.inl (by omega))]; exact hn
  have m2 : ∀ z z', xI (xsI (xsI g (b + 12) n z) (b + 13) n z') b 9 = nI n := fun z z' => by rw [xI_ne (Or.inl (by omega))]; exact m1 z
  have m3 : ∀ z z' z'', xI (xsI (xsI (xsI g (b + 12) n z) (b + 13) n z') (b + 14) n z'') b 9 = nI n := fun z z' z'' => by rw [xI_ne (Or.inl (by omega))]; exact m2 z z'
  simp (disch := omega) only [r98_0, r98_1, r98_4, r98_5, r98_8, r98_9, r98_10, r98_11, r98_14, r98_15, r98_18, r98_19, r98_20, r98_21, r98_24, r98_25, r98_28, r98_29, r98_30, r98_31, r98_32, r98_35, r98_36, r98_37, r98_40, xIs_sI, xR_sI, xN_sI, i0, e1, e2, e3, i1, n1, i2, n2, i3, n3, hn, m1, m2, m3, xinbT, xixT, leT, leF, ltT, ltF, ngF, psT, n1F, n2F, km2, km3, km4, km5, km10, km15, km25, kl8, kl14, kl24, kl34, kl274, kl354, kl384, kr1, kr2, kr3, kr4, kr5, kr6, kr7, kr8, kr9, kaa, lb0, lb1, lb2, lb3, lb4, lb5, lb6, lb7, li0, li1, li2, li3, li4, li5, li6, li7, true_and, and_true, Option.some.injEq, exists_eq_left', Option.toList_some, Option.toList_none, List.cons_append, List.nil_append, xcat_nil, xcat_int, xcat_ref, xcat_long, not_true, not_false_iff, if_true, if_false, and_self, and_false, false_and, or_true, true_or, or_self, z01, z10, zle8, Nat.reduceAdd, Nat.reduceLeDiff]
  rfl
def cHol (g : xMem) (E nc np nh : Nat) : Bool × xMem := thI (cName g 5 np) fun p m => thI (cName m 4 nc) fun c m => thI (cWhole m 0 999) fun d m => thI (cWhole m d 999) fun d2 m => thW (cWord m 13) fun m => thI (cWhole m 1 9999) fun v m => (true, mAddH m (E + 12) nh p c d d2 v)
theorem readHol_run (h : Ca g E s nl np nb nc nr nh nk) (h6 : nh < 6) : zr 79 0 [.ref 1, .null, .null, .null, .null, .null] [] g P = P (some (.int (bI (cHol g E nc np nh).1))) (cHol g E nc np nh).2 := by
  have hb := h.2.1.b
  obtain ⟨⟨f1, f2, f3⟩, ⟨f4, -⟩, -⟩ := h.2.1.cf
  have w1 := fun P => readName_run (P := P) (n := np) h.1 h.1.1.2.2.2 (by omega) hb.2.2.1
  have h1 := h.name (A := 5) (n := np)
  have hnp := h.2.1.2.2.2.1.1
  unfold cHol
  generalize cName g 5 np = a1 at *
  simp only [r79_0, r79_1, r79_2, r79_5, r79_6, r79_9, r79_12, r79_15, r79_18, r79_19, h.1.1.1, h.1.1.2.1.2.2.1, h.1.1.2.1.2.2.2, f1, f2, f4, hnp, w1, true_and, and_true, Option.some.injEq, exists_eq_left', Option.toList_some, Option.toList_none, List.cons_append, List.nil_append, xcat_nil, xcat_int, xcat_ref, xcat_long, not_true, not_false_iff, if_true, if_false, and_self, and_false, false_and, or_true, true_or, or_self, z01, z10, zle8, Nat.reduceAdd, Nat.reduceLeDiff]
  by_cases c1 : 0 ≤ a1.1
  · rw [thI_t c1]
    obtain ⟨⟨f1, f2, f3⟩, -, -, -, -, ⟨f23, -⟩, -⟩ := h1.2.1.cf
    have w2 := fun P => readName_run (P := P) (n := nc) h1.1 h1.1.1.2.2.1 (by omega) hb.2.2.2.2.1
    have h2 := h1.name (A := 4) (n := nc)
    have hnc := h1.2.1.2.2.2.2.2.1.1
    generalize cName a1.2 4 nc = a2 at *
    simp only [r79_20, r79_23, r79_24, r79_27, r79_28, r79_29, r79_32, r79_33, r79_36, r79_39, r79_42, r79_45, r79_46, c1, h1.1.1.1, h1.1.1.2.1.2.1, h1.1.1.2.1.2.2.2, f1, f3, f23, hnc, w2, true_and, and_true, Option.some.injEq, exists_eq_left', Option.toList_some, Option.toList_none, List.cons_append, List.nil_append, xcat_nil, xcat_int, xcat_ref, xcat_long, not_true, not_false_iff, if_true, if_false, and_self, and_false, false_and, or_true, true_or, or_self, z01, z10, zle8, Nat.reduceAdd, Nat.reduceLeDiff]
    by_cases c2 : 0 ≤ a2.1
    · rw [thI_t c2]
      have w3 := fun P => readWhole_run (P := P) (lo := 0) (hi := 999) h2.1
      have h3 := h2.whole (lo := 0) (hi := 999)
      generalize cWhole a2.2 0 999 = a3 at *
      simp only [r79_47, r79_50, r79_51, r79_52, r79_53, r79_54, r79_57, r79_60, r79_61, c2, h2.1.1.1, w3, true_and, and_true, Option.some.injEq, exists_eq_left', Option.toList_some, Option.toList_none, List.cons_append, List.nil_append, xcat_nil, xcat_int, xcat_ref, xcat_long, not_true, not_false_iff, if_true, if_false, and_self, and_false, false_and, or_true, true_or, or_self, z01, z10, zle8, Nat.reduceAdd, Nat.reduceLeDiff]
      by_cases c3 : 0 ≤ a3.1
      · rw [thI_t c3]
        have w4 := fun P => readWhole_run (P := P) (lo := a3.1) (hi := 999) h3.1
        have h4 := h3.whole (lo := a3.1) (hi := 999)
        generalize cWhole a3.2 a3.1 999 = a4 at *
        simp only [r79_62, r79_65, r79_66, r79_69, r79_70, r79_71, r79_74, r79_77, r79_79, c3, h3.1.1.1, w4, true_and, and_true, Option.some.injEq, exists_eq_left', Option.toList_some, Option.toList_none, List.cons_append, List.nil_append, xcat_nil, xcat_int, xcat_ref, xcat_long, not_true, not_false_iff, if_true, if_false, and_self, and_false, false_and, or_true, true_or, or_self, z01, z10, zle8, Nat.reduceAdd, Nat.reduceLeDiff]
        by_cases c4 : 0 ≤ a4.1
        · rw [thI_t c4]
          have w5 := fun P => readWord_run (P := P) (r := 1000013) (k := 13) rfl (by omega) h4.1
          have h5 := h4.word (k := 13)
          generalize cWord a4.2 13 = a5 at *
          simp only [r79_81, r79_84, r79_85, r79_87, i32_nlt.mpr c4, h4.1.1.1, w5, true_and, and_true, Option.some.injEq, exists_eq_left', Option.toList_some, Option.toList_none, List.cons_append, List.nil_append, xcat_nil, xcat_int, xcat_ref, xcat_long, not_true, not_false_iff, if_true, if_false, and_self, and_false, false_and, or_true, true_or, or_self, z01, z10, zle8, Nat.reduceAdd, Nat.reduceLeDiff]
          by_cases c5 : a5.1 = true
          · rw [thW_t c5]
            have w6 := fun P => readWhole_run (P := P) (lo := 1) (hi := 9999) h5.1
            have h6' := h5.whole (lo := 1) (hi := 9999)
            generalize cWhole a5.2 1 9999 = a6 at *
            simp only [r79_90, r79_93, r79_94, r79_95, r79_96, r79_97, r79_100, r79_103, r79_105, c5, bI_t, h5.1.1.1, w6, true_and, and_true, Option.some.injEq, exists_eq_left', Option.toList_some, Option.toList_none, List.cons_append, List.nil_append, xcat_nil, xcat_int, xcat_ref, xcat_long, not_true, not_false_iff, if_true, if_false, and_self, and_false, false_and, or_true, true_or, or_self, z01, z10, zle8, Nat.reduceAdd, Nat.reduceLeDiff]
            by_cases c6 : 0 ≤ a6.1
            · rw [thI_t c6]
              obtain ⟨⟨f1, f2, f3⟩, -, -, -, -, ⟨f23, -⟩, -⟩ := h6'.2.1.cf
              have w7 := fun P => hadd_run (P := P) (p := a1.1) (c := a2.1) (d := a3.1) (x := a4.1) (y := a6.1) h6'.2.1.tf h6'.2.1.2.2.2.2.2.2.2.1.1 h6
              simp only [r79_107, r79_110, r79_111, r79_112, r79_113, r79_116, r79_119, r79_120, r79_121, r79_122, r79_124, r79_126, r79_129, r79_130, c6, h6'.1.1.1, h6'.1.1.2.1.2.2.2, f1, f3, f23, w7, bI_t, or_true, true_and, and_true, Option.some.injEq, exists_eq_left', Option.toList_some, Option.toList_none, List.cons_append, List.nil_append, xcat_nil, xcat_int, xcat_ref, xcat_long, not_true, not_false_iff, if_true, if_false, and_self, and_false, false_and, or_true, true_or, or_self, z01, z10, zle8, Nat.reduceAdd, Nat.reduceLeDiff]
            · rw [thI_f c6]
              simp only [r79_107, r79_110, r79_111, c6, bI_f, true_and, and_true, Option.some.injEq, exists_eq_left', Option.toList_some, Option.toList_none, List.cons_append, List.nil_append, xcat_nil, xcat_int, xcat_ref, xcat_long, not_true, not_false_iff, if_true, if_false, and_self, and_false, false_and, or_true, true_or, or_self, z01, z10, zle8, Nat.reduceAdd, Nat.reduceLeDiff]
          · rw [thW_f c5]
            simp only [r79_90, r79_93, r79_94, Bool.eq_false_iff.mpr c5, bI_f, true_and, and_true, Option.some.injEq, exists_eq_left', Option.toList_some, Option.toList_none, List.cons_append, List.nil_append, xcat_nil, xcat_int, xcat_ref, xcat_long, not_true, not_false_iff, if_true, if_false, and_self, and_false, false_and, or_true, true_or, or_self, z01, z10, zle8, Nat.reduceAdd, Nat.reduceLeDiff]
        · rw [thI_f c4]
          simp only [r79_81, r79_84, r79_85, r79_87, r79_90, r79_93, r79_94, i32_nle.mp c4, bI_f, true_and, and_true, Option.some.injEq, exists_eq_left', Option.toList_some, Option.toList_none, List.cons_append, List.nil_append, xcat_nil, xcat_int, xcat_ref, xcat_long, not_true, not_false_iff, if_true, if_false, and_self, and_false, false_and, or_true, true_or, or_self, z01, z10, zle8, Nat.reduceAdd, Nat.reduceLeDiff]
      · rw [thI_f c3]
        simp only [r79_62, r79_65, r79_66, r79_77, r79_79, r79_81, r79_84, r79_85, r79_87, r79_90, r79_93, r79_94, c3, show (-1 : Int32) < 0 by decide, bI_f, true_and, and_true, Option.some.injEq, exists_eq_left', Option.toList_some, Option.toList_none, List.cons_append, List.nil_append, xcat_nil, xcat_int, xcat_ref, xcat_long, not_true, not_false_iff, if_true, if_false, and_self, and_false, false_and, or_true, true_or, or_self, z01, z10, zle8, Nat.reduceAdd, Nat.reduceLeDiff]
    · rw [thI_f c2]
      simp only [r79_47, r79_50, r79_51, c2, bI_f, true_and, and_true, Option.some.injEq, exists_eq_left', Option.toList_some, Option.toList_none, List.cons_append, List.nil_append, xcat_nil, xcat_int, xcat_ref, xcat_long, not_true, not_false_iff, if_true, if_false, and_self, and_false, false_and, or_true, true_or, or_self, z01, z10, zle8, Nat.reduceAdd, Nat.reduceLeDiff]
  · rw [thI_f c1]
    simp only [r79_20, r79_23, r79_24, r79_45, r79_46, r79_47, r79_50, r79_51, c1, show ¬ (0 : Int32) ≤ -1 by decide, bI_f, true_and, and_true, Option.some.injEq, exists_eq_left', Option.toList_some, Option.toList_none, List.cons_append, List.nil_append, xcat_nil, xcat_int, xcat_ref, xcat_long, not_true, not_false_iff, if_true, if_false, and_self, and_false, false_and, or_true, true_or, or_self, z01, z10, zle8, Nat.reduceAdd, Nat.reduceLeDiff]
def cCap (g : xMem) (E nc np nk : Nat) : Bool × xMem := thI (cName g 5 np) fun p m1 => thI (cName m1 4 nc) fun c m => if 0 ≤ fCt (xI m (E + 24)) (xI m (E + 25)) p c nk 0 then (false, fail m 3 (xI m1 2 3)) else thI (cWhole m 1 9999) fun v m => (true, mAddK m (E + 12) nk p c v)
theorem readCap_run (h : Ca g E s nl np nb nc nr nh nk) (h6 : nk < 6) : zr 80 0 [.ref 1, .null, .null, .null, .null] [] g P = P (some (.int (bI (cCap g E nc np nk).1))) (cCap g E nc np nk).2 := by
  have hb := h.2.1.b
  obtain ⟨⟨f1, f2, f3⟩, ⟨f4, -⟩, -⟩ := h.2.1.cf
  have w1 := fun P => readName_run (P := P) (n := np) h.1 h.1.1.2.2.2 (by omega) hb.2.2.1
  have h1 := h.name (A := 5) (n := np)
  have hnp := h.2.1.2.2.2.1.1
  unfold cCap
  generalize cName g 5 np = a1 at *
  obtain ⟨e, a, b, q⟩ := h1.1.2
  simp only [r80_0, r80_1, r80_2, r80_5, r80_6, r80_9, r80_12, r80_15, r80_18, r80_19, r80_20, r80_23, r80_26, r80_27, h.1.1.1, h.1.1.2.1.2.2.1, h.1.1.2.1.2.2.2, f1, f2, f4, hnp, w1, h1.1.1.1, h1.1.1.2.1.1, q.1.1, true_and, and_true, Option.some.injEq, exists_eq_left', Option.toList_some, Option.toList_none, List.cons_append, List.nil_append, xcat_nil, xcat_int, xcat_ref, xcat_long, not_true, not_false_iff, if_true, if_false, and_self, and_false, false_and, or_true, true_or, or_self, z01, z10, zle8, Nat.reduceAdd, Nat.reduceLeDiff]
  by_cases c1 : 0 ≤ a1.1
  · rw [thI_t c1]
    obtain ⟨⟨f1, f2, f3⟩, -, -, -, -, ⟨f23, -⟩, -⟩ := h1.2.1.cf
    have w2 := fun P => readName_run (P := P) (n := nc) h1.1 h1.1.1.2.2.1 (by omega) hb.2.2.2.2.1
    have h2 := h1.name (A := 4) (n := nc)
    have hnc := h1.2.1.2.2.2.2.2.1.1
    generalize cName a1.2 4 nc = a2 at *
    simp only [r80_28, r80_31, r80_32, r80_35, r80_36, r80_37, r80_40, r80_41, r80_44, r80_47, r80_50, r80_53, r80_54, c1, h1.1.1.1, h1.1.1.2.1.2.1, h1.1.1.2.1.2.2.2, f1, f3, f23, hnc, w2, true_and, and_true, Option.some.injEq, exists_eq_left', Option.toList_some, Option.toList_none, List.cons_append, List.nil_append, xcat_nil, xcat_int, xcat_ref, xcat_long, not_true, not_false_iff, if_true, if_false, and_self, and_false, false_and, or_true, true_or, or_self, z01, z10, zle8, Nat.reduceAdd, Nat.reduceLeDiff]
    by_cases c2 : 0 ≤ a2.1
    · rw [thI_t c2]
      obtain ⟨⟨f1, f2, f3⟩, -, -, -, -, ⟨f23, -⟩, -⟩ := h2.2.1.cf
      have w3 : ∀ P, zr 103 0 [.ref (E + 12), .int a1.1, .int a2.1, .null] [] a2.2 P = P (some (.int (fCt (xI a2.2 (E + 24)) (xI a2.2 (E + 25)) a1.1 a2.1 nk 0))) a2.2 := fun P => capTold_run h2.2.1.tf h2.2.1.2.2.2.2.2.2.2.2.1.1 hb.2.2.2.2.2.2.2
      simp only [r80_55, r80_58, r80_59, r80_60, r80_61, r80_64, r80_67, r80_68, r80_69, c2, h2.1.1.1, h2.1.1.2.1.2.2.2, f1, f3, f23, w3, true_and, and_true, Option.some.injEq, exists_eq_left', Option.toList_some, Option.toList_none, List.cons_append, List.nil_append, xcat_nil, xcat_int, xcat_ref, xcat_long, not_true, not_false_iff, if_true, if_false, and_self, and_false, false_and, or_true, true_or, or_self, z01, z10, zle8, Nat.reduceAdd, Nat.reduceLeDiff]
      by_cases c3 : 0 ≤ fCt (xI a2.2 (E + 24)) (xI a2.2 (E + 25)) a1.1 a2.1 nk 0
      · simp only [r80_72, r80_75, r80_76, r80_77, r80_78, r80_81, c3, i32_nlt.mpr c3, h2.1.1.1, failsAt_run h2.1, bI_f, true_and, and_true, Option.some.injEq, exists_eq_left', Option.toList_some, Option.toList_none, List.cons_append, List.nil_append, xcat_nil, xcat_int, xcat_ref, xcat_long, not_true, not_false_iff, if_true, if_false, and_self, and_false, false_and, or_true, true_or, or_self, z01, z10, zle8, Nat.reduceAdd, Nat.reduceLeDiff]
      · have w4 := fun P => readWhole_run (P := P) (lo := 1) (hi := 9999) h2.1
        have h3 := h2.whole (lo := 1) (hi := 9999)
        generalize cWhole a2.2 1 9999 = a3 at *
        simp only [r80_72, r80_75, r80_76, r80_77, r80_78, r80_81, r80_82, r80_83, r80_84, r80_87, r80_90, r80_92, c3, i32_nle.mp c3, h2.1.1.1, w4, true_and, and_true, Option.some.injEq, exists_eq_left', Option.toList_some, Option.toList_none, List.cons_append, List.nil_append, xcat_nil, xcat_int, xcat_ref, xcat_long, not_true, not_false_iff, if_true, if_false, and_self, and_false, false_and, or_true, true_or, or_self, z01, z10, zle8, Nat.reduceAdd, Nat.reduceLeDiff]
        by_cases c4 : 0 ≤ a3.1
        · rw [thI_t c4]
          obtain ⟨⟨f1, f2, f3⟩, -, -, -, -, ⟨f23, -⟩, -⟩ := h3.2.1.cf
          have w5 := fun P => kadd_run (P := P) (p := a1.1) (c := a2.1) (x := a3.1) h3.2.1.tf h3.2.1.2.2.2.2.2.2.2.2.1.1 h6
          simp only [r80_94, r80_97, r80_98, r80_99, r80_100, r80_103, r80_106, r80_107, r80_108, r80_110, r80_113, r80_114, c4, h3.1.1.1, h3.1.1.2.1.2.2.2, f1, f3, f23, w5, bI_t, or_true, true_and, and_true, Option.some.injEq, exists_eq_left', Option.toList_some, Option.toList_none, List.cons_append, List.nil_append, xcat_nil, xcat_int, xcat_ref, xcat_long, not_true, not_false_iff, if_true, if_false, and_self, and_false, false_and, or_true, true_or, or_self, z01, z10, zle8, Nat.reduceAdd, Nat.reduceLeDiff]
        · rw [thI_f c4]
          simp only [r80_94, r80_97, r80_98, c4, bI_f, true_and, and_true, Option.some.injEq, exists_eq_left', Option.toList_some, Option.toList_none, List.cons_append, List.nil_append, xcat_nil, xcat_int, xcat_ref, xcat_long, not_true, not_false_iff, if_true, if_false, and_self, and_false, false_and, or_true, true_or, or_self, z01, z10, zle8, Nat.reduceAdd, Nat.reduceLeDiff]
    · rw [thI_f c2]
      simp only [r80_55, r80_58, r80_59, c2, bI_f, true_and, and_true, Option.some.injEq, exists_eq_left', Option.toList_some, Option.toList_none, List.cons_append, List.nil_append, xcat_nil, xcat_int, xcat_ref, xcat_long, not_true, not_false_iff, if_true, if_false, and_self, and_false, false_and, or_true, true_or, or_self, z01, z10, zle8, Nat.reduceAdd, Nat.reduceLeDiff]
  · rw [thI_f c1]
    simp only [r80_28, r80_31, r80_32, r80_53, r80_54, r80_55, r80_58, r80_59, c1, show ¬ (0 : Int32) ≤ -1 by decide, bI_f, true_and, and_true, Option.some.injEq, exists_eq_left', Option.toList_some, Option.toList_none, List.cons_append, List.nil_append, xcat_nil, xcat_int, xcat_ref, xcat_long, not_true, not_false_iff, if_true, if_false, and_self, and_false, false_and, or_true, true_or, or_self, z01, z10, zle8, Nat.reduceAdd, Nat.reduceLeDiff]
end
