/-! WHAT THE CONSTRUCTORS MAKE: the book, the object, the model; the first state -/
/-- the cells lo .. hi are as before -/
def Kz (u u' : xMem) (lo hi : Nat) : Prop := ∀ a, lo ≤ a → a < hi → (∀ k, xIs u a k → xIs u' a k) ∧ xN u' a = xN u a ∧ xI u' a = xI u a ∧ xR u' a = xR u a
/-- an object at b of class kb with the arrays L behind it -/
def Pg (u v : xMem) (b kb : Nat) (L : List (Nat × Nat)) (R : Nat → Option Nat) (F : Nat → Int32) : Prop :=
  (xW v = b + 1 + L.length ∧ xV v = xV u) ∧ (∀ a, a < b ∨ 1000000 ≤ a → xK v a = xK u a ∧ xN v a = xN u a ∧ xI v a = xI u a ∧ xR v a = xR u a) ∧ (xIs v b kb ∧ xR v b = R ∧ xI v b = F) ∧ ∀ i k n, L[i]? = some (k, n) → sA v (b + 1 + i) k n ∧ ∀ j, xI v (b + 1 + i) j = 0
section
variable {u u' v w : xMem} {a b c d k kb kd lo hi lo' hi' n z m pc pc1 pc2 pc3 pc4 sl : Nat} {x : Int32} {L : List (Nat × Nat)} {R : Nat → Option Nat} {F : Nat → Int32} {o : Option Nat} {ls : List Value} {Q : Option Value → xMem → Prop}
theorem Kz.tr (h : Kz u v lo hi) (g : Kz v w lo hi) : Kz u w lo hi := fun a h1 h2 => ⟨fun k q => (g a h1 h2).1 k ((h a h1 h2).1 k q), (g a h1 h2).2.1.trans (h a h1 h2).2.1, (g a h1 h2).2.2.1.trans (h a h1 h2).2.2.1, (g a h1 h2).2.2.2.trans (h a h1 h2).2.2.2⟩
theorem Kz.sub (h : Kz u v lo hi) (h1 : lo ≤ lo') (h2 : hi' ≤ hi) : Kz u v lo' hi' := fun a g1 g2 => h a (by omega) (by omega)
theorem Kz.rf : Kz u u lo hi := fun _ _ _ => ⟨fun _ q => q, rfl, rfl, rfl⟩
theorem Kz.sR (h : b < lo ∨ hi ≤ b) : Kz u (xsR u b k o) lo hi := fun a h1 h2 => ⟨fun _ q => q, rfl, rfl, xRf_R (by omega)⟩
theorem Kz.nw (h : hi ≤ xW u) : Kz u (xnew u kd n sl) lo hi := fun a h1 h2 => ⟨fun _ q => by rw [xIs_n (by omega)]; exact q, xN_n (by omega), xIf_n (by omega), xRf_n (by omega)⟩
theorem Mk.kz (h : Mk u u' c d z) (hw : xW u = c) (hc : c < 1000000) : Kz u u' 0 c := fun a _ h2 => by
  obtain ⟨-, q2, q3, q4⟩ := h.2.2.1 a (Or.inl h2)
  exact ⟨fun k q => by rw [h.is hw hc h2]; exact q, q2, q3, q4⟩
theorem sA.kz (h : sA u a kd n) (g : Kz u v lo hi) (h1 : lo ≤ a) (h2 : a < hi) : sA v a kd n := ⟨(g a h1 h2).1 _ h.1, (g a h1 h2).2.1.trans h.2⟩
theorem sB.kz (h : sB u b) (g : Kz u v lo hi) (h1 : lo ≤ b) (h2 : b + 6 ≤ hi) : sB v b := by
  obtain ⟨h0, ⟨e0, e1, e2, e3, e4⟩, s0, s1, s2, s3, s4⟩ := h
  have kr := (g b (by omega) (by omega)).2.2.2
  exact ⟨(g b (by omega) (by omega)).1 _ h0, ⟨by rw [kr]; exact e0, by rw [kr]; exact e1, by rw [kr]; exact e2, by rw [kr]; exact e3, by rw [kr]; exact e4⟩, s0.kz g (by omega) (by omega), s1.kz g (by omega) (by omega), s2.kz g (by omega) (by omega), s3.kz g (by omega) (by omega), s4.kz g (by omega) (by omega)⟩
theorem sRt.kz (h : sRt u b) (g : Kz u v lo hi) (h1 : lo ≤ b) (h2 : b + 5 ≤ hi) : sRt v b := by
  obtain ⟨h0, ⟨e0, e1, e2, e3⟩, s0, s1, s2, s3⟩ := h
  have kr := (g b (by omega) (by omega)).2.2.2
  exact ⟨(g b (by omega) (by omega)).1 _ h0, ⟨by rw [kr]; exact e0, by rw [kr]; exact e1, by rw [kr]; exact e2, by rw [kr]; exact e3⟩, s0.kz g (by omega) (by omega), s1.kz g (by omega) (by omega), s2.kz g (by omega) (by omega), s3.kz g (by omega) (by omega)⟩
theorem sTf.kz (h : sTf u b) (g : Kz u v lo hi) (h1 : lo ≤ b) (h2 : b + 15 ≤ hi) : sTf v b := by
  obtain ⟨h0, ⟨e0, e1, e2, e3, e4, e5, e6, e7, e8, e9⟩, s0, s1, s2, s3, s4, s5, s6, s7, s8, s9⟩ := h
  have kr := (g b (by omega) (by omega)).2.2.2
  exact ⟨(g b (by omega) (by omega)).1 _ h0, ⟨by rw [kr]; exact e0, by rw [kr]; exact e1, by rw [kr]; exact e2, by rw [kr]; exact e3, by rw [kr]; exact e4, by rw [kr]; exact e5, by rw [kr]; exact e6, by rw [kr]; exact e7, by rw [kr]; exact e8, by rw [kr]; exact e9⟩, s0.kz g (by omega) (by omega), s1.kz g (by omega) (by omega), s2.kz g (by omega) (by omega), s3.kz g (by omega) (by omega), s4.kz g (by omega) (by omega), s5.kz g (by omega) (by omega), s6.kz g (by omega) (by omega), s7.kz g (by omega) (by omega), s8.kz g (by omega) (by omega), s9.kz g (by omega) (by omega)⟩
theorem sGr.kz (h : sGr u b) (g : Kz u v lo hi) (h1 : lo ≤ b) (h2 : b + 11 ≤ hi) : sGr v b := by
  obtain ⟨h0, ⟨e0, e1, e2, e3, e4⟩, s0, s1, s2, s3, s4⟩ := h
  have kr := (g b (by omega) (by omega)).2.2.2
  exact ⟨(g b (by omega) (by omega)).1 _ h0, ⟨by rw [kr]; exact e0, by rw [kr]; exact e1, by rw [kr]; exact e2, by rw [kr]; exact e3, by rw [kr]; exact e4⟩, s0.kz g (by omega) (by omega), s1.kz g (by omega) (by omega), s2.kz g (by omega) (by omega), s3.kz g (by omega) (by omega), s4.kz g (by omega) (by omega)⟩
theorem sDk.kz (h : sDk u b) (g : Kz u v lo hi) (h1 : lo ≤ b) (h2 : b + 28 ≤ hi) : sDk v b := by
  obtain ⟨h0, ⟨e0, e1, e2⟩, s0, s1, s2⟩ := h
  have kr := (g b (by omega) (by omega)).2.2.2
  exact ⟨(g b (by omega) (by omega)).1 _ h0, ⟨by rw [kr]; exact e0, by rw [kr]; exact e1, by rw [kr]; exact e2⟩, s0.kz g (by omega) (by omega), s1.kz g (by omega) (by omega), s2.kz g (by omega) (by omega)⟩
theorem sLn.kz (h : sLn u b) (g : Kz u v lo hi) (h1 : lo ≤ b) (h2 : b + 5 ≤ hi) : sLn v b := by
  obtain ⟨h0, ⟨e0, e1, e2, e3⟩, s0, s1, s2, s3⟩ := h
  have kr := (g b (by omega) (by omega)).2.2.2
  exact ⟨(g b (by omega) (by omega)).1 _ h0, ⟨by rw [kr]; exact e0, by rw [kr]; exact e1, by rw [kr]; exact e2, by rw [kr]; exact e3⟩, s0.kz g (by omega) (by omega), s1.kz g (by omega) (by omega), s2.kz g (by omega) (by omega), s3.kz g (by omega) (by omega)⟩
theorem sAc.kz (h : sAc u b) (g : Kz u v lo hi) (h1 : lo ≤ b) (h2 : b + 4 ≤ hi) : sAc v b := by
  obtain ⟨h0, ⟨e0, e1, e2⟩, s0, s1, s2⟩ := h
  have kr := (g b (by omega) (by omega)).2.2.2
  exact ⟨(g b (by omega) (by omega)).1 _ h0, ⟨by rw [kr]; exact e0, by rw [kr]; exact e1, by rw [kr]; exact e2⟩, s0.kz g (by omega) (by omega), s1.kz g (by omega) (by omega), s2.kz g (by omega) (by omega)⟩
theorem sTp.kz (h : sTp u b) (g : Kz u v lo hi) (h1 : lo ≤ b) (h2 : b + 2 ≤ hi) : sTp v b := by
  obtain ⟨h0, e0, s0⟩ := h
  have kr := (g b (by omega) (by omega)).2.2.2
  exact ⟨(g b (by omega) (by omega)).1 _ h0, by rw [kr]; exact e0, s0.kz g (by omega) (by omega)⟩
theorem Pg.st (h : Pg u v b kb L R F) (hb : b + 1 + L.length < 1000000) : Pg u (xsR (xnew v kd n sl) b k (some (xW v))) b kb (L ++ [(kd, n)]) (fun j => if j = k then some (b + 1 + L.length) else R j) F := by
  obtain ⟨⟨hw, hv⟩, hf, ⟨hi, hr, hI⟩, hL⟩ := h
  refine ⟨⟨?_, hv⟩, fun a q => ?_, ⟨?_, ?_, ?_⟩, fun i k' n' hi' => ?_⟩
  · rw [xW_sR, xW_new, hw, List.length_append]
    rfl
  · obtain ⟨q1, q2, q3, q4⟩ := hf a q
    have ha : a ≠ xW v := by omega
    exact ⟨by rw [xK_sR, xK_ne ha]; exact q1, by rw [xN_sR', xN_n ha]; exact q2, by rw [xIf_R, xIf_n ha]; exact q3, by rw [xRf_R (by omega), xRf_n ha]; exact q4⟩
  · rw [xIs_sR', xIs_n (by omega)]
    exact hi
  · funext j
    by_cases q : j = k
    · rw [xR_R ⟨rfl, q⟩, if_pos q, hw]
    · rw [xR_Rn (Or.inr q), if_neg q, xR_nw (by omega), hr]
  · rw [xIf_R, xIf_n (by omega)]
    exact hI
  · by_cases q : i < L.length
    · rw [List.getElem?_append_left q] at hi'
      obtain ⟨y1, y2⟩ := hL i k' n' hi'
      refine ⟨⟨?_, by rw [xN_sR', xN_n (by omega)]; exact y1.2⟩, fun j => ?_⟩
      · rw [xIs_sR', xIs_n (by omega)]
        exact y1.1
      · rw [xIf_R, xIf_n (by omega)]
        exact y2 j
    · have hlt := (List.getElem?_eq_some_iff.mp hi').1
      rw [List.length_append, List.length_singleton] at hlt
      have : i = L.length := by omega
      subst this
      rw [List.getElem?_append_right (Nat.le_refl _), Nat.sub_self] at hi'
      cases hi'
      refine ⟨⟨?_, ?_⟩, fun j => ?_⟩
      · rw [xIs_sR', xIs_e hw.symm]
      · rw [xN_sR', xN_e hw.symm]
      · rw [xIf_R, xIf_e hw.symm]
theorem pg_run (e1 : ∀ st u P, zr m pc ls st u P = zr m pc1 ls (.ref b :: st) u P) (e2 : ∀ st u P, zr m pc1 ls st u P = zr m pc2 ls (.int x :: st) u P)
    (e3 : ∀ st u P, zr m pc2 ls (.int x :: st) u P = (((xV u = true ∧ xW u < 1000000) ∧ (0 ≤ x ∧ x ≤ 2000)) ∧ zr m pc3 ls (.ref (xW u) :: st) (xnew u kd (xix x) (xix x)) P))
    (e4 : ∀ c st u P, zr m pc3 ls (.ref c :: .ref b :: st) u P = (xIs u b kb ∧ zr m pc4 ls st (xsR u b k (some c)) P))
    (hx : 0 ≤ x ∧ x ≤ 2000) (h : Pg u v b kb L R F) (hV : xV u = true) (hb : b + 1 + L.length < 1000000)
    (hn : ∀ v', Pg u v' b kb (L ++ [(kd, xix x)]) (fun j => if j = k then some (b + 1 + L.length) else R j) F → zr m pc4 ls [] v' Q) : zr m pc ls [] v Q := by
  have hw := h.1.1
  rw [e1, e2, e3, e4]
  refine ⟨⟨⟨h.1.2.trans hV, by omega⟩, hx⟩, ?_, hn _ (h.st hb)⟩
  rw [xIs_n (by omega)]
  exact h.2.2.1.1
theorem Pg.nw (hw : xW u = b) (hb9 : b < 1000000) : Pg u (xnew u kb 0 sl) b kb [] (fun _ => none) (fun _ => 0) := by
  refine ⟨⟨by rw [xW_new, hw]; rfl, rfl⟩, fun a q => ?_, ⟨?_, ?_, ?_⟩, fun i k n h => by cases h⟩
  · have hb : a ≠ xW u := by omega
    exact ⟨xK_ne hb, xN_n hb, xIf_n hb, xRf_n hb⟩
  · rw [xIs_e hw.symm]
  · subst hw
    exact if_pos rfl
  · exact xIf_e hw.symm
end
section
variable {u v : xMem} {Q : Option Value → xMem → Prop}
/-- the book with j lines -/
def Bj (u v : xMem) (j : Nat) : Prop := Mk u v 62 (7 + 5 * j) 7 ∧ (xIs v 62 1 ∧ (xR v 62 1 = some 63 ∧ xR v 62 3 = some 64 ∧ xR v 62 4 = some 65 ∧ xR v 62 5 = some 66 ∧ xR v 62 6 = some 67 ∧ xR v 62 7 = some 68) ∧ sA v 63 16 40 ∧ sA v 64 13 12 ∧ sA v 65 13 120 ∧ sA v 66 13 60 ∧ sA v 67 13 60 ∧ sA v 68 15 60) ∧ ∀ l, l < j → xR v 63 l = some (69 + 5 * l) ∧ sLn v (69 + 5 * l)
theorem bk_loop (hV : xV u = true) (hP : ∀ v, Bj u v 40 → Q none v) : ∀ r j v, j + r = 40 → Bj u v j → zr 6 55 [.ref 62, .int (nI j)] [] v Q := by
  intro r
  induction r with
  | zero =>
    intro j v hj h
    have : j = 40 := by omega
    subst this
    simp only [r6_55, r6_56, r6_58, r6_80, show (40 : Int32) ≤ nI 40 by decide, true_and, and_true, Option.some.injEq, exists_eq_left', Option.toList_some, Option.toList_none, List.cons_append, List.nil_append, xcat_nil, xcat_int, xcat_ref, xcat_long, not_true, not_false_iff, if_true, if_false, and_self, and_false, false_and, or_true, true_or, or_self, z01, z10, zle8, Nat.reduceAdd, Nat.reduceLeDiff]
    exact hP v h
  | succ r ih =>
    intro j v hj h
    have hn : ¬ (40 : Int32) ≤ nI j := nI_ge (b := 40) (by omega) (by omega)
    obtain ⟨hM, ⟨h0, ⟨e1, e2⟩, a1, a2⟩, hl⟩ := h
    have hW : xW v = 69 + 5 * j := by rw [hM.1]; omega
    have hVv : xV v = true := hM.2.1.trans hV
    have hlt : 69 + 5 * j < 1000000 := by omega
    have i5 : xIs (xnew v 5 0 13) (69 + 5 * j) 5 := by rw [xIs_e hW.symm]
    simp only [r6_55, r6_56, r6_58, hn, r6_61, r6_62, h0, e1, r6_65, r6_66, hVv, hW, hlt, r6_69, r6_70, i5, true_and, and_true, Option.some.injEq, exists_eq_left', Option.toList_some, Option.toList_none, List.cons_append, List.nil_append, xcat_nil, xcat_int, xcat_ref, xcat_long, not_true, not_false_iff, if_true, if_false, and_self, and_false, false_and, or_true, true_or, or_self, z01, z10, zle8, Nat.reduceAdd, Nat.reduceLeDiff]
    refine mk_Ln hW hVv (by omega) (fun u1 h1 s1 => ?_)
    have kp := h1.kz hW (by omega)
    have b1 := a1.kz kp (by omega) (by omega)
    have bi : xinb (nI j) (xN u1 63) := by rw [b1.2]; exact xinb_nI (by omega) (by omega)
    have ej : nI j + 1 = nI (j + 1) := nI_1 j
    have ex : xix (nI j) = j := xix_nI (by omega)
    show zr 6 73 [.ref 62, .int (nI j)] [.ref (69 + 5 * j), .int (nI j), .ref 63] u1 Q
    simp only [r6_73, b1.1, s1.1, bi, r6_74, r6_77, ej, ex, true_and, and_true, Option.some.injEq, exists_eq_left', Option.toList_some, Option.toList_none, List.cons_append, List.nil_append, xcat_nil, xcat_int, xcat_ref, xcat_long, not_true, not_false_iff, if_true, if_false, and_self, and_false, false_and, or_true, true_or, or_self, z01, z10, zle8, Nat.reduceAdd, Nat.reduceLeDiff]
    have k2 : Kz u1 (xsR u1 63 j (some (69 + 5 * j))) 64 1000000 := Kz.sR (by omega)
    have k3 : Kz u1 (xsR u1 63 j (some (69 + 5 * j))) 0 63 := Kz.sR (by omega)
    have kl : Kz v (xsR u1 63 j (some (69 + 5 * j))) 64 (69 + 5 * j) := (kp.sub (by omega) (by omega)).tr (k2.sub (by omega) (by omega))
    have k62 := (kp 62 (by omega) (by omega))
    have eR : xR (xsR u1 63 j (some (69 + 5 * j))) 62 = xR v 62 := (k3 62 (by omega) (by omega)).2.2.2.trans k62.2.2.2
    refine ih (j + 1) _ (by omega) ⟨⟨?_, h1.2.1.trans hM.2.1, fun a q => ?_, fun a i q1 q2 => ?_⟩, ⟨k62.1 _ h0, ⟨by rw [eR]; exact e1, by rw [eR]; exact e2.1, by rw [eR]; exact e2.2.1, by rw [eR]; exact e2.2.2.1, by rw [eR]; exact e2.2.2.2.1, by rw [eR]; exact e2.2.2.2.2⟩, b1, a2.1.kz kl (by omega) (by omega), a2.2.1.kz kl (by omega) (by omega), a2.2.2.1.kz kl (by omega) (by omega), a2.2.2.2.1.kz kl (by omega) (by omega), a2.2.2.2.2.kz kl (by omega) (by omega)⟩, fun l hl9 => ?_⟩
    · rw [xW_sR, h1.1]
      omega
    · obtain ⟨y1, y2, y3, y4⟩ := hM.2.2.1 a q
      obtain ⟨x1, x2, x3, x4⟩ := h1.2.2.1 a (by omega)
      exact ⟨x1.trans y1, x2.trans y2, x3.trans y3, (xRf_R (by omega)).trans (x4.trans y4)⟩
    · rw [xIf_R, (h1.2.2.1 a (by omega)).2.2.1]
      exact hM.2.2.2 a i q1 q2
    · by_cases q : l = j
      · subst q
        exact ⟨xR_R ⟨rfl, rfl⟩, s1.kz k2 (by omega) (by omega)⟩
      · obtain ⟨x1, x2⟩ := hl l (by omega)
        refine ⟨?_, x2.kz kl (by omega) (by omega)⟩
        rw [xR_Rn (Or.inr q), (kp 63 (by omega) (by omega)).2.2.2]
        exact x1
theorem mk_Bk (hw : xW u = 62) (hV : xV u = true) (hP : ∀ u', Mk u u' 62 207 7 → sBk u' 62 → Q none u') : zr 6 0 [.ref 62, .null] [] (xnew u 1 0 8) Q := by
  simp only [r6_0, r6_1, true_and, and_true, Option.some.injEq, exists_eq_left', Option.toList_some, Option.toList_none, List.cons_append, List.nil_append, xcat_nil, xcat_int, xcat_ref, xcat_long, not_true, not_false_iff, if_true, if_false, and_self, and_false, false_and, or_true, true_or, or_self, z01, z10, zle8, Nat.reduceAdd, Nat.reduceLeDiff]
  refine pg_run (kd := 16) (k := 1) (x := 40) (fun _ _ _ => r6_4) (fun _ _ _ => r6_5) (fun _ _ _ => r6_7) (fun _ _ _ _ => r6_10) (by decide) (Pg.nw hw (by omega)) hV (Nat.le_of_ble_eq_true rfl) (fun v0 h0 => ?_)
  refine pg_run (kd := 13) (k := 3) (x := 12) (fun _ _ _ => r6_13) (fun _ _ _ => r6_14) (fun _ _ _ => r6_16) (fun _ _ _ _ => r6_18) (by decide) h0 hV (Nat.le_of_ble_eq_true rfl) (fun v1 h1 => ?_)
  refine pg_run (kd := 13) (k := 4) (x := 120) (fun _ _ _ => r6_21) (fun _ _ _ => r6_22) (fun _ _ _ => r6_24) (fun _ _ _ _ => r6_26) (by decide) h1 hV (Nat.le_of_ble_eq_true rfl) (fun v2 h2 => ?_)
  refine pg_run (kd := 13) (k := 5) (x := 60) (fun _ _ _ => r6_29) (fun _ _ _ => r6_30) (fun _ _ _ => r6_32) (fun _ _ _ _ => r6_34) (by decide) h2 hV (Nat.le_of_ble_eq_true rfl) (fun v3 h3 => ?_)
  refine pg_run (kd := 13) (k := 6) (x := 60) (fun _ _ _ => r6_37) (fun _ _ _ => r6_38) (fun _ _ _ => r6_40) (fun _ _ _ _ => r6_42) (by decide) h3 hV (Nat.le_of_ble_eq_true rfl) (fun v4 h4 => ?_)
  refine pg_run (kd := 15) (k := 7) (x := 60) (fun _ _ _ => r6_45) (fun _ _ _ => r6_46) (fun _ _ _ => r6_48) (fun _ _ _ _ => r6_50) (by decide) h4 hV (Nat.le_of_ble_eq_true rfl) (fun v5 h5 => ?_)
  simp only [r6_53, r6_54, true_and, and_true, Option.some.injEq, exists_eq_left', Option.toList_some, Option.toList_none, List.cons_append, List.nil_append, xcat_nil, xcat_int, xcat_ref, xcat_long, not_true, not_false_iff, if_true, if_false, and_self, and_false, false_and, or_true, true_or, or_self, z01, z10, zle8, Nat.reduceAdd, Nat.reduceLeDiff]
  obtain ⟨⟨c1, c2⟩, c3, ⟨c4, c5, c6⟩, c7⟩ := h5
  refine bk_loop hV (fun v hB => hP v ?_ ?_) 40 0 v5 (by omega) ⟨⟨c1, c2, c3, fun a j q1 q2 => ?_⟩, ⟨c4, ⟨by rw [c5]; rfl, by rw [c5]; rfl, by rw [c5]; rfl, by rw [c5]; rfl, by rw [c5]; rfl, by rw [c5]; rfl⟩, (c7 0 _ _ rfl).1, (c7 1 _ _ rfl).1, (c7 2 _ _ rfl).1, (c7 3 _ _ rfl).1, (c7 4 _ _ rfl).1, (c7 5 _ _ rfl).1⟩, fun l hl => absurd hl (by omega)⟩
  · exact hB.1
  · obtain ⟨-, ⟨q1, q2, q3, q4, q5, q6, q7, q8⟩, q9⟩ := hB
    exact ⟨q1, q2, q3, q4, q5, q6, q7, q8, q9⟩
  · have : a = 62 ∨ a = 63 ∨ a = 64 ∨ a = 65 ∨ a = 66 ∨ a = 67 ∨ a = 68 := by omega
    rcases this with rfl | rfl | rfl | rfl | rfl | rfl | rfl
    · rw [c6]
    · exact (c7 0 _ _ rfl).2 j
    · exact (c7 1 _ _ rfl).2 j
    · exact (c7 2 _ _ rfl).2 j
    · exact (c7 3 _ _ rfl).2 j
    · exact (c7 4 _ _ rfl).2 j
    · exact (c7 5 _ _ rfl).2 j
end
/-- the class's object and all that it has, made from nothing -/
def F1 (u v : xMem) : Prop := (xW v = 278 ∧ xV v = xV u) ∧ (∀ a, 1000000 ≤ a → xK v a = xK u a ∧ xN v a = xN u a ∧ xI v a = xI u a ∧ xR v a = xR u a) ∧ (sSP v 34 ∧ sRd v 6 ∧ sTp v 2 ∧ sDk v 6 ∧ sDk v 34 ∧ sBk v 62 ∧ sAc v 269 ∧ sLn v 273) ∧ ∀ a j, a < 69 ∨ (269 ≤ a ∧ a < 273) → xI v a j = 0
theorem sBk.kz {u v : xMem} (h : sBk u 62) (g : Kz u v 62 269) : sBk v 62 := by
  obtain ⟨h0, ⟨e0, e1, e2, e3, e4, e5⟩, s0, s1, s2, s3, s4, s5, hl⟩ := h
  have kr := (g 62 (by omega) (by omega)).2.2.2
  have kl := (g 63 (by omega) (by omega)).2.2.2
  refine ⟨(g 62 (by omega) (by omega)).1 _ h0, ⟨by rw [kr]; exact e0, by rw [kr]; exact e1, by rw [kr]; exact e2, by rw [kr]; exact e3, by rw [kr]; exact e4, by rw [kr]; exact e5⟩, s0.kz g (by omega) (by omega), s1.kz g (by omega) (by omega), s2.kz g (by omega) (by omega), s3.kz g (by omega) (by omega), s4.kz g (by omega) (by omega), s5.kz g (by omega) (by omega), fun l q => ⟨?_, (hl l q).2.kz g (by omega) (by omega)⟩⟩
  show xR v 63 l = _
  rw [kl]
  exact (hl l q).1
section
variable {u : xMem} {Q : Option Value → xMem → Prop}
theorem mk_SP (hw : xW u = 0) (hV : xV u = true) (hP : ∀ u', F1 u u' → Q none u') : zr 106 0 [.ref 0] [] (xnew u 10 0 7) Q := by
  have p0 : Pg u (xnew u 10 0 7) 0 10 [] (fun _ => none) (fun _ => 0) := Pg.nw hw (by omega)
  generalize xnew u 10 0 7 = v0 at p0 ⊢
  obtain ⟨⟨w0, t0⟩, f0, ⟨i0, r0, z0⟩, -⟩ := p0
  have w0 : xW v0 = 1 := w0
  have t0 : xV v0 = true := t0.trans hV
  have n1 : xIs (xnew v0 7 0 7) 1 7 := by rw [xIs_e (by omega)]
  simp only [r106_0, r106_1, r106_4, r106_5, r106_8, r106_9, w0, t0, n1, show 1 < 1000000 by decide, true_and, and_true, Option.some.injEq, exists_eq_left', Option.toList_some, Option.toList_none, List.cons_append, List.nil_append, xcat_nil, xcat_int, xcat_ref, xcat_long, not_true, not_false_iff, if_true, if_false, and_self, and_false, false_and, or_true, true_or, or_self, z01, z10, zle8, Nat.reduceAdd, Nat.reduceLeDiff]
  refine mk_Re (u := v0) (w := 1) w0 t0 (by omega) (fun u1 h1 s1 => ?_)
  have k1 := h1.kz w0 (by omega)
  have j1 : xIs u1 0 10 := (k1 0 (by omega) (by omega)).1 _ i0
  show zr 106 12 [.ref 0] [.ref 1, .ref 0] u1 Q
  simp only [r106_12, j1, true_and, and_true, Option.some.injEq, exists_eq_left', Option.toList_some, Option.toList_none, List.cons_append, List.nil_append, xcat_nil, xcat_int, xcat_ref, xcat_long, not_true, not_false_iff, if_true, if_false, and_self, and_false, false_and, or_true, true_or, or_self, z01, z10, zle8, Nat.reduceAdd, Nat.reduceLeDiff]
  obtain ⟨v1, ev1⟩ : ∃ v1, v1 = xsR u1 0 0 (some 1) := ⟨_, rfl⟩
  rw [← ev1]
  have w1 : xW v1 = 34 := by rw [ev1, xW_sR, h1.1]
  have t1 : xV v1 = true := by rw [ev1, xV_sR, h1.2.1]; exact t0
  have i1 : xIs v1 0 10 := by rw [ev1, xIs_sR']; exact j1
  have g1 : Kz u1 v1 1 1000000 := by rw [ev1]; exact Kz.sR (by omega)
  have z1 : xI v1 0 = fun _ => 0 := by rw [ev1, xIf_R, (k1 0 (by omega) (by omega)).2.2.1, z0]
  have r1 : xR v1 0 = fun q => if q = 0 then some 1 else xR v0 0 q := by
    funext q
    rw [ev1]
    by_cases e : q = 0
    · rw [xR_R ⟨rfl, e⟩, if_pos e]
    · rw [xR_Rn (Or.inr e), if_neg e, (k1 0 (by omega) (by omega)).2.2.2]
  have f1 : ∀ a, 1000000 ≤ a → xK v1 a = xK u a ∧ xN v1 a = xN u a ∧ xI v1 a = xI u a ∧ xR v1 a = xR u a := fun a q => by
    obtain ⟨y1, y2, y3, y4⟩ := h1.2.2.1 a (Or.inr q)
    obtain ⟨x1, x2, x3, x4⟩ := f0 a (Or.inr q)
    rw [ev1]
    exact ⟨y1.trans x1, y2.trans x2, y3.trans x3, (xRf_R (by omega)).trans (y4.trans x4)⟩
  have m1 : Kz v0 v1 1 1 := (k1.sub (by omega) (by omega)).tr (g1.sub (by omega) (by omega))
  have n2 : xIs (xnew v1 3 0 3) 34 3 := by rw [xIs_e (by omega)]
  simp only [r106_15, r106_16, r106_19, r106_20, w1, t1, n2, show 34 < 1000000 by decide, true_and, and_true, Option.some.injEq, exists_eq_left', Option.toList_some, Option.toList_none, List.cons_append, List.nil_append, xcat_nil, xcat_int, xcat_ref, xcat_long, not_true, not_false_iff, if_true, if_false, and_self, and_false, false_and, or_true, true_or, or_self, z01, z10, zle8, Nat.reduceAdd, Nat.reduceLeDiff]
  refine mk_Dk (u := v1) (w := 34) w1 t1 (by omega) (fun u2 h2 s2 => ?_)
  have k2 := h2.kz w1 (by omega)
  have j2 : xIs u2 0 10 := (k2 0 (by omega) (by omega)).1 _ i1
  show zr 106 23 [.ref 0] [.ref 34, .ref 0] u2 Q
  simp only [r106_23, j2, true_and, and_true, Option.some.injEq, exists_eq_left', Option.toList_some, Option.toList_none, List.cons_append, List.nil_append, xcat_nil, xcat_int, xcat_ref, xcat_long, not_true, not_false_iff, if_true, if_false, and_self, and_false, false_and, or_true, true_or, or_self, z01, z10, zle8, Nat.reduceAdd, Nat.reduceLeDiff]
  obtain ⟨v2, ev2⟩ : ∃ v2, v2 = xsR u2 0 1 (some 34) := ⟨_, rfl⟩
  rw [← ev2]
  have w2 : xW v2 = 62 := by rw [ev2, xW_sR, h2.1]
  have t2 : xV v2 = true := by rw [ev2, xV_sR, h2.2.1]; exact t1
  have i2 : xIs v2 0 10 := by rw [ev2, xIs_sR']; exact j2
  have g2 : Kz u2 v2 1 1000000 := by rw [ev2]; exact Kz.sR (by omega)
  have z2 : xI v2 0 = fun _ => 0 := by rw [ev2, xIf_R, (k2 0 (by omega) (by omega)).2.2.1, z1]
  have r2 : xR v2 0 = fun q => if q = 1 then some 34 else xR v1 0 q := by
    funext q
    rw [ev2]
    by_cases e : q = 1
    · rw [xR_R ⟨rfl, e⟩, if_pos e]
    · rw [xR_Rn (Or.inr e), if_neg e, (k2 0 (by omega) (by omega)).2.2.2]
  have f2 : ∀ a, 1000000 ≤ a → xK v2 a = xK u a ∧ xN v2 a = xN u a ∧ xI v2 a = xI u a ∧ xR v2 a = xR u a := fun a q => by
    obtain ⟨y1, y2, y3, y4⟩ := h2.2.2.1 a (Or.inr q)
    obtain ⟨x1, x2, x3, x4⟩ := f1 a q
    rw [ev2]
    exact ⟨y1.trans x1, y2.trans x2, y3.trans x3, (xRf_R (by omega)).trans (y4.trans x4)⟩
  have m2 : Kz v1 v2 1 34 := (k2.sub (by omega) (by omega)).tr (g2.sub (by omega) (by omega))
  have n3 : xIs (xnew v2 1 0 8) 62 1 := by rw [xIs_e (by omega)]
  simp only [r106_26, r106_27, r106_30, r106_31, w2, t2, n3, show 62 < 1000000 by decide, true_and, and_true, Option.some.injEq, exists_eq_left', Option.toList_some, Option.toList_none, List.cons_append, List.nil_append, xcat_nil, xcat_int, xcat_ref, xcat_long, not_true, not_false_iff, if_true, if_false, and_self, and_false, false_and, or_true, true_or, or_self, z01, z10, zle8, Nat.reduceAdd, Nat.reduceLeDiff]
  refine mk_Bk (u := v2)  w2 t2 (fun u3 h3 s3 => ?_)
  have k3 := h3.kz w2 (by omega)
  have j3 : xIs u3 0 10 := (k3 0 (by omega) (by omega)).1 _ i2
  show zr 106 34 [.ref 0] [.ref 62, .ref 0] u3 Q
  simp only [r106_34, j3, true_and, and_true, Option.some.injEq, exists_eq_left', Option.toList_some, Option.toList_none, List.cons_append, List.nil_append, xcat_nil, xcat_int, xcat_ref, xcat_long, not_true, not_false_iff, if_true, if_false, and_self, and_false, false_and, or_true, true_or, or_self, z01, z10, zle8, Nat.reduceAdd, Nat.reduceLeDiff]
  obtain ⟨v3, ev3⟩ : ∃ v3, v3 = xsR u3 0 3 (some 62) := ⟨_, rfl⟩
  rw [← ev3]
  have w3 : xW v3 = 269 := by rw [ev3, xW_sR, h3.1]
  have t3 : xV v3 = true := by rw [ev3, xV_sR, h3.2.1]; exact t2
  have i3 : xIs v3 0 10 := by rw [ev3, xIs_sR']; exact j3
  have g3 : Kz u3 v3 1 1000000 := by rw [ev3]; exact Kz.sR (by omega)
  have z3 : xI v3 0 = fun _ => 0 := by rw [ev3, xIf_R, (k3 0 (by omega) (by omega)).2.2.1, z2]
  have r3 : xR v3 0 = fun q => if q = 3 then some 62 else xR v2 0 q := by
    funext q
    rw [ev3]
    by_cases e : q = 3
    · rw [xR_R ⟨rfl, e⟩, if_pos e]
    · rw [xR_Rn (Or.inr e), if_neg e, (k3 0 (by omega) (by omega)).2.2.2]
  have f3 : ∀ a, 1000000 ≤ a → xK v3 a = xK u a ∧ xN v3 a = xN u a ∧ xI v3 a = xI u a ∧ xR v3 a = xR u a := fun a q => by
    obtain ⟨y1, y2, y3, y4⟩ := h3.2.2.1 a (Or.inr q)
    obtain ⟨x1, x2, x3, x4⟩ := f2 a q
    rw [ev3]
    exact ⟨y1.trans x1, y2.trans x2, y3.trans x3, (xRf_R (by omega)).trans (y4.trans x4)⟩
  have m3 : Kz v2 v3 1 62 := (k3.sub (by omega) (by omega)).tr (g3.sub (by omega) (by omega))
  have n4 : xIs (xnew v3 0 0 4) 269 0 := by rw [xIs_e (by omega)]
  simp only [r106_37, r106_38, r106_41, r106_42, w3, t3, n4, show 269 < 1000000 by decide, true_and, and_true, Option.some.injEq, exists_eq_left', Option.toList_some, Option.toList_none, List.cons_append, List.nil_append, xcat_nil, xcat_int, xcat_ref, xcat_long, not_true, not_false_iff, if_true, if_false, and_self, and_false, false_and, or_true, true_or, or_self, z01, z10, zle8, Nat.reduceAdd, Nat.reduceLeDiff]
  refine mk_Ac (u := v3) (w := 269) w3 t3 (by omega) (fun u4 h4 s4 => ?_)
  have k4 := h4.kz w3 (by omega)
  have j4 : xIs u4 0 10 := (k4 0 (by omega) (by omega)).1 _ i3
  show zr 106 45 [.ref 0] [.ref 269, .ref 0] u4 Q
  simp only [r106_45, j4, true_and, and_true, Option.some.injEq, exists_eq_left', Option.toList_some, Option.toList_none, List.cons_append, List.nil_append, xcat_nil, xcat_int, xcat_ref, xcat_long, not_true, not_false_iff, if_true, if_false, and_self, and_false, false_and, or_true, true_or, or_self, z01, z10, zle8, Nat.reduceAdd, Nat.reduceLeDiff]
  obtain ⟨v4, ev4⟩ : ∃ v4, v4 = xsR u4 0 4 (some 269) := ⟨_, rfl⟩
  rw [← ev4]
  have w4 : xW v4 = 273 := by rw [ev4, xW_sR, h4.1]
  have t4 : xV v4 = true := by rw [ev4, xV_sR, h4.2.1]; exact t3
  have i4 : xIs v4 0 10 := by rw [ev4, xIs_sR']; exact j4
  have g4 : Kz u4 v4 1 1000000 := by rw [ev4]; exact Kz.sR (by omega)
  have z4 : xI v4 0 = fun _ => 0 := by rw [ev4, xIf_R, (k4 0 (by omega) (by omega)).2.2.1, z3]
  have r4 : xR v4 0 = fun q => if q = 4 then some 269 else xR v3 0 q := by
    funext q
    rw [ev4]
    by_cases e : q = 4
    · rw [xR_R ⟨rfl, e⟩, if_pos e]
    · rw [xR_Rn (Or.inr e), if_neg e, (k4 0 (by omega) (by omega)).2.2.2]
  have f4 : ∀ a, 1000000 ≤ a → xK v4 a = xK u a ∧ xN v4 a = xN u a ∧ xI v4 a = xI u a ∧ xR v4 a = xR u a := fun a q => by
    obtain ⟨y1, y2, y3, y4⟩ := h4.2.2.1 a (Or.inr q)
    obtain ⟨x1, x2, x3, x4⟩ := f3 a q
    rw [ev4]
    exact ⟨y1.trans x1, y2.trans x2, y3.trans x3, (xRf_R (by omega)).trans (y4.trans x4)⟩
  have m4 : Kz v3 v4 1 269 := (k4.sub (by omega) (by omega)).tr (g4.sub (by omega) (by omega))
  have n5 : xIs (xnew v4 5 0 13) 273 5 := by rw [xIs_e (by omega)]
  simp only [r106_48, r106_49, r106_52, r106_53, w4, t4, n5, show 273 < 1000000 by decide, true_and, and_true, Option.some.injEq, exists_eq_left', Option.toList_some, Option.toList_none, List.cons_append, List.nil_append, xcat_nil, xcat_int, xcat_ref, xcat_long, not_true, not_false_iff, if_true, if_false, and_self, and_false, false_and, or_true, true_or, or_self, z01, z10, zle8, Nat.reduceAdd, Nat.reduceLeDiff]
  refine mk_Ln (u := v4) (w := 273) w4 t4 (by omega) (fun u5 h5 s5 => ?_)
  have k5 := h5.kz w4 (by omega)
  have j5 : xIs u5 0 10 := (k5 0 (by omega) (by omega)).1 _ i4
  show zr 106 56 [.ref 0] [.ref 273, .ref 0] u5 Q
  simp only [r106_56, j5, true_and, and_true, Option.some.injEq, exists_eq_left', Option.toList_some, Option.toList_none, List.cons_append, List.nil_append, xcat_nil, xcat_int, xcat_ref, xcat_long, not_true, not_false_iff, if_true, if_false, and_self, and_false, false_and, or_true, true_or, or_self, z01, z10, zle8, Nat.reduceAdd, Nat.reduceLeDiff]
  obtain ⟨v5, ev5⟩ : ∃ v5, v5 = xsR u5 0 5 (some 273) := ⟨_, rfl⟩
  rw [← ev5]
  have w5 : xW v5 = 278 := by rw [ev5, xW_sR, h5.1]
  have t5 : xV v5 = true := by rw [ev5, xV_sR, h5.2.1]; exact t4
  have i5 : xIs v5 0 10 := by rw [ev5, xIs_sR']; exact j5
  have g5 : Kz u5 v5 1 1000000 := by rw [ev5]; exact Kz.sR (by omega)
  have z5 : xI v5 0 = fun _ => 0 := by rw [ev5, xIf_R, (k5 0 (by omega) (by omega)).2.2.1, z4]
  have r5 : xR v5 0 = fun q => if q = 5 then some 273 else xR v4 0 q := by
    funext q
    rw [ev5]
    by_cases e : q = 5
    · rw [xR_R ⟨rfl, e⟩, if_pos e]
    · rw [xR_Rn (Or.inr e), if_neg e, (k5 0 (by omega) (by omega)).2.2.2]
  have f5 : ∀ a, 1000000 ≤ a → xK v5 a = xK u a ∧ xN v5 a = xN u a ∧ xI v5 a = xI u a ∧ xR v5 a = xR u a := fun a q => by
    obtain ⟨y1, y2, y3, y4⟩ := h5.2.2.1 a (Or.inr q)
    obtain ⟨x1, x2, x3, x4⟩ := f4 a q
    rw [ev5]
    exact ⟨y1.trans x1, y2.trans x2, y3.trans x3, (xRf_R (by omega)).trans (y4.trans x4)⟩
  have m5 : Kz v4 v5 1 273 := (k5.sub (by omega) (by omega)).tr (g5.sub (by omega) (by omega))
  simp only [r106_59, true_and, and_true, Option.some.injEq, exists_eq_left', Option.toList_some, Option.toList_none, List.cons_append, List.nil_append, xcat_nil, xcat_int, xcat_ref, xcat_long, not_true, not_false_iff, if_true, if_false, and_self, and_false, false_and, or_true, true_or, or_self, z01, z10, zle8, Nat.reduceAdd, Nat.reduceLeDiff]
  have q1 : Kz u1 v5 1 34 := (((((g1.sub (lo' := 1) (hi' := 34) (by omega) (by omega)).tr (m2.sub (by omega) (by omega))).tr (m3.sub (by omega) (by omega))).tr (m4.sub (by omega) (by omega))).tr (m5.sub (by omega) (by omega)))
  have q2 : Kz u2 v5 34 62 := ((((g2.sub (lo' := 34) (hi' := 62) (by omega) (by omega)).tr (m3.sub (by omega) (by omega))).tr (m4.sub (by omega) (by omega))).tr (m5.sub (by omega) (by omega)))
  have q3 : Kz u3 v5 62 269 := (((g3.sub (lo' := 62) (hi' := 269) (by omega) (by omega)).tr (m4.sub (by omega) (by omega))).tr (m5.sub (by omega) (by omega)))
  have q4 : Kz u4 v5 269 273 := ((g4.sub (lo' := 269) (hi' := 273) (by omega) (by omega)).tr (m5.sub (by omega) (by omega)))
  have q5 : Kz u5 v5 273 278 := (g5.sub (lo' := 273) (hi' := 278) (by omega) (by omega))
  obtain ⟨a0, ⟨a1, a2, a3, a4⟩, a5, a6, a7, a8⟩ := s1
  have kr := (q1 1 (by omega) (by omega)).2.2.2
  refine hP v5 ⟨⟨w5, t5.trans hV.symm⟩, f5, ⟨⟨i5, ?_, ?_, ?_, ?_, ?_⟩, ⟨(q1 1 (by omega) (by omega)).1 _ a0, ⟨by rw [kr]; exact a1, by rw [kr]; exact a2, by rw [kr]; exact a3, by rw [kr]; exact a4⟩, a5.kz q1 (by omega) (by omega), a6.kz q1 (by omega) (by omega)⟩, a7.kz q1 (by omega) (by omega), a8.kz q1 (by omega) (by omega), s2.kz q2 (by omega) (by omega), s3.kz q3, s4.kz q4 (by omega) (by omega), s5.kz q5 (by omega) (by omega)⟩, fun a j q => ?_⟩
  · rw [r5, r4, r3, r2, r1]; rfl
  · rw [r5, r4, r3, r2, r1]; rfl
  · rw [r5, r4, r3, r2, r1]; rfl
  · rw [r5, r4, r3, r2, r1]; rfl
  · rw [r5, r4, r3, r2, r1]; rfl
  · by_cases b0 : a = 0
    · rw [b0, z5]
    · by_cases b1 : a < 34
      · rw [(q1 a (by omega) b1).2.2.1]
        exact h1.2.2.2 a j (by omega) (by omega)
      · by_cases b2 : a < 62
        · rw [(q2 a (by omega) b2).2.2.1]
          exact h2.2.2.2 a j (by omega) (by omega)
        · by_cases b3 : a < 69
          · rw [(q3 a (by omega) (by omega)).2.2.1]
            exact h3.2.2.2 a j (by omega) (by omega)
          · rw [(q4 a (by omega) (by omega)).2.2.1]
            exact h4.2.2.2 a j (by omega) (by omega)
/-- the model made -/
def F2 (u v : xMem) : Prop := (xW v = 295 ∧ xV v = xV u) ∧ (∀ a, a < 278 ∨ 1000000 ≤ a → xK v a = xK u a ∧ xN v a = xN u a ∧ xI v a = xI u a ∧ xR v a = xR u a) ∧ sMd v ∧ (∀ j, xI v 278 j = if j = 2 then -1 else 0) ∧ ∀ a j, 279 ≤ a → a < 295 → xI v a j = 0
theorem mk_Mo (hw : xW u = 278) (hV : xV u = true) (hP : ∀ u', F2 u u' → Q none u') : zr 170 0 [.ref 278] [] (xnew u 11 0 32) Q := by
  have p0 : Pg u (xnew u 11 0 32) 278 11 [] (fun _ => none) (fun _ => 0) := Pg.nw hw (by omega)
  have i0 := p0.2.2.1.1
  simp only [r170_0, r170_1, r170_4, r170_5, r170_6, i0, true_and, and_true, Option.some.injEq, exists_eq_left', Option.toList_some, Option.toList_none, List.cons_append, List.nil_append, xcat_nil, xcat_int, xcat_ref, xcat_long, not_true, not_false_iff, if_true, if_false, and_self, and_false, false_and, or_true, true_or, or_self, z01, z10, zle8, Nat.reduceAdd, Nat.reduceLeDiff]
  have p1 : Pg u (xsI (xnew u 11 0 32) 278 2 (-1)) 278 11 [] (fun _ => none) (fun j => if j = 2 then -1 else 0) := by
    obtain ⟨c1, c2, ⟨c3, c4, c5⟩, c6⟩ := p0
    refine ⟨c1, fun a q => ?_, ⟨c3, c4, ?_⟩, fun i k n h => by cases h⟩
    · obtain ⟨y1, y2, y3, y4⟩ := c2 a q
      refine ⟨y1, y2, ?_, y4⟩
      rw [← y3]
      funext j
      rw [xI_sI, if_neg (by omega)]
    · funext j
      rw [xI_sI]
      by_cases e : j = 2
      · rw [if_pos ⟨rfl, e⟩, if_pos e]
      · rw [if_neg (fun y => e y.2), if_neg e, c5]
  generalize xsI (xnew u 11 0 32) 278 2 (-1) = v at p1 ⊢
  refine pg_run (kd := 13) (k := 3) (x := 402) (fun _ _ _ => r170_9) (fun _ _ _ => r170_10) (fun _ _ _ => r170_13) (fun _ _ _ _ => r170_15) (by decide) p1 hV (Nat.le_of_ble_eq_true rfl) (fun v0 h0 => ?_)
  refine pg_run (kd := 13) (k := 4) (x := 402) (fun _ _ _ => r170_18) (fun _ _ _ => r170_19) (fun _ _ _ => r170_22) (fun _ _ _ _ => r170_24) (by decide) h0 hV (Nat.le_of_ble_eq_true rfl) (fun v1 h1 => ?_)
  refine pg_run (kd := 14) (k := 5) (x := 6) (fun _ _ _ => r170_27) (fun _ _ _ => r170_28) (fun _ _ _ => r170_30) (fun _ _ _ _ => r170_32) (by decide) h1 hV (Nat.le_of_ble_eq_true rfl) (fun v2 h2 => ?_)
  refine pg_run (kd := 14) (k := 6) (x := 10) (fun _ _ _ => r170_35) (fun _ _ _ => r170_36) (fun _ _ _ => r170_38) (fun _ _ _ _ => r170_40) (by decide) h2 hV (Nat.le_of_ble_eq_true rfl) (fun v3 h3 => ?_)
  refine pg_run (kd := 12) (k := 8) (x := 1200) (fun _ _ _ => r170_43) (fun _ _ _ => r170_44) (fun _ _ _ => r170_47) (fun _ _ _ _ => r170_49) (by decide) h3 hV (Nat.le_of_ble_eq_true rfl) (fun v4 h4 => ?_)
  refine pg_run (kd := 13) (k := 17) (x := 4) (fun _ _ _ => r170_52) (fun _ _ _ => r170_53) (fun _ _ _ => r170_54) (fun _ _ _ _ => r170_56) (by decide) h4 hV (Nat.le_of_ble_eq_true rfl) (fun v5 h5 => ?_)
  refine pg_run (kd := 13) (k := 18) (x := 4) (fun _ _ _ => r170_59) (fun _ _ _ => r170_60) (fun _ _ _ => r170_61) (fun _ _ _ _ => r170_63) (by decide) h5 hV (Nat.le_of_ble_eq_true rfl) (fun v6 h6 => ?_)
  refine pg_run (kd := 13) (k := 19) (x := 1000) (fun _ _ _ => r170_66) (fun _ _ _ => r170_67) (fun _ _ _ => r170_70) (fun _ _ _ _ => r170_72) (by decide) h6 hV (Nat.le_of_ble_eq_true rfl) (fun v7 h7 => ?_)
  refine pg_run (kd := 13) (k := 21) (x := 60) (fun _ _ _ => r170_75) (fun _ _ _ => r170_76) (fun _ _ _ => r170_78) (fun _ _ _ _ => r170_80) (by decide) h7 hV (Nat.le_of_ble_eq_true rfl) (fun v8 h8 => ?_)
  refine pg_run (kd := 13) (k := 22) (x := 60) (fun _ _ _ => r170_83) (fun _ _ _ => r170_84) (fun _ _ _ => r170_86) (fun _ _ _ _ => r170_88) (by decide) h8 hV (Nat.le_of_ble_eq_true rfl) (fun v9 h9 => ?_)
  refine pg_run (kd := 13) (k := 23) (x := 60) (fun _ _ _ => r170_91) (fun _ _ _ => r170_92) (fun _ _ _ => r170_94) (fun _ _ _ _ => r170_96) (by decide) h9 hV (Nat.le_of_ble_eq_true rfl) (fun v10 h10 => ?_)
  refine pg_run (kd := 13) (k := 25) (x := 12) (fun _ _ _ => r170_99) (fun _ _ _ => r170_100) (fun _ _ _ => r170_102) (fun _ _ _ _ => r170_104) (by decide) h10 hV (Nat.le_of_ble_eq_true rfl) (fun v11 h11 => ?_)
  refine pg_run (kd := 13) (k := 26) (x := 120) (fun _ _ _ => r170_107) (fun _ _ _ => r170_108) (fun _ _ _ => r170_110) (fun _ _ _ _ => r170_112) (by decide) h11 hV (Nat.le_of_ble_eq_true rfl) (fun v12 h12 => ?_)
  refine pg_run (kd := 13) (k := 28) (x := 8) (fun _ _ _ => r170_115) (fun _ _ _ => r170_116) (fun _ _ _ => r170_118) (fun _ _ _ _ => r170_120) (by decide) h12 hV (Nat.le_of_ble_eq_true rfl) (fun v13 h13 => ?_)
  refine pg_run (kd := 13) (k := 29) (x := 8) (fun _ _ _ => r170_123) (fun _ _ _ => r170_124) (fun _ _ _ => r170_126) (fun _ _ _ _ => r170_128) (by decide) h13 hV (Nat.le_of_ble_eq_true rfl) (fun v14 h14 => ?_)
  refine pg_run (kd := 13) (k := 30) (x := 8) (fun _ _ _ => r170_131) (fun _ _ _ => r170_132) (fun _ _ _ => r170_134) (fun _ _ _ _ => r170_136) (by decide) h14 hV (Nat.le_of_ble_eq_true rfl) (fun v15 h15 => ?_)
  simp only [r170_139]
  obtain ⟨⟨c1, c2⟩, c3, ⟨c4, c5, c6⟩, c7⟩ := h15
  refine hP v15 ⟨⟨c1, c2⟩, c3, ⟨c4, ⟨by rw [c5]; rfl, by rw [c5]; rfl, by rw [c5]; rfl, by rw [c5]; rfl, by rw [c5]; rfl, by rw [c5]; rfl, by rw [c5]; rfl, by rw [c5]; rfl, by rw [c5]; rfl, by rw [c5]; rfl, by rw [c5]; rfl, by rw [c5]; rfl, by rw [c5]; rfl, by rw [c5]; rfl, by rw [c5]; rfl, by rw [c5]; rfl⟩, (c7 0 _ _ rfl).1, (c7 1 _ _ rfl).1, (c7 2 _ _ rfl).1, (c7 3 _ _ rfl).1, (c7 4 _ _ rfl).1, (c7 5 _ _ rfl).1, (c7 6 _ _ rfl).1, (c7 7 _ _ rfl).1, (c7 8 _ _ rfl).1, (c7 9 _ _ rfl).1, (c7 10 _ _ rfl).1, (c7 11 _ _ rfl).1, (c7 12 _ _ rfl).1, (c7 13 _ _ rfl).1, (c7 14 _ _ rfl).1, (c7 15 _ _ rfl).1⟩, fun j => by rw [c6], fun a j q1 q2 => ?_⟩
  have : a = 279 ∨ a = 280 ∨ a = 281 ∨ a = 282 ∨ a = 283 ∨ a = 284 ∨ a = 285 ∨ a = 286 ∨ a = 287 ∨ a = 288 ∨ a = 289 ∨ a = 290 ∨ a = 291 ∨ a = 292 ∨ a = 293 ∨ a = 294 := by omega
  rcases this with rfl | rfl | rfl | rfl | rfl | rfl | rfl | rfl | rfl | rfl | rfl | rfl | rfl | rfl | rfl | rfl
  · exact (c7 0 _ _ rfl).2 j
  · exact (c7 1 _ _ rfl).2 j
  · exact (c7 2 _ _ rfl).2 j
  · exact (c7 3 _ _ rfl).2 j
  · exact (c7 4 _ _ rfl).2 j
  · exact (c7 5 _ _ rfl).2 j
  · exact (c7 6 _ _ rfl).2 j
  · exact (c7 7 _ _ rfl).2 j
  · exact (c7 8 _ _ rfl).2 j
  · exact (c7 9 _ _ rfl).2 j
  · exact (c7 10 _ _ rfl).2 j
  · exact (c7 11 _ _ rfl).2 j
  · exact (c7 12 _ _ rfl).2 j
  · exact (c7 13 _ _ rfl).2 j
  · exact (c7 14 _ _ rfl).2 j
  · exact (c7 15 _ _ rfl).2 j
end
/-- the first state -/
theorem inv0 {u0 u1 u2 : xMem} (h1 : F1 u0 u1) (h2 : F2 u1 u2) : Inv (xnew u2 14 1 1) ∧ xW (xnew u2 14 1 1) = 296 ∧ xN (xnew u2 14 1 1) 2000000 = xN u0 2000000 ∧ xI (xnew u2 14 1 1) 2000000 = xI u0 2000000 := by
  obtain ⟨⟨w1, -⟩, f1, ⟨a1, a2, a3, a4, a5, a6, a7, a8⟩, z1⟩ := h1
  obtain ⟨⟨w2, -⟩, f2, m2, y2, z2⟩ := h2
  have k1 : Kz u1 u2 0 278 := fun a _ h => by
    obtain ⟨x1, x2, x3, x4⟩ := f2 a (Or.inl h)
    exact ⟨fun k q => ⟨by omega, x1.trans q.2⟩, x2, x3, x4⟩
  have k2 : Kz u2 (xnew u2 14 1 1) 0 295 := Kz.nw (by omega)
  have k3 : Kz u1 (xnew u2 14 1 1) 0 278 := k1.tr (k2.sub (by omega) (by omega))
  have e295 : sA (xnew u2 14 1 1) 295 14 1 := ⟨by rw [xIs_e w2.symm], xN_e w2.symm⟩
  have q0 := k3 0 (by omega) (by omega)
  have q1 := k3 1 (by omega) (by omega)
  have q8 := k2 278 (by omega) (by omega)
  have zz : ∀ a j, a < 69 ∨ (269 ≤ a ∧ a < 273) ∨ (279 ≤ a ∧ a < 295) → xI (xnew u2 14 1 1) a j = 0 := fun a j q => by
    by_cases c : a < 278
    · rw [(k3 a (by omega) c).2.2.1]
      exact z1 a j (by omega)
    · rw [(k2 a (by omega) (by omega)).2.2.1]
      exact z2 a j (by omega) (by omega)
  have zm : ∀ j, xI (xnew u2 14 1 1) 278 j = if j = 2 then -1 else 0 := fun j => by rw [q8.2.2.1, y2 j]
  have hS : sSP (xnew u2 14 1 1) 34 := ⟨q0.1 _ a1.1, by rw [q0.2.2.2]; exact a1.2.1, by rw [q0.2.2.2]; exact a1.2.2.1, by rw [q0.2.2.2]; exact a1.2.2.2.1, by rw [q0.2.2.2]; exact a1.2.2.2.2.1, by rw [q0.2.2.2]; exact a1.2.2.2.2.2⟩
  have hR : sRd (xnew u2 14 1 1) 6 := by
    obtain ⟨b0, ⟨b1, b2, b3, b4⟩, b5, b6⟩ := a2
    exact ⟨q1.1 _ b0, ⟨by rw [q1.2.2.2]; exact b1, by rw [q1.2.2.2]; exact b2, by rw [q1.2.2.2]; exact b3, by rw [q1.2.2.2]; exact b4⟩, b5.kz k3 (by omega) (by omega), b6.kz k3 (by omega) (by omega)⟩
  have hM : sMd (xnew u2 14 1 1) := by
    obtain ⟨b0, ⟨b1, b2, b3, b4, b5, b6, b7, b8, b9, b10, b11, b12, b13, b14, b15, b16⟩, d0, d1, d2, d3, d4, d5, d6, d7, d8, d9, d10, d11, d12, d13, d14, d15⟩ := m2
    have kr := q8.2.2.2
    exact ⟨q8.1 _ b0, ⟨by rw [kr]; exact b1, by rw [kr]; exact b2, by rw [kr]; exact b3, by rw [kr]; exact b4, by rw [kr]; exact b5, by rw [kr]; exact b6, by rw [kr]; exact b7, by rw [kr]; exact b8, by rw [kr]; exact b9, by rw [kr]; exact b10, by rw [kr]; exact b11, by rw [kr]; exact b12, by rw [kr]; exact b13, by rw [kr]; exact b14, by rw [kr]; exact b15, by rw [kr]; exact b16⟩, d0.kz k2 (by omega) (by omega), d1.kz k2 (by omega) (by omega), d2.kz k2 (by omega) (by omega), d3.kz k2 (by omega) (by omega), d4.kz k2 (by omega) (by omega), d5.kz k2 (by omega) (by omega), d6.kz k2 (by omega) (by omega), d7.kz k2 (by omega) (by omega), d8.kz k2 (by omega) (by omega), d9.kz k2 (by omega) (by omega), d10.kz k2 (by omega) (by omega), d11.kz k2 (by omega) (by omega), d12.kz k2 (by omega) (by omega), d13.kz k2 (by omega) (by omega), d14.kz k2 (by omega) (by omega), d15.kz k2 (by omega) (by omega)⟩
  have hSh : Sh (xnew u2 14 1 1) 34 6 := ⟨Or.inr ⟨rfl, rfl⟩, hS, hR, a3.kz k3 (by omega) (by omega), a4.kz k3 (by omega) (by omega), a5.kz k3 (by omega) (by omega), a6.kz (k3.sub (by omega) (by omega)), a7.kz k3 (by omega) (by omega), a8.kz k3 (by omega) (by omega), hM, e295⟩
  have hw : xW (xnew u2 14 1 1) = 296 := by rw [xW_new, w2]
  have hN : xN (xnew u2 14 1 1) 2000000 = xN u0 2000000 := by rw [xN_n (by omega), (f2 2000000 (by omega)).2.1, (f1 2000000 (by omega)).2.1]
  have hI : xI (xnew u2 14 1 1) 2000000 = xI u0 2000000 := by rw [xIf_n (by omega), (f2 2000000 (by omega)).2.2.1, (f1 2000000 (by omega)).2.2.1]
  refine ⟨?_, hw, hN, hI⟩
  generalize xnew u2 14 1 1 = v at *
  have e0 : (0 : Int32) = nI 0 := rfl
  refine ⟨⟨?_, ?_⟩, 34, 6, 0, 0, 0, 0, 0, 0, 0, 0, 0, 0, 0, 0, false, hSh, ⟨⟨hSh.2.2.2.2.2.1, ?_⟩, ?_, ?_, ?_, ?_, ?_⟩, ⟨?_, ?_⟩, ⟨zz 0 2 (by omega), by rw [zm, if_neg (by omega)]; rfl, fun _ => rfl⟩, ⟨⟨⟨zz 62 0 (by omega), by omega⟩, fun l q => absurd q (by omega)⟩, ⟨zz 62 2 (by omega), by omega⟩, fun l q => absurd q (by omega), fun l q => absurd q (by omega), fun f f' q q2 => absurd q2 (by omega)⟩, ⟨by rw [zm, if_neg (by omega)]; rfl, by rw [zm, if_neg (by omega)]; rfl, fun l q => absurd q (by omega), fun l q => absurd q (by omega)⟩, ⟨⟨zz 269 0 (by omega), by omega, by rw [zm, if_neg (by omega)]; rfl⟩, fun k q => absurd q (by omega), Nat.le_refl _, Nat.le_refl _, Nat.le_refl _, Nat.le_refl _⟩, ⟨zz 2 1 (by omega), by rw [zm, if_neg (by omega)]; rfl, by omega⟩, ⟨fun j => by rw [zz 3 j (by omega), zz 283 j (by omega)], fun j _ => by rw [zz 3 j (by omega)]; decide⟩, by rw [zm, if_neg (by omega), zz 1 5 (by omega)]⟩
  · rw [zm, zz 0 6 (by omega)]
    rfl
  · rw [zm, zz 0 6 (by omega)]
    rfl
  · exact ⟨⟨zz _ _ (by omega), by omega⟩, ⟨zz _ _ (by omega), by omega⟩, ⟨zz _ _ (by omega), by omega⟩, ⟨zz _ _ (by omega), by omega⟩, ⟨zz _ _ (by omega), by omega⟩, ⟨zz _ _ (by omega), by omega⟩, ⟨zz _ _ (by omega), by omega⟩, ⟨zz _ _ (by omega), by omega⟩, fun j q => absurd q (by omega), fun b q => absurd q (by omega)⟩
  · exact fun b q => absurd q (by omega)
  · exact fun b q => absurd q (by omega)
  · exact ⟨fun b q => absurd q (by omega), fun b q => absurd q (by omega)⟩
  · exact fun b q => absurd q (by omega)
  · exact ⟨fun b q => absurd q (by omega), fun b q => absurd q (by omega), fun b q => absurd q (by omega)⟩
  · have z9 : ∀ j, xI v 279 j = 0 := fun j => zz 279 j (by omega)
    exact ⟨(z9 _).trans (zz _ _ (by omega)).symm, (z9 _).trans (zz _ _ (by omega)).symm, (z9 _).trans (zz _ _ (by omega)).symm, (z9 _).trans (zz _ _ (by omega)).symm, (z9 _).trans (zz _ _ (by omega)).symm, (z9 _).trans (zz _ _ (by omega)).symm, (z9 _).trans (zz _ _ (by omega)).symm, (z9 _).trans (zz _ _ (by omega)).symm⟩
  · refine ⟨fun c q => absurd q (by omega), fun c q => absurd q (by omega), fun c q => absurd q (by omega), fun c q => absurd q (by omega), fun c q => absurd q (by omega), fun c q => absurd q (by omega)⟩
