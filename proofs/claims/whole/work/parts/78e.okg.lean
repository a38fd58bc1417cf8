/-! THE DESK stays sound as lines are added -/
section
variable {g v w : xMem} {P : Option Value → xMem → Prop} {e a b E s nl np nb nc nr nh nk n r k : Nat} {x y z p c d lo hi : Int32}
theorem xI_at {u : xMem} {a k : Nat} {v : Int32} : xI (xsI u a k v) a k = v := by rw [xI_sI, if_pos ⟨rfl, rfl⟩]
theorem xI_nj {u : xMem} {a k j : Nat} {v : Int32} (h : j ≠ k) : xI (xsI u a k v) a j = xI u a j := xI_ne (Or.inr h)
theorem okG.mv (k : okG g E s nl np nb nc nr nh nk) (h1 : w.1 = g.1) (h2 : w.2.2.2 = g.2.2.2) (hf : ∀ c, E < c → c ≤ E + 26 → xI w c = xI g c) : okG w E s nl np nb nc nr nh nk := by
  obtain ⟨k1, k2, k3, k4, k5, k6⟩ := k
  refine ⟨k1.mv h1 h2 (fun c hc => hf c (by omega) (by omega)), ?_, ?_, ?_, ?_, ?_⟩
  · unfold okXY
    rw [hf (E + 7) (by omega) (by omega), hf (E + 8) (by omega) (by omega), hf (E + 9) (by omega) (by omega)]
    exact k2
  · unfold okOn
    rw [hf (E + 3) (by omega) (by omega)]
    exact k3
  · unfold okRv
    rw [hf (E + 18) (by omega) (by omega), hf (E + 26) (by omega) (by omega)]
    exact k4
  · unfold okRm
    rw [hf (E + 18) (by omega) (by omega)]
    exact k5
  · unfold okDy
    rw [hf (E + 6) (by omega) (by omega), hf (E + 17) (by omega) (by omega), hf (E + 21) (by omega) (by omega), hf (E + 22) (by omega) (by omega)]
    exact k6
theorem okG.kp (k : okG g E s nl np nb nc nr nh nk) (hE : E = 6 ∨ E = 34) (h : Kp g w) : okG w E s nl np nb nc nr nh nk := k.mv h.1 h.2.1 (fun c h1 h2 => h.f (by omega) (by omega))
theorem i32_w {x lo hi : Int32} {a b : Nat} (h : lo ≤ x ∧ x ≤ hi) (h0 : 0 ≤ lo) (hb : hi = nI b) (hb2 : b < 2 ^ 31) : ∃ k, k ≤ b ∧ x = nI k := by
  subst hb
  exact i32_le0 (by have := i32_le.mp h0; have := i32_le.mp h.1; rw [i32_le]; omega) h.2 hb2
theorem okG.addC (h : okG g E s nl np nb nc nr nh nk) (hn : nc < 6) (ho : x = -2 ∨ ∃ i, i < nc ∧ x = nI i) : okG (mAddC g E nc x) E s nl np nb (nc + 1) nr nh nk := by
  obtain ⟨⟨d0, d1, d2, d3, d4, d5, d6, d7, d8, d9, d10⟩, hXY, hOn, hRv, hRm, hDy⟩ := h
  have e : ∀ cc, cc ≠ E + 12 → cc ≠ E + 13 → xI (mAddC g E nc x) cc = xI g cc := fun cc h0 h1 => by unfold mAddC; simp (disch := omega) only [xIf_sI]
  refine ⟨⟨d0, ?_, ?_, ?_, ?_, ?_, ?_, ?_, ?_, ?_, ?_⟩, ?_, ?_, ?_, ?_, ?_⟩
  · rw [e (E + 1) (by omega) (by omega)]
    exact d1
  · rw [e (E + 1) (by omega) (by omega)]
    exact d2
  · rw [e (E + 1) (by omega) (by omega)]
    exact d3
  · rw [e (E + 4) (by omega) (by omega)]
    exact d4
  · exact ⟨xI_at, by omega⟩
  · rw [e (E + 14) (by omega) (by omega)]
    exact d6
  · have q : xI (mAddC g E nc x) (E + 12) 3 = xI g (E + 12) 3 := by unfold mAddC; simp (disch := omega) only [xIf_sI, xI_nj]
    rw [q]
    exact d7
  · have q : xI (mAddC g E nc x) (E + 12) 9 = xI g (E + 12) 9 := by unfold mAddC; simp (disch := omega) only [xIf_sI, xI_nj]
    rw [q]
    exact d8
  · have q : ∀ j, xI (mAddC g E nc x) (E + 13) j = if j = nc then x else xI g (E + 13) j := fun j => by
      unfold mAddC
      rw [xIf_sI (by omega), xI_sI]
      by_cases c : j = nc
      · rw [if_pos c, if_pos ⟨rfl, c⟩]
      · rw [if_neg c, if_neg (fun z => c z.2)]
    intro j hj
    rw [q j]
    by_cases c : j = nc
    · rw [if_pos c, c]; exact ho
    · rw [if_neg c]; exact d9 j (by omega)
  · rw [e (E + 7) (by omega) (by omega)]
    exact d10
  · unfold okXY
    rw [e (E + 7) (by omega) (by omega), e (E + 8) (by omega) (by omega), e (E + 9) (by omega) (by omega)]
    exact hXY
  · unfold okOn
    rw [e (E + 3) (by omega) (by omega)]
    exact hOn
  · unfold okRv
    rw [e (E + 18) (by omega) (by omega), e (E + 26) (by omega) (by omega)]
    exact hRv
  · unfold okRm
    rw [e (E + 18) (by omega) (by omega)]
    exact hRm
  · unfold okDy
    rw [e (E + 6) (by omega) (by omega), e (E + 17) (by omega) (by omega), e (E + 21) (by omega) (by omega), e (E + 22) (by omega) (by omega)]
    exact hDy
theorem okG.addP (h : okG g E s nl np nb nc nr nh nk) (hn : np < 10) {t : Bool} : okG (mAddP g E np x (bI t)) E s nl (np + 1) nb nc nr nh nk := by
  obtain ⟨⟨d0, d1, d2, d3, d4, d5, d6, d7, d8, d9, d10⟩, hXY, hOn, hRv, hRm, hDy⟩ := h
  have e : ∀ cc, cc ≠ E + 1 → cc ≠ E + 2 → cc ≠ E + 3 → xI (mAddP g E np x (bI t)) cc = xI g cc := fun cc h0 h1 h2 => by unfold mAddP; simp (disch := omega) only [xIf_sI]
  refine ⟨⟨d0, ?_, ?_, ?_, ?_, ?_, ?_, ?_, ?_, ?_, ?_⟩, ?_, ?_, ?_, ?_, ?_⟩
  · have q : xI (mAddP g E np x (bI t)) (E + 1) 0 = xI g (E + 1) 0 := by unfold mAddP; simp (disch := omega) only [xIf_sI, xI_nj]
    rw [q]
    exact d1
  · have q : xI (mAddP g E np x (bI t)) (E + 1) 1 = xI g (E + 1) 1 := by unfold mAddP; simp (disch := omega) only [xIf_sI, xI_nj]
    rw [q]
    exact d2
  · exact ⟨xI_at, by omega⟩
  · rw [e (E + 4) (by omega) (by omega) (by omega)]
    exact d4
  · rw [e (E + 12) (by omega) (by omega) (by omega)]
    exact d5
  · rw [e (E + 14) (by omega) (by omega) (by omega)]
    exact d6
  · rw [e (E + 12) (by omega) (by omega) (by omega)]
    exact d7
  · rw [e (E + 12) (by omega) (by omega) (by omega)]
    exact d8
  · rw [e (E + 13) (by omega) (by omega) (by omega)]
    exact d9
  · rw [e (E + 7) (by omega) (by omega) (by omega)]
    exact d10
  · unfold okXY
    rw [e (E + 7) (by omega) (by omega) (by omega), e (E + 8) (by omega) (by omega) (by omega), e (E + 9) (by omega) (by omega) (by omega)]
    exact hXY
  · have q : ∀ j, xI (mAddP g E np x (bI t)) (E + 3) j = if j = np then bI t else xI g (E + 3) j := fun j => by
      unfold mAddP
      rw [xIf_sI (by omega), xI_sI]
      by_cases c : j = np
      · rw [if_pos c, if_pos ⟨rfl, c⟩]
      · rw [if_neg c, if_neg (fun z => c z.2), xIf_sI (by omega)]
    intro j hj
    rw [q j]
    by_cases c : j = np
    · rw [if_pos c]; exact bI_01 t
    · rw [if_neg c]; exact hOn j (by omega)
  · unfold okRv
    rw [e (E + 18) (by omega) (by omega) (by omega), e (E + 26) (by omega) (by omega) (by omega)]
    exact hRv
  · unfold okRm
    rw [e (E + 18) (by omega) (by omega) (by omega)]
    exact hRm
  · unfold okDy
    rw [e (E + 6) (by omega) (by omega) (by omega), e (E + 17) (by omega) (by omega) (by omega), e (E + 21) (by omega) (by omega) (by omega), e (E + 22) (by omega) (by omega) (by omega)]
    exact hDy
theorem okG.addR (h : okG g E s nl np nb nc nr nh nk) (hn : nr < 20) (hd : ∃ a, a ≤ 999 ∧ d = nI a) (hx : 0 ≤ x ∧ x ≤ 2500) : okG (mAddR g (E + 14) nr p c d x) E s nl np nb nc (nr + 1) nh nk := by
  obtain ⟨⟨d0, d1, d2, d3, d4, d5, d6, d7, d8, d9, d10⟩, hXY, hOn, hRv, hRm, hDy⟩ := h
  have e : ∀ cc, cc ≠ E + 14 → cc ≠ E + 15 → cc ≠ E + 16 → cc ≠ E + 17 → cc ≠ E + 18 → xI (mAddR g (E + 14) nr p c d x) cc = xI g cc := fun cc h0 h1 h2 h3 h4 => by unfold mAddR; simp (disch := omega) only [xIf_sI]
  have q17 : ∀ j, xI (mAddR g (E + 14) nr p c d x) (E + 17) j = if j = nr then d else xI g (E + 17) j := fun j => by
    unfold mAddR
    simp (disch := omega) only [xIf_sI]
    rw [xI_sI]
    by_cases c : j = nr
    · rw [if_pos c, if_pos ⟨rfl, c⟩]
    · rw [if_neg c, if_neg (fun z => c z.2)]
      simp (disch := omega) only [xIf_sI]
  have q18 : ∀ j, xI (mAddR g (E + 14) nr p c d x) (E + 18) j = if j = nr then x else xI g (E + 18) j := fun j => by
    unfold mAddR
    simp (disch := omega) only [xIf_sI]
    rw [xI_sI]
    by_cases c : j = nr
    · rw [if_pos c, if_pos ⟨rfl, c⟩]
    · rw [if_neg c, if_neg (fun z => c z.2)]
      simp (disch := omega) only [xIf_sI]
  refine ⟨⟨d0, ?_, ?_, ?_, ?_, ?_, ?_, ?_, ?_, ?_, ?_⟩, ?_, ?_, ?_, ?_, ?_⟩
  · rw [e (E + 1) (by omega) (by omega) (by omega) (by omega) (by omega)]
    exact d1
  · rw [e (E + 1) (by omega) (by omega) (by omega) (by omega) (by omega)]
    exact d2
  · rw [e (E + 1) (by omega) (by omega) (by omega) (by omega) (by omega)]
    exact d3
  · rw [e (E + 4) (by omega) (by omega) (by omega) (by omega) (by omega)]
    exact d4
  · rw [e (E + 12) (by omega) (by omega) (by omega) (by omega) (by omega)]
    exact d5
  · exact ⟨xI_at, by omega⟩
  · rw [e (E + 12) (by omega) (by omega) (by omega) (by omega) (by omega)]
    exact d7
  · rw [e (E + 12) (by omega) (by omega) (by omega) (by omega) (by omega)]
    exact d8
  · rw [e (E + 13) (by omega) (by omega) (by omega) (by omega) (by omega)]
    exact d9
  · rw [e (E + 7) (by omega) (by omega) (by omega) (by omega) (by omega)]
    exact d10
  · unfold okXY
    rw [e (E + 7) (by omega) (by omega) (by omega) (by omega) (by omega), e (E + 8) (by omega) (by omega) (by omega) (by omega) (by omega), e (E + 9) (by omega) (by omega) (by omega) (by omega) (by omega)]
    exact hXY
  · unfold okOn
    rw [e (E + 3) (by omega) (by omega) (by omega) (by omega) (by omega)]
    exact hOn
  · unfold okRv
    rw [e (E + 26) (by omega) (by omega) (by omega) (by omega) (by omega)]
    refine ⟨fun j hj => ?_, hRv.2⟩
    rw [q18 j]
    by_cases z : j = nr
    · rw [if_pos z]; exact hx.1
    · rw [if_neg z]; exact hRv.1 j (by omega)
  · intro j hj
    rw [q18 j]
    by_cases z : j = nr
    · rw [if_pos z]; exact hx.2
    · rw [if_neg z]; exact hRm j (by omega)
  · unfold okDy
    rw [e (E + 6) (by omega) (by omega) (by omega) (by omega) (by omega), e (E + 21) (by omega) (by omega) (by omega) (by omega) (by omega), e (E + 22) (by omega) (by omega) (by omega) (by omega) (by omega)]
    refine ⟨hDy.1, fun j hj => ?_, hDy.2.2⟩
    rw [q17 j]
    by_cases z : j = nr
    · rw [if_pos z]; exact hd
    · rw [if_neg z]; exact hDy.2.1 j (by omega)
theorem okG.addH (h : okG g E s nl np nb nc nr nh nk) (hn : nh < 6) (hd : ∃ a b, a ≤ b ∧ b ≤ 999 ∧ d = nI a ∧ x = nI b) : okG (mAddH g (E + 12) nh p c d x y) E s nl np nb nc nr (nh + 1) nk := by
  obtain ⟨⟨d0, d1, d2, d3, d4, d5, d6, d7, d8, d9, d10⟩, hXY, hOn, hRv, hRm, hDy⟩ := h
  have e : ∀ cc, cc ≠ E + 12 → cc ≠ E + 19 → cc ≠ E + 20 → cc ≠ E + 21 → cc ≠ E + 22 → cc ≠ E + 23 → xI (mAddH g (E + 12) nh p c d x y) cc = xI g cc := fun cc h0 h1 h2 h3 h4 h5 => by unfold mAddH; simp (disch := omega) only [xIf_sI]
  have q21 : ∀ j, xI (mAddH g (E + 12) nh p c d x y) (E + 21) j = if j = nh then d else xI g (E + 21) j := fun j => by
    unfold mAddH
    simp (disch := omega) only [xIf_sI]
    rw [xI_sI]
    by_cases c : j = nh
    · rw [if_pos c, if_pos ⟨rfl, c⟩]
    · rw [if_neg c, if_neg (fun z => c z.2)]
      simp (disch := omega) only [xIf_sI]
  have q22 : ∀ j, xI (mAddH g (E + 12) nh p c d x y) (E + 22) j = if j = nh then x else xI g (E + 22) j := fun j => by
    unfold mAddH
    simp (disch := omega) only [xIf_sI]
    rw [xI_sI]
    by_cases c : j = nh
    · rw [if_pos c, if_pos ⟨rfl, c⟩]
    · rw [if_neg c, if_neg (fun z => c z.2)]
      simp (disch := omega) only [xIf_sI]
  refine ⟨⟨d0, ?_, ?_, ?_, ?_, ?_, ?_, ?_, ?_, ?_, ?_⟩, ?_, ?_, ?_, ?_, ?_⟩
  · rw [e (E + 1) (by omega) (by omega) (by omega) (by omega) (by omega) (by omega)]
    exact d1
  · rw [e (E + 1) (by omega) (by omega) (by omega) (by omega) (by omega) (by omega)]
    exact d2
  · rw [e (E + 1) (by omega) (by omega) (by omega) (by omega) (by omega) (by omega)]
    exact d3
  · rw [e (E + 4) (by omega) (by omega) (by omega) (by omega) (by omega) (by omega)]
    exact d4
  · have q : xI (mAddH g (E + 12) nh p c d x y) (E + 12) 0 = xI g (E + 12) 0 := by unfold mAddH; simp (disch := omega) only [xIf_sI, xI_nj]
    rw [q]
    exact d5
  · rw [e (E + 14) (by omega) (by omega) (by omega) (by omega) (by omega) (by omega)]
    exact d6
  · exact ⟨xI_at, by omega⟩
  · have q : xI (mAddH g (E + 12) nh p c d x y) (E + 12) 9 = xI g (E + 12) 9 := by unfold mAddH; simp (disch := omega) only [xIf_sI, xI_nj]
    rw [q]
    exact d8
  · rw [e (E + 13) (by omega) (by omega) (by omega) (by omega) (by omega) (by omega)]
    exact d9
  · rw [e (E + 7) (by omega) (by omega) (by omega) (by omega) (by omega) (by omega)]
    exact d10
  · unfold okXY
    rw [e (E + 7) (by omega) (by omega) (by omega) (by omega) (by omega) (by omega), e (E + 8) (by omega) (by omega) (by omega) (by omega) (by omega) (by omega), e (E + 9) (by omega) (by omega) (by omega) (by omega) (by omega) (by omega)]
    exact hXY
  · unfold okOn
    rw [e (E + 3) (by omega) (by omega) (by omega) (by omega) (by omega) (by omega)]
    exact hOn
  · unfold okRv
    rw [e (E + 18) (by omega) (by omega) (by omega) (by omega) (by omega) (by omega), e (E + 26) (by omega) (by omega) (by omega) (by omega) (by omega) (by omega)]
    exact hRv
  · unfold okRm
    rw [e (E + 18) (by omega) (by omega) (by omega) (by omega) (by omega) (by omega)]
    exact hRm
  · unfold okDy
    rw [e (E + 6) (by omega) (by omega) (by omega) (by omega) (by omega) (by omega), e (E + 17) (by omega) (by omega) (by omega) (by omega) (by omega) (by omega)]
    refine ⟨hDy.1, hDy.2.1, fun j hj => ?_⟩
    rw [q21 j, q22 j]
    by_cases z : j = nh
    · rw [if_pos z, if_pos z]; exact hd
    · rw [if_neg z, if_neg z]; exact hDy.2.2 j (by omega)
theorem okG.addK (h : okG g E s nl np nb nc nr nh nk) (hn : nk < 6) (hx : 0 < x) : okG (mAddK g (E + 12) nk p c x) E s nl np nb nc nr nh (nk + 1) := by
  obtain ⟨⟨d0, d1, d2, d3, d4, d5, d6, d7, d8, d9, d10⟩, hXY, hOn, hRv, hRm, hDy⟩ := h
  have e : ∀ cc, cc ≠ E + 12 → cc ≠ E + 24 → cc ≠ E + 25 → cc ≠ E + 26 → xI (mAddK g (E + 12) nk p c x) cc = xI g cc := fun cc h0 h1 h2 h3 => by unfold mAddK; simp (disch := omega) only [xIf_sI]
  have q26 : ∀ j, xI (mAddK g (E + 12) nk p c x) (E + 26) j = if j = nk then x else xI g (E + 26) j := fun j => by
    unfold mAddK
    simp (disch := omega) only [xIf_sI]
    rw [xI_sI]
    by_cases c : j = nk
    · rw [if_pos c, if_pos ⟨rfl, c⟩]
    · rw [if_neg c, if_neg (fun z => c z.2)]
      simp (disch := omega) only [xIf_sI]
  refine ⟨⟨d0, ?_, ?_, ?_, ?_, ?_, ?_, ?_, ?_, ?_, ?_⟩, ?_, ?_, ?_, ?_, ?_⟩
  · rw [e (E + 1) (by omega) (by omega) (by omega) (by omega)]
    exact d1
  · rw [e (E + 1) (by omega) (by omega) (by omega) (by omega)]
    exact d2
  · rw [e (E + 1) (by omega) (by omega) (by omega) (by omega)]
    exact d3
  · rw [e (E + 4) (by omega) (by omega) (by omega) (by omega)]
    exact d4
  · have q : xI (mAddK g (E + 12) nk p c x) (E + 12) 0 = xI g (E + 12) 0 := by unfold mAddK; simp (disch := omega) only [xIf_sI, xI_nj]
    rw [q]
    exact d5
  · rw [e (E + 14) (by omega) (by omega) (by omega) (by omega)]
    exact d6
  · have q : xI (mAddK g (E + 12) nk p c x) (E + 12) 3 = xI g (E + 12) 3 := by unfold mAddK; simp (disch := omega) only [xIf_sI, xI_nj]
    rw [q]
    exact d7
  · exact ⟨xI_at, by omega⟩
  · rw [e (E + 13) (by omega) (by omega) (by omega) (by omega)]
    exact d9
  · rw [e (E + 7) (by omega) (by omega) (by omega) (by omega)]
    exact d10
  · unfold okXY
    rw [e (E + 7) (by omega) (by omega) (by omega) (by omega), e (E + 8) (by omega) (by omega) (by omega) (by omega), e (E + 9) (by omega) (by omega) (by omega) (by omega)]
    exact hXY
  · unfold okOn
    rw [e (E + 3) (by omega) (by omega) (by omega) (by omega)]
    exact hOn
  · unfold okRv
    rw [e (E + 18) (by omega) (by omega) (by omega) (by omega)]
    refine ⟨hRv.1, fun j hj => ?_⟩
    rw [q26 j]
    by_cases z : j = nk
    · rw [if_pos z]; exact hx
    · rw [if_neg z]; exact hRv.2 j (by omega)
  · unfold okRm
    rw [e (E + 18) (by omega) (by omega) (by omega) (by omega)]
    exact hRm
  · unfold okDy
    rw [e (E + 6) (by omega) (by omega) (by omega) (by omega), e (E + 17) (by omega) (by omega) (by omega) (by omega), e (E + 21) (by omega) (by omega) (by omega) (by omega), e (E + 22) (by omega) (by omega) (by omega) (by omega)]
    exact hDy
theorem okG.addB (h : okG g E s nl np nb nc nr nh nk) {m : Nat} (hn : nb < 16) (hd : ∃ a, a ≤ 999 ∧ d = nI a) (hx : m ≤ 6 ∧ x = nI m) (hc : ∀ i, i < m → (∃ a, a ≤ 40 ∧ xI g (E + 8) (6 * nb + i) = nI a) ∧ ∃ a, a ≤ 40 ∧ xI g (E + 9) (6 * nb + i) = nI a) : okG (mAdd g (E + 4) nb p d x) E s nl np (nb + 1) nc nr nh nk := by
  obtain ⟨⟨d0, d1, d2, d3, d4, d5, d6, d7, d8, d9, d10⟩, hXY, hOn, hRv, hRm, hDy⟩ := h
  have e : ∀ cc, cc ≠ E + 4 → cc ≠ E + 5 → cc ≠ E + 6 → cc ≠ E + 7 → xI (mAdd g (E + 4) nb p d x) cc = xI g cc := fun cc h0 h1 h2 h3 => by unfold mAdd; simp (disch := omega) only [xIf_sI]
  have q6 : ∀ j, xI (mAdd g (E + 4) nb p d x) (E + 6) j = if j = nb then d else xI g (E + 6) j := fun j => by
    unfold mAdd
    simp (disch := omega) only [xIf_sI]
    rw [xI_sI]
    by_cases c : j = nb
    · rw [if_pos c, if_pos ⟨rfl, c⟩]
    · rw [if_neg c, if_neg (fun z => c z.2)]
      simp (disch := omega) only [xIf_sI]
  have q7 : ∀ j, xI (mAdd g (E + 4) nb p d x) (E + 7) j = if j = nb then x else xI g (E + 7) j := fun j => by
    unfold mAdd
    simp (disch := omega) only [xIf_sI]
    rw [xI_sI]
    by_cases c : j = nb
    · rw [if_pos c, if_pos ⟨rfl, c⟩]
    · rw [if_neg c, if_neg (fun z => c z.2)]
      simp (disch := omega) only [xIf_sI]
  refine ⟨⟨d0, ?_, ?_, ?_, ?_, ?_, ?_, ?_, ?_, ?_, ?_⟩, ?_, ?_, ?_, ?_, ?_⟩
  · rw [e (E + 1) (by omega) (by omega) (by omega) (by omega)]
    exact d1
  · rw [e (E + 1) (by omega) (by omega) (by omega) (by omega)]
    exact d2
  · rw [e (E + 1) (by omega) (by omega) (by omega) (by omega)]
    exact d3
  · exact ⟨xI_at, by omega⟩
  · rw [e (E + 12) (by omega) (by omega) (by omega) (by omega)]
    exact d5
  · rw [e (E + 14) (by omega) (by omega) (by omega) (by omega)]
    exact d6
  · rw [e (E + 12) (by omega) (by omega) (by omega) (by omega)]
    exact d7
  · rw [e (E + 12) (by omega) (by omega) (by omega) (by omega)]
    exact d8
  · rw [e (E + 13) (by omega) (by omega) (by omega) (by omega)]
    exact d9
  · intro j hj
    rw [q7 j]
    by_cases z : j = nb
    · rw [if_pos z]; exact ⟨m, hx⟩
    · rw [if_neg z]; exact d10 j (by omega)
  · unfold okXY
    rw [e (E + 8) (by omega) (by omega) (by omega) (by omega), e (E + 9) (by omega) (by omega) (by omega) (by omega)]
    intro j hj i hi
    rw [q7 j] at hi
    by_cases z : j = nb
    · rw [if_pos z, hx.2, xix_nI (by omega)] at hi
      rw [z]; exact hc i hi
    · rw [if_neg z] at hi; exact hXY j (by omega) i hi
  · unfold okOn
    rw [e (E + 3) (by omega) (by omega) (by omega) (by omega)]
    exact hOn
  · unfold okRv
    rw [e (E + 18) (by omega) (by omega) (by omega) (by omega), e (E + 26) (by omega) (by omega) (by omega) (by omega)]
    exact hRv
  · unfold okRm
    rw [e (E + 18) (by omega) (by omega) (by omega) (by omega)]
    exact hRm
  · unfold okDy
    rw [e (E + 17) (by omega) (by omega) (by omega) (by omega), e (E + 21) (by omega) (by omega) (by omega) (by omega), e (E + 22) (by omega) (by omega) (by omega) (by omega)]
    refine ⟨fun j hj => ?_, hDy.2⟩
    rw [q6 j]
    by_cases z : j = nb
    · rw [if_pos z]; exact hd
    · rw [if_neg z]; exact hDy.1 j (by omega)
theorem okG_beg (h : sDk g E) (hs : s ≤ 40) (hl : nl ≤ 4) : okG (mBeg g E (nI s) (nI nl)) E s nl 0 0 0 0 0 0 := by
  have e1 : xI (mBeg g E (nI s) (nI nl)) (E + 1) 0 = nI s := by unfold mBeg; simp (disch := omega) only [xIf_sI, xI_nj, xI_at]
  have e2 : xI (mBeg g E (nI s) (nI nl)) (E + 1) 1 = nI nl := by unfold mBeg; simp (disch := omega) only [xIf_sI, xI_nj, xI_at]
  have e3 : xI (mBeg g E (nI s) (nI nl)) (E + 1) 2 = nI 0 := by unfold mBeg; simp (disch := omega) only [xIf_sI, xI_nj, xI_at]; rfl
  have e4 : xI (mBeg g E (nI s) (nI nl)) (E + 4) 0 = nI 0 := by unfold mBeg; simp (disch := omega) only [xIf_sI, xI_nj, xI_at]; rfl
  have e5 : xI (mBeg g E (nI s) (nI nl)) (E + 12) 0 = nI 0 := by unfold mBeg; simp (disch := omega) only [xIf_sI, xI_nj, xI_at]; rfl
  have e6 : xI (mBeg g E (nI s) (nI nl)) (E + 14) 0 = nI 0 := by unfold mBeg; simp (disch := omega) only [xIf_sI, xI_nj, xI_at]; rfl
  have e7 : xI (mBeg g E (nI s) (nI nl)) (E + 12) 3 = nI 0 := by unfold mBeg; simp (disch := omega) only [xIf_sI, xI_nj, xI_at]; rfl
  have e8 : xI (mBeg g E (nI s) (nI nl)) (E + 12) 9 = nI 0 := by unfold mBeg; simp (disch := omega) only [xIf_sI, xI_nj, xI_at]; rfl
  exact ⟨⟨h, ⟨e1, hs⟩, ⟨e2, hl⟩, ⟨e3, by omega⟩, ⟨e4, by omega⟩, ⟨e5, by omega⟩, ⟨e6, by omega⟩, ⟨e7, by omega⟩, ⟨e8, by omega⟩, fun j hj => absurd hj (by omega), fun j hj => absurd hj (by omega)⟩, fun j hj => absurd hj (by omega), fun j hj => absurd hj (by omega), ⟨fun j hj => absurd hj (by omega), fun j hj => absurd hj (by omega)⟩, fun j hj => absurd hj (by omega), fun j hj => absurd hj (by omega), fun j hj => absurd hj (by omega), fun j hj => absurd hj (by omega)⟩
end
