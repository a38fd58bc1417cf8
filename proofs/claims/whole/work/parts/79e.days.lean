/-! DAYS between changes -/
theorem nI_inj {a b : Nat} (ha : a < 2147483648) (hb : b < 2147483648) : nI a = nI b ↔ a = b := nI_eq ha hb
theorem nI_leJ {a b : Nat} (ha : a < 2147483648) (hb : b < 2147483648) : nI a ≤ nI b ↔ a ≤ b := by
  rw [i32_le, nI_toI (by omega), nI_toI (by omega)]
  omega
theorem nI_ltJ {a b : Nat} (ha : a < 2147483648) (hb : b < 2147483648) : nI a < nI b ↔ a < b := by
  rw [i32_lt, nI_toI (by omega), nI_toI (by omega)]
  omega
/-- no day of these n lies between d and t -/
def Gap (day : Nat → Int32) (n d t : Nat) : Prop := ∀ k, k < n → ∀ e, day k = nI e → e ≤ 1000 → ¬ (d < e ∧ e < t)
theorem Gap.wk {day : Nat → Int32} {n d t t' : Nat} (h : Gap day n d t) (ht : t' ≤ t) : Gap day n d t' := fun k hk e he h1 q => h k hk e he h1 ⟨q.1, by omega⟩
theorem fNa_gap {day : Nat → Int32} {d : Nat} (hd : d ≤ 999) : ∀ n, (∀ k, k < n → ∃ e, e ≤ 999 ∧ day k = nI e) → ∃ t, d < t ∧ t ≤ 1000 ∧ fNa day (nI d) n = nI t ∧ Gap day n d t ∧ (t ≤ 999 → ∃ k, k < n ∧ day k = nI t) := by
  intro n
  induction n with
  | zero => intro _; exact ⟨1000, by omega, by omega, rfl, fun k hk => absurd hk (by omega), fun q => absurd q (by omega)⟩
  | succ n ih =>
    intro h
    obtain ⟨t, h1, h2, h3, h4, h5⟩ := ih (fun k hk => h k (by omega))
    obtain ⟨e, he, ee⟩ := h n (by omega)
    unfold fNa
    rw [h3, ee]
    simp (disch := omega) only [nI_ltJ]
    by_cases c : d < e ∧ e < t
    · rw [if_pos c]
      refine ⟨e, c.1, by omega, rfl, fun k hk f hf hf1 q => ?_, fun _ => ⟨n, by omega, ee⟩⟩
      by_cases z : k = n
      · subst z
        rw [ee] at hf
        have := (nI_inj (by omega) (by omega)).mp hf
        omega
      · exact h4 k (by omega) f hf hf1 ⟨q.1, by omega⟩
    · rw [if_neg c]
      refine ⟨t, h1, h2, rfl, fun k hk f hf hf1 q => ?_, fun q => ?_⟩
      · by_cases z : k = n
        · subst z
          rw [ee] at hf
          have := (nI_inj (by omega) (by omega)).mp hf
          subst this
          exact c q
        · exact h4 k (by omega) f hf hf1 q
      · obtain ⟨k, hk, e1⟩ := h5 q
        exact ⟨k, by omega, e1⟩
theorem fNr_gap {d t e : Nat} (ht : d < t ∧ t ≤ 1000) (he : e ≤ 1000) : ∃ t', d < t' ∧ t' ≤ t ∧ fNr (nI t) (nI d) (nI e) = nI t' ∧ ¬ (d < e ∧ e < t') := by
  unfold fNr
  simp (disch := omega) only [nI_ltJ]
  by_cases c : d < e ∧ e < t
  · rw [if_pos c]
    exact ⟨e, c.1, by omega, rfl, by omega⟩
  · rw [if_neg c]
    exact ⟨t, ht.1, by omega, rfl, c⟩
theorem fTnR_gap {day : Nat → Int32} {d : Nat} (hd : d ≤ 999) : ∀ n, (∀ k, k < n → ∃ e, e ≤ 999 ∧ day k = nI e) → ∃ t, d < t ∧ t ≤ 1000 ∧ fTnR day (nI d) n = nI t ∧ Gap day n d t := by
  intro n
  induction n with
  | zero => intro _; exact ⟨1000, by omega, by omega, rfl, fun k hk => absurd hk (by omega)⟩
  | succ n ih =>
    intro h
    obtain ⟨t, h1, h2, h3, h4⟩ := ih (fun k hk => h k (by omega))
    obtain ⟨e, he, ee⟩ := h n (by omega)
    unfold fTnR
    rw [h3, ee]
    obtain ⟨t', g1, g2, g3, g4⟩ := fNr_gap (e := e) ⟨h1, h2⟩ (by omega)
    refine ⟨t', g1, by omega, g3, fun k hk f hf hf1 q => ?_⟩
    by_cases z : k = n
    · subst z
      rw [ee] at hf
      have := (nI_inj (by omega) (by omega)).mp hf
      subst this
      exact g4 q
    · exact h4 k (by omega) f hf hf1 ⟨q.1, by omega⟩
theorem fTnH_gap {fi la : Nat → Int32} {d t0 : Nat} (ht0 : d < t0 ∧ t0 ≤ 1000) : ∀ n, (∀ k, k < n → ∃ a b, a ≤ b ∧ b ≤ 999 ∧ fi k = nI a ∧ la k = nI b) → ∃ t, d < t ∧ t ≤ t0 ∧ fTnH fi la (nI d) (nI t0) n = nI t ∧ Gap fi n d t ∧ Gap (fun k => la k + 1) n d t := by
  intro n
  induction n with
  | zero => intro _; exact ⟨t0, ht0.1, by omega, rfl, fun k hk => absurd hk (by omega), fun k hk => absurd hk (by omega)⟩
  | succ n ih =>
    intro h
    obtain ⟨t, h1, h2, h3, h4, h5⟩ := ih (fun k hk => h k (by omega))
    obtain ⟨a, b, hab, hb, ea, eb⟩ := h n (by omega)
    unfold fTnH
    rw [h3, ea, eb, nI_1]
    obtain ⟨t1, g1, g2, g3, g4⟩ := fNr_gap (e := a) ⟨h1, by omega⟩ (by omega)
    rw [g3]
    obtain ⟨t2, l1, l2, l3, l4⟩ := fNr_gap (d := d) (t := t1) (e := b + 1) ⟨g1, by omega⟩ (by omega)
    refine ⟨t2, l1, by omega, l3, fun k hk f hf hf1 q => ?_, fun k hk f hf hf1 q => ?_⟩
    · by_cases z : k = n
      · subst z
        rw [ea] at hf
        have := (nI_inj (by omega) (by omega)).mp hf
        subst this
        exact g4 ⟨q.1, by omega⟩
      · exact h4 k (by omega) f hf hf1 ⟨q.1, by omega⟩
    · by_cases z : k = n
      · subst z
        have hf : la k + 1 = nI f := hf
        rw [eb, nI_1] at hf
        have := (nI_inj (by omega) (by omega)).mp hf
        subst this
        exact l4 q
      · exact h5 k (by omega) f hf hf1 ⟨q.1, by omega⟩
/-- what a gap leaves as it is -/
theorem gap_le {day : Nat → Int32} {n d t c k : Nat} (h : Gap day n d t) (hk : k < n) (hn : ∃ e, e ≤ 1000 ∧ day k = nI e) (h1 : d ≤ c) (h2 : c < t) (ht : t ≤ 1000) : (day k ≤ nI c) = (day k ≤ nI d) := by
  obtain ⟨e, he, ee⟩ := hn
  have := h k hk e ee he
  rw [ee]
  apply propext
  rw [nI_leJ (by omega) (by omega), nI_leJ (by omega) (by omega)]
  omega
theorem fLat_gap {own day : Nat → Int32} {p : Int32} {d t c m : Nat} (hg : Gap day m d t) (h1 : d ≤ c) (h2 : c < t) (ht : t ≤ 1000) (hn : ∀ k, k < m → ∃ e, e ≤ 999 ∧ day k = nI e) : ∀ n, n ≤ m → fLat own day p (nI c) n = fLat own day p (nI d) n := by
  intro n
  induction n with
  | zero => intro _; rfl
  | succ n ih =>
    intro hm
    unfold fLat
    have z := gap_le hg (k := n) (by omega) (by obtain ⟨e, he, ee⟩ := hn n (by omega); exact ⟨e, by omega, ee⟩) h1 h2 ht
    rw [ih (by omega)]
    simp only [z]
theorem fRl_gap {own good day : Nat → Int32} {p q : Int32} {d t c m : Nat} (hg : Gap day m d t) (h1 : d ≤ c) (h2 : c < t) (ht : t ≤ 1000) (hn : ∀ k, k < m → ∃ e, e ≤ 999 ∧ day k = nI e) : ∀ n, n ≤ m → fRl own good day p q (nI c) n = fRl own good day p q (nI d) n := by
  intro n
  induction n with
  | zero => intro _; rfl
  | succ n ih =>
    intro hm
    unfold fRl
    have z := gap_le hg (k := n) (by omega) (by obtain ⟨e, he, ee⟩ := hn n (by omega); exact ⟨e, by omega, ee⟩) h1 h2 ht
    rw [ih (by omega)]
    simp only [z]
theorem fFr_gap {pl cl fi la pr cof : Nat → Int32} {p q price : Int32} {d t c m : Nat} (hg : Gap fi m d t) (hg2 : Gap (fun k => la k + 1) m d t) (h1 : d ≤ c) (h2 : c < t) (ht : t ≤ 1000) (hn : ∀ k, k < m → ∃ a b, a ≤ b ∧ b ≤ 999 ∧ fi k = nI a ∧ la k = nI b) : ∀ r i, i + r ≤ m → fFr pl cl fi la pr cof p q (nI c) price r i = fFr pl cl fi la pr cof p q (nI d) price r i := by
  intro r
  induction r with
  | zero => intro i _; rfl
  | succ r ih =>
    intro i hm
    unfold fFr
    obtain ⟨a, b, hab, hb, ea, eb⟩ := hn i (by omega)
    have e1 : (fi i ≤ nI c ∧ nI c ≤ la i) = (fi i ≤ nI d ∧ nI d ≤ la i) := by
      have z1 := hg i (by omega) a ea (by omega)
      have z2 := hg2 i (by omega) (b + 1) (by show la i + 1 = _; rw [eb, nI_1]) (by omega)
      rw [ea, eb]
      apply propext
      rw [nI_leJ (by omega) (by omega), nI_leJ (by omega) (by omega), nI_leJ (by omega) (by omega), nI_leJ (by omega) (by omega)]
      omega
    have e2 : decide (fi i ≤ nI c ∧ nI c ≤ la i) = decide (fi i ≤ nI d ∧ nI d ≤ la i) := by simp only [e1]
    rw [ih (i + 1) (by omega), e2]
section
variable {u w g : xMem} {P : Option Value → xMem → Prop} {D E s nl np nb nc nr nh nk n nf na f : Nat} {p q d x y c e k a t i l what many layer till price units : Int32} {op : Bool}
theorem dStk_gap (h : okG g D s nl np nb nc nr nh nk) {d t cc : Nat} (hg : Gap (xI g (D + 6)) nb d t) (h1 : d ≤ cc) (h2 : cc < t) (ht : t ≤ 1000) : dStk g D nb np nl (nI cc) x y = dStk g D nb np nl (nI d) x y := by
  have e : dCh g D nb (nI cc) = dCh g D nb (nI d) := by
    funext p
    exact fLat_gap hg h1 h2 ht h.2.2.2.2.2.1 nb (Nat.le_refl nb)
  unfold dStk
  rw [e]
theorem tRate_gap (h : okG g D s nl np nb nc nr nh nk) {d t cc : Nat} (hg : Gap (xI g (D + 17)) nr d t) (h1 : d ≤ cc) (h2 : cc < t) (ht : t ≤ 1000) : tRate g (D + 12) nr p c (nI cc) = tRate g (D + 12) nr p c (nI d) := by
  have e : ∀ q, fRl (xI g (D + 15)) (xI g (D + 16)) (xI g (D + 17)) p q (nI cc) nr = fRl (xI g (D + 15)) (xI g (D + 16)) (xI g (D + 17)) p q (nI d) nr := fun q => fRl_gap hg h1 h2 ht h.2.2.2.2.2.2.1 nr (Nat.le_refl nr)
  show fRate (xI g (D + 15)) (xI g (D + 16)) (xI g (D + 17)) (xI g (D + 18)) (xI g (D + 13)) p c (nI cc) nr = fRate (xI g (D + 15)) (xI g (D + 16)) (xI g (D + 17)) (xI g (D + 18)) (xI g (D + 13)) p c (nI d) nr
  unfold fRate fRf
  simp only [e]
theorem tFree_gap (h : okG g D s nl np nb nc nr nh nk) {d t cc : Nat} (hg : Gap (xI g (D + 21)) nh d t) (hg2 : Gap (fun k => xI g (D + 22) k + 1) nh d t) (h1 : d ≤ cc) (h2 : cc < t) (ht : t ≤ 1000) : tFree g (D + 12) nh p c (nI cc) price = tFree g (D + 12) nh p c (nI d) price := by
  unfold tFree
  exact fFr_gap hg hg2 h1 h2 ht h.2.2.2.2.2.2.2 nh 0 (by omega)
theorem dNx_gap (h : okG g D s nl np nb nc nr nh nk) {d : Nat} (hd : d ≤ 999) : ∃ t, d < t ∧ t ≤ 1000 ∧ dNx g D nb nr nh (nI d) = nI t ∧ Gap (xI g (D + 6)) nb d t ∧ Gap (xI g (D + 17)) nr d t ∧ Gap (xI g (D + 21)) nh d t ∧ Gap (fun k => xI g (D + 22) k + 1) nh d t := by
  obtain ⟨t1, a1, a2, a3, a4, -⟩ := fNa_gap (day := xI g (D + 6)) hd nb h.2.2.2.2.2.1
  obtain ⟨t2, b1, b2, b3, b4⟩ := fTnR_gap (day := xI g (D + 17)) hd nr h.2.2.2.2.2.2.1
  obtain ⟨t3, c1, c2, c3, c4, c5⟩ := fTnH_gap (fi := xI g (D + 21)) (la := xI g (D + 22)) (t0 := t2) ⟨b1, b2⟩ nh h.2.2.2.2.2.2.2
  have e : tNx g (D + 12) nr nh (nI d) = nI t3 := by
    show fTnH (xI g (D + 21)) (xI g (D + 22)) (nI d) (fTnR (xI g (D + 17)) (nI d) nr) nh = nI t3
    rw [b3, c3]
  unfold dNx
  rw [e, a3]
  simp (disch := omega) only [nI_ltJ]
  by_cases z : t3 < t1
  · rw [if_pos z]
    exact ⟨t3, c1, by omega, rfl, a4.wk (by omega), b4.wk (by omega), c4, c5⟩
  · rw [if_neg z]
    exact ⟨t1, a1, by omega, rfl, a4, b4.wk (by omega), c4.wk (by omega), c5.wk (by omega)⟩
theorem dDue_gap (h : okG g D s nl np nb nc nr nh nk) {d t cc : Nat} (hg1 : Gap (xI g (D + 6)) nb d t) (hg2 : Gap (xI g (D + 17)) nr d t) (hg3 : Gap (xI g (D + 21)) nh d t) (hg4 : Gap (fun k => xI g (D + 22) k + 1) nh d t) (h1 : d ≤ cc) (h2 : cc < t) (ht : t ≤ 1000) : dDue g D nb np nl nr nh nk (nI cc) x y c units price = dDue g D nb np nl nr nh nk (nI d) x y c units price := by
  have e : dTax g D nr nh nk c (nI cc) price units = dTax g D nr nh nk c (nI d) price units := by
    funext q
    unfold dTax
    rw [tFree_gap h hg3 hg4 h1 h2 ht, tRate_gap h hg2 h1 h2 ht]
  unfold dDue
  rw [e, dStk_gap h hg1 h1 h2 ht]
end
/-! the best day, by the model -/
def mBd (F : Nat → Int32) : Nat → Nat → Int32 × Int32 → Int32 × Int32
  | 0, _, z => z
  | r + 1, i, z => mBd F r (i + 1) (if F i < z.2 then (nI i, F i) else z)
theorem mBd_skip {F : Nat → Int32} {z : Int32 × Int32} : ∀ m r i, (∀ c, i ≤ c → c < i + m → ¬ F c < z.2) → mBd F (m + r) i z = mBd F r (i + m) z := by
  intro m
  induction m with
  | zero => intro r i _; rw [Nat.zero_add, Nat.add_zero]
  | succ m ih =>
    intro r i h
    rw [show m + 1 + r = (m + r) + 1 by omega, show mBd F (m + r + 1) i z = mBd F (m + r) (i + 1) (if F i < z.2 then (nI i, F i) else z) from rfl, if_neg (h i (by omega) (by omega)), ih r (i + 1) (fun c h1 h2 => h c (by omega) (by omega)), show i + 1 + m = i + (m + 1) by omega]
theorem bd_eq {due nx : Int32 → Int32} {T : Nat} (hT : T ≤ 999) (hN : ∀ d, d ≤ 999 → ∃ t, d < t ∧ t ≤ 1000 ∧ nx (nI d) = nI t ∧ ∀ c, d ≤ c → c < t → due (nI c) = due (nI d)) :
    ∀ r d (z : Int32 × Int32), d ≤ T → 1000 ≤ r + d → z.2 ≤ due (nI d) → fBd due nx (nI T) r (z.1, z.2, nx (nI d)) = (mBd (fun i => due (nI i)) (T - d) (d + 1) z).1 := by
  intro r
  induction r with
  | zero => intro d z h1 h2; omega
  | succ r ih =>
    intro d z h1 h2 h3
    obtain ⟨t, a1, a2, a3, a4⟩ := hN d (by omega)
    unfold fBd
    rw [a3, show (if nI T < (z.1, z.2, nI t).2.2 then (z.1, z.2, nI t).1 else fBd due nx (nI T) r (if due (z.1, z.2, nI t).2.2 < (z.1, z.2, nI t).2.1 then ((z.1, z.2, nI t).2.2, due (z.1, z.2, nI t).2.2, nx (z.1, z.2, nI t).2.2) else ((z.1, z.2, nI t).1, (z.1, z.2, nI t).2.1, nx (z.1, z.2, nI t).2.2))) = (if nI T < nI t then z.1 else fBd due nx (nI T) r (if due (nI t) < z.2 then (nI t, due (nI t), nx (nI t)) else (z.1, z.2, nx (nI t)))) from rfl]
    simp (disch := omega) only [nI_ltJ]
    have nl : ∀ c, d + 1 ≤ c → c < t → ¬ due (nI c) < z.2 := fun c c1 c2 q => by
      rw [a4 c (by omega) c2] at q
      have := i32_lt.mp q
      have := i32_le.mp h3
      omega
    by_cases c0 : T < t
    · rw [if_pos c0]
      have e := mBd_skip (F := fun i => due (nI i)) (z := z) (T - d) 0 (d + 1) (fun c c1 c2 => nl c c1 (by omega))
      rw [show T - d + 0 = T - d by omega] at e
      rw [e]
      rfl
    · rw [if_neg c0]
      have e := mBd_skip (F := fun i => due (nI i)) (z := z) (t - (d + 1)) (T - t + 1) (d + 1) (fun c c1 c2 => nl c c1 (by omega))
      rw [show t - (d + 1) + (T - t + 1) = T - d by omega, show d + 1 + (t - (d + 1)) = t by omega] at e
      rw [e]
      have e2 : mBd (fun i => due (nI i)) (T - t + 1) t z = mBd (fun i => due (nI i)) (T - t) (t + 1) (if due (nI t) < z.2 then (nI t, due (nI t)) else z) := rfl
      rw [e2]
      by_cases c1 : due (nI t) < z.2
      · rw [if_pos c1, if_pos c1]
        exact ih t (nI t, due (nI t)) (by omega) (by omega) (by rw [i32_le]; exact Int.le_refl _)
      · rw [if_neg c1, if_neg c1]
        exact ih t z (by omega) (by omega) (i32_nlt.mp c1)
section
variable {u w g : xMem} {P : Option Value → xMem → Prop} {D E s nl np nb nc nr nh nk n nf na f : Nat} {p q d x y c e k a t i l what many layer till price units : Int32} {op : Bool}
theorem bestDay_eq (h : okG g D s nl np nb nc nr nh nk) {a T : Nat} (ha : a ≤ T) (hT : T ≤ 999) : fBd (fun d => dDue g D nb np nl nr nh nk d x y c units price) (dNx g D nb nr nh) (nI T) 1000 (nI a, dDue g D nb np nl nr nh nk (nI a) x y c units price, dNx g D nb nr nh (nI a)) = (mBd (fun i => dDue g D nb np nl nr nh nk (nI i) x y c units price) (T - a) (a + 1) (nI a, dDue g D nb np nl nr nh nk (nI a) x y c units price)).1 :=
  bd_eq (due := fun d => dDue g D nb np nl nr nh nk d x y c units price) (nx := dNx g D nb nr nh) hT (fun d hd => by
    obtain ⟨t, h1, h2, h3, h4, h5, h6, h7⟩ := dNx_gap h hd
    exact ⟨t, h1, h2, h3, fun cc c1 c2 => dDue_gap h h4 h5 h6 h7 c1 c2 h2⟩) 1000 a (nI a, dDue g D nb np nl nr nh nk (nI a) x y c units price) ha (by omega) (by rw [i32_le]; exact Int.le_refl _)
theorem bestDayM_tail (h : Mx u g D s nl np nb nc nr nh nk) {j a T px py : Nat} {k' : Int32} (hj : j < nc) (ha : a ≤ T) (hT : T ≤ 999) (hx : px ≤ 40) (hy : py ≤ 40) (hP : ∀ v, xag SCm u v → xI v 278 1 = 0 → xI v 278 2 = -1 → P (some (.int (mBd (fun i => dDue g D nb np nl nr nh nk (nI i) (nI px) (nI py) (nI j) units price) (T - a) (a + 1) (nI a, dDue g D nb np nl nr nh nk (nI a) (nI px) (nI py) (nI j) units price)).1)) v) : zr 260 52 [.ref 278, .int (nI a), .int (nI T), .int (nI px), .int (nI py), .int (nI j), .int units, .int price, .int k', .null, .null, .null, .null] [] u P := by
  have lp : ∀ r i w (z : Int32 × Int32) v12, i + r = T + 1 → xag SCm u w → (∀ v, xag SCm u v → xI v 278 1 = 0 → xI v 278 2 = -1 → P (some (.int (mBd (fun i => dDue g D nb np nl nr nh nk (nI i) (nI px) (nI py) (nI j) units price) r i z).1)) v) → zr 260 76 [.ref 278, .int (nI a), .int (nI T), .int (nI px), .int (nI py), .int (nI j), .int units, .int price, .int k', .int z.1, .int z.2, .int (nI i), v12] [] w P := by
    intro r
    induction r with
    | zero =>
      intro i w z v12 hi hw hP
      have : i = T + 1 := by omega
      subst this
      obtain ⟨h0, -⟩ := (h.ag hw.m).cf
      rw [r260_76]
      simp (disch := omega) only [r260_78, r260_79, r260_123, r260_124, r260_126, r260_129, h0, good_run h0, leT, leF, ltT, ltF, true_and, and_true, Option.some.injEq, exists_eq_left', Option.toList_some, Option.toList_none, List.cons_append, List.nil_append, xcat_nil, xcat_int, xcat_ref, xcat_long, not_true, not_false_iff, if_true, if_false, and_self, and_false, false_and, or_true, true_or, or_self, z01, z10, zle8, Nat.reduceAdd, Nat.reduceLeDiff]
      exact QM.good hP hw
    | succ r ih =>
      intro i w z v12 hi hw hP
      have hx' := h.ag hw.m
      obtain ⟨h0, -⟩ := hx'.cf
      have h1 := fun P => dueOf_run (P := P) (d := nI i) (m := units) (e := price) hx' hj hx hy
      rw [r260_76]
      unfold mBd at hP
      simp (disch := omega) only [r260_78, r260_79, r260_82, r260_83, r260_85, r260_86, r260_88, r260_90, r260_92, r260_94, r260_97, r260_99, r260_101, r260_103, r260_106, r260_109, r260_111, r260_113, r260_115, r260_117, r260_120, h0, h1, kr1, leT, leF, ltT, ltF, true_and, and_true, Option.some.injEq, exists_eq_left', Option.toList_some, Option.toList_none, List.cons_append, List.nil_append, xcat_nil, xcat_int, xcat_ref, xcat_long, not_true, not_false_iff, if_true, if_false, and_self, and_false, false_and, or_true, true_or, or_self, z01, z10, zle8, Nat.reduceAdd, Nat.reduceLeDiff]
      by_cases c1 : dDue g D nb np nl nr nh nk (nI i) (nI px) (nI py) (nI j) units price < z.2
      · rw [if_pos c1] at hP
        rw [if_pos c1]
        exact ih (i + 1) _ (nI i, dDue g D nb np nl nr nh nk (nI i) (nI px) (nI py) (nI j) units price) _ (by omega) (hw.tr (ag_row (Or.inl rfl))) hP
      · rw [if_neg c1] at hP
        rw [if_neg c1]
        exact ih (i + 1) _ z _ (by omega) (hw.tr (ag_row (Or.inl rfl))) hP
  obtain ⟨h0, -⟩ := h.cf
  have h1 := fun P => dueOf_run (P := P) (d := nI a) (m := units) (e := price) h hj hx hy
  simp only [r260_52, r260_53, r260_55, r260_56, r260_57, r260_58, r260_60, r260_62, r260_64, r260_66, r260_69, r260_71, r260_72, r260_73, r260_74, h0, h1, kr1, true_and, and_true, Option.some.injEq, exists_eq_left', Option.toList_some, Option.toList_none, List.cons_append, List.nil_append, xcat_nil, xcat_int, xcat_ref, xcat_long, not_true, not_false_iff, if_true, if_false, and_self, and_false, false_and, or_true, true_or, or_self, z01, z10, zle8, Nat.reduceAdd, Nat.reduceLeDiff]
  exact lp (T - a) (a + 1) _ (nI a, dDue g D nb np nl nr nh nk (nI a) (nI px) (nI py) (nI j) units price) .null (by omega) (ag_row (Or.inl rfl)) hP
end
