/-! THE NEXT STACK: masks tell stacks apart -/
theorem or_nI (a b : Nat) : nI a ||| nI b = nI (a ||| b) := by
  apply Int32.toBitVec_inj.1
  show BitVec.ofNat 32 a ||| BitVec.ofNat 32 b = BitVec.ofNat 32 (a ||| b)
  apply BitVec.eq_of_getLsbD_eq
  intro i hi
  simp [hi]
theorem shl_nI : ∀ k, k < 10 → (1 : Int32) <<< (nI k &&& 31) = nI (2 ^ k) := by decide +kernel
def mkN (L : List Int32) : Nat → Nat
  | 0 => 0
  | k + 1 => mkN L k ||| 2 ^ (xix (L.getD k 0))
theorem fMk_N {L : List Int32} (h : ∀ q ∈ L, ∃ k, k < 10 ∧ q = nI k) : ∀ k, k ≤ L.length → fMk L k = nI (mkN L k) ∧ mkN L k < 2 ^ 10 := by
  intro k
  induction k with
  | zero => intro _; exact ⟨rfl, by show 0 < 2 ^ 10; decide⟩
  | succ k ih =>
    intro hk
    obtain ⟨i1, i2⟩ := ih (by omega)
    obtain ⟨a, ha, e⟩ := h _ (getD_mem (L := L) (i := k) (by omega))
    unfold fMk mkN
    rw [i1, e, shl_nI a ha, or_nI, xix_nI (by omega)]
    exact ⟨rfl, Nat.or_lt_two_pow i2 (Nat.pow_lt_pow_right (by omega) ha)⟩
theorem mkN_bit {L : List Int32} {j : Nat} : ∀ k, (mkN L k).testBit j = true ↔ ∃ i, i < k ∧ xix (L.getD i 0) = j := by
  intro k
  induction k with
  | zero =>
    unfold mkN
    simp
  | succ k ih =>
    unfold mkN
    rw [Nat.testBit_or, Bool.or_eq_true, ih, Nat.testBit_two_pow, decide_eq_true_eq]
    constructor
    · rintro (⟨i, h1, h2⟩ | h)
      · exact ⟨i, by omega, h2⟩
      · exact ⟨k, by omega, h⟩
    · rintro ⟨i, h1, h2⟩
      by_cases c : i = k
      · subst c
        exact Or.inr h2
      · exact Or.inl ⟨i, by omega, h2⟩
theorem mem_getD {L : List Int32} {q : Int32} (h : q ∈ L) : ∃ i, i < L.length ∧ L.getD i 0 = q := by
  obtain ⟨i, hi, e⟩ := List.getElem_of_mem h
  exact ⟨i, hi, by rw [List.getD_eq_getElem?_getD, List.getElem?_eq_getElem hi, e]; rfl⟩
theorem mk_mem {L L' : List Int32} (h : ∀ q ∈ L, ∃ k, k < 10 ∧ q = nI k) (h' : ∀ q ∈ L', ∃ k, k < 10 ∧ q = nI k) (e : fMk L L.length = fMk L' L'.length) : ∀ q, q ∈ L → q ∈ L' := by
  intro q hq
  obtain ⟨a1, a2⟩ := fMk_N h L.length (Nat.le_refl _)
  obtain ⟨b1, b2⟩ := fMk_N h' L'.length (Nat.le_refl _)
  rw [a1, b1] at e
  have e := (nI_inj (by omega) (by omega)).mp e
  obtain ⟨k, hk, rfl⟩ := h q hq
  obtain ⟨i, hi, ei⟩ := mem_getD hq
  have t1 : (mkN L L.length).testBit k = true := (mkN_bit _).mpr ⟨i, hi, by rw [ei, xix_nI (by omega)]⟩
  rw [e] at t1
  obtain ⟨i', hi', ei'⟩ := (mkN_bit _).mp t1
  have m := getD_mem (L := L') hi'
  obtain ⟨k', hk', e2⟩ := h' _ m
  rw [e2, xix_nI (by omega)] at ei'
  subst ei'
  rw [← e2]
  exact m
theorem fPile_lay {sett only : Nat → Int32} : ∀ r i (q : Int32), q ∈ fPile sett only r i → ∃ j, i ≤ j ∧ j < i + r ∧ q = sett j ∧ ¬ sett j < 0 := by
  intro r
  induction r with
  | zero => intro i q h; cases h
  | succ r ih =>
    intro i q h
    unfold fPile at h
    by_cases c : sett i < 0
    · rw [if_pos c] at h
      obtain ⟨j, h1, h2, h3⟩ := ih (i + 1) q h
      exact ⟨j, by omega, by omega, h3⟩
    · rw [if_neg c] at h
      by_cases c2 : only (xix (sett i)) = 0
      · rw [if_pos c2, List.mem_cons] at h
        rcases h with h | h
        · exact ⟨i, by omega, by omega, h, c⟩
        · obtain ⟨j, h1, h2, h3⟩ := ih (i + 1) q h
          exact ⟨j, by omega, by omega, h3⟩
      · rw [if_neg c2, List.mem_singleton] at h
        exact ⟨i, by omega, by omega, h, c⟩
/-- each is of its layer -/
def OfL (lay sett : Nat → Int32) (n : Nat) : Prop := ∀ j, j < n → ¬ sett j < 0 → ∃ k, k < 10 ∧ sett j = nI k ∧ lay k = nI j
theorem OfL.lay {lay sett only : Nat → Int32} {n r i : Nat} (h : OfL lay sett n) (hn : i + r ≤ n) {q : Int32} (hq : q ∈ fPile sett only r i) : ∃ j, i ≤ j ∧ j < n ∧ lay (xix q) = nI j := by
  obtain ⟨j, h1, h2, h3, h4⟩ := fPile_lay r i q hq
  obtain ⟨k, hk, e, l⟩ := h j (by omega) h4
  exact ⟨j, h1, by omega, by rw [h3, e, xix_nI (by omega), l]⟩
theorem fPile_inj {lay s1 s2 only : Nat → Int32} {n : Nat} (hn : n ≤ 4) (h1 : OfL lay s1 n) (h2 : OfL lay s2 n) : ∀ r i, i + r ≤ n → (∀ q, q ∈ fPile s1 only r i → q ∈ fPile s2 only r i) → (∀ q, q ∈ fPile s2 only r i → q ∈ fPile s1 only r i) → fPile s1 only r i = fPile s2 only r i := by
  intro r
  induction r with
  | zero => intro i _ _ _; rfl
  | succ r ih =>
    intro i hi m1 m2
    have far : ∀ {s : Nat → Int32} (hs : OfL lay s n) {q : Int32}, q ∈ fPile s only r (i + 1) → lay (xix q) = nI i → False := fun {s} hs {q} hq hl => by
      obtain ⟨j, a1, a2, a3⟩ := hs.lay (by omega) hq
      rw [hl] at a3
      have := (nI_inj (by omega) (by omega)).mp a3
      omega
    have own : ∀ {s : Nat → Int32} (hs : OfL lay s n), ¬ s i < 0 → lay (xix (s i)) = nI i := fun {s} hs c => by
      obtain ⟨k, hk, e, l⟩ := hs i (by omega) c
      rw [e, xix_nI (by omega), l]
    unfold fPile at m1 m2 ⊢
    by_cases c1 : s1 i < 0
    · rw [if_pos c1] at m1 m2 ⊢
      by_cases c2 : s2 i < 0
      · rw [if_pos c2] at m1 m2 ⊢
        exact ih (i + 1) (by omega) m1 m2
      · rw [if_neg c2] at m2
        exact (far h1 (m2 (s2 i) (by split <;> simp)) (own h2 c2)).elim
    · rw [if_neg c1] at m1 m2 ⊢
      by_cases c2 : s2 i < 0
      · rw [if_pos c2] at m1
        exact (far h2 (m1 (s1 i) (by split <;> simp)) (own h1 c1)).elim
      · rw [if_neg c2] at m1 m2 ⊢
        have e : s1 i = s2 i := by
          have z := m1 (s1 i) (by split <;> simp)
          split at z
          · rw [List.mem_cons] at z
            rcases z with z | z
            · exact z
            · exact (far h2 z (own h1 c1)).elim
          · rw [List.mem_singleton] at z
            exact z
        rw [e] at m1 m2 ⊢
        have o2 := own h2 c2
        by_cases c3 : only (xix (s2 i)) = 0
        · rw [if_pos c3] at m1 m2 ⊢
          rw [if_pos c3] at m1 m2 ⊢
          rw [ih (i + 1) (by omega) (fun q hq => ?_) (fun q hq => ?_)]
          · have z := m1 q (List.mem_cons_of_mem _ hq)
            rw [List.mem_cons] at z
            rcases z with z | z
            · rw [z] at hq
              exact (far h1 hq o2).elim
            · exact z
          · have z := m2 q (List.mem_cons_of_mem _ hq)
            rw [List.mem_cons] at z
            rcases z with z | z
            · rw [z] at hq
              exact (far h2 hq o2).elim
            · exact z
        · rw [if_neg c3, if_neg c3]
section
variable {u w g : xMem} {P : Option Value → xMem → Prop} {D E s nl np nb nc nr nh nk n nf na f : Nat} {p q d x y c e k a t i l what many layer till price units : Int32} {op : Bool}
theorem dStk_ofL (hp : np ≤ 10) : OfL (xI g (D + 2)) (fun l => fSet (xI g (D + 2)) (dCh g D nb d) (xI g (D + 8)) (xI g (D + 9)) (xI g (D + 7)) (nI l) x y np 0) nl := by
  intro j hj hc
  rcases fSet_cases (xI g (D + 2)) (dCh g D nb d) (xI g (D + 8)) (xI g (D + 9)) (xI g (D + 7)) (nI j) x y np 0 with z | ⟨k, -, hk, z, hl, -⟩
  · have hc : ¬ fSet (xI g (D + 2)) (dCh g D nb d) (xI g (D + 8)) (xI g (D + 9)) (xI g (D + 7)) (nI j) x y np 0 < 0 := hc
    rw [z] at hc
    exact absurd (show (-2 : Int32) < 0 by decide) hc
  · exact ⟨k, by omega, z, hl⟩
theorem dMk_inj (h : okD g D s nl np nb nc nr nh nk) {d d' : Int32} : dMk g D nb np nl d x y = dMk g D nb np nl d' x y ↔ dStk g D nb np nl d x y = dStk g D nb np nl d' x y := by
  have hb := h.b
  constructor
  · intro e
    have b10 : ∀ d, ∀ q ∈ dStk g D nb np nl d x y, ∃ k, k < 10 ∧ q = nI k := fun d q hq => by
      obtain ⟨k, hk, e⟩ := dStk_mem hq
      exact ⟨k, by omega, e⟩
    exact fPile_inj hb.2.1 (dStk_ofL hb.2.2.1) (dStk_ofL hb.2.2.1) nl 0 (by omega) (mk_mem (b10 d) (b10 d') e) (mk_mem (b10 d') (b10 d) e.symm)
  · intro e
    unfold dMk
    rw [e]
end
/-- how many of these days lie behind d -/
def cG (day : Nat → Int32) (d : Int32) : Nat → Nat
  | 0 => 0
  | k + 1 => cG day d k + (if d < day k then 1 else 0)
theorem cG_le {day : Nat → Int32} {d : Int32} : ∀ n, cG day d n ≤ n := by
  intro n
  induction n with
  | zero => exact Nat.le_refl 0
  | succ n ih =>
    unfold cG
    split <;> omega
theorem cG_mono {day : Nat → Int32} {d t : Nat} (h : d ≤ t) (ht : t ≤ 1000) : ∀ n, cG day (nI t) n ≤ cG day (nI d) n := by
  intro n
  induction n with
  | zero => exact Nat.le_refl 0
  | succ n ih =>
    unfold cG
    by_cases c : nI t < day n
    · have c2 : nI d < day n := by
        have := i32_lt.mp c
        rw [nI_toI (by omega)] at this
        rw [i32_lt, nI_toI (by omega)]
        omega
      rw [if_pos c, if_pos c2]
      omega
    · rw [if_neg c]
      omega
theorem cG_ev {day : Nat → Int32} {d t : Nat} (h : d < t) (ht : t ≤ 1000) : ∀ n, (∃ k, k < n ∧ day k = nI t) → cG day (nI t) n + 1 ≤ cG day (nI d) n := by
  intro n
  induction n with
  | zero => rintro ⟨k, hk, -⟩; omega
  | succ n ih =>
    rintro ⟨k, hk, e⟩
    have m := cG_mono (day := day) (d := d) (t := t) (by omega) ht n
    unfold cG
    by_cases c : k = n
    · subst c
      have c1 : ¬ nI t < day k := by rw [e, i32_lt]; omega
      have c2 : nI d < day k := by rw [e]; exact (nI_ltJ (by omega) (by omega)).mpr h
      rw [if_neg c1, if_pos c2]
      omega
    · have i1 := ih ⟨k, by omega, e⟩
      by_cases c1 : nI t < day n
      · have c2 : nI d < day n := by
          have := i32_lt.mp c1
          rw [nI_toI (by omega)] at this
          rw [i32_lt, nI_toI (by omega)]
          omega
        rw [if_pos c1, if_pos c2]
        omega
      · rw [if_neg c1]
        omega
/-- the first day with another stack, by the model -/
def mNs (S : Nat → List Int32) (L : List Int32) : Nat → Nat → Int32
  | 0, _ => -2
  | r + 1, i => if S i = L then mNs S L r (i + 1) else nI i
theorem mNs_skip {S : Nat → List Int32} {L : List Int32} : ∀ m r i, (∀ c, i ≤ c → c < i + m → S c = L) → mNs S L (m + r) i = mNs S L r (i + m) := by
  intro m
  induction m with
  | zero => intro r i _; rw [Nat.zero_add, Nat.add_zero]
  | succ m ih =>
    intro r i h
    rw [show m + 1 + r = (m + r) + 1 by omega, show mNs S L (m + r + 1) i = if S i = L then mNs S L (m + r) (i + 1) else nI i from rfl, if_pos (h i (by omega) (by omega)), ih r (i + 1) (fun c h1 h2 => h c (by omega) (by omega)), show i + 1 + m = i + (m + 1) by omega]
theorem np_eq {mk nx : Int32 → Int32} {z : Int32} {S : Nat → List Int32} {L : List Int32} {day : Nat → Int32} {n : Nat} (hm : ∀ i, mk (nI i) = z ↔ S i = L)
    (hN : ∀ d, d ≤ 999 → ∃ t, d < t ∧ t ≤ 1000 ∧ nx (nI d) = nI t ∧ (∀ c, d ≤ c → c < t → S c = S d) ∧ (t ≤ 999 → ∃ k, k < n ∧ day k = nI t)) :
    ∀ r d, d ≤ 999 → cG day (nI d) n ≤ r → S d = L → fNp mk nx z r (nx (nI d)) = mNs S L (999 - d) (d + 1) := by
  intro r
  induction r with
  | zero =>
    intro d hd hc hS
    obtain ⟨t, a1, a2, a3, a4, a5⟩ := hN d hd
    have ht : t = 1000 := by
      by_cases q : t ≤ 999
      · have := cG_ev (day := day) a1 a2 n (a5 q)
        omega
      · omega
    subst ht
    have e := mNs_skip (S := S) (L := L) (999 - d) 0 (d + 1) (fun c c1 c2 => by rw [a4 c (by omega) (by omega)]; exact hS)
    rw [show 999 - d + 0 = 999 - d by omega] at e
    rw [e]
    rfl
  | succ r ih =>
    intro d hd hc hS
    obtain ⟨t, a1, a2, a3, a4, a5⟩ := hN d hd
    rw [a3, show fNp mk nx z (r + 1) (nI t) = if 999 < nI t then -2 else if mk (nI t) = z then fNp mk nx z r (nx (nI t)) else nI t from rfl]
    by_cases c0 : t ≤ 999
    · have q : ¬ (999 : Int32) < nI t := fun q => by
        have := (nI_ltJ (a := 999) (b := t) (by omega) (by omega)).mp q
        omega
      rw [if_neg q]
      have e := mNs_skip (S := S) (L := L) (t - (d + 1)) (999 - t + 1) (d + 1) (fun c c1 c2 => by rw [a4 c (by omega) (by omega)]; exact hS)
      rw [show t - (d + 1) + (999 - t + 1) = 999 - d by omega, show d + 1 + (t - (d + 1)) = t by omega] at e
      rw [e, show mNs S L (999 - t + 1) t = if S t = L then mNs S L (999 - t) (t + 1) else nI t from rfl]
      by_cases c1 : S t = L
      · rw [if_pos c1, if_pos ((hm t).mpr c1)]
        have := cG_ev (day := day) a1 a2 n (a5 c0)
        exact ih t c0 (by omega) c1
      · rw [if_neg c1, if_neg (fun z => c1 ((hm t).mp z))]
    · have ht : t = 1000 := by omega
      subst ht
      rw [if_pos (show (999 : Int32) < nI 1000 by decide)]
      have e := mNs_skip (S := S) (L := L) (999 - d) 0 (d + 1) (fun c c1 c2 => by rw [a4 c (by omega) (by omega)]; exact hS)
      rw [show 999 - d + 0 = 999 - d by omega] at e
      rw [e]
      rfl
section
variable {u w g : xMem} {P : Option Value → xMem → Prop} {D E s nl np nb nc nr nh nk n nf na f : Nat} {p q d x y c e k a t i l what many layer till price units : Int32} {op : Bool}
theorem nextStack_eq (h : okG g D s nl np nb nc nr nh nk) {a : Nat} (ha : a ≤ 999) : fNp (fun d => dMk g D nb np nl d x y) (fun d => fNa (xI g (D + 6)) d nb) (dMk g D nb np nl (nI a) x y) 16 (fNa (xI g (D + 6)) (nI a) nb) = mNs (fun i => dStk g D nb np nl (nI i) x y) (dStk g D nb np nl (nI a) x y) (999 - a) (a + 1) :=
  np_eq (mk := fun d => dMk g D nb np nl d x y) (nx := fun d => fNa (xI g (D + 6)) d nb) (day := xI g (D + 6)) (n := nb) (fun i => dMk_inj h.1) (fun d hd => by
    obtain ⟨t, h1, h2, h3, h4, h5⟩ := fNa_gap (day := xI g (D + 6)) hd nb h.2.2.2.2.2.1
    exact ⟨t, h1, h2, h3, fun cc c1 c2 => dStk_gap h h4 c1 c2 h2, h5⟩) 16 a ha (by have := cG_le (day := xI g (D + 6)) (d := nI a) nb; have := h.1.b; omega) rfl
/-- rows alike from k on -/
def eqN (A B : Nat → Int32) : Nat → Nat → Bool
  | 0, _ => true
  | r + 1, k => if A k = B k then eqN A B r (k + 1) else false
theorem eqN_iff {A B : Nat → Int32} : ∀ r k, eqN A B r k = true ↔ ∀ j, k ≤ j → j < k + r → A j = B j := by
  intro r
  induction r with
  | zero => intro k; exact ⟨fun _ j h1 h2 => absurd h2 (by omega), fun _ => rfl⟩
  | succ r ih =>
    intro k
    unfold eqN
    by_cases c : A k = B k
    · rw [if_pos c, ih]
      refine ⟨fun h j h1 h2 => ?_, fun h j h1 h2 => h j (by omega) (by omega)⟩
      by_cases z : j = k
      · rw [z]; exact c
      · exact h j (by omega) (by omega)
    · rw [if_neg c]
      exact ⟨fun h => absurd h Bool.false_ne_true, fun h => absurd (h k (by omega) (by omega)) c⟩
theorem list_eqD {L L' : List Int32} (h : L.length = L'.length) (h2 : ∀ k, k < L.length → L.getD k 0 = L'.getD k 0) : L = L' := by
  refine List.ext_getElem h (fun i h3 h4 => ?_)
  have := h2 i h3
  rw [List.getD_eq_getElem?_getD, List.getD_eq_getElem?_getD, List.getElem?_eq_getElem h3, List.getElem?_eq_getElem h4] at this
  exact this
theorem sameM_loop {A B : Nat → Int32} {m : Nat} {v1 v2 v3 v4 : Value} {z6 : Int32} (hm : m ≤ 4) (h0 : xIs w 278 11) (r17 : xR w 278 17 = some 284) (r18 : xR w 278 18 = some 285) (j4 : xIs w 284 13 ∧ xN w 284 = 4) (j5 : xIs w 285 13 ∧ xN w 285 = 4) (hA : ∀ j, j < m → xI w 284 j = A j) (hB : ∀ j, j < m → xI w 285 j = B j) (hP : ∀ kk, zr 240 122 [.ref 278, v1, v2, v3, v4, .int (nI m), .int z6, .int (bI (eqN A B m 0)), .int kk] [] w P) :
    zr 240 80 [.ref 278, v1, v2, v3, v4, .int (nI m), .int z6, .int 1, .int (nI 0)] [] w P := by
  have lp : ∀ r k, k + r = m → (∀ kk, zr 240 122 [.ref 278, v1, v2, v3, v4, .int (nI m), .int z6, .int (bI (eqN A B r k)), .int kk] [] w P) → zr 240 80 [.ref 278, v1, v2, v3, v4, .int (nI m), .int z6, .int 1, .int (nI k)] [] w P := by
    intro r
    induction r with
    | zero =>
      intro k hk hP
      have : k = m := by omega
      subst this
      rw [r240_80]
      simp (disch := omega) only [r240_82, r240_85, r240_87, r240_89, xinbT, xixT, leT, leF, ltT, ltF, ngF, psT, n1F, n2F, km2, km3, km4, km5, km10, km15, km25, kl8, kl14, kl24, kl34, kl274, kl354, kl384, kr1, kr2, kr3, kr4, kr5, kr6, kr7, kr8, kr9, kaa, lb0, lb1, lb2, lb3, lb4, lb5, lb6, lb7, li0, li1, li2, li3, li4, li5, li6, li7, true_and, and_true, Option.some.injEq, exists_eq_left', Option.toList_some, Option.toList_none, List.cons_append, List.nil_append, xcat_nil, xcat_int, xcat_ref, xcat_long, not_true, not_false_iff, if_true, if_false, and_self, and_false, false_and, or_true, true_or, or_self, z01, z10, zle8, Nat.reduceAdd, Nat.reduceLeDiff]
      exact hP _
    | succ r ih =>
      intro k hk hP
      have a := hA k (by omega)
      have b := hB k (by omega)
      rw [r240_80]
      unfold eqN at hP
      simp (disch := omega) only [r240_82, r240_85, r240_87, r240_89, r240_92, r240_93, r240_96, r240_98, r240_99, r240_100, r240_103, r240_105, r240_106, r240_109, r240_110, r240_113, r240_114, r240_116, r240_119, h0, r17, r18, j4, j5, a, b, xinbT, xixT, leT, leF, ltT, ltF, ngF, psT, n1F, n2F, km2, km3, km4, km5, km10, km15, km25, kl8, kl14, kl24, kl34, kl274, kl354, kl384, kr1, kr2, kr3, kr4, kr5, kr6, kr7, kr8, kr9, kaa, lb0, lb1, lb2, lb3, lb4, lb5, lb6, lb7, li0, li1, li2, li3, li4, li5, li6, li7, true_and, and_true, Option.some.injEq, exists_eq_left', Option.toList_some, Option.toList_none, List.cons_append, List.nil_append, xcat_nil, xcat_int, xcat_ref, xcat_long, not_true, not_false_iff, if_true, if_false, and_self, and_false, false_and, or_true, true_or, or_self, z01, z10, zle8, Nat.reduceAdd, Nat.reduceLeDiff]
      by_cases c : A k = B k
      · simp only [c, if_true] at hP
        simp only [c, true_and, and_true, Option.some.injEq, exists_eq_left', Option.toList_some, Option.toList_none, List.cons_append, List.nil_append, xcat_nil, xcat_int, xcat_ref, xcat_long, not_true, not_false_iff, if_true, if_false, and_self, and_false, false_and, or_true, true_or, or_self, z01, z10, zle8, Nat.reduceAdd, Nat.reduceLeDiff]
        exact ih (k + 1) (by omega) hP
      · simp only [c, if_false] at hP
        simp only [c, true_and, and_true, Option.some.injEq, exists_eq_left', Option.toList_some, Option.toList_none, List.cons_append, List.nil_append, xcat_nil, xcat_int, xcat_ref, xcat_long, not_true, not_false_iff, if_true, if_false, and_self, and_false, false_and, or_true, true_or, or_self, z01, z10, zle8, Nat.reduceAdd, Nat.reduceLeDiff]
        rw [r240_80]
        simp only [r240_82, true_and, and_true, Option.some.injEq, exists_eq_left', Option.toList_some, Option.toList_none, List.cons_append, List.nil_append, xcat_nil, xcat_int, xcat_ref, xcat_long, not_true, not_false_iff, if_true, if_false, and_self, and_false, false_and, or_true, true_or, or_self, z01, z10, zle8, Nat.reduceAdd, Nat.reduceLeDiff]
        exact hP _
  exact lp m 0 (by omega) hP
theorem nextStackM_tail (h : Mx u g D s nl np nb nc nr nh nk) {a px py : Nat} {k' : Int32} (ha : a ≤ 999) (hx : px ≤ 40) (hy : py ≤ 40) (hP : ∀ v, xag SCm u v → xI v 278 1 = 0 → xI v 278 2 = -1 → P (some (.int (mNs (fun i => dStk g D nb np nl (nI i) (nI px) (nI py)) (dStk g D nb np nl (nI a) (nI px) (nI py)) (999 - a) (a + 1)))) v) : zr 240 27 [.ref 278, .int (nI a), .int (nI px), .int (nI py), .int k', .null, .null, .null, .null] [] u P := by
  have hb := h.2.1.1.b
  have hl : ∀ d, (dStk g D nb np nl d (nI px) (nI py)).length ≤ nl := fun d => dStk_len
  have hl0 := hl (nI a)
  have lp : ∀ r i w v7 v8, i + r = 1000 → xag SCm u w → (∀ j, j < (dStk g D nb np nl (nI a) (nI px) (nI py)).length → xI w 284 j = (dStk g D nb np nl (nI a) (nI px) (nI py)).getD j 0) → (∀ v, xag SCm u v → xI v 278 1 = 0 → xI v 278 2 = -1 → P (some (.int (mNs (fun i => dStk g D nb np nl (nI i) (nI px) (nI py)) (dStk g D nb np nl (nI a) (nI px) (nI py)) r i))) v) → zr 240 45 [.ref 278, .int (nI a), .int (nI px), .int (nI py), .int k', .int (nI (dStk g D nb np nl (nI a) (nI px) (nI py)).length), .int (nI i), v7, v8] [] w P := by
    intro r
    induction r with
    | zero =>
      intro i w v7 v8 hi hw hA hP
      have : i = 1000 := by omega
      subst this
      obtain ⟨h0, -⟩ := (h.ag hw.m).cf
      rw [r240_45]
      simp (disch := omega) only [r240_47, r240_50, r240_140, r240_141, r240_143, r240_146, h0, good_run h0, show (999 : Int32) < nI 1000 by decide, true_and, and_true, Option.some.injEq, exists_eq_left', Option.toList_some, Option.toList_none, List.cons_append, List.nil_append, xcat_nil, xcat_int, xcat_ref, xcat_long, not_true, not_false_iff, if_true, if_false, and_self, and_false, false_and, or_true, true_or, or_self, z01, z10, zle8, Nat.reduceAdd, Nat.reduceLeDiff]
      exact QM.good hP hw
    | succ r ih =>
      intro i w v7 v8 hi hw hA hP
      have hx' := h.ag hw.m
      obtain ⟨h0, -, -, -, -, -, r17, r18, j4, j5⟩ := hx'.cf
      have li := hl (nI i)
      have q9 : ¬ (999 : Int32) < nI i := fun q => by
        have := (nI_ltJ (a := 999) (b := i) (by omega) (by omega)).mp q
        omega
      have h1 := fun P => laysStack_run (P := P) (d := nI i) (ra := 285) hx'.1 hx'.2.1.1 hx'.2.2 hx'.2.1.2.1 hx'.2.1.2.2.1 (Or.inr rfl) hx hy
      have hw2 : xag SCm u (xrow w 285 (dStk g D nb np nl (nI i) (nI px) (nI py))) := hw.tr (ag_row (Or.inr rfl))
      have hA2 : ∀ j, j < (dStk g D nb np nl (nI a) (nI px) (nI py)).length → xI (xrow w 285 (dStk g D nb np nl (nI i) (nI px) (nI py))) 284 j = (dStk g D nb np nl (nI a) (nI px) (nI py)).getD j 0 := fun j hj => by
        rw [xIf_row (by omega)]
        exact hA j hj
      have ih := fun v7 v8 => ih (i + 1) (xrow w 285 (dStk g D nb np nl (nI i) (nI px) (nI py))) v7 v8 (by omega) hw2 hA2
      have i0 : xIs (xrow w 285 (dStk g D nb np nl (nI i) (nI px) (nI py))) 278 11 := h0
      unfold mNs at hP
      rw [r240_45]
      by_cases c0 : (dStk g D nb np nl (nI i) (nI px) (nI py)).length = (dStk g D nb np nl (nI a) (nI px) (nI py)).length
      · have eL : nI (dStk g D nb np nl (nI i) (nI px) (nI py)).length = nI (dStk g D nb np nl (nI a) (nI px) (nI py)).length := by rw [c0]
        simp (disch := omega) only [r240_47, r240_50, r240_53, r240_54, r240_56, r240_57, r240_58, r240_59, r240_62, r240_65, r240_67, r240_70, r240_71, r240_74, r240_75, r240_77, r240_78, h0, r18, h1, q9, eL, true_and, and_true, Option.some.injEq, exists_eq_left', Option.toList_some, Option.toList_none, List.cons_append, List.nil_append, xcat_nil, xcat_int, xcat_ref, xcat_long, not_true, not_false_iff, if_true, if_false, and_self, and_false, false_and, or_true, true_or, or_self, z01, z10, zle8, Nat.reduceAdd, Nat.reduceLeDiff]
        refine sameM_loop (A := fun j => (dStk g D nb np nl (nI a) (nI px) (nI py)).getD j 0) (B := fun j => (dStk g D nb np nl (nI i) (nI px) (nI py)).getD j 0) (m := (dStk g D nb np nl (nI a) (nI px) (nI py)).length) (by omega) h0 r17 r18 j4 j5 hA2 (fun j hj => xI_row (by omega)) (fun kk => ?_)
        by_cases c1 : dStk g D nb np nl (nI i) (nI px) (nI py) = dStk g D nb np nl (nI a) (nI px) (nI py)
        · have e1 : eqN (fun j => (dStk g D nb np nl (nI a) (nI px) (nI py)).getD j 0) (fun j => (dStk g D nb np nl (nI i) (nI px) (nI py)).getD j 0) (dStk g D nb np nl (nI a) (nI px) (nI py)).length 0 = true := (eqN_iff _ _).mpr (fun j _ _ => by show _ = _; rw [c1])
          rw [e1]
          simp only [c1, if_true] at hP
          simp (disch := omega) only [r240_122, r240_124, r240_134, r240_137, bI_t, kr1, true_and, and_true, Option.some.injEq, exists_eq_left', Option.toList_some, Option.toList_none, List.cons_append, List.nil_append, xcat_nil, xcat_int, xcat_ref, xcat_long, not_true, not_false_iff, if_true, if_false, and_self, and_false, false_and, or_true, true_or, or_self, z01, z10, zle8, Nat.reduceAdd, Nat.reduceLeDiff]
          exact ih _ _ hP
        · have e1 : eqN (fun j => (dStk g D nb np nl (nI a) (nI px) (nI py)).getD j 0) (fun j => (dStk g D nb np nl (nI i) (nI px) (nI py)).getD j 0) (dStk g D nb np nl (nI a) (nI px) (nI py)).length 0 = false := Bool.eq_false_iff.mpr (fun z => c1 (list_eqD c0 (fun k hk => ((eqN_iff _ _).mp z k (by omega) (by omega)).symm)))
          rw [e1]
          simp only [c1, if_false] at hP
          simp (disch := omega) only [r240_122, r240_124, r240_127, r240_128, r240_130, r240_133, bI_f, i0, good_run i0, true_and, and_true, Option.some.injEq, exists_eq_left', Option.toList_some, Option.toList_none, List.cons_append, List.nil_append, xcat_nil, xcat_int, xcat_ref, xcat_long, not_true, not_false_iff, if_true, if_false, and_self, and_false, false_and, or_true, true_or, or_self, z01, z10, zle8, Nat.reduceAdd, Nat.reduceLeDiff]
          exact QM.good hP hw2
      · have eL : ¬ nI (dStk g D nb np nl (nI i) (nI px) (nI py)).length = nI (dStk g D nb np nl (nI a) (nI px) (nI py)).length := fun q => c0 ((nI_inj (by omega) (by omega)).mp q)
        have c1 : ¬ dStk g D nb np nl (nI i) (nI px) (nI py) = dStk g D nb np nl (nI a) (nI px) (nI py) := fun q => c0 (by rw [q])
        simp only [c1, if_false] at hP
        simp (disch := omega) only [r240_47, r240_50, r240_53, r240_54, r240_56, r240_57, r240_58, r240_59, r240_62, r240_65, r240_67, r240_70, r240_71, r240_74, r240_75, r240_77, r240_78, h0, r18, h1, q9, eL, r240_80, r240_82, r240_122, r240_124, r240_127, r240_128, r240_130, r240_133, i0, good_run i0, true_and, and_true, Option.some.injEq, exists_eq_left', Option.toList_some, Option.toList_none, List.cons_append, List.nil_append, xcat_nil, xcat_int, xcat_ref, xcat_long, not_true, not_false_iff, if_true, if_false, and_self, and_false, false_and, or_true, true_or, or_self, z01, z10, zle8, Nat.reduceAdd, Nat.reduceLeDiff]
        exact QM.good hP hw2
  obtain ⟨h0, -, -, -, -, -, r17, -⟩ := h.cf
  have h1 := fun P => laysStack_run (P := P) (d := nI a) (ra := 284) h.1 h.2.1.1 h.2.2 h.2.1.2.1 h.2.1.2.2.1 (Or.inl rfl) hx hy
  simp only [r240_27, r240_28, r240_29, r240_30, r240_31, r240_32, r240_35, r240_38, r240_40, r240_41, r240_42, r240_43, h0, r17, h1, kr1, true_and, and_true, Option.some.injEq, exists_eq_left', Option.toList_some, Option.toList_none, List.cons_append, List.nil_append, xcat_nil, xcat_int, xcat_ref, xcat_long, not_true, not_false_iff, if_true, if_false, and_self, and_false, false_and, or_true, true_or, or_self, z01, z10, zle8, Nat.reduceAdd, Nat.reduceLeDiff]
  exact lp (999 - a) (a + 1) _ .null .null (by omega) (ag_row (Or.inl rfl)) (fun j hj => xI_row hj) hP
end
