/-! THE LEDGER: keys in the order of their first -/
def lgA (L : List Nat) (k : Nat) : List Nat := if k ∈ L then L else L ++ [k]
def upS (S : Nat → Int32) (k : Nat) (t : Int32) : Nat → Int32 := fun j => if j = k then S j + t else S j
def cM (L : List Nat) : Nat → Nat
  | 0 => 0
  | n + 1 => cM L n + (if n ∈ L then 1 else 0)
theorem cM_le {L : List Nat} : ∀ n, cM L n ≤ n := by
  intro n
  induction n with
  | zero => exact Nat.le_refl 0
  | succ n ih =>
    unfold cM
    split <;> omega
theorem cM_lt {L : List Nat} {k : Nat} (h : ¬ k ∈ L) : ∀ n, k < n → cM L n < n := by
  intro n
  induction n with
  | zero => intro hk; omega
  | succ n ih =>
    intro hk
    unfold cM
    by_cases c : k = n
    · subst c
      rw [if_neg h]
      have := cM_le (L := L) k
      omega
    · have := ih (by omega)
      split <;> omega
theorem cM_add {L : List Nat} {k : Nat} (h : ¬ k ∈ L) : ∀ n, cM (L ++ [k]) n = cM L n + (if k < n then 1 else 0) := by
  intro n
  induction n with
  | zero => rfl
  | succ n ih =>
    unfold cM
    rw [ih]
    by_cases c : n = k
    · subst c
      have m1 : n ∈ L ++ [n] := by simp
      rw [if_pos m1, if_neg h, if_neg (by omega), if_pos (by omega)]
    · have m1 : (n ∈ L ++ [k]) = (n ∈ L) := by simp [c]
      simp only [m1]
      by_cases c2 : k < n
      · rw [if_pos c2, if_pos (show k < n + 1 by omega)]; omega
      · rw [if_neg c2, if_neg (show ¬ k < n + 1 by omega)]; omega
theorem memD {L : List Nat} {k : Nat} : k ∈ L ↔ ∃ j, j < L.length ∧ L.getD j 0 = k := by
  constructor
  · intro h
    obtain ⟨i, hi, e⟩ := List.getElem_of_mem h
    exact ⟨i, hi, by rw [List.getD_eq_getElem?_getD, List.getElem?_eq_getElem hi, e]; rfl⟩
  · rintro ⟨j, hj, e⟩
    rw [List.getD_eq_getElem?_getD, List.getElem?_eq_getElem hj] at e
    rw [← e]
    exact List.getElem_mem hj
theorem appD {L : List Nat} {k j : Nat} (h : j < L.length) : (L ++ [k]).getD j 0 = L.getD j 0 := by
  rw [List.getD_eq_getElem?_getD, List.getD_eq_getElem?_getD, List.getElem?_append_left h]
theorem appE {L : List Nat} {k : Nat} : (L ++ [k]).getD L.length 0 = k := by
  rw [List.getD_eq_getElem?_getD, List.getElem?_append_right (Nat.le_refl _), Nat.sub_self]
  rfl
/-- a sound ledger: its keys, what they come to -/
def okE (L : List Nat) (S : Nat → Int32) : Prop := L.length = cM L 60 ∧ (∀ k, k ∈ L → k < 60) ∧ (∀ i j, i < L.length → j < L.length → L.getD i 0 = L.getD j 0 → i = j) ∧ ∀ k, ¬ k ∈ L → S k = 0
theorem okE.len {L : List Nat} {S : Nat → Int32} (h : okE L S) : L.length ≤ 60 := by
  have := cM_le (L := L) 60
  have := h.1
  omega
theorem okE.lt {L : List Nat} {S : Nat → Int32} (h : okE L S) {k : Nat} (hk : k < 60) (hn : ¬ k ∈ L) : L.length < 60 := by
  have := cM_lt hn 60 hk
  have := h.1
  omega
theorem okE.add {L : List Nat} {S : Nat → Int32} (h : okE L S) {k : Nat} (hk : k < 60) {t : Int32} : okE (lgA L k) (upS S k t) := by
  obtain ⟨h1, h2, h3, h4⟩ := h
  unfold lgA
  by_cases c : k ∈ L
  · rw [if_pos c]
    refine ⟨h1, h2, h3, fun j hj => ?_⟩
    unfold upS
    rw [if_neg (fun e => hj (by rw [e]; exact c))]
    exact h4 j hj
  · rw [if_neg c]
    refine ⟨?_, fun j hj => ?_, fun i j hi hj e => ?_, fun j hj => ?_⟩
    · rw [cM_add c, if_pos hk, List.length_append]
      show L.length + 1 = _
      omega
    · rw [List.mem_append, List.mem_singleton] at hj
      rcases hj with hj | hj
      · exact h2 j hj
      · omega
    · rw [List.length_append] at hi hj
      have hi : i < L.length + 1 := hi
      have hj : j < L.length + 1 := hj
      by_cases ci : i = L.length
      · by_cases cj : j = L.length
        · omega
        · rw [ci, appE, appD (by omega)] at e
          exact absurd (memD.mpr ⟨j, by omega, e.symm⟩) c
      · by_cases cj : j = L.length
        · rw [cj, appE, appD (by omega)] at e
          exact absurd (memD.mpr ⟨i, by omega, e⟩) c
        · rw [appD (by omega), appD (by omega)] at e
          exact h3 i j (by omega) (by omega) e
    · unfold upS
      rw [List.mem_append, List.mem_singleton] at hj
      rw [if_neg (fun e => hj (Or.inr e))]
      exact h4 j (fun z => hj (Or.inl z))
theorem sumIf_upd {q : Nat → Bool} {f : Nat → Int32} {j0 : Nat} {t : Int32} : ∀ n, sumIf q (fun j => if j = j0 then f j + t else f j) n = sumIf q f n + (if j0 < n ∧ q j0 = true then t else 0) := by
  intro n
  induction n with
  | zero =>
    show (0 : Int32) = 0 + _
    rw [if_neg (by omega)]
    rfl
  | succ n ih =>
    show (if q n = true then sumIf q (fun j => if j = j0 then f j + t else f j) n + (if n = j0 then f n + t else f n) else sumIf q (fun j => if j = j0 then f j + t else f j) n) = (if q n = true then sumIf q f n + f n else sumIf q f n) + _
    rw [ih]
    by_cases c : n = j0
    · subst c
      simp only [Nat.lt_irrefl, false_and, if_false, if_true, Int32.add_zero, show n < n + 1 from Nat.lt_succ_self n, true_and]
      by_cases c2 : q n = true
      · simp only [c2, if_true]; grind
      · simp only [c2, if_false, Bool.false_eq_true]; grind
    · have e : (j0 < n + 1) = (j0 < n) := propext (by omega)
      simp only [c, if_false, e]
      by_cases c3 : j0 < n ∧ q j0 = true
      · simp only [c3, and_self, if_true]
        split <;> grind
      · simp only [c3, if_false, Int32.add_zero]
theorem sumIf_cg {q q' : Nat → Bool} {f f' : Nat → Int32} (n : Nat) (h : ∀ i, i < n → q i = q' i ∧ f i = f' i) : sumIf q f n = sumIf q' f' n := sumIf_congr n h
/-- what the entries of a kind come to -/
def lS (mt : Nat → Bool) (L : List Nat) (S : Nat → Int32) : Int32 := sumIf (fun j => mt (L.getD j 0)) (fun j => S (L.getD j 0)) L.length
theorem lS_add {mt : Nat → Bool} {L : List Nat} {S : Nat → Int32} (h : okE L S) {k : Nat} {t : Int32} : lS mt (lgA L k) (upS S k t) = lS mt L S + (if mt k = true then t else 0) := by
  obtain ⟨h1, h2, h3, h4⟩ := h
  unfold lS lgA
  by_cases c : k ∈ L
  · rw [if_pos c]
    obtain ⟨j0, hj0, e⟩ := memD.mp c
    rw [sumIf_cg (q' := fun j => mt (L.getD j 0)) (f' := fun j => if j = j0 then S (L.getD j 0) + t else S (L.getD j 0)) L.length (fun i hi => ⟨rfl, ?_⟩), sumIf_upd, e]
    · by_cases c2 : mt k = true
      · rw [if_pos ⟨hj0, c2⟩, if_pos c2]
      · rw [if_neg (fun z => c2 z.2), if_neg c2]
    · unfold upS
      by_cases z : i = j0
      · rw [if_pos z, z, if_pos e]
      · rw [if_neg z, if_neg (fun q => z (h3 i j0 hi hj0 (by rw [q, e])))]
  · rw [if_neg c, List.length_append]
    show sumIf (fun j => mt ((L ++ [k]).getD j 0)) (fun j => upS S k t ((L ++ [k]).getD j 0)) (L.length + 1) = _
    show (if mt ((L ++ [k]).getD L.length 0) = true then sumIf (fun j => mt ((L ++ [k]).getD j 0)) (fun j => upS S k t ((L ++ [k]).getD j 0)) L.length + upS S k t ((L ++ [k]).getD L.length 0) else sumIf (fun j => mt ((L ++ [k]).getD j 0)) (fun j => upS S k t ((L ++ [k]).getD j 0)) L.length) = _
    rw [appE, sumIf_cg (q' := fun j => mt (L.getD j 0)) (f' := fun j => S (L.getD j 0)) L.length (fun i hi => ⟨by rw [appD hi], ?_⟩)]
    · have e : upS S k t k = t := by
        unfold upS
        rw [if_pos rfl, h4 k c]
        grind
      rw [e]
      by_cases c2 : mt k = true
      · rw [if_pos c2, if_pos c2]
      · rw [if_neg c2, if_neg c2, Int32.add_zero]
    · show upS S k t ((L ++ [k]).getD i 0) = S (L.getD i 0)
      rw [appD hi]
      unfold upS
      rw [if_neg (fun z => c (memD.mpr ⟨i, hi, z⟩))]
/-! the ledger of the book -/
def key (g : xMem) (l i : Nat) : Nat := 6 * xix (xI g (69 + 5 * l + 1) i) + xix (xI g (69 + 5 * l) 3)
def LgP (g : xMem) (l : Nat) (L : List Nat) : Nat → List Nat
  | 0 => L
  | i + 1 => lgA (LgP g l L i) (key g l i)
def Lg (g : xMem) : Nat → List Nat
  | 0 => []
  | l + 1 => LgP g l (Lg g l) (pn g l)
def SgP (g : xMem) (l : Nat) (S : Nat → Int32) : Nat → Nat → Int32
  | 0 => S
  | i + 1 => upS (SgP g l S i) (key g l i) (lTax g (69 + 5 * l) i)
def Sg (g : xMem) : Nat → Nat → Int32
  | 0 => fun _ => 0
  | l + 1 => SgP g l (Sg g l) (pn g l)
/-- asked for a place and a class, or for all -/
def mtK (p c : Int32) (k : Nat) : Bool := decide ((p = -1 ∨ nI (k / 6) = p) ∧ (c = -1 ∨ nI (k % 6) = c))
section
variable {u w g : xMem} {P : Option Value → xMem → Prop} {D E s nl np nb nc nr nh nk n nf na f : Nat} {p q d x y c e k a t i l what many layer till price units : Int32} {op : Bool}
theorem key_b (hB : okB g n nf nc np) (h10 : np ≤ 10) (h6 : nc ≤ 6) {l i : Nat} (hl : l < n) (hi : i < pn g l) : ∃ q j, q < np ∧ j < nc ∧ xI g (69 + 5 * l + 1) i = nI q ∧ xI g (69 + 5 * l) 3 = nI j ∧ key g l i = 6 * q + j ∧ key g l i < 60 ∧ key g l i / 6 = q ∧ key g l i % 6 = j := by
  obtain ⟨⟨j, hj, ej⟩, -, -, -, -, hp⟩ := hB.2.2.1 l hl
  obtain ⟨⟨q, hq, eq⟩, -⟩ := hp i hi
  have e : key g l i = 6 * q + j := by
    unfold key
    rw [eq, ej, xix_nI (by omega), xix_nI (by omega)]
  exact ⟨q, j, hq, hj, eq, ej, e, by omega, by omega, by omega⟩
theorem okE_P (hB : okB g n nf nc np) (h10 : np ≤ 10) (h6 : nc ≤ 6) {l : Nat} (hl : l < n) {L : List Nat} {S : Nat → Int32} (h : okE L S) : ∀ i, i ≤ pn g l → okE (LgP g l L i) (SgP g l S i) := by
  intro i
  induction i with
  | zero => intro _; exact h
  | succ i ih =>
    intro hi
    obtain ⟨q, j, -, -, -, -, -, hk, -⟩ := key_b hB h10 h6 hl (i := i) (by omega)
    exact (ih (by omega)).add hk
theorem okE_L (hB : okB g n nf nc np) (h10 : np ≤ 10) (h6 : nc ≤ 6) : ∀ l, l ≤ n → okE (Lg g l) (Sg g l) := by
  intro l
  induction l with
  | zero => intro _; exact ⟨show ([] : List Nat).length = cM [] 60 by decide, fun k hk => absurd hk (by simp [Lg]), fun i j hi => absurd hi (by simp [Lg]), fun k _ => rfl⟩
  | succ l ih =>
    intro hl
    exact okE_P hB h10 h6 (by omega) (ih (by omega)) (pn g l) (Nat.le_refl _)
theorem lS_P (hB : okB g n nf nc np) (h10 : np ≤ 10) (h6 : nc ≤ 6) {l : Nat} (hl : l < n) {L : List Nat} {S : Nat → Int32} (h : okE L S) : ∀ i, i ≤ pn g l → lS (mtK p c) (LgP g l L i) (SgP g l S i) = lS (mtK p c) L S + (if qCl g c l = true then fTx (xI g (69 + 5 * l + 1)) (lTax g (69 + 5 * l)) p i else 0) := by
  intro i
  induction i with
  | zero =>
    intro _
    show lS (mtK p c) L S = lS (mtK p c) L S + (if qCl g c l = true then 0 else 0)
    rw [ite_self, Int32.add_zero]
  | succ i ih =>
    intro hi
    obtain ⟨q, j, hq, hj, eq, ej, -, hk, k1, k2⟩ := key_b hB h10 h6 hl (i := i) (by omega)
    show lS (mtK p c) (lgA (LgP g l L i) (key g l i)) (upS (SgP g l S i) (key g l i) (lTax g (69 + 5 * l) i)) = _ + (if qCl g c l = true then (if p = -1 ∨ xI g (69 + 5 * l + 1) i = p then fTx (xI g (69 + 5 * l + 1)) (lTax g (69 + 5 * l)) p i + lTax g (69 + 5 * l) i else fTx (xI g (69 + 5 * l + 1)) (lTax g (69 + 5 * l)) p i) else 0)
    rw [lS_add (okE_P hB h10 h6 hl h i (by omega)), ih (by omega)]
    unfold mtK qCl
    rw [k1, k2, eq, ej]
    by_cases c1 : c = -1 ∨ nI j = c
    · by_cases c2 : p = -1 ∨ nI q = p
      · simp only [c1, c2, and_self, decide_true, if_true]; grind
      · simp only [c1, c2, false_and, decide_true, decide_false, if_true, if_false, Bool.false_eq_true]; grind
    · simp only [c1, and_false, decide_false, if_false, Bool.false_eq_true, Int32.add_zero]
theorem lS_L (hB : okB g n nf nc np) (h10 : np ≤ 10) (h6 : nc ≤ 6) : ∀ l, l ≤ n → lS (mtK p c) (Lg g l) (Sg g l) = sumIf (qCl g c) (lTo g p) l := by
  intro l
  induction l with
  | zero => intro _; rfl
  | succ l ih =>
    intro hl
    show lS (mtK p c) (LgP g l (Lg g l) (pn g l)) (SgP g l (Sg g l) (pn g l)) = (if qCl g c l = true then sumIf (qCl g c) (lTo g p) l + lTo g p l else sumIf (qCl g c) (lTo g p) l)
    rw [lS_P hB h10 h6 (by omega) (okE_L hB h10 h6 l (by omega)) (pn g l) (Nat.le_refl _), ih (by omega)]
    unfold lTo
    by_cases c1 : qCl g c l = true
    · rw [if_pos c1, if_pos c1]
    · rw [if_neg c1, if_neg c1, Int32.add_zero]
/-- one entry's taxes -/
theorem lS_one {L : List Nat} {S : Nat → Int32} (h : okE L S) {i : Nat} (hi : i < L.length) : lS (mtK (nI (L.getD i 0 / 6)) (nI (L.getD i 0 % 6))) L S = S (L.getD i 0) := by
  obtain ⟨h1, h2, h3, h4⟩ := h
  have hl : L.length ≤ 60 := by have := cM_le (L := L) 60; omega
  have b : ∀ j, j < L.length → L.getD j 0 < 60 := fun j hj => h2 _ (memD.mpr ⟨j, hj, rfl⟩)
  unfold lS
  have bi := b i hi
  rw [sumIf_N, sumN_congr (g := fun k => if nI i = nI k then S (L.getD i 0) else 0) L.length (fun k hk => ?_), sumN_one L.length (by omega) (by omega), if_pos hi]
  have bk := b k hk
  have n1 : ¬ nI (L.getD i 0 / 6) = -1 := of_eq_false (n1F (by omega))
  have n2 : ¬ nI (L.getD i 0 % 6) = -1 := of_eq_false (n1F (by omega))
  by_cases c : i = k
  · subst c
    rw [if_pos rfl, if_pos (by unfold mtK; simp)]
  · have c2 : ¬ nI i = nI k := fun z => c ((nI_inj (by omega) (by omega)).mp z)
    rw [if_neg c2, if_neg ?_]
    unfold mtK
    rw [decide_eq_true_eq]
    rintro ⟨z1, z2⟩
    have z1 := (nI_inj (by omega) (by omega)).mp (z1.resolve_left n1)
    have z2 := (nI_inj (by omega) (by omega)).mp (z2.resolve_left n2)
    exact c (h3 i k hi hk (by omega))
end
