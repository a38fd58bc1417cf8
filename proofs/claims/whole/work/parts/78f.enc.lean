/-! WORDS as numbers (the first rows began as rows of kit/laws) -/
theorem wb_tb (n : Nat) : (lN n).toBitVec = BitVec.ofNat 64 n := rfl
theorem wb_inj {a b : Int64} (h : a.toBitVec = b.toBitVec) : a = b := Int64.toBitVec_inj.mp h
theorem wb_c : ∀ k, k < 64 → ((nI k).toInt64 &&& 63) = lN k := by decide +kernel
theorem wb_sm : ∀ k, k < 64 → (BitVec.ofNat 64 k).smod 64 = BitVec.ofNat 64 k := by decide +kernel
theorem wb_shl (n : Nat) {k : Nat} (hk : k < 64) : lN n <<< ((nI k).toInt64 &&& 63) = lN (n * 2 ^ k) := by
  rw [wb_c k hk]
  apply wb_inj
  rw [Int64.toBitVec_shiftLeft, wb_tb, wb_tb, wb_tb, wb_sm k hk]
  apply BitVec.eq_of_toNat_eq
  rw [BitVec.shiftLeft_eq', BitVec.toNat_shiftLeft, BitVec.toNat_ofNat, BitVec.toNat_ofNat, BitVec.toNat_ofNat, Nat.mod_eq_of_lt (show k < 2 ^ 64 by omega), Nat.shiftLeft_eq, Nat.mul_mod, Nat.mod_mod, ← Nat.mul_mod]
theorem fb_orL (a b : Nat) : lN a ||| lN b = lN (a ||| b) := by
  apply Int64.toBitVec_inj.1
  show BitVec.ofNat 64 a ||| BitVec.ofNat 64 b = BitVec.ofNat 64 (a ||| b)
  apply BitVec.eq_of_getLsbD_eq
  intro i hi
  simp [hi]
theorem fb_or_sumL {a k : Nat} (b : Nat) (h : a < 2 ^ k) : lN (2 ^ k * b) ||| lN a = lN (2 ^ k * b + a) := by rw [fb_orL, Nat.two_pow_add_eq_or_of_lt h]
theorem fb_lN_inj {a b : Nat} (ha : a < 2 ^ 63) (hb : b < 2 ^ 63) : lN a = lN b ↔ a = b := by
  constructor
  · intro h
    have h1 : (BitVec.ofNat 64 a).toNat = (BitVec.ofNat 64 b).toNat := congrArg (fun x : Int64 => x.toBitVec.toNat) h
    rw [BitVec.toNat_ofNat, BitVec.toNat_ofNat, Nat.mod_eq_of_lt (by omega), Nat.mod_eq_of_lt (by omega)] at h1
    exact h1
  · rintro rfl; rfl
/-- digits f to the base B -/
def eN (B : Nat) (f : Nat → Nat) : Nat → Nat
  | 0 => 0
  | i + 1 => eN B f i * B + f i
theorem eN_inj {B : Nat} {f f' : Nat → Nat} (hB : 0 < B) : ∀ n n', (∀ i, i < n → 1 ≤ f i ∧ f i < B) → (∀ i, i < n' → 1 ≤ f' i ∧ f' i < B) → eN B f n = eN B f' n' → n = n' ∧ ∀ i, i < n → f i = f' i := by
  intro n
  induction n with
  | zero =>
    intro n' _ h' h
    cases n' with
    | zero => exact ⟨rfl, fun i hi => absurd hi (by omega)⟩
    | succ m =>
      have := (h' m (by omega)).1
      have h : 0 = eN B f' m * B + f' m := h
      omega
  | succ n ih =>
    intro n' hf h' h
    cases n' with
    | zero =>
      have := (hf n (by omega)).1
      have h : eN B f n * B + f n = 0 := h
      omega
    | succ m =>
      have h : eN B f n * B + f n = eN B f' m * B + f' m := h
      have a1 := (hf n (by omega)).2
      have a2 := (h' m (by omega)).2
      have e1 : f n = f' m := by
        have := congrArg (· % B) h
        simp only [Nat.mul_add_mod_self_right, Nat.mod_eq_of_lt a1, Nat.mod_eq_of_lt a2] at this
        exact this
      have e2 : eN B f n = eN B f' m := by
        rw [e1] at h
        have : eN B f n * B = eN B f' m * B := by omega
        exact Nat.eq_of_mul_eq_mul_right hB this
      obtain ⟨e3, e4⟩ := ih m (fun i hi => hf i (by omega)) (fun i hi => h' i (by omega)) e2
      subst e3
      refine ⟨rfl, fun i hi => ?_⟩
      by_cases c : i = n
      · rw [c]; exact e1
      · exact e4 i (by omega)
theorem eN_lt {B : Nat} {f : Nat → Nat} : ∀ n, (∀ i, i < n → f i < B) → eN B f n < B ^ n := by
  intro n
  induction n with
  | zero => intro _; exact Nat.one_pos
  | succ n ih =>
    intro h
    have h1 := ih (fun i hi => h i (by omega))
    have h2 := h n (by omega)
    unfold eN
    rw [Nat.pow_succ]
    calc eN B f n * B + f n < eN B f n * B + B := by omega
      _ = (eN B f n + 1) * B := by rw [Nat.add_mul, Nat.one_mul]
      _ ≤ B ^ n * B := Nat.mul_le_mul_right B h1
theorem eN_lt7 {B : Nat} {f : Nat → Nat} {n : Nat} (hB : B ≤ 256) (h1 : 1 ≤ B) (h : ∀ i, i < n → f i < B) (hn : n ≤ 7) : eN B f n < 2 ^ 63 := by
  have h2 := eN_lt n h
  have h3 : B ^ n ≤ 256 ^ 7 := Nat.le_trans (Nat.pow_le_pow_left hB n) (Nat.pow_le_pow_right (by decide) hn)
  have h4 : (256 : Nat) ^ 7 < 2 ^ 63 := by decide
  omega
/-- letters from a on -/
def Ltr (T : Nat → Int32) (a n : Nat) (c : Nat → Nat) : Prop := ∀ i, i < n → T (a + i) = nI (c i) ∧ 97 ≤ c i ∧ c i ≤ 122
theorem byte_all : ∀ k : Fin 256, ((Int32.ofInt ((k.val : Int) - 128)) &&& 255) = if (0 : Int32) ≤ Int32.ofInt ((k.val : Int) - 128) then Int32.ofInt ((k.val : Int) - 128) else Int32.ofInt ((k.val : Int) - 128) + 256 := by decide +kernel
theorem byte_and {x : Int32} (h1 : -128 ≤ x) (h2 : x ≤ 127) : x &&& 255 = if 0 ≤ x then x else x + 256 := by
  have a1 := i32_le.mp h1
  have a2 := i32_le.mp h2
  have e1 : (-128 : Int32).toInt = -128 := rfl
  have e2 : (127 : Int32).toInt = 127 := rfl
  have hk : (x.toInt + 128).toNat < 256 := by omega
  have := byte_all ⟨(x.toInt + 128).toNat, hk⟩
  have e3 : Int32.ofInt ((((⟨(x.toInt + 128).toNat, hk⟩ : Fin 256).val : Nat) : Int) - 128) = x := by
    rw [i32_eq, Int32.toInt_ofInt_of_le (by show _ ≤ (((x.toInt + 128).toNat : Nat) : Int) - 128; omega) (by show (((x.toInt + 128).toNat : Nat) : Int) - 128 < _; omega)]
    show (((x.toInt + 128).toNat : Nat) : Int) - 128 = x.toInt
    omega
  rw [e3] at this
  exact this
theorem byte_neg {x : Int32} (h1 : -128 ≤ x) (h : ¬ 0 ≤ x) : (x + 256).toInt = x.toInt + 256 := by
  have a1 := i32_le.mp h1
  have a2 := i32_lt.mp (i32_nle.mp h)
  have e1 : (-128 : Int32).toInt = -128 := rfl
  have e2 : (0 : Int32).toInt = 0 := rfl
  exact t_add rfl rfl (by omega)
/-- what is asked of a byte, asked of the byte without its sign -/
theorem byte_in {x lo hi : Int32} (h1 : -128 ≤ x) (h2 : x ≤ 127) (hlo : 0 ≤ lo) (hhi : hi ≤ 127) : (lo ≤ (x &&& 255) ∧ (x &&& 255) ≤ hi) = (lo ≤ x ∧ x ≤ hi) := by
  rw [byte_and h1 h2]
  by_cases c : 0 ≤ x
  · rw [if_pos c]
  · rw [if_neg c]
    have e := byte_neg h1 c
    have a1 := i32_le.mp h1
    have a2 := i32_lt.mp (i32_nle.mp c)
    have a3 := i32_le.mp hlo
    have a4 := i32_le.mp hhi
    have e1 : (-128 : Int32).toInt = -128 := rfl
    have e2 : (0 : Int32).toInt = 0 := rfl
    have e3 : (127 : Int32).toInt = 127 := rfl
    apply propext
    rw [i32_le, i32_le, i32_le, i32_le, e]
    omega
theorem byte_eq {x y : Int32} (h1 : -128 ≤ x) (h2 : x ≤ 127) (hlo : 0 ≤ y) (hhi : y ≤ 127) : ((x &&& 255) = y) = (x = y) := by
  have h := byte_in h1 h2 hlo hhi
  have q : ∀ z : Int32, (z = y) = (y ≤ z ∧ z ≤ y) := fun z => propext ⟨fun e => by rw [e]; exact ⟨by rw [i32_le]; omega, by rw [i32_le]; omega⟩, fun e => by rw [i32_eq]; have := i32_le.mp e.1; have := i32_le.mp e.2; omega⟩
  rw [q, q, h]
theorem byte_pos {x : Int32} (h1 : -128 ≤ x) (h2 : x ≤ 127) : 0 ≤ (x &&& 255) := by
  rw [byte_and h1 h2]
  by_cases c : 0 ≤ x
  · rw [if_pos c]; exact c
  · rw [if_neg c]
    have e := byte_neg h1 c
    have a1 := i32_le.mp h1
    have e1 : (-128 : Int32).toInt = -128 := rfl
    have e2 : (0 : Int32).toInt = 0 := rfl
    rw [i32_le, e]
    omega
/-- a word as the model counts it -/
def fWm (T : Nat → Int32) (a : Nat) : Nat → Int64
  | 0 => 0
  | k + 1 => (fWm T a k <<< ((8 : Int32).toInt64 &&& 63)) ||| (T (a + k) &&& 255).toInt64
/-- a constant's text as the model counts it -/
def fXm (t : List Nat) : Nat → Int64
  | 0 => 0
  | k + 1 => (fXm t k <<< ((8 : Int32).toInt64 &&& 63)) ||| (nI (t.getD k 0)).toInt64
theorem fXm_eN {t : List Nat} : ∀ k, (∀ i, i < k → t.getD i 0 < 256) → fXm t k = lN (eN 256 (fun i => t.getD i 0) k) := by
  intro k
  induction k with
  | zero => intro _; rfl
  | succ k ih =>
    intro h
    unfold fXm eN
    have h1 := h k (by omega)
    rw [ih (fun i hi => h i (by omega)), nI_l (by omega), show (8 : Int32) = nI 8 from rfl, wb_shl _ (by omega), Nat.mul_comm _ (2 ^ 8), fb_or_sumL _ (by omega)]
theorem byte_lt {k : Nat} (h : k ≤ 127) : nI k &&& 255 = nI k := by
  rw [byte_and (by rw [i32_le, nI_toI (by omega)]; have : (-128 : Int32).toInt = -128 := rfl; omega) (by rw [i32_le, nI_toI (by omega)]; have : (127 : Int32).toInt = 127 := rfl; omega), if_pos (nI_pos' (by omega))]
theorem fWm_eN {T : Nat → Int32} {a : Nat} {c : Nat → Nat} : ∀ k, Ltr T a k c → fWm T a k = lN (eN 256 c k) := by
  intro k
  induction k with
  | zero => intro _; rfl
  | succ k ih =>
    intro h
    obtain ⟨h1, h2, h3⟩ := h k (by omega)
    unfold fWm eN
    rw [ih (fun i hi => h i (by omega)), h1, byte_lt (by omega), nI_l (by omega), show (8 : Int32) = nI 8 from rfl, wb_shl _ (by omega), Nat.mul_comm _ (2 ^ 8), fb_or_sumL _ (by omega)]
theorem fWd_eN {T : Nat → Int32} {a : Nat} {c : Nat → Nat} : ∀ k, Ltr T a k c → fWd T a k = lN (eN 32 (fun i => c i - 96) k) := by
  intro k
  induction k with
  | zero => intro _; rfl
  | succ k ih =>
    intro h
    obtain ⟨h1, h2, h3⟩ := h k (by omega)
    unfold fWd eN
    have e : nI (c k) - 97 + 1 = nI (c k - 96) := by
      rw [show (97 : Int32) = nI 97 from rfl, subI (by omega) (by omega), nI_1]
      congr 1
      omega
    rw [ih (fun i hi => h i (by omega)), h1, e, nI_l (by omega), show (32 : Int64) = lN 32 from rfl, lN_mul, lN_add]
/-- letters are some letters -/
theorem Ltr_of {T : Nat → Int32} {a n : Nat} (h : ∀ i, i < n → qLt T (a + i) = true) : Ltr T a n (fun i => xix (T (a + i))) := by
  intro i hi
  obtain ⟨h1, h2⟩ := of_decide_eq_true (h i hi)
  have a1 := i32_le.mp h1
  have a2 := i32_le.mp h2
  have e1 : (97 : Int32).toInt = 97 := rfl
  have e2 : (122 : Int32).toInt = 122 := rfl
  have h0 : 0 ≤ T (a + i) := by rw [i32_le]; have : (0 : Int32).toInt = 0 := rfl; omega
  obtain ⟨e3, e4⟩ := i32_nI h0
  refine ⟨e3, ?_⟩
  rw [e3, nI_toI e4] at a1 a2
  show 97 ≤ (T (a + i)).toNatClampNeg ∧ (T (a + i)).toNatClampNeg ≤ 122
  omega
/-- a name in class and model -/
def nmR (x y : Int64) : Prop := ∃ n c, n ≤ 7 ∧ (∀ i, i < n → 97 ≤ c i ∧ c i ≤ 122) ∧ x = lN (eN 32 (fun i => c i - 96) n) ∧ y = lN (eN 256 c n)
theorem nmR.eq {x y x' y' : Int64} (h : nmR x y) (h' : nmR x' y') : (x = x') = (y = y') := by
  obtain ⟨n, c, hn, hc, rfl, rfl⟩ := h
  obtain ⟨n', c', hn', hc', rfl, rfl⟩ := h'
  have l1 : ∀ (n : Nat) (c : Nat → Nat), n ≤ 7 → (∀ i, i < n → 97 ≤ c i ∧ c i ≤ 122) → eN 32 (fun i => c i - 96) n < 2 ^ 63 ∧ eN 256 c n < 2 ^ 63 := fun n c hn hc => ⟨eN_lt7 (by omega) (by omega) (fun i hi => by have := hc i hi; omega) hn, eN_lt7 (by omega) (by omega) (fun i hi => by have := hc i hi; omega) hn⟩
  obtain ⟨a1, a2⟩ := l1 n c hn hc
  obtain ⟨b1, b2⟩ := l1 n' c' hn' hc'
  apply propext
  rw [fb_lN_inj a1 b1, fb_lN_inj a2 b2]
  have cg : ∀ (B : Nat) (f f' : Nat → Nat) (n : Nat), (∀ i, i < n → f i = f' i) → eN B f n = eN B f' n := by
    intro B f f' n
    induction n with
    | zero => intro _; rfl
    | succ n ih =>
      intro h
      unfold eN
      rw [ih (fun i hi => h i (by omega)), h n (by omega)]
  constructor
  · intro h
    obtain ⟨e1, e2⟩ := eN_inj (by omega) n n' (fun i hi => by have := hc i hi; omega) (fun i hi => by have := hc' i hi; omega) h
    subst e1
    refine cg 256 c c' n (fun i hi => ?_)
    have q1 := hc i hi
    have q2 := hc' i hi
    have q3 : c i - 96 = c' i - 96 := e2 i hi
    omega
  · intro h
    obtain ⟨e1, e2⟩ := eN_inj (by omega) n n' (fun i hi => by have := hc i hi; omega) (fun i hi => by have := hc' i hi; omega) h
    subst e1
    refine cg 32 _ _ n (fun i hi => ?_)
    show c i - 96 = c' i - 96
    rw [e2 i hi]
theorem nmR.pos {x y : Int64} (h : nmR x y) : 0 ≤ lg_cmp x 0 := by
  obtain ⟨n, c, hn, hc, rfl, -⟩ := h
  have h1 : eN 32 (fun i => c i - 96) n < 2 ^ 63 := eN_lt7 (by omega) (by omega) (fun i hi => by have := hc i hi; omega) hn
  rw [lg_cmp_ge, Int64.le_iff_toInt_le]
  show (0 : Int64).toInt ≤ (Int64.ofNat _).toInt
  rw [Int64.toInt_ofNat_of_lt h1]
  exact Int.natCast_nonneg _
theorem fSay_iff {T : Nat → Int32} {a : Nat} {t : List Nat} : ∀ r i, fSay T a t r i = true ↔ ∀ j, i ≤ j → j < i + r → T (a + j) = nI (t.getD j 0) := by
  intro r
  induction r with
  | zero => intro i; exact ⟨fun _ j h1 h2 => absurd h1 (by omega), fun _ => rfl⟩
  | succ r ih =>
    intro i
    unfold fSay
    by_cases c : T (a + i) = nI (t.getD i 0)
    · rw [if_pos c, ih (i + 1)]
      constructor
      · intro h j h1 h2
        by_cases e : j = i
        · rw [e]; exact c
        · exact h j (by omega) (by omega)
      · intro h j h1 h2
        exact h j (by omega) (by omega)
    · rw [if_neg c]
      exact ⟨fun h => absurd h (by decide), fun h => absurd (h i (by omega) (by omega)) c⟩
