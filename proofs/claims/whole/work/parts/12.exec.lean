/-! a switch -/
def xswok (pc : Nat) (dflt hi : Int) (offs : Array Int) (ts : List Nat) (d : Nat) : Bool :=
  decide (hi + 1 = ts.length) && decide ((pc : Int) + dflt = d) && decide (offs.toList.map (fun o => (pc : Int) + o) = ts.map (fun (t : Nat) => (t : Int))) && decide (ts.length < 1000)
theorem snd_tsw {tb : Nat → xM} {M : xM} {pc d len : Nat} {dflt hi : Int} {offs : Array Int} {ts : List Nat} (hd : decode (mC M) pc = .ok (.tableswitch dflt 0 hi offs, len)) (hsw : xswok pc dflt hi offs ts d = true) : Snd tb M pc (oSw ts d) := by
  refine ⟨xmo_oSw _ _, ?_⟩
  intro l G p e R s m args below meth c u0 uF rF Q C ls st u act h
  simp only [xswok, Bool.and_eq_true, decide_eq_true_eq] at hsw
  obtain ⟨⟨⟨h1, h2⟩, h3⟩, h4⟩ := hsw
  unfold oSw at h
  have e0 : (0 : Int32).toInt = 0 := rfl
  have en : (nI ts.length).toInt = ts.length := nI_toInt (by omega)
  split at h
  · split at h
    next x r hc =>
      simp only [xgo, Option.some.injEq] at h
      subst h
      refine ⟨xle.rf _, fun _ k lsA H locs hL hH hS h1' => lv_tableOut C.1 C.2.1 hd ?_ h2 (k lsA H locs hL hH hS h1')⟩
      rcases hc with hc | hc
      · left
        have := Int32.lt_iff_toInt_lt.mp hc
        omega
      · right
        have := Int32.le_iff_toInt_le.mp hc
        omega
    next x r hc =>
      simp only [xgo, Option.some.injEq] at h
      subst h
      refine ⟨xle.rf _, fun _ k lsA H locs hL hH hS h1' => ?_⟩
      have c1 : 0 ≤ x.toInt := by
        have : ¬ x < 0 := fun q => hc (Or.inl q)
        have := mt Int32.lt_iff_toInt_lt.mpr this
        omega
      have c2 : x.toInt < ts.length := by
        have : ¬ nI ts.length ≤ x := fun q => hc (Or.inr q)
        have := mt Int32.le_iff_toInt_le.mpr this
        omega
      have ei : x.toNatClampNeg = (x.toInt - 0).toNat := by
        rw [Int32.toNatClampNeg]
        simp
      have hlen : offs.toList.length = ts.length := by simpa using congrArg List.length h3
      have hi' : (x.toInt - 0).toNat < ts.length := by omega
      have hio : (x.toInt - 0).toNat < offs.toList.length := by omega
      have hg := congrArg (fun q => q[(x.toInt - 0).toNat]?) h3
      simp only [List.getElem?_map, List.getElem?_eq_getElem hi', List.getElem?_eq_getElem hio, Option.map_some, Option.some.injEq] at hg
      refine lv_tableIn (off := offs.toList[(x.toInt - 0).toNat]) C.1 C.2.1 hd (by omega) (by omega) (by rw [← Array.getElem?_toList, List.getElem?_eq_getElem hio]) ?_ (k lsA H locs hL hH hS h1')
      rw [hg, ei, List.getD_eq_getElem?_getD, List.getElem?_eq_getElem hi']
      rfl
  · cases h
/-! THE RUN -/
def xex (cd : Nat → Nat → xOp) (tb : Nat → xM) : Nat → Nat → Nat → List Value → List Value → xMem → Option (Option Value × xMem)
  | 0, _, _, _, _, _ => none
  | n + 1, m, pc, ls, st, u => match cd m pc ls st u with
    | none => none
    | some (.inl (pc1, ls1, st1, u1)) => xex cd tb n m pc1 ls1 st1 u1
    | some (.inr (.inl (m', as, pc1, ls1, st1, u1))) => if (as.flatMap xent1).length ≤ mN (tb m') ∧ m' ≠ 0 ∧ m' ≠ 2 then (match xex cd tb n m' 0 (xentL (mN (tb m')) as) [] u1 with
      | none => none
      | some (r, u2) => xex cd tb n m pc1 ls1 (r.toList ++ st1) u2) else none
    | some (.inr (.inr r)) => some r
theorem xentL_at {G : xG} (as : List Value) : (lg_sl (as.map (xtr G))).length = (as.flatMap xent1).length ∧ ∀ (i : Nat) (v : Value), (as.flatMap xent1)[i]? = some v → v ≠ .null → (lg_sl (as.map (xtr G)))[i]? = some (.val (xtr G v)) := by
  induction as with
  | nil => exact ⟨rfl, fun i v h => by simp at h⟩
  | cons a as ih =>
    have e1 : (a :: as).flatMap xent1 = xent1 a ++ as.flatMap xent1 := rfl
    have e2 : lg_sl ((a :: as).map (xtr G)) = lg_sl [xtr G a] ++ lg_sl (as.map (xtr G)) := by simp [lg_sl]
    have e3 : (lg_sl [xtr G a]).length = (xent1 a).length := by cases a <;> rfl
    have e4 : ∀ (i : Nat) (v : Value), (xent1 a)[i]? = some v → v ≠ .null → (lg_sl [xtr G a])[i]? = some (.val (xtr G v)) := by
      intro i v hi hv
      cases a <;> (match i, hi with
        | 0, hi => first | (cases hi; first | rfl | exact absurd rfl hv)
        | 1, hi => first | (cases hi; exact absurd rfl hv) | (simp [xent1] at hi; try exact absurd hi.symm hv)
        | i + 2, hi => simp [xent1] at hi)
    rw [e1, e2]
    refine ⟨by rw [List.length_append, List.length_append, e3, ih.1], fun i v hi hv => ?_⟩
    by_cases hl : i < (xent1 a).length
    · rw [List.getElem?_append_left hl] at hi
      rw [List.getElem?_append_left (by omega)]
      exact e4 i v hi hv
    · rw [List.getElem?_append_right (by omega)] at hi
      rw [List.getElem?_append_right (by omega), e3]
      exact ih.2 _ v hi hv
theorem xLR_entry {G : xG} {as : List Value} {n : Nat} (h : (as.flatMap xent1).length ≤ n) : xLR G ((lg_sl (as.map (xtr G)) ++ List.replicate (n - (lg_sl (as.map (xtr G))).length) Slot.unset).toArray) n (xentL n as) := by
  obtain ⟨h1, h2⟩ := xentL_at (G := G) as
  have hl := lv_entry (as.map (xtr G)) (n := n) (by rw [h1]; exact h)
  refine ⟨by rw [xentL, List.length_append, List.length_replicate]; omega, hl.1, hl.2.1, fun i v hi hv => ?_⟩
  unfold xentL at hi
  rw [List.getElem?_toArray]
  by_cases hk : i < (as.flatMap xent1).length
  · rw [List.getElem?_append_left hk] at hi
    rw [List.getElem?_append_left (by omega)]
    exact h2 i v hi hv
  · rw [List.getElem?_append_right (by omega), List.getElem?_replicate] at hi
    split at hi
    · cases hi
      exact absurd rfl hv
    · cases hi
section
variable {cd : Nat → Nat → xOp} {tb : Nat → xM} {l : Launch} {G : xG}
/-- what a method's body owes gives its contract -/
theorem xmet_of {M : xM} (hpl : plainName (mY M).cls = true) {as : List Value} {u u' : xMem} {r : Option Value} (hnl : (mY M).name ≠ "law") (hni : ¬ ((mY M).cls = RX10 ∧ (mY M).name = "idle")) (hfit : (as.flatMap xent1).length ≤ mN M)
    (hb : ∀ (p : Program) (e : Env) (R : Room) (s : State) (m : MethodId) (args : Array Value) (below : List Frame) (meth : Method) (c : Code) (Q : State → Prop), xCtx l G p e R s m args below meth c M u u' r Q → xWst l G p e R s m args below meth c M u Q 0 (xentL (mN M) as) [] u) : xMet l G M as u r u' := by
  refine Met.ofW (cc := mC M) (maxL := mN M) (ret := mR M) hpl rfl ?_
  intro p e s m args below meth c s₁ B hml hv
  obtain ⟨hargs, hE, hH, hlive⟩ := hv
  have hlocks := B.notSynchronized
  have hr := B.returns
  have hS0 : va_S (xA G) s.heap s.heap [] := va_S.rf
  have hC : xCtx l G p e (headSpec (xTs M) (xRm M u u')).room s m args below meth c M u u' r (MQ below (xQc G r u') args s (xT u' - xT u) (xS u' - xS u) (xA G)) := by
    refine ⟨B.exec, B.bytes, hml, findClass_of_methodNamed B.named, atoms_spec (ws := xTs M) B.pre, fun hn => (name_of_methodNamed B.named B.method).1.trans hn, ⟨Nat.le_refl _, Nat.le_refl _, Nat.le_refl _, Nat.le_refl _⟩, ⟨hE, hlive⟩, fun hn => absurd hn hnl, ?_, ?_, ?_, fun _ _ _ _ _ _ hn => absurd hn hni⟩
    · intro pc lsA H locs v ty hd hrF hty hnar hHF hS
      exact W.zret B.exec B.bytes (hr.trans hty) hnar (fun t ht hW => ⟨⟨by rw [hrF]; rfl, by rw [ht]; exact hHF⟩, hS.F ht⟩) (fun q hq => hS.2.2 q hq) hd hlocks
    · intro pc lsA H locs v hd hrF hty hHF hS
      exact W.lret B.exec B.bytes (hr.trans hty) (fun t ht hW => ⟨⟨by rw [hrF]; rfl, by rw [ht]; exact hHF⟩, hS.F ht⟩) (fun q hq => hS.2.2 q hq) hd hlocks
    · intro pc lsA H locs hd hrF hty hHF hS
      exact W.vret B.exec B.bytes (hr.trans hty) (fun t ht hW => ⟨⟨by rw [hrF]; rfl, by rw [ht]; exact hHF⟩, hS.F ht⟩) (fun q hq => hS.2.2 q hq) hd hlocks
  have hW := hb p e _ s m args below meth c _ hC _ s.heap [] (xLR_entry hfit) hH hS0 (xle.rf u)
  rw [hargs, lg_entry_eq]
  refine W.cs (cells' := xT u - xT u) (slots' := xS u - xS u) (by omega) (by omega) ?_
  rw [← hargs]
  exact hW
/-- a run of the abstract machine is a run of the machine; method 0 is the law's, 'ext' are those whose contracts come from elsewhere -/
theorem xrun (ext : Nat → Bool) (hS : ∀ m, ext m = false → ∀ pc, Snd tb (tb m) pc (cd m pc)) (hpl : ∀ m, ext m = false → m ≠ 0 → m ≠ 2 → plainName (mY (tb m)).cls = true ∧ (mY (tb m)).name ≠ "law" ∧ ¬ ((mY (tb m)).cls = RX10 ∧ (mY (tb m)).name = "idle"))
    (hE : ∀ m, ext m = true → ∀ n as u r u', xex cd tb n m 0 (xentL (mN (tb m)) as) [] u = some (r, u') → xle u u' ∧ xMet l G (tb m) as u r u') :
    ∀ (n m : Nat), ext m = false → ∀ (pc : Nat) (ls st : List Value) (u : xMem) (r : Option Value) (u' : xMem), xex cd tb n m pc ls st u = some (r, u') → xle u u' ∧
      ∀ (p : Program) (e : Env) (R : Room) (s : State) (mi : MethodId) (args : Array Value) (below : List Frame) (meth : Method) (c : Code) (u0 : xMem) (Q : State → Prop), xCtx l G p e R s mi args below meth c (tb m) u0 u' r Q → xWst l G p e R s mi args below meth c (tb m) u0 Q pc ls st u := by
  intro n
  induction n with
  | zero => intro m _ pc ls st u r u' h; cases h
  | succ n ih =>
    intro m hm pc ls st u r u' h
    unfold xex at h
    split at h
    · cases h
    · next pc1 ls1 st1 u1 hact =>
      obtain ⟨i1, i2⟩ := ih m hm pc1 ls1 st1 u1 r u' h
      have h0 : xle u u1 := (hS m hm pc).1 ls st u _ hact
      exact ⟨h0.tr i1, fun p e R s mi args below meth c u0 Q C => ((hS m hm pc).2 l G p e R s mi args below meth c u0 u' r Q C ls st u _ hact).2 i1 (i2 p e R s mi args below meth c u0 Q C)⟩
    · next m' as pc1 ls1 st1 u1 hact =>
      split at h
      next hfit =>
        split at h
        · cases h
        · next r1 u2 hin =>
          have h0 : u1 = u := (hS m hm pc).1 ls st u _ hact
          subst h0
          have hcal : xle u1 u2 ∧ xMet l G (tb m') as u1 r1 u2 := by
            cases hx : ext m' with
            | true => exact hE m' hx n as u1 r1 u2 hin
            | false =>
              obtain ⟨j1, j2⟩ := ih m' hx 0 _ _ u1 r1 u2 hin
              obtain ⟨p1, p2, p3⟩ := hpl m' hx hfit.2.1 hfit.2.2
              exact ⟨j1, xmet_of p1 p2 p3 hfit.1 (fun p e R s mi args below meth c Q C => j2 p e R s mi args below meth c u1 Q C)⟩
          obtain ⟨i1, i2⟩ := ih m hm pc1 ls1 _ u2 r u' h
          exact ⟨hcal.1.tr i1, fun p e R s mi args below meth c u0 Q C => ((hS m hm pc).2 l G p e R s mi args below meth c u0 u' r Q C ls st u1 _ hact).2 r1 u2 hcal.1 i1 hcal.2 (i2 p e R s mi args below meth c u0 Q C)⟩
      next => cases h
    · next r1 hact =>
      obtain ⟨rr, uu⟩ := r1
      have h0 : uu = u := (hS m hm pc).1 ls st u _ hact
      subst h0
      cases h
      exact ⟨xle.rf _, fun p e R s mi args below meth c u0 Q C => ((hS m hm pc).2 l G p e R s mi args below meth c u0 _ _ Q C ls st _ _ hact).2 rfl rfl⟩
end
/-! how a run is reasoned about -/
section
variable {cd : Nat → Nat → xOp} {tb : Nat → xM} {m pc : Nat} {ls st : List Value} {u : xMem} {P P' : Option Value → xMem → Prop}
def xRun (cd : Nat → Nat → xOp) (tb : Nat → xM) (m pc : Nat) (ls st : List Value) (u : xMem) (P : Option Value → xMem → Prop) : Prop := ∃ n r u', xex cd tb n m pc ls st u = some (r, u') ∧ P r u'
theorem xex_more : ∀ (n k m pc : Nat) (ls st : List Value) (u : xMem) (r : Option Value × xMem), xex cd tb n m pc ls st u = some r → xex cd tb (n + k) m pc ls st u = some r := by
  intro n
  induction n with
  | zero => intro k m pc ls st u r h; cases h
  | succ n ih =>
    intro k m pc ls st u r h
    rw [show n + 1 + k = (n + k) + 1 by omega]
    unfold xex at h ⊢
    split at h
    · cases h
    · exact ih k _ _ _ _ _ _ h
    · split at h
      next hfit =>
        split at h
        · cases h
        · next r1 u2 hin =>
          simp only [hfit, and_self, if_true, ne_eq, not_false_eq_true, ih k _ _ _ _ _ _ hin]
          exact ih k _ _ _ _ _ _ h
      next => cases h
    · exact h
theorem xRun.det (h : xRun cd tb m pc ls st u P) (k : xRun cd tb m pc ls st u P') : xRun cd tb m pc ls st u (fun r u' => P r u' ∧ P' r u') := by
  obtain ⟨n, r, u', h1, h2⟩ := h
  obtain ⟨n', r', u'', k1, k2⟩ := k
  have e1 := xex_more n n' _ _ _ _ _ _ h1
  have e2 := xex_more n' n _ _ _ _ _ _ k1
  rw [Nat.add_comm] at e2
  rw [e1] at e2
  cases e2
  exact ⟨n, r, u', h1, h2, k2⟩
theorem xRun.mono (h : xRun cd tb m pc ls st u P) (k : ∀ r u', P r u' → P' r u') : xRun cd tb m pc ls st u P' := by
  obtain ⟨n, r, u', h1, h2⟩ := h
  exact ⟨n, r, u', h1, k r u' h2⟩
/-- a run whose end is known -/
theorem xRun.eq {r0 : Option Value} {w : xMem} (h : xRun cd tb m pc ls st u (fun r u' => r = r0 ∧ u' = w)) : xRun cd tb m pc ls st u P ↔ P r0 w := by
  refine ⟨fun k => ?_, fun k => h.mono (fun r u' q => by rw [q.1, q.2]; exact k)⟩
  obtain ⟨n, r, u', h1, h2, h3⟩ := h.det k
  rw [← h2.1, ← h2.2]
  exact h3
theorem xRun_go {pc1 : Nat} {ls1 st1 : List Value} {u1 : xMem} (h : cd m pc ls st u = xgo pc1 ls1 st1 u1) : xRun cd tb m pc ls st u P = xRun cd tb m pc1 ls1 st1 u1 P := by
  apply propext
  constructor
  · rintro ⟨n, r, u', h1, h2⟩
    cases n with
    | zero => cases h1
    | succ n =>
      unfold xex at h1
      rw [h] at h1
      exact ⟨n, r, u', h1, h2⟩
  · rintro ⟨n, r, u', h1, h2⟩
    refine ⟨n + 1, r, u', ?_, h2⟩
    unfold xex
    rw [h]
    exact h1
theorem xRun_no (h : cd m pc ls st u = none) : xRun cd tb m pc ls st u P = False := by
  apply propext
  refine ⟨?_, False.elim⟩
  rintro ⟨n, r, u', h1, h2⟩
  cases n with
  | zero => cases h1
  | succ n =>
    unfold xex at h1
    rw [h] at h1
    cases h1
theorem xRun_end {r : Option Value} {u1 : xMem} (h : cd m pc ls st u = xend r u1) : xRun cd tb m pc ls st u P = P r u1 := by
  apply propext
  constructor
  · rintro ⟨n, r, u', h1, h2⟩
    cases n with
    | zero => cases h1
    | succ n =>
      unfold xex at h1
      rw [h] at h1
      cases h1
      exact h2
  · intro h2
    refine ⟨1, r, u1, ?_, h2⟩
    unfold xex
    rw [h]
    rfl
theorem xRun_cal {m' pc1 : Nat} {as ls1 st1 : List Value} {u1 : xMem} (h : cd m pc ls st u = xcal m' as pc1 ls1 st1 u1) (hf : (as.flatMap xent1).length ≤ mN (tb m') ∧ m' ≠ 0 ∧ m' ≠ 2) :
    xRun cd tb m pc ls st u P = xRun cd tb m' 0 (xentL (mN (tb m')) as) [] u1 (fun r u2 => xRun cd tb m pc1 ls1 (r.toList ++ st1) u2 P) := by
  apply propext
  constructor
  · rintro ⟨n, r, u', h1, h2⟩
    cases n with
    | zero => cases h1
    | succ n =>
      unfold xex at h1
      rw [h] at h1
      simp only [xcal] at h1
      rw [if_pos hf] at h1
      split at h1
      · cases h1
      · next r1 u2 hin => exact ⟨n, r1, u2, hin, n, r, u', h1, h2⟩
  · rintro ⟨n, r1, u2, hin, n', r, u', h1, h2⟩
    refine ⟨n + n' + 1, r, u', ?_, h2⟩
    unfold xex
    rw [h]
    simp only [xcal]
    rw [if_pos hf, xex_more n n' _ _ _ _ _ _ hin]
    have e := xex_more n' n _ _ _ _ _ _ h1
    rw [Nat.add_comm] at e
    exact e
end
