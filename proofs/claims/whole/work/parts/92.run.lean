/-! THE LAW'S RUN over the machine -/
noncomputable def xr2 (k : Int32) (u : xMem) : Option Value := @dite _ (∃ r, zr 2 0 [.ref 0, .int k, .null, .null] [] u (fun r' u1 => r' = some r ∧ u1 = u)) (Classical.propDecidable _) (fun h => some h.choose) (fun _ => none)
theorem xr2_of {k : Int32} {u : xMem} {r : Value} (h : ∀ P, zr 2 0 [.ref 0, .int k, .null, .null] [] u P = P (some r) u) : xr2 k u = some r := by
  have hx : ∃ r, zr 2 0 [.ref 0, .int k, .null, .null] [] u (fun r' u1 => r' = some r ∧ u1 = u) := ⟨r, by rw [h]; exact ⟨rfl, rfl⟩⟩
  have hs := hx.choose_spec
  rw [h] at hs
  unfold xr2
  rw [dif_pos hx]
  exact hs.1.symm
theorem xr2_run {k : Int32} {u : xMem} {r : Value} (h : xr2 k u = some r) : zr 2 0 [.ref 0, .int k, .null, .null] [] u (fun r' u1 => r' = some r ∧ u1 = u) := by
  unfold xr2 at h
  by_cases hx : ∃ r, zr 2 0 [.ref 0, .int k, .null, .null] [] u (fun r' u1 => r' = some r ∧ u1 = u)
  · rw [dif_pos hx] at h
    cases h
    exact hx.choose_spec
  · rw [dif_neg hx] at h
    cases h
noncomputable def oIdv (k : Int32) (u : xMem) : Option (Int32 × xMem) := match xr2 k u with
  | some (.int q) => some (0, xsJ (xbmp u) 295 0 q.toInt64)
  | some (.retAddr n) => if n = 0 then some (1, xbmp u) else none
  | _ => none
def idC (u : xMem) (x o : Nat) : Prop := (x = 0 ∧ o = 295) ∧ xV u = false ∧ (0 < xW u ∧ xK u 0 = 10) ∧ (295 < xW u ∧ xK u 295 = 14) ∧ 0 < xN u 295
/-- the law's own idle, as an end -/
noncomputable def oId : xOp := fun ls _ u => match ls with
  | [.ref x, .int k, .ref o, .null, .null, .null] => @ite _ (idC u x o) (Classical.propDecidable _) (match oIdv k u with
    | some (v, u') => xend (some (.int v)) u'
    | none => none) none
  | _ => none
/-- the same, as a step of the law -/
noncomputable def oIdl : xOp := fun ls st u => match st with
  | .ref o :: .int k :: .ref x :: r => @ite _ (idC u x o ∧ xcat r ≤ 8) (Classical.propDecidable _) (match oIdv k u with
    | some (v, u') => xgo 2155 ls (.int v :: r) u'
    | none => none) none
  | _ => none
section
variable {k v : Int32} {u u' : xMem} {x o : Nat}
theorem oIdv_cs (h : oIdv k u = some (v, u')) : (∃ q, xr2 k u = some (.int q) ∧ v = 0 ∧ u' = xsJ (xbmp u) 295 0 q.toInt64) ∨ (xr2 k u = some (.retAddr 0) ∧ v = 1 ∧ u' = xbmp u) := by
  unfold oIdv at h
  split at h
  · next q hq =>
    cases h
    exact Or.inl ⟨q, hq, rfl, rfl⟩
  · next n hn =>
    split at h
    · next e =>
      cases h
      subst e
      exact Or.inr ⟨hn, rfl, rfl⟩
    · cases h
  · cases h
theorem oIdv_le (hV : xV u = false) (h : oIdv k u = some (v, u')) : xle u u' ∧ xT u' = xT u + 1 ∧ xS u' = xS u + 6 := by
  have hv : xV u = true → xW u' + xT u = xW u + xT u' := fun q => by rw [hV] at q; cases q
  rcases oIdv_cs h with ⟨q, -, -, rfl⟩ | ⟨-, -, rfl⟩
  · exact ⟨⟨Nat.le_succ _, by show xS u ≤ xS u + 6; omega, rfl, hv⟩, rfl, rfl⟩
  · exact ⟨⟨Nat.le_succ _, by show xS u ≤ xS u + 6; omega, rfl, hv⟩, rfl, rfl⟩
theorem idOk : IdOk2 oId := by
  intro k u hV h0 h295 hn
  have hc : idC u 0 295 := ⟨⟨rfl, rfl⟩, hV, h0, h295, hn⟩
  refine ⟨fun q h => ?_, fun h => ?_⟩
  · show @ite _ (idC u 0 295) (Classical.propDecidable _) (match oIdv k u with
      | some (v, u') => xend (some (.int v)) u'
      | none => none) none = _
    rw [if_pos hc]
    unfold oIdv
    rw [xr2_of h]
  · show @ite _ (idC u 0 295) (Classical.propDecidable _) (match oIdv k u with
      | some (v, u') => xend (some (.int v)) u'
      | none => none) none = _
    rw [if_pos hc]
    unfold oIdv
    rw [xr2_of h]
    rfl
theorem oId_cs {ls st : List Value} {act} (h : oId ls st u = some act) : ∃ x k o v u', ls = [.ref x, .int k, .ref o, .null, .null, .null] ∧ idC u x o ∧ oIdv k u = some (v, u') ∧ act = .inr (.inr (some (.int v), u')) := by
  unfold oId at h
  split at h
  · next x k o =>
    by_cases hc : idC u x o
    · rw [if_pos hc] at h
      split at h
      · next v u' hv =>
        cases h
        exact ⟨x, k, o, v, u', rfl, hc, hv, rfl⟩
      · cases h
    · rw [if_neg hc] at h
      cases h
  · cases h
theorem oIdl_cs {ls st : List Value} {act} (h : oIdl ls st u = some act) : ∃ x k o r v u', st = .ref o :: .int k :: .ref x :: r ∧ (idC u x o ∧ xcat r ≤ 8) ∧ oIdv k u = some (v, u') ∧ act = .inl (2155, ls, .int v :: r, u') := by
  unfold oIdl at h
  split at h
  · next o k x r =>
    by_cases hc : idC u x o ∧ xcat r ≤ 8
    · rw [if_pos hc] at h
      split at h
      · next v u' hv =>
        cases h
        exact ⟨x, k, o, r, v, u', rfl, hc, hv, rfl⟩
      · cases h
    · rw [if_neg hc] at h
      cases h
  · cases h
theorem xmo_oIdl : xmo oIdl := by
  intro ls st u act h
  obtain ⟨x, k, o, r, v, u', -, hc, hv, rfl⟩ := oIdl_cs h
  exact (oIdv_le hc.1.2.1 hv).1
theorem ent0 {c : Value} {as : List Value} (h : (xentL 6 (c :: as))[0]? = some (.ref x)) : c = .ref x := by
  cases c <;> simp [xentL, xent1] at h ⊢ <;> exact h
theorem ent1 {b : Value} {as : List Value} (h : (xentL 6 (.ref x :: b :: as))[1]? = some (.int k)) : b = .int k := by
  cases b <;> simp [xentL, xent1] at h ⊢ <;> exact h
theorem ent2 {a : Value} (h : (xentL 6 [.ref x, .int k, a])[2]? = some (.ref o)) : a = .ref o := by
  cases a <;> simp [xentL, xent1] at h ⊢ <;> exact h
end
noncomputable def xcd3 : Nat → Nat → xOp := fun m pc => if m = 0 ∧ pc = 2152 then oIdl else xcd2 oId m pc
noncomputable def xcdM : Nat → Nat → xOp := fun m pc => if m = 0 then oNo else xcd2 oId m pc
theorem xex_ag {cd cd' : Nat → Nat → xOp} {tb : Nat → xM} (h : ∀ m, m ≠ 0 → ∀ pc, cd m pc = cd' m pc) : ∀ (n m : Nat), m ≠ 0 → ∀ (pc : Nat) (ls st : List Value) (u : xMem), xex cd tb n m pc ls st u = xex cd' tb n m pc ls st u := by
  intro n
  induction n with
  | zero => intro m hm pc ls st u; rfl
  | succ n ih =>
    intro m hm pc ls st u
    unfold xex
    rw [h m hm pc]
    cases hA : cd' m pc ls st u with
    | none => rfl
    | some act =>
      match act with
      | .inl (pc1, ls1, st1, u1) => exact ih m hm pc1 ls1 st1 u1
      | .inr (.inl (m', as, pc1, ls1, st1, u1)) =>
        dsimp only
        by_cases hf : (as.flatMap xent1).length ≤ mN (tb m') ∧ m' ≠ 0 ∧ m' ≠ 2
        · rw [if_pos hf, if_pos hf, ih m' hf.2.1]
          split
          · rfl
          · next r1 u2 _ => exact ih m hm pc1 ls1 _ u2
        · rw [if_neg hf, if_neg hf]
      | .inr (.inr r) => rfl
theorem xcd3_ne {m pc : Nat} (h : m ≠ 0) : xcd3 m pc = xcd2 oId m pc := if_neg (fun q => h q.1)
theorem xcdM_ne {m pc : Nat} (h : m ≠ 0) : xcdM m pc = xcd2 oId m pc := if_neg h
theorem xcd2_ge {I : xOp} {m pc : Nat} (h : 2 ≤ m) : xcd2 I m pc = xcd m pc := by
  match m, h with
  | m + 2, _ => rfl
theorem len3 : ∀ {st : List Value}, 3 ≤ st.length → ∃ a b c r, st = a :: b :: c :: r
  | a :: b :: c :: r, _ => ⟨a, b, c, r, rfl⟩
  | [], h => absurd h (by simp)
  | [_], h => absurd h (by simp)
  | [_, _], h => absurd h (by simp)
theorem op2152 : xcd2 oId 0 2152 = oCal 1 3 2155 := ch_48 (by omega) rfl
theorem xex23 : ∀ (n pc : Nat) (ls st : List Value) (u : xMem) (r : Option Value × xMem), xex (xcd2 oId) xtb n 0 pc ls st u = some r → xex xcd3 xtb n 0 pc ls st u = some r := by
  intro n
  induction n with
  | zero => intro pc ls st u r h; cases h
  | succ n ih =>
    intro pc ls st u r h
    by_cases hp : pc = 2152
    · subst hp
      unfold xex at h ⊢
      rw [op2152] at h
      rw [show xcd3 0 2152 = oIdl from if_pos ⟨rfl, rfl⟩]
      unfold oCal at h
      by_cases hc : 3 ≤ st.length ∧ xcat (st.drop 3) ≤ 8
      · rw [if_pos hc] at h
        simp only [xcal] at h
        split at h
        next hfit =>
          split at h
          · cases h
          · next r1 u2 hin =>
            cases n with
            | zero => cases hin
            | succ n =>
              have hin0 := hin
              unfold xex at hin
              rw [show xcd2 oId 1 0 = oId from rfl] at hin
              cases hA : oId (xentL (mN (xtb 1)) (st.take 3).reverse) [] u with
              | none => rw [hA] at hin; cases hin
              | some act =>
                obtain ⟨x, k, o, v, u', hl, hi, hv, rfl⟩ := oId_cs hA
                rw [hA] at hin
                cases hin
                obtain ⟨a, b, c, rest, hst⟩ := len3 hc.1
                subst hst
                have hl : xentL 6 [c, b, a] = [.ref x, .int k, .ref o, .null, .null, .null] := hl
                have e0 := ent0 (x := x) (c := c) (as := [b, a]) (by rw [hl]; rfl)
                subst e0
                have e1 := ent1 (x := x) (k := k) (b := b) (as := [a]) (by rw [hl]; rfl)
                subst e1
                have e2 := ent2 (x := x) (k := k) (o := o) (a := a) (by rw [hl]; rfl)
                subst e2
                have hcc : idC u x o ∧ xcat rest ≤ 8 := ⟨hi, hc.2⟩
                have e : oIdl ls (.ref o :: .int k :: .ref x :: rest) u = xgo 2155 ls (.int v :: rest) u2 := by
                  show @ite _ (idC u x o ∧ xcat rest ≤ 8) (Classical.propDecidable _) (match oIdv k u with
                    | some (v, u') => xgo 2155 ls (.int v :: rest) u'
                    | none => none) none = _
                  rw [if_pos hcc, hv]
                rw [e]
                exact ih _ _ _ _ _ h
        next => cases h
      · rw [if_neg hc] at h
        cases h
    · unfold xex at h ⊢
      rw [show xcd3 0 pc = xcd2 oId 0 pc from if_neg (fun q => hp q.2)]
      cases hA : xcd2 oId 0 pc ls st u with
      | none => rw [hA] at h; cases h
      | some act =>
        rw [hA] at h
        match act, h with
        | .inl (pc1, ls1, st1, u1), h => exact ih pc1 ls1 st1 u1 r h
        | .inr (.inl (m', as, pc1, ls1, st1, u1)), h =>
          dsimp only at h ⊢
          by_cases hf : (as.flatMap xent1).length ≤ mN (xtb m') ∧ m' ≠ 0 ∧ m' ≠ 2
          · rw [if_pos hf] at h ⊢
            rw [xex_ag (fun m hm pc => xcd3_ne hm) n m' hf.2.1]
            split at h
            · cases h
            · next r1 u2 hin =>
              rw [hin]
              exact ih pc1 ls1 _ u2 r h
          · rw [if_neg hf] at h
            cases h
        | .inr (.inr r1), h => exact h
/-- a contract that nobody can use: the law's idle has handlers -/
theorem met1 {l : Launch} {G : xG} {as : List Value} {u u' : xMem} {r : Option Value} : xMet l G M1 as u r u' := by
  refine Met.ofW (cc := mC M1) (maxL := mN M1) (ret := mR M1) (by decide) rfl ?_
  intro p e s m args below meth c s₁ B hml hv
  exfalso
  have hts := atoms_spec (ws := xTs M1) B.pre
  obtain ⟨m9, meth9, c9, hn9, h1, h2, h3, h4, -⟩ := Cond.codeWith_spec (hts _ (List.mem_cons_of_mem _ wI_cod))
  cases Option.some.inj (hn9.symm.trans B.named)
  cases Option.some.inj (h1.symm.trans B.method)
  cases Option.some.inj (h2.symm.trans (Stand.of_body B).code)
  rw [hml] at h4
  exact absurd h4 (by decide)
def xext : Nat → Bool := fun m => decide (m = 1 ∨ 301 ≤ m)
theorem xpl : ∀ m, m < 301 → m ≠ 0 → m ≠ 2 → plainName (mY (xtb m)).cls = true ∧ (mY (xtb m)).name ≠ "law" ∧ ¬ ((mY (xtb m)).cls = RX10 ∧ (mY (xtb m)).name = "idle") := by decide +kernel
section
variable {l : Launch} {G : xG}
/-- runs of the methods but the law's -/
theorem mrun : ∀ (n m : Nat), xext m = false → ∀ (pc : Nat) (ls st : List Value) (u : xMem) (r : Option Value) (u' : xMem), xex xcdM xtb n m pc ls st u = some (r, u') → xle u u' ∧
      ∀ (p : Program) (e : Env) (R : Room) (s : State) (mi : MethodId) (args : Array Value) (below : List Frame) (meth : Method) (c : Code) (u0 : xMem) (Q : State → Prop), xCtx l G p e R s mi args below meth c (xtb m) u0 u' r Q → xWst l G p e R s mi args below meth c (xtb m) u0 Q pc ls st u := by
  refine xrun xext (fun m hm pc => ?_) (fun m hm h0 h2 => ?_) (fun m hm n as u r u' h => ?_)
  · have hm : ¬ (m = 1 ∨ 301 ≤ m) := of_decide_eq_false hm
    by_cases h0 : m = 0
    · subst h0
      exact snd_no9
    · rw [xcdM_ne h0, xcd2_ge (by omega)]
      exact snd_all m (by omega) (by omega) pc
  · have hm : ¬ (m = 1 ∨ 301 ≤ m) := of_decide_eq_false hm
    exact xpl m (by omega) h0 h2
  · have hm : m = 1 ∨ 301 ≤ m := of_decide_eq_true hm
    cases n with
    | zero => cases h
    | succ n =>
      unfold xex at h
      rw [xcdM_ne (by omega)] at h
      rcases hm with rfl | hm
      · rw [show xcd2 oId 1 0 = oId from rfl] at h
        cases hA : oId (xentL (mN (xtb 1)) as) [] u with
        | none => rw [hA] at h; cases h
        | some act =>
          obtain ⟨x, k, o, v, u9, hl, hi, hv, rfl⟩ := oId_cs hA
          rw [hA] at h
          cases h
          exact ⟨(oIdv_le hi.2.1 hv).1, met1⟩
      · rw [xcd2_ge (by omega), xcd_out m hm] at h
        cases h
/-- a call's contract -/
theorem mcal {n m : Nat} {as : List Value} {u u' : xMem} {r : Option Value} (h0 : m ≠ 0) (h2 : m ≠ 2) (hfit : (as.flatMap xent1).length ≤ mN (xtb m)) (h : xex (xcd2 oId) xtb n m 0 (xentL (mN (xtb m)) as) [] u = some (r, u')) : xle u u' ∧ xMet l G (xtb m) as u r u' := by
  rw [← xex_ag (cd := xcdM) (fun m hm pc => xcdM_ne hm) n m h0] at h
  by_cases hx : m = 1 ∨ 301 ≤ m
  · cases n with
    | zero => cases h
    | succ n =>
      unfold xex at h
      rw [xcdM_ne (by omega)] at h
      rcases hx with rfl | hm
      · rw [show xcd2 oId 1 0 = oId from rfl] at h
        cases hA : oId (xentL (mN (xtb 1)) as) [] u with
        | none => rw [hA] at h; cases h
        | some act =>
          obtain ⟨x, k, o, v, u9, hl, hi, hv, rfl⟩ := oId_cs hA
          rw [hA] at h
          cases h
          exact ⟨(oIdv_le hi.2.1 hv).1, met1⟩
      · rw [xcd2_ge (by omega), xcd_out m hm] at h
        cases h
  · obtain ⟨j1, j2⟩ := mrun (l := l) (G := G) n m (decide_eq_false hx) 0 _ _ u r u' h
    obtain ⟨p1, p2, p3⟩ := xpl m (by omega) h0 h2
    exact ⟨j1, xmet_of p1 p2 p3 hfit (fun p e R s mi args below meth c Q C => j2 p e R s mi args below meth c u Q C)⟩
def SndL (l : Launch) (G : xG) (tb : Nat → xM) (M : xM) (pc : Nat) (op : xOp) : Prop := xmo op ∧
  ∀ (p : Program) (e : Env) (R : Room) (s : State) (m : MethodId) (args : Array Value) (below : List Frame) (meth : Method) (c : Code) (u0 uF : xMem) (rF : Option Value) (Q : State → Prop),
    xCtx l G p e R s m args below meth c M u0 uF rF Q → ∀ (ls st : List Value) (u : xMem) (act), op ls st u = some act → xSA l G p e R s m args below meth c M u0 uF rF Q tb pc ls st u act
theorem Snd.L {tb : Nat → xM} {M : xM} {pc : Nat} {op : xOp} (h : Snd tb M pc op) : SndL l G tb M pc op := ⟨h.1, fun p e R s m args below meth c u0 uF rF Q => h.2 l G p e R s m args below meth c u0 uF rF Q⟩
theorem dL0_2152 : decode (mC M0) 2152 = .ok (.invokestatic 203, 3) := by decide +kernel
theorem sndL_idl (hl : l.stackTraces = false) : SndL l G xtb M0 2152 oIdl := by
  refine ⟨xmo_oIdl, ?_⟩
  intro p e R s m args below meth c u0 uF rF Q C ls st u act h
  obtain ⟨x, k, o, rs, v, u', rfl, ⟨⟨⟨rfl, rfl⟩, hV, h0, h295, hn⟩, hcat⟩, hv, rfl⟩ := oIdl_cs h
  obtain ⟨hle, hT, hSl⟩ := oIdv_le hV hv
  refine ⟨hle, fun hF kk lsA H locs hL hH hS h1 => xw_size (fun hz => ?_)⟩
  have hrr : ∃ r, xr2 k u = some r ∧ ((∃ q, r = .int q ∧ v = 0 ∧ u' = xsJ (xbmp u) 295 0 q.toInt64) ∨ (r = .retAddr 0 ∧ v = 1 ∧ u' = xbmp u)) := by
    rcases oIdv_cs hv with ⟨q, a1, a2, a3⟩ | ⟨a1, a2, a3⟩
    · exact ⟨_, a1, Or.inl ⟨q, rfl, a2, a3⟩⟩
    · exact ⟨_, a1, Or.inr ⟨rfl, a2, a3⟩⟩
  obtain ⟨r, hr, hcs⟩ := hrr
  obtain ⟨n, r', u1, hex, rfl, rfl⟩ := xr2_run hr
  have hex2 := xex_2 (I := oId) _ _ _ _ _ _ _ hex
  rw [← xex_ag (cd := xcdM) (fun m hm pc => xcdM_ne hm) n 2 (by omega)] at hex2
  have hb := (mrun (l := l) (G := G) n 2 (by decide) 0 _ _ u1 (some r) u1 hex2).2
  have hM := lidl_met (idl_met (k := k) hl (fun p e R s m args below meth c Q C => hb p e R s m args below meth c u1 Q C)) h0 h295 hn hV
  have hR := C.2.2.2.2.2.2.1
  have hR1 : 12 ≤ R.frames := hR.1
  have hR2 : 262 ≤ R.locals := hR.2.1
  have hR3 := hR.2.2.1
  have hR4 := hR.2.2.2
  have q1 := h1.1
  have q2 := h1.2.1
  have q5 := hF.1
  have q6 := hF.2.1
  have hg : ∀ w ∈ xgood, w ∈ xTs M0 ∧ ((w.onTables && w.keeps) = true ∨ ∃ ty, w = .arrayClass ty) := fun w hw => ⟨List.mem_cons_of_mem _ hw, good_of_word (List.mem_filter.mp hw).2⟩
  have hG : GoodIn (xTs M0) (va_wsS RL 203 yL_idle iWs) := by
    intro w hw
    rcases List.mem_append.mp hw with hw | hw
    · rcases List.mem_cons.mp hw with rfl | hw
      · exact hg _ wI_203
      · rcases List.mem_cons.mp hw with rfl | hw
        · exact hg _ wI_st
        · rcases List.mem_cons.mp hw with rfl | hw
          · exact hg _ wI_il
          · cases hw
    · rcases List.mem_cons.mp hw with rfl | hw
      · exact hg _ wI_cod
      · exact hg w hw
  have csw : vx_CSW R s args RL 203 yL_idle cL_idle 4 (some .int) iHh iWs jRm 1 6 3 :=
    vx_cwSW (Ts := xTs M0) 3 C.2.2.2.2.1 hG rfl rfl rfl ⟨by decide, by decide, by decide +kernel⟩ ⟨by show 8 + 1 ≤ R.frames; omega, by show 8 + (4 + 11) + 130 ≤ R.locals; omega⟩
  have hrun := vx_runSW (As := [.ref (gad G 0), .int k, .ref (gad G 295)]) (rest := rs.map (xtr G)) (cc := mC M0) (nL := mN M0) (cells := xT u1 - xT u0) (slots := xS u1 - xS u0) (locs := locs) (H := H) (e := e) (below := below) (meth := meth) (g := F0 m 2152 lsA ([.ref 295, .int k, .ref 0].map (xtr G) ++ rs.map (xtr G))) ⟨C.1, C.2.1, C.2.2.1, C.2.2.2.1, C.2.2.2.2.1⟩ hM csw ⟨xPc_blind, xpre C hH hS h1 hz rfl⟩ rfl rfl (by show lsA.size = _; exact hL.2.1) rfl (by show 2 * 0 + _ ≤ 8; rw [xcat_tr]; omega) dL0_2152 ⟨by omega, by omega⟩
  intro T hT9 X
  obtain ⟨v9, st₀, t, T', L, g0, X', hLL, e1, e2, ⟨hq, hz9, hk9⟩, stp⟩ := hrun T hT9 X
  rw [g0] at hz9 hk9
  have hS' : va_S (xA G) s.heap T'.heap (locs ++ L) := ⟨Nat.le_trans hS.1 (by rw [e1]; exact hz9), fun q g1 g2 => by rw [e1, hk9 q (Nat.lt_of_lt_of_le g1 hS.1) g2]; exact hS.2.1 q g1 g2, fun q hq => by
    rcases List.mem_append.mp hq with h | h
    · exact hS.2.2 q h
    · exact hLL q h⟩
  have fin : xHold G u' T'.heap → v9 = some (.int v) → ∃ t, Steps p.tables e below (T.setTop (F0 m 2152 lsA ((Value.ref 295 :: .int k :: .ref 0 :: rs).map (xtr G)))) t ∧ Q t := fun hh ev => by
    have k1 : W p l e R s m args below meth c T'.heap (locs ++ L) (xT u1 - xT u0 + 1) (xS u1 - xS u0 + 6) Q (F0 m 2155 lsA ((Value.int v :: rs).map (xtr G))) :=
      W.cs (cells' := xT u' - xT u0) (slots' := xS u' - xS u0) (by omega) (by omega) (kk lsA T'.heap (locs ++ L) hL hh hS' (h1.tr hle))
    obtain ⟨t2, a1, b1⟩ := k1 T' rfl X'
    subst ev
    exact ⟨t2, stp t2 a1, b1⟩
  rcases hcs with ⟨q, rfl, rfl, rfl⟩ | ⟨rfl, rfl, rfl⟩
  · rcases hq with ⟨q', hq', ho, hh⟩ | ⟨hq', -, -⟩
    · cases hq'
      cases ho
      exact fin (by rw [e1]; exact hh) rfl
    · cases hq'
  · rcases hq with ⟨q', hq', -, -⟩ | ⟨-, ho, hh⟩
    · cases hq'
    · cases ho
      exact fin (by rw [e1]; exact hh) rfl
theorem sndL0 (hl : l.stackTraces = false) (pc : Nat) : SndL l G xtb M0 pc (xcd3 0 pc) := by
  by_cases hp : pc = 2152
  · subst hp
    rw [show xcd3 0 2152 = oIdl from if_pos ⟨rfl, rfl⟩]
    exact sndL_idl hl
  · rw [show xcd3 0 pc = cd0 pc from if_neg (fun q => hp q.2)]
    exact (sm0 pc hp).L
/-- a run of the law is a run of the machine -/
theorem lrun (hl : l.stackTraces = false) : ∀ (n pc : Nat) (ls st : List Value) (u : xMem) (r : Option Value) (u' : xMem), xex xcd3 xtb n 0 pc ls st u = some (r, u') → xle u u' ∧
      ∀ (p : Program) (e : Env) (R : Room) (s : State) (mi : MethodId) (args : Array Value) (below : List Frame) (meth : Method) (c : Code) (u0 : xMem) (Q : State → Prop), xCtx l G p e R s mi args below meth c M0 u0 u' r Q → xWst l G p e R s mi args below meth c M0 u0 Q pc ls st u := by
  intro n
  induction n with
  | zero => intro pc ls st u r u' h; cases h
  | succ n ih =>
    intro pc ls st u r u' h
    have hS := sndL0 (G := G) hl pc
    unfold xex at h
    split at h
    · cases h
    · next pc1 ls1 st1 u1 hact =>
      obtain ⟨i1, i2⟩ := ih pc1 ls1 st1 u1 r u' h
      have h0 : xle u u1 := hS.1 ls st u _ hact
      exact ⟨h0.tr i1, fun p e R s mi args below meth c u0 Q C => (hS.2 p e R s mi args below meth c u0 u' r Q C ls st u _ hact).2 i1 (i2 p e R s mi args below meth c u0 Q C)⟩
    · next m' as pc1 ls1 st1 u1 hact =>
      split at h
      next hfit =>
        split at h
        · cases h
        · next r1 u2 hin =>
          have h0 : u1 = u := hS.1 ls st u _ hact
          subst h0
          rw [xex_ag (fun m hm pc => xcd3_ne hm) n m' hfit.2.1] at hin
          have hcal : xle u1 u2 ∧ xMet l G (xtb m') as u1 r1 u2 := mcal hfit.2.1 hfit.2.2 hfit.1 hin
          obtain ⟨i1, i2⟩ := ih pc1 ls1 _ u2 r u' h
          exact ⟨hcal.1.tr i1, fun p e R s mi args below meth c u0 Q C => (hS.2 p e R s mi args below meth c u0 u' r Q C ls st u1 _ hact).2 r1 u2 hcal.1 i1 hcal.2 (i2 p e R s mi args below meth c u0 Q C)⟩
      next => cases h
    · next r1 hact =>
      obtain ⟨rr, uu⟩ := r1
      have h0 : uu = u := hS.1 ls st u _ hact
      subst h0
      cases h
      exact ⟨xle.rf _, fun p e R s mi args below meth c u0 Q C => (hS.2 p e R s mi args below meth c u0 _ _ Q C ls st _ _ hact).2 rfl rfl⟩
end
