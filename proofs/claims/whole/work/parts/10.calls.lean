/-! the array of lines; calls; ends -/
section
variable {tb : Nat → xM} {M : xM} {pc : Nat}
theorem snd_newq {idx : Nat} (hw : Cond.classLink (mY M).cls idx RX5 ∈ xgood) (hd : decode (mC M) pc = .ok (.anewarray idx, 3)) : Snd tb M pc (oNewA 16 (pc + 3)) := by
  refine ⟨xmo_oNewA _ _, ?_⟩
  intro l G p e R s m args below meth c u0 uF rF Q C ls st u act h
  unfold oNewA at h
  split at h
  · split at h
    next n r ha =>
      obtain ⟨ha, hn⟩ := ha
      simp only [xgo, Option.some.injEq] at h
      subst h
      obtain ⟨hn0, hn1⟩ := xn2000 hn.1 hn.2
      refine ⟨xle_new, fun hF kk lsA H locs hL hH hS h1 => ?_⟩
      have had := C.2.2.2.2.2.2.2.1.1.1
      have hT := h1.1
      have hT2 := h1.2.1
      have hF1 : xT u + 1 ≤ xT uF := hF.1
      have hF2 : xS u + n.toNatClampNeg ≤ xS uF := hF.2.1
      have hR1 := C.2.2.2.2.2.2.1.2.2.1
      have hR2 := C.2.2.2.2.2.2.1.2.2.2
      have hKK := C.2.2.2.2.2.2.2.1.1.2.2.1
      refine va_newq C.1 C.2.1 C.2.2.2.1 (C.2.2.2.2.1 _ (List.mem_cons_of_mem _ hw)) C.2.2.2.2.2.2.2.1.1.2.2.2.2.2.1 hKK hH.1 (xwl_D had hH.2.1) hS (fun q hq => Nat.le_trans C.2.2.2.2.2.2.2.1.1.2.1 hq) hn0 rfl (by omega) (by omega) (by omega) hd (fun q cA H1 hK1 hP1 hD1 hS1 => xw_size (fun hz => ?_))
      have hz2 := xlive C h1 ha.1
      have hcA : cA = gcy G 16 := by
        obtain ⟨kA, comp, g1, g2, g3, g4⟩ := (hKK.2 4 (gcy G 16, .object RX5) rfl).2
        obtain ⟨kB, comq, f1, f2, f3, f4⟩ := (hK1.2 5 (cA, .object RX5) rfl).2
        exact Option.some.inj (f4.symm.trans g4)
      subst hcA
      have hq := xfresh had ha.2 hP1 hD1 (by omega)
      subst hq
      refine W.cs (cells' := xT (xnew u 16 n.toNatClampNeg n.toNatClampNeg) - xT u0) (slots' := xS (xnew u 16 n.toNatClampNeg n.toNatClampNeg) - xS u0) (by show _ = xT u + 1 - xT u0; omega) (by show _ = xS u + n.toNatClampNeg - xS u0; omega) ?_
      refine kk lsA H1 locs hL (xhold_new hH ha.2 ?_ hP1) hS1 (h1.tr xle_new)
      rw [xent_r xnew_K, xnew_N]
      have e : (fun j => (xR (xnew u 16 n.toNatClampNeg n.toNatClampNeg) (xW u) j).map (gad G)) = fun _ => none := by
        funext j
        rw [xnew_R]
        rfl
      rw [e]
    next => cases h
  · cases h
theorem snd_obj {idx : Nat} (hF : 1 ≤ mF M) (hLo : 20 ≤ mL M) (hw : ∀ w ∈ [Cond.methodLink (mY M).cls idx Lib.objectInit, .instanceMethod Lib.objectInit, .code Lib.objectInit ⟨#[0xb1]⟩ 1 none], w ∈ xgood) (hd : decode (mC M) pc = .ok (.invokespecial idx, 3)) : Snd tb M pc (oObj (pc + 3)) := by
  refine ⟨xmo_oObj _, ?_⟩
  intro l G p e R s m args below meth c u0 uF rF Q C ls st u act h
  unfold oObj at h
  split at h
  · split at h
    next a r hc =>
      simp only [xgo, Option.some.injEq] at h
      subst h
      refine ⟨xle.rf _, fun _ kk lsA H locs hL hH hS h1 => ?_⟩
      have hR := C.2.2.2.2.2.2.1
      have w0 := C.2.2.2.2.1 _ (List.mem_cons_of_mem _ (hw _ (List.mem_cons_self)))
      have w1 := C.2.2.2.2.1 _ (List.mem_cons_of_mem _ (hw (.instanceMethod Lib.objectInit) (by simp)))
      have w2 := C.2.2.2.2.1 _ (List.mem_cons_of_mem _ (hw (.code Lib.objectInit ⟨#[0xb1]⟩ 1 none) (by simp)))
      refine W.objInit C.1 C.2.1 C.2.2.2.1 w0 w1 w2 rfl (by show lsA.size = _; rw [hL.2.1, C.2.2.1]) rfl hd (by omega) ?_ (kk lsA H locs hL hH hS h1)
      show 2 * 0 + ((r.map (xtr G)).map fun v => v.category).sum + 12 ≤ R.locals
      rw [xcat_tr]
      omega
    next => cases h
  · cases h
theorem snd_min {idx : Nat} (hF : 1 ≤ mF M) (hLo : 21 ≤ mL M) (hw : ∀ w ∈ [Cond.methodLink (mY M).cls idx Lib.Math.min.name, .static Lib.Math.min.name, .initialized "java/lang/Math", .code Lib.Math.min.name Lib.Math.min.code 2 (some .int)], w ∈ xgood) (hd : decode (mC M) pc = .ok (.invokestatic idx, 3)) : Snd tb M pc (oMin (pc + 3)) := by
  refine ⟨xmo_oMin _, ?_⟩
  intro l G p e R s m args below meth c u0 uF rF Q C ls st u act h
  unfold oMin at h
  split at h
  · split at h
    next y x r hc =>
      simp only [xgo, Option.some.injEq] at h
      subst h
      refine ⟨xle.rf _, fun hF9 kk lsA H locs hL hH hS h1 => ?_⟩
      have hR := C.2.2.2.2.2.2.1
      have w0 := C.2.2.2.2.1 _ (List.mem_cons_of_mem _ (hw _ (List.mem_cons_self)))
      have w1 := C.2.2.2.2.1 _ (List.mem_cons_of_mem _ (hw (.static Lib.Math.min.name) (by simp)))
      have w2 := C.2.2.2.2.1 _ (List.mem_cons_of_mem _ (hw (.initialized "java/lang/Math") (by simp)))
      have w3 := C.2.2.2.2.1 _ (List.mem_cons_of_mem _ (hw (.code Lib.Math.min.name Lib.Math.min.code 2 (some .int)) (by simp)))
      have q1 := h1.1
      have q2 := h1.2.1
      have q3 := hF9.1
      have q4 := hF9.2.1
      exact va_mmin C.1 C.2.1 (by rw [hL.2.1, C.2.2.1]) C.2.2.2.1 w0 w1 w2 w3 (by omega) (by rw [xcat_tr]; omega) (by omega) (by omega) hd (kk lsA H locs hL hH hS h1)
    next => cases h
  · cases h
theorem snd_max {idx : Nat} (hF : 1 ≤ mF M) (hLo : 21 ≤ mL M) (hw : ∀ w ∈ [Cond.methodLink (mY M).cls idx Lib.Math.max.name, .static Lib.Math.max.name, .initialized "java/lang/Math", .code Lib.Math.max.name Lib.Math.max.code 2 (some .int)], w ∈ xgood) (hd : decode (mC M) pc = .ok (.invokestatic idx, 3)) : Snd tb M pc (oMax (pc + 3)) := by
  refine ⟨xmo_oMax _, ?_⟩
  intro l G p e R s m args below meth c u0 uF rF Q C ls st u act h
  unfold oMax at h
  split at h
  · split at h
    next y x r hc =>
      simp only [xgo, Option.some.injEq] at h
      subst h
      refine ⟨xle.rf _, fun hF9 kk lsA H locs hL hH hS h1 => ?_⟩
      have hR := C.2.2.2.2.2.2.1
      have w0 := C.2.2.2.2.1 _ (List.mem_cons_of_mem _ (hw _ (List.mem_cons_self)))
      have w1 := C.2.2.2.2.1 _ (List.mem_cons_of_mem _ (hw (.static Lib.Math.max.name) (by simp)))
      have w2 := C.2.2.2.2.1 _ (List.mem_cons_of_mem _ (hw (.initialized "java/lang/Math") (by simp)))
      have w3 := C.2.2.2.2.1 _ (List.mem_cons_of_mem _ (hw (.code Lib.Math.max.name Lib.Math.max.code 2 (some .int)) (by simp)))
      have q1 := h1.1
      have q2 := h1.2.1
      have q3 := hF9.1
      have q4 := hF9.2.1
      exact va_mmax C.1 C.2.1 (by rw [hL.2.1, C.2.2.1]) C.2.2.2.1 w0 w1 w2 w3 (by omega) (by rw [xcat_tr]; omega) (by omega) (by omega) hd (kk lsA H locs hL hH hS h1)
    next => cases h
  · cases h
/-! the ends -/
theorem snd_iret (hr : mR M = some .int) (hd : decode (mC M) pc = .ok (.ireturn, 1)) : Snd tb M pc (oRi 0) := by
  refine ⟨xmo_oRi _, ?_⟩
  intro l G p e R s m args below meth c u0 uF rF Q C ls st u act h
  unfold oRi at h
  split at h
  · simp only [xend, Option.some.injEq] at h
    subst h
    refine ⟨rfl, fun hrF huF lsA H locs hL hH hS h1 => ?_⟩
    subst huF
    exact C.2.2.2.2.2.2.2.2.2.1 pc lsA H locs _ _ hd hrF hr rfl hH hS
  · cases h
theorem snd_zret (hr : mR M = some .boolean) (hd : decode (mC M) pc = .ok (.ireturn, 1)) : Snd tb M pc (oRz 0) := by
  refine ⟨xmo_oRz _, ?_⟩
  intro l G p e R s m args below meth c u0 uF rF Q C ls st u act h
  unfold oRz at h
  split at h
  · split at h
    next x hx =>
      simp only [xend, Option.some.injEq] at h
      subst h
      refine ⟨rfl, fun hrF huF lsA H locs hL hH hS h1 => ?_⟩
      subst huF
      exact C.2.2.2.2.2.2.2.2.2.1 pc lsA H locs _ _ hd hrF hr (by rcases hx with rfl | rfl <;> rfl) hH hS
    next => cases h
  · cases h
theorem snd_lret (hr : mR M = some .long) (hd : decode (mC M) pc = .ok (.lreturn, 1)) : Snd tb M pc (oRj 0) := by
  refine ⟨xmo_oRj _, ?_⟩
  intro l G p e R s m args below meth c u0 uF rF Q C ls st u act h
  unfold oRj at h
  split at h
  · simp only [xend, Option.some.injEq] at h
    subst h
    refine ⟨rfl, fun hrF huF lsA H locs hL hH hS h1 => ?_⟩
    subst huF
    exact C.2.2.2.2.2.2.2.2.2.2.1 pc lsA H locs _ hd hrF hr hH hS
  · cases h
theorem snd_vret (hr : mR M = none) (hd : decode (mC M) pc = .ok (.return_, 1)) : Snd tb M pc (oRv 0) := by
  refine ⟨xmo_oRv _, ?_⟩
  intro l G p e R s m args below meth c u0 uF rF Q C ls st u act h
  unfold oRv at h
  split at h
  · simp only [xend, Option.some.injEq] at h
    subst h
    refine ⟨rfl, fun hrF huF lsA H locs hL hH hS h1 => ?_⟩
    subst huF
    exact C.2.2.2.2.2.2.2.2.2.2.2.1 pc lsA H locs hd hrF hr hH hS
  · cases h
theorem snd_thr {ix ic : Nat} (hn : (mY M).cls = RX10 ∧ (mY M).name = "idle") (hw : Cond.classLink RX10 ix "java/util/NoSuchElementException" ∈ xgood) (h0 : decode (mC M) pc = .ok (.new ix, 3)) (h3 : decode (mC M) (pc + 3) = .ok (.dup, 1)) (h4 : decode (mC M) (pc + 4) = .ok (.invokespecial ic, 3)) (h7 : decode (mC M) (pc + 7) = .ok (.athrow, 1)) : Snd tb M pc oThr := by
  refine ⟨xmo_oThr, ?_⟩
  intro l G p e R s m args below meth c u0 uF rF Q C ls st u act h
  unfold oThr at h
  split at h
  · simp only [xend, Option.some.injEq] at h
    subst h
    refine ⟨rfl, fun hrF huF lsA H locs hL hH hS h1 => ?_⟩
    subst huF
    exact C.2.2.2.2.2.2.2.2.2.2.2.2 pc lsA H locs ix ic hn h0 h3 h4 h7 hw hrF hL.2.1 hH hS
  · cases h
end
/-! calls -/
section
variable {p : Program} {l : Launch} {e : Env} {R : Room} {s : State} {m : MethodId} {args : Array Value} {below : List Frame} {meth : Method} {c : Code} {H : Heap} {locs : List Loc} {cells slots : Nat} {Q : State → Prop}
theorem xcall {G : xG} {r1 : Option Value} {u2 : xMem} {a : Array Value} {mc ms pc : Nat} {lsA : Array Slot} {st0 rest : List Value} (hr : va_Run p l e R s m args below meth c H locs cells slots mc ms (F0 m pc lsA st0) rest (xQc G r1 u2 a) (xA G)) (hS : va_S (xA G) s.heap H locs)
    (kk : ∀ (H1 : Heap) (locs1 : List Loc), xHold G u2 H1 → va_S (xA G) s.heap H1 locs1 → W p l e R s m args below meth c H1 locs1 (cells + mc) (slots + ms) Q (F0 m (pc + 3) lsA ((r1.map (xtr G)).toList ++ rest))) : W p l e R s m args below meth c H locs cells slots Q (F0 m pc lsA st0) := by
  intro T hT X
  obtain ⟨v, st₀, t, T', L, h0, X', hL, e1, e2, ⟨⟨hv, hh⟩, hz, hk⟩, st⟩ := hr T hT X
  cases hv
  rw [h0] at hz hk
  obtain ⟨t2, a1, b1⟩ := kk T'.heap (locs ++ L) (by rw [e1]; exact hh)
    ⟨Nat.le_trans hS.1 (by rw [e1]; exact hz), fun q h1 h2 => by rw [e1, hk q (Nat.lt_of_lt_of_le h1 hS.1) h2]; exact hS.2.1 q h1 h2, fun q hq => by
      rcases List.mem_append.mp hq with h | h
      · exact hS.2.2 q h
      · exact hL q h⟩ T' rfl X'
  exact ⟨t2, st t2 a1, b1⟩
end
theorem xgoodIn {M M' : xM} (h : Cond.code (mY M') (mC M') (mN M') (mR M') ∈ xgood) : GoodIn (xTs M) (xTs M') := by
  have hg : ∀ w ∈ xgood, w ∈ xTs M ∧ ((w.onTables && w.keeps) = true ∨ ∃ ty, w = .arrayClass ty) := fun w hw => ⟨List.mem_cons_of_mem _ hw, good_of_word (List.mem_filter.mp hw).2⟩
  intro w hw
  rcases List.mem_cons.mp hw with rfl | hw
  · exact hg _ h
  · exact hg w hw
/-- what a caller needs of a callee, static -/
def xroom (M M' : xM) : Prop := mF M' + 1 ≤ mF M ∧ 8 + (mN M' + 11) + mL M' ≤ mL M
theorem xpre {l : Launch} {G : xG} {p : Program} {e : Env} {R : Room} {s : State} {m : MethodId} {args : Array Value} {below : List Frame} {meth : Method} {c : Code} {M : xM} {u0 uF : xMem} {rF : Option Value} {Q : State → Prop} (C : xCtx l G p e R s m args below meth c M u0 uF rF Q) {u : xMem} {H : Heap} {locs : List Loc} (hH : xHold G u H) (hS : va_S (xA G) s.heap H locs) (h1 : xle u0 u) (hz : H.size ≤ s.heap.size + (xT u - xT u0)) {as : List Value} {av : List Value} (hav : as.map (xtr G) = av) :
    ∀ U : State, U.heap = H → s.WarmedH U.vm → xPc G u as av.toArray U := by
  intro U hU hW
  refine ⟨by rw [hav], C.2.2.2.2.2.2.2.1.1.warm hS hU hW, by rw [hU]; exact hH, fun hv => ?_⟩
  have h2 := xlive C h1 hv
  have h3 := xlow C.2.2.2.2.2.2.2.1.1.1 hH (Nat.le_trans C.2.2.2.2.2.2.2.1.1.2.1 hS.1)
  rw [hU]
  omega
section
variable {tb : Nat → xM} {M : xM} {pc : Nat}
theorem snd_callV {ci idx m' n : Nat} (hc : ci < 12) (hcl : (mY (tb m')).cls = xcn ci) (hn : (parseMethodDescriptor (mY (tb m')).desc).map (fun d => d.parameters.length) = some n) (hrm : xroom M (tb m'))
    (hmh : (mY (tb m')).cls ≠ "java/lang/invoke/MethodHandle" ∧ (mY (tb m')).cls ≠ "java/lang/invoke/VarHandle")
    (hw : ∀ w ∈ [Cond.methodLink (mY M).cls idx (mY (tb m')), .instanceMethod (mY (tb m')), .selects (mY (tb m')).cls (mY (tb m')) (mY (tb m')), .initialized (mY (tb m')).cls, .code (mY (tb m')) (mC (tb m')) (mN (tb m')) (mR (tb m'))], w ∈ xgood)
    (hd : decode (mC M) pc = .ok (.invokevirtual idx, 3)) : Snd tb M pc (oCalV ci m' n (pc + 3)) := by
  refine ⟨xmo_oCalV _ _ _ _, ?_⟩
  intro l G p e R s m args below meth c u0 uF rF Q C ls st u act h
  unfold oCalV at h
  split at h
  next a hst =>
    split at h
    next ha =>
      simp only [xcal, Option.some.injEq] at h
      subst h
      refine ⟨rfl, fun r1 u2 hu2 hF hM kk lsA H locs hL hH hS h1 => xw_size (fun hz => ?_)⟩
      have hR := C.2.2.2.2.2.2.1
      have hin := (List.getElem?_eq_some_iff.mp hst).1
      have hstk : st.map (xtr G) = (((st.take n).reverse).map (xtr G)).reverse ++ .ref (gad G a) :: (st.drop (n + 1)).map (xtr G) := by
        have e : st = st.take n ++ .ref a :: st.drop (n + 1) := by
          have := List.take_append_drop n st
          rw [List.drop_eq_getElem_cons hin, (List.getElem?_eq_some_iff.mp hst).2] at this
          exact this.symm
        calc st.map (xtr G) = (st.take n ++ .ref a :: st.drop (n + 1)).map (xtr G) := by rw [← e]
          _ = _ := by rw [List.map_append, List.map_reverse, List.reverse_reverse]; rfl
      have q1 := h1.1
      have q2 := h1.2.1
      have q3 := hu2.1
      have q4 := hu2.2.1
      have q5 := hF.1
      have q6 := hF.2.1
      have ok : ∀ w ∈ [Cond.methodLink (mY M).cls idx (mY (tb m')), .instanceMethod (mY (tb m')), .selects (mY (tb m')).cls (mY (tb m')) (mY (tb m')), .initialized (mY (tb m')).cls, .code (mY (tb m')) (mC (tb m')) (mN (tb m')) (mR (tb m'))], w.before args s = true := fun w h => C.2.2.2.2.1 w (List.mem_cons_of_mem _ (hw w h))
      have cb : CallB R s args (mY M).cls idx (mY (tb m')) (mC (tb m')) (mN (tb m')) (mR (tb m')) (xTs (tb m')) (xRm (tb m') u u2) (xT u2 - xT u) (xS u2 - xS u) n :=
        callB_of n C.2.2.2.2.1 (xgoodIn (hw _ (by simp))) rfl rfl rfl (ok _ (by simp)) (ok _ (by simp)) ⟨hmh.1, hmh.2, hn⟩ ⟨Nat.le_trans hrm.1 hR.1, Nat.le_trans hrm.2 hR.2.1⟩
      have cw : CallW R s args (mY M).cls (xcn ci) idx (mY (tb m')) (mC (tb m')) (mN (tb m')) (mR (tb m')) (xTs (tb m')) (xRm (tb m') u u2) (xT u2 - xT u) (xS u2 - xS u) n :=
        ⟨cb, ok _ (by simp), by rw [← hcl]; exact ok _ (by simp)⟩
      have hlen : (((st.take n).reverse).map (xtr G)).length = n := by
        rw [List.length_map, List.length_reverse, List.length_take]
        omega
      refine xcall (u2 := u2) (r1 := r1) (va_runV (As := ((st.take n).reverse).map (xtr G)) (rest := (st.drop (n + 1)).map (xtr G)) (b := gad G a) ⟨C.1, C.2.1, C.2.2.1, C.2.2.2.1, C.2.2.2.2.1⟩ hM cw ⟨xPc_blind, va_recv C.2.2.2.2.2.2.2.1.1.2.2.1 hH.1 (xcl_at hc) (xhold_at (H := H) ha.1 hc), xpre C hH hS h1 hz rfl⟩ rfl hlen (by show lsA.size = _; exact hL.2.1) hstk ?_ hd ⟨by omega, by omega⟩) hS (fun H1 locs1 hH1 hS1 => ?_)
      · show 2 * 0 + _ ≤ 8
        rw [xcat_tr]
        omega
      · refine W.cs (cells' := xT u2 - xT u0) (slots' := xS u2 - xS u0) (by omega) (by omega) ?_
        have k1 := kk lsA H1 locs1 hL hH1 hS1 (h1.tr hu2)
        have e2 : ((r1.map (xtr G)).toList ++ (st.drop (n + 1)).map (xtr G)) = (r1.toList ++ st.drop (n + 1)).map (xtr G) := by cases r1 <;> simp
        rw [e2]
        exact k1
    next => cases h
  next => cases h
end
