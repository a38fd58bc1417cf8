/-! static calls, and calls of constructors -/
section
variable {tb : Nat → xM} {M : xM} {pc : Nat}
theorem snd_callS {idx m' n : Nat} (hn : (parseMethodDescriptor (mY (tb m')).desc).map (fun d => d.parameters.length) = some n) (hrm : xroom M (tb m'))
    (hmh : (mY (tb m')).cls ≠ "java/lang/invoke/MethodHandle" ∧ (mY (tb m')).cls ≠ "java/lang/invoke/VarHandle")
    (hw : ∀ w ∈ [Cond.methodLink (mY M).cls idx (mY (tb m')), .static (mY (tb m')), .initialized (mY (tb m')).cls, .code (mY (tb m')) (mC (tb m')) (mN (tb m')) (mR (tb m'))], w ∈ xgood)
    (hd : decode (mC M) pc = .ok (.invokestatic idx, 3)) : Snd tb M pc (oCal m' n (pc + 3)) := by
  refine ⟨xmo_oCal _ _ _, ?_⟩
  intro l G p e R s m args below meth c u0 uF rF Q C ls st u act h
  unfold oCal at h
  split at h
  next ha =>
      simp only [xcal, Option.some.injEq] at h
      subst h
      refine ⟨rfl, fun r1 u2 hu2 hF hM kk lsA H locs hL hH hS h1 => xw_size (fun hz => ?_)⟩
      have hR := C.2.2.2.2.2.2.1
      have hstk : st.map (xtr G) = (((st.take n).reverse).map (xtr G)).reverse ++ (st.drop n).map (xtr G) := by
        rw [List.map_reverse, List.reverse_reverse, ← List.map_append, List.take_append_drop]
      have q1 := h1.1
      have q2 := h1.2.1
      have q3 := hu2.1
      have q4 := hu2.2.1
      have q5 := hF.1
      have q6 := hF.2.1
      have ok : ∀ w ∈ [Cond.methodLink (mY M).cls idx (mY (tb m')), .static (mY (tb m')), .initialized (mY (tb m')).cls, .code (mY (tb m')) (mC (tb m')) (mN (tb m')) (mR (tb m'))], w.before args s = true := fun w h => C.2.2.2.2.1 w (List.mem_cons_of_mem _ (hw w h))
      have cb : CallB R s args (mY M).cls idx (mY (tb m')) (mC (tb m')) (mN (tb m')) (mR (tb m')) (xTs (tb m')) (xRm (tb m') u u2) (xT u2 - xT u) (xS u2 - xS u) n :=
        callB_of n C.2.2.2.2.1 (xgoodIn (hw _ (by simp))) rfl rfl rfl (ok _ (by simp)) (ok _ (by simp)) ⟨hmh.1, hmh.2, hn⟩ ⟨Nat.le_trans hrm.1 hR.1, Nat.le_trans hrm.2 hR.2.1⟩
      have hlen : (((st.take n).reverse).map (xtr G)).length = n := by
        rw [List.length_map, List.length_reverse, List.length_take]
        omega
      refine xcall (u2 := u2) (r1 := r1) (va_runS (As := ((st.take n).reverse).map (xtr G)) (rest := (st.drop n).map (xtr G)) ⟨C.1, C.2.1, C.2.2.1, C.2.2.2.1, C.2.2.2.2.1⟩ hM ⟨cb, ok _ (by simp)⟩ ⟨xPc_blind, xpre C hH hS h1 hz rfl⟩ rfl hlen (by show lsA.size = _; exact hL.2.1) hstk ?_ hd ⟨by omega, by omega⟩) hS (fun H1 locs1 hH1 hS1 => ?_)
      · show 2 * 0 + _ ≤ 8
        rw [xcat_tr]
        omega
      · refine W.cs (cells' := xT u2 - xT u0) (slots' := xS u2 - xS u0) (by omega) (by omega) ?_
        have k1 := kk lsA H1 locs1 hL hH1 hS1 (h1.tr hu2)
        have e2 : ((r1.map (xtr G)).toList ++ (st.drop n).map (xtr G)) = (r1.toList ++ st.drop n).map (xtr G) := by cases r1 <;> simp
        rw [e2]
        exact k1
  next => cases h
theorem snd_callSN {idx m' n : Nat} {host : String} (hn : (parseMethodDescriptor (mY (tb m')).desc).map (fun d => d.parameters.length) = some n) (hrm : xroom M (tb m'))
    (hmh : (mY (tb m')).cls ≠ "java/lang/invoke/MethodHandle" ∧ (mY (tb m')).cls ≠ "java/lang/invoke/VarHandle")
    (hw : ∀ w ∈ [Cond.static (mY (tb m')), Cond.initialized (mY (tb m')).cls, .code (mY (tb m')) (mC (tb m')) (mN (tb m')) (mR (tb m'))], w ∈ xgood)
    (hnest : ((mY M).cls, idx, mY (tb m'), host) ∈ xnest)
    (hd : decode (mC M) pc = .ok (.invokestatic idx, 3)) : Snd tb M pc (oCal m' n (pc + 3)) := by
  refine ⟨xmo_oCal _ _ _, ?_⟩
  intro l G p e R s m args below meth c u0 uF rF Q C ls st u act h
  unfold oCal at h
  split at h
  next ha =>
      simp only [xcal, Option.some.injEq] at h
      subst h
      refine ⟨rfl, fun r1 u2 hu2 hF hM kk lsA H locs hL hH hS h1 => xw_size (fun hz => ?_)⟩
      have hR := C.2.2.2.2.2.2.1
      have hstk : st.map (xtr G) = (((st.take n).reverse).map (xtr G)).reverse ++ (st.drop n).map (xtr G) := by
        rw [List.map_reverse, List.reverse_reverse, ← List.map_append, List.take_append_drop]
      have q1 := h1.1
      have q2 := h1.2.1
      have q3 := hu2.1
      have q4 := hu2.2.1
      have q5 := hF.1
      have q6 := hF.2.1
      have ok : ∀ w ∈ [Cond.static (mY (tb m')), Cond.initialized (mY (tb m')).cls, .code (mY (tb m')) (mC (tb m')) (mN (tb m')) (mR (tb m'))], w.before args s = true := fun w h => C.2.2.2.2.1 w (List.mem_cons_of_mem _ (hw w h))
      have cb : va_CN R s args (mY M).cls idx (mY (tb m')) host (mC (tb m')) (mN (tb m')) (mR (tb m')) (xTs (tb m')) (xRm (tb m') u u2) (xT u2 - xT u) (xS u2 - xS u) n :=
        va_cnB n C.2.2.2.2.1 (xgoodIn (hw _ (by simp))) rfl rfl rfl (C.2.2.2.2.2.2.2.1.1.2.2.2.1 _ hnest) (ok _ (by simp)) ⟨hmh.1, hmh.2, hn⟩ ⟨Nat.le_trans hrm.1 hR.1, Nat.le_trans hrm.2 hR.2.1⟩
      have hlen : (((st.take n).reverse).map (xtr G)).length = n := by
        rw [List.length_map, List.length_reverse, List.length_take]
        omega
      refine xcall (u2 := u2) (r1 := r1) (va_runSN (As := ((st.take n).reverse).map (xtr G)) (rest := (st.drop n).map (xtr G)) ⟨C.1, C.2.1, C.2.2.1, C.2.2.2.1, C.2.2.2.2.1⟩ hM ⟨cb, ok _ (by simp), trivial⟩ ⟨xPc_blind, xpre C hH hS h1 hz rfl⟩ rfl hlen (by show lsA.size = _; exact hL.2.1) hstk ?_ hd ⟨by omega, by omega⟩) hS (fun H1 locs1 hH1 hS1 => ?_)
      · show 2 * 0 + _ ≤ 8
        rw [xcat_tr]
        omega
      · refine W.cs (cells' := xT u2 - xT u0) (slots' := xS u2 - xS u0) (by omega) (by omega) ?_
        have k1 := kk lsA H1 locs1 hL hH1 hS1 (h1.tr hu2)
        have e2 : ((r1.map (xtr G)).toList ++ (st.drop n).map (xtr G)) = (r1.toList ++ st.drop n).map (xtr G) := by cases r1 <;> simp
        rw [e2]
        exact k1
  next => cases h
theorem snd_callI {ci idx m' n : Nat} (hc : ci < 12) (hnm : (mY (tb m')).name = "<init>") (hmr : mR (tb m') = none) (hn : (parseMethodDescriptor (mY (tb m')).desc).map (fun d => d.parameters.length) = some n) (hrm : xroom M (tb m'))
    (hmh : (mY (tb m')).cls ≠ "java/lang/invoke/MethodHandle" ∧ (mY (tb m')).cls ≠ "java/lang/invoke/VarHandle")
    (hw : ∀ w ∈ [Cond.methodLink (mY M).cls idx (mY (tb m')), .instanceMethod (mY (tb m')), .initialized (mY (tb m')).cls, .code (mY (tb m')) (mC (tb m')) (mN (tb m')) (mR (tb m'))], w ∈ xgood)
    (hd : decode (mC M) pc = .ok (.invokespecial idx, 3)) : Snd tb M pc (oCalV ci m' n (pc + 3)) := by
  refine ⟨xmo_oCalV _ _ _ _, ?_⟩
  intro l G p e R s m args below meth c u0 uF rF Q C ls st u act h
  unfold oCalV at h
  split at h
  next a hst =>
    split at h
    next ha =>
      simp only [xcal, Option.some.injEq] at h
      subst h
      refine ⟨rfl, fun r1 u2 hu2 hF hM kk lsA H locs hL hH hS h1 => xw_size (fun hz => ?_)⟩
      have hR := C.2.2.2.2.2.2.1
      have hin := (List.getElem?_eq_some_iff.mp hst).1
      have hstk : st.map (xtr G) = (((st.take n).reverse).map (xtr G)).reverse ++ .ref (gad G a) :: (st.drop (n + 1)).map (xtr G) := by
        have e : st = st.take n ++ .ref a :: st.drop (n + 1) := by
          have := List.take_append_drop n st
          rw [List.drop_eq_getElem_cons hin, (List.getElem?_eq_some_iff.mp hst).2] at this
          exact this.symm
        calc st.map (xtr G) = (st.take n ++ .ref a :: st.drop (n + 1)).map (xtr G) := by rw [← e]
          _ = _ := by rw [List.map_append, List.map_reverse, List.reverse_reverse]; rfl
      have q1 := h1.1
      have q2 := h1.2.1
      have q3 := hu2.1
      have q4 := hu2.2.1
      have q5 := hF.1
      have q6 := hF.2.1
      have ok : ∀ w ∈ [Cond.methodLink (mY M).cls idx (mY (tb m')), .instanceMethod (mY (tb m')), .initialized (mY (tb m')).cls, .code (mY (tb m')) (mC (tb m')) (mN (tb m')) (mR (tb m'))], w.before args s = true := fun w h => C.2.2.2.2.1 w (List.mem_cons_of_mem _ (hw w h))
      have cb : CallB R s args (mY M).cls idx (mY (tb m')) (mC (tb m')) (mN (tb m')) (mR (tb m')) (xTs (tb m')) (xRm (tb m') u u2) (xT u2 - xT u) (xS u2 - xS u) n :=
        callB_of n C.2.2.2.2.1 (xgoodIn (hw _ (by simp))) rfl rfl rfl (ok _ (by simp)) (ok _ (by simp)) ⟨hmh.1, hmh.2, hn⟩ ⟨Nat.le_trans hrm.1 hR.1, Nat.le_trans hrm.2 hR.2.1⟩
      rw [hmr] at cb
      have hlen : (((st.take n).reverse).map (xtr G)).length = n := by
        rw [List.length_map, List.length_reverse, List.length_take]
        omega
      refine xcall (u2 := u2) (r1 := r1) (va_runI (As := ((st.take n).reverse).map (xtr G)) (rest := (st.drop (n + 1)).map (xtr G)) (b := gad G a) ⟨C.1, C.2.1, C.2.2.1, C.2.2.2.1, C.2.2.2.2.1⟩ hM ⟨cb, hnm, ok _ (by simp)⟩ ⟨xPc_blind, xpre C hH hS h1 hz rfl⟩ rfl hlen (by show lsA.size = _; exact hL.2.1) hstk ?_ hd ⟨by omega, by omega⟩) hS (fun H1 locs1 hH1 hS1 => ?_)
      · show 2 * 0 + _ ≤ 8
        rw [xcat_tr]
        omega
      · refine W.cs (cells' := xT u2 - xT u0) (slots' := xS u2 - xS u0) (by omega) (by omega) ?_
        have k1 := kk lsA H1 locs1 hL hH1 hS1 (h1.tr hu2)
        have e2 : ((r1.map (xtr G)).toList ++ (st.drop (n + 1)).map (xtr G)) = (r1.toList ++ st.drop (n + 1)).map (xtr G) := by cases r1 <;> simp
        rw [e2]
        exact k1
    next => cases h
  next => cases h
theorem snd_callIN {ci idx m' n : Nat} {host : String} (hc : ci < 12) (hnm : (mY (tb m')).name = "<init>") (hmr : mR (tb m') = none) (hn : (parseMethodDescriptor (mY (tb m')).desc).map (fun d => d.parameters.length) = some n) (hrm : xroom M (tb m'))
    (hmh : (mY (tb m')).cls ≠ "java/lang/invoke/MethodHandle" ∧ (mY (tb m')).cls ≠ "java/lang/invoke/VarHandle")
    (hw : ∀ w ∈ [Cond.instanceMethod (mY (tb m')), Cond.initialized (mY (tb m')).cls, .code (mY (tb m')) (mC (tb m')) (mN (tb m')) (mR (tb m'))], w ∈ xgood)
    (hnest : ((mY M).cls, idx, mY (tb m'), host) ∈ xnest)
    (hd : decode (mC M) pc = .ok (.invokespecial idx, 3)) : Snd tb M pc (oCalV ci m' n (pc + 3)) := by
  refine ⟨xmo_oCalV _ _ _ _, ?_⟩
  intro l G p e R s m args below meth c u0 uF rF Q C ls st u act h
  unfold oCalV at h
  split at h
  next a hst =>
    split at h
    next ha =>
      simp only [xcal, Option.some.injEq] at h
      subst h
      refine ⟨rfl, fun r1 u2 hu2 hF hM kk lsA H locs hL hH hS h1 => xw_size (fun hz => ?_)⟩
      have hR := C.2.2.2.2.2.2.1
      have hin := (List.getElem?_eq_some_iff.mp hst).1
      have hstk : st.map (xtr G) = (((st.take n).reverse).map (xtr G)).reverse ++ .ref (gad G a) :: (st.drop (n + 1)).map (xtr G) := by
        have e : st = st.take n ++ .ref a :: st.drop (n + 1) := by
          have := List.take_append_drop n st
          rw [List.drop_eq_getElem_cons hin, (List.getElem?_eq_some_iff.mp hst).2] at this
          exact this.symm
        calc st.map (xtr G) = (st.take n ++ .ref a :: st.drop (n + 1)).map (xtr G) := by rw [← e]
          _ = _ := by rw [List.map_append, List.map_reverse, List.reverse_reverse]; rfl
      have q1 := h1.1
      have q2 := h1.2.1
      have q3 := hu2.1
      have q4 := hu2.2.1
      have q5 := hF.1
      have q6 := hF.2.1
      have ok : ∀ w ∈ [Cond.instanceMethod (mY (tb m')), Cond.initialized (mY (tb m')).cls, .code (mY (tb m')) (mC (tb m')) (mN (tb m')) (mR (tb m'))], w.before args s = true := fun w h => C.2.2.2.2.1 w (List.mem_cons_of_mem _ (hw w h))
      have cb : va_CN R s args (mY M).cls idx (mY (tb m')) host (mC (tb m')) (mN (tb m')) (mR (tb m')) (xTs (tb m')) (xRm (tb m') u u2) (xT u2 - xT u) (xS u2 - xS u) n :=
        va_cnB n C.2.2.2.2.1 (xgoodIn (hw _ (by simp))) rfl rfl rfl (C.2.2.2.2.2.2.2.1.1.2.2.2.1 _ hnest) (ok _ (by simp)) ⟨hmh.1, hmh.2, hn⟩ ⟨Nat.le_trans hrm.1 hR.1, Nat.le_trans hrm.2 hR.2.1⟩
      rw [hmr] at cb
      have hlen : (((st.take n).reverse).map (xtr G)).length = n := by
        rw [List.length_map, List.length_reverse, List.length_take]
        omega
      refine xcall (u2 := u2) (r1 := r1) (va_runIN (As := ((st.take n).reverse).map (xtr G)) (rest := (st.drop (n + 1)).map (xtr G)) (b := gad G a) ⟨C.1, C.2.1, C.2.2.1, C.2.2.2.1, C.2.2.2.2.1⟩ hM ⟨cb, hnm, ok _ (by simp)⟩ ⟨xPc_blind, xpre C hH hS h1 hz rfl⟩ rfl hlen (by show lsA.size = _; exact hL.2.1) hstk ?_ hd ⟨by omega, by omega⟩) hS (fun H1 locs1 hH1 hS1 => ?_)
      · show 2 * 0 + _ ≤ 8
        rw [xcat_tr]
        omega
      · refine W.cs (cells' := xT u2 - xT u0) (slots' := xS u2 - xS u0) (by omega) (by omega) ?_
        have k1 := kk lsA H1 locs1 hL hH1 hS1 (h1.tr hu2)
        have e2 : ((r1.map (xtr G)).toList ++ (st.drop (n + 1)).map (xtr G)) = (r1.toList ++ st.drop (n + 1)).map (xtr G) := by cases r1 <;> simp
        rw [e2]
        exact k1
    next => cases h
  next => cases h
end
