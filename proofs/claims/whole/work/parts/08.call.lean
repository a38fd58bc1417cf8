/-! arrays, making, calls, ends -/
theorem xin {i : Int32} {n : Nat} (h : 0 ≤ i ∧ i.toNatClampNeg < n) : vp_in i n := by
  rintro (q | q)
  · exact absurd (Int32.lt_iff_toInt_lt.mp q) (by have := Int32.le_iff_toInt_le.mp h.1; omega)
  · omega
section
variable {tb : Nat → xM} {M : xM} {pc : Nat}
theorem snd_iald (hd : decode (mC M) pc = .ok (.iaload, 1)) : Snd tb M pc (oLd 13 (pc + 1)) := by
  refine ⟨xmo_oLd _ _, ?_⟩
  intro l G p e R s m args below meth c u0 uF rF Q C ls st u act h
  unfold oLd at h
  split at h
  · split at h
    next ha =>
      simp only [xgo, Option.some.injEq] at h
      subst h
      refine ⟨xle.rf _, fun _ kk lsA H locs hL hH hS h1 => ?_⟩
      exact va_iald C.1 C.2.1 C.2.2.2.2.2.2.2.1.1.2.2.1 hH.1 _ 1 (by rw [xwl_get ha.1.1, xent_i ha.1.2 (by simp)]) rfl (xin ha.2) hd (kk lsA H locs hL hH hS h1)
    next => cases h
  · cases h
theorem snd_bald (hd : decode (mC M) pc = .ok (.baload, 1)) : Snd tb M pc (oLd 12 (pc + 1)) := by
  refine ⟨xmo_oLd _ _, ?_⟩
  intro l G p e R s m args below meth c u0 uF rF Q C ls st u act h
  unfold oLd at h
  split at h
  · split at h
    next ha =>
      simp only [xgo, Option.some.injEq] at h
      subst h
      refine ⟨xle.rf _, fun _ kk lsA H locs hL hH hS h1 => ?_⟩
      exact va_bald C.1 C.2.1 C.2.2.2.2.2.2.2.1.1.2.2.1 hH.1 _ 0 (by rw [xwl_get ha.1.1, xent_i ha.1.2 (by simp)]) rfl (xin ha.2) hd (kk lsA H locs hL hH hS h1)
    next => cases h
  · cases h
theorem snd_zald (hd : decode (mC M) pc = .ok (.baload, 1)) : Snd tb M pc (oLd 15 (pc + 1)) := by
  refine ⟨xmo_oLd _ _, ?_⟩
  intro l G p e R s m args below meth c u0 uF rF Q C ls st u act h
  unfold oLd at h
  split at h
  · split at h
    next ha =>
      simp only [xgo, Option.some.injEq] at h
      subst h
      refine ⟨xle.rf _, fun _ kk lsA H locs hL hH hS h1 => ?_⟩
      exact va_zald C.1 C.2.1 C.2.2.2.2.2.2.2.1.1.2.2.1 hH.1 _ 3 (by rw [xwl_get ha.1.1, xent_i ha.1.2 (by simp)]) rfl (xin ha.2) hd (kk lsA H locs hL hH hS h1)
    next => cases h
  · cases h
theorem snd_lald (hd : decode (mC M) pc = .ok (.laload, 1)) : Snd tb M pc (oLdJ (pc + 1)) := by
  refine ⟨xmo_oLdJ _, ?_⟩
  intro l G p e R s m args below meth c u0 uF rF Q C ls st u act h
  unfold oLdJ at h
  split at h
  · split at h
    next ha =>
      simp only [xgo, Option.some.injEq] at h
      subst h
      refine ⟨xle.rf _, fun _ kk lsA H locs hL hH hS h1 => ?_⟩
      exact va_lald C.1 C.2.1 C.2.2.2.2.2.2.2.1.1.2.2.1 hH.1 _ 2 (by rw [xwl_get ha.1.1, xent_j ha.1.2]) rfl (xin ha.2) hd (kk lsA H locs hL hH hS h1)
    next => cases h
  · cases h
theorem snd_aald (hd : decode (mC M) pc = .ok (.aaload, 1)) : Snd tb M pc (oLdR (pc + 1)) := by
  refine ⟨xmo_oLdR _, ?_⟩
  intro l G p e R s m args below meth c u0 uF rF Q C ls st u act h
  unfold oLdR at h
  split at h
  · split at h
    next ha =>
      split at h
      next b hb =>
        simp only [xgo, Option.some.injEq] at h
        subst h
        refine ⟨xle.rf _, fun _ kk lsA H locs hL hH hS h1 => ?_⟩
        refine va_aldq C.1 C.2.1 C.2.2.2.2.2.2.2.1.1.2.2.1 hH.1 _ 4 (by rw [xwl_get ha.1.1, xent_r ha.1.2]) rfl (xin ha.2) hd ?_
        rw [hb]
        exact kk lsA H locs hL hH hS h1
      next => cases h
    next => cases h
  · cases h
theorem snd_scr (hn : (mY M).name = "law") (hd : decode (mC M) pc = .ok (.iaload, 1)) : Snd tb M pc (oScr (pc + 1)) := by
  refine ⟨xmo_oScr _, ?_⟩
  intro l G p e R s m args below meth c u0 uF rF Q C ls st u act h
  unfold oScr at h
  split at h
  · split at h
    next ha =>
      obtain ⟨ha, hi⟩ := ha
      subst ha
      simp only [xgo, Option.some.injEq] at h
      subst h
      refine ⟨xle.rf _, fun _ kk lsA H locs hL hH hS h1 => ?_⟩
      obtain ⟨b, hb, hX, hbl, hbB⟩ := C.2.2.2.2.2.2.2.2.1 hn
      have kk := kk lsA H locs hL hH hS h1
      rw [hH.2.2.1] at hi
      rw [hH.2.2.2] at kk
      subst hb
      exact va_sld C.1 C.2.1 hX hbl (Nat.not_le.mpr hbB) hS (xin hi) hd kk
    next => cases h
  · cases h
theorem snd_scl (hn : (mY M).name = "law") (hd : decode (mC M) pc = .ok (.arraylength, 1)) : Snd tb M pc (oScl (pc + 1)) := by
  refine ⟨xmo_oScl _, ?_⟩
  intro l G p e R s m args below meth c u0 uF rF Q C ls st u act h
  unfold oScl at h
  split at h
  · split at h
    next ha =>
      subst ha
      simp only [xgo, Option.some.injEq] at h
      subst h
      refine ⟨xle.rf _, fun _ kk lsA H locs hL hH hS h1 => ?_⟩
      obtain ⟨b, hb, hX, hbl, hbB⟩ := C.2.2.2.2.2.2.2.2.1 hn
      have kk := kk lsA H locs hL hH hS h1
      rw [hH.2.2.1] at kk
      subst hb
      exact va_slen C.1 C.2.1 hX hbl (Nat.not_le.mpr hbB) hS hd kk
    next => cases h
  · cases h
theorem snd_alen {kd k : Nat} (hk : (kd = 12 ∧ k = 0) ∨ (kd = 13 ∧ k = 1) ∨ (kd = 15 ∧ k = 3)) (hd : decode (mC M) pc = .ok (.arraylength, 1)) : Snd tb M pc (oLen kd (pc + 1)) := by
  refine ⟨xmo_oLen _ _, ?_⟩
  intro l G p e R s m args below meth c u0 uF rF Q C ls st u act h
  unfold oLen at h
  split at h
  · split at h
    next ha =>
      simp only [xgo, Option.some.injEq] at h
      subst h
      refine ⟨xle.rf _, fun _ kk lsA H locs hL hH hS h1 => ?_⟩
      rcases hk with ⟨rfl, rfl⟩ | ⟨rfl, rfl⟩ | ⟨rfl, rfl⟩
      · exact va_alen (x := (xN u _, .inl (xI u _))) C.1 C.2.1 C.2.2.2.2.2.2.2.1.1.2.2.1 hH.1 _ 0 (by rw [xwl_get ha.1, xent_i ha.2 (by simp)]) rfl rfl hd (kk lsA H locs hL hH hS h1)
      · exact va_alen (x := (xN u _, .inl (xI u _))) C.1 C.2.1 C.2.2.2.2.2.2.2.1.1.2.2.1 hH.1 _ 1 (by rw [xwl_get ha.1, xent_i ha.2 (by simp)]) rfl rfl hd (kk lsA H locs hL hH hS h1)
      · exact va_alen (x := (xN u _, .inl (xI u _))) C.1 C.2.1 C.2.2.2.2.2.2.2.1.1.2.2.1 hH.1 _ 3 (by rw [xwl_get ha.1, xent_i ha.2 (by simp)]) rfl rfl hd (kk lsA H locs hL hH hS h1)
    next => cases h
  · cases h
theorem xent_stI {G : xG} {u : xMem} {a k kd : Nat} {v : Int32} (h : xK u a = kd) (hk : kd = 12 ∨ kd = 13 ∨ kd = 15) : xent G (xsI u a k v) a = .inl (gcy G kd, xN u a, .inl (upd (xI u a) k v)) := by
  rw [xent_i (u := xsI u a k v) h hk]
  have e : xI (xsI u a k v) a = upd (xI u a) k v := by
    funext j
    rw [xI_sI]
    simp [upd]
  rw [e]
  rfl
theorem xent_stJ {G : xG} {u : xMem} {a k : Nat} {v : Int64} (h : xK u a = 14) : xent G (xsJ u a k v) a = .inl (gcy G 14, xN u a, .inr (.inl (vp_updL (xJ u a) k v))) := by
  rw [xent_j (u := xsJ u a k v) h]
  have e : xJ (xsJ u a k v) a = vp_updL (xJ u a) k v := by
    funext j
    rw [xJ_sJ]
    simp [vp_updL]
  rw [e]
  rfl
theorem xent_stR {G : xG} {u : xMem} {a k v : Nat} (h : xK u a = 16) : xent G (xsR u a k (some v)) a = .inl (gcy G 16, xN u a, .inr (.inr (.inr (.inr (va_up (fun j => (xR u a j).map (gad G)) k (some (gad G v))))))) := by
  rw [xent_r (u := xsR u a k (some v)) h]
  have e : (fun j => (xR (xsR u a k (some v)) a j).map (gad G)) = va_up (fun j => (xR u a j).map (gad G)) k (some (gad G v)) := by
    funext j
    rw [xR_sR]
    by_cases hj : j = k <;> simp [va_up, hj]
  rw [e]
  rfl
theorem snd_iast (hd : decode (mC M) pc = .ok (.iastore, 1)) : Snd tb M pc (oSt 13 (fun x => x) (pc + 1)) := by
  refine ⟨xmo_oSt _ _ _, ?_⟩
  intro l G p e R s m args below meth c u0 uF rF Q C ls st u act h
  unfold oSt at h
  split at h
  · split at h
    next ha =>
      simp only [xgo, Option.some.injEq] at h
      subst h
      refine ⟨xle.rf _, fun _ kk lsA H locs hL hH hS h1 => ?_⟩
      refine va_iast C.1 C.2.1 C.2.2.2.2.2.2.2.1.1.2.2.1 hH.1 (xwl_D C.2.2.2.2.2.2.2.1.1.1 hH.2.1) hS _ 1 (by rw [xwl_get ha.1.1, xent_i ha.1.2 (by simp)]) rfl (xin ha.2) hd (fun H1 locs1 hP1 hD1 hS1 => kk lsA H1 locs1 hL ?_ hS1 h1)
      exact xhold_sI hH ha.1.1 (xent_stI ha.1.2 (by simp)) hP1
    next => cases h
  · cases h
theorem snd_bast (hd : decode (mC M) pc = .ok (.bastore, 1)) : Snd tb M pc (oSt 12 (fun x => vp_nar .byte x) (pc + 1)) := by
  refine ⟨xmo_oSt _ _ _, ?_⟩
  intro l G p e R s m args below meth c u0 uF rF Q C ls st u act h
  unfold oSt at h
  split at h
  · split at h
    next ha =>
      simp only [xgo, Option.some.injEq] at h
      subst h
      refine ⟨xle.rf _, fun _ kk lsA H locs hL hH hS h1 => ?_⟩
      refine va_bast C.1 C.2.1 C.2.2.2.2.2.2.2.1.1.2.2.1 hH.1 (xwl_D C.2.2.2.2.2.2.2.1.1.1 hH.2.1) hS _ 0 (by rw [xwl_get ha.1.1, xent_i ha.1.2 (by simp)]) rfl (xin ha.2) hd (fun H1 locs1 hP1 hD1 hS1 => kk lsA H1 locs1 hL ?_ hS1 h1)
      exact xhold_sI hH ha.1.1 (xent_stI ha.1.2 (by simp)) hP1
    next => cases h
  · cases h
theorem snd_zast (hd : decode (mC M) pc = .ok (.bastore, 1)) : Snd tb M pc (oSt 15 (fun x => vp_nar .boolean x) (pc + 1)) := by
  refine ⟨xmo_oSt _ _ _, ?_⟩
  intro l G p e R s m args below meth c u0 uF rF Q C ls st u act h
  unfold oSt at h
  split at h
  · split at h
    next ha =>
      simp only [xgo, Option.some.injEq] at h
      subst h
      refine ⟨xle.rf _, fun _ kk lsA H locs hL hH hS h1 => ?_⟩
      refine va_zast C.1 C.2.1 C.2.2.2.2.2.2.2.1.1.2.2.1 hH.1 (xwl_D C.2.2.2.2.2.2.2.1.1.1 hH.2.1) hS _ 3 (by rw [xwl_get ha.1.1, xent_i ha.1.2 (by simp)]) rfl (xin ha.2) hd (fun H1 locs1 hP1 hD1 hS1 => kk lsA H1 locs1 hL ?_ hS1 h1)
      exact xhold_sI hH ha.1.1 (xent_stI ha.1.2 (by simp)) hP1
    next => cases h
  · cases h
theorem snd_last (hd : decode (mC M) pc = .ok (.lastore, 1)) : Snd tb M pc (oStJ (pc + 1)) := by
  refine ⟨xmo_oStJ _, ?_⟩
  intro l G p e R s m args below meth c u0 uF rF Q C ls st u act h
  unfold oStJ at h
  split at h
  · split at h
    next ha =>
      simp only [xgo, Option.some.injEq] at h
      subst h
      refine ⟨xle.rf _, fun _ kk lsA H locs hL hH hS h1 => ?_⟩
      refine va_last C.1 C.2.1 C.2.2.2.2.2.2.2.1.1.2.2.1 hH.1 (xwl_D C.2.2.2.2.2.2.2.1.1.1 hH.2.1) hS _ 2 (by rw [xwl_get ha.1.1, xent_j ha.1.2]) rfl (xin ha.2) hd (fun H1 locs1 hP1 hD1 hS1 => kk lsA H1 locs1 hL ?_ hS1 h1)
      exact xhold_sJ hH ha.1.1 (xent_stJ ha.1.2) hP1
    next => cases h
  · cases h
theorem snd_aast (hd : decode (mC M) pc = .ok (.aastore, 1)) : Snd tb M pc (oStR (pc + 1)) := by
  refine ⟨xmo_oStR _, ?_⟩
  intro l G p e R s m args below meth c u0 uF rF Q C ls st u act h
  unfold oStR at h
  split at h
  · split at h
    next ha =>
      simp only [xgo, Option.some.injEq] at h
      subst h
      refine ⟨xle.rf _, fun _ kk lsA H locs hL hH hS h1 => ?_⟩
      refine va_astq C.1 C.2.1 C.2.2.2.2.2.2.2.1.1.2.2.1 hH.1 (xwl_D C.2.2.2.2.2.2.2.1.1.1 hH.2.1) hS _ 4 _ 5 (r := (xcn 5, xct 5, xnf 5)) (by rw [xwl_get ha.1.1.1, xent_r ha.1.1.2]) rfl (xhold_at (H := H) ha.1.2 (by omega)) (xcl_at (c := 5) (by omega)) (xin ha.2) hd (fun H1 locs1 hP1 hD1 hS1 => kk lsA H1 locs1 hL ?_ hS1 h1)
      exact xhold_sR hH ha.1.1.1 (xent_stR ha.1.1.2) hP1
    next => cases h
  · cases h
end
