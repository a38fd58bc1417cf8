theorem snd_no {tb : Nat → xM} {M : xM} {pc : Nat} : Snd tb M pc oNo := by
  refine ⟨xmo_oNo, ?_⟩
  intro l G p e R s m args below meth c u0 uF rF Q C ls st u act h
  cases h
theorem snd_iconst {tb : Nat → xM} {M : xM} {pc : Nat} {n : Int} {v : Int32} (hd : decode (mC M) pc = .ok (.iconst n, 1)) (hv : Int32.ofInt n = v) : Snd tb M pc (oI v (pc + 1)) := by
  refine ⟨xmo_oI _ _, ?_⟩
  intro l G p e R s m args below meth c u0 uF rF Q C ls st u act h
  simp only [oI, xgo, Option.some.injEq] at h
  subst h
  exact ⟨xle.rf _, fun _ k lsA H locs hL hH hS h1 => lv_iconst C.1 C.2.1 hd hv (k lsA H locs hL hH hS h1)⟩
theorem snd_bipush {tb : Nat → xM} {M : xM} {pc : Nat} {n : Int} {v : Int32} (hd : decode (mC M) pc = .ok (.bipush n, 2)) (hv : (Int8.ofInt n).toInt32 = v) : Snd tb M pc (oI v (pc + 2)) := by
  refine ⟨xmo_oI _ _, ?_⟩
  intro l G p e R s m args below meth c u0 uF rF Q C ls st u act h
  simp only [oI, xgo, Option.some.injEq] at h
  subst h
  exact ⟨xle.rf _, fun _ k lsA H locs hL hH hS h1 => lv_bipush C.1 C.2.1 hd hv (k lsA H locs hL hH hS h1)⟩
theorem snd_sipush {tb : Nat → xM} {M : xM} {pc : Nat} {n : Int} {v : Int32} (hd : decode (mC M) pc = .ok (.sipush n, 3)) (hv : (Int16.ofInt n).toInt32 = v) : Snd tb M pc (oI v (pc + 3)) := by
  refine ⟨xmo_oI _ _, ?_⟩
  intro l G p e R s m args below meth c u0 uF rF Q C ls st u act h
  simp only [oI, xgo, Option.some.injEq] at h
  subst h
  exact ⟨xle.rf _, fun _ k lsA H locs hL hH hS h1 => lv_sipush C.1 C.2.1 hd hv (k lsA H locs hL hH hS h1)⟩
theorem snd_ldc {tb : Nat → xM} {M : xM} {pc : Nat} {ix : Nat} {v : Int32} (hd : decode (mC M) pc = .ok (.ldc ix, 2)) (hw : Cond.constant (mY M).cls ix v ∈ xgood) : Snd tb M pc (oI v (pc + 2)) := by
  refine ⟨xmo_oI _ _, ?_⟩
  intro l G p e R s m args below meth c u0 uF rF Q C ls st u act h
  simp only [oI, xgo, Option.some.injEq] at h
  subst h
  exact ⟨xle.rf _, fun _ k lsA H locs hL hH hS h1 => lv_ldc C.1 C.2.1 C.2.2.2.1 (C.2.2.2.2.1 _ (List.mem_cons_of_mem _ hw)) hd (k lsA H locs hL hH hS h1)⟩
theorem snd_ldcw {tb : Nat → xM} {M : xM} {pc : Nat} {ix : Nat} {v : Int32} (hd : decode (mC M) pc = .ok (.ldc_w ix, 3)) (hw : Cond.constant (mY M).cls ix v ∈ xgood) : Snd tb M pc (oI v (pc + 3)) := by
  refine ⟨xmo_oI _ _, ?_⟩
  intro l G p e R s m args below meth c u0 uF rF Q C ls st u act h
  simp only [oI, xgo, Option.some.injEq] at h
  subst h
  exact ⟨xle.rf _, fun _ k lsA H locs hL hH hS h1 => lv_ldcw C.1 C.2.1 C.2.2.2.1 (C.2.2.2.2.1 _ (List.mem_cons_of_mem _ hw)) hd (k lsA H locs hL hH hS h1)⟩
theorem snd_ldc2 {tb : Nat → xM} {M : xM} {pc : Nat} {ix : Nat} {v : Int64} (hd : decode (mC M) pc = .ok (.ldc2_w ix, 3)) (hw : Cond.constantLong (mY M).cls ix v ∈ xgood) : Snd tb M pc (oJ v (pc + 3)) := by
  refine ⟨xmo_oJ _ _, ?_⟩
  intro l G p e R s m args below meth c u0 uF rF Q C ls st u act h
  simp only [oJ, xgo, Option.some.injEq] at h
  subst h
  exact ⟨xle.rf _, fun _ k lsA H locs hL hH hS h1 => lv_ldc2 C.1 C.2.1 C.2.2.2.1 (C.2.2.2.2.1 _ (List.mem_cons_of_mem _ hw)) hd (k lsA H locs hL hH hS h1)⟩
theorem snd_lconst {tb : Nat → xM} {M : xM} {pc : Nat} {n : Fin 2} {v : Int64} (hd : decode (mC M) pc = .ok (.lconst n, 1)) (hv : Int64.ofNat (n : Nat) = v) : Snd tb M pc (oJ v (pc + 1)) := by
  refine ⟨xmo_oJ _ _, ?_⟩
  intro l G p e R s m args below meth c u0 uF rF Q C ls st u act h
  simp only [oJ, xgo, Option.some.injEq] at h
  subst h
  exact ⟨xle.rf _, fun _ k lsA H locs hL hH hS h1 => lv_lconst C.1 C.2.1 hd hv (k lsA H locs hL hH hS h1)⟩
theorem snd_ldcS {tb : Nat → xM} {M : xM} {pc : Nat} {ix k : Nat} {tx : String} (hd : decode (mC M) pc = .ok (.ldc ix, 2)) (hw : ((mY M).cls, ix, k, tx) ∈ xstrs) : Snd tb M pc (oS k (pc + 2)) := by
  refine ⟨xmo_oS _ _, ?_⟩
  intro l G p e R s m args below meth c u0 uF rF Q C ls st u act h
  simp only [oS, xgo, Option.some.injEq] at h
  subst h
  exact ⟨xle.rf _, fun _ k lsA H locs hL hH hS h1 => va_ldcS C.1 C.2.1 C.2.2.2.1 (C.2.2.2.2.2.2.2.1.1.2.2.2.2.1 _ hw) hd (k lsA H locs hL hH hS h1)⟩
theorem snd_goto {tb : Nat → xM} {M : xM} {pc : Nat} {off : Int} {t : Nat} (hd : decode (mC M) pc = .ok (.goto off, 3)) (ht : (pc : Int) + off = (t : Int)) : Snd tb M pc (oGoto t) := by
  refine ⟨xmo_oGoto _, ?_⟩
  intro l G p e R s m args below meth c u0 uF rF Q C ls st u act h
  simp only [oGoto, xgo, Option.some.injEq] at h
  subst h
  exact ⟨xle.rf _, fun _ k lsA H locs hL hH hS h1 => lv_goto C.1 C.2.1 hd ht (k lsA H locs hL hH hS h1)⟩
theorem snd_iload_n {tb : Nat → xM} {M : xM} {pc : Nat} {k : Fin 4} {i : Nat} (hd : decode (mC M) pc = .ok (.iload_n k, 1)) (hi : (k : Nat) = i) : Snd tb M pc (oIl i (pc + 1)) := by
  refine ⟨xmo_oIl _ _, ?_⟩
  intro l G p e R s m args below meth c u0 uF rF Q C ls st u act h
  unfold oIl at h
  split at h
  next x hx =>
    simp only [xgo, Option.some.injEq] at h
    subst h
    exact ⟨xle.rf _, fun _ k lsA H locs hL hH hS h1 => lv_iload_n C.1 C.2.1 hd hi (hL.at hx (by simp)) (k lsA H locs hL hH hS h1)⟩
  next => cases h
theorem snd_iload {tb : Nat → xM} {M : xM} {pc : Nat} {i : Nat} (hd : decode (mC M) pc = .ok (.iload i, 2)) : Snd tb M pc (oIl i (pc + 2)) := by
  refine ⟨xmo_oIl _ _, ?_⟩
  intro l G p e R s m args below meth c u0 uF rF Q C ls st u act h
  unfold oIl at h
  split at h
  next x hx =>
    simp only [xgo, Option.some.injEq] at h
    subst h
    exact ⟨xle.rf _, fun _ k lsA H locs hL hH hS h1 => lv_iload C.1 C.2.1 hd (hL.at hx (by simp)) (k lsA H locs hL hH hS h1)⟩
  next => cases h
theorem snd_lload_n {tb : Nat → xM} {M : xM} {pc : Nat} {k : Fin 4} {i : Nat} (hd : decode (mC M) pc = .ok (.lload_n k, 1)) (hi : (k : Nat) = i) : Snd tb M pc (oJl i (pc + 1)) := by
  refine ⟨xmo_oJl _ _, ?_⟩
  intro l G p e R s m args below meth c u0 uF rF Q C ls st u act h
  unfold oJl at h
  split at h
  next x hx =>
    simp only [xgo, Option.some.injEq] at h
    subst h
    exact ⟨xle.rf _, fun _ k lsA H locs hL hH hS h1 => lv_lload_n C.1 C.2.1 hd hi (hL.at hx (by simp)) (k lsA H locs hL hH hS h1)⟩
  next => cases h
theorem snd_lload {tb : Nat → xM} {M : xM} {pc : Nat} {i : Nat} (hd : decode (mC M) pc = .ok (.lload i, 2)) : Snd tb M pc (oJl i (pc + 2)) := by
  refine ⟨xmo_oJl _ _, ?_⟩
  intro l G p e R s m args below meth c u0 uF rF Q C ls st u act h
  unfold oJl at h
  split at h
  next x hx =>
    simp only [xgo, Option.some.injEq] at h
    subst h
    exact ⟨xle.rf _, fun _ k lsA H locs hL hH hS h1 => lv_lload C.1 C.2.1 hd (hL.at hx (by simp)) (k lsA H locs hL hH hS h1)⟩
  next => cases h
theorem snd_aload_n {tb : Nat → xM} {M : xM} {pc : Nat} {k : Fin 4} {i : Nat} (hd : decode (mC M) pc = .ok (.aload_n k, 1)) (hi : (k : Nat) = i) : Snd tb M pc (oAl i (pc + 1)) := by
  refine ⟨xmo_oAl _ _, ?_⟩
  intro l G p e R s m args below meth c u0 uF rF Q C ls st u act h
  unfold oAl at h
  split at h
  next x hx =>
    simp only [xgo, Option.some.injEq] at h
    subst h
    exact ⟨xle.rf _, fun _ k lsA H locs hL hH hS h1 => lv_aload_n C.1 C.2.1 hd hi (hL.at hx (by simp)) (k lsA H locs hL hH hS h1)⟩
  next => cases h
theorem snd_aload {tb : Nat → xM} {M : xM} {pc : Nat} {i : Nat} (hd : decode (mC M) pc = .ok (.aload i, 2)) : Snd tb M pc (oAl i (pc + 2)) := by
  refine ⟨xmo_oAl _ _, ?_⟩
  intro l G p e R s m args below meth c u0 uF rF Q C ls st u act h
  unfold oAl at h
  split at h
  next x hx =>
    simp only [xgo, Option.some.injEq] at h
    subst h
    exact ⟨xle.rf _, fun _ k lsA H locs hL hH hS h1 => lv_aload C.1 C.2.1 hd (hL.at hx (by simp)) (k lsA H locs hL hH hS h1)⟩
  next => cases h
theorem snd_istore_n {tb : Nat → xM} {M : xM} {pc : Nat} {k : Fin 4} {i : Nat} (hd : decode (mC M) pc = .ok (.istore_n k, 1)) (hi : (k : Nat) = i) : Snd tb M pc (oIs i (pc + 1)) := by
  refine ⟨xmo_oIs _ _, ?_⟩
  intro l G p e R s m args below meth c u0 uF rF Q C ls st u act h
  unfold oIs at h
  split at h
  · split at h
    next hc =>
      simp only [xgo, Option.some.injEq] at h
      subst h
      exact ⟨xle.rf _, fun _ k lsA H locs hL hH hS h1 => lv_istore_n C.1 C.2.1 hd hi hL.has (by rw [← hL.1]; exact hc.1) rfl (fun ls' hl' => k ls' H locs (hL.set1 hc.1 hc.2 rfl hl') hH hS h1)⟩
    next => cases h
  · cases h
theorem snd_istore {tb : Nat → xM} {M : xM} {pc : Nat} {i : Nat} (hd : decode (mC M) pc = .ok (.istore i, 2)) : Snd tb M pc (oIs i (pc + 2)) := by
  refine ⟨xmo_oIs _ _, ?_⟩
  intro l G p e R s m args below meth c u0 uF rF Q C ls st u act h
  unfold oIs at h
  split at h
  · split at h
    next hc =>
      simp only [xgo, Option.some.injEq] at h
      subst h
      exact ⟨xle.rf _, fun _ k lsA H locs hL hH hS h1 => lv_istore C.1 C.2.1 hd hL.has (by rw [← hL.1]; exact hc.1) rfl (fun ls' hl' => k ls' H locs (hL.set1 hc.1 hc.2 rfl hl') hH hS h1)⟩
    next => cases h
  · cases h
theorem snd_astore_n {tb : Nat → xM} {M : xM} {pc : Nat} {k : Fin 4} {i : Nat} (hd : decode (mC M) pc = .ok (.astore_n k, 1)) (hi : (k : Nat) = i) : Snd tb M pc (oAs i (pc + 1)) := by
  refine ⟨xmo_oAs _ _, ?_⟩
  intro l G p e R s m args below meth c u0 uF rF Q C ls st u act h
  unfold oAs at h
  split at h
  · split at h
    next hc =>
      simp only [xgo, Option.some.injEq] at h
      subst h
      exact ⟨xle.rf _, fun _ k lsA H locs hL hH hS h1 => lv_astore_n C.1 C.2.1 hd hi hL.has (by rw [← hL.1]; exact hc.1) rfl (fun ls' hl' => k ls' H locs (hL.set1 hc.1 hc.2 rfl hl') hH hS h1)⟩
    next => cases h
  · cases h
theorem snd_astore {tb : Nat → xM} {M : xM} {pc : Nat} {i : Nat} (hd : decode (mC M) pc = .ok (.astore i, 2)) : Snd tb M pc (oAs i (pc + 2)) := by
  refine ⟨xmo_oAs _ _, ?_⟩
  intro l G p e R s m args below meth c u0 uF rF Q C ls st u act h
  unfold oAs at h
  split at h
  · split at h
    next hc =>
      simp only [xgo, Option.some.injEq] at h
      subst h
      exact ⟨xle.rf _, fun _ k lsA H locs hL hH hS h1 => lv_astore C.1 C.2.1 hd hL.has (by rw [← hL.1]; exact hc.1) rfl (fun ls' hl' => k ls' H locs (hL.set1 hc.1 hc.2 rfl hl') hH hS h1)⟩
    next => cases h
  · cases h
theorem snd_lstore_n {tb : Nat → xM} {M : xM} {pc : Nat} {k : Fin 4} {i : Nat} (hd : decode (mC M) pc = .ok (.lstore_n k, 1)) (hi : (k : Nat) = i) : Snd tb M pc (oJs i (pc + 1)) := by
  refine ⟨xmo_oJs _ _, ?_⟩
  intro l G p e R s m args below meth c u0 uF rF Q C ls st u act h
  unfold oJs at h
  split at h
  · split at h
    next hc =>
      simp only [xgo, Option.some.injEq] at h
      subst h
      exact ⟨xle.rf _, fun _ k lsA H locs hL hH hS h1 => lv_lstore_n C.1 C.2.1 hd hi hL.has (by rw [← hL.1]; exact hc.1) rfl (fun ls' hl' => k ls' H locs (hL.set2 hc.1 hc.2 hl') hH hS h1)⟩
    next => cases h
  · cases h
theorem snd_lstore {tb : Nat → xM} {M : xM} {pc : Nat} {i : Nat} (hd : decode (mC M) pc = .ok (.lstore i, 2)) : Snd tb M pc (oJs i (pc + 2)) := by
  refine ⟨xmo_oJs _ _, ?_⟩
  intro l G p e R s m args below meth c u0 uF rF Q C ls st u act h
  unfold oJs at h
  split at h
  · split at h
    next hc =>
      simp only [xgo, Option.some.injEq] at h
      subst h
      exact ⟨xle.rf _, fun _ k lsA H locs hL hH hS h1 => lv_lstore C.1 C.2.1 hd hL.has (by rw [← hL.1]; exact hc.1) rfl (fun ls' hl' => k ls' H locs (hL.set2 hc.1 hc.2 hl') hH hS h1)⟩
    next => cases h
  · cases h
theorem snd_iinc {tb : Nat → xM} {M : xM} {pc : Nat} {i : Nat} {n : Int} {v : Int32} (hd : decode (mC M) pc = .ok (.iinc i n, 3)) (hv : Int32.ofInt n = v) : Snd tb M pc (oInc i v (pc + 3)) := by
  refine ⟨xmo_oInc _ _ _, ?_⟩
  intro l G p e R s m args below meth c u0 uF rF Q C ls st u act h
  unfold oInc at h
  split at h
  next x hx =>
    split at h
    next hc =>
      simp only [xgo, Option.some.injEq] at h
      subst h
      refine ⟨xle.rf _, fun _ k lsA H locs hL hH hS h1 => ?_⟩
      have hi := (List.getElem?_eq_some_iff.mp hx).1
      obtain ⟨j, hj⟩ := List.getElem?_of_mem (xlv_mem (G := G) hx (by simp))
      exact lv_iinc (v := x + v) C.1 C.2.1 hd hL.has hj (by rw [hv]) (by rw [← hL.1]; exact hi) rfl (fun ls' hl' => k ls' H locs (hL.set1 hi hc rfl hl') hH hS h1)
    next => cases h
  next => cases h
theorem snd_iadd {tb : Nat → xM} {M : xM} {pc : Nat} (hd : decode (mC M) pc = .ok (.iadd, 1)) : Snd tb M pc (oB (fun x y => x + y) (pc + 1)) := by
  refine ⟨xmo_oB _ _, ?_⟩
  intro l G p e R s m args below meth c u0 uF rF Q C ls st u act h
  unfold oB at h
  split at h
  · simp only [xgo, Option.some.injEq] at h
    subst h
    exact ⟨xle.rf _, fun _ k lsA H locs hL hH hS h1 => lv_iadd C.1 C.2.1 hd (k lsA H locs hL hH hS h1)⟩
  · cases h
theorem snd_isub {tb : Nat → xM} {M : xM} {pc : Nat} (hd : decode (mC M) pc = .ok (.isub, 1)) : Snd tb M pc (oB (fun x y => x - y) (pc + 1)) := by
  refine ⟨xmo_oB _ _, ?_⟩
  intro l G p e R s m args below meth c u0 uF rF Q C ls st u act h
  unfold oB at h
  split at h
  · simp only [xgo, Option.some.injEq] at h
    subst h
    exact ⟨xle.rf _, fun _ k lsA H locs hL hH hS h1 => lv_isub C.1 C.2.1 hd (k lsA H locs hL hH hS h1)⟩
  · cases h
theorem snd_imul {tb : Nat → xM} {M : xM} {pc : Nat} (hd : decode (mC M) pc = .ok (.imul, 1)) : Snd tb M pc (oB (fun x y => x * y) (pc + 1)) := by
  refine ⟨xmo_oB _ _, ?_⟩
  intro l G p e R s m args below meth c u0 uF rF Q C ls st u act h
  unfold oB at h
  split at h
  · simp only [xgo, Option.some.injEq] at h
    subst h
    exact ⟨xle.rf _, fun _ k lsA H locs hL hH hS h1 => lv_imul C.1 C.2.1 hd (k lsA H locs hL hH hS h1)⟩
  · cases h
theorem snd_iand {tb : Nat → xM} {M : xM} {pc : Nat} (hd : decode (mC M) pc = .ok (.iand, 1)) : Snd tb M pc (oB (fun x y => x &&& y) (pc + 1)) := by
  refine ⟨xmo_oB _ _, ?_⟩
  intro l G p e R s m args below meth c u0 uF rF Q C ls st u act h
  unfold oB at h
  split at h
  · simp only [xgo, Option.some.injEq] at h
    subst h
    exact ⟨xle.rf _, fun _ k lsA H locs hL hH hS h1 => lv_iand C.1 C.2.1 hd (k lsA H locs hL hH hS h1)⟩
  · cases h
theorem snd_ior {tb : Nat → xM} {M : xM} {pc : Nat} (hd : decode (mC M) pc = .ok (.ior, 1)) : Snd tb M pc (oB (fun x y => x ||| y) (pc + 1)) := by
  refine ⟨xmo_oB _ _, ?_⟩
  intro l G p e R s m args below meth c u0 uF rF Q C ls st u act h
  unfold oB at h
  split at h
  · simp only [xgo, Option.some.injEq] at h
    subst h
    exact ⟨xle.rf _, fun _ k lsA H locs hL hH hS h1 => lv_ior C.1 C.2.1 hd (k lsA H locs hL hH hS h1)⟩
  · cases h
theorem snd_ishl {tb : Nat → xM} {M : xM} {pc : Nat} (hd : decode (mC M) pc = .ok (.ishl, 1)) : Snd tb M pc (oB (fun x y => x <<< (y &&& 31)) (pc + 1)) := by
  refine ⟨xmo_oB _ _, ?_⟩
  intro l G p e R s m args below meth c u0 uF rF Q C ls st u act h
  unfold oB at h
  split at h
  · simp only [xgo, Option.some.injEq] at h
    subst h
    exact ⟨xle.rf _, fun _ k lsA H locs hL hH hS h1 => lv_ishl C.1 C.2.1 hd (k lsA H locs hL hH hS h1)⟩
  · cases h
theorem snd_ishr {tb : Nat → xM} {M : xM} {pc : Nat} (hd : decode (mC M) pc = .ok (.ishr, 1)) : Snd tb M pc (oB (fun x y => x >>> (y &&& 31)) (pc + 1)) := by
  refine ⟨xmo_oB _ _, ?_⟩
  intro l G p e R s m args below meth c u0 uF rF Q C ls st u act h
  unfold oB at h
  split at h
  · simp only [xgo, Option.some.injEq] at h
    subst h
    exact ⟨xle.rf _, fun _ k lsA H locs hL hH hS h1 => lv_ishr C.1 C.2.1 hd (k lsA H locs hL hH hS h1)⟩
  · cases h
theorem snd_irem {tb : Nat → xM} {M : xM} {pc : Nat} (hd : decode (mC M) pc = .ok (.irem, 1)) : Snd tb M pc (oRem (pc + 1)) := by
  refine ⟨xmo_oRem _, ?_⟩
  intro l G p e R s m args below meth c u0 uF rF Q C ls st u act h
  unfold oRem at h
  split at h
  · split at h
    next => cases h
    next hne =>
      simp only [xgo, Option.some.injEq] at h
      subst h
      exact ⟨xle.rf _, fun _ k lsA H locs hL hH hS h1 => lv_irem C.1 C.2.1 hd hne (k lsA H locs hL hH hS h1)⟩
  · cases h
theorem snd_ldiv {tb : Nat → xM} {M : xM} {pc : Nat} (hd : decode (mC M) pc = .ok (.ldiv, 1)) : Snd tb M pc (oLdiv (pc + 1)) := by
  refine ⟨xmo_oLdiv _, ?_⟩
  intro l G p e R s m args below meth c u0 uF rF Q C ls st u act h
  unfold oLdiv at h
  split at h
  · split at h
    next => cases h
    next hne =>
      simp only [xgo, Option.some.injEq] at h
      subst h
      exact ⟨xle.rf _, fun _ k lsA H locs hL hH hS h1 => lv_ldiv C.1 C.2.1 hd hne (k lsA H locs hL hH hS h1)⟩
  · cases h
theorem snd_ladd {tb : Nat → xM} {M : xM} {pc : Nat} (hd : decode (mC M) pc = .ok (.ladd, 1)) : Snd tb M pc (oLB (fun x y => x + y) (pc + 1)) := by
  refine ⟨xmo_oLB _ _, ?_⟩
  intro l G p e R s m args below meth c u0 uF rF Q C ls st u act h
  unfold oLB at h
  split at h
  · simp only [xgo, Option.some.injEq] at h
    subst h
    exact ⟨xle.rf _, fun _ k lsA H locs hL hH hS h1 => lv_ladd C.1 C.2.1 hd (k lsA H locs hL hH hS h1)⟩
  · cases h
theorem snd_lmul {tb : Nat → xM} {M : xM} {pc : Nat} (hd : decode (mC M) pc = .ok (.lmul, 1)) : Snd tb M pc (oLB (fun x y => x * y) (pc + 1)) := by
  refine ⟨xmo_oLB _ _, ?_⟩
  intro l G p e R s m args below meth c u0 uF rF Q C ls st u act h
  unfold oLB at h
  split at h
  · simp only [xgo, Option.some.injEq] at h
    subst h
    exact ⟨xle.rf _, fun _ k lsA H locs hL hH hS h1 => lv_lmul C.1 C.2.1 hd (k lsA H locs hL hH hS h1)⟩
  · cases h
theorem snd_lor {tb : Nat → xM} {M : xM} {pc : Nat} (hd : decode (mC M) pc = .ok (.lor, 1)) : Snd tb M pc (oLB (fun x y => x ||| y) (pc + 1)) := by
  refine ⟨xmo_oLB _ _, ?_⟩
  intro l G p e R s m args below meth c u0 uF rF Q C ls st u act h
  unfold oLB at h
  split at h
  · simp only [xgo, Option.some.injEq] at h
    subst h
    exact ⟨xle.rf _, fun _ k lsA H locs hL hH hS h1 => lv_lor C.1 C.2.1 hd (k lsA H locs hL hH hS h1)⟩
  · cases h
theorem snd_lshl {tb : Nat → xM} {M : xM} {pc : Nat} (hd : decode (mC M) pc = .ok (.lshl, 1)) : Snd tb M pc (oLshl (pc + 1)) := by
  refine ⟨xmo_oLshl _, ?_⟩
  intro l G p e R s m args below meth c u0 uF rF Q C ls st u act h
  unfold oLshl at h
  split at h
  · simp only [xgo, Option.some.injEq] at h
    subst h
    exact ⟨xle.rf _, fun _ k lsA H locs hL hH hS h1 => lv_lshl C.1 C.2.1 hd rfl (k lsA H locs hL hH hS h1)⟩
  · cases h
theorem snd_lcmp {tb : Nat → xM} {M : xM} {pc : Nat} (hd : decode (mC M) pc = .ok (.lcmp, 1)) : Snd tb M pc (oLcmp (pc + 1)) := by
  refine ⟨xmo_oLcmp _, ?_⟩
  intro l G p e R s m args below meth c u0 uF rF Q C ls st u act h
  unfold oLcmp at h
  split at h
  · simp only [xgo, Option.some.injEq] at h
    subst h
    exact ⟨xle.rf _, fun _ k lsA H locs hL hH hS h1 => W.lcmp C.1 C.2.1 hd (k lsA H locs hL hH hS h1)⟩
  · cases h
theorem snd_i2l {tb : Nat → xM} {M : xM} {pc : Nat} (hd : decode (mC M) pc = .ok (.i2l, 1)) : Snd tb M pc (oI2l (pc + 1)) := by
  refine ⟨xmo_oI2l _, ?_⟩
  intro l G p e R s m args below meth c u0 uF rF Q C ls st u act h
  unfold oI2l at h
  split at h
  · simp only [xgo, Option.some.injEq] at h
    subst h
    exact ⟨xle.rf _, fun _ k lsA H locs hL hH hS h1 => lv_i2l C.1 C.2.1 hd rfl (k lsA H locs hL hH hS h1)⟩
  · cases h
theorem snd_l2i {tb : Nat → xM} {M : xM} {pc : Nat} (hd : decode (mC M) pc = .ok (.l2i, 1)) : Snd tb M pc (oL2i (pc + 1)) := by
  refine ⟨xmo_oL2i _, ?_⟩
  intro l G p e R s m args below meth c u0 uF rF Q C ls st u act h
  unfold oL2i at h
  split at h
  · simp only [xgo, Option.some.injEq] at h
    subst h
    exact ⟨xle.rf _, fun _ k lsA H locs hL hH hS h1 => lv_l2i C.1 C.2.1 hd rfl (k lsA H locs hL hH hS h1)⟩
  · cases h
theorem snd_i2b {tb : Nat → xM} {M : xM} {pc : Nat} (hd : decode (mC M) pc = .ok (.i2b, 1)) : Snd tb M pc (oI2b (pc + 1)) := by
  refine ⟨xmo_oI2b _, ?_⟩
  intro l G p e R s m args below meth c u0 uF rF Q C ls st u act h
  unfold oI2b at h
  split at h
  · simp only [xgo, Option.some.injEq] at h
    subst h
    exact ⟨xle.rf _, fun _ k lsA H locs hL hH hS h1 => lv_i2b C.1 C.2.1 hd rfl (k lsA H locs hL hH hS h1)⟩
  · cases h
theorem snd_dup {tb : Nat → xM} {M : xM} {pc : Nat} (hd : decode (mC M) pc = .ok (.dup, 1)) : Snd tb M pc (oDup (pc + 1)) := by
  refine ⟨xmo_oDup _, ?_⟩
  intro l G p e R s m args below meth c u0 uF rF Q C ls st u act h
  unfold oDup at h
  split at h
  · split at h
    next hc =>
      simp only [xgo, Option.some.injEq] at h
      subst h
      exact ⟨xle.rf _, fun _ k lsA H locs hL hH hS h1 => lv_dup C.1 C.2.1 hd (xc1_tr hc) (k lsA H locs hL hH hS h1)⟩
    next => cases h
  · cases h
theorem snd_pop {tb : Nat → xM} {M : xM} {pc : Nat} (hd : decode (mC M) pc = .ok (.pop, 1)) : Snd tb M pc (oPop (pc + 1)) := by
  refine ⟨xmo_oPop _, ?_⟩
  intro l G p e R s m args below meth c u0 uF rF Q C ls st u act h
  unfold oPop at h
  split at h
  · split at h
    next hc =>
      simp only [xgo, Option.some.injEq] at h
      subst h
      exact ⟨xle.rf _, fun _ k lsA H locs hL hH hS h1 => lv_pop C.1 C.2.1 hd (xc1_tr hc) (k lsA H locs hL hH hS h1)⟩
    next => cases h
  · cases h
theorem snd_dup2 {tb : Nat → xM} {M : xM} {pc : Nat} (hd : decode (mC M) pc = .ok (.dup2, 1)) : Snd tb M pc (oDup2 (pc + 1)) := by
  refine ⟨xmo_oDup2 _, ?_⟩
  intro l G p e R s m args below meth c u0 uF rF Q C ls st u act h
  unfold oDup2 at h
  split at h
  · split at h
    next hc =>
      simp only [xgo, Option.some.injEq] at h
      subst h
      exact ⟨xle.rf _, fun _ k lsA H locs hL hH hS h1 => lv_dup2_11 C.1 C.2.1 hd (xc1_tr hc.1) (xc1_tr hc.2) (k lsA H locs hL hH hS h1)⟩
    next => cases h
  · cases h
theorem snd_if_eq {tb : Nat → xM} {M : xM} {pc : Nat} {off : Int} {t : Nat} (hd : decode (mC M) pc = .ok (.ifCond .eq off, 3)) (ht : (pc : Int) + off = (t : Int)) : Snd tb M pc (oIf (fun x => decide (x = 0)) t (pc + 3)) := by
  refine ⟨xmo_oIf _ _ _, ?_⟩
  intro l G p e R s m args below meth c u0 uF rF Q C ls st u act h
  unfold oIf at h
  split at h
  · split at h
    next hc =>
      have hc := of_decide_eq_true hc
      simp only [xgo, Option.some.injEq] at h
      subst h
      exact ⟨xle.rf _, fun _ k lsA H locs hL hH hS h1 => lv_if_eq C.1 C.2.1 hd ht (fun _ => k lsA H locs hL hH hS h1) (fun q => absurd hc q)⟩
    next hc =>
      have hc := of_decide_eq_false (Bool.eq_false_iff.mpr hc)
      simp only [xgo, Option.some.injEq] at h
      subst h
      exact ⟨xle.rf _, fun _ k lsA H locs hL hH hS h1 => lv_if_eq C.1 C.2.1 hd ht (fun q => absurd q hc) (fun _ => k lsA H locs hL hH hS h1)⟩
  · cases h
theorem snd_cmp_eq {tb : Nat → xM} {M : xM} {pc : Nat} {off : Int} {t : Nat} (hd : decode (mC M) pc = .ok (.if_icmp .eq off, 3)) (ht : (pc : Int) + off = (t : Int)) : Snd tb M pc (oCmp (fun x y => decide (x = y)) t (pc + 3)) := by
  refine ⟨xmo_oCmp _ _ _, ?_⟩
  intro l G p e R s m args below meth c u0 uF rF Q C ls st u act h
  unfold oCmp at h
  split at h
  · split at h
    next hc =>
      have hc := of_decide_eq_true hc
      simp only [xgo, Option.some.injEq] at h
      subst h
      exact ⟨xle.rf _, fun _ k lsA H locs hL hH hS h1 => lv_icmp_eq C.1 C.2.1 hd ht (fun _ => k lsA H locs hL hH hS h1) (fun q => absurd hc q)⟩
    next hc =>
      have hc := of_decide_eq_false (Bool.eq_false_iff.mpr hc)
      simp only [xgo, Option.some.injEq] at h
      subst h
      exact ⟨xle.rf _, fun _ k lsA H locs hL hH hS h1 => lv_icmp_eq C.1 C.2.1 hd ht (fun q => absurd q hc) (fun _ => k lsA H locs hL hH hS h1)⟩
  · cases h
theorem snd_if_ne {tb : Nat → xM} {M : xM} {pc : Nat} {off : Int} {t : Nat} (hd : decode (mC M) pc = .ok (.ifCond .ne off, 3)) (ht : (pc : Int) + off = (t : Int)) : Snd tb M pc (oIf (fun x => decide (¬ x = 0)) t (pc + 3)) := by
  refine ⟨xmo_oIf _ _ _, ?_⟩
  intro l G p e R s m args below meth c u0 uF rF Q C ls st u act h
  unfold oIf at h
  split at h
  · split at h
    next hc =>
      have hc := of_decide_eq_true hc
      simp only [xgo, Option.some.injEq] at h
      subst h
      exact ⟨xle.rf _, fun _ k lsA H locs hL hH hS h1 => lv_if_ne C.1 C.2.1 hd ht (fun _ => k lsA H locs hL hH hS h1) (fun q => absurd q hc)⟩
    next hc =>
      have hc := of_decide_eq_false (Bool.eq_false_iff.mpr hc)
      simp only [xgo, Option.some.injEq] at h
      subst h
      exact ⟨xle.rf _, fun _ k lsA H locs hL hH hS h1 => lv_if_ne C.1 C.2.1 hd ht (fun q => absurd q hc) (fun _ => k lsA H locs hL hH hS h1)⟩
  · cases h
theorem snd_cmp_ne {tb : Nat → xM} {M : xM} {pc : Nat} {off : Int} {t : Nat} (hd : decode (mC M) pc = .ok (.if_icmp .ne off, 3)) (ht : (pc : Int) + off = (t : Int)) : Snd tb M pc (oCmp (fun x y => decide (¬ x = y)) t (pc + 3)) := by
  refine ⟨xmo_oCmp _ _ _, ?_⟩
  intro l G p e R s m args below meth c u0 uF rF Q C ls st u act h
  unfold oCmp at h
  split at h
  · split at h
    next hc =>
      have hc := of_decide_eq_true hc
      simp only [xgo, Option.some.injEq] at h
      subst h
      exact ⟨xle.rf _, fun _ k lsA H locs hL hH hS h1 => lv_icmp_ne C.1 C.2.1 hd ht (fun _ => k lsA H locs hL hH hS h1) (fun q => absurd q hc)⟩
    next hc =>
      have hc := of_decide_eq_false (Bool.eq_false_iff.mpr hc)
      simp only [xgo, Option.some.injEq] at h
      subst h
      exact ⟨xle.rf _, fun _ k lsA H locs hL hH hS h1 => lv_icmp_ne C.1 C.2.1 hd ht (fun q => absurd q hc) (fun _ => k lsA H locs hL hH hS h1)⟩
  · cases h
theorem snd_if_lt {tb : Nat → xM} {M : xM} {pc : Nat} {off : Int} {t : Nat} (hd : decode (mC M) pc = .ok (.ifCond .lt off, 3)) (ht : (pc : Int) + off = (t : Int)) : Snd tb M pc (oIf (fun x => decide (x < 0)) t (pc + 3)) := by
  refine ⟨xmo_oIf _ _ _, ?_⟩
  intro l G p e R s m args below meth c u0 uF rF Q C ls st u act h
  unfold oIf at h
  split at h
  · split at h
    next hc =>
      have hc := of_decide_eq_true hc
      simp only [xgo, Option.some.injEq] at h
      subst h
      exact ⟨xle.rf _, fun _ k lsA H locs hL hH hS h1 => lv_if_lt C.1 C.2.1 hd ht (fun _ => k lsA H locs hL hH hS h1) (fun q => absurd hc q)⟩
    next hc =>
      have hc := of_decide_eq_false (Bool.eq_false_iff.mpr hc)
      simp only [xgo, Option.some.injEq] at h
      subst h
      exact ⟨xle.rf _, fun _ k lsA H locs hL hH hS h1 => lv_if_lt C.1 C.2.1 hd ht (fun q => absurd q hc) (fun _ => k lsA H locs hL hH hS h1)⟩
  · cases h
theorem snd_cmp_lt {tb : Nat → xM} {M : xM} {pc : Nat} {off : Int} {t : Nat} (hd : decode (mC M) pc = .ok (.if_icmp .lt off, 3)) (ht : (pc : Int) + off = (t : Int)) : Snd tb M pc (oCmp (fun x y => decide (x < y)) t (pc + 3)) := by
  refine ⟨xmo_oCmp _ _ _, ?_⟩
  intro l G p e R s m args below meth c u0 uF rF Q C ls st u act h
  unfold oCmp at h
  split at h
  · split at h
    next hc =>
      have hc := of_decide_eq_true hc
      simp only [xgo, Option.some.injEq] at h
      subst h
      exact ⟨xle.rf _, fun _ k lsA H locs hL hH hS h1 => lv_icmp_lt C.1 C.2.1 hd ht (fun _ => k lsA H locs hL hH hS h1) (fun q => absurd hc q)⟩
    next hc =>
      have hc := of_decide_eq_false (Bool.eq_false_iff.mpr hc)
      simp only [xgo, Option.some.injEq] at h
      subst h
      exact ⟨xle.rf _, fun _ k lsA H locs hL hH hS h1 => lv_icmp_lt C.1 C.2.1 hd ht (fun q => absurd q hc) (fun _ => k lsA H locs hL hH hS h1)⟩
  · cases h
theorem snd_if_ge {tb : Nat → xM} {M : xM} {pc : Nat} {off : Int} {t : Nat} (hd : decode (mC M) pc = .ok (.ifCond .ge off, 3)) (ht : (pc : Int) + off = (t : Int)) : Snd tb M pc (oIf (fun x => decide (0 ≤ x)) t (pc + 3)) := by
  refine ⟨xmo_oIf _ _ _, ?_⟩
  intro l G p e R s m args below meth c u0 uF rF Q C ls st u act h
  unfold oIf at h
  split at h
  · split at h
    next hc =>
      have hc := of_decide_eq_true hc
      simp only [xgo, Option.some.injEq] at h
      subst h
      exact ⟨xle.rf _, fun _ k lsA H locs hL hH hS h1 => lv_if_ge C.1 C.2.1 hd ht (fun _ => k lsA H locs hL hH hS h1) (fun q => absurd hc q)⟩
    next hc =>
      have hc := of_decide_eq_false (Bool.eq_false_iff.mpr hc)
      simp only [xgo, Option.some.injEq] at h
      subst h
      exact ⟨xle.rf _, fun _ k lsA H locs hL hH hS h1 => lv_if_ge C.1 C.2.1 hd ht (fun q => absurd q hc) (fun _ => k lsA H locs hL hH hS h1)⟩
  · cases h
theorem snd_cmp_ge {tb : Nat → xM} {M : xM} {pc : Nat} {off : Int} {t : Nat} (hd : decode (mC M) pc = .ok (.if_icmp .ge off, 3)) (ht : (pc : Int) + off = (t : Int)) : Snd tb M pc (oCmp (fun x y => decide (y ≤ x)) t (pc + 3)) := by
  refine ⟨xmo_oCmp _ _ _, ?_⟩
  intro l G p e R s m args below meth c u0 uF rF Q C ls st u act h
  unfold oCmp at h
  split at h
  · split at h
    next hc =>
      have hc := of_decide_eq_true hc
      simp only [xgo, Option.some.injEq] at h
      subst h
      exact ⟨xle.rf _, fun _ k lsA H locs hL hH hS h1 => lv_icmp_ge C.1 C.2.1 hd ht (fun _ => k lsA H locs hL hH hS h1) (fun q => absurd hc q)⟩
    next hc =>
      have hc := of_decide_eq_false (Bool.eq_false_iff.mpr hc)
      simp only [xgo, Option.some.injEq] at h
      subst h
      exact ⟨xle.rf _, fun _ k lsA H locs hL hH hS h1 => lv_icmp_ge C.1 C.2.1 hd ht (fun q => absurd q hc) (fun _ => k lsA H locs hL hH hS h1)⟩
  · cases h
theorem snd_if_gt {tb : Nat → xM} {M : xM} {pc : Nat} {off : Int} {t : Nat} (hd : decode (mC M) pc = .ok (.ifCond .gt off, 3)) (ht : (pc : Int) + off = (t : Int)) : Snd tb M pc (oIf (fun x => decide (0 < x)) t (pc + 3)) := by
  refine ⟨xmo_oIf _ _ _, ?_⟩
  intro l G p e R s m args below meth c u0 uF rF Q C ls st u act h
  unfold oIf at h
  split at h
  · split at h
    next hc =>
      have hc := of_decide_eq_true hc
      simp only [xgo, Option.some.injEq] at h
      subst h
      exact ⟨xle.rf _, fun _ k lsA H locs hL hH hS h1 => lv_if_gt C.1 C.2.1 hd ht (fun _ => k lsA H locs hL hH hS h1) (fun q => absurd hc q)⟩
    next hc =>
      have hc := of_decide_eq_false (Bool.eq_false_iff.mpr hc)
      simp only [xgo, Option.some.injEq] at h
      subst h
      exact ⟨xle.rf _, fun _ k lsA H locs hL hH hS h1 => lv_if_gt C.1 C.2.1 hd ht (fun q => absurd q hc) (fun _ => k lsA H locs hL hH hS h1)⟩
  · cases h
theorem snd_cmp_gt {tb : Nat → xM} {M : xM} {pc : Nat} {off : Int} {t : Nat} (hd : decode (mC M) pc = .ok (.if_icmp .gt off, 3)) (ht : (pc : Int) + off = (t : Int)) : Snd tb M pc (oCmp (fun x y => decide (y < x)) t (pc + 3)) := by
  refine ⟨xmo_oCmp _ _ _, ?_⟩
  intro l G p e R s m args below meth c u0 uF rF Q C ls st u act h
  unfold oCmp at h
  split at h
  · split at h
    next hc =>
      have hc := of_decide_eq_true hc
      simp only [xgo, Option.some.injEq] at h
      subst h
      exact ⟨xle.rf _, fun _ k lsA H locs hL hH hS h1 => lv_icmp_gt C.1 C.2.1 hd ht (fun _ => k lsA H locs hL hH hS h1) (fun q => absurd hc q)⟩
    next hc =>
      have hc := of_decide_eq_false (Bool.eq_false_iff.mpr hc)
      simp only [xgo, Option.some.injEq] at h
      subst h
      exact ⟨xle.rf _, fun _ k lsA H locs hL hH hS h1 => lv_icmp_gt C.1 C.2.1 hd ht (fun q => absurd q hc) (fun _ => k lsA H locs hL hH hS h1)⟩
  · cases h
theorem snd_if_le {tb : Nat → xM} {M : xM} {pc : Nat} {off : Int} {t : Nat} (hd : decode (mC M) pc = .ok (.ifCond .le off, 3)) (ht : (pc : Int) + off = (t : Int)) : Snd tb M pc (oIf (fun x => decide (x ≤ 0)) t (pc + 3)) := by
  refine ⟨xmo_oIf _ _ _, ?_⟩
  intro l G p e R s m args below meth c u0 uF rF Q C ls st u act h
  unfold oIf at h
  split at h
  · split at h
    next hc =>
      have hc := of_decide_eq_true hc
      simp only [xgo, Option.some.injEq] at h
      subst h
      exact ⟨xle.rf _, fun _ k lsA H locs hL hH hS h1 => lv_if_le C.1 C.2.1 hd ht (fun _ => k lsA H locs hL hH hS h1) (fun q => absurd hc q)⟩
    next hc =>
      have hc := of_decide_eq_false (Bool.eq_false_iff.mpr hc)
      simp only [xgo, Option.some.injEq] at h
      subst h
      exact ⟨xle.rf _, fun _ k lsA H locs hL hH hS h1 => lv_if_le C.1 C.2.1 hd ht (fun q => absurd q hc) (fun _ => k lsA H locs hL hH hS h1)⟩
  · cases h
theorem snd_cmp_le {tb : Nat → xM} {M : xM} {pc : Nat} {off : Int} {t : Nat} (hd : decode (mC M) pc = .ok (.if_icmp .le off, 3)) (ht : (pc : Int) + off = (t : Int)) : Snd tb M pc (oCmp (fun x y => decide (x ≤ y)) t (pc + 3)) := by
  refine ⟨xmo_oCmp _ _ _, ?_⟩
  intro l G p e R s m args below meth c u0 uF rF Q C ls st u act h
  unfold oCmp at h
  split at h
  · split at h
    next hc =>
      have hc := of_decide_eq_true hc
      simp only [xgo, Option.some.injEq] at h
      subst h
      exact ⟨xle.rf _, fun _ k lsA H locs hL hH hS h1 => lv_icmp_le C.1 C.2.1 hd ht (fun _ => k lsA H locs hL hH hS h1) (fun q => absurd hc q)⟩
    next hc =>
      have hc := of_decide_eq_false (Bool.eq_false_iff.mpr hc)
      simp only [xgo, Option.some.injEq] at h
      subst h
      exact ⟨xle.rf _, fun _ k lsA H locs hL hH hS h1 => lv_icmp_le C.1 C.2.1 hd ht (fun q => absurd q hc) (fun _ => k lsA H locs hL hH hS h1)⟩
  · cases h
