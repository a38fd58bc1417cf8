/-! the operations on memory say what the instructions do -/
def xint : FieldType → Bool
  | .long => false
  | .array _ => false
  | .object _ => false
  | .float => false
  | .double => false
  | _ => true
def xref : FieldType → Bool
  | .array _ => true
  | .object _ => true
  | _ => false
theorem xfv_int {G : xG} {u : xMem} {i k : Nat} {ty : FieldType} (h : xint ty = true) : xfv G u i k ty = .int (xI u i k) := by cases ty <;> first | rfl | cases h
theorem xfv_ref {G : xG} {u : xMem} {i k : Nat} {ty : FieldType} (h : xref ty = true) : xfv G u i k ty = va_rf ((xR u i k).map (gad G)) := by cases ty <;> first | rfl | cases h
theorem xhold_at {G : xG} {u : xMem} {H : Heap} {a c : Nat} (ha : a < xW u ∧ xK u a = c) (hc : c < 12) : (xwl G u)[a]? = some (gad G a, .inr (c, xfs G u a c)) := by
  rw [xwl_get ha.1, xent_o ha.2 hc]
theorem xhold_sI {G : xG} {u : xMem} {H : Heap} {a k : Nat} {v : Int32} (h : xHold G u H) {H1 : Heap} {e : va_E} (ha : a < xW u) (he : xent G (xsI u a k v) a = e) (hP : va_P (gD G) vwCl ((xwl G u).set a (gad G a, e)) H1) : xHold G (xsI u a k v) H1 := by
  have hW := h.2.1
  refine ⟨?_, hW, h.2.2.1, fun j => ?_⟩
  · rw [xwl_set (u := u) (u' := xsI u a k v) rfl (fun j => ?_)] at hP
    · exact hP
    · by_cases hj : j = a
      · subst hj
        rw [if_pos rfl, he]
      · rw [if_neg hj]
        exact xent_ne rfl rfl (fun q => by rw [xI_sI, if_neg (fun z => hj z.1)]) (fun _ => rfl) (fun _ => rfl)
  · rw [xI_sI, if_neg (fun z => by have := z.1; omega)]
    exact h.2.2.2 j
theorem xhold_sJ {G : xG} {u : xMem} {H : Heap} {a k : Nat} {v : Int64} (h : xHold G u H) {H1 : Heap} {e : va_E} (ha : a < xW u) (he : xent G (xsJ u a k v) a = e) (hP : va_P (gD G) vwCl ((xwl G u).set a (gad G a, e)) H1) : xHold G (xsJ u a k v) H1 := by
  have hW := h.2.1
  refine ⟨?_, hW, h.2.2.1, h.2.2.2⟩
  rw [xwl_set (u := u) (u' := xsJ u a k v) rfl (fun j => ?_)] at hP
  · exact hP
  · by_cases hj : j = a
    · subst hj
      rw [if_pos rfl, he]
    · rw [if_neg hj]
      exact xent_ne rfl rfl (fun _ => rfl) (fun q => by rw [xJ_sJ, if_neg (fun z => hj z.1)]) (fun _ => rfl)
theorem xhold_sR {G : xG} {u : xMem} {H : Heap} {a k : Nat} {v : Option Nat} (h : xHold G u H) {H1 : Heap} {e : va_E} (ha : a < xW u) (he : xent G (xsR u a k v) a = e) (hP : va_P (gD G) vwCl ((xwl G u).set a (gad G a, e)) H1) : xHold G (xsR u a k v) H1 := by
  have hW := h.2.1
  refine ⟨?_, hW, h.2.2.1, h.2.2.2⟩
  rw [xwl_set (u := u) (u' := xsR u a k v) rfl (fun j => ?_)] at hP
  · exact hP
  · by_cases hj : j = a
    · subst hj
      rw [if_pos rfl, he]
    · rw [if_neg hj]
      exact xent_ne rfl rfl (fun _ => rfl) (fun _ => rfl) (fun q => by rw [xR_sR, if_neg (fun z => hj z.1)])
theorem xfs_sI {G : xG} {u : xMem} {a k c : Nat} {v : Int32} (ht : xint (xty c k) = true) : (xfs G u a c).set k (.int v) = xfs G (xsI u a k v) a c := by
  refine xfs_set fun j => ?_
  by_cases hj : j = k
  · subst hj
    rw [if_pos rfl, xfv_int ht, xI_sI, if_pos ⟨rfl, rfl⟩]
  · rw [if_neg hj]
    cases xty c j <;> first | rfl | (show Value.int _ = Value.int _; rw [xI_sI, if_neg (fun z => hj z.2)])
theorem xfs_sJ {G : xG} {u : xMem} {a k c : Nat} {v : Int64} (ht : xty c k = .long) : (xfs G u a c).set k (.long v) = xfs G (xsJ u a k v) a c := by
  refine xfs_set fun j => ?_
  by_cases hj : j = k
  · subst hj
    rw [if_pos rfl, ht]
    show Value.long _ = _
    rw [xJ_sJ, if_pos ⟨rfl, rfl⟩]
  · rw [if_neg hj]
    cases xty c j <;> first | rfl | (show Value.long _ = Value.long _; rw [xJ_sJ, if_neg (fun z => hj z.2)])
theorem xfs_sR {G : xG} {u : xMem} {a k c : Nat} {v : Option Nat} (ht : xref (xty c k) = true) : (xfs G u a c).set k (va_rf (v.map (gad G))) = xfs G (xsR u a k v) a c := by
  refine xfs_set fun j => ?_
  by_cases hj : j = k
  · subst hj
    rw [if_pos rfl, xfv_ref ht, xR_sR, if_pos ⟨rfl, rfl⟩]
  · rw [if_neg hj]
    cases xty c j <;> first | rfl | (show va_rf _ = va_rf _; rw [xR_sR, if_neg (fun z => hj z.2)])
section
variable {tb : Nat → xM} {M : xM} {pc : Nat}
theorem snd_getI {ci k idx : Nat} (hc : ci < 12) (hk : k < xnf ci) (ht : xint (xty ci k) = true) (hl : Cond.fieldLink (mY M).cls idx (xct ci k).1 (xct ci k).2.1 (xct ci k).2.2.1 ∈ xgood) (hd : decode (mC M) pc = .ok (.getfield idx, 3)) : Snd tb M pc (oGI ci k (pc + 3)) := by
  refine ⟨xmo_oGI _ _ _, ?_⟩
  intro l G p e R s m args below meth c u0 uF rF Q C ls st u act h
  unfold oGI at h
  split at h
  · split at h
    next ha =>
      simp only [xgo, Option.some.injEq] at h
      subst h
      refine ⟨xle.rf _, fun _ kk lsA H locs hL hH hS h1 => ?_⟩
      exact va_get C.1 C.2.1 C.2.2.2.2.1 (fun w h => List.mem_cons_of_mem _ (xlay_ok hc w h)) C.2.2.2.1 C.2.2.2.2.2.2.2.1.1.2.2.1 hH.1 _ (xhold_at (H := H) ha hc) (xcl_at hc) k hk (C.2.2.2.2.1 _ (List.mem_cons_of_mem _ hl)) (fun _ h => h) (v := .int (xI u _ k)) (by rw [xfs_get hk, xfv_int ht]) hd (kk lsA H locs hL hH hS h1)
    next => cases h
  · cases h
theorem snd_getJ {ci k idx : Nat} (hc : ci < 12) (hk : k < xnf ci) (ht : xty ci k = .long) (hl : Cond.fieldLink (mY M).cls idx (xct ci k).1 (xct ci k).2.1 (xct ci k).2.2.1 ∈ xgood) (hd : decode (mC M) pc = .ok (.getfield idx, 3)) : Snd tb M pc (oGJ ci k (pc + 3)) := by
  refine ⟨xmo_oGJ _ _ _, ?_⟩
  intro l G p e R s m args below meth c u0 uF rF Q C ls st u act h
  unfold oGJ at h
  split at h
  · split at h
    next ha =>
      simp only [xgo, Option.some.injEq] at h
      subst h
      refine ⟨xle.rf _, fun _ kk lsA H locs hL hH hS h1 => ?_⟩
      exact va_get C.1 C.2.1 C.2.2.2.2.1 (fun w h => List.mem_cons_of_mem _ (xlay_ok hc w h)) C.2.2.2.1 C.2.2.2.2.2.2.2.1.1.2.2.1 hH.1 _ (xhold_at (H := H) ha hc) (xcl_at hc) k hk (C.2.2.2.2.1 _ (List.mem_cons_of_mem _ hl)) (fun _ h => h) (v := .long (xJ u _ k)) (by rw [xfs_get hk, ht]; rfl) hd (kk lsA H locs hL hH hS h1)
    next => cases h
  · cases h
theorem snd_getR {ci k idx : Nat} (hc : ci < 12) (hk : k < xnf ci) (ht : xref (xty ci k) = true) (hl : Cond.fieldLink (mY M).cls idx (xct ci k).1 (xct ci k).2.1 (xct ci k).2.2.1 ∈ xgood) (hd : decode (mC M) pc = .ok (.getfield idx, 3)) : Snd tb M pc (oGR ci k (pc + 3)) := by
  refine ⟨xmo_oGR _ _ _, ?_⟩
  intro l G p e R s m args below meth c u0 uF rF Q C ls st u act h
  unfold oGR at h
  split at h
  · split at h
    next ha =>
      split at h
      next b hb =>
        simp only [xgo, Option.some.injEq] at h
        subst h
        refine ⟨xle.rf _, fun _ kk lsA H locs hL hH hS h1 => ?_⟩
        exact va_get C.1 C.2.1 C.2.2.2.2.1 (fun w h => List.mem_cons_of_mem _ (xlay_ok hc w h)) C.2.2.2.1 C.2.2.2.2.2.2.2.1.1.2.2.1 hH.1 _ (xhold_at (H := H) ha hc) (xcl_at hc) k hk (C.2.2.2.2.1 _ (List.mem_cons_of_mem _ hl)) (fun _ h => h) (v := .ref (gad G b)) (by rw [xfs_get hk, xfv_ref ht, hb]; rfl) hd (kk lsA H locs hL hH hS h1)
      next => cases h
    next => cases h
  · cases h
/-- a put of v: what is needed of the field -/
theorem snd_putI {ci k idx : Nat} (hc : ci < 12) (hk : k < xnf ci) (ht : xty ci k = .int) (hfin : (xct ci k).2.2.2 = false) (hl : Cond.fieldLink (mY M).cls idx (xct ci k).1 (xct ci k).2.1 (xct ci k).2.2.1 ∈ xgood) (hd : decode (mC M) pc = .ok (.putfield idx, 3)) : Snd tb M pc (oPI ci k (pc + 3)) := by
  refine ⟨xmo_oPI _ _ _, ?_⟩
  intro l G p e R s m args below meth c u0 uF rF Q C ls st u act h
  unfold oPI at h
  split at h
  · split at h
    next ha =>
      simp only [xgo, Option.some.injEq] at h
      subst h
      refine ⟨xle.rf _, fun _ kk lsA H locs hL hH hS h1 => ?_⟩
      refine va_put C.1 C.2.1 C.2.2.2.2.1 (fun w h => List.mem_cons_of_mem _ (xlay_ok hc w h)) (xty ci) (xty_ok hc) (xnm_ok hc) C.2.2.2.1 C.2.2.2.2.2.2.2.1.1.2.2.1 hH.1 (xwl_D C.2.2.2.2.2.2.2.1.1.1 hH.2.1) hS _ (xhold_at (H := H) ha hc) (xcl_at hc) k hk (C.2.2.2.2.1 _ (List.mem_cons_of_mem _ hl)) (fun _ h => h) hfin (ty := .int) (by rw [xty_ok hc k hk, ht]) rfl rfl (by rw [xfs_len]; exact hk) hd (fun H1 locs1 hP1 hD1 hS1 => kk lsA H1 locs1 hL ?_ hS1 h1)
      exact xhold_sI hH ha.1 ((xent_o (u := xsI u _ k _) (c := ci) ha.2 hc).trans (by rw [← xfs_sI (by rw [ht]; rfl)]; rfl)) hP1
    next => cases h
  · cases h
theorem snd_putZ {ci k idx : Nat} (hc : ci < 12) (hk : k < xnf ci) (ht : xty ci k = .boolean) (hfin : (xct ci k).2.2.2 = false) (hl : Cond.fieldLink (mY M).cls idx (xct ci k).1 (xct ci k).2.1 (xct ci k).2.2.1 ∈ xgood) (hd : decode (mC M) pc = .ok (.putfield idx, 3)) : Snd tb M pc (oPZ ci k (pc + 3)) := by
  refine ⟨xmo_oPZ _ _ _, ?_⟩
  intro l G p e R s m args below meth c u0 uF rF Q C ls st u act h
  unfold oPZ at h
  split at h
  · split at h
    next hh =>
      obtain ⟨ha, hx⟩ := hh
      simp only [xgo, Option.some.injEq] at h
      subst h
      refine ⟨xle.rf _, fun _ kk lsA H locs hL hH hS h1 => ?_⟩
      refine va_put C.1 C.2.1 C.2.2.2.2.1 (fun w h => List.mem_cons_of_mem _ (xlay_ok hc w h)) (xty ci) (xty_ok hc) (xnm_ok hc) C.2.2.2.1 C.2.2.2.2.2.2.2.1.1.2.2.1 hH.1 (xwl_D C.2.2.2.2.2.2.2.1.1.1 hH.2.1) hS _ (xhold_at (H := H) ha hc) (xcl_at hc) k hk (C.2.2.2.2.1 _ (List.mem_cons_of_mem _ hl)) (fun _ h => h) hfin (ty := .boolean) (by rw [xty_ok hc k hk, ht]) (by rcases hx with rfl | rfl <;> rfl) (by rcases hx with rfl | rfl <;> rfl) (by rw [xfs_len]; exact hk) hd (fun H1 locs1 hP1 hD1 hS1 => kk lsA H1 locs1 hL ?_ hS1 h1)
      exact xhold_sI hH ha.1 ((xent_o (u := xsI u _ k _) (c := ci) ha.2 hc).trans (by rw [← xfs_sI (by rw [ht]; rfl)]; rfl)) hP1
    next => cases h
  · cases h
theorem snd_putJ {ci k idx : Nat} (hc : ci < 12) (hk : k < xnf ci) (ht : xty ci k = .long) (hfin : (xct ci k).2.2.2 = false) (hl : Cond.fieldLink (mY M).cls idx (xct ci k).1 (xct ci k).2.1 (xct ci k).2.2.1 ∈ xgood) (hd : decode (mC M) pc = .ok (.putfield idx, 3)) : Snd tb M pc (oPJ ci k (pc + 3)) := by
  refine ⟨xmo_oPJ _ _ _, ?_⟩
  intro l G p e R s m args below meth c u0 uF rF Q C ls st u act h
  unfold oPJ at h
  split at h
  · split at h
    next ha =>
      simp only [xgo, Option.some.injEq] at h
      subst h
      refine ⟨xle.rf _, fun _ kk lsA H locs hL hH hS h1 => ?_⟩
      refine va_put C.1 C.2.1 C.2.2.2.2.1 (fun w h => List.mem_cons_of_mem _ (xlay_ok hc w h)) (xty ci) (xty_ok hc) (xnm_ok hc) C.2.2.2.1 C.2.2.2.2.2.2.2.1.1.2.2.1 hH.1 (xwl_D C.2.2.2.2.2.2.2.1.1.1 hH.2.1) hS _ (xhold_at (H := H) ha hc) (xcl_at hc) k hk (C.2.2.2.2.1 _ (List.mem_cons_of_mem _ hl)) (fun _ h => h) hfin (ty := .long) (by rw [xty_ok hc k hk, ht]) rfl rfl (by rw [xfs_len]; exact hk) hd (fun H1 locs1 hP1 hD1 hS1 => kk lsA H1 locs1 hL ?_ hS1 h1)
      exact xhold_sJ hH ha.1 ((xent_o (u := xsJ u _ k _) (c := ci) ha.2 hc).trans (by rw [← xfs_sJ ht]; rfl)) hP1
    next => cases h
  · cases h
theorem xref_fit {ty : FieldType} (h : xref ty = true) (a : Nat) : narrow ty (.ref a) = .ref a ∧ fits ty (.ref a) = true := by cases ty <;> first | exact ⟨rfl, rfl⟩ | cases h
theorem snd_putR {ci k idx : Nat} (hc : ci < 12) (hk : k < xnf ci) (ht : xref (xty ci k) = true) (hfin : (xct ci k).2.2.2 = false) (hl : Cond.fieldLink (mY M).cls idx (xct ci k).1 (xct ci k).2.1 (xct ci k).2.2.1 ∈ xgood) (hd : decode (mC M) pc = .ok (.putfield idx, 3)) : Snd tb M pc (oPR ci k (pc + 3)) := by
  refine ⟨xmo_oPR _ _ _, ?_⟩
  intro l G p e R s m args below meth c u0 uF rF Q C ls st u act h
  unfold oPR at h
  split at h
  · split at h
    next ha =>
      simp only [xgo, Option.some.injEq] at h
      subst h
      refine ⟨xle.rf _, fun _ kk lsA H locs hL hH hS h1 => ?_⟩
      refine va_put C.1 C.2.1 C.2.2.2.2.1 (fun w h => List.mem_cons_of_mem _ (xlay_ok hc w h)) (xty ci) (xty_ok hc) (xnm_ok hc) C.2.2.2.1 C.2.2.2.2.2.2.2.1.1.2.2.1 hH.1 (xwl_D C.2.2.2.2.2.2.2.1.1.1 hH.2.1) hS _ (xhold_at (H := H) ha hc) (xcl_at hc) k hk (C.2.2.2.2.1 _ (List.mem_cons_of_mem _ hl)) (fun _ h => h) hfin (ty := xty ci k) (xty_ok hc k hk) (xref_fit ht _).1 (xref_fit ht _).2 (by rw [xfs_len]; exact hk) hd (fun H1 locs1 hP1 hD1 hS1 => kk lsA H1 locs1 hL ?_ hS1 h1)
      exact xhold_sR hH ha.1 ((xent_o (u := xsR u _ k _) (c := ci) ha.2 hc).trans (by rw [← xfs_sR ht]; rfl)) hP1
    next => cases h
  · cases h
/-- .. of a final field, in a constructor -/
theorem snd_putRF {ci k idx : Nat} (hc : ci < 12) (hk : k < xnf ci) (ht : xref (xty ci k) = true) (hfin : (xct ci k).2.2.2 = true) (hin : (mY M).name = "<init>") (hdc : (xct ci k).1 = (mY M).cls) (hl : Cond.fieldLink (mY M).cls idx (xct ci k).1 (xct ci k).2.1 (xct ci k).2.2.1 ∈ xgood) (hd : decode (mC M) pc = .ok (.putfield idx, 3)) : Snd tb M pc (oPR ci k (pc + 3)) := by
  refine ⟨xmo_oPR _ _ _, ?_⟩
  intro l G p e R s m args below meth c u0 uF rF Q C ls st u act h
  unfold oPR at h
  split at h
  · split at h
    next ha =>
      simp only [xgo, Option.some.injEq] at h
      subst h
      refine ⟨xle.rf _, fun _ kk lsA H locs hL hH hS h1 => ?_⟩
      refine va_putF C.1 C.2.1 C.2.2.2.2.1 (fun w h => List.mem_cons_of_mem _ (xlay_ok hc w h)) (xty ci) (xty_ok hc) (xnm_ok hc) C.2.2.2.1 C.2.2.2.2.2.2.2.1.1.2.2.1 hH.1 (xwl_D C.2.2.2.2.2.2.2.1.1.1 hH.2.1) hS _ (xhold_at (H := H) ha hc) (xcl_at hc) k hk (C.2.2.2.2.1 _ (List.mem_cons_of_mem _ hl)) (fun _ h => h) hfin (C.2.2.2.2.2.1 hin) hdc (ty := xty ci k) (xty_ok hc k hk) (xref_fit ht _).1 (xref_fit ht _).2 (by rw [xfs_len]; exact hk) hd (fun H1 locs1 hP1 hD1 hS1 => kk lsA H1 locs1 hL ?_ hS1 h1)
      exact xhold_sR hH ha.1 ((xent_o (u := xsR u _ k _) (c := ci) ha.2 hc).trans (by rw [← xfs_sR ht]; rfl)) hP1
    next => cases h
  · cases h
end
