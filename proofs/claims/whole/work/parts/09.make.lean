/-! making, calls, ends -/
section
variable {p : Program} {l : Launch} {e : Env} {R : Room} {s : State} {m : MethodId} {args : Array Value} {below : List Frame} {meth : Method} {c : Code} {H : Heap} {locs : List Loc} {cells slots : Nat} {Q : State → Prop}
theorem xw_size {g : JFrame} (k : H.size ≤ s.heap.size + cells → W p l e R s m args below meth c H locs cells slots Q g) : W p l e R s m args below meth c H locs cells slots Q g :=
  fun T hT X => k (by rw [← hT]; exact X.heapSize) T hT X
end
theorem xlow {G : xG} {u : xMem} {H : Heap} (had : ∀ i, i < 1000000 → gad G i = gB G + i) (hH : xHold G u H) (h0 : gB G ≤ H.size) : gB G + xW u ≤ H.size := by
  by_cases hz : xW u = 0
  · omega
  · have h1 := (hH.1 (xW u - 1) _ (xwl_get (by omega))).lt
    have hW := hH.2.1
    have e : gad G (xW u - 1) = gB G + (xW u - 1) := had _ (by omega)
    have h1 : gad G (xW u - 1) < H.size := h1
    omega
theorem xfresh {G : xG} {u : xMem} {H1 : Heap} {q : Nat} {ev : va_E} (had : ∀ i, i < 1000000 → gad G i = gB G + i) (hW : xW u < 1000000) (hP : va_P (gD G) vwCl (xwl G u ++ [(q, ev)]) H1) (hD : va_D (xA G) (xwl G u ++ [(q, ev)])) (hz : H1.size ≤ gB G + xW u + 1) : q = gad G (xW u) := by
  have h0 : (xwl G u ++ [(q, ev)])[xW u]? = some (q, ev) := by
    rw [List.getElem?_append_right (by rw [xwl_len]; omega), xwl_len]
    simp
  have h1 : q < H1.size := (hP _ _ h0).lt
  have h2 : gB G ≤ q := hD.2 _ _ h0
  rw [had _ hW]
  by_cases hq : q < gB G + xW u
  · exfalso
    have h3 : (xwl G u ++ [(q, ev)])[q - gB G]? = some (gad G (q - gB G), xent G u (q - gB G)) := by
      rw [List.getElem?_append_left (by rw [xwl_len]; omega), xwl_get (by omega)]
    have h4 := hD.1 _ _ _ _ h0 h3 (by show q = gad G (q - gB G); rw [had _ (by omega)]; omega)
    omega
  · omega
theorem xK_new {u : xMem} {kd n sl b : Nat} : xK (xnew u kd n sl) b = if b = xW u then kd else xK u b := rfl
theorem xN_new {u : xMem} {kd n sl b : Nat} : xN (xnew u kd n sl) b = if b = xW u then n else xN u b := rfl
theorem xI_new {u : xMem} {kd n sl b k : Nat} : xI (xnew u kd n sl) b k = if b = xW u then 0 else xI u b k := by
  show (xu1 u.2.1 (xW u) (fun _ => (0 : Int32))) b k = _
  unfold xu1
  split <;> rfl
theorem xJ_new {u : xMem} {kd n sl b k : Nat} : xJ (xnew u kd n sl) b k = if b = xW u then 0 else xJ u b k := by
  show (xu1 u.2.2.1 (xW u) (fun _ => (0 : Int64))) b k = _
  unfold xu1
  split <;> rfl
theorem xR_new {u : xMem} {kd n sl b k : Nat} : xR (xnew u kd n sl) b k = if b = xW u then none else xR u b k := by
  show (xu1 u.2.2.2.1 (xW u) (fun _ => (none : Option Nat))) b k = _
  unfold xu1
  split <;> rfl
theorem xhold_new {G : xG} {u : xMem} {H H1 : Heap} {kd n sl : Nat} {ev : va_E} (hH : xHold G u H) (hW : xW u < 1000000) (he : xent G (xnew u kd n sl) (xW u) = ev) (hP : va_P (gD G) vwCl (xwl G u ++ [(gad G (xW u), ev)]) H1) : xHold G (xnew u kd n sl) H1 := by
  have e := xwl_push (G := G) (u := u) (u' := xnew u kd n sl) rfl (fun j hj => xent_ne (by rw [xK_new, if_neg (by omega)]) (by rw [xN_new, if_neg (by omega)]) (fun k => by rw [xI_new, if_neg (by omega)]) (fun k => by rw [xJ_new, if_neg (by omega)]) (fun k => by rw [xR_new, if_neg (by omega)])) he
  refine ⟨by rw [e]; exact hP, by show xW u + 1 ≤ 1000000; omega, ?_, fun j => ?_⟩
  · rw [xN_new, if_neg (by omega)]
    exact hH.2.2.1
  · rw [xI_new, if_neg (by omega)]
    exact hH.2.2.2 j
theorem xnew_K {u : xMem} {kd n sl : Nat} : xK (xnew u kd n sl) (xW u) = kd := by rw [xK_new, if_pos rfl]
theorem xnew_N {u : xMem} {kd n sl : Nat} : xN (xnew u kd n sl) (xW u) = n := by rw [xN_new, if_pos rfl]
theorem xnew_I {u : xMem} {kd n sl k : Nat} : xI (xnew u kd n sl) (xW u) k = 0 := by rw [xI_new, if_pos rfl]
theorem xnew_J {u : xMem} {kd n sl k : Nat} : xJ (xnew u kd n sl) (xW u) k = 0 := by rw [xJ_new, if_pos rfl]
theorem xnew_R {u : xMem} {kd n sl k : Nat} : xR (xnew u kd n sl) (xW u) k = none := by rw [xR_new, if_pos rfl]
def xplain : FieldType → Bool
  | .float => false
  | .double => false
  | _ => true
section
variable {tb : Nat → xM} {M : xM} {pc : Nat}
theorem xlive {l : Launch} {G : xG} {p : Program} {e : Env} {R : Room} {s : State} {m : MethodId} {args : Array Value} {below : List Frame} {meth : Method} {c : Code} {u0 uF : xMem} {rF : Option Value} {Q : State → Prop} (C : xCtx l G p e R s m args below meth c M u0 uF rF Q) {u : xMem} (h1 : xle u0 u) (hv : xV u = true) : s.heap.size + (xT u - xT u0) = gB G + xW u := by
  have h2 : xV u0 = true := h1.2.2.1.symm.trans hv
  have h3 := C.2.2.2.2.2.2.2.1.2 h2
  have h4 := h1.2.2.2 h2
  have h5 := h1.1
  omega
theorem snd_new {ci idx : Nat} (hc : ci < 12) (hpl : ∀ k, k < xnf ci → xplain (xty ci k) = true) (hw : ∀ w ∈ [Cond.classLink (mY M).cls idx (xcn ci), .instantiable (xcn ci) (xnf ci), .initialized (xcn ci)], w ∈ xgood) (hd : decode (mC M) pc = .ok (.new idx, 3)) : Snd tb M pc (oNew ci (xnf ci) (pc + 3)) := by
  refine ⟨xmo_oNew _ _ _, ?_⟩
  intro l G p e R s m args below meth c u0 uF rF Q C ls st u act h
  unfold oNew at h
  split at h
  next ha =>
    simp only [xgo, Option.some.injEq] at h
    subst h
    refine ⟨xle_new, fun hF kk lsA H locs hL hH hS h1 => ?_⟩
    have had := C.2.2.2.2.2.2.2.1.1.1
    have hT := h1.1
    have hT2 := h1.2.1
    have hF1 : xT u + 1 ≤ xT uF := hF.1
    have hF2 : xS u + xnf ci ≤ xS uF := hF.2.1
    have hR1 := C.2.2.2.2.2.2.1.2.2.1
    have hR2 := C.2.2.2.2.2.2.1.2.2.2
    have w0 := C.2.2.2.2.1 _ (List.mem_cons_of_mem _ (hw _ (List.mem_cons_self)))
    have w1 := C.2.2.2.2.1 _ (List.mem_cons_of_mem _ (hw (.instantiable (xcn ci) (xnf ci)) (by simp)))
    have w2 := C.2.2.2.2.1 _ (List.mem_cons_of_mem _ (hw (.initialized (xcn ci)) (by simp)))
    refine va_new (fs := xfs G (xnew u ci 0 (xnf ci)) (xW u) ci) C.1 C.2.1 C.2.2.2.2.1 (fun w h => List.mem_cons_of_mem _ (xlay_ok hc w h)) (xty ci) (xty_ok hc) C.2.2.2.1 w0 w1 w2 C.2.2.2.2.2.2.2.1.1.2.2.1 hH.1 (xwl_D had hH.2.1) hS (fun q hq => Nat.le_trans C.2.2.2.2.2.2.2.1.1.2.1 hq) (xcl_at hc) (fun j hj => ?_) (by omega) (by omega) hd (fun q H1 hP1 hD1 hS1 => xw_size (fun hz => ?_))
    · have hp := hpl j hj
      unfold vp_V
      rw [List.getD_eq_getElem?_getD, xfs_get hj]
      show _ = xfv _ _ _ _ _
      cases hty : xty ci j <;> simp only [hty, xfv, xnew_I, xnew_J, xnew_R, defaultValue, Option.map_none] <;> first | rfl | (rw [hty] at hp; cases hp)
    · have hz2 := xlive C h1 ha.1
      have hq := xfresh had ha.2 hP1 hD1 (by omega)
      subst hq
      refine W.cs (cells' := xT (xnew u ci 0 (xnf ci)) - xT u0) (slots' := xS (xnew u ci 0 (xnf ci)) - xS u0) (by show _ = xT u + 1 - xT u0; omega) (by show _ = xS u + xnf ci - xS u0; omega) ?_
      exact kk lsA H1 locs hL (xhold_new hH ha.2 (xent_o xnew_K hc) hP1) hS1 (h1.tr xle_new)
  next => cases h
theorem xnewA_at {G : xG} {kd : Nat} {ty : FieldType} {k : Nat} (hk : (kd = 12 ∧ ty = .byte ∧ k = 0) ∨ (kd = 13 ∧ ty = .int ∧ k = 1) ∨ (kd = 14 ∧ ty = .long ∧ k = 2) ∨ (kd = 15 ∧ ty = .boolean ∧ k = 3)) : (xtys G)[k]? = some (gcy G kd, ty) := by
  rcases hk with ⟨rfl, rfl, rfl⟩ | ⟨rfl, rfl, rfl⟩ | ⟨rfl, rfl, rfl⟩ | ⟨rfl, rfl, rfl⟩ <;> rfl
theorem xsame {G : xG} {s : State} {cA : ClassId} {ty : FieldType} {k : Nat} {cB : ClassId} (hK : va_K (gD G) vwCl (xtys G) s) (hk : (xtys G)[k]? = some (cB, ty)) (hK2 : va_K (gD G) vwCl (xtys G ++ [(cA, ty)]) s) (hty : ∀ C, ty ≠ .object C) : cA = cB := by
  have h1 := (hK.2 k _ hk).2
  have h2 := (hK2.2 5 (cA, ty) rfl).2
  have f1 : s.vm.findClass ("[" ++ ty.toString) = some cB := by cases ty <;> first | exact h1 | exact absurd rfl (hty _)
  have f2 : s.vm.findClass ("[" ++ ty.toString) = some cA := by cases ty <;> first | exact h2 | exact absurd rfl (hty _)
  exact Option.some.inj (f2.symm.trans f1)
theorem xn2000 {n : Int32} (h0 : 0 ≤ n) (h : n ≤ 2000) : ¬ n < 0 ∧ n.toNatClampNeg ≤ 2000 := by
  have a := Int32.le_iff_toInt_le.mp h0
  have b := Int32.le_iff_toInt_le.mp h
  refine ⟨fun q => ?_, ?_⟩
  · have := Int32.lt_iff_toInt_lt.mp q
    omega
  · have e : (2000 : Int32).toInt = 2000 := rfl
    rw [Int32.toNatClampNeg]
    omega
theorem snd_newa {kd k : Nat} {atype : ArrayType} {ty : FieldType} (hty : newarray.typeOf atype = ty) (hk : (kd = 12 ∧ ty = .byte ∧ k = 0) ∨ (kd = 13 ∧ ty = .int ∧ k = 1) ∨ (kd = 14 ∧ ty = .long ∧ k = 2) ∨ (kd = 15 ∧ ty = .boolean ∧ k = 3)) (hw : Cond.arrayClass ty ∈ xgood) (hd : decode (mC M) pc = .ok (.newarray atype, 2)) : Snd tb M pc (oNewA kd (pc + 2)) := by
  refine ⟨xmo_oNewA _ _, ?_⟩
  intro l G p e R s m args below meth c u0 uF rF Q C ls st u act h
  unfold oNewA at h
  split at h
  · split at h
    next n r ha =>
      obtain ⟨ha, hn⟩ := ha
      simp only [xgo, Option.some.injEq] at h
      subst h
      obtain ⟨hn0, hn1⟩ := xn2000 hn.1 hn.2
      refine ⟨xle_new, fun hF kk lsA H locs hL hH hS h1 => ?_⟩
      have had := C.2.2.2.2.2.2.2.1.1.1
      have hT := h1.1
      have hT2 := h1.2.1
      have hF1 : xT u + 1 ≤ xT uF := hF.1
      have hF2 : xS u + n.toNatClampNeg ≤ xS uF := hF.2.1
      have hR1 := C.2.2.2.2.2.2.1.2.2.1
      have hR2 := C.2.2.2.2.2.2.1.2.2.2
      have hKK := C.2.2.2.2.2.2.2.1.1.2.2.1
      have w0 := C.2.2.2.2.1 _ (List.mem_cons_of_mem _ hw)
      rw [← hty] at w0
      have hcb : n.toNatClampNeg * componentBytes ty ≤ 536870912 := by
        have : componentBytes ty ≤ 8 := by rcases hk with ⟨-, rfl, -⟩ | ⟨-, rfl, -⟩ | ⟨-, rfl, -⟩ | ⟨-, rfl, -⟩ <;> decide
        have := Nat.mul_le_mul hn1 this
        omega
      have hno : ∀ C, ty ≠ .object C := by rcases hk with ⟨-, rfl, -⟩ | ⟨-, rfl, -⟩ | ⟨-, rfl, -⟩ | ⟨-, rfl, -⟩ <;> (intro C q; cases q)
      have fin : ∀ (a0 : vp_A), (∀ cA : ClassId, vp_cell cA a0 = arrV cA n.toNatClampNeg (fun _ => defaultValue ty)) → xent G (xnew u kd n.toNatClampNeg n.toNatClampNeg) (xW u) = .inl (gcy G kd, a0) → W p l e R s m args below meth c H locs (xT u - xT u0) (xS u - xS u0) Q (F0 m pc lsA (.int n :: r.map (xtr G))) := by
        intro a0 ha0 hent
        refine va_newa (a0 := a0) C.1 C.2.1 w0 hty hKK hH.1 (xwl_D had hH.2.1) hS (fun q hq => Nat.le_trans C.2.2.2.2.2.2.2.1.1.2.1 hq) ha0 hn0 rfl hcb (by omega) (by omega) hd (fun q cA H1 hK1 hP1 hD1 hS1 => xw_size (fun hz => ?_))
        have hz2 := xlive C h1 ha.1
        have hcA := xsame hKK (xnewA_at hk) hK1 hno
        subst hcA
        have hq := xfresh had ha.2 hP1 hD1 (by omega)
        subst hq
        refine W.cs (cells' := xT (xnew u kd n.toNatClampNeg n.toNatClampNeg) - xT u0) (slots' := xS (xnew u kd n.toNatClampNeg n.toNatClampNeg) - xS u0) (by show _ = xT u + 1 - xT u0; omega) (by show _ = xS u + n.toNatClampNeg - xS u0; omega) ?_
        exact kk lsA H1 locs hL (xhold_new hH ha.2 hent hP1) hS1 (h1.tr xle_new)
      rcases hk with ⟨rfl, rfl, -⟩ | ⟨rfl, rfl, -⟩ | ⟨rfl, rfl, -⟩ | ⟨rfl, rfl, -⟩
      · exact fin (n.toNatClampNeg, .inl (fun _ => 0)) (fun _ => rfl) (by rw [xent_i xnew_K (by simp), xnew_N]; congr 4; funext j; exact xnew_I)
      · exact fin (n.toNatClampNeg, .inl (fun _ => 0)) (fun _ => rfl) (by rw [xent_i xnew_K (by simp), xnew_N]; congr 4; funext j; exact xnew_I)
      · exact fin (n.toNatClampNeg, .inr (.inl (fun _ => 0))) (fun _ => rfl) (by rw [xent_j xnew_K, xnew_N]; congr 5; funext j; exact xnew_J)
      · exact fin (n.toNatClampNeg, .inl (fun _ => 0)) (fun _ => rfl) (by rw [xent_i xnew_K (by simp), xnew_N]; congr 4; funext j; exact xnew_I)
    next => cases h
  · cases h
end
