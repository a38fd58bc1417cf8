def xstrs : List (String × Nat × Nat × String) := [(RX7, 89, 0, "desk"), (RX7, 152, 10, "size"), (RX7, 161, 11, "layers"), (RX7, 97, 1, "class"), (RX8, 59, 0, "desk"), (RX8, 65, 1, "class"), (RX8, 67, 2, "place"), (RX8, 69, 3, "bound"), (RX8, 71, 4, "rate"), (RX8, 73, 5, "holiday"), (RX8, 75, 6, "cap"), (RX8, 77, 7, "of"), (RX8, 79, 8, "only"), (RX8, 81, 9, "none"), (RX7, 170, 7, "of"), (RX7, 105, 2, "place"), (RX7, 179, 12, "layer"), (RX7, 183, 8, "only"), (RX7, 110, 3, "bound"), (RX7, 193, 9, "none"), (RX7, 124, 4, "rate"), (RX7, 136, 5, "holiday"), (RX7, 212, 13, "price"), (RX7, 144, 6, "cap"), (RX11, 143, 0, "desk"), (RX11, 205, 10, "size"), (RX11, 210, 11, "layers"), (RX11, 145, 1, "class"), (RX11, 147, 2, "place"), (RX11, 149, 3, "bound"), (RX11, 151, 4, "rate"), (RX11, 153, 5, "holiday"), (RX11, 155, 6, "cap"), (RX11, 157, 7, "of"), (RX11, 159, 8, "only"), (RX11, 161, 9, "none"), (RX11, 223, 12, "layer"), (RX11, 240, 13, "price")]
def xnest : List (String × Nat × MethodName × String) := [("SalePlaces", 11, ⟨"SalePlaces$Reader", "<init>", "()V"⟩, "SalePlaces"), ("SalePlaces$Reader", 11, ⟨"SalePlaces$Tape", "<init>", "()V"⟩, "SalePlaces"), ("SalePlaces$Reader", 27, ⟨"SalePlaces$Desk", "<init>", "()V"⟩, "SalePlaces"), ("SalePlaces$Desk", 11, ⟨"SalePlaces$Ground", "<init>", "()V"⟩, "SalePlaces"), ("SalePlaces$Ground", 21, ⟨"SalePlaces$Bounds", "<init>", "()V"⟩, "SalePlaces"), ("SalePlaces$Desk", 20, ⟨"SalePlaces$Tariff", "<init>", "()V"⟩, "SalePlaces"), ("SalePlaces$Tariff", 17, ⟨"SalePlaces$Rates", "<init>", "()V"⟩, "SalePlaces"), ("SalePlaces", 20, ⟨"SalePlaces$Desk", "<init>", "()V"⟩, "SalePlaces"), ("SalePlaces$Book", 34, ⟨"SalePlaces$Line", "<init>", "()V"⟩, "SalePlaces"), ("SalePlaces", 34, ⟨"SalePlaces$Acts", "<init>", "()V"⟩, "SalePlaces"), ("SalePlaces", 41, ⟨"SalePlaces$Line", "<init>", "()V"⟩, "SalePlaces"), ("SalePlaces$Reader", 227, ⟨"SalePlaces", "within", "(III)Z"⟩, "SalePlaces"), ("SalePlaces$Bounds", 35, ⟨"SalePlaces", "bit", "(Z)I"⟩, "SalePlaces"), ("SalePlaces$Bounds", 54, ⟨"SalePlaces", "within", "(III)Z"⟩, "SalePlaces"), ("SalePlaces$Ground", 75, ⟨"SalePlaces", "bit", "(Z)I"⟩, "SalePlaces"), ("SalePlaces$Tariff", 66, ⟨"SalePlaces", "within", "(III)Z"⟩, "SalePlaces"), ("SalePlaces$Line", 73, ⟨"SalePlaces", "bit", "(Z)I"⟩, "SalePlaces"), ("SalePlaces$Book", 65, ⟨"SalePlaces", "bit", "(Z)I"⟩, "SalePlaces")]
def xlens : List Nat := xtexts.map List.length
def xbyts : List (List Int32) := xtexts.map (fun t => t.map nI)
/-- constructors that the tables declare -/
def xdecl : List MethodName := [⟨"java/lang/RuntimeException", "<init>", "()V"⟩, ⟨"java/lang/Exception", "<init>", "()V"⟩, ⟨"java/lang/Throwable", "<init>", "()V"⟩]
def xnse : String := "java/util/NoSuchElementException"
def xTxt (G : xG) (U : State) (H : Heap) : Prop := vk_S 14 xlens xbyts (fun i => gad G (1000000 + i)) (gav G) (xA G) U H ∧ va_Z "java/lang/String" "COMPACT_STRINGS" "Z" (.int 1) (xA G) U H ∧ va_Zq "jdk/internal/util/Preconditions" "SIOOBE_FORMATTER" "Ljava/util/function/BiFunction;" (xA G) U H ∧ vx_Zq Bundle.tN "UNASSIGNED_STACK" Bundle.steD (xA G) U H ∧ vx_Zq Bundle.tN "SUPPRESSED_SENTINEL" Bundle.listD (xA G) U H ∧ (∀ y ∈ xdecl, va_Nw (.declares y) U) ∧ va_Nw (.castable xnse xnse) U
/-- what holds of the tables, and of what lies outside the cells -/
def xEnv (G : xG) (U : State) : Prop :=
  (∀ i, i < 1000000 → gad G i = gB G + i) ∧ gB G ≤ U.heap.size ∧ va_K (gD G) vwCl (xtys G) U ∧ (∀ q ∈ xnest, va_Nw (.methodLinkNest q.1 q.2.1 q.2.2.1 q.2.2.2) U) ∧ (∀ q ∈ xstrs, vk_R q.1 q.2.1 q.2.2.2 (gad G (1000000 + q.2.2.1)) U) ∧ va_AO RX5 U ∧ xTxt G U U.heap
theorem xEnv.warm {G : xG} {s U : State} {H : Heap} {locs : List Loc} (h : xEnv G s) (hS : va_S (xA G) s.heap H locs) (hU : U.heap = H) (hW : s.WarmedH U.vm) : xEnv G U := by
  obtain ⟨h1, h2, h3, h4, h5, h8, h6, h7, h9, h10, h11, h12, h13⟩ := h
  have hq : ∀ a : Nat, a < s.heap.size → ¬ xA G a → U.heap[a]? = s.heap[a]? := fun a h1 h2 => by rw [hU]; exact hS.2.1 a h1 h2
  refine ⟨h1, by rw [hU]; exact Nat.le_trans h2 hS.1, va_K.moved hW.alike h3, fun q hq => (h4 q hq).warmM hW, fun q hq => vk_R.warm hW (h5 q hq), h8.moved hW.alike, (h6.kept hq).moved hW.alike, (h7.kept hq).moved hW.alike, (h9.kept hq).moved hW.alike, (h10.kept hq).moved hW.alike, (h11.kept hq).moved hW.alike, fun y hy => (h12 y hy).warmD hW, h13.warmC hW⟩
theorem xEnv.calling {G : xG} {U : State} (h : xEnv G U) (g : JFrame) (mk : MethodId) (a : Array Value) : xEnv G (U.calling g mk a) := by
  obtain ⟨h1, h2, h3, h4, h5, h8, h6, h7, h9, h10, h11, h12, h13⟩ := h
  have hv : U.vm = (U.calling g mk a).vm := rfl
  refine ⟨h1, h2, va_K.moved (u := U) (U := U.calling g mk a) (Vm.Alike.refl U.vm) h3, fun q hq => (h4 q hq).same rfl hv, fun q hq => vk_R.same hv.symm (h5 q hq), h8.moved (u := U) (U := U.calling g mk a) (Vm.Alike.refl U.vm), h6.moved (u := U) (U := U.calling g mk a) (Vm.Alike.refl U.vm), h7.moved (u := U) (U := U.calling g mk a) (Vm.Alike.refl U.vm), h9.moved (u := U) (U := U.calling g mk a) (Vm.Alike.refl U.vm), h10.moved (u := U) (U := U.calling g mk a) (Vm.Alike.refl U.vm), h11.moved (u := U) (U := U.calling g mk a) (Vm.Alike.refl U.vm), fun y hy => (h12 y hy).same rfl hv, h13.same rfl hv⟩
/-! a method: its name, its code, its locals, what it returns, its frames, its locals' room -/
abbrev xM : Type := MethodName × ByteArray × Nat × Option FieldType × Nat × Nat
def mY (M : xM) : MethodName := M.1
def mC (M : xM) : ByteArray := M.2.1
def mN (M : xM) : Nat := M.2.2.1
def mR (M : xM) : Option FieldType := M.2.2.2.1
def mF (M : xM) : Nat := M.2.2.2.2.1
def mL (M : xM) : Nat := M.2.2.2.2.2
def xTs (M : xM) : List Cond := .code (mY M) (mC M) (mN M) (mR M) :: xgood
def xPc (G : xG) (u : xMem) (as : List Value) : Array Value → State → Prop := va_Pc (as.map (xtr G)) (fun U => xEnv G U ∧ xHold G u U.heap ∧ (xV u = true → U.heap.size = gB G + xW u))
def xQc (G : xG) (r : Option Value) (u' : xMem) : Array Value → State → Outcome → State → Prop := fun _ st oc t => (oc = .returned (r.map (xtr G)) ∧ xHold G u' t.heap) ∧ va_F (xA G) st t
def xRm (M : xM) (u u' : xMem) : Room := { frames := mF M, cells := xT u' - xT u, slots := xS u' - xS u, locals := mL M }
/-- the method's contract for these arguments and this memory -/
def xMet (l : Launch) (G : xG) (M : xM) (as : List Value) (u : xMem) (r : Option Value) (u' : xMem) : Prop :=
  Met l (mY M) (xTs M) (xRm M u u') (xPc G u as) (xQc G r u') (xT u' - xT u) (xS u' - xS u) (xA G)
theorem xPc_blind {G : xG} {u : xMem} {as : List Value} : FrameBlind (xPc G u as) := fun a U g mk h => ⟨h.1, h.2.1.calling g mk a, h.2.2⟩
/-- the locals -/
def xLR (G : xG) (lsA : Array Slot) (n : Nat) (ls : List Value) : Prop := ls.length = n ∧ lsA.size = n ∧ lv_wf lsA ∧ ∀ (i : Nat) (v : Value), ls[i]? = some v → v ≠ .null → lsA[i]? = some (.val (xtr G v))
section XSND
variable (l : Launch) (G : xG) (p : Program) (e : Env) (R : Room) (s : State) (m : MethodId) (args : Array Value) (below : List Frame) (meth : Method) (c : Code) (M : xM) (u0 uF : xMem) (rF : Option Value) (Q : State → Prop)
def xWst (pc : Nat) (ls st : List Value) (u : xMem) : Prop :=
  ∀ (lsA : Array Slot) (H : Heap) (locs : List Loc), xLR G lsA (mN M) ls → xHold G u H → va_S (xA G) s.heap H locs → xle u0 u →
    W p l e R s m args below meth c H locs (xT u - xT u0) (xS u - xS u0) Q (F0 m pc lsA (st.map (xtr G)))
def xFin (locs : List Loc) (H : Heap) (pc : Nat) (lsA : Array Slot) (st : List Value) : Prop := W p l e R s m args below meth c H locs (xT uF - xT u0) (xS uF - xS u0) Q (F0 m pc lsA st)
def xCtx : Prop :=
  p.tables.exec = Jvm.exec ∧ c.code = mC M ∧ c.maxLocals = mN M ∧ s.vm.findClass (mY M).cls = some m.cls ∧ (∀ w ∈ xTs M, w.before args s = true) ∧ ((mY M).name = "<init>" → meth.name = "<init>") ∧
  (mF M ≤ R.frames ∧ mL M ≤ R.locals ∧ xT uF - xT u0 ≤ R.cells ∧ xS uF - xS u0 ≤ R.slots) ∧ (xEnv G s ∧ (xV u0 = true → s.heap.size = gB G + xW u0)) ∧
  ((mY M).name = "law" → ∃ b, gad G 2000000 = b ∧ va_X b (gsl G) (gsx G) s s.heap ∧ b < s.heap.size ∧ b < gB G) ∧
  (∀ pc lsA H locs v ty, decode (mC M) pc = .ok (.ireturn, 1) → rF = some (.int v) → mR M = some ty → narrow ty (.int v) = .int v → xHold G uF H → va_S (xA G) s.heap H locs → xFin l p e R s m args below meth c u0 uF Q locs H pc lsA [.int v]) ∧
  (∀ pc lsA H locs v, decode (mC M) pc = .ok (.lreturn, 1) → rF = some (.long v) → mR M = some .long → xHold G uF H → va_S (xA G) s.heap H locs → xFin l p e R s m args below meth c u0 uF Q locs H pc lsA [.long v]) ∧
  (∀ pc lsA H locs, decode (mC M) pc = .ok (.return_, 1) → rF = none → mR M = none → xHold G uF H → va_S (xA G) s.heap H locs → xFin l p e R s m args below meth c u0 uF Q locs H pc lsA []) ∧
  (∀ pc lsA H locs ix ic, (mY M).cls = RX10 ∧ (mY M).name = "idle" → decode (mC M) pc = .ok (.new ix, 3) → decode (mC M) (pc + 3) = .ok (.dup, 1) → decode (mC M) (pc + 4) = .ok (.invokespecial ic, 3) → decode (mC M) (pc + 7) = .ok (.athrow, 1) → Cond.classLink RX10 ix "java/util/NoSuchElementException" ∈ xgood → rF = some (.retAddr 0) → lsA.size = mN M → xHold G uF H → va_S (xA G) s.heap H locs → xFin l p e R s m args below meth c u0 uF Q locs H pc lsA [])
def xSA (tb : Nat → xM) (pc : Nat) (ls st : List Value) (u : xMem) (act : (Nat × List Value × List Value × xMem) ⊕ ((Nat × List Value × Nat × List Value × List Value × xMem) ⊕ (Option Value × xMem))) : Prop := match act with
  | .inl (pc1, ls1, st1, u1) => xle u u1 ∧ (xle u1 uF → xWst l G p e R s m args below meth c M u0 Q pc1 ls1 st1 u1 → xWst l G p e R s m args below meth c M u0 Q pc ls st u)
  | .inr (.inl (m', as, pc1, ls1, st1, u1)) => u1 = u ∧ ∀ r1 u2, xle u u2 → xle u2 uF → xMet l G (tb m') as u r1 u2 → xWst l G p e R s m args below meth c M u0 Q pc1 ls1 (r1.toList ++ st1) u2 → xWst l G p e R s m args below meth c M u0 Q pc ls st u
  | .inr (.inr (r1, u1)) => u1 = u ∧ (rF = r1 → uF = u → xWst l G p e R s m args below meth c M u0 Q pc ls st u)
end XSND
/-- an operation says what the instruction does -/
def Snd (tb : Nat → xM) (M : xM) (pc : Nat) (op : xOp) : Prop := xmo op ∧
  ∀ (l : Launch) (G : xG) (p : Program) (e : Env) (R : Room) (s : State) (m : MethodId) (args : Array Value) (below : List Frame) (meth : Method) (c : Code) (u0 uF : xMem) (rF : Option Value) (Q : State → Prop),
    xCtx l G p e R s m args below meth c M u0 uF rF Q → ∀ (ls st : List Value) (u : xMem) (act), op ls st u = some act → xSA l G p e R s m args below meth c M u0 uF rF Q tb pc ls st u act
theorem xc1_tr {G : xG} {v : Value} (h : xc1 v = true) : (xtr G v).category = 1 := by cases v <;> first | rfl | cases h
theorem xtr_cat {G : xG} (v : Value) : (xtr G v).category = v.category := by cases v <;> rfl
theorem xcat_tr {G : xG} (st : List Value) : ((st.map (xtr G)).map fun v => v.category).sum = xcat st := by
  simp only [xcat, List.map_map]
  congr 1
  apply List.map_congr_left
  intro v _
  exact xtr_cat v
theorem xLR.at {G : xG} {lsA : Array Slot} {n i : Nat} {ls : List Value} {v : Value} (h : xLR G lsA n ls) (hi : ls[i]? = some v) (hv : v ≠ .null) : lsA[i]? = some (.val (xtr G v)) := h.2.2.2 i v hi hv
/-- the listed values of the locals -/
def xlv (G : xG) (ls : List Value) : List (Nat × Value) := (List.range ls.length).filterMap (fun i => (ls[i]?).bind (fun v => if v = Value.null then none else some (i, xtr G v)))
theorem xlv_mem {G : xG} {ls : List Value} {i : Nat} {v : Value} (hi : ls[i]? = some v) (hv : v ≠ .null) : (i, xtr G v) ∈ xlv G ls := by
  refine List.mem_filterMap.mpr ⟨i, List.mem_range.mpr (List.getElem?_eq_some_iff.mp hi).1, ?_⟩
  rw [hi]
  simp [hv]
theorem xlv_of {G : xG} {ls : List Value} {q : Nat × Value} (h : q ∈ xlv G ls) : ∃ v, ls[q.1]? = some v ∧ v ≠ .null ∧ q.2 = xtr G v := by
  obtain ⟨i, -, hi⟩ := List.mem_filterMap.mp h
  obtain ⟨v, hv, h2⟩ := Option.bind_eq_some_iff.mp hi
  by_cases hn : v = Value.null
  · rw [if_pos hn] at h2
    cases h2
  · rw [if_neg hn] at h2
    cases h2
    exact ⟨v, hv, hn, rfl⟩
theorem xLR.has {G : xG} {lsA : Array Slot} {n : Nat} {ls : List Value} (h : xLR G lsA n ls) : lv_has lsA n (xlv G ls) := by
  refine ⟨h.2.1, h.2.2.1, fun q hq => ?_⟩
  obtain ⟨v, h1, h2, h3⟩ := xlv_of hq
  rw [h.2.2.2 q.1 v h1 h2, h3]
/-- a store of one word -/
theorem xLR.set1 {G : xG} {lsA : Array Slot} {n i : Nat} {ls : List Value} {v : Value} (h0 : xLR G lsA n ls) (hi : i < ls.length) (hok : xok ls i = true) {lsB : Array Slot} {w : Value} (hw : w = xtr G v)
    (hB : lv_has lsB n ((i, w) :: (xlv G ls).filter (fun q => !(q.1 == i) && !(q.1 + 1 == i && q.2.category == 2)))) : xLR G lsB n (ls.set i v) := by
  subst hw
  refine ⟨by rw [List.length_set]; exact h0.1, hB.1, hB.2.1, fun j z hz hn => ?_⟩
  rw [List.getElem?_set] at hz
  by_cases hij : i = j
  · subst hij
    simp only [hi, if_true, Option.some.injEq] at hz
    subst hz
    exact hB.2.2 _ List.mem_cons_self
  · simp only [hij, if_false] at hz
    refine hB.2.2 (j, xtr G z) (List.mem_cons_of_mem _ (List.mem_filter.mpr ⟨xlv_mem hz hn, ?_⟩))
    have e1 : (j == i) = false := by simp [Ne.symm hij]
    simp only [e1, Bool.not_false, Bool.true_and, Bool.not_eq_true', Bool.and_eq_false_iff]
    by_cases hj : j + 1 = i
    · subst hj
      right
      simp only [xok, hz] at hok
      rw [xtr_cat]
      cases z <;> first | rfl | cases hok
    · left
      simp [hj]
/-- a store of two words -/
theorem xLR.set2 {G : xG} {lsA : Array Slot} {n i : Nat} {ls : List Value} {x : Int64} (h0 : xLR G lsA n ls) (hi : i + 1 < ls.length) (hok : xok ls i = true) {lsB : Array Slot}
    (hB : lv_has lsB n ((i, .long x) :: (xlv G ls).filter (fun q => !(q.1 == i) && (!(q.1 == i + 1) && !(q.1 + 1 == i && q.2.category == 2))))) : xLR G lsB n ((ls.set i (.long x)).set (i + 1) .null) := by
  refine ⟨by rw [List.length_set, List.length_set]; exact h0.1, hB.1, hB.2.1, fun j z hz hn => ?_⟩
  rw [List.getElem?_set, List.getElem?_set, List.length_set] at hz
  by_cases hij2 : i + 1 = j
  · subst hij2
    simp only [hi, if_true, Option.some.injEq] at hz
    exact absurd hz.symm hn
  · simp only [hij2, if_false] at hz
    by_cases hij : i = j
    · subst hij
      simp only [show i < ls.length by omega, if_true, Option.some.injEq] at hz
      subst hz
      exact hB.2.2 _ List.mem_cons_self
    · simp only [hij, if_false] at hz
      refine hB.2.2 (j, xtr G z) (List.mem_cons_of_mem _ (List.mem_filter.mpr ⟨xlv_mem hz hn, ?_⟩))
      have e1 : (j == i) = false := by simp [Ne.symm hij]
      have e2 : (j == i + 1) = false := by simp [Ne.symm hij2]
      simp only [e1, e2, Bool.not_false, Bool.true_and, Bool.not_eq_true', Bool.and_eq_false_iff]
      by_cases hj : j + 1 = i
      · subst hj
        right
        simp only [xok, hz] at hok
        rw [xtr_cat]
        cases z <;> first | rfl | cases hok
      · left
        simp [hj]
