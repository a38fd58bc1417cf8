/-! STRINGS: length and charAt of the constants -/
def MJc : xM := (yJ0_coder_7d493, cJ0_coder_7d493, 1, (some .byte), 0, 0)
def MJn : xM := (yJ0_length_8abf5, cJ0_length_8abf5, 1, (some .int), 1, 20)
def MJi : xM := (yJ0_isLatin1_aae02, cJ0_isLatin1_aae02, 1, (some .boolean), 0, 0)
def MJp : xM := (yJ3_checkIndex_8e157, cJ3_checkIndex_8e157, 3, (some .int), 0, 0)
def MJx : xM := (yJ0_checkIndex_df160, cJ0_checkIndex_df160, 2, none, 1, 22)
def MJl : xM := (yJ1_charAt_3b067, cJ1_charAt_3b067, 2, (some .char), 2, 43)
def MJa : xM := (yJ0_charAt_5068e, cJ0_charAt_5068e, 2, (some .char), 3, 64)
theorem dJc_0 : decode (mC MJc) 0 = .ok (.getstatic 38, 3) := by decide +kernel
theorem dJc_3 : decode (mC MJc) 3 = .ok (.ifCond .eq 10, 3) := by decide +kernel
theorem dJc_6 : decode (mC MJc) 6 = .ok (.aload_n 0, 1) := by decide +kernel
theorem dJc_7 : decode (mC MJc) 7 = .ok (.getfield 15, 3) := by decide +kernel
theorem dJc_10 : decode (mC MJc) 10 = .ok (.goto 4, 3) := by decide +kernel
theorem dJc_14 : decode (mC MJc) 14 = .ok (.ireturn, 1) := by decide +kernel
theorem dJn_0 : decode (mC MJn) 0 = .ok (.aload_n 0, 1) := by decide +kernel
theorem dJn_1 : decode (mC MJn) 1 = .ok (.getfield 9, 3) := by decide +kernel
theorem dJn_4 : decode (mC MJn) 4 = .ok (.arraylength, 1) := by decide +kernel
theorem dJn_5 : decode (mC MJn) 5 = .ok (.aload_n 0, 1) := by decide +kernel
theorem dJn_6 : decode (mC MJn) 6 = .ok (.invokevirtual 335, 3) := by decide +kernel
theorem dJn_9 : decode (mC MJn) 9 = .ok (.ishr, 1) := by decide +kernel
theorem dJn_10 : decode (mC MJn) 10 = .ok (.ireturn, 1) := by decide +kernel
theorem dJi_0 : decode (mC MJi) 0 = .ok (.getstatic 38, 3) := by decide +kernel
theorem dJi_3 : decode (mC MJi) 3 = .ok (.ifCond .eq 14, 3) := by decide +kernel
theorem dJi_6 : decode (mC MJi) 6 = .ok (.aload_n 0, 1) := by decide +kernel
theorem dJi_7 : decode (mC MJi) 7 = .ok (.getfield 15, 3) := by decide +kernel
theorem dJi_10 : decode (mC MJi) 10 = .ok (.ifCond .ne 7, 3) := by decide +kernel
theorem dJi_13 : decode (mC MJi) 13 = .ok (.iconst 1, 1) := by decide +kernel
theorem dJi_14 : decode (mC MJi) 14 = .ok (.goto 4, 3) := by decide +kernel
theorem dJi_18 : decode (mC MJi) 18 = .ok (.ireturn, 1) := by decide +kernel
theorem dJp_0 : decode (mC MJp) 0 = .ok (.iload_n 0, 1) := by decide +kernel
theorem dJp_1 : decode (mC MJp) 1 = .ok (.ifCond .lt 8, 3) := by decide +kernel
theorem dJp_4 : decode (mC MJp) 4 = .ok (.iload_n 0, 1) := by decide +kernel
theorem dJp_5 : decode (mC MJp) 5 = .ok (.iload_n 1, 1) := by decide +kernel
theorem dJp_6 : decode (mC MJp) 6 = .ok (.if_icmp .lt 10, 3) := by decide +kernel
theorem dJp_16 : decode (mC MJp) 16 = .ok (.iload_n 0, 1) := by decide +kernel
theorem dJp_17 : decode (mC MJp) 17 = .ok (.ireturn, 1) := by decide +kernel
theorem dJx_0 : decode (mC MJx) 0 = .ok (.iload_n 0, 1) := by decide +kernel
theorem dJx_1 : decode (mC MJx) 1 = .ok (.iload_n 1, 1) := by decide +kernel
theorem dJx_2 : decode (mC MJx) 2 = .ok (.getstatic 1053, 3) := by decide +kernel
theorem dJx_5 : decode (mC MJx) 5 = .ok (.invokestatic 1059, 3) := by decide +kernel
theorem dJx_8 : decode (mC MJx) 8 = .ok (.pop, 1) := by decide +kernel
theorem dJx_9 : decode (mC MJx) 9 = .ok (.return_, 1) := by decide +kernel
theorem dJl_0 : decode (mC MJl) 0 = .ok (.iload_n 1, 1) := by decide +kernel
theorem dJl_1 : decode (mC MJl) 1 = .ok (.aload_n 0, 1) := by decide +kernel
theorem dJl_2 : decode (mC MJl) 2 = .ok (.arraylength, 1) := by decide +kernel
theorem dJl_3 : decode (mC MJl) 3 = .ok (.invokestatic 9, 3) := by decide +kernel
theorem dJl_6 : decode (mC MJl) 6 = .ok (.aload_n 0, 1) := by decide +kernel
theorem dJl_7 : decode (mC MJl) 7 = .ok (.iload_n 1, 1) := by decide +kernel
theorem dJl_8 : decode (mC MJl) 8 = .ok (.baload, 1) := by decide +kernel
theorem dJl_9 : decode (mC MJl) 9 = .ok (.sipush 255, 3) := by decide +kernel
theorem dJl_12 : decode (mC MJl) 12 = .ok (.iand, 1) := by decide +kernel
theorem dJl_13 : decode (mC MJl) 13 = .ok (.i2c, 1) := by decide +kernel
theorem dJl_14 : decode (mC MJl) 14 = .ok (.ireturn, 1) := by decide +kernel
theorem dJa_0 : decode (mC MJa) 0 = .ok (.aload_n 0, 1) := by decide +kernel
theorem dJa_1 : decode (mC MJa) 1 = .ok (.invokevirtual 492, 3) := by decide +kernel
theorem dJa_4 : decode (mC MJa) 4 = .ok (.ifCond .eq 12, 3) := by decide +kernel
theorem dJa_7 : decode (mC MJa) 7 = .ok (.aload_n 0, 1) := by decide +kernel
theorem dJa_8 : decode (mC MJa) 8 = .ok (.getfield 9, 3) := by decide +kernel
theorem dJa_11 : decode (mC MJa) 11 = .ok (.iload_n 1, 1) := by decide +kernel
theorem dJa_12 : decode (mC MJa) 12 = .ok (.invokestatic 495, 3) := by decide +kernel
theorem dJa_15 : decode (mC MJa) 15 = .ok (.ireturn, 1) := by decide +kernel
theorem wJ_38 : Cond.fieldLink "java/lang/String" 38 "java/lang/String" "COMPACT_STRINGS" "Z" ∈ xgood := xgood_in (List.mem_of_getElem? (i := 611) (by decide +kernel)) (by decide +kernel)
theorem wJ_15 : Cond.fieldLink "java/lang/String" 15 "java/lang/String" "coder" "B" ∈ xgood := xgood_in (List.mem_of_getElem? (i := 2010) (by decide +kernel)) (by decide +kernel)
theorem wJ_9 : Cond.fieldLink "java/lang/String" 9 "java/lang/String" "value" "[B" ∈ xgood := xgood_in (List.mem_of_getElem? (i := 2009) (by decide +kernel)) (by decide +kernel)
theorem wJ_1053 : Cond.fieldLink "java/lang/String" 1053 "jdk/internal/util/Preconditions" "SIOOBE_FORMATTER" "Ljava/util/function/BiFunction;" ∈ xgood := xgood_in (List.mem_of_getElem? (i := 627) (by decide +kernel)) (by decide +kernel)
theorem wJc_3 : Cond.code (mY MJc) (mC MJc) (mN MJc) (mR MJc) ∈ xgood := xgood_in (List.mem_of_getElem? (i := 610) (by decide +kernel)) (by decide +kernel)
theorem wJc_2 : Cond.initialized (mY MJc).cls ∈ xgood := xgood_in (List.mem_of_getElem? (i := 124) (by decide +kernel)) (by decide +kernel)
theorem wJc_1 : Cond.selects (mY MJc).cls (mY MJc) (mY MJc) ∈ xgood := xgood_in (List.mem_of_getElem? (i := 609) (by decide +kernel)) (by decide +kernel)
theorem wJc_0 : Cond.instanceMethod (mY MJc) ∈ xgood := xgood_in (List.mem_of_getElem? (i := 608) (by decide +kernel)) (by decide +kernel)
theorem cwJc : ∀ w ∈ [Cond.instanceMethod (mY MJc), Cond.selects (mY MJc).cls (mY MJc) (mY MJc), Cond.initialized (mY MJc).cls, Cond.code (mY MJc) (mC MJc) (mN MJc) (mR MJc)], w ∈ xgood := List.forall_mem_cons.mpr ⟨wJc_0, List.forall_mem_cons.mpr ⟨wJc_1, List.forall_mem_cons.mpr ⟨wJc_2, List.forall_mem_cons.mpr ⟨wJc_3, fun _ h => by cases h⟩⟩⟩⟩
theorem wJn_3 : Cond.code (mY MJn) (mC MJn) (mN MJn) (mR MJn) ∈ xgood := xgood_in (List.mem_of_getElem? (i := 606) (by decide +kernel)) (by decide +kernel)
theorem wJn_2 : Cond.initialized (mY MJn).cls ∈ xgood := xgood_in (List.mem_of_getElem? (i := 124) (by decide +kernel)) (by decide +kernel)
theorem wJn_1 : Cond.selects (mY MJn).cls (mY MJn) (mY MJn) ∈ xgood := xgood_in (List.mem_of_getElem? (i := 605) (by decide +kernel)) (by decide +kernel)
theorem wJn_0 : Cond.instanceMethod (mY MJn) ∈ xgood := xgood_in (List.mem_of_getElem? (i := 604) (by decide +kernel)) (by decide +kernel)
theorem cwJn : ∀ w ∈ [Cond.instanceMethod (mY MJn), Cond.selects (mY MJn).cls (mY MJn) (mY MJn), Cond.initialized (mY MJn).cls, Cond.code (mY MJn) (mC MJn) (mN MJn) (mR MJn)], w ∈ xgood := List.forall_mem_cons.mpr ⟨wJn_0, List.forall_mem_cons.mpr ⟨wJn_1, List.forall_mem_cons.mpr ⟨wJn_2, List.forall_mem_cons.mpr ⟨wJn_3, fun _ h => by cases h⟩⟩⟩⟩
theorem wJi_3 : Cond.code (mY MJi) (mC MJi) (mN MJi) (mR MJi) ∈ xgood := xgood_in (List.mem_of_getElem? (i := 620) (by decide +kernel)) (by decide +kernel)
theorem wJi_2 : Cond.initialized (mY MJi).cls ∈ xgood := xgood_in (List.mem_of_getElem? (i := 124) (by decide +kernel)) (by decide +kernel)
theorem wJi_1 : Cond.selects (mY MJi).cls (mY MJi) (mY MJi) ∈ xgood := xgood_in (List.mem_of_getElem? (i := 619) (by decide +kernel)) (by decide +kernel)
theorem wJi_0 : Cond.instanceMethod (mY MJi) ∈ xgood := xgood_in (List.mem_of_getElem? (i := 618) (by decide +kernel)) (by decide +kernel)
theorem cwJi : ∀ w ∈ [Cond.instanceMethod (mY MJi), Cond.selects (mY MJi).cls (mY MJi) (mY MJi), Cond.initialized (mY MJi).cls, Cond.code (mY MJi) (mC MJi) (mN MJi) (mR MJi)], w ∈ xgood := List.forall_mem_cons.mpr ⟨wJi_0, List.forall_mem_cons.mpr ⟨wJi_1, List.forall_mem_cons.mpr ⟨wJi_2, List.forall_mem_cons.mpr ⟨wJi_3, fun _ h => by cases h⟩⟩⟩⟩
theorem wJp_2 : Cond.code (mY MJp) (mC MJp) (mN MJp) (mR MJp) ∈ xgood := xgood_in (List.mem_of_getElem? (i := 631) (by decide +kernel)) (by decide +kernel)
theorem wJp_1 : Cond.initialized (mY MJp).cls ∈ xgood := xgood_in (List.mem_of_getElem? (i := 126) (by decide +kernel)) (by decide +kernel)
theorem wJp_0 : Cond.static (mY MJp) ∈ xgood := xgood_in (List.mem_of_getElem? (i := 630) (by decide +kernel)) (by decide +kernel)
theorem cwJp : ∀ w ∈ [Cond.static (mY MJp), Cond.initialized (mY MJp).cls, Cond.code (mY MJp) (mC MJp) (mN MJp) (mR MJp)], w ∈ xgood := List.forall_mem_cons.mpr ⟨wJp_0, List.forall_mem_cons.mpr ⟨wJp_1, List.forall_mem_cons.mpr ⟨wJp_2, fun _ h => by cases h⟩⟩⟩
theorem wJx_2 : Cond.code (mY MJx) (mC MJx) (mN MJx) (mR MJx) ∈ xgood := xgood_in (List.mem_of_getElem? (i := 626) (by decide +kernel)) (by decide +kernel)
theorem wJx_1 : Cond.initialized (mY MJx).cls ∈ xgood := xgood_in (List.mem_of_getElem? (i := 124) (by decide +kernel)) (by decide +kernel)
theorem wJx_0 : Cond.static (mY MJx) ∈ xgood := xgood_in (List.mem_of_getElem? (i := 625) (by decide +kernel)) (by decide +kernel)
theorem cwJx : ∀ w ∈ [Cond.static (mY MJx), Cond.initialized (mY MJx).cls, Cond.code (mY MJx) (mC MJx) (mN MJx) (mR MJx)], w ∈ xgood := List.forall_mem_cons.mpr ⟨wJx_0, List.forall_mem_cons.mpr ⟨wJx_1, List.forall_mem_cons.mpr ⟨wJx_2, fun _ h => by cases h⟩⟩⟩
theorem wJl_2 : Cond.code (mY MJl) (mC MJl) (mN MJl) (mR MJl) ∈ xgood := xgood_in (List.mem_of_getElem? (i := 623) (by decide +kernel)) (by decide +kernel)
theorem wJl_1 : Cond.initialized (mY MJl).cls ∈ xgood := xgood_in (List.mem_of_getElem? (i := 125) (by decide +kernel)) (by decide +kernel)
theorem wJl_0 : Cond.static (mY MJl) ∈ xgood := xgood_in (List.mem_of_getElem? (i := 622) (by decide +kernel)) (by decide +kernel)
theorem cwJl : ∀ w ∈ [Cond.static (mY MJl), Cond.initialized (mY MJl).cls, Cond.code (mY MJl) (mC MJl) (mN MJl) (mR MJl)], w ∈ xgood := List.forall_mem_cons.mpr ⟨wJl_0, List.forall_mem_cons.mpr ⟨wJl_1, List.forall_mem_cons.mpr ⟨wJl_2, fun _ h => by cases h⟩⟩⟩
theorem wJa_3 : Cond.code (mY MJa) (mC MJa) (mN MJa) (mR MJa) ∈ xgood := xgood_in (List.mem_of_getElem? (i := 616) (by decide +kernel)) (by decide +kernel)
theorem wJa_2 : Cond.initialized (mY MJa).cls ∈ xgood := xgood_in (List.mem_of_getElem? (i := 124) (by decide +kernel)) (by decide +kernel)
theorem wJa_1 : Cond.selects (mY MJa).cls (mY MJa) (mY MJa) ∈ xgood := xgood_in (List.mem_of_getElem? (i := 615) (by decide +kernel)) (by decide +kernel)
theorem wJa_0 : Cond.instanceMethod (mY MJa) ∈ xgood := xgood_in (List.mem_of_getElem? (i := 614) (by decide +kernel)) (by decide +kernel)
theorem cwJa : ∀ w ∈ [Cond.instanceMethod (mY MJa), Cond.selects (mY MJa).cls (mY MJa) (mY MJa), Cond.initialized (mY MJa).cls, Cond.code (mY MJa) (mC MJa) (mN MJa) (mR MJa)], w ∈ xgood := List.forall_mem_cons.mpr ⟨wJa_0, List.forall_mem_cons.mpr ⟨wJa_1, List.forall_mem_cons.mpr ⟨wJa_2, List.forall_mem_cons.mpr ⟨wJa_3, fun _ h => by cases h⟩⟩⟩⟩
theorem lJ_335 : Cond.methodLink "java/lang/String" 335 (mY MJc) ∈ xgood := xgood_in (List.mem_of_getElem? (i := 607) (by decide +kernel)) (by decide +kernel)
theorem lJ_492 : Cond.methodLink "java/lang/String" 492 (mY MJi) ∈ xgood := xgood_in (List.mem_of_getElem? (i := 617) (by decide +kernel)) (by decide +kernel)
theorem lJ_495 : Cond.methodLink "java/lang/String" 495 (mY MJl) ∈ xgood := xgood_in (List.mem_of_getElem? (i := 621) (by decide +kernel)) (by decide +kernel)
theorem lJ1_9 : Cond.methodLink "java/lang/StringLatin1" 9 (mY MJx) ∈ xgood := xgood_in (List.mem_of_getElem? (i := 624) (by decide +kernel)) (by decide +kernel)
theorem lJ_1059 : Cond.methodLink "java/lang/String" 1059 (mY MJp) ∈ xgood := xgood_in (List.mem_of_getElem? (i := 629) (by decide +kernel)) (by decide +kernel)
def yPc (G : xG) (as : List Value) : Array Value → State → Prop := fun a U => a = as.toArray ∧ xEnv G U
def yQc (r : Option Value) : Array Value → State → Outcome → State → Prop := fun _ st oc t => oc = .returned r ∧ t.heap = st.heap
def yRm (M : xM) : Room := { frames := mF M, cells := 0, slots := 0, locals := mL M }
/-- a method that writes nothing -/
def yMet (l : Launch) (G : xG) (M : xM) (as : List Value) (r : Option Value) : Prop := Met l (mY M) (xTs M) (yRm M) (yPc G as) (yQc r) 0 0 (xA G)
def yCx (G : xG) (p : Program) (R : Room) (s : State) (m : MethodId) (args : Array Value) (c : Code) (M : xM) : Prop := p.tables.exec = Jvm.exec ∧ c.code = mC M ∧ c.maxLocals = mN M ∧ s.vm.findClass (mY M).cls = some m.cls ∧ (∀ w ∈ xTs M, w.before args s = true) ∧ xEnv G s ∧ mF M ≤ R.frames ∧ mL M ≤ R.locals
section
variable {p : Program} {l : Launch} {e : Env} {R : Room} {s : State} {m : MethodId} {args : Array Value} {below : List Frame} {meth : Method} {c : Code} {H : Heap} {locs : List Loc} {cells slots : Nat} {Q : State → Prop} {G : xG} {M M' : xM} {pc idx n : Nat} {lsA : Array Slot} {rest st0 As : List Value} {r1 : Option Value}
theorem yPc_blind : FrameBlind (yPc G As) := fun a U g mk h => ⟨h.1, h.2.calling g mk a⟩
theorem ycall {a : Array Value} (hr : va_Run p l e R s m args below meth c H locs cells slots 0 0 (F0 m pc lsA st0) rest (yQc r1 a) (xA G)) (hS : va_S (xA G) s.heap H locs)
    (kk : ∀ locs1 : List Loc, va_S (xA G) s.heap H locs1 → W p l e R s m args below meth c H locs1 cells slots Q (F0 m (pc + 3) lsA (r1.toList ++ rest))) : W p l e R s m args below meth c H locs cells slots Q (F0 m pc lsA st0) := by
  intro T hT X
  obtain ⟨v, st₀, t, T', L, h0, X', hL, e1, e2, ⟨hv, hh⟩, st⟩ := hr T hT X
  cases hv
  obtain ⟨t2, a1, b1⟩ := kk (locs ++ L) ⟨hS.1, hS.2.1, fun q hq => by
      rcases List.mem_append.mp hq with h | h
      · exact hS.2.2 q h
      · exact hL q h⟩ T' (by rw [e1, hh, h0]) X'
  exact ⟨t2, st t2 a1, b1⟩
theorem ycalS (C : yCx G p R s m args c M) (hM : yMet l G M' As r1) (hn : (parseMethodDescriptor (mY M').desc).map (fun d => d.parameters.length) = some n) (hrm : xroom M M')
    (hmh : (mY M').cls ≠ "java/lang/invoke/MethodHandle" ∧ (mY M').cls ≠ "java/lang/invoke/VarHandle")
    (hl : Cond.methodLink (mY M).cls idx (mY M') ∈ xgood) (hw : ∀ w ∈ [Cond.static (mY M'), Cond.initialized (mY M').cls, .code (mY M') (mC M') (mN M') (mR M')], w ∈ xgood)
    (hlen : As.length = n) (hsz : lsA.size = mN M) (hst : st0 = As.reverse ++ rest) (hcat : (rest.map fun v => v.category).sum ≤ 8) (hd : decode (mC M) pc = .ok (.invokestatic idx, 3)) (hS : va_S (xA G) s.heap H locs) (hf : cells ≤ R.cells ∧ slots ≤ R.slots)
    (kk : ∀ locs1 : List Loc, va_S (xA G) s.heap H locs1 → W p l e R s m args below meth c H locs1 cells slots Q (F0 m (pc + 3) lsA (r1.toList ++ rest))) : W p l e R s m args below meth c H locs cells slots Q (F0 m pc lsA st0) := by
  have ok : ∀ w ∈ xgood, w.before args s = true := fun w h => C.2.2.2.2.1 w (List.mem_cons_of_mem _ h)
  have cb : CallB R s args (mY M).cls idx (mY M') (mC M') (mN M') (mR M') (xTs M') (yRm M') 0 0 n :=
    callB_of n C.2.2.2.2.1 (xgoodIn (hw _ (by simp))) rfl rfl rfl (ok _ (hw _ (by simp))) (ok _ hl) ⟨hmh.1, hmh.2, hn⟩ ⟨Nat.le_trans hrm.1 C.2.2.2.2.2.2.1, Nat.le_trans hrm.2 C.2.2.2.2.2.2.2⟩
  exact ycall (va_runS (As := As) (rest := rest) ⟨C.1, C.2.1, C.2.2.1, C.2.2.2.1, C.2.2.2.2.1⟩ hM ⟨cb, ok _ (hw _ (by simp))⟩ ⟨yPc_blind, fun U hU hW => ⟨rfl, C.2.2.2.2.2.1.warm hS hU hW⟩⟩ rfl hlen (by show lsA.size = _; exact hsz) hst (by show 2 * 0 + _ ≤ 8; omega) hd hf) hS kk
theorem ycalV {i : Nat} (C : yCx G p R s m args c M) (hM : yMet l G M' (.ref (gad G (1000000 + i)) :: As) r1) (hi : i < 14) (hcl : (mY M').cls = "java/lang/String") (hn : (parseMethodDescriptor (mY M').desc).map (fun d => d.parameters.length) = some n) (hrm : xroom M M')
    (hmh : (mY M').cls ≠ "java/lang/invoke/MethodHandle" ∧ (mY M').cls ≠ "java/lang/invoke/VarHandle")
    (hl : Cond.methodLink (mY M).cls idx (mY M') ∈ xgood) (hw : ∀ w ∈ [Cond.instanceMethod (mY M'), Cond.selects (mY M').cls (mY M') (mY M'), Cond.initialized (mY M').cls, .code (mY M') (mC M') (mN M') (mR M')], w ∈ xgood)
    (hlen : As.length = n) (hsz : lsA.size = mN M) (hst : st0 = As.reverse ++ .ref (gad G (1000000 + i)) :: rest) (hcat : (rest.map fun v => v.category).sum ≤ 8) (hd : decode (mC M) pc = .ok (.invokevirtual idx, 3)) (hS : va_S (xA G) s.heap H locs) (hf : cells ≤ R.cells ∧ slots ≤ R.slots)
    (kk : ∀ locs1 : List Loc, va_S (xA G) s.heap H locs1 → W p l e R s m args below meth c H locs1 cells slots Q (F0 m (pc + 3) lsA (r1.toList ++ rest))) : W p l e R s m args below meth c H locs cells slots Q (F0 m pc lsA st0) := by
  have ok : ∀ w ∈ xgood, w.before args s = true := fun w h => C.2.2.2.2.1 w (List.mem_cons_of_mem _ h)
  have cb : CallB R s args (mY M).cls idx (mY M') (mC M') (mN M') (mR M') (xTs M') (yRm M') 0 0 n :=
    callB_of n C.2.2.2.2.1 (xgoodIn (hw _ (by simp))) rfl rfl rfl (ok _ (hw _ (by simp))) (ok _ hl) ⟨hmh.1, hmh.2, hn⟩ ⟨Nat.le_trans hrm.1 C.2.2.2.2.2.2.1, Nat.le_trans hrm.2 C.2.2.2.2.2.2.2⟩
  have cw : CallW R s args (mY M).cls "java/lang/String" idx (mY M') (mC M') (mN M') (mR M') (xTs M') (yRm M') 0 0 n :=
    ⟨cb, ok _ (hw _ (by simp)), by rw [← hcl]; exact ok _ (hw _ (by simp))⟩
  exact ycall (va_runV (As := As) (rest := rest) (b := gad G (1000000 + i)) ⟨C.1, C.2.1, C.2.2.1, C.2.2.2.1, C.2.2.2.2.1⟩ hM cw ⟨yPc_blind, vk_recv (i := i) C.2.2.2.2.2.1.2.2.2.2.2.2.1 hi hS, fun U hU hW => ⟨rfl, C.2.2.2.2.2.1.warm hS hU hW⟩⟩ rfl hlen (by show lsA.size = _; exact hsz) hst (by show 2 * 0 + _ ≤ 8; omega) hd hf) hS kk
theorem yof {as : List Value} {r : Option Value} (hpl : plainName (mY M).cls = true) (hfit : (lg_sl as).length ≤ mN M)
    (hb : ∀ (p : Program) (e : Env) (s : State) (m : MethodId) (below : List Frame) (meth : Method) (c : Code), yCx G p (yRm M) s m as.toArray c M → meth.sig.returnType = mR M → meth.locks = false → va_S (xA G) s.heap s.heap [] → ∀ lsA : Array Slot, lv_has lsA (mN M) (lv_args 0 as) →
      W p l e (yRm M) s m as.toArray below meth c s.heap [] 0 0 (MQ below (yQc r) as.toArray s 0 0 (xA G)) (F0 m 0 lsA [])) : yMet l G M as r := by
  refine Met.ofW (cc := mC M) (maxL := mN M) (ret := mR M) hpl rfl ?_
  intro p e s m args below meth c s₁ B hml hv
  obtain ⟨hargs, hE⟩ := hv
  subst hargs
  rw [lg_entry_eq]
  exact hb p e s m below meth c ⟨B.exec, B.bytes, hml, findClass_of_methodNamed B.named, atoms_spec (ws := xTs M) B.pre, hE, Nat.le_refl _, Nat.le_refl _⟩ B.returns B.notSynchronized va_S.rf _ (lv_entry as hfit)
theorem yret {v : Int32} {ty : FieldType} (C : yCx G p R s m args c M) (hr : meth.sig.returnType = mR M) (hty : mR M = some ty) (hnar : narrow ty (.int v) = .int v) (hk : meth.locks = false) (hS : va_S (xA G) s.heap s.heap locs) (hd : decode (mC M) pc = .ok (.ireturn, 1)) :
    W p l e R s m args below meth c s.heap locs 0 0 (MQ below (yQc (some (.int v))) args s 0 0 (xA G)) (F0 m pc lsA [.int v]) := W.zret C.1 C.2.1 (hr.trans hty) hnar (fun t ht hW => ⟨rfl, ht⟩) (fun q hq => hS.2.2 q hq) hd hk
theorem yw (C : yCx G p R s m args c M) {w : Cond} (h : w ∈ xgood) : w.before args s = true := C.2.2.2.2.1 w (List.mem_cons_of_mem _ h)
theorem ytx (C : yCx G p R s m args c M) : xTxt G s s.heap := C.2.2.2.2.2.1.2.2.2.2.2.2
end
section
variable {l : Launch} {G : xG} {i : Nat}
theorem str_p {k n : Int32} {v : Value} (hv : v = .null ∨ ∃ t, v = .ref t) (h0 : ¬ k < 0) (h1 : k < n) : yMet l G MJp [.int k, .int n, v] (some (.int k)) := by
  refine yof (by decide) (by rcases hv with rfl | ⟨t, rfl⟩ <;> exact Nat.le_refl 3) ?_
  intro p e s m below meth c C hr hk hS lsA hl
  have l0 : lsA[0]? = some (.val (.int k)) := hl.2.2 (0, .int k) (by simp [lv_args])
  have l1 : lsA[1]? = some (.val (.int n)) := hl.2.2 (1, .int n) (by simp [lv_args, Value.category])
  refine lv_iload_n C.1 C.2.1 dJp_0 rfl l0 ?_
  refine lv_if_lt C.1 C.2.1 dJp_1 (tgt := 9) (by decide) (fun h => absurd h h0) (fun _ => ?_)
  refine lv_iload_n C.1 C.2.1 dJp_4 rfl l0 ?_
  refine lv_iload_n C.1 C.2.1 dJp_5 rfl l1 ?_
  refine lv_icmp_lt C.1 C.2.1 dJp_6 (tgt := 16) (by decide) (fun _ => ?_) (fun h => absurd h1 h)
  refine lv_iload_n C.1 C.2.1 dJp_16 rfl l0 ?_
  exact yret C hr rfl rfl hk hS dJp_17
theorem str_x {k n : Int32} (h0 : ¬ k < 0) (h1 : k < n) : yMet l G MJx [.int k, .int n] none := by
  refine yof (by decide) (Nat.le_refl 2) ?_
  intro p e s m below meth c C hr hk hS lsA hl
  have l0 : lsA[0]? = some (.val (.int k)) := hl.2.2 (0, .int k) (by simp [lv_args])
  have l1 : lsA[1]? = some (.val (.int n)) := hl.2.2 (1, .int n) (by simp [lv_args, Value.category])
  refine lv_iload_n C.1 C.2.1 dJx_0 rfl l0 ?_
  refine lv_iload_n C.1 C.2.1 dJx_1 rfl l1 ?_
  have hq : ∃ v : Value, (v = .null ∨ ∃ t, v = .ref t) ∧ va_Z "jdk/internal/util/Preconditions" "SIOOBE_FORMATTER" "Ljava/util/function/BiFunction;" v (xA G) s s.heap := by
    rcases (ytx C).2.2.1 with h | ⟨t, h⟩
    · exact ⟨.null, Or.inl rfl, h⟩
    · exact ⟨.ref t, Or.inr ⟨t, rfl⟩, h⟩
  obtain ⟨v, hv, hZ⟩ := hq
  refine va_gets C.1 C.2.1 hZ hS C.2.2.2.1 (yw C wJ_1053) (fun _ h => h) dJx_2 ?_
  refine ycalS (idx := 1059) (rest := []) C (str_p hv h0 h1) (n := 3) (by decide +kernel) ⟨by decide +kernel, by decide +kernel⟩ ⟨by decide, by decide⟩ lJ_1059 cwJp rfl (by show lsA.size = _; exact hl.1) rfl (by decide) dJx_5 hS ⟨Nat.le_refl _, Nat.le_refl _⟩ (fun locs1 hS1 => ?_)
  refine lv_pop C.1 C.2.1 dJx_8 rfl ?_
  exact W.vret C.1 C.2.1 hr (fun t ht hW => ⟨rfl, ht⟩) (fun q hq => hS1.2.2 q hq) dJx_9 hk
theorem str_c (hi : i < 14) : yMet l G MJc [.ref (gad G (1000000 + i))] (some (.int 0)) := by
  refine yof (by decide) (Nat.le_refl 1) ?_
  intro p e s m below meth c C hr hk hS lsA hl
  have l0 : lsA[0]? = some (.val (.ref (gad G (1000000 + i)))) := hl.2.2 (0, .ref (gad G (1000000 + i))) (by simp [lv_args])
  refine va_gets C.1 C.2.1 (ytx C).2.1 hS C.2.2.2.1 (yw C wJ_38) (fun _ h => h) dJc_0 ?_
  refine lv_if_eq C.1 C.2.1 dJc_3 (tgt := 13) (by decide) (fun h => absurd h (by decide)) (fun _ => ?_)
  refine lv_aload_n C.1 C.2.1 dJc_6 rfl l0 ?_
  refine vk_getf C.1 C.2.1 ((ytx C).1.1 i hi).2.1 hS C.2.2.2.1 (yw C wJ_15) (fun _ h => h) dJc_7 ?_
  refine lv_goto C.1 C.2.1 dJc_10 (tgt := 14) (by decide) ?_
  exact yret C hr rfl rfl hk hS dJc_14
theorem str_i (hi : i < 14) : yMet l G MJi [.ref (gad G (1000000 + i))] (some (.int 1)) := by
  refine yof (by decide) (Nat.le_refl 1) ?_
  intro p e s m below meth c C hr hk hS lsA hl
  have l0 : lsA[0]? = some (.val (.ref (gad G (1000000 + i)))) := hl.2.2 (0, .ref (gad G (1000000 + i))) (by simp [lv_args])
  refine va_gets C.1 C.2.1 (ytx C).2.1 hS C.2.2.2.1 (yw C wJ_38) (fun _ h => h) dJi_0 ?_
  refine lv_if_eq C.1 C.2.1 dJi_3 (tgt := 17) (by decide) (fun h => absurd h (by decide)) (fun _ => ?_)
  refine lv_aload_n C.1 C.2.1 dJi_6 rfl l0 ?_
  refine vk_getf C.1 C.2.1 ((ytx C).1.1 i hi).2.1 hS C.2.2.2.1 (yw C wJ_15) (fun _ h => h) dJi_7 ?_
  refine lv_if_ne C.1 C.2.1 dJi_10 (tgt := 17) (by decide) (fun h => absurd rfl h) (fun _ => ?_)
  refine lv_iconst C.1 C.2.1 dJi_13 (v := 1) (by decide) ?_
  refine lv_goto C.1 C.2.1 dJi_14 (tgt := 18) (by decide) ?_
  exact yret C hr rfl rfl hk hS dJi_18
theorem str_len : ∀ i, i < 14 → xlens.getD i 0 = (xtxt i).length ∧ (xtxt i).length < 100 := by decide +kernel
theorem str_chr : ∀ i, i < 14 → ∀ j, j < (xtxt i).length → (((xbyts.getD i []).getD j 0 &&& 255).toUInt32 % 65536).toInt32 = nI ((xtxt i).getD j 0) ∧ (xtxt i).getD j 0 < 128 := by decide +kernel
theorem str_n (hi : i < 14) : yMet l G MJn [.ref (gad G (1000000 + i))] (some (.int (nI (xtxt i).length))) := by
  refine yof (by decide) (Nat.le_refl 1) ?_
  intro p e s m below meth c C hr hk hS lsA hl
  have l0 : lsA[0]? = some (.val (.ref (gad G (1000000 + i)))) := hl.2.2 (0, .ref (gad G (1000000 + i))) (by simp [lv_args])
  refine lv_aload_n C.1 C.2.1 dJn_0 rfl l0 ?_
  refine vk_getf C.1 C.2.1 ((ytx C).1.1 i hi).2.2.1 hS C.2.2.2.1 (yw C wJ_9) (fun _ h => h) dJn_1 ?_
  refine va_tlen C.1 C.2.1 ((ytx C).1.1 i hi).2.2.2 hS (v := nI (xtxt i).length) (by rw [(str_len i hi).1]; rfl) dJn_4 ?_
  refine lv_aload_n C.1 C.2.1 dJn_5 rfl l0 ?_
  refine ycalV (idx := 335) (As := []) (rest := [.int (nI (xtxt i).length)]) C (str_c hi) hi rfl (n := 0) (by decide +kernel) ⟨by decide +kernel, by decide +kernel⟩ ⟨by decide, by decide⟩ lJ_335 cwJc rfl (by show lsA.size = _; exact hl.1) rfl (by show 1 ≤ 8; decide) dJn_6 hS ⟨Nat.le_refl _, Nat.le_refl _⟩ (fun locs1 hS1 => ?_)
  refine lv_ishr C.1 C.2.1 dJn_9 ?_
  have e0 : nI (xtxt i).length >>> ((0 : Int32) &&& 31) = nI (xtxt i).length := by
    have : ∀ i, i < 14 → nI (xtxt i).length >>> ((0 : Int32) &&& 31) = nI (xtxt i).length := by decide +kernel
    exact this i hi
  rw [e0]
  exact yret C hr rfl rfl hk hS1 dJn_10
theorem str_in {k : Int32} {n : Nat} (hk : 0 ≤ k ∧ k.toNatClampNeg < n) (hn : n < 1000) : ¬ k < 0 ∧ k < nI n := by
  have h0 := Int32.le_iff_toInt_le.mp hk.1
  have e0 : (0 : Int32).toInt = 0 := rfl
  have e : k.toNatClampNeg = k.toInt.toNat := rfl
  have en : (nI n).toInt = n := nI_toInt (by omega)
  refine ⟨fun h => ?_, ?_⟩
  · have := Int32.lt_iff_toInt_lt.mp h
    omega
  · apply Int32.lt_iff_toInt_lt.mpr
    omega
theorem str_nar : ∀ n, n < 128 → narrow .char (.int (nI n)) = .int (nI n) := by decide +kernel
theorem str_l {k : Int32} (hi : i < 14) (hk : 0 ≤ k ∧ k.toNatClampNeg < (xtxt i).length) : yMet l G MJl [.ref (gav G i), .int k] (some (.int (nI ((xtxt i).getD k.toNatClampNeg 0)))) := by
  refine yof (by decide) (Nat.le_refl 2) ?_
  intro p e s m below meth c C hr hk9 hS lsA hl
  have l0 : lsA[0]? = some (.val (.ref (gav G i))) := hl.2.2 (0, .ref (gav G i)) (by simp [lv_args])
  have l1 : lsA[1]? = some (.val (.int k)) := hl.2.2 (1, .int k) (by simp [lv_args, Value.category])
  obtain ⟨n1, n2⟩ := str_len i hi
  obtain ⟨k0, k1⟩ := str_in hk (by omega)
  obtain ⟨c1, c2⟩ := str_chr i hi _ hk.2
  refine lv_iload_n C.1 C.2.1 dJl_0 rfl l1 ?_
  refine lv_aload_n C.1 C.2.1 dJl_1 rfl l0 ?_
  refine va_tlen C.1 C.2.1 ((ytx C).1.1 i hi).2.2.2 hS (v := nI (xtxt i).length) (by rw [n1]; rfl) dJl_2 ?_
  refine ycalS (idx := 9) (rest := []) C (str_x k0 k1) (n := 2) (by decide +kernel) ⟨by decide +kernel, by decide +kernel⟩ ⟨by decide, by decide⟩ lJ1_9 cwJx rfl (by show lsA.size = _; exact hl.1) rfl (by decide) dJl_3 hS ⟨Nat.le_refl _, Nat.le_refl _⟩ (fun locs1 hS1 => ?_)
  refine lv_aload_n C.1 C.2.1 dJl_6 rfl l0 ?_
  refine lv_iload_n C.1 C.2.1 dJl_7 rfl l1 ?_
  refine va_tb C.1 C.2.1 ((ytx C).1.1 i hi).2.2.2 hS1 (xin (by rw [n1]; exact hk)) rfl dJl_8 ?_
  refine lv_sipush C.1 C.2.1 dJl_9 (v := 255) (by decide) ?_
  refine lv_iand C.1 C.2.1 dJl_12 ?_
  refine lv_i2c C.1 C.2.1 dJl_13 (v := nI ((xtxt i).getD k.toNatClampNeg 0)) c1 ?_
  exact yret C hr rfl (str_nar _ c2) hk9 hS1 dJl_14
theorem str_a {k : Int32} (hi : i < 14) (hk : 0 ≤ k ∧ k.toNatClampNeg < (xtxt i).length) : yMet l G MJa [.ref (gad G (1000000 + i)), .int k] (some (.int (nI ((xtxt i).getD k.toNatClampNeg 0)))) := by
  refine yof (by decide) (Nat.le_refl 2) ?_
  intro p e s m below meth c C hr hk9 hS lsA hl
  have l0 : lsA[0]? = some (.val (.ref (gad G (1000000 + i)))) := hl.2.2 (0, .ref (gad G (1000000 + i))) (by simp [lv_args])
  have l1 : lsA[1]? = some (.val (.int k)) := hl.2.2 (1, .int k) (by simp [lv_args, Value.category])
  obtain ⟨c1, c2⟩ := str_chr i hi _ hk.2
  refine lv_aload_n C.1 C.2.1 dJa_0 rfl l0 ?_
  refine ycalV (idx := 492) (As := []) (rest := []) C (str_i hi) hi rfl (n := 0) (by decide +kernel) ⟨by decide +kernel, by decide +kernel⟩ ⟨by decide, by decide⟩ lJ_492 cwJi rfl (by show lsA.size = _; exact hl.1) rfl (by decide) dJa_1 hS ⟨Nat.le_refl _, Nat.le_refl _⟩ (fun locs1 hS1 => ?_)
  refine lv_if_eq C.1 C.2.1 dJa_4 (tgt := 16) (by decide) (fun h => absurd h (by decide)) (fun _ => ?_)
  refine lv_aload_n C.1 C.2.1 dJa_7 rfl l0 ?_
  refine vk_getf C.1 C.2.1 ((ytx C).1.1 i hi).2.2.1 hS1 C.2.2.2.1 (yw C wJ_9) (fun _ h => h) dJa_8 ?_
  refine lv_iload_n C.1 C.2.1 dJa_11 rfl l1 ?_
  refine ycalS (idx := 495) (rest := []) C (str_l hi hk) (n := 2) (by decide +kernel) ⟨by decide +kernel, by decide +kernel⟩ ⟨by decide, by decide⟩ lJ_495 cwJl rfl (by show lsA.size = _; exact hl.1) rfl (by decide) dJa_12 hS1 ⟨Nat.le_refl _, Nat.le_refl _⟩ (fun locs2 hS2 => ?_)
  exact yret C hr rfl (str_nar _ c2) hk9 hS2 dJa_15
end
theorem xCtx.y {l : Launch} {G : xG} {p : Program} {e : Env} {R : Room} {s : State} {m : MethodId} {args : Array Value} {below : List Frame} {meth : Method} {c : Code} {M : xM} {u0 uF : xMem} {rF : Option Value} {Q : State → Prop} (C : xCtx l G p e R s m args below meth c M u0 uF rF Q) : yCx G p R s m args c M :=
  ⟨C.1, C.2.1, C.2.2.1, C.2.2.2.1, C.2.2.2.2.1, C.2.2.2.2.2.2.2.1.1, C.2.2.2.2.2.2.1.1, C.2.2.2.2.2.2.1.2.1⟩
theorem snd_tl {tb : Nat → xM} {M : xM} {pc idx : Nat} (hF : 4 ≤ mF M) (hLo : 85 ≤ mL M) (hw : Cond.methodLink (mY M).cls idx ⟨"java/lang/String", "length", "()I"⟩ ∈ xgood) (hd : decode (mC M) pc = .ok (.invokevirtual idx, 3)) : Snd tb M pc (oTl (pc + 3)) := by
  refine ⟨xmo_oTl _, ?_⟩
  intro l G p e R s m args below meth c u0 uF rF Q C ls st u act h
  unfold oTl at h
  split at h
  · split at h
    next a r hc =>
      simp only [xgo, Option.some.injEq] at h
      subst h
      refine ⟨xle.rf _, fun hF9 kk lsA H locs hL hH hS h1 => ?_⟩
      obtain ⟨⟨a1, a2⟩, a3⟩ := hc
      obtain ⟨i, rfl⟩ : ∃ i : Nat, a = 1000000 + i := ⟨a - 1000000, (Nat.add_sub_cancel' (show (1000000 : Nat) ≤ a from a1)).symm⟩
      have ei : 1000000 + i - 1000000 = i := Nat.add_sub_cancel_left _ _
      have hi : i < 14 := by
        have q : (1000000 + i : Nat) < 1000000 + 14 := a2
        omega
      have q1 := h1.1
      have q2 := h1.2.1
      have q3 := hF9.1
      have q4 := hF9.2.1
      have hR := C.2.2.2.2.2.2.1
      refine ycalV (idx := idx) (As := []) (rest := r.map (xtr G)) C.y (str_n hi) hi rfl (n := 0) (by decide +kernel) ⟨Nat.le_trans (by decide) hF, Nat.le_trans (by decide) hLo⟩ ⟨by decide, by decide⟩ hw cwJn rfl (by show lsA.size = _; exact hL.2.1) rfl (by rw [xcat_tr]; omega) hd hS ⟨by omega, by omega⟩ (fun locs1 hS1 => ?_)
      have k1 := kk lsA H locs1 hL hH hS1 h1
      rw [ei] at k1
      exact k1
    next => cases h
  · cases h
theorem snd_tc {tb : Nat → xM} {M : xM} {pc idx : Nat} (hF : 4 ≤ mF M) (hLo : 85 ≤ mL M) (hw : Cond.methodLink (mY M).cls idx ⟨"java/lang/String", "charAt", "(I)C"⟩ ∈ xgood) (hd : decode (mC M) pc = .ok (.invokevirtual idx, 3)) : Snd tb M pc (oTc (pc + 3)) := by
  refine ⟨xmo_oTc _, ?_⟩
  intro l G p e R s m args below meth c u0 uF rF Q C ls st u act h
  unfold oTc at h
  split at h
  · split at h
    next k a r hc =>
      simp only [xgo, Option.some.injEq] at h
      subst h
      refine ⟨xle.rf _, fun hF9 kk lsA H locs hL hH hS h1 => ?_⟩
      obtain ⟨⟨⟨a1, a2⟩, a3⟩, a4⟩ := hc
      obtain ⟨i, rfl⟩ : ∃ i : Nat, a = 1000000 + i := ⟨a - 1000000, (Nat.add_sub_cancel' (show (1000000 : Nat) ≤ a from a1)).symm⟩
      have ei : 1000000 + i - 1000000 = i := Nat.add_sub_cancel_left _ _
      have hi : i < 14 := by
        have q : (1000000 + i : Nat) < 1000000 + 14 := a2
        omega
      rw [ei] at a4
      have q1 := h1.1
      have q2 := h1.2.1
      have q3 := hF9.1
      have q4 := hF9.2.1
      have hR := C.2.2.2.2.2.2.1
      refine ycalV (idx := idx) (As := [.int k]) (rest := r.map (xtr G)) C.y (str_a hi a4) hi rfl (n := 1) (by decide +kernel) ⟨Nat.le_trans (by decide) hF, Nat.le_trans (by decide) hLo⟩ ⟨by decide, by decide⟩ hw cwJa rfl (by show lsA.size = _; exact hL.2.1) rfl (by rw [xcat_tr]; omega) hd hS ⟨by omega, by omega⟩ (fun locs1 hS1 => ?_)
      have k1 := kk lsA H locs1 hL hH hS1 h1
      rw [ei] at k1
      exact k1
    next => cases h
  · cases h
