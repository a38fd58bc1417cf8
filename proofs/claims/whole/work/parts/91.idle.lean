/-! IDLE: the class's method throws, the law's own catches -/
theorem dec_out {code : ByteArray} {pc : Nat} (h : ¬ pc < code.size) : decode code pc = .error (.truncated pc) := by
  have hu : (Jvm.ClassFile.Reader.u1 : Jvm.ClassFile.Decoder Nat) code pc = .error (.truncated pc) := by
    unfold Jvm.ClassFile.Reader.u1
    show (if h : pc < code.size then (_ : Jvm.ClassFile.Decoder Nat) else _) code pc = _
    rw [dif_neg h]
    rfl
  have e1 : (Jvm.ClassFile.Decoder.instr pc).runAt code pc = .error (.truncated pc) := by
    show Except.bind ((Jvm.ClassFile.Reader.u1 : Jvm.ClassFile.Decoder Nat) code pc) _ = _
    rw [hu]
    rfl
  unfold decode
  rw [e1]
  rfl
theorem idl_pc (pc : Nat) (h : decode (mC M2) (pc + 7) = .ok (.athrow, 1)) : pc = 51 := by
  by_cases hp : pc + 7 < (mC M2).size
  · have hq : ∀ q, q < 60 → decode (mC M2) (q + 7) = .ok (.athrow, 1) → q = 51 := by decide +kernel
    have hs : (mC M2).size = 59 := by decide +kernel
    exact hq pc (by omega) h
  · rw [dec_out hp] at h
    cases h
def xnms : List String := ["java/lang/RuntimeException", "java/lang/Exception"]
def xbad : List Cond := xdecl.map Cond.declares ++ [.castable xnse xnse]
theorem wI_ini : Cond.initialized xnse ∈ xgood := xgood_in (List.mem_of_getElem? (i := 132) (by decide +kernel)) (by decide +kernel)
theorem wI_at : ∀ w ∈ (vx_at0 RX10 355 xnse xnms).filter goodWord, w ∈ xgood := by decide +kernel
theorem wI_bad : ∀ w ∈ (vx_at0 RX10 355 xnse xnms).filter (fun w => !goodWord w), w ∈ xbad := by decide +kernel
theorem wI_ot : ∀ w ∈ Cond.classLink RX10 353 xnse :: Cond.initialized xnse :: vx_at0 RX10 355 xnse xnms, vx_ot w = true := by decide +kernel
theorem dI_51 : decode (mC M2) 51 = .ok (.new 353, 3) := by decide +kernel
theorem dI_54 : decode (mC M2) (51 + 3) = .ok (.dup, 1) := by decide +kernel
theorem dI_55 : decode (mC M2) (51 + 4) = .ok (.invokespecial 355, 3) := by decide +kernel
theorem dI_58 : decode (mC M2) (51 + 7) = .ok (.athrow, 1) := by decide +kernel
theorem xHold.grow {G : xG} {u : xMem} {H H1 : Heap} (h : xHold G u H) (hq : ∀ q : Nat, q < H.size → H1[q]? = H[q]?) : xHold G u H1 := ⟨h.1.kept (fun k q hk => hq _ (h.1 k q hk).lt), h.2⟩
theorem xEnv.bad {G : xG} {s : State} {args : Array Value} (hE : xEnv G s) : ∀ w ∈ xbad, w.before args s = true := by
  obtain ⟨-, -, -, -, -, -, -, -, -, -, -, h12, h13⟩ := hE
  intro w hw
  rcases List.mem_append.mp hw with h | h
  · obtain ⟨y, hy, rfl⟩ := List.mem_map.mp h
    exact va_Nw.use rfl (h12 y hy)
  · cases List.mem_singleton.mp h
    exact va_Nw.use rfl h13
def iQ (G : xG) (u : xMem) (r : Value) : Array Value → State → Outcome → State → Prop := fun _ st oc t => (∃ q, r = .int q ∧ oc = .returned (some (.int q))) ∧ xHold G u t.heap ∧ va_F (xA G) st t
def iX (G : xG) (u : xMem) (r : Value) : String → State → State → Prop := fun E st t => E = xnse ∧ r = .retAddr 0 ∧ xHold G u t.heap ∧ va_F (xA G) st t
def iRm : Room := { frames := 7, cells := 1, slots := 6, locals := 100 }
section
variable {l : Launch} {G : xG} {u : xMem} {k : Int32} {r : Value}
theorem idl_met (hl : l.stackTraces = false) (hb : ∀ (p : Program) (e : Env) (R : Room) (s : State) (m : MethodId) (args : Array Value) (below : List Frame) (meth : Method) (c : Code) (Q : State → Prop), xCtx l G p e R s m args below meth c M2 u u (some r) Q → xWst l G p e R s m args below meth c M2 u Q 0 (xentL (mN M2) [.ref 0, .int k]) [] u) :
    vx_Met l (mY M2) (xTs M2) iRm (xPc G u [.ref 0, .int k]) (iQ G u r) (iX G u r) 1 6 (xA G) := by
  refine vx_ofW (cc := mC M2) (maxL := mN M2) (ret := mR M2) (by decide) rfl ?_
  intro p e s m args below meth c s₁ B hml hT hv
  obtain ⟨hargs, hE, hH, hlive⟩ := hv
  have hlocks := B.notSynchronized
  have hr := B.returns
  have hts := atoms_spec (ws := xTs M2) B.pre
  have hown := findClass_of_methodNamed B.named
  have ok : ∀ w ∈ xgood, w.before args s = true := fun w h => hts w (List.mem_cons_of_mem _ h)
  have hS0 : va_S (xA G) s.heap s.heap [] := va_S.rf
  have hC : xCtx l G p e iRm s m args below meth c M2 u u (some r) (vx_MQ below (iQ G u r) (iX G u r) args s 1 6 (xA G)) := by
    refine ⟨B.exec, B.bytes, hml, hown, hts, fun hn => (name_of_methodNamed B.named B.method).1.trans hn, ⟨by decide, by decide, by show xT u - xT u ≤ 1; omega, by show xS u - xS u ≤ 6; omega⟩, ⟨hE, hlive⟩, fun hn => absurd hn (by decide), ?_, ?_, ?_, ?_⟩
    · intro pc lsA H locs v ty hd hrF hty hnar hHF hS
      exact vx_ret (W.widen (k := 1) (n := 6) (by omega) (by omega) (W.zret B.exec B.bytes (hr.trans hty) hnar (fun t ht hW => ⟨⟨v, Option.some.inj hrF, rfl⟩, by rw [ht]; exact hHF, hS.F ht⟩) (fun q hq => hS.2.2 q hq) hd hlocks))
    · intro pc lsA H locs v hd hrF hty hHF hS
      have : (some FieldType.int : Option FieldType) = some .long := hty
      cases this
    · intro pc lsA H locs hd hrF hty hHF hS
      have : (some FieldType.int : Option FieldType) = none := hty
      cases this
    · intro pc lsA H locs ix ic hn h0 h3 h4 h7 hw hrF hsz hHF hS
      have hp := idl_pc pc h7
      subst hp
      have e0 : ix = 353 := by
        rw [dI_51] at h0
        cases h0
        rfl
      have e1 : ic = 355 := by
        rw [dI_55] at h4
        cases h4
        rfl
      subst e0
      subst e1
      obtain ⟨-, -, -, -, -, -, -, -, -, hU, hN, -, -⟩ := id hE
      exact vx_throw0 (names := xnms) (ik := 353) (ic := 355) (cls := xnse) (own := RX10) (A := xA G) B.exec B.bytes hl hown (by decide +kernel) (by decide +kernel) (ok _ hw) (ok _ wI_ini) (vx_hat (fun w hw => ok w (wI_at w hw)) wI_bad hE.bad) wI_ot hU hN hS (hsz.trans hml.symm) dI_51 dI_54 dI_55 dI_58 (fun x hx => (hT x hx).elim) (by decide) (by decide) (by show xT u - xT u + 1 ≤ 1; omega) (by show xS u - xS u + 6 ≤ 6; omega) hlocks
        (fun t ha hz hq => ⟨rfl, Option.some.inj hrF, hHF.grow hq, Nat.le_trans hS.1 hz, fun q g1 g2 => (hq q (Nat.lt_of_lt_of_le g1 hS.1)).trans (hS.2.1 q g1 g2)⟩) (fun q hq => hS.2.2 q hq) (by omega) (by omega)
  have hW := hb p e iRm s m args below meth c _ hC _ s.heap [] (xLR_entry (G := G) (as := [.ref 0, .int k]) (n := mN M2) (Nat.le_of_ble_eq_true rfl)) hH hS0 (xle.rf u)
  rw [hargs, lg_entry_eq]
  refine W.cs (cells' := xT u - xT u) (slots' := xS u - xS u) (by omega) (by omega) ?_
  rw [← hargs]
  exact hW
end
/-! the law's own -/
def iHh : List (Nat × Nat × Nat × Nat) := [(0, 9, 12, 13)]
def iWs : List Cond := Cond.codeWith yL_idle cL_idle 4 (some .int) iHh :: xgood
def jRm : Room := { frames := 8, cells := 1, slots := 6, locals := 130 }
def jQ (G : xG) (u : xMem) (r : Value) : Array Value → State → Outcome → State → Prop := fun _ st oc t =>
  ((∃ q, r = .int q ∧ oc = .returned (some (.int 0)) ∧ xHold G (xsJ u 295 0 q.toInt64) t.heap) ∨ (r = .retAddr 0 ∧ oc = .returned (some (.int 1)) ∧ xHold G u t.heap)) ∧ va_F (xA G) st t
theorem wI_cod : Cond.codeWith yL_idle cL_idle 4 (some .int) iHh ∈ xgood := xgood_in (List.mem_of_getElem? (i := 1286) (by decide +kernel)) (by decide +kernel)
theorem wI_13 : Cond.classLink RL 13 xnse ∈ xgood := xgood_in (List.mem_of_getElem? (i := 1287) (by decide +kernel)) (by decide +kernel)
theorem wI_7 : Cond.methodLink RL 7 (mY M2) ∈ xgood := xgood_in (List.mem_of_getElem? (i := 1288) (by decide +kernel)) (by decide +kernel)
theorem wI_ins : Cond.instanceMethod (mY M2) ∈ xgood := xgood_in (List.mem_of_getElem? (i := 1289) (by decide +kernel)) (by decide +kernel)
theorem wI_sel : Cond.selects RX10 (mY M2) (mY M2) ∈ xgood := xgood_in (List.mem_of_getElem? (i := 1290) (by decide +kernel)) (by decide +kernel)
theorem wI_c2 : Cond.code (mY M2) (mC M2) (mN M2) (mR M2) ∈ xgood := xgood_in (List.mem_of_getElem? (i := 1291) (by decide +kernel)) (by decide +kernel)
theorem wI_i10 : Cond.initialized (mY M2).cls ∈ xgood := xgood_in (List.mem_of_getElem? (i := 112) (by decide +kernel)) (by decide +kernel)
theorem wI_203 : Cond.methodLink RL 203 yL_idle ∈ xgood := xgood_in (List.mem_of_getElem? (i := 1284) (by decide +kernel)) (by decide +kernel)
theorem wI_st : Cond.static yL_idle ∈ xgood := xgood_in (List.mem_of_getElem? (i := 1285) (by decide +kernel)) (by decide +kernel)
theorem wI_il : Cond.initialized RL ∈ xgood := xgood_in (List.mem_of_getElem? (i := 111) (by decide +kernel)) (by decide +kernel)
theorem dL_0 : decode cL_idle 0 = .ok (.aload_n 2, 1) := by decide +kernel
theorem dL_1 : decode cL_idle 1 = .ok (.iconst 0, 1) := by decide +kernel
theorem dL_2 : decode cL_idle 2 = .ok (.aload_n 0, 1) := by decide +kernel
theorem dL_3 : decode cL_idle 3 = .ok (.iload_n 1, 1) := by decide +kernel
theorem dL_4 : decode cL_idle 4 = .ok (.invokevirtual 7, 3) := by decide +kernel
theorem dL_7 : decode cL_idle 7 = .ok (.i2l, 1) := by decide +kernel
theorem dL_8 : decode cL_idle 8 = .ok (.lastore, 1) := by decide +kernel
theorem dL_9 : decode cL_idle 9 = .ok (.goto 6, 3) := by decide +kernel
theorem dL_12 : decode cL_idle 12 = .ok (.astore_n 3, 1) := by decide +kernel
theorem dL_13 : decode cL_idle 13 = .ok (.iconst 1, 1) := by decide +kernel
theorem dL_14 : decode cL_idle 14 = .ok (.ireturn, 1) := by decide +kernel
theorem dL_15 : decode cL_idle 15 = .ok (.iconst 0, 1) := by decide +kernel
theorem dL_16 : decode cL_idle 16 = .ok (.ireturn, 1) := by decide +kernel
section
variable {p : Program} {l : Launch} {e : Env} {R : Room} {s : State} {m : MethodId} {args : Array Value} {below : List Frame} {meth : Method} {c : Code} {H : Heap} {locs : List Loc} {cells slots : Nat} {Q : State → Prop} {G : xG} {u : xMem} {r : Value} {pc : Nat} {lsA : Array Slot} {rest st0 : List Value} {k : Int32}
theorem icall {a : Array Value} (hr : vx_Run p l e R s m args below meth c H locs cells slots 1 6 (F0 m pc lsA st0) rest (iQ G u r a) (iX G u r) (xA G)) (hS : va_S (xA G) s.heap H locs)
    (kk : ∀ (q : Int32) (H1 : Heap) (locs1 : List Loc), r = .int q → xHold G u H1 → va_S (xA G) s.heap H1 locs1 → W p l e R s m args below meth c H1 locs1 (cells + 1) (slots + 6) Q (F0 m (pc + 3) lsA (.int q :: rest)))
    (kx : ∀ (ce : Cell) (q9 : Addr) (H1 : Heap) (locs1 : List Loc), r = .retAddr 0 → xHold G u H1 → va_S (xA G) s.heap H1 locs1 → H1[q9]? = some ce → ce.vm = .none → s.vm.findClass xnse = some ce.cls → vx_W p l e R s m args below meth c H1 locs1 (cells + 1) (slots + 6) Q (F0 m pc lsA rest) q9) : W p l e R s m args below meth c H locs cells slots Q (F0 m pc lsA st0) := by
  intro T hT X
  rcases hr T hT X with ⟨v, st₀, t, T', L, h0, X', hL, e1, e2, ⟨⟨q, hq, hv⟩, hh, hz, hk⟩, st⟩ | ⟨q9, st₀, t, T', L, E, ce, h0, X', hL, e1, e2, ⟨hE, hr9, hh, hz, hk⟩, hce, hcv, hcl, st⟩
  · cases hv
    rw [h0] at hz hk
    obtain ⟨t2, a1, b1⟩ := kk q T'.heap (locs ++ L) hq (by rw [e1]; exact hh)
      ⟨Nat.le_trans hS.1 (by rw [e1]; exact hz), fun q h1 h2 => by rw [e1, hk q (Nat.lt_of_lt_of_le h1 hS.1) h2]; exact hS.2.1 q h1 h2, fun q hq => by
        rcases List.mem_append.mp hq with h | h
        · exact hS.2.2 q h
        · exact hL q h⟩ T' rfl X'
    exact ⟨t2, st t2 a1, b1⟩
  · subst hE
    rw [h0] at hz hk
    obtain ⟨t2, a1, b1⟩ := kx ce q9 T'.heap (locs ++ L) hr9 (by rw [e1]; exact hh)
      ⟨Nat.le_trans hS.1 (by rw [e1]; exact hz), fun q h1 h2 => by rw [e1, hk q (Nat.lt_of_lt_of_le h1 hS.1) h2]; exact hS.2.1 q h1 h2, fun q hq => by
        rcases List.mem_append.mp hq with h | h
        · exact hS.2.2 q h
        · exact hL q h⟩ (by rw [e1]; exact hce) hcv hcl T' rfl X'
    exact ⟨t2, st.trans a1, b1⟩
theorem lidl_met (hM : vx_Met l (mY M2) (xTs M2) iRm (xPc G u [.ref 0, .int k]) (iQ G u r) (iX G u r) 1 6 (xA G)) (h0 : xIs u 0 10) (h295 : xIs u 295 14) (hn : 0 < xN u 295) (hV : xV u = false) :
    Met l yL_idle iWs jRm (xPc G u [.ref 0, .int k, .ref 295]) (jQ G u r) 1 6 (xA G) := by
  refine va_MetW (cc := cL_idle) (maxL := 4) (ret := some .int) (hh := iHh) (by decide) rfl ?_
  intro p e s m args below meth c s₁ B hml hv
  obtain ⟨hargs, hE, hH, hlive⟩ := hv
  have hlocks := B.notSynchronized
  have hr := B.returns
  have hts := atoms_spec (ws := iWs) B.pre
  have hown : s.vm.findClass RL = some m.cls := findClass_of_methodNamed B.named
  have ok : ∀ w ∈ xgood, w.before args s = true := fun w h => hts w (List.mem_cons_of_mem _ h)
  have htab : c.exceptionTable.toList = tableOf iHh := vx_table (x := yL_idle) B (hts _ List.mem_cons_self)
  have hS : va_S (xA G) s.heap s.heap [] := va_S.rf
  have hK := hE.2.2.1
  have had := hE.1
  have hx := B.exec
  have hb := B.bytes
  rw [hargs, lg_entry_eq]
  rw [← hargs]
  have hl := lv_entry (n := 4) ([Value.ref 0, .int k, .ref 295].map (xtr G)) (Nat.le_of_ble_eq_true rfl)
  generalize ((lg_sl ([Value.ref 0, .int k, .ref 295].map (xtr G)) ++ List.replicate (4 - (lg_sl ([Value.ref 0, .int k, .ref 295].map (xtr G))).length) Slot.unset).toArray) = lsA at hl ⊢
  have l0 : lsA[0]? = some (.val (.ref (gad G 0))) := lv_at hl 0 rfl
  have l1 : lsA[1]? = some (.val (.int k)) := lv_at hl 1 rfl
  have l2 : lsA[2]? = some (.val (.ref (gad G 295))) := lv_at hl 2 rfl
  refine lv_aload_n hx hb dL_0 rfl l2 ?_
  refine lv_iconst hx hb dL_1 (v := 0) (by decide) ?_
  refine lv_aload_n hx hb dL_2 rfl l0 ?_
  refine lv_iload_n hx hb dL_3 rfl l1 ?_
  have cb : CallB jRm s args RL 7 (mY M2) (mC M2) (mN M2) (mR M2) (xTs M2) iRm 1 6 1 :=
    callB_of (Ts := iWs) 1 hts (fun w hw => by
      have hg : ∀ w ∈ xgood, w ∈ iWs ∧ ((w.onTables && w.keeps) = true ∨ ∃ ty, w = .arrayClass ty) := fun w hw => ⟨List.mem_cons_of_mem _ hw, good_of_word (List.mem_filter.mp hw).2⟩
      rcases List.mem_cons.mp hw with rfl | hw
      · exact hg _ wI_c2
      · exact hg w hw) rfl rfl rfl (ok _ wI_i10) (ok _ wI_7) ⟨by decide, by decide, by decide +kernel⟩ ⟨by decide, by decide⟩
  have cw : CallW jRm s args RL RX10 7 (mY M2) (mC M2) (mN M2) (mR M2) (xTs M2) iRm 1 6 1 := ⟨cb, ok _ wI_ins, ok _ wI_sel⟩
  refine icall (vx_runV (As := [.int k]) (rest := [.int 0, .ref (gad G 295)]) (b := gad G 0) (cc := cL_idle) (nL := 4) ⟨hx, hb, hml, hown, hts⟩ hM cw ⟨xPc_blind, va_recv hK hH.1 (xcl_at (c := 10) (by omega)) (xhold_at (H := s.heap) h0 (by omega)), fun U hU hW => ⟨rfl, hE.warm hS hU hW, by rw [hU]; exact hH, fun hv => by rw [hV] at hv; cases hv⟩⟩ rfl rfl (by show lsA.size = _; exact hl.1) rfl (by show 2 * 0 + 2 ≤ 8; decide) dL_4 ⟨by decide, by decide⟩) hS (fun q H1 locs1 hrq hH1 hS1 => ?_) (fun ce q9 H1 locs1 hr9 hH1 hS1 hce hcv hcl => ?_)
  · refine lv_i2l hx hb dL_7 (v := q.toInt64) rfl ?_
    refine va_last hx hb hK hH1.1 (xwl_D had hH1.2.1) hS1 295 2 (by rw [xwl_get h295.1, xent_j h295.2]) rfl (xin ⟨by decide, hn⟩) dL_8 (fun H2 locs2 hP2 hD2 hS2 => ?_)
    have hH2 : xHold G (xsJ u 295 0 q.toInt64) H2 := xhold_sJ hH1 h295.1 (xent_stJ h295.2) hP2
    refine lv_goto hx hb dL_9 (tgt := 15) (by decide) ?_
    refine lv_iconst hx hb dL_15 (v := 0) (by decide) ?_
    exact W.zret hx hb hr rfl (fun t ht hW => ⟨Or.inl ⟨q, hrq, rfl, by rw [ht]; exact hH2⟩, hS2.F ht⟩) (fun q hq => hS2.2.2 q hq) dL_16 hlocks
  · refine vx_catch hown [] ⟨0, 9, 12, 13⟩ [] htab (fun z hz => by cases hz) (by decide) (by decide) (ok _ wI_13) (hE.bad _ (List.mem_append_right _ (List.mem_singleton.mpr rfl))) hce hcv hcl ?_
    refine lv_astore_n hx hb dL_12 rfl hl (by decide) rfl (fun ls' hl' => ?_)
    refine lv_iconst hx hb dL_13 (v := 1) (by decide) ?_
    exact W.zret hx hb hr rfl (fun t ht hW => ⟨Or.inr ⟨hr9, rfl, by rw [ht]; exact hH1⟩, hS1.F ht⟩) (fun q hq => hS1.2.2 q hq) dL_14 hlocks
end
