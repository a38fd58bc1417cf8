/-! THE CLAIM OUT OF ONE WALK OF THE LAW'S BODY. Your part is whole_start (and what it stands on); all else here is the same for every law, but numbers. -/
def R_law : String := "SalePlacesLaw"
def lw_P (b : Addr) (xs : List Int32) (args : Array Value) (s : State) : Prop := args = #[.ref b] ∧ s.IntsAt b xs ∧ xs.length ≤ 4096 ∧ (Jvm.Cond.and given_1 narrow_1).before args s = true
def lw_Q (_ : Array Value) (s : State) (o : Outcome) (t : State) : Prop := o = .returned (some (.int 1)) ∧ Framed s o t [] 601024 7293034
def lw_Z (below : List Frame) (a : Array Value) (s : State) : State → Prop := fun t => ∃ o, t.status = .running ∧ Ended t below o ∧ lw_Q a s o t
/-- the law's own end, with 1 on the stack, nothing written that was there before, its room as the claim has it -/
theorem lw_ret {p : Program} {l : Launch} {e : Env} {s : State} {m : MethodId} {below : List Frame} {meth : Method} {c : Code} {b : Nat} (hx : p.tables.exec = Jvm.exec) (hb : c.code = code) (hr : meth.sig.returnType = ret) (hlocks : meth.locks = false) {pc : Nat} {H : Heap} {ls : Array Slot} (hdg : decode code pc = .ok (.ireturn, 1)) : W p l e room_1 s m #[Value.ref b] below meth c H [] 601024 7293034 (lw_Z below #[Value.ref b] s) (F0 m pc ls [.int 1]) := by
  intro T hT X
  obtain ⟨fs, hret, hrun, hended, hW, hframe⟩ := X.leave (v := some (.int 1)) (hlocks := hlocks) (fun h => by rw [hr] at h; cases h)
  have hmeth' : T.vm.method? m = some meth := X.method'
  refine ⟨T.setFrames fs, ?_, .returned (some (.int 1)), hrun, hended, rfl, ⟨_, rfl⟩, hW, hframe⟩
  jvm_step X.here [X.here.top, hx, hb, hdg, hmeth', hr, ret, narrow_b1]
  (try refine ⟨rfl, ?_⟩); (try refine ⟨rfl, ?_⟩)
  first | (intro acts; rw [hret _ acts rfl rfl rfl]) | rw [hret _ _ rfl rfl rfl]
  exact Steps.refl _
/-- what holds at the law's entry: the machine, the code, the tables' words (any of lw_tbl by 'hts w (by decide +kernel)'), the script of L ints xs at the cell b, what the Statement gives of the start (any of its parts by flat_of_before) -/
def lw_At (p : Program) (s : State) (m : MethodId) (meth : Method) (c : Code) (b L : Nat) (xs : Nat → Int32) : Prop :=
  p.tables.exec = Jvm.exec ∧ c.code = code ∧ meth.sig.returnType = ret ∧ c.maxLocals = 7 ∧ s.vm.findClass R_law = some m.cls ∧ (∀ w ∈ lw_tbl, w.before #[Value.ref b] s = true) ∧ va_X b L xs s s.heap ∧ b < s.heap.size ∧ meth.locks = false ∧ (Jvm.Cond.and given_1 narrow_1).before #[Value.ref b] s = true ∧ (Jvm.Cond.code x code maxLocals ret).before #[Value.ref b] s = true
theorem whole_start {p : Program} {e : Env} {s : State} {m : MethodId} {below : List Frame} {meth : Method} {c : Code} (l : Launch) (hflags : l.flags = flags0) {b L : Nat} {xs : Nat → Int32} (hL : L ≤ 4096) (C0 : lw_At p s m meth c b L xs) : W p l e room_1 s m #[Value.ref b] below meth c s.heap [] 0 0 (lw_Z below #[Value.ref b] s) (entryFrame m ([Value.ref b] : List Value).toArray 7) := by
  obtain ⟨hx, hb, hr, hml, hown, hts, hX, hbl, hlocks, hgv, hcd⟩ := C0
  have hl : l.stackTraces = false := by
    unfold Launch.stackTraces
    rw [hflags]
    decide
  obtain ⟨G, eB, eb, eL, ex, hE⟩ := xenv_of (m := m) (L := L) (xs := xs) hts hgv
  obtain ⟨u1, u2, ⟨w1, v1, w2, v2⟩, ⟨l1, m1⟩, ⟨l2, m2⟩, hInv, hN3, hI3, hT3, hS3⟩ := law_made (l := l) (G := G) L xs
  have hw : ∀ w ∈ xTs M0, w.before #[Value.ref b] s = true := fun w h => by
    rcases List.mem_cons.mp h with rfl | h
    · exact hcd
    · exact hts w (List.mem_filter.mp h).1
  have hX' : ∃ b', gad G 2000000 = b' ∧ va_X b' (gsl G) (gsx G) s s.heap ∧ b' < s.heap.size ∧ b' < gB G := ⟨b, eb, by rw [eL, ex]; exact hX, hbl, by rw [eB]; exact hbl⟩
  have hS0 : va_S (xA G) s.heap s.heap [] := va_S.rf
  have i10 : xIs (xnew (x0 L xs) 10 0 7) 0 10 := (Pg.nw (u := x0 L xs) (b := 0) (kb := 10) (sl := 7) rfl (by omega)).2.2.1.1
  have i11 : xIs (xnew u1 11 0 32) 278 11 := (Pg.nw (u := u1) (b := 278) (kb := 11) (sl := 32) w1 (by omega)).2.2.1.1
  -- the loop, nothing made but exceptions
  obtain ⟨n3, r3, uE, e3, rfl, hTE, hSE⟩ := law_loopb (I := oId) (P := fun r w => r = some (.int 1) ∧ xT w ≤ xT (xnew u2 14 1 1) + 513 ∧ xS w ≤ xS (xnew u2 14 1 1) + 6 * 513) idOk 513 0 (xoff (xnew u2 14 1 1)) .null .null (by show xN (xnew u2 14 1 1) 2000000 < _; omega) (by omega) hInv (by show xN (xnew u2 14 1 1) 2000000 < _; omega) rfl (fun w a b => ⟨rfl, a, b⟩)
  have hrun := (lrun (l := l) (G := G) hl n3 23 _ _ _ _ _ (xex23 _ _ _ _ _ _ e3)).2
  have C2 : xCtx l G p e room_1 s m #[Value.ref b] below meth c M0 (xoff (x0 L xs)) uE (some (.int 1)) (lw_Z below #[Value.ref b] s) := by
    refine ⟨hx, hb, hml, hown, hw, fun hn => absurd hn (by decide), ⟨by decide, by decide, by show xT uE - 0 ≤ 601024; omega, by show xS uE - 0 ≤ 7293034; omega⟩, ⟨hE, fun q => by cases q⟩, fun _ => hX', ?_, ?_, ?_, ?_⟩
    · intro pc lsA H locs v ty hd hrF hty hnar hHF hS
      have ev : (1 : Int32) = v := Value.int.inj (Option.some.inj hrF)
      subst ev
      exact va_forget (fun q hq => by have h9 : gB G ≤ q.base := hS.2.2 q hq; rw [← eB]; exact h9) (W.widen (k := 601024) (n := 7293034) (by show xT uE - 0 ≤ 601024; omega) (by show xS uE - 0 ≤ 7293034; omega) (lw_ret hx hb hr hlocks hd))
    · intro pc lsA H locs v hd hrF
      cases hrF
    · intro pc lsA H locs hd hrF
      cases hrF
    · intro pc lsA H locs ix ic hn
      exact absurd hn.1 (by decide)
  have w23 := hrun p e room_1 s m #[Value.ref b] below meth c (xoff (x0 L xs)) _ C2
  have k23 : xWst l G p e room_1 s m #[Value.ref b] below meth c M0 (x0 L xs) (lw_Z below #[Value.ref b] s) 23 [.ref 2000000, .ref 0, .ref 278, .ref 295, .int 0, .null, .null] [] (xnew u2 14 1 1) := fun lsA H locs hL hH hS hle => w23 lsA H locs hL hH hS ⟨hle.1, hle.2.1, rfl, fun q => by cases q⟩
  -- what comes before it
  have C1 : xCtx l G p e room_1 s m #[Value.ref b] below meth c M0 (x0 L xs) (xnew u2 14 1 1) (some (.retAddr 7)) (lw_Z below #[Value.ref b] s) := by
    refine ⟨hx, hb, hml, hown, hw, fun hn => absurd hn (by decide), ⟨by decide, by decide, by show xT (xnew u2 14 1 1) - 0 ≤ 601024; omega, by show xS (xnew u2 14 1 1) - 0 ≤ 7293034; omega⟩, ⟨hE, fun _ => by rw [eB]; rfl⟩, fun _ => hX', ?_, ?_, ?_, ?_⟩
    · intro pc lsA H locs v ty hd hrF
      cases hrF
    · intro pc lsA H locs v hd hrF
      cases hrF
    · intro pc lsA H locs hd hrF
      cases hrF
    · intro pc lsA H locs ix ic hn
      exact absurd hn.1 (by decide)
  have go : ∀ {pc ls st u pc1 ls1 st1 u9}, xcd3 0 pc ls st u = xgo pc1 ls1 st1 u9 → xle u9 (xnew u2 14 1 1) → xWst l G p e room_1 s m #[Value.ref b] below meth c M0 (x0 L xs) (lw_Z below #[Value.ref b] s) pc1 ls1 st1 u9 → xWst l G p e room_1 s m #[Value.ref b] below meth c M0 (x0 L xs) (lw_Z below #[Value.ref b] s) pc ls st u := fun {pc ls st u pc1 ls1 st1 u9} h hle k => ((sndL0 (G := G) hl pc).2 p e room_1 s m #[Value.ref b] below meth c (x0 L xs) (xnew u2 14 1 1) (some (.retAddr 7)) (lw_Z below #[Value.ref b] s) C1 ls st u _ h).2 hle k
  have ca : ∀ {pc ls st u m' as pc1 ls1 st1 r1 u9}, xcd3 0 pc ls st u = xcal m' as pc1 ls1 st1 u → xle u u9 → xle u9 (xnew u2 14 1 1) → xMet l G (xtb m') as u r1 u9 → xWst l G p e room_1 s m #[Value.ref b] below meth c M0 (x0 L xs) (lw_Z below #[Value.ref b] s) pc1 ls1 (r1.toList ++ st1) u9 → xWst l G p e room_1 s m #[Value.ref b] below meth c M0 (x0 L xs) (lw_Z below #[Value.ref b] s) pc ls st u := fun {pc ls st u m' as pc1 ls1 st1 r1 u9} h h1 h2 hM k => ((sndL0 (G := G) hl pc).2 p e room_1 s m #[Value.ref b] below meth c (x0 L xs) (xnew u2 14 1 1) (some (.retAddr 7)) (lw_Z below #[Value.ref b] s) C1 ls st u _ h).2 r1 u9 h1 h2 hM k
  have z3 : xle (xnew u2 14 1 1) (xnew u2 14 1 1) := xle.rf _
  have z2 : xle u2 (xnew u2 14 1 1) := xle_new
  have zb : xle (xnew u1 11 0 32) (xnew u2 14 1 1) := l2.tr z2
  have z1 : xle u1 (xnew u2 14 1 1) := xle.tr xle_new zb
  have za : xle (xnew (x0 L xs) 10 0 7) (xnew u2 14 1 1) := l1.tr z1
  have k21 := go (pc := 21) (ls := [.ref 2000000, .ref 0, .ref 278, .ref 295, .null, .null, .null]) (st := [.int 0]) (u := xnew u2 14 1 1) (by rw [o3_21]; rfl) z3 k23
  have k20 := go (pc := 20) (ls := [.ref 2000000, .ref 0, .ref 278, .ref 295, .null, .null, .null]) (st := []) (u := xnew u2 14 1 1) (by rw [o3_20]; rfl) z3 k21
  have k19 := go (pc := 19) (ls := [.ref 2000000, .ref 0, .ref 278, .null, .null, .null, .null]) (st := [.ref 295]) (u := xnew u2 14 1 1) (by rw [o3_19]; rfl) z3 k20
  have k17 := go (pc := 17) (ls := [.ref 2000000, .ref 0, .ref 278, .null, .null, .null, .null]) (st := [.int 1]) (u := u2) (by
    rw [o3_17]
    show (if (xV u2 = true ∧ xW u2 < 1000000) ∧ ((0 : Int32) ≤ 1 ∧ (1 : Int32) ≤ 2000) then xgo 19 _ (.ref (xW u2) :: []) (xnew u2 14 1 1) else none) = _
    rw [if_pos ⟨⟨v2, by omega⟩, by decide, by decide⟩, w2]) z3 k19
  have k16 := go (pc := 16) (ls := [.ref 2000000, .ref 0, .ref 278, .null, .null, .null, .null]) (st := []) (u := u2) (by rw [o3_16]; rfl) z2 k17
  have k15 := go (pc := 15) (ls := [.ref 2000000, .ref 0, .null, .null, .null, .null, .null]) (st := [.ref 278]) (u := u2) (by rw [o3_15]; rfl) z2 k16
  have k12 := ca (pc := 12) (ls := [.ref 2000000, .ref 0, .null, .null, .null, .null, .null]) (st := [.ref 278, .ref 278]) (u := xnew u1 11 0 32) (m' := 170) (as := [.ref 278]) (st1 := [.ref 278]) (r1 := none) (by
    rw [o3_12]
    exact if_pos ⟨i11, by decide⟩) l2 z2 m2 k15
  have k11 := go (pc := 11) (ls := [.ref 2000000, .ref 0, .null, .null, .null, .null, .null]) (st := [.ref 278]) (u := xnew u1 11 0 32) (by rw [o3_11]; rfl) zb k12
  have k8 := go (pc := 8) (ls := [.ref 2000000, .ref 0, .null, .null, .null, .null, .null]) (st := []) (u := u1) (by
    rw [o3_8]
    show (if xV u1 = true ∧ xW u1 < 1000000 then xgo 11 _ (.ref (xW u1) :: []) (xnew u1 11 0 32) else none) = _
    rw [if_pos ⟨v1, by omega⟩, w1]) zb k11
  have k7 := go (pc := 7) (ls := [.ref 2000000, .null, .null, .null, .null, .null, .null]) (st := [.ref 0]) (u := u1) (by rw [o3_7]; rfl) z1 k8
  have k4 := ca (pc := 4) (ls := [.ref 2000000, .null, .null, .null, .null, .null, .null]) (st := [.ref 0, .ref 0]) (u := xnew (x0 L xs) 10 0 7) (m' := 106) (as := [.ref 0]) (st1 := [.ref 0]) (r1 := none) (by
    rw [o3_4]
    show (if (0 < xW (xnew (x0 L xs) 10 0 7) ∧ xK (xnew (x0 L xs) 10 0 7) 0 = 10) ∧ xcat [.ref 0] ≤ 8 then xcal 106 [.ref 0] 7 _ [.ref 0] (xnew (x0 L xs) 10 0 7) else none) = _
    exact if_pos (And.intro i10 (by decide))) l1 z1 m1 k7
  have k3 := go (pc := 3) (ls := [.ref 2000000, .null, .null, .null, .null, .null, .null]) (st := [.ref 0]) (u := xnew (x0 L xs) 10 0 7) (by rw [o3_3]; rfl) za k4
  have k0 := go (pc := 0) (ls := [.ref 2000000, .null, .null, .null, .null, .null, .null]) (st := []) (u := x0 L xs) (by
    rw [o3_0]
    exact if_pos ⟨rfl, Nat.le_of_ble_eq_true rfl⟩) za k3
  have hH0 : xHold G (x0 L xs) s.heap := ⟨(fun k q h => by have h : ([] : va_W)[k]? = some q := h; simp at h), (by show 0 ≤ 1000000; omega), eL.symm, fun j => by rw [ex]; rfl⟩
  have e1 : [Value.ref 2000000].map (xtr G) = [.ref b] := by
    show [Value.ref (gad G 2000000)] = _
    rw [eb]
  have hL0 := xLR_entry (G := G) (as := [.ref 2000000]) (n := 7) (Nat.le_of_ble_eq_true rfl)
  rw [e1] at hL0
  have K := k0 _ s.heap [] hL0 hH0 hS0 (xle.rf _)
  rw [lg_entry_eq]
  exact K
set_option maxHeartbeats 4000000 in
theorem lw_walk (l : Launch) (hflags : l.flags = flags0) (b : Addr) (xs : List Int32) : MetFree l x (headSpec (Jvm.Cond.code x code maxLocals ret :: tables_1) room_1) (lw_P b xs) (fun _ _ _ _ _ => True) lw_Q := by
  refine MetFree.of_bodyS (code := code) (maxLocals := maxLocals) (ret := ret) (by decide) ?_ ?_
  · intro args s m h hn
    obtain ⟨meth, c, h1, h2, h3, h4, h5, h6, -, -⟩ := Cond.code_spec hn (atoms_spec (ws := Jvm.Cond.code x code maxLocals ret :: tables_1) h _ List.mem_cons_self)
    exact ⟨meth, c, h1, h2, h3, h4, h5, h6⟩
  · intro p e s m args below meth c s₁ B hml0 hP _
    obtain ⟨rfl, hx, hbd, hgv⟩ := hP
    obtain ⟨scr, harrAt, hlist, hof, hsmall⟩ := hx
    obtain ⟨hcb, hkn, -, -⟩ := State.arrayAt?_spec harrAt
    have hown : s.vm.findClass R_law = some m.cls := findClass_of_methodNamed B.named
    have hts0 : ∀ c ∈ (Jvm.Cond.code x code maxLocals ret :: tables_1), c.before #[Value.ref b] s = true := atoms_spec (ws := Jvm.Cond.code x code maxLocals ret :: tables_1) B.pre
    have hts : ∀ w ∈ lw_tbl, w.before #[Value.ref b] s = true := k2_hts_sels lw_privs (fun w hw => hts0 w (List.mem_cons_of_mem _ hw)) lw_privs_ok
    have hml : c.maxLocals = 7 := B.maxLocals_eq (hts0 _ List.mem_cons_self)
    have X₀ : Stand p l e room_1 s m #[Value.ref b] below meth c s₁ [] 0 0 := Stand.of_body B
    have hh0 : s₁.heap = s.heap := by rw [B.state]; rfl
    have hsz : scr.slots.size = xs.length := by rw [← Array.length_toList, hlist, List.length_map]
    have hval : ∀ j : Nat, j < xs.length → scr.slots[j]? = some (.int (xs.getD j 0)) := fun j hj => by
      rw [← Array.getElem?_toList, hlist]
      simp [hj]
    have hbl : b < s.heap.size := (Array.getElem?_eq_some_iff.mp hcb).1
    have hX : va_X b xs.length (fun j => xs.getD j 0) s s.heap := ⟨scr, hcb, hof, hkn, hsz, hval⟩
    have K : W p l e room_1 s m #[Value.ref b] below meth c s₁.heap [] 0 0 (lw_Z below #[Value.ref b] s) (entryFrame m ([Value.ref b] : List Value).toArray 7) := by
      rw [hh0]
      exact whole_start l hflags hbd ⟨B.exec, B.bytes, B.returns, hml, hown, hts, hX, hbl, B.notSynchronized, hgv, hts0 _ List.mem_cons_self⟩
    obtain ⟨t, a1, o, b1, b2, b3⟩ := K s₁ rfl X₀
    exact ⟨t, o, a1, b1, b2, b3⟩
theorem lw_pre_spec {args : Array Value} {s : State} (h : (Jvm.Cond.and given_1 narrow_1).before args s = true) (hr : rest_1_c.before args s = true) : ∃ (b : Addr) (xs : List Int32), lw_P b xs args s := by
  have hs := flat_of_before _ h
  have hq := flat_of_before _ hr
  have hc : (Cond.count 1).before args s = true := hs _ (by decide +kernel)
  have harr : (Cond.arrayOf (.arg 0) .int).before args s = true := hs _ (by decide +kernel)
  have hle : (Cond.le (.length (.arg 0)) (.int 4096)).before args s = true := hs _ (by decide +kernel)
  have hlen : (Cond.isInt (.length (.arg 0))).before args s = true := hq _ (by decide +kernel)
  have hall : (Cond.all (.arg 0) (.isInt (.elem (.arg 0) (.index 0)))).before args s = true := hq _ (by decide +kernel)
  obtain ⟨b, xs, hb, hx⟩ := State.ints_of_pre rfl harr hlen hall
  have hsm : xs.length < 2 ^ 31 := hx.choose_spec.2.2.2
  have hev : (Term.length (.arg 0)).eval args s none [] s = some (.int xs.length.toInt32) := hx.length_eval hb
  have hv := Cond.le_ints hev (show (Term.int 4096).eval args s none [] s = some (.int 4096) from rfl)
  have hd : xs.length.toInt32 ≤ 4096 := by
    simpa [Cond.before, Cond.holds, hv] using hle
  have hN : xs.length ≤ 4096 := (Int32.ofNat_le_ofNat hsm (by decide)).mp (show Int32.ofNat xs.length ≤ Int32.ofNat 4096 from hd)
  exact ⟨b, xs, Cond.one_arg hc (show args[0]? = some (.ref b) from hb), hx, hN, h⟩
theorem lw_comes (l : Launch) (hflags : l.flags = flags0) : Comes l x (Jvm.Cond.code x code maxLocals ret :: tables_1) room_1 (fun tb e args s => Calls_1 tb e args s ∧ rest_1 tb e args s ∧ Pre_1 tb e args s)
    (fun _ _ args s o t => lw_Q args s o t) := by
  intro p e ha hc hk s m args below hf hfit hheap happ hpre
  obtain ⟨b, xs, hP⟩ := lw_pre_spec hpre.2.2 hpre.2.1
  obtain ⟨k, o, h1, h2, h3, hQ⟩ := lw_walk l hflags b xs p e ha hc hk s m args below hf ((Spec.applies_iff_loose hf).mp happ).1 hP trivial
  exact ⟨k, o, h1, h2, h3, hQ⟩
theorem lw_frame {s t : State} {o : Outcome} {args : Array Value} (h : Framed s o t [] 601024 7293034) :
    Framed s o t (fieldLocs frame_1_writes args s ++ arrayLocs frame_1_arrays args s ++ staticLocs frame_1_statics s) 601024 7293034 := h
theorem lw_limb (L : Cond) (hL : ∀ (args : Array Value) (s t : State), L.after args s (.returned (some (.int 1))) t = true) :
    ArmFor flags0 classFile x code maxLocals ret World_1 tables_1 room_1 Calls_1 rest_1 Pre_1
      (fun tb e a s o t => postC L tb e a s o t ∧ Framed s o t (fieldLocs frame_1_writes a s ++ arrayLocs frame_1_arrays a s ++ staticLocs frame_1_statics s) 601024 7293034) := by
  intro l hflags _ _ p e ha hc hk s m args below hf hfit hheap happ hpre
  obtain ⟨k, o, h1, h2, h3, rfl, hF⟩ := lw_comes l hflags p e ha hc hk s m args below hf hfit hheap happ hpre
  exact ⟨k, _, h1, h2, h3, hL args s _, lw_frame hF⟩
theorem i_vc : Claimed_1_1 ∧ Claimed_1_2 := ⟨lw_limb limb_1_1 (fun args s t => by simp [limb_1_1, Cond.after, Cond.holds, Cond.value]), lw_limb limb_1_2 (fun args s t => Cond.after_iff.mpr (by
  first | (rw [show limb_1_2 = Cond.eq .result (.int 1) from rfl, Cond.eq_ints (x := 1) (y := 1) rfl rfl]; simp; done) | (simp [limb_1_2, Cond.value, Term.eval]; done)))⟩
