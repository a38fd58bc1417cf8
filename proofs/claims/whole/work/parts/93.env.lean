/-! THE START: what the Statement gives -/
def xfl : List Cond := flatC (Jvm.Cond.and given_1 narrow_1)
def xtms : List (String × Nat) := [(RX7, 89), (RX7, 97), (RX8, 67), (RX8, 69), (RX8, 71), (RX8, 73), (RX8, 75), (RX8, 77), (RX8, 79), (RX8, 81), (RX7, 152), (RX7, 161), (RX7, 179), (RX7, 212)]
def xtm (i : Nat) : Term := .string (xtms.getD i (RX7, 0)).1 (xtms.getD i (RX7, 0)).2
def xtv (i : Nat) : Term := .field (xtm i) "java/lang/String" "value" "[B"
theorem fl_ex : ∀ i, i < 14 → Cond.exactly (xtm i) "java/lang/String" ∈ xfl := by decide +kernel
theorem fl_co : ∀ i, i < 14 → Cond.eq (.field (xtm i) "java/lang/String" "coder" "B") (.int 0) ∈ xfl := by decide +kernel
theorem fl_ar : ∀ i, i < 14 → Cond.arrayOf (xtv i) .byte ∈ xfl := by decide +kernel
theorem fl_le : ∀ i, i < 14 → Cond.eq (.length (xtv i)) (.int (Int32.ofNat (xlens.getD i 0))) ∈ xfl := by decide +kernel
theorem fl_el : ∀ i, i < 14 → ∀ j, j < xlens.getD i 0 → Cond.eq (.elem (xtv i) (.int (Int32.ofNat j))) (.int ((xbyts.getD i []).getD j 0)) ∈ xfl := by decide +kernel
theorem fl_sr : ∀ q ∈ xstrs, Term.string q.1 q.2.1 = xtm q.2.2.1 ∨ Cond.eq (xtm q.2.2.1) (.string q.1 q.2.1) ∈ xfl := by decide +kernel
theorem fl_cs : Cond.eq (.static "java/lang/String" "COMPACT_STRINGS" "Z") (.int 1) ∈ xfl := by decide +kernel
theorem fl_si : Cond.isRef (.static "jdk/internal/util/Preconditions" "SIOOBE_FORMATTER" "Ljava/util/function/BiFunction;") ∈ xfl := by decide +kernel
theorem fl_un : Cond.isRef (.static Bundle.tN "UNASSIGNED_STACK" Bundle.steD) ∈ xfl := by decide +kernel
theorem fl_su : Cond.isRef (.static Bundle.tN "SUPPRESSED_SENTINEL" Bundle.listD) ∈ xfl := by decide +kernel
theorem tb_sr : ∀ q ∈ xstrs, q.2.2.1 < 14 ∧ Cond.stringRef q.1 q.2.1 q.2.2.2 ∈ lw_tbl := by decide +kernel
theorem tb_ns : ∀ q ∈ xnest, Cond.methodLinkNest q.1 q.2.1 q.2.2.1 q.2.2.2 ∈ lw_tbl := by decide +kernel
theorem tb_in : ∀ c, c < 12 → Cond.instantiable (xcn c) (xnf c) ∈ lw_tbl := by decide +kernel
theorem tb_ac : ∀ ty ∈ [FieldType.byte, .int, .long, .boolean], Cond.arrayClass ty ∈ lw_tbl := by decide +kernel
theorem tb_ao : Cond.arrayOver (.object RX5) ∈ lw_tbl := by decide +kernel
theorem tb_de : ∀ y ∈ xdecl, Cond.declares y ∈ lw_tbl := by decide +kernel
theorem tb_ca : Cond.castable xnse xnse ∈ lw_tbl := by decide +kernel
theorem tb_cs : Cond.laysStatic "java/lang/String" "COMPACT_STRINGS" "Z" ∈ lw_tbl := by decide +kernel
theorem tb_si : Cond.laysStatic "jdk/internal/util/Preconditions" "SIOOBE_FORMATTER" "Ljava/util/function/BiFunction;" ∈ lw_tbl := by decide +kernel
theorem tb_un : Cond.laysStatic Bundle.tN "UNASSIGNED_STACK" Bundle.steD ∈ lw_tbl := by decide +kernel
theorem tb_su : Cond.laysStatic Bundle.tN "SUPPRESSED_SENTINEL" Bundle.listD ∈ lw_tbl := by decide +kernel
theorem tb_i0 : Cond.initialized "java/lang/String" ∈ lw_tbl := by decide +kernel
theorem tb_i3 : Cond.initialized "jdk/internal/util/Preconditions" ∈ lw_tbl := by decide +kernel
theorem tb_it : Cond.initialized Bundle.tN ∈ lw_tbl := by decide +kernel
theorem xdist : ∀ i, i < 14 → ∀ j, j < 14 → xlens.getD i 0 = xlens.getD j 0 → (∀ q, q < xlens.getD i 0 → (xbyts.getD i []).getD q 0 = (xbyts.getD j []).getD q 0) → i = j := by decide +kernel
theorem xlen31 : ∀ i, i < 14 → xlens.getD i 0 < 2 ^ 31 := by decide +kernel
/-- the texts, where they lie -/
theorem xs_of {args : Array Value} {s : State} {A : Nat → Prop} (hf : ∀ w ∈ xfl, w.before args s = true) (hA : ∀ a : Nat, a < s.heap.size → ¬ A a) :
    ∃ adK adV : Nat → Nat, vk_S 14 xlens xbyts adK adV A s s.heap ∧ ∀ i : Nat, i < 14 → (xtm i).eval args s none [] s = some (.ref (adK i)) := by
  have h0 : ∀ i : Nat, ∃ q : Nat × Nat, i < 14 → (xtm i).eval args s none [] s = some (.ref q.1) ∧ va_O "java/lang/String" q.1 A s s.heap ∧ va_OF "java/lang/String" "coder" "B" (.int 0) q.1 A s s.heap ∧ va_OF "java/lang/String" "value" "[B" (.ref q.2) q.1 A s s.heap ∧ va_T .byte q.2 (xlens.getD i 0) (fun j => .int ((xbyts.getD i []).getD j 0)) A s s.heap := by
    intro i
    by_cases hi : i < 14
    · obtain ⟨a, c, cA, kA, q1, q2, q3, q4, q5, q6, -⟩ := Cond.exactly_spec (args := args) (first := s) (o := none) (s := s) (idx := []) (t := xtm i) (cls := "java/lang/String") (hf _ (fl_ex i hi))
      obtain ⟨t, ht, hT⟩ := va_Tof (f := fun j => .int ((xbyts.getD i []).getD j 0)) (A := A) (xlen31 i hi) (hf _ (fl_ar i hi)) (va_eqt (hf _ (fl_le i hi))) (fun j hj => va_eqt (hf _ (fl_el i hi j hj))) hA
      exact ⟨(a, t), fun _ => ⟨q1, ⟨cA, q3, q5, by rw [q6]; exact q2, hA a (Array.getElem?_eq_some_iff.mp q3).1⟩, vk_OFof q1 (va_eqt (hf _ (fl_co i hi))) hA, vk_OFof q1 ht hA, hT⟩⟩
    · exact ⟨(0, 0), fun h => absurd h hi⟩
  obtain ⟨ad, had⟩ := Classical.axiomOfChoice h0
  refine ⟨fun i => (ad i).1, fun i => (ad i).2, ⟨fun i hi => (had i hi).2, fun i j hi hj e => ?_⟩, fun i hi => (had i hi).1⟩
  obtain ⟨-, -, -, ⟨cf, k, fi, f, cell, a1, a2, a3, a4, a5, a6⟩, ⟨c1, t1, t2, t3, t4, t5, t6, t7⟩⟩ := had i hi
  obtain ⟨-, -, -, ⟨cf', k', fi', f', cell', b1, b2, b3, b4, b5, b6⟩, ⟨c2, s1, s2, s3, s4, s5, s6, s7⟩⟩ := had j hj
  have e : (ad i).1 = (ad j).1 := e
  cases a1.symm.trans b1
  rw [← e] at b3
  cases a3.symm.trans b3
  have ev : (ad i).2 = (ad j).2 := Value.ref.inj (Option.some.inj (a5.symm.trans b5))
  rw [← ev] at s1
  cases t1.symm.trans s1
  have en : xlens.getD i 0 = xlens.getD j 0 := (nI_eq (xlen31 i hi) (xlen31 j hj)).mp (t5.symm.trans s5)
  exact xdist i hi j hj en (fun q hq => Value.int.inj (Option.some.inj ((t6 q hq).symm.trans (s6 q (by omega)))))
/-- the frame of it all, out of the tables and the start's words -/
theorem xenv_of {s : State} {m : MethodId} {b L : Nat} {xs : Nat → Int32} (hts : ∀ w ∈ lw_tbl, w.before #[Value.ref b] s = true) (hgv : (Jvm.Cond.and given_1 narrow_1).before #[Value.ref b] s = true) :
    ∃ G : xG, gB G = s.heap.size ∧ gad G 2000000 = b ∧ gsl G = L ∧ gsx G = xs ∧ xEnv G s := by
  have hf : ∀ w ∈ xfl, w.before #[Value.ref b] s = true := flat_of_before _ hgv
  have hA : ∀ a : Nat, a < s.heap.size → ¬ (fun q : Nat => s.heap.size ≤ q) a := fun a h => Nat.not_le.mpr h
  obtain ⟨adK, adV, hK, hE⟩ := xs_of (A := fun q : Nat => s.heap.size ≤ q) hf hA
  have hc : ∀ c : Nat, ∃ q : ClassId × (Nat → Nat), c < 12 → u_Kn s (xcn c) (xct c) (xnf c) q.1 q.2 := fun c => by
    by_cases h : c < 12
    · obtain ⟨cC, iS, hk⟩ := u_known (C := xcn c) (T := xct c) (N := xnf c) (n := xnf c) hts (fun w hw => (List.mem_filter.mp (xlay_ok h w hw)).1) (hts _ (tb_in c h))
      exact ⟨(cC, iS), fun _ => hk⟩
    · exact ⟨(m.cls, fun _ => 0), fun q => absurd q h⟩
  obtain ⟨cl, hcl⟩ := Classical.axiomOfChoice hc
  have ha : ∀ ty ∈ [FieldType.byte, .int, .long, .boolean], ∃ c, ArrOfT s c ty ∧ s.vm.findClass ("[" ++ ty.toString) = some c := fun ty hty => by
    obtain ⟨c, k, comp, h1, h2, h3⟩ := Cond.arrayClass_spec (args := #[Value.ref b]) (first := s) (o := none) (s := s) (idx := []) (hts _ (tb_ac ty hty))
    exact ⟨c, fun n z => ⟨(fun k h => by cases h), k, h2, comp, h3⟩, h1⟩
  obtain ⟨a12, x12, y12⟩ := ha .byte (by simp)
  obtain ⟨a13, x13, y13⟩ := ha .int (by simp)
  obtain ⟨a14, x14, y14⟩ := ha .long (by simp)
  obtain ⟨a15, x15, y15⟩ := ha .boolean (by simp)
  obtain ⟨comp, a16, k16, g1, g2, g3, g4, g5⟩ := Cond.arrayOver_spec (args := #[Value.ref b]) (first := s) (o := none) (s := s) (idx := []) (hts _ tb_ao)
  obtain ⟨gf, egf⟩ : ∃ gf : Nat → Nat, gf = fun i => if i < 1000000 then s.heap.size + i else if i = 2000000 then b else adK (i - 1000000) := ⟨_, rfl⟩
  have ek : ∀ i, i < 14 → gf (1000000 + i) = adK i := fun i hi => by
    rw [egf]
    show (if 1000000 + i < 1000000 then _ else _) = _
    rw [if_neg (by omega), if_neg (by omega), Nat.add_sub_cancel_left]
  refine ⟨(fun c => (cl c).1, fun c => (cl c).2, s.heap.size, gf, fun k => if k = 12 then a12 else if k = 13 then a13 else if k = 14 then a14 else if k = 15 then a15 else a16, adV, L, xs), rfl, ?_, rfl, rfl, ?_⟩
  · show gf 2000000 = b
    rw [egf]
    rfl
  · refine ⟨fun i hi => ?_, Nat.le_refl _, ⟨fun c q hq => ?_, fun k q hq => ?_⟩, fun q hq => va_Nw.of rfl (hts _ (tb_ns q hq)), fun q hq => ?_, va_AO.of (hts _ tb_ao), ⟨⟨fun i hi => ?_, fun i j hi hj e => hK.2 i j hi hj ?_⟩, va_Zof (hts _ tb_cs) (hts _ tb_i0) (va_eqi (hf _ fl_cs)) hA, va_Zqof (hts _ tb_si) (hts _ tb_i3) (hf _ fl_si) hA, vx_Zqof (hts _ tb_un) (hts _ tb_it) (hf _ fl_un) hA, vx_Zqof (hts _ tb_su) (hts _ tb_it) (hf _ fl_su) hA, fun y hy => va_Nw.of rfl (hts _ (tb_de y hy)), va_Nw.of rfl (hts _ tb_ca)⟩⟩
    · show gf i = s.heap.size + i
      rw [egf]
      exact if_pos hi
    · have h : c < 12 := (List.getElem?_eq_some_iff.mp hq).1
      rw [xcl_at h] at hq
      cases hq
      exact hcl c h
    · match k, hq with
      | 0, hq => cases hq; exact ⟨x12, y12⟩
      | 1, hq => cases hq; exact ⟨x13, y13⟩
      | 2, hq => cases hq; exact ⟨x14, y14⟩
      | 3, hq => cases hq; exact ⟨x15, y15⟩
      | 4, hq => cases hq; exact ⟨fun N z => ⟨(fun k h => by cases h), k16, g3, comp, g4⟩, k16, comp, g3, g4, g1, g5⟩
      | k + 5, hq => cases hq
    · have hi := (tb_sr q hq).1
      show vk_R q.1 q.2.1 q.2.2.2 (gf (1000000 + q.2.2.1)) s
      rw [ek _ hi]
      refine vk_R.of (A := #[Value.ref b]) (hts _ (tb_sr q hq).2) ?_
      rcases fl_sr q hq with e | e
      · rw [e]
        exact hE _ hi
      · exact va_eqR (hf _ e) (hE _ hi)
    · show va_O _ (gf (1000000 + i)) _ _ _ ∧ va_OF _ _ _ _ (gf (1000000 + i)) _ _ _ ∧ va_OF _ _ _ _ (gf (1000000 + i)) _ _ _ ∧ _
      rw [ek i hi]
      exact hK.1 i hi
    · rw [← ek i hi, ← ek j hj]
      exact e
