/-! DESK in class and model -/
section
variable {u w g : xMem} {P : Option Value → xMem → Prop} {D E s nl np nb nc nr nh nk n nf na f : Nat} {p q d x y c e k a t i l what many layer till price units : Int32} {op : Bool}
/-! no fault where all went well -/
theorem nxt_nf : xI (nxt u) 1 5 = xI u 1 5 := rfl
theorem word_nf {k : Nat} (h : (cWord u k).1 = true) : xI (cWord u k).2 1 5 = xI u 1 5 := by
  unfold cWord at h ⊢
  split at h
  · next c => rw [if_pos c]; rfl
  · cases h
theorem whole_nf {lo hi : Int32} (h : 0 ≤ (cWhole u lo hi).1) : xI (cWhole u lo hi).2 1 5 = xI u 1 5 := by
  unfold cWhole at h ⊢
  by_cases c1 : xI u 2 5 = 2
  · rw [if_pos c1] at h ⊢
    by_cases c2 : lo ≤ xI u 2 7 ∧ xI u 2 7 ≤ hi
    · rw [if_pos c2]; rfl
    · rw [if_neg c2] at h
      exact absurd h (show ¬ (0 : Int32) ≤ -1 by decide)
  · rw [if_neg c1] at h
    exact absurd h (show ¬ (0 : Int32) ≤ -1 by decide)
theorem name_nf {A m : Nat} (h : 0 ≤ (cName u A m).1) : xI (cName u A m).2 1 5 = xI u 1 5 := by
  unfold cName at h ⊢
  by_cases c1 : cNm u = true
  · rw [if_pos c1] at h ⊢
    by_cases c2 : 0 ≤ fIx (xJ u A) (xJ u 2 6) m 0
    · rw [if_pos c2]; rfl
    · rw [if_neg c2] at h
      exact absurd h (show ¬ (0 : Int32) ≤ -1 by decide)
  · rw [if_neg c1] at h
    exact absurd h (show ¬ (0 : Int32) ≤ -1 by decide)
theorem fresh_nf (h : 0 ≤ lg_cmp (cFresh u nc np).1 0) : xI (cFresh u nc np).2 1 5 = xI u 1 5 := by
  unfold cFresh at h ⊢
  by_cases c1 : cNm u = true
  · rw [if_pos c1] at h ⊢
    by_cases c2 : 0 ≤ fIx (xJ u 4) (xJ u 2 6) nc 0 ∨ 0 ≤ fIx (xJ u 5) (xJ u 2 6) np 0
    · rw [if_pos c2] at h
      exact absurd h (show ¬ 0 ≤ lg_cmp (-1) 0 by decide)
    · rw [if_neg c2]; rfl
  · rw [if_neg c1] at h
    exact absurd h (show ¬ 0 ≤ lg_cmp (-1) 0 by decide)
theorem start_nf {x y : Int32} (h : (cStart u x y).1 = true) : xI (cStart u x y).2 1 5 = xI u 1 5 := by
  rw [(cStart_t h).2.2]
  rfl
theorem thW_nf {r : Bool × xMem} {k : xMem → Bool × xMem} (h : (thW r k).1 = true) (h1 : r.1 = true → xI r.2 1 5 = xI u 1 5) (h2 : (k r.2).1 = true → xI (k r.2).2 1 5 = xI r.2 1 5) : xI (thW r k).2 1 5 = xI u 1 5 := by
  by_cases c : r.1 = true
  · rw [thW_t c] at h ⊢
    exact (h2 h).trans (h1 c)
  · rw [thW_f c] at h
    cases h
theorem thI_nf {r : Int32 × xMem} {k : Int32 → xMem → Bool × xMem} (h : (thI r k).1 = true) (h1 : 0 ≤ r.1 → xI r.2 1 5 = xI u 1 5) (h2 : (k r.1 r.2).1 = true → xI (k r.1 r.2).2 1 5 = xI r.2 1 5) : xI (thI r k).2 1 5 = xI u 1 5 := by
  by_cases c : 0 ≤ r.1
  · rw [thI_t c] at h ⊢
    exact (h2 h).trans (h1 c)
  · rw [thI_f c] at h
    cases h
theorem thJ_nf {r : Int64 × xMem} {k : Int64 → xMem → Bool × xMem} (h : (thJ r k).1 = true) (h1 : 0 ≤ lg_cmp r.1 0 → xI r.2 1 5 = xI u 1 5) (h2 : (k r.1 r.2).1 = true → xI (k r.1 r.2).2 1 5 = xI r.2 1 5) : xI (thJ r k).2 1 5 = xI u 1 5 := by
  by_cases c : 0 ≤ lg_cmp r.1 0
  · rw [thJ_t c] at h ⊢
    exact (h2 h).trans (h1 c)
  · rw [thJ_f c] at h
    cases h
theorem desk_nf (hE : E = 6 ∨ E = 34) (h : (cDesk u E).1 = true) : xI (cDesk u E).2 1 5 = xI u 1 5 := by
  unfold cDesk at h ⊢
  refine thW_nf h (fun q => (word_nf q).trans nxt_nf) (fun h => thI_nf h (fun q => whole_nf q) (fun h => thW_nf h (fun q => word_nf q) (fun h => thI_nf h (fun q => whole_nf q) (fun h => ?_))))
  show xI (xsI (mBeg _ E _ _) 1 4 1) 1 5 = _
  unfold mBeg
  simp (disch := omega) only [xI_ne]
theorem class2_nf (hE : E = 6 ∨ E = 34) {nm : Int64} : xI (cClass2 E nc nm x u).2 1 5 = xI u 1 5 := by
  show xI (mAddC (xsJ u 4 nc nm) E nc x) 1 5 = _
  unfold mAddC
  simp (disch := omega) only [xI_ne, xI_sJ]
theorem class_nf (hE : E = 6 ∨ E = 34) (h : (cClass u E nc np).1 = true) : xI (cClass u E nc np).2 1 5 = xI u 1 5 := by
  unfold cClass at h ⊢
  refine thJ_nf h (fun q => fresh_nf q) (fun h => ?_)
  split at h
  · next c => rw [if_pos c]; exact (thI_nf h (fun q => name_nf q) (fun _ => class2_nf hE)).trans nxt_nf
  · next c => rw [if_neg c]; exact class2_nf hE
theorem place2_nf (hE : E = 6 ∨ E = 34) {nm : Int64} {t : Bool} : xI (cPlace2 E np nm x t u).2 1 5 = xI u 1 5 := by
  show xI (mAddP (xsJ u 5 np nm) E np x (bI t)) 1 5 = _
  unfold mAddP
  simp (disch := omega) only [xI_ne, xI_sJ]
theorem place_nf (hE : E = 6 ∨ E = 34) (h : (cPlace u E nc np nl).1 = true) : xI (cPlace u E nc np nl).2 1 5 = xI u 1 5 := by
  unfold cPlace at h ⊢
  refine thJ_nf h (fun q => fresh_nf q) (fun h => thW_nf h (fun q => word_nf q) (fun h => thI_nf h (fun q => whole_nf q) (fun h => ?_)))
  split at h
  · next c => rw [if_pos c]; exact (place2_nf hE).trans nxt_nf
  · next c => rw [if_neg c]; exact place2_nf hE
theorem rate_nf (hE : E = 6 ∨ E = 34) (h : (cRate u E nc np nr).1 = true) : xI (cRate u E nc np nr).2 1 5 = xI u 1 5 := by
  unfold cRate at h ⊢
  refine thI_nf h (fun q => name_nf q) (fun h => thI_nf h (fun q => name_nf q) (fun h => thI_nf h (fun q => whole_nf q) (fun h => thI_nf h (fun q => whole_nf q) (fun h => ?_))))
  show xI (mAddR _ (E + 14) nr _ _ _ _) 1 5 = _
  unfold mAddR
  simp (disch := omega) only [xI_ne]
theorem hol_nf (hE : E = 6 ∨ E = 34) (h : (cHol u E nc np nh).1 = true) : xI (cHol u E nc np nh).2 1 5 = xI u 1 5 := by
  unfold cHol at h ⊢
  refine thI_nf h (fun q => name_nf q) (fun h => thI_nf h (fun q => name_nf q) (fun h => thI_nf h (fun q => whole_nf q) (fun h => thI_nf h (fun q => whole_nf q) (fun h => thW_nf h (fun q => word_nf q) (fun h => thI_nf h (fun q => whole_nf q) (fun h => ?_))))))
  show xI (mAddH _ (E + 12) nh _ _ _ _ _) 1 5 = _
  unfold mAddH
  simp (disch := omega) only [xI_ne]
theorem cap_nf (hE : E = 6 ∨ E = 34) (h : (cCap u E nc np nk).1 = true) : xI (cCap u E nc np nk).2 1 5 = xI u 1 5 := by
  unfold cCap at h ⊢
  refine thI_nf h (fun q => name_nf q) (fun h => thI_nf h (fun q => name_nf q) (fun h => ?_))
  split at h
  · cases h
  · next c =>
    rw [if_neg c]
    refine thI_nf h (fun q => whole_nf q) (fun h => ?_)
    show xI (mAddK _ (E + 12) nk _ _ _) 1 5 = _
    unfold mAddK
    simp (disch := omega) only [xI_ne]
theorem cor_nf (hE : E = 6 ∨ E = 34) : ∀ r i u, 0 ≤ (cCor E nb x r i u).1 → xI (cCor E nb x r i u).2 1 5 = xI u 1 5 := by
  intro r
  induction r with
  | zero => intro i u _; rfl
  | succ r ih =>
    intro i u h
    unfold cCor at h ⊢
    split at h
    · next c0 =>
      rw [if_pos c0]
      split at h
      · next c1 =>
        rw [if_pos c1]
        split at h
        · next c2 =>
          rw [if_pos c2]
          refine (ih _ _ h).trans ?_
          unfold mPut
          simp (disch := omega) only [xI_ne]
          exact (whole_nf c2).trans (whole_nf c1)
        · exact absurd h (show ¬ (0 : Int32) ≤ -1 by decide)
      · exact absurd h (show ¬ (0 : Int32) ≤ -1 by decide)
    · next c0 => rw [if_neg c0]
theorem bound_nf (hE : E = 6 ∨ E = 34) (h : (cBound u E np nb s).1 = true) : xI (cBound u E np nb s).2 1 5 = xI u 1 5 := by
  unfold cBound at h ⊢
  refine thI_nf h (fun q => name_nf q) (fun h => thI_nf h (fun q => whole_nf q) (fun h => ?_))
  have ad : ∀ (v : xMem) (p d m : Int32), xI (mAdd v (E + 4) nb p d m) 1 5 = xI v 1 5 := fun v p d m => by
    unfold mAdd
    simp (disch := omega) only [xI_ne]
  split at h
  · next c => rw [if_pos c]; exact (ad _ _ _ _).trans nxt_nf
  · next c => rw [if_neg c]; exact thI_nf h (fun q => cor_nf hE _ _ _ q) (fun _ => ad _ _ _ _)
theorem line_nf (hE : E = 6 ∨ E = 34) (h : (cLine u E).1 = true) : xI (cLine u E).2 1 5 = xI u 1 5 := by
  unfold cLine at h ⊢
  by_cases c0 : cSay u 0 = true
  · rw [if_pos c0] at h ⊢
    by_cases cb : xI u 1 4 = 0
    · rw [if_pos cb] at h ⊢
      exact desk_nf hE h
    · rw [if_neg cb] at h
      cases h
  rw [if_neg c0] at h ⊢
  by_cases c1 : cSay u 1 = true
  · rw [if_pos c1] at h ⊢
    exact thW_nf h (fun q => start_nf q) (fun h => class_nf hE h)
  rw [if_neg c1] at h ⊢
  by_cases c2 : cSay u 2 = true
  · rw [if_pos c2] at h ⊢
    exact thW_nf h (fun q => start_nf q) (fun h => place_nf hE h)
  rw [if_neg c2] at h ⊢
  by_cases c3 : cSay u 3 = true
  · rw [if_pos c3] at h ⊢
    exact thW_nf h (fun q => start_nf q) (fun h => bound_nf hE h)
  rw [if_neg c3] at h ⊢
  by_cases c4 : cSay u 4 = true
  · rw [if_pos c4] at h ⊢
    exact thW_nf h (fun q => start_nf q) (fun h => rate_nf hE h)
  rw [if_neg c4] at h ⊢
  by_cases c5 : cSay u 5 = true
  · rw [if_pos c5] at h ⊢
    exact thW_nf h (fun q => start_nf q) (fun h => hol_nf hE h)
  rw [if_neg c5] at h ⊢
  by_cases c6 : cSay u 6 = true
  · rw [if_pos c6] at h ⊢
    exact thW_nf h (fun q => start_nf q) (fun h => cap_nf hE h)
  rw [if_neg c6] at h
  cases h
theorem reads_nf (hE : E = 6 ∨ E = 34) : ∀ r u, (cReads E r u).1 = true → xI (cReads E r u).2 1 5 = xI u 1 5 := by
  intro r
  induction r with
  | zero => intro u h; cases h
  | succ r ih =>
    intro u h
    unfold cReads at h ⊢
    by_cases c0 : (cLine u E).1 = true
    · rw [if_pos c0] at h ⊢
      have e := line_nf hE c0
      by_cases c1 : xI (cLine u E).2 2 5 = 0
      · rw [if_pos c1] at h ⊢
        by_cases c2 : cOk (cLine u E).2 E = true
        · rw [if_pos c2]; exact e
        · rw [if_neg c2] at h; cases h
      · rw [if_neg c1] at h ⊢
        by_cases c2 : xI (cLine u E).2 2 5 = 3
        · rw [if_pos c2] at h ⊢
          exact (ih _ h).trans e
        · rw [if_neg c2] at h; cases h
    · rw [if_neg c0] at h; cases h
end
