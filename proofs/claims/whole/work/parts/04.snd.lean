/-! WHAT THE MACHINE HAS TO DO WITH THE ABSTRACT ONE -/
def xty (c k : Nat) : FieldType := match c with
  | 0 => tyX0 k
  | 1 => tyX1 k
  | 2 => tyX2 k
  | 3 => tyX3 k
  | 4 => tyX4 k
  | 5 => tyX5 k
  | 6 => tyX6 k
  | 7 => tyX7 k
  | 8 => tyX8 k
  | 9 => tyX9 k
  | 10 => tyX10 k
  | _ => tyX11 k
def xnf (c : Nat) : Nat := match c with
  | 0 => 4
  | 1 => 8
  | 2 => 6
  | 3 => 3
  | 4 => 9
  | 5 => 13
  | 6 => 5
  | 7 => 7
  | 8 => 8
  | 9 => 13
  | 10 => 7
  | _ => 32
def xcn (c : Nat) : String := match c with
  | 0 => RX0
  | 1 => RX1
  | 2 => RX2
  | 3 => RX3
  | 4 => RX4
  | 5 => RX5
  | 6 => RX6
  | 7 => RX7
  | 8 => RX8
  | 9 => RX9
  | 10 => RX10
  | _ => RX11
def xct (c : Nat) : u_T := match c with
  | 0 => TX0
  | 1 => TX1
  | 2 => TX2
  | 3 => TX3
  | 4 => TX4
  | 5 => TX5
  | 6 => TX6
  | 7 => TX7
  | 8 => TX8
  | 9 => TX9
  | 10 => TX10
  | _ => TX11
theorem xlt12 {c : Nat} (h : c < 12) : c = 0 ∨ c = 1 ∨ c = 2 ∨ c = 3 ∨ c = 4 ∨ c = 5 ∨ c = 6 ∨ c = 7 ∨ c = 8 ∨ c = 9 ∨ c = 10 ∨ c = 11 := by omega
theorem xcl_at {c : Nat} (h : c < 12) : vwCl[c]? = some (xcn c, xct c, xnf c) := by
  rcases xlt12 h with rfl | rfl | rfl | rfl | rfl | rfl | rfl | rfl | rfl | rfl | rfl | rfl <;> rfl
theorem xty_ok {c : Nat} (h : c < 12) : ∀ k, k < xnf c → parseFieldDescriptor (xct c k).2.2.1 = some (xty c k) := by
  rcases xlt12 h with rfl | rfl | rfl | rfl | rfl | rfl | rfl | rfl | rfl | rfl | rfl | rfl
  · exact tyX0_ok
  · exact tyX1_ok
  · exact tyX2_ok
  · exact tyX3_ok
  · exact tyX4_ok
  · exact tyX5_ok
  · exact tyX6_ok
  · exact tyX7_ok
  · exact tyX8_ok
  · exact tyX9_ok
  · exact tyX10_ok
  · exact tyX11_ok
theorem xnm_ok {c : Nat} (h : c < 12) : ∀ a, a < xnf c → ∀ b, b < xnf c → a ≠ b → (xct c a).2.1 ≠ (xct c b).2.1 := by
  rcases xlt12 h with rfl | rfl | rfl | rfl | rfl | rfl | rfl | rfl | rfl | rfl | rfl | rfl
  · exact nmX0
  · exact nmX1
  · exact nmX2
  · exact nmX3
  · exact nmX4
  · exact nmX5
  · exact nmX6
  · exact nmX7
  · exact nmX8
  · exact nmX9
  · exact nmX10
  · exact nmX11
/-- the words that every method is given -/
def xgood : List Cond := lw_tbl.filter goodWord
theorem xgood_in {w : Cond} (h : w ∈ lw_tbl) (g : goodWord w = true) : w ∈ xgood := List.mem_filter.mpr ⟨h, g⟩
theorem xgood_tb {w : Cond} (h : w ∈ tables_1) (g : goodWord w = true) : w ∈ xgood := xgood_in (List.mem_append_right _ h) g
theorem xlay0 : ∀ w ∈ u_ws RX0 TX0 4, w ∈ xgood := by decide +kernel
theorem xlay1 : ∀ w ∈ u_ws RX1 TX1 8, w ∈ xgood := by decide +kernel
theorem xlay2 : ∀ w ∈ u_ws RX2 TX2 6, w ∈ xgood := by decide +kernel
theorem xlay3 : ∀ w ∈ u_ws RX3 TX3 3, w ∈ xgood := by decide +kernel
theorem xlay4 : ∀ w ∈ u_ws RX4 TX4 9, w ∈ xgood := by decide +kernel
theorem xlay5 : ∀ w ∈ u_ws RX5 TX5 13, w ∈ xgood := by decide +kernel
theorem xlay6 : ∀ w ∈ u_ws RX6 TX6 5, w ∈ xgood := by decide +kernel
theorem xlay7 : ∀ w ∈ u_ws RX7 TX7 7, w ∈ xgood := by decide +kernel
theorem xlay8 : ∀ w ∈ u_ws RX8 TX8 8, w ∈ xgood := by decide +kernel
theorem xlay9 : ∀ w ∈ u_ws RX9 TX9 13, w ∈ xgood := by decide +kernel
theorem xlay10 : ∀ w ∈ u_ws RX10 TX10 7, w ∈ xgood := by decide +kernel
theorem xlay11 : ∀ w ∈ u_ws RX11 TX11 32, w ∈ xgood := by decide +kernel
theorem xlay_ok {c : Nat} (h : c < 12) : ∀ w ∈ u_ws (xcn c) (xct c) (xnf c), w ∈ xgood := by
  rcases xlt12 h with rfl | rfl | rfl | rfl | rfl | rfl | rfl | rfl | rfl | rfl | rfl | rfl
  · exact xlay0
  · exact xlay1
  · exact xlay2
  · exact xlay3
  · exact xlay4
  · exact xlay5
  · exact xlay6
  · exact xlay7
  · exact xlay8
  · exact xlay9
  · exact xlay10
  · exact xlay11
/-! the frame of it all: where the classes' numbers are, where the cells begin, where each number's cell lies, the arrays' classes, where the texts' bytes lie -/
abbrev xG : Type := (Nat → ClassId) × (Nat → Nat → Nat) × Nat × (Nat → Nat) × (Nat → ClassId) × (Nat → Nat) × Nat × (Nat → Int32)
def gD (G : xG) : va_G := (G.1, G.2.1)
def gB (G : xG) : Nat := G.2.2.1
def gad (G : xG) : Nat → Nat := G.2.2.2.1
def gcy (G : xG) : Nat → ClassId := G.2.2.2.2.1
def gav (G : xG) : Nat → Nat := G.2.2.2.2.2.1
def gsl (G : xG) : Nat := G.2.2.2.2.2.2.1
def gsx (G : xG) : Nat → Int32 := G.2.2.2.2.2.2.2
def xtr (G : xG) (v : Value) : Value := match v with
  | .ref i => .ref (gad G i)
  | v => v
def xfv (G : xG) (u : xMem) (i k : Nat) (ty : FieldType) : Value := match ty with
  | .long => .long (xJ u i k)
  | .array _ => va_rf ((xR u i k).map (gad G))
  | .object _ => va_rf ((xR u i k).map (gad G))
  | _ => .int (xI u i k)
def xfs (G : xG) (u : xMem) (i c : Nat) : List Value := (List.range (xnf c)).map (fun k => xfv G u i k (xty c k))
def xent (G : xG) (u : xMem) (i : Nat) : va_E :=
  if xK u i < 12 then .inr (xK u i, xfs G u i (xK u i))
  else if xK u i = 14 then .inl (gcy G 14, xN u i, .inr (.inl (xJ u i)))
  else if xK u i = 16 then .inl (gcy G 16, xN u i, .inr (.inr (.inr (.inr (fun j => (xR u i j).map (gad G))))))
  else .inl (gcy G (xK u i), xN u i, .inl (xI u i))
def xwl (G : xG) (u : xMem) : va_W := (List.range (xW u)).map (fun i => (gad G i, xent G u i))
def xA (G : xG) : Nat → Prop := fun q => gB G ≤ q
def xHold (G : xG) (u : xMem) (H : Heap) : Prop := va_P (gD G) vwCl (xwl G u) H ∧ xW u ≤ 1000000 ∧ xN u 2000000 = gsl G ∧ ∀ j, xI u 2000000 j = gsx G j
def xtys (G : xG) : List (ClassId × FieldType) := [(gcy G 12, .byte), (gcy G 13, .int), (gcy G 14, .long), (gcy G 15, .boolean), (gcy G 16, .object RX5)]
section XW
variable {G : xG} {u u' : xMem} {i c : Nat}
theorem xwl_get (h : i < xW u) : (xwl G u)[i]? = some (gad G i, xent G u i) := by simp [xwl, h]
theorem xwl_len : (xwl G u).length = xW u := by simp [xwl]
theorem xwl_set {e : va_E} (hW : xW u' = xW u) (he : ∀ j, xent G u' j = if j = i then e else xent G u j) : (xwl G u).set i (gad G i, e) = xwl G u' := by
  apply List.ext_getElem?
  intro j
  rw [List.getElem?_set]
  by_cases hj : j < xW u
  · rw [xwl_get hj, xwl_get (u := u') (by omega), he j]
    by_cases hji : i = j
    · subst hji
      simp [xwl_len, hj]
    · simp [hji, Ne.symm hji]
  · have h1 : (xwl G u)[j]? = none := List.getElem?_eq_none (by rw [xwl_len]; omega)
    have h2 : (xwl G u')[j]? = none := List.getElem?_eq_none (by rw [xwl_len]; omega)
    rw [h1, h2]
    by_cases hji : i = j
    · subst hji
      simp [xwl_len, hj]
    · simp [hji]
theorem xwl_push {e : va_E} (hW : xW u' = xW u + 1) (he : ∀ j, j < xW u → xent G u' j = xent G u j) (h1 : xent G u' (xW u) = e) : xwl G u' = xwl G u ++ [(gad G (xW u), e)] := by
  simp only [xwl, hW, List.range_succ, List.map_append, List.map_cons, List.map_nil, h1]
  congr 1
  apply List.map_congr_left
  intro j hj
  rw [he j (List.mem_range.mp hj)]
theorem xent_o (h : xK u i = c) (hc : c < 12) : xent G u i = .inr (c, xfs G u i c) := by subst h; simp [xent, hc]
theorem xent_i (h : xK u i = c) (hc : c = 12 ∨ c = 13 ∨ c = 15) : xent G u i = .inl (gcy G c, xN u i, .inl (xI u i)) := by
  rcases hc with rfl | rfl | rfl <;> simp [xent, h]
theorem xent_j (h : xK u i = 14) : xent G u i = .inl (gcy G 14, xN u i, .inr (.inl (xJ u i))) := by simp [xent, h]
theorem xent_r (h : xK u i = 16) : xent G u i = .inl (gcy G 16, xN u i, .inr (.inr (.inr (.inr (fun j => (xR u i j).map (gad G)))))) := by simp [xent, h]
theorem xfs_get {k : Nat} (h : k < xnf c) : (xfs G u i c)[k]? = some (xfv G u i k (xty c k)) := by simp [xfs, h]
theorem xfs_len : (xfs G u i c).length = xnf c := by simp [xfs]
theorem xfs_set {k : Nat} {v : Value} (h : ∀ j, xfv G u' i j (xty c j) = if j = k then v else xfv G u i j (xty c j)) : (xfs G u i c).set k v = xfs G u' i c := by
  apply List.ext_getElem?
  intro j
  rw [List.getElem?_set]
  by_cases hj : j < xnf c
  · rw [xfs_get hj, xfs_get (u := u') hj, h j]
    by_cases hji : k = j
    · subst hji
      simp [xfs_len, hj]
    · simp [hji, Ne.symm hji]
  · have h1 : (xfs G u i c)[j]? = none := List.getElem?_eq_none (by rw [xfs_len]; omega)
    have h2 : (xfs G u' i c)[j]? = none := List.getElem?_eq_none (by rw [xfs_len]; omega)
    rw [h1, h2]
    by_cases hji : k = j
    · subst hji
      simp [xfs_len, hj]
    · simp [hji]
theorem xent_ne (hK : xK u' i = xK u i) (hN : xN u' i = xN u i) (hI : ∀ j, xI u' i j = xI u i j) (hJ : ∀ j, xJ u' i j = xJ u i j) (hR : ∀ j, xR u' i j = xR u i j) : xent G u' i = xent G u i := by
  have e1 : xI u' i = xI u i := funext hI
  have e2 : xJ u' i = xJ u i := funext hJ
  have e3 : ∀ c, xfs G u' i c = xfs G u i c := fun c => by simp only [xfs, xfv, hI, hJ, hR]
  simp only [xent, hK, hN, e1, e2, e3, hR]
theorem xwl_D (had : ∀ i, i < 1000000 → gad G i = gB G + i) (hW : xW u ≤ 1000000) : va_D (xA G) (xwl G u) := by
  refine ⟨fun i j p q hp hq h => ?_, fun k q hq => ?_⟩
  · have hi : i < xW u := by rw [← xwl_len (G := G)]; exact (List.getElem?_eq_some_iff.mp hp).1
    have hj : j < xW u := by rw [← xwl_len (G := G)]; exact (List.getElem?_eq_some_iff.mp hq).1
    rw [xwl_get hi] at hp
    rw [xwl_get hj] at hq
    cases hp
    cases hq
    have h : gad G i = gad G j := h
    rw [had i (by omega), had j (by omega)] at h
    omega
  · have hk : k < xW u := by rw [← xwl_len (G := G)]; exact (List.getElem?_eq_some_iff.mp hq).1
    rw [xwl_get hk] at hq
    cases hq
    show gB G ≤ gad G k
    rw [had k (by omega)]
    omega
end XW
