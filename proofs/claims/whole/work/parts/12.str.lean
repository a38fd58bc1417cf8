/-! texts -/
theorem snd_tl {tb : Nat → xM} {M : xM} {pc idx : Nat} (hF : 4 ≤ mF M) (hLo : 85 ≤ mL M) (hw : Cond.methodLink (mY M).cls idx ⟨"java/lang/String", "length", "()I"⟩ ∈ xgood) (hd : decode (mC M) pc = .ok (.invokevirtual idx, 3)) : Snd tb M pc (oTl (pc + 3)) := sorry
theorem snd_tc {tb : Nat → xM} {M : xM} {pc idx : Nat} (hF : 4 ≤ mF M) (hLo : 85 ≤ mL M) (hw : Cond.methodLink (mY M).cls idx ⟨"java/lang/String", "charAt", "(I)C"⟩ ∈ xgood) (hd : decode (mC M) pc = .ok (.invokevirtual idx, 3)) : Snd tb M pc (oTc (pc + 3)) := sorry
