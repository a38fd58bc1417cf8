section
variable {u w g : xMem} {P : Option Value → xMem → Prop} {D E s nl np nb nc nr nh nk n nf na f : Nat} {p q d x y c e k a t i what many layer till price units : Int32} {op : Bool}
theorem i32_le0 {x : Int32} {n : Nat} (h0 : 0 ≤ x) (h : x ≤ nI n) (hn : n < 2 ^ 31) : ∃ k, k ≤ n ∧ x = nI k := by
  obtain ⟨e, hj⟩ := i32_nI h0
  refine ⟨x.toNatClampNeg, ?_, e⟩
  rw [e, i32_le, nI_toI hj, nI_toI hn] at h
  omega
end
