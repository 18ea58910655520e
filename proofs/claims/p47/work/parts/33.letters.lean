/-! The letters. -/
theorem small_of {c : Int32} (h : cSmall c = true) : ∃ j, j < 26 ∧ c = nI (97 + j) := by
  obtain ⟨j, hj, e⟩ := vp_in_of (cSmall_in h) (by decide)
  refine ⟨j, hj, ?_⟩
  have : c = (c - 97) + 97 := by rw [Int32.sub_add_cancel]
  rw [this, e, show (97 : Int32) = nI 97 from rfl, nI_add, Nat.add_comm]
section NQ
variable {S M : NSt} {x : Int32}
end NQ
