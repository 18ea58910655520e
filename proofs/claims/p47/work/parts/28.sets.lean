/-! The sets of papers. -/
section NQ
variable {S M : NSt} {x : Int32}
theorem ib_nI (n : Nat) {i : Nat} (hi : i < 32) : ib (nI n) i = n.testBit i := by
  show (BitVec.ofNat 32 n).getLsbD i = _
  rw [BitVec.getLsbD_ofNat]
  simp [hi]
end NQ
