/-! Bits of Int32 and Int64. -/
def ib (x : Int32) (i : Nat) : Bool := x.toBitVec.getLsbD i
theorem ib_or (x y : Int32) (i : Nat) : ib (x ||| y) i = (ib x i || ib y i) := by
  unfold ib; rw [Int32.toBitVec_or, BitVec.getLsbD_or]
theorem ib_and (x y : Int32) (i : Nat) : ib (x &&& y) i = (ib x i && ib y i) := by
  unfold ib; rw [Int32.toBitVec_and, BitVec.getLsbD_and]
theorem ib_xor (x y : Int32) (i : Nat) : ib (x ^^^ y) i = (ib x i ^^ ib y i) := by
  unfold ib; rw [Int32.toBitVec_xor, BitVec.getLsbD_xor]
theorem ib_m1 : ∀ i, i < 32 → ib (-1) i = true := by decide
theorem ib_0 (i : Nat) : ib 0 i = false := by
  show (0#32).getLsbD i = false
  exact BitVec.getLsbD_zero
theorem ib_not (x : Int32) {i : Nat} (hi : i < 32) : ib (x ^^^ -1) i = !ib x i := by rw [ib_xor, ib_m1 i hi]; cases ib x i <;> rfl
theorem ib_ext {x y : Int32} (h : ∀ i, i < 32 → ib x i = ib y i) : x = y := by
  apply Int32.toBitVec_inj.mp
  exact BitVec.eq_of_getLsbD_eq (fun i hi => h i hi)
theorem ib_eq0 {x : Int32} : x = 0 ↔ ∀ i, i < 32 → ib x i = false := by
  constructor
  · rintro rfl i _; exact ib_0 i
  · intro h; exact ib_ext (fun i hi => by rw [h i hi, ib_0])
theorem ib_one : ∀ k, k < 32 → ∀ i, i < 32 → ib (1 <<< (nI k &&& 31)) i = decide (i = k) := by decide +kernel
theorem ib_test {x : Int32} {k : Nat} (hk : k < 32) : (x &&& (1 <<< (nI k &&& 31))) = 0 ↔ ib x k = false := by
  rw [ib_eq0]
  constructor
  · intro h
    have := h k hk
    rw [ib_and, ib_one k hk k hk] at this
    simpa using this
  · intro h i hi
    rw [ib_and, ib_one k hk i hi]
    by_cases e : i = k
    · subst e; rw [h]; rfl
    · simp [e]
theorem ib_sub {x y : Int32} : (x &&& (y ^^^ -1)) = 0 ↔ ∀ i, i < 32 → ib x i = true → ib y i = true := by
  rw [ib_eq0]
  constructor
  · intro h i hi hx
    have := h i hi
    rw [ib_and, ib_not _ hi, hx] at this
    simpa using this
  · intro h i hi
    rw [ib_and, ib_not _ hi]
    cases hx : ib x i
    · rfl
    · rw [h i hi hx]; rfl
theorem ib_1 : ∀ i, i < 32 → ib 1 i = decide (i = 0) := by decide
theorem ib_amt : ∀ k, k < 32 → ((nI k &&& 31).toBitVec.smod 32#32).toNat = k := by decide +kernel
theorem ib_shr (x : Int32) {k : Nat} (hk : k < 32) : ib (x >>> (nI k &&& 31)) 0 = ib x k := by
  unfold ib
  rw [Int32.toBitVec_shiftRight]
  show (BitVec.sshiftRight x.toBitVec ((nI k &&& 31).toBitVec.smod 32#32).toNat).getLsbD 0 = _
  rw [ib_amt k hk]
  rw [BitVec.getLsbD_sshiftRight]
  simp [hk]
theorem ib_shr1t {x : Int32} {k : Nat} (hk : k < 32) : ((x >>> (nI k &&& 31)) &&& 1) = 1 ↔ ib x k = true := by
  constructor
  · intro h
    have := congrArg (fun z => ib z 0) h
    simp only [ib_and] at this
    rw [ib_shr x hk, ib_1 0 (by decide)] at this
    simpa using this
  · intro h
    refine ib_ext (fun i hi => ?_)
    rw [ib_and, ib_1 i hi]
    by_cases e : i = 0
    · subst e; rw [ib_shr x hk, h]; rfl
    · simp [e]
def jb (x : Int64) (i : Nat) : Bool := x.toBitVec.getLsbD i
theorem jb_or (x y : Int64) (i : Nat) : jb (x ||| y) i = (jb x i || jb y i) := by
  unfold jb; rw [Int64.toBitVec_or, BitVec.getLsbD_or]
theorem jb_and (x y : Int64) (i : Nat) : jb (x &&& y) i = (jb x i && jb y i) := by
  unfold jb; rw [Int64.toBitVec_and, BitVec.getLsbD_and]
theorem jb_0 (i : Nat) : jb 0 i = false := by
  show (0#64).getLsbD i = false
  exact BitVec.getLsbD_zero
theorem jb_ext {x y : Int64} (h : ∀ i, i < 64 → jb x i = jb y i) : x = y := by
  apply Int64.toBitVec_inj.mp
  exact BitVec.eq_of_getLsbD_eq (fun i hi => h i hi)
theorem jb_one : ∀ k, k < 40 → ∀ i, i < 64 → jb (1 <<< ((nI k).toInt64 &&& 63)) i = decide (i = k) := by decide +kernel
theorem jb_1 : ∀ i, i < 64 → jb 1 i = decide (i = 0) := by decide
theorem jb_amt : ∀ k, k < 40 → (((nI k).toInt64 &&& 63).toBitVec.smod 64#64).toNat = k := by decide +kernel
theorem jb_shr (x : Int64) {k : Nat} (hk : k < 40) : jb (x >>> ((nI k).toInt64 &&& 63)) 0 = jb x k := by
  unfold jb
  rw [Int64.toBitVec_shiftRight]
  show (BitVec.sshiftRight x.toBitVec (((nI k).toInt64 &&& 63).toBitVec.smod 64#64).toNat).getLsbD 0 = _
  rw [jb_amt k hk]
  rw [BitVec.getLsbD_sshiftRight]
  simp [show k < 64 by omega]
theorem jb_shr1f {x : Int64} {k : Nat} (hk : k < 40) : ((x >>> ((nI k).toInt64 &&& 63)) &&& 1) = 0 ↔ jb x k = false := by
  constructor
  · intro h
    have := congrArg (fun z => jb z 0) h
    simp only [jb_and] at this
    rw [jb_shr x hk, jb_1 0 (by decide), jb_0] at this
    simpa using this
  · intro h
    refine jb_ext (fun i hi => ?_)
    rw [jb_and, jb_1 i hi, jb_0]
    by_cases e : i = 0
    · subst e; rw [jb_shr x hk, h]; rfl
    · simp [e]
