/-! The start of a run. -/
def mS0 : NSt := nput (nput (nput (fun _ _ _ => 0) 30 0 1 20) 30 0 2 25) 30 0 3 40
theorem mS0_z {k i j : Nat} (h : k ≠ 30) : mS0 k i j = 0 := by
  unfold mS0
  rw [nput_nk h, nput_nk h, nput_nk h]
theorem mS0_n : mnp mS0 = 0 ∧ mns mS0 = 0 ∧ mnv mS0 = 0 ∧ mna mS0 = 0 := ⟨rfl, rfl, rfl, rfl⟩
theorem start_b (R : NSt) : nB (oRestart R) mS0 := by
  obtain ⟨e1, e2, e3, e4⟩ := mS0_n
  refine ⟨?_, rfl, rfl, rfl, rfl, rfl, rfl, rfl, rfl, ?_, ?_, ?_, ?_, ?_, ?_, ?_, ?_⟩
  · refine ⟨by rw [e1]; rfl, by rw [e1]; decide, by rw [e2]; rfl, by rw [e2]; decide, by rw [e3]; rfl, by rw [e3]; decide, by rw [e4]; rfl, by rw [e4]; decide, fun k hk => ?_, fun k hk => ?_⟩
    · rw [e1] at hk; exact absurd hk (Nat.not_lt_zero k)
    · rw [e2] at hk; exact absurd hk (Nat.not_lt_zero k)
  · intro i hi; rw [e4] at hi; exact absurd hi (Nat.not_lt_zero i)
  · intro i hi; rw [e3] at hi; exact absurd hi (Nat.not_lt_zero i)
  · intro i hi; rw [e1] at hi; exact absurd hi (Nat.not_lt_zero i)
  · intro i hi; rw [e1] at hi; exact absurd hi (Nat.not_lt_zero i)
  · intro i hi; rw [e1] at hi; exact absurd hi (Nat.not_lt_zero i)
  · intro i _ _
    have : oRestart R 0 0 8 = 0 := by unfold oRestart; exact nput_se
    rw [this]; exact ib_0 i
  · intro i hi; rw [e2] at hi; exact absurd hi (Nat.not_lt_zero i)
  · exact ⟨rfl, fun z => absurd (show mS0 30 0 27 = 0 from rfl) z⟩
theorem start_j (S : NSt) : nJd S mS0 := by
  obtain ⟨e1, e2, e3, e4⟩ := mS0_n
  refine ⟨fun k hk => ?_, fun i hi => ?_, fun i hi => ?_⟩
  · rw [e2] at hk; exact absurd hk (Nat.not_lt_zero k)
  · rw [e1] at hi; exact absurd hi (Nat.not_lt_zero i)
  · rw [e1] at hi; exact absurd hi (Nat.not_lt_zero i)
theorem start_inv {X : NWd} (h0 : X 0 = oRestart (fun _ _ _ => 0)) (h2 : X 2 = fun _ _ _ => 0) : nInv X mS0 0 := by
  obtain ⟨e1, e2, e3, e4⟩ := mS0_n
  refine ⟨⟨?_, start_j _, fun _ i hi => ?_⟩, ?_, ?_, Nat.zero_le _, fun R => ⟨⟨start_b R, fun _ => start_j _⟩, fun j hj => absurd hj (Nat.not_lt_zero j)⟩⟩
  · rw [h0]; exact start_b _
  · rw [e1] at hi; exact absurd hi (Nat.not_lt_zero i)
  · refine ⟨fun i _ => mS0_z (by decide), fun i _ => mS0_z (by decide), fun i _ => ⟨mS0_z (by decide), mS0_z (by decide), mS0_z (by decide), mS0_z (by decide), mS0_z (by decide)⟩, fun k => ?_, fun k => ?_, fun _ i hi => ?_, 0, by decide, rfl⟩
    · rw [mS0_z (by decide)]; rfl
    · rw [mS0_z (by decide)]; rfl
    · rw [e1] at hi; exact absurd hi (Nat.not_lt_zero i)
  · rw [h2]; rfl
/-- what the calls' contracts ask -/
theorem nInv.oOk {X : NWd} {M : NSt} {n : Nat} (h : nInv X M n) : oOk (X 0) := h.q.b.oOk
theorem nInv.mOk {X : NWd} {M : NSt} {n : Nat} (h : nInv X M n) : mOk M := h.q.b.ok
theorem nInv.dia {X : NWd} {M : NSt} {n : Nat} (h : nInv X M n) : vp_in (X 2 21 0 4) 513 := by rw [h.d]; exact vp_in_nI (by have := h.hn; omega) (by decide)
theorem nInv.h01 {X : NWd} {M : NSt} {n : Nat} (h : nInv X M n) {v : Int32} (hv : inB v (onv (X 0)) = true) : X 0 6 (nix v) 1 = 0 ∨ X 0 6 (nix v) 1 = 1 := by
  have hB := h.q.b
  rw [hB.eonv] at hv
  rcases (hB.vo _ (vp_lt (inB_t.mp hv))).2.1 with ⟨a, -⟩ | ⟨a, -⟩
  · exact Or.inr a
  · exact Or.inl a
