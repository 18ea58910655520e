/-! The lists of the ballots. -/
theorem i1 (b : Bool) (c : Bool) : (if (b || c) = true then (1 : Int32) else 0) = if b = true then 1 else if c = true then 1 else 0 := by cases b <;> cases c <;> rfl
theorem cnt_img (f : Nat → Nat) (N : Nat) : ∀ L, (∀ i, i < L → f i < N) → (∀ i j, i < L → j < L → f i = f j → i = j) → isum (fun k => if (ffind (fun i => decide (f i = k)) L).isSome = true then 1 else 0) N = nI L
  | 0, _, _ => isum_0 N (fun k _ => by rw [show ffind (fun i => decide (f i = k)) 0 = none from rfl]; rfl)
  | L + 1, h1, h2 => by
    have ih := cnt_img f N L (fun i hi => h1 i (Nat.lt_succ_of_lt hi)) (fun i j hi hj => h2 i j (Nat.lt_succ_of_lt hi) (Nat.lt_succ_of_lt hj))
    have e : ∀ k, k < N → (if (ffind (fun i => decide (f i = k)) (L + 1)).isSome = true then (1 : Int32) else 0) = (if (ffind (fun i => decide (f i = k)) L).isSome = true then 1 else 0) + (if k = f L then 1 else 0) := by
      intro k _
      have s1 := @ffind_isSome (fun i => decide (f i = k)) (L + 1)
      have s2 := @ffind_isSome (fun i => decide (f i = k)) L
      by_cases c : k = f L
      · have n2 : ¬ (ffind (fun i => decide (f i = k)) L).isSome = true := fun z => by
          obtain ⟨i, hi, q⟩ := s2.mp z
          have := h2 i L (by omega) (Nat.lt_succ_self L) ((of_decide_eq_true q).trans c)
          omega
        rw [if_pos (s1.mpr ⟨L, Nat.lt_succ_self L, decide_eq_true c.symm⟩), if_neg n2, if_pos c]; rfl
      · rw [if_neg c]
        by_cases d : (ffind (fun i => decide (f i = k)) L).isSome = true
        · obtain ⟨i, hi, q⟩ := s2.mp d
          rw [if_pos d, if_pos (s1.mpr ⟨i, Nat.lt_succ_of_lt hi, q⟩)]; rfl
        · rw [if_neg d, if_neg (fun z => ?_)]
          · rfl
          · obtain ⟨i, hi, q⟩ := s1.mp z
            by_cases g : i = L
            · exact c (by rw [← of_decide_eq_true q, g])
            · exact d (s2.mpr ⟨i, by omega, q⟩)
    rw [isum_congr e, isum_add, ih, isum_pt N (h1 L (Nat.lt_succ_self L)) (fun k _ hk => by rw [if_neg hk]), if_pos rfl, nI_1]
section NS
variable {hc : Nat → Int32} {X : NWd} {M T S U : NSt} {n : Nat}
/-- the list: places and papers -/
theorem srt_f {a : Int32} {len np : Nat} (h : mSrt T a U len np) (hnp : np ≤ 12) : (∀ i, i < len → U 59 0 i = nI (nix (U 59 0 i)) ∧ nix (U 59 0 i) < np ∧ mStd T a (nix (U 59 0 i)) = true) ∧ (∀ q, q < np → mStd T a q = true → ∃ i, i < len ∧ nix (U 59 0 i) = q) ∧ (∀ i j, i < len → j < len → nix (U 59 0 i) = nix (U 59 0 j) → i = j) ∧ (∀ i j, i < len → j < len → (mAhd T (U 59 0 i) (U 59 0 j) = true ↔ i < j)) := by
  obtain ⟨h1, h2, h3, h4⟩ := h
  have a1 : ∀ i, i < len → U 59 0 i = nI (nix (U 59 0 i)) ∧ nix (U 59 0 i) < np ∧ mStd T a (nix (U 59 0 i)) = true := by
    intro i hi
    obtain ⟨q, hq, e, hs⟩ := h1 i hi
    rw [e, nix_nI (by omega)]
    exact ⟨rfl, hq, hs⟩
  have a3 : ∀ i j, i < len → j < len → nix (U 59 0 i) = nix (U 59 0 j) → i = j := by
    intro i j hi hj e
    have e2 : U 59 0 i = U 59 0 j := by rw [(a1 i hi).1, (a1 j hj).1, e]
    rcases Nat.lt_trichotomy i j with q | q | q
    · have := h3 i j q hj
      rw [e2] at this
      exact absurd this (by rw [show mAhd T (U 59 0 j) (U 59 0 j) = false from mah_irr 4 0]; decide)
    · exact q
    · have := h3 j i q hi
      rw [e2] at this
      exact absurd this (by rw [show mAhd T (U 59 0 j) (U 59 0 j) = false from mah_irr 4 0]; decide)
  refine ⟨a1, fun q hq hs => ?_, a3, fun i j hi hj => ⟨fun z => ?_, fun z => h3 i j z hj⟩⟩
  · obtain ⟨i, hi, e⟩ := h2 q hq hs
    exact ⟨i, hi, by rw [e, nix_nI (by omega)]⟩
  · rcases Nat.lt_trichotomy i j with q | q | q
    · exact q
    · subst q
      rw [show mAhd T (U 59 0 i) (U 59 0 i) = false from mah_irr 4 0] at z; cases z
    · have g := h3 j i q hi
      have := mah_tr (T := T) 4 0 g z
      rw [mah_irr] at this; cases this
theorem nQ.std (h : nQ S T) {a : Int32} {k : Nat} (hk : k < mnp T) : oIn S (nI k) a = mStd T a k := by rw [h.oin hk]; rfl
theorem nQ.place (h : nQ S T) (hd : ¬ T 30 0 27 = 0) {a : Int32} {len : Nat} (hs : mSrt T a U len (mnp T)) {i : Nat} (hi : i < len) : oPlace S (U 59 0 i) = nI i := by
  have h12 := h.b.np12
  obtain ⟨s1, s2, s3, s4⟩ := srt_f hs h12
  obtain ⟨u1, u2, u3⟩ := s1 i hi
  have hx : vp_in (U 59 0 i) (mnp T) := by rw [u1]; exact vp_in_nI u2 (by omega)
  have ha : S 11 (nix (U 59 0 i)) 0 = a := by
    rw [(h.b.pa _ u2).1]
    unfold mStd at u3
    rw [Bool.and_eq_true, decide_eq_true_eq] at u3
    exact u3.1
  unfold oPlace
  rw [h.b.eonp, ha, ← cnt_img (fun j => nix (U 59 0 j)) (mnp T) i (fun j hj => (s1 j (by omega)).2.1) (fun p q hp hq => s3 p q (by omega) (by omega))]
  refine isum_congr (fun k hk => ?_)
  have hk2 : vp_in (nI k) (mnp T) := vp_in_nI hk (by omega)
  rw [h.std hk, h.b.bef hd hk2 hx]
  have e : (mStd T a k && mAhd T (nI k) (U 59 0 i)) = true ↔ (ffind (fun j => decide (nix (U 59 0 j) = k)) i).isSome = true := by
    rw [ffind_isSome, Bool.and_eq_true]
    constructor
    · rintro ⟨z1, z2⟩
      obtain ⟨j, hj, q⟩ := s2 k hk z1
      have e9 : nI k = U 59 0 j := by rw [(s1 j hj).1, q]
      rw [e9] at z2
      exact ⟨j, (s4 j i hj hi).mp z2, decide_eq_true q⟩
    · rintro ⟨j, hj, q⟩
      have q := of_decide_eq_true q
      have hj2 : j < len := by omega
      have e9 : nI k = U 59 0 j := by rw [(s1 j hj2).1, q]
      refine ⟨?_, ?_⟩
      · rw [← q]; exact (s1 j hj2).2.2
      · rw [e9]; exact (s4 j i hj2 hi).mpr hj
  by_cases c : (mStd T a k && mAhd T (nI k) (U 59 0 i)) = true
  · rw [if_pos c, if_pos (e.mp c)]
  · rw [if_neg c, if_neg (fun z => c (e.mpr z))]
theorem ffind_lt {p : Nat → Bool} : ∀ {n m : Nat}, ffind p n = some m → m < n ∧ p m = true
  | 0, _, h => by cases h
  | n + 1, m, h => by
    cases hf : ffind p n with
    | some q =>
      simp [ffind, hf] at h
      subst h
      exact ⟨Nat.lt_succ_of_lt (ffind_lt hf).1, (ffind_lt hf).2⟩
    | none =>
      rw [ffind_s hf] at h
      split at h
      · rename_i g
        cases h; exact ⟨Nat.lt_succ_self n, g⟩
      · cases h
theorem nQ.at (h : nQ S T) (hd : ¬ T 30 0 27 = 0) {a : Int32} {len : Nat} (hs : mSrt T a U len (mnp T)) {i : Nat} (hi : i < len) : oAt S a (nI i) = U 59 0 i := by
  have h12 := h.b.np12
  have hl : len ≤ mnp T := hs.2.2.2
  obtain ⟨s1, s2, s3, s4⟩ := srt_f hs h12
  unfold oAt
  rw [h.b.eonp]
  cases hf : ffind (fun k => oIn S (nI k) a && decide (oPlace S (nI k) = nI i)) (mnp T) with
  | none =>
    obtain ⟨u1, u2, u3⟩ := s1 i hi
    have := ffind_none.mp hf _ u2
    rw [h.std u2, u3, ← u1, h.place hd hs hi] at this
    simp at this
  | some k =>
    obtain ⟨k1, k2⟩ := ffind_lt hf
    rw [Bool.and_eq_true, decide_eq_true_eq, h.std k1] at k2
    obtain ⟨j, hj, q⟩ := s2 k k1 k2.1
    have e9 : nI k = U 59 0 j := by rw [(s1 j hj).1, q]
    have k3 := k2.2
    rw [e9, h.place hd hs hj] at k3
    have : j = i := nI_inj (by omega) (by omega) k3
    rw [this] at e9
    exact e9
end NS
