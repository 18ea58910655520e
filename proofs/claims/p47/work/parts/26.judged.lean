/-! What is judged. -/
theorem oSame.res {S T : NSt} (h : oSame S T) (k : Nat) : oRes T k = oRes S k := by
  unfold oRes oGone
  rw [h 13 k 2 (by decide) (by decide), h 13 k 1 (by decide) (by decide), h 13 k 0 (by decide) (by decide), h 13 k 3 (by decide) (by decide), h 0 0 8 (by decide) (by decide), h 6 _ 1 (by decide) (by decide)]
theorem jc0_at (S : NSt) : ∀ (j i : Nat), jc0 S j 11 i 8 = if i < j then 0 else S 11 i 8
  | 0, i => by rw [if_neg (Nat.not_lt_zero i)]; rfl
  | j + 1, i => by
    show nput (jc0 S j) 11 j 8 0 11 i 8 = _
    unfold nput
    by_cases e : i = j
    · rw [if_pos ⟨rfl, rfl, e⟩, if_pos (by omega)]
    · rw [if_neg (fun z => e z.2.2), jc0_at S j i]
      by_cases q : i < j
      · rw [if_pos q, if_pos (by omega)]
      · rw [if_neg q, if_neg (by omega)]
theorem jst_4 (T : NSt) (k i : Nat) : jst k T 13 i 4 = if i = k then oRes T k else T 13 i 4 := by
  unfold jst
  by_cases h : oRes T k = 0
  · rw [if_pos h]
    simp [nput]
  · rw [if_neg h]
    simp [nput]
theorem jst_8 (T : NSt) (k i : Nat) : jst k T 11 i 8 = if oRes T k = 0 ∧ i = nix (T 13 k 0) then T 11 i 8 + 1 else T 11 i 8 := by
  unfold jst
  by_cases h : oRes T k = 0
  · rw [if_pos h]
    by_cases e : i = nix (T 13 k 0)
    · subst e; simp [nput, h]
    · simp [nput, h, e]
  · rw [if_neg h]
    simp [nput, h]
theorem jsg_4 (S : NSt) : ∀ (n i : Nat), i < n → jsg S n 13 i 4 = oRes S i
  | 0, i, h => absurd h (Nat.not_lt_zero i)
  | n + 1, i, h => by
    show jst n (jsg S n) 13 i 4 = _
    rw [jst_4]
    by_cases e : i = n
    · rw [if_pos e, (jsg_same S n).res, e]
    · rw [if_neg e]
      exact jsg_4 S n i (by omega)
theorem jsg_8 (S : NSt) {i : Nat} (hi : i < onp S) : ∀ n : Nat, jsg S n 11 i 8 = isum (fun k => if oRes S k = 0 ∧ i = nix (S 13 k 0) then 1 else 0) n
  | 0 => by
    show jc0 S (onp S) 11 i 8 = 0
    rw [jc0_at, if_pos hi]
  | n + 1 => by
    show jst n (jsg S n) 11 i 8 = isum _ n + (if oRes S n = 0 ∧ i = nix (S 13 n 0) then 1 else 0)
    rw [jst_8, (jsg_same S n).res, jsg_same S n 13 n 0 (by decide) (by decide), jsg_8 S hi n]
    by_cases c : oRes S n = 0 ∧ i = nix (S 13 n 0)
    · rw [if_pos c, if_pos c]
    · rw [if_neg c, if_neg c]
      exact (Int32.add_zero _).symm
/-- the model's verdict before the close -/
def mV (M : NSt) (i : Nat) : Int32 := mRs (mwh M i) i
theorem mwh_at (M : NSt) {i : Nat} : ∀ n, i < n → mwh M n 60 0 i = mV M i
  | 0, h => absurd h (Nat.not_lt_zero i)
  | n + 1, h => by
    show nput (mwh M n) 60 0 n (mRs (mwh M n) n) 60 0 i = _
    unfold nput
    by_cases e : i = n
    · rw [if_pos ⟨rfl, e, rfl⟩, e]; rfl
    · rw [if_neg (fun z => e z.2.1)]
      exact mwh_at M n (by omega)
theorem mRs_rng (U : NSt) (n : Nat) : mRs U n = 0 ∨ mRs U n = 1 ∨ mRs U n = 2 ∨ mRs U n = 3 ∨ mRs U n = 4 := by
  unfold mRs
  repeat' split
  all_goals simp
theorem mV_1 {M : NSt} {i : Nat} : mV M i = 1 ↔ 0 < M 46 0 i := by
  have h := mwh_off M i
  unfold mV mRs
  rw [h 46 (by decide) (by decide)]
  by_cases c : 0 < M 46 0 i
  · rw [if_pos c]; exact ⟨fun _ => c, fun _ => rfl⟩
  · rw [if_neg c]
    constructor
    · intro z
      exfalso
      revert z
      repeat' split
      all_goals decide
    · intro z; exact absurd z c
theorem i32_p0 {p : Int32} (h : -1 ≤ p) : (¬ p = -1) ↔ 0 ≤ p := by
  rw [Int32.le_iff_toInt_le] at h ⊢
  rw [← Int32.toInt_inj]
  have e1 : (-1 : Int32).toInt = -1 := by decide
  have e2 : (0 : Int32).toInt = 0 := by decide
  rw [e1] at h ⊢
  rw [e2]
  omega
section NQ
variable {S M : NSt}
theorem nB.cnt0 (h : nB S M) {i : Nat} (hi : i < mnp M) : jsg S (ons S) 11 i 8 = mCw M (nI i) 0 (mns M) := by
  have h12 := h.np12
  rw [jsg_8 S (by rw [h.eonp]; exact hi), h.eons]
  unfold mCw
  refine isum_congr (fun k hk => ?_)
  obtain ⟨e0, -, -, -, hp, -⟩ := h.si k hk
  rw [h.res hk, e0]
  have : (i = nix (M 53 0 k)) ↔ M 53 0 k = nI i := by
    constructor
    · rintro rfl; exact vp_eq hp
    · intro z; rw [z, nix_nI (by omega)]
  by_cases c : M 53 0 k = nI i ∧ mOres M k 0 = 0
  · rw [if_pos c, if_pos ⟨c.2, this.mpr c.1⟩]
  · rw [if_neg c, if_neg (fun z => c ⟨this.mp z.2, z.1⟩)]
theorem oSame.gone {T : NSt} (h : oSame S T) (x : Int32) : oGone T x = oGone S x := by unfold oGone; rw [h 0 0 8 (by decide) (by decide)]
theorem nB.ver (h : nB S M) : ∀ j, j ≤ mnp M → ∀ i, i < j → jvd S j 11 i 9 = mV M i := by
  intro j
  induction j with
  | zero => intro _ i hi; exact absurd hi (Nat.not_lt_zero i)
  | succ j ih =>
    intro hj i hi
    have h12 := h.np12
    have ih := ih (by omega)
    show nput (jvd S j) 11 j 9 (oVerdict (jvd S j) (nI j)) 11 i 9 = _
    unfold nput
    by_cases e : i = j
    · subst e
      rw [if_pos ⟨rfl, rfl, rfl⟩]
      have hs := jvd_same S i
      have ho := mwh_off M i
      obtain ⟨p0, p1, p3, p4, p5, p6, p7, p8⟩ := h.pa i hj
      have ha := h.ar _ (vp_lt p8)
      unfold oVerdict mV mRs
      have e8 : jvd S i 11 i 8 = mCnt (mwh M i) (nI i) 0 := by
        rw [mCnt_off ho, h.mcnt, ← h.cnt0 hj]
        have hit : ∀ n, itr (fun k T => nput T 11 k 9 (oVerdict T (nI k))) n (jsg S (ons S)) 11 i 8 = jsg S (ons S) 11 i 8 := by
          intro n
          induction n with
          | zero => rfl
          | succ n ihn =>
            show nput _ 11 n 9 _ 11 i 8 = _
            unfold nput
            rw [if_neg (fun z => absurd z.2.1 (by decide))]
            exact ihn
        exact hit i
      have eD : oDouble (jvd S i) (nI i) = mDbl (mwh M i) (nI i) := by
        unfold oDouble mDbl
        rw [nix_nI (by omega)]
        rw [ho 44 (by decide) (by decide), ho 43 (by decide) (by decide), hs 11 i 1 (by decide) (by decide), hs 11 i 0 (by decide) (by decide), p1, p0]
        by_cases hp : M 44 0 i = -1
        · have h0 : ¬ 0 ≤ M 44 0 i := fun z => (i32_p0 p7).mpr z hp
          rw [decide_eq_true hp]
          have : ffind (fun q => decide (0 ≤ M 44 0 i) && decide (M 44 0 q = M 44 0 i) && decide (M 43 0 q = M 43 0 i) && decide (mwh M i 60 0 q = 0)) i = none := ffind_none.mpr (fun k hk => by rw [decide_eq_false h0]; rfl)
          rw [this]; rfl
        · have h0 : 0 ≤ M 44 0 i := (i32_p0 p7).mp hp
          rw [decide_eq_false hp]
          show (ffind _ i).isSome = (ffind _ i).isSome
          congr 1
          refine ffind_congr (fun k hk => ?_)
          obtain ⟨k0, k1, -⟩ := h.pa k (by omega)
          rw [hs 11 k 1 (by decide) (by decide), hs 11 k 0 (by decide) (by decide), k1, k0, ih k hk, mwh_at M i hk, decide_eq_true h0, Bool.true_and]
      rw [hs.gone, h.gone hj, ← h.wd0 hj, nix_nI (by omega), hs 11 i 3 (by decide) (by decide), hs 11 i 0 (by decide) (by decide), hs 4 _ 1 (by decide) (by decide), hs 4 _ 0 (by decide) (by decide), p3, p0, ha.2.1, ha.1, e8, eD, ho 46 (by decide) (by decide), ho 47 (by decide) (by decide), ho 37 (by decide) (by decide), ho 43 (by decide) (by decide), ho 36 (by decide) (by decide)]
      simp only [decide_eq_true_eq]
    · rw [if_neg (fun z => e z.2.2)]
      exact ih i (by omega)
theorem jvd_8 (S : NSt) (i : Nat) : ∀ n, jvd S n 11 i 8 = jsg S (ons S) 11 i 8
  | 0 => rfl
  | n + 1 => by
    show nput (jvd S n) 11 n 9 (oVerdict (jvd S n) (nI n)) 11 i 8 = _
    unfold nput
    rw [if_neg (fun z => absurd z.2.1 (by decide))]
    exact jvd_8 S i n
theorem jvd_4 (S : NSt) (i : Nat) : ∀ n, jvd S n 13 i 4 = jsg S (ons S) 13 i 4
  | 0 => rfl
  | n + 1 => by
    show nput (jvd S n) 11 n 9 (oVerdict (jvd S n) (nI n)) 13 i 4 = _
    unfold nput
    rw [if_neg (fun z => absurd z.1 (by decide))]
    exact jvd_4 S i n
/-- what was judged -/
def nJd (S M : NSt) : Prop := (∀ k, k < mns M → S 13 k 4 = mRes M k) ∧ (∀ i, i < mnp M → S 11 i 8 = mCounted M (nI i)) ∧ (∀ i, i < mnp M → S 11 i 9 = if mOpen M then mV M i else M 51 0 i)
theorem nJd.r4 {S M : NSt} (h : nJd S M) : ∀ k, k < mns M → S 13 k 4 = mRes M k := h.1
theorem nJd.r8 {S M : NSt} (h : nJd S M) : ∀ i, i < mnp M → S 11 i 8 = mCounted M (nI i) := h.2.1
theorem nJd.r9 {S M : NSt} (h : nJd S M) : ∀ i, i < mnp M → S 11 i 9 = if mOpen M then mV M i else M 51 0 i := h.2.2
/-- what holds of the model when it is closed -/
def nF (M : NSt) : Prop := mOpen M = false → ∀ i, i < mnp M → (M 46 0 i = 1 ↔ M 51 0 i = 1) ∧ (M 51 0 i = 0 ∨ M 51 0 i = 1 ∨ M 51 0 i = 2 ∨ M 51 0 i = 3 ∨ M 51 0 i = 4)
theorem mCounted_open (ho : mOpen M = true) (x : Int32) : mCounted M x = mCw M x 0 (mns M) := by
  unfold mCounted mCw
  refine isum_congr (fun k hk => ?_)
  unfold mRes
  rw [ho]
  simp only [if_true]
  by_cases c : M 53 0 k = x ∧ mOres M k 0 = 0
  · rw [if_pos c, if_pos (by simp [c.1, c.2])]
  · rw [if_neg c, if_neg (fun z => c (by simpa using z))]
theorem nB.judge (h : nB S M) (ho : mOpen M = true) : nJd (oJudge S) M := by
  have e : oJudge S = jvd S (mnp M) := by unfold oJudge; rw [h.opn, ho, h.eonp]; rfl
  rw [e]
  refine ⟨fun k hk => ?_, fun i hi => ?_, fun i hi => ?_⟩
  · rw [jvd_4, jsg_4 S _ k (by rw [h.eons]; exact hk), h.res hk]
    unfold mRes; rw [ho]; rfl
  · rw [jvd_8, h.cnt0 hi, mCounted_open ho]
  · rw [h.ver _ (Nat.le_refl _) i hi, ho]; rfl
theorem nB.same (h : nB S M) {T : NSt} (g : oSame S T) : nB T M := by
  refine ⟨h.ok, ?_, ?_, ?_, ?_, ?_, ?_, ?_, ?_, ?_, ?_, ?_, ?_, ?_, ?_, ?_, ?_⟩
  · rw [g 1 0 0 (by decide) (by decide)]; exact h.c0
  · rw [g 1 0 1 (by decide) (by decide)]; exact h.c1
  · rw [g 1 0 2 (by decide) (by decide)]; exact h.c2
  · rw [g 1 0 3 (by decide) (by decide)]; exact h.c3
  · rw [g 2 0 2 (by decide) (by decide)]; exact h.na
  · rw [g 2 0 3 (by decide) (by decide)]; exact h.nv
  · rw [g 0 0 6 (by decide) (by decide)]; exact h.np
  · rw [g 0 0 7 (by decide) (by decide)]; exact h.ns
  · intro i hi
    rw [g 4 i 0 (by decide) (by decide), g 4 i 1 (by decide) (by decide), g 4 i 2 (by decide) (by decide)]; exact h.ar i hi
  · intro i hi
    rw [g 6 i 0 (by decide) (by decide), g 6 i 1 (by decide) (by decide), g 6 i 2 (by decide) (by decide)]; exact h.vo i hi
  · intro i hi
    rw [g 11 i 0 (by decide) (by decide), g 11 i 1 (by decide) (by decide), g 11 i 3 (by decide) (by decide), g 11 i 4 (by decide) (by decide), g 11 i 5 (by decide) (by decide), g 11 i 6 (by decide) (by decide)]; exact h.pa i hi
  · intro i hi
    rw [g 11 i 2 (by decide) (by decide)]; exact h.nm i hi
  · intro i hi
    rw [g 0 0 8 (by decide) (by decide), g 11 i 7 (by decide) (by decide)]; exact h.wd i hi
  · intro i hi hj
    rw [g 0 0 8 (by decide) (by decide)]; exact h.wh i hi hj
  · intro k hk
    rw [g 13 k 0 (by decide) (by decide), g 13 k 1 (by decide) (by decide), g 13 k 2 (by decide) (by decide), g 13 k 3 (by decide) (by decide)]; exact h.si k hk
  · rw [g 7 0 2 (by decide) (by decide)]
    refine ⟨h.le.1, fun z => ⟨fun i hi => ?_, (h.le.2 z).2⟩⟩
    rw [g 8 0 i (fun z => absurd z.1 (by decide)) (fun z => absurd z.1 (by decide)), g 9 0 _ (fun z => absurd z.1 (by decide)) (fun z => absurd z.1 (by decide))]
    exact (h.le.2 z).1 i hi
/-- judged anew, the two agree wherever what was judged before the close does -/
theorem nB.judged (h : nB S M) (hj : mOpen M = false → nJd S M) : nB (oJudge S) M ∧ nJd (oJudge S) M := by
  refine ⟨h.same (oJudge_same S), ?_⟩
  cases ho : mOpen M with
  | true => exact h.judge ho
  | false =>
    have : oJudge S = S := by unfold oJudge; rw [h.opn, ho]; rfl
    rw [this]; exact hj ho
end NQ
