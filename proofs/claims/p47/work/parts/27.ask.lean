/-! The questions: both answer alike. -/
def nQ (S M : NSt) : Prop := (nB S M) ∧ (nJd S M) ∧ (nF M)
theorem nQ.b {S M : NSt} (h : nQ S M) : nB S M := h.1
theorem nQ.j {S M : NSt} (h : nQ S M) : nJd S M := h.2.1
theorem nQ.f {S M : NSt} (h : nQ S M) : nF M := h.2.2
section NQ
variable {S M : NSt} {x : Int32}
theorem nB.goneX (h : nB S M) (hx : vp_in x (mnp M)) : oGone S x = decide (0 < M 46 0 (nix x)) := by
  have hl := vp_lt hx
  rw [h.wd0 hl, ← h.gone hl, ← vp_eq hx]
theorem nQ.why (h : nQ S M) (hx : vp_in x (mnp M)) : oWhy S x = mWhy M x := by
  have hl := vp_lt hx
  unfold oWhy mWhy mWhy0
  rw [h.b.goneX hx, h.j.r9 _ hl, (h.b.pa _ hl).2.2.2.2.2.1, mwh_at M _ (Nat.lt_succ_self _)]
  by_cases c : 0 < M 46 0 (nix x)
  · rw [if_pos (decide_eq_true c), if_pos c]; rfl
  · rw [if_neg (by simpa using c), if_neg c]
theorem i32_v (v : Int32) (hv : v = 0 ∨ v = 1 ∨ v = 2 ∨ v = 3 ∨ v = 4) : decide (0 < v) = !decide (v = 0) := by
  rcases hv with rfl | rfl | rfl | rfl | rfl <;> rfl
theorem nQ.rej (h : nQ S M) (hx : vp_in x (mnp M)) : oRej S x = mRej M x := by
  have hl := vp_lt hx
  unfold oRej mRej
  rw [h.b.opn, h.j.r9 _ hl]
  cases ho : mOpen M with
  | true => rfl
  | false =>
    obtain ⟨f1, f2⟩ := h.f ho _ hl
    rw [if_neg Bool.false_ne_true, i32_v _ f2]
    have e : decide (M 46 0 (nix x) = 1) = decide (M 51 0 (nix x) = 1) := by
      by_cases c : M 46 0 (nix x) = 1
      · rw [decide_eq_true c, decide_eq_true (f1.mp c)]
      · rw [decide_eq_false c, decide_eq_false (fun z => c (f1.mpr z))]
    rw [e]
    cases decide (M 51 0 (nix x) = 0) <;> cases decide (M 51 0 (nix x) = 1) <;> rfl
theorem i32_lt2 (v : Int32) : (!decide (2 ≤ v)) = decide (v < 2) := by
  by_cases c : 2 ≤ v
  · rw [decide_eq_true c, decide_eq_false (Int32.not_lt.mpr c)]; rfl
  · rw [decide_eq_false c, decide_eq_true (Int32.not_le.mp c)]; rfl
theorem nB.wz (h : nB S M) (hx : vp_in x (mnp M)) : decide (M 46 0 (nix x) = 0) = !oGone S x := by
  rw [h.goneX hx]
  rcases h.wd _ (vp_lt hx) with ⟨a, -⟩ | ⟨a, -, -⟩ | ⟨a, -, -⟩ <;> rw [a] <;> rfl
theorem nB.wle (h : nB S M) (hx : vp_in x (mnp M)) : decide (M 46 0 (nix x) ≤ 0) = !oGone S x := by
  rw [h.goneX hx]
  rcases h.wd _ (vp_lt hx) with ⟨a, -⟩ | ⟨a, -, -⟩ | ⟨a, -, -⟩ <;> rw [a] <;> rfl
theorem nB.chg (h : nB S M) : oChg S = decide (M 30 0 4 ≤ M 30 0 2) := by unfold oChg; rw [h.c0, h.c2]
theorem nB.pol (h : nB S M) : oPoll S = decide (M 30 0 3 ≤ M 30 0 4) := by unfold oPoll; rw [h.c0, h.c3]
theorem nB.par (h : nB S M) (hx : vp_in x (mnp M)) : (!decide (S 11 (nix x) 1 = -1)) = decide (0 ≤ M 44 0 (nix x)) := by
  obtain ⟨-, p1, -, -, -, -, p7, -⟩ := h.pa _ (vp_lt hx)
  rw [p1]
  have := i32_p0 p7
  by_cases c : M 44 0 (nix x) = -1
  · rw [decide_eq_true c, decide_eq_false (fun z => this.mpr z c)]; rfl
  · rw [decide_eq_false c, decide_eq_true (this.mp c)]; rfl
theorem nQ.repl (h : nQ S M) (hx : vp_in x (mnp M)) : oRepl S x = mRepl M x := by
  obtain ⟨-, p1, -, -, p5, p6, -⟩ := h.b.pa _ (vp_lt hx)
  unfold oRepl mRepl
  rw [h.b.par hx, h.b.wz hx, h.rej hx, i32_lt2, h.b.chg, h.b.opn, p5, p6]
theorem nB.votes (h : nB S M) (a : Int32) : oVotes S a = mVotes M a := by
  unfold oVotes mVotes
  rw [h.eonp]
  refine isum_congr (fun k hk => ?_)
  obtain ⟨p0, -, -, p4, -⟩ := h.pa k hk
  rw [p0, p4]
theorem nQ.dep (h : nQ S M) (hx : vp_in x (mnp M)) : oDep S x = mFate M x := by
  have hl := vp_lt hx
  obtain ⟨p0, p1, p3, p4, p5, p6, p7, p8⟩ := h.b.pa _ hl
  have ha := h.b.ar _ (vp_lt p8)
  unfold oDep mFate
  rw [h.b.goneX hx]
  by_cases c : 0 < M 46 0 (nix x)
  · rw [if_pos (decide_eq_true c), if_pos c]
    rcases h.b.wd _ hl with ⟨a, -⟩ | ⟨a, -, b⟩ | ⟨a, -, b⟩
    · rw [a] at c; exact absurd c (by decide)
    · rw [a, b]; rfl
    · rw [a, b]; rfl
  · rw [if_neg (by simpa using c), if_neg c, h.b.opn]
    cases ho : mOpen M with
    | true => rfl
    | false =>
      have hr : oRej S x = decide (0 < M 51 0 (nix x)) := by
        rw [h.rej hx]
        unfold mRej
        rw [ho]
        rcases h.b.wd _ hl with ⟨a, -⟩ | ⟨a, -, b⟩ | ⟨a, -, b⟩
        · rw [a]; rfl
        · rw [a] at c; exact absurd (by decide) c
        · rw [a] at c; exact absurd (by decide) c
      rw [hr, p6, p0, p4, h.repl hx, h.b.votes, ha.2.2]
      simp only [Bool.false_eq_true, if_false, decide_eq_true_eq]
theorem nQ.sum (h : nQ S M) (q : Int32) : oSum S q = mSum M q := by
  unfold oSum mSum
  rw [h.b.eonp]
  refine isum_congr (fun k hk => ?_)
  have h12 := h.b.np12
  have hx : vp_in (nI k) (mnp M) := vp_in_nI hk (by omega)
  rw [h.dep hx, (h.b.pa k hk).2.2.1]
theorem nQ.oin (h : nQ S M) {k : Nat} (hk : k < mnp M) (a : Int32) : oIn S (nI k) a = (decide (M 43 0 k = a) && decide (mWhy M (nI k) = 0)) := by
  have h12 := h.b.np12
  have hx : vp_in (nI k) (mnp M) := vp_in_nI hk (by omega)
  unfold oIn
  rw [nix_nI (by omega), h.why hx, (h.b.pa k hk).1]
theorem nQ.stand (h : nQ S M) (a : Int32) : oStand S a = mStand M a := by
  unfold oStand mStand
  rw [h.b.eonp]
  exact isum_congr (fun k hk => by rw [h.oin hk])
theorem nQ.lost (h : nQ S M) (a : Int32) : oLostIn S a = mLost M a := by
  unfold oLostIn mLost
  rw [h.b.eonp]
  refine isum_congr (fun k hk => ?_)
  have h12 := h.b.np12
  rw [h.oin hk, h.dep (vp_in_nI hk (by omega))]
theorem nQ.sup (h : nQ S M) (v : Int32) : oSup S v = match mSup M v with
    | some k => M 53 0 k
    | none => -1 := by
  have e : ffind (fun k => decide (S 13 k 1 = v) && decide (S 13 k 4 = 0)) (ons S) = mSup M v := by
    unfold mSup
    rw [h.b.eons]
    exact ffind_congr (fun k hk => by rw [(h.b.si k hk).2.1, h.j.r4 k hk])
  unfold oSup
  rw [e]
  cases hm : mSup M v with
  | none => rfl
  | some k =>
    have hk : k < mns M := by
      apply Classical.byContradiction
      intro hc
      have h0 : ∀ n m, ffind (fun k => decide (M 54 0 k = v) && decide (mRes M k = 0)) n = some m → m < n := by
        intro n
        induction n with
        | zero => intro m h; cases h
        | succ n ih =>
          intro m h9
          cases hf : ffind (fun k => decide (M 54 0 k = v) && decide (mRes M k = 0)) n with
          | some q => simp [ffind, hf] at h9; subst h9; exact Nat.lt_succ_of_lt (ih q hf)
          | none =>
            rw [ffind_s hf] at h9
            split at h9
            · cases h9; exact Nat.lt_succ_self n
            · cases h9
      exact hc (h0 _ _ hm)
    exact (h.b.si k hk).1
theorem nB.roll (h : nB S M) : oRoll S = mRoll M := by
  unfold oRoll mRoll
  rw [h.eonv]
  refine isum_congr (fun k hk => ?_)
  rcases (h.vo k hk).2.1 with ⟨a, b⟩ | ⟨a, b⟩ <;> rw [a, b] <;> rfl
theorem nB.loc (h : nB S M) {v : Int32} (hx : vp_in x (mnp M)) (hv : vp_in v (mnv M)) : oLocal S x v = mLoc M x v := by
  obtain ⟨v0, v1, v2⟩ := h.vo _ (vp_lt hv)
  unfold oLocal mLoc
  rw [v0, (h.pa _ (vp_lt hx)).1]
  rcases v1 with ⟨a, b⟩ | ⟨a, b⟩ <;> rw [a, b] <;> rfl
theorem i32_m1 {n : Nat} (h : n < 2 ^ 31) : ¬ nI n = -1 := fun z => nI_pos h (by rw [z]; decide)
theorem mFate_rng (M : NSt) (x : Int32) : mFate M x = 0 ∨ mFate M x = 1 ∨ mFate M x = 2 := by
  unfold mFate
  repeat' split
  all_goals simp
theorem nmOk_sur (a b c d : Int32) : nmOk a b c d = mSur a b c d := by
  unfold nmOk mSur cFollow
  have hs : ∀ c : Int32, c = 32 → cSmall c = false := by rintro c rfl; rfl
  by_cases ha : a = 32
  · rw [hs a ha]; rfl
  · by_cases hb : b = 32 <;> by_cases hc : c = 32 <;> by_cases hd : d = 32 <;> simp [ha, hb, hc, hd, hs 32 rfl]
theorem inB_In {n : Nat} (hn : n < 2 ^ 31) : inB x n = mIn x 0 (nI n - 1) := by
  cases n with
  | zero =>
    have h1 : inB x 0 = false := by unfold inB; rw [decide_eq_false (Nat.not_lt_zero _), Bool.and_false]
    rw [h1]
    unfold mIn
    rw [show nI 0 - 1 = -1 from rfl]
    by_cases c : 0 ≤ x
    · rw [decide_eq_true c, decide_eq_false (p := x ≤ -1)]; · rfl
      intro z
      have := Int32.le_trans c z
      exact absurd this (by decide)
    · rw [decide_eq_false c]; rfl
  | succ n =>
    rw [nI_pred]
    by_cases c : x < 0
    · unfold inB mIn
      rw [decide_eq_true c, decide_eq_false (fun z : 0 ≤ x => absurd c (Int32.not_lt.mpr z))]; rfl
    · unfold inB mIn
      obtain ⟨j, hj, rfl⟩ := nI_of c
      rw [decide_eq_false c, decide_eq_true (Int32.not_lt.mp c), nix_nI hj]
      show decide (j < n + 1) = decide (nI j ≤ nI n)
      by_cases q : j < n + 1
      · rw [decide_eq_true q, decide_eq_true (nI_le (by omega) (by omega))]
      · rw [decide_eq_false q, decide_eq_false (nI_ge (by omega) hj)]
end NQ
