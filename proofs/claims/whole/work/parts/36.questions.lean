/-! The questions, call by call. -/
section NQ
variable {S T : NSt} {x : Int32}
theorem nB.gA (h : nB S T) (a : Int32) : inB a (ona S) = mIn a 0 (T 30 0 5 - 1) := by
  rw [h.eona, h.ok.2.2.2.2.2.2.1]
  exact inB_In (by have := h.na5; omega)
theorem nB.gV (h : nB S T) (a : Int32) : inB a (onv S) = mIn a 0 (T 30 0 9 - 1) := by
  rw [h.eonv, h.ok.2.2.2.2.1]
  exact inB_In (by have := h.nv40; omega)
theorem nB.gP (h : nB S T) (a : Int32) : inB a (onp S) = mIn a 0 (T 30 0 12 - 1) := by
  rw [h.eonp, h.ok.1]
  exact inB_In (by have := h.np12; omega)
theorem nB.tA (h : nB S T) {a : Int32} (g : mIn a 0 (T 30 0 5 - 1) = true) : vp_in a (mna T) := by rw [← h.gA, h.eona] at g; exact inB_t.mp g
theorem nB.tV (h : nB S T) {a : Int32} (g : mIn a 0 (T 30 0 9 - 1) = true) : vp_in a (mnv T) := by rw [← h.gV, h.eonv] at g; exact inB_t.mp g
theorem nB.tP (h : nB S T) {a : Int32} (g : mIn a 0 (T 30 0 12 - 1) = true) : vp_in a (mnp T) := by rw [← h.gP, h.eonp] at g; exact inB_t.mp g
end NQ
section NS
variable {hc : Nat → Int32} {X : NWd} {M T : NSt} {n : Nat}
theorem T0 (hT : nput M 30 0 0 0 = T) : T 30 0 0 = 0 := by rw [← hT]; exact nput_se
theorem TE (hT : nput M 30 0 0 0 = T) : mE M T := by rw [← hT]; exact mE.code
theorem sim_day (h : nInv X M n) (hT : nput M 30 0 0 0 = T) : nSim hc X M n (.inr (X 0 1 0 0, wdo X 0 (X 0))) ((T 30 0 4, T) : Int32 × NSt) := sim_q h (TE hT) (T0 hT) (h.E (TE hT)).q.b.c0.symm
theorem sim_isOpen (h : nInv X M n) (hT : nput M 30 0 0 0 = T) : nSim hc X M n (.inr (nb (oOpen (X 0)), wdo X 0 (X 0))) ((nb (mOpen T), T) : Int32 × NSt) := sim_q h (TE hT) (T0 hT) (by rw [(h.E (TE hT)).q.b.opn])
theorem sim_papers (h : nInv X M n) (hT : nput M 30 0 0 0 = T) : nSim hc X M n (.inr (X 0 0 0 6, wdo X 0 (X 0))) ((T 30 0 12, T) : Int32 × NSt) := sim_q h (TE hT) (T0 hT) (h.E (TE hT)).q.b.np.symm
theorem sim_signatures (h : nInv X M n) (hT : nput M 30 0 0 0 = T) : nSim hc X M n (.inr (X 0 0 0 7, wdo X 0 (X 0))) ((T 30 0 22, T) : Int32 × NSt) := sim_q h (TE hT) (T0 hT) (h.E (TE hT)).q.b.ns.symm
theorem sim_sumHeld (h : nInv X M n) (hT : nput M 30 0 0 0 = T) : nSim hc X M n (.inr (oSum (X 0) 0, wdo X 0 (X 0))) ((mSum T 0, T) : Int32 × NSt) := sim_q h (TE hT) (T0 hT) ((h.E (TE hT)).q.sum 0).symm
theorem sim_sumLost (h : nInv X M n) (hT : nput M 30 0 0 0 = T) : nSim hc X M n (.inr (oSum (X 0) 2, wdo X 0 (X 0))) ((mSum T 2, T) : Int32 × NSt) := sim_q h (TE hT) (T0 hT) ((h.E (TE hT)).q.sum 2).symm
theorem sim_areaOf (h : nInv X M n) (hT : nput M 30 0 0 0 = T) (h2 : hc 2 = 1) {v : Int32} : nSim hc X M n (nG (inB v (onv (X 0))) 2 (.inr (X 0 6 (nix v) 0, wdo X 0 (X 0)))) (mG (mIn v 0 (T 30 0 9 - 1)) 1 T (0 : Int32) ((T 40 0 (nix v), T))) := by
  have hB := (h.E (TE hT)).q.b
  exact sim_g (hB.gV v) h2 (by decide) (TE hT) (fun g => sim_q h (TE hT) (T0 hT) (hB.vo _ (vp_lt (hB.tV g))).1.symm)
theorem sim_isOnRoll (h : nInv X M n) (hT : nput M 30 0 0 0 = T) (h2 : hc 2 = 1) {v : Int32} : nSim hc X M n (nG (inB v (onv (X 0))) 2 (.inr (X 0 6 (nix v) 1, wdo X 0 (X 0)))) (mG (mIn v 0 (T 30 0 9 - 1)) 1 T (0 : Int32) ((nb (decide (T 41 0 (nix v) = 0)), T))) := by
  have hB := (h.E (TE hT)).q.b
  refine sim_g (hB.gV v) h2 (by decide) (TE hT) (fun g => sim_q h (TE hT) (T0 hT) ?_)
  rcases (hB.vo _ (vp_lt (hB.tV g))).2.1 with ⟨a, b⟩ | ⟨a, b⟩ <;> rw [a, b] <;> rfl
theorem sim_votes (h : nInv X M n) (hT : nput M 30 0 0 0 = T) (h2 : hc 2 = 1) {v : Int32} : nSim hc X M n (nG (inB v (onp (X 0))) 2 (.inr (X 0 11 (nix v) 4, wdo X 0 (X 0)))) (mG (mIn v 0 (T 30 0 12 - 1)) 1 T (0 : Int32) ((T 50 0 (nix v), T))) := by
  have hB := (h.E (TE hT)).q.b
  exact sim_g (hB.gP v) h2 (by decide) (TE hT) (fun g => sim_q h (TE hT) (T0 hT) (hB.pa _ (vp_lt (hB.tP g))).2.2.2.1.symm)
theorem sim_paid (h : nInv X M n) (hT : nput M 30 0 0 0 = T) (h2 : hc 2 = 1) {v : Int32} : nSim hc X M n (nG (inB v (onp (X 0))) 2 (.inr (X 0 11 (nix v) 3, wdo X 0 (X 0)))) (mG (mIn v 0 (T 30 0 12 - 1)) 1 T (0 : Int32) ((T 47 0 (nix v), T))) := by
  have hB := (h.E (TE hT)).q.b
  exact sim_g (hB.gP v) h2 (by decide) (TE hT) (fun g => sim_q h (TE hT) (T0 hT) (hB.pa _ (vp_lt (hB.tP g))).2.2.1.symm)
theorem sim_isReplaceable (h : nInv X M n) (hT : nput M 30 0 0 0 = T) (h2 : hc 2 = 1) {v : Int32} : nSim hc X M n (nG (inB v (onp (X 0))) 2 (.inr (nb (oRepl (X 0) v), wdo X 0 (X 0)))) (mG (mIn v 0 (T 30 0 12 - 1)) 1 T (0 : Int32) ((nb (mRepl T v), T))) := by
  have hB := (h.E (TE hT)).q.b
  exact sim_g (hB.gP v) h2 (by decide) (TE hT) (fun g => sim_q h (TE hT) (T0 hT) (by rw [(h.E (TE hT)).q.repl (hB.tP g)]))
theorem sim_counted (h : nInv X M n) (hT : nput M 30 0 0 0 = T) (h2 : hc 2 = 1) {v : Int32} : nSim hc X M n (nG (inB v (onp (X 0))) 2 (.inr (X 0 11 (nix v) 8, wdo X 0 (X 0)))) (mG (mIn v 0 (T 30 0 12 - 1)) 1 T (0 : Int32) ((mCounted T v, T))) := by
  have hQ := (h.E (TE hT)).q
  have hB := hQ.b
  refine sim_g (hB.gP v) h2 (by decide) (TE hT) (fun g => sim_q h (TE hT) (T0 hT) ?_)
  rw [hQ.j.r8 _ (vp_lt (hB.tP g)), ← vp_eq (hB.tP g)]
theorem sim_signatureResult (h : nInv X M n) (hT : nput M 30 0 0 0 = T) (h2 : hc 2 = 1) {q : Int32} : nSim hc X M n (nG (decide (0 ≤ q) && decide (q < X 0 0 0 7)) 2 (.inr (X 0 13 (nix q) 4, wdo X 0 (X 0)))) (mG (mIn q 0 (T 30 0 22 - 1)) 1 T (0 : Int32) ((mRes T (nix q), T))) := by
  have hQ := (h.E (TE hT)).q
  have hB := hQ.b
  have hs := hB.ns150
  have e3 := hB.ok.2.2.1
  have e : (decide (0 ≤ q) && decide (q < X 0 0 0 7)) = inB q (mns T) := by
    rw [hB.ns, e3]
    unfold inB
    by_cases c : q < 0
    · rw [decide_eq_true c, decide_eq_false (Int32.not_le.mpr c)]; rfl
    · rw [decide_eq_false c, decide_eq_true (Int32.not_lt.mp c), ← inB_lt c rfl (by omega)]
      unfold inB
      rw [decide_eq_false c]
      cases decide (nix q < mns T) <;> rfl
  have e2 : inB q (mns T) = mIn q 0 (T 30 0 22 - 1) := by
    rw [e3]
    exact inB_In (by omega)
  refine sim_g (e.trans e2) h2 (by decide) (TE hT) (fun g => sim_q h (TE hT) (T0 hT) ?_)
  rw [← e2] at g
  exact (hQ.j.r4 _ (vp_lt (inB_t.mp g))).symm
theorem sim_deposit (h : nInv X M n) (hT : nput M 30 0 0 0 = T) (h2 : hc 2 = 1) {v : Int32} : nSim hc X M n (nG (inB v (onp (X 0))) 2 (.inr (oDep (X 0) v, wdo X 0 (X 0)))) (mG (mIn v 0 (T 30 0 12 - 1)) 1 T (0 : Int32) ((mFate T v, T))) := by
  have hQ := (h.E (TE hT)).q
  exact sim_g (hQ.b.gP v) h2 (by decide) (TE hT) (fun g => sim_q h (TE hT) (T0 hT) (hQ.dep (hQ.b.tP g)).symm)
theorem sim_reason (h : nInv X M n) (hT : nput M 30 0 0 0 = T) (h2 : hc 2 = 1) {v : Int32} {U : NSt} (hU : mOff T U) : nSim hc X M n (nG (inB v (onp (X 0))) 2 (.inr (oWhy (X 0) v, wdo X 0 (X 0)))) (mG (mIn v 0 (T 30 0 12 - 1)) 1 T (0 : Int32) ((mWhy T v, U))) := by
  have hQ := (h.E (TE hT)).q
  refine sim_g (hQ.b.gP v) h2 (by decide) (TE hT) (fun g => sim_q h ((TE hT).tr (mE.off hU)) ?_ (hQ.why (hQ.b.tP g)).symm)
  rw [hU 30 (by decide) (by decide)]; exact T0 hT
theorem sim_ballotSize (h : nInv X M n) (hT : nput M 30 0 0 0 = T) (h2 : hc 2 = 1) {v : Int32} {U : NSt} (hU : mOff T U) : nSim hc X M n (nG (inB v (ona (X 0))) 2 (.inr (oStand (X 0) v, wdo X 0 (X 0)))) (mG (mIn v 0 (T 30 0 5 - 1)) 1 T (0 : Int32) ((mStand T v, U))) := by
  have hQ := (h.E (TE hT)).q
  refine sim_g (hQ.b.gA v) h2 (by decide) (TE hT) (fun g => sim_q h ((TE hT).tr (mE.off hU)) ?_ (hQ.stand v).symm)
  rw [hU 30 (by decide) (by decide)]; exact T0 hT
theorem sim_reasonByReplay (h : nInv X M n) (hT : nput M 30 0 0 0 = T) (h2 : hc 2 = 1) {v : Int32} {U : NSt} (hU : mOff T U) : nSim hc X M n (nG (inB v (onp (X 0))) 2 (.inr (oWhy (oJudge (rpl (X 2) (X 1) (nix (X 2 21 0 4)))) v, wdo (wdo X 0 (X 0)) 1 (oJudge (rpl (X 2) (X 1) (nix (X 2 21 0 4))))))) (mG (mIn v 0 (T 30 0 12 - 1)) 1 T (0 : Int32) ((mWhy T v, U))) := by
  have hI := h.E (TE hT)
  have hQ := hI.q
  have hU0 : U 30 0 0 = 0 := by rw [hU 30 (by decide) (by decide)]; exact T0 hT
  have hn := h.hn
  refine sim_g (hQ.b.gP v) h2 (by decide) (TE hT) (fun g => sim_r hU0 ?_ (Nat.le_succ n) ((h.E ((TE hT).tr (mE.off hU))).eta.rep))
  rw [h.d, nix_nI (by omega)]
  exact (((hI.r (X 1)).1.J hQ.f).why (hQ.b.tP g)).symm
theorem sim_wouldCount (h : nInv X M n) (hT : nput M 30 0 0 0 = T) (h2 : hc 2 = 1) (h1 : hc 1 = 2) {x v : Int32} : nSim hc X M n (nG (inB x (onp (X 0))) 2 (nG (inB v (onv (X 0))) 2 (nG (oOpen (X 0)) 1 (nG (!oGone (X 0) x) 1 (.inr (nb (oWould (X 0) x v), wdo X 0 (X 0))))))) (mG (mIn x 0 (T 30 0 12 - 1) && mIn v 0 (T 30 0 9 - 1)) 1 T (0 : Int32) (mG (mOpen T && decide (T 46 0 (nix x) ≤ 0)) 2 T (0 : Int32) ((nb (mLoc T x v && mFree T v (mns T) 0), T)))) := by
  have hB := (h.E (TE hT)).q.b
  rw [mG_and, mG_and]
  refine sim_g (hB.gP x) h2 (by decide) (TE hT) (fun gx => sim_g (hB.gV v) h2 (by decide) (TE hT) (fun gv => sim_g hB.opn h1 (by decide) (TE hT) (fun go => sim_g (hB.wle (hB.tP gx)).symm h1 (by decide) (TE hT) (fun gg => sim_q h (TE hT) (T0 hT) ?_))))
  rw [hB.would (hB.tP gx) (hB.tV gv)]
theorem sim_paperOf (h : nInv X M n) (hT : nput M 30 0 0 0 = T) (h2 : hc 2 = 1) (h4 : hc 4 = 2) {v : Int32} : nSim hc X M n (nG (inB v (onv (X 0))) 2 (nG (!decide (oSup (X 0) v = -1)) 4 (.inr (oSup (X 0) v, wdo X 0 (X 0))))) (mG (mIn v 0 (T 30 0 9 - 1)) 1 T (0 : Int32) (mG ((mSup T v).isSome) 2 T (0 : Int32) ((T 53 0 ((mSup T v).getD 0), T)))) := by
  have hQ := (h.E (TE hT)).q
  have hB := hQ.b
  have hs := hQ.sup v
  refine sim_g (hB.gV v) h2 (by decide) (TE hT) (fun gv => ?_)
  cases hm : mSup T v with
  | none =>
    rw [hm] at hs
    exact sim_g (by rw [hs]; rfl) h4 (by decide) (TE hT) (fun g => by cases g)
  | some k =>
    rw [hm] at hs
    have hk : k < mns T := by
      have h0 : ∀ n m, ffind (fun k => decide (T 54 0 k = v) && decide (mRes T k = 0)) n = some m → m < n := by
        intro n
        induction n with
        | zero => intro m h; cases h
        | succ n ih =>
          intro m h9
          cases hf : ffind (fun k => decide (T 54 0 k = v) && decide (mRes T k = 0)) n with
          | some q => simp [ffind, hf] at h9; subst h9; exact Nat.lt_succ_of_lt (ih q hf)
          | none =>
            rw [ffind_s hf] at h9
            split at h9
            · cases h9; exact Nat.lt_succ_self n
            · cases h9
      exact h0 _ _ hm
    have hv := (hB.si k hk).2.2.2.2.1
    have hne : ¬ T 53 0 k = -1 := by rw [vp_eq hv]; exact i32_m1 (by have := vp_lt hv; have := hB.np12; omega)
    have hs2 : oSup (X 0) v = T 53 0 k := hs
    refine sim_g (by rw [hs2, decide_eq_false hne]; rfl) h4 (by decide) (TE hT) (fun _ => sim_q h (TE hT) (T0 hT) hs2.symm)
theorem sim_gain (h : nInv X M n) (hT : nput M 30 0 0 0 = T) (h2 : hc 2 = 1) (h0 : hc 0 = 2) (h1 : hc 1 = 3) {x z : Int32} : nSim hc X M n (nG (inB x (onp (X 0))) 2 (nG (inB z (onp (X 0))) 2 (nG (!decide (x = z)) 0 (nG (oOpen (X 0)) 1 (nG (!oGone (X 0) x) 1 (.inr (oFreed (X 0) x z, wdo X 0 (oG (X 0) x).2))))))) (mG (mIn x 0 (T 30 0 12 - 1) && mIn z 0 (T 30 0 12 - 1)) 1 T (0 : Int32) (mG (!decide (x = z)) 2 T (0 : Int32) (mG (mOpen T && decide (T 46 0 (nix x) ≤ 0)) 3 T (0 : Int32) ((mCnt T x (1 <<< (z &&& 31)) - mCnt T x 0, T))))) := by
  have hB := (h.E (TE hT)).q.b
  rw [mG_and, mG_and]
  refine sim_g (hB.gP x) h2 (by decide) (TE hT) (fun gx => sim_g (hB.gP z) h2 (by decide) (TE hT) (fun gz => sim_g rfl h0 (by decide) (TE hT) (fun ge => sim_g hB.opn h1 (by decide) (TE hT) (fun go => sim_g (hB.wle (hB.tP gx)).symm h1 (by decide) (TE hT) (fun gg => sim_r (T0 hT) ?_ (Nat.le_succ n) ((h.E (TE hT)).g x))))))
  rw [hB.wle (hB.tP gx)] at gg
  exact (hB.freed (hB.tP gx) (hB.tP gz) (by simpa using ge) (by simpa using gg)).symm
theorem sim_fewest (h : nInv X M n) (hT : nput M 30 0 0 0 = T) (h2 : hc 2 = 1) (h1 : hc 1 = 2) (h4 : hc 4 = 3) {x : Int32} : nSim hc X M n (nG (inB x (onp (X 0))) 2 (nG (oOpen (X 0)) 1 (nG (!oGone (X 0) x) 1 (nG (!decide (oSmall (X 0) x = -1)) 4 (.inr (oSmall (X 0) x, wdo X 0 (oG (X 0) x).2)))))) (mG (mIn x 0 (T 30 0 12 - 1)) 1 T (0 : Int32) (mG (mOpen T && decide (T 46 0 (nix x) ≤ 0)) 2 T (0 : Int32) (mG (!decide (mfw T x (2 ^ mnp T) < 0)) 3 T (0 : Int32) ((mfw T x (2 ^ mnp T), T))))) := by
  have hB := (h.E (TE hT)).q.b
  have h12 := hB.np12
  rw [mG_and]
  refine sim_g (hB.gP x) h2 (by decide) (TE hT) (fun gx => sim_g hB.opn h1 (by decide) (TE hT) (fun go => sim_g (hB.wle (hB.tP gx)).symm h1 (by decide) (TE hT) (fun gg => ?_)))
  rw [hB.wle (hB.tP gx)] at gg
  have e := hB.small (hB.tP gx) (by simpa using gg)
  rw [e]
  have hN : 2 ^ mnp T ≤ 4096 := Nat.pow_le_pow_right (by decide) h12
  have hlx := vp_lt (hB.tP gx)
  have hd : decide (mfw T x (2 ^ mnp T) = -1) = decide (mfw T x (2 ^ mnp T) < 0) := by
    rcases mfw_best T (vp_eq (hB.tP gx)) (by omega) (2 ^ mnp T) hN with ⟨m1, -⟩ | ⟨b, m1, m2, -⟩
    · rw [m1]; rfl
    · rw [m1, decide_eq_false (i32_m1 (by omega)), decide_eq_false (nI_pos (by omega))]
  refine sim_g (by rw [hd]) h4 (by decide) (TE hT) (fun _ => sim_r (T0 hT) rfl (Nat.le_succ n) ((h.E (TE hT)).g x))
theorem sim_winner (h : nInv X M n) (hT : nput M 30 0 0 0 = T) (h2 : hc 2 = 1) (h1 : hc 1 = 2) (h4 : hc 4 = 3) {a : Int32} {U : NSt} (hU : mOff T U) : nSim hc X M n (nG (inB a (ona (X 0))) 2 (nG (!decide (X 0 4 (nix a) 2 = 0)) 1 (nG (!decide (mvs (X 0) a (onp (X 0)) = -1)) 4 (.inr (mvs (X 0) a (onp (X 0)), wdo X 0 (X 0)))))) (mG (mIn a 0 (T 30 0 5 - 1)) 1 T (0 : Int32) (mG (!decide (T 38 0 (nix a) = 0)) 2 T (0 : Int32) (mG (!decide (mWin T a (mnp T) < 0)) 3 U (0 : Int32) ((mWin T a (mnp T), U))))) := by
  have hQ := (h.E (TE hT)).q
  have hB := hQ.b
  have h12 := hB.np12
  obtain ⟨w1, w2⟩ := hQ.win a (mnp T) (Nat.le_refl _)
  have hU0 : U 30 0 0 = 0 := by rw [hU 30 (by decide) (by decide)]; exact T0 hT
  have hd : decide (mWin T a (mnp T) = -1) = decide (mWin T a (mnp T) < 0) := by
    rcases w2 with m1 | ⟨b, m2, m1⟩
    · rw [m1]; rfl
    · rw [m1, decide_eq_false (i32_m1 (by omega)), decide_eq_false (nI_pos (by omega))]
  refine sim_g (hB.gA a) h2 (by decide) (TE hT) (fun ga => sim_g (by rw [(hB.ar _ (vp_lt (hB.tA ga))).2.2]) h1 (by decide) (TE hT) (fun gf => ?_))
  rw [hB.eonp, w1]
  exact sim_g (by rw [hd]) h4 (by decide) ((TE hT).tr (mE.off hU)) (fun _ => sim_q h ((TE hT).tr (mE.off hU)) hU0 rfl)
theorem sim_share (h : nInv X M n) (hT : nput M 30 0 0 0 = T) (h2 : hc 2 = 1) (h5 : hc 5 = 2) {x : Int32} : nSim hc X M n (nG (inB x (onp (X 0))) 2 (nG (!decide (oVotes (X 0) (X 0 11 (nix x) 0) = 0)) 5 (.inr (FP.ddiv (FP.i2d (X 0 11 (nix x) 4)) (FP.i2d (oVotes (X 0) (X 0 11 (nix x) 0))), wdo X 0 (X 0))))) (mG (mIn x 0 (T 30 0 12 - 1)) 1 T (FP.dconst0 : UInt64) (mG (!decide (mVotes T (T 43 0 (nix x)) = 0)) 2 T (FP.dconst0 : UInt64) ((FP.ddiv (FP.i2d (T 50 0 (nix x))) (FP.i2d (mVotes T (T 43 0 (nix x)))), T)))) := by
  have hQ := (h.E (TE hT)).q
  have hB := hQ.b
  refine sim_g (hB.gP x) h2 (by decide) (TE hT) (fun gx => ?_)
  obtain ⟨p0, -, -, p4, -⟩ := hB.pa _ (vp_lt (hB.tP gx))
  rw [hB.votes, p0, p4]
  exact sim_g rfl h5 (by decide) (TE hT) (fun _ => sim_q h (TE hT) (T0 hT) rfl)
theorem sim_lostShare (h : nInv X M n) (hT : nput M 30 0 0 0 = T) (h5 : hc 5 = 1) : nSim hc X M n (nG (!decide (oSumPaid (X 0) = 0)) 5 (.inr (FP.fdiv (FP.i2f (oSum (X 0) 2)) (FP.i2f (oSumPaid (X 0))), wdo X 0 (X 0)))) (mG (!decide (mSum T 0 + mSum T 1 + mSum T 2 = 0)) 1 T (FP.fconst0 : UInt32) ((FP.fdiv (FP.i2f (mSum T 2)) (FP.i2f (mSum T 0 + mSum T 1 + mSum T 2)), T))) := by
  have hQ := (h.E (TE hT)).q
  have hB := hQ.b
  rw [hB.sumAll, hQ.sum]
  exact sim_g rfl h5 (by decide) (TE hT) (fun _ => sim_q h (TE hT) (T0 hT) rfl)
theorem sim_letter (h : nInv X M n) (hT : nput M 30 0 0 0 = T) (h2 : hc 2 = 1) (h1 : hc 1 = 2) {q : Int32} : nSim hc X M n (nG (decide (0 ≤ q) && decide (q < 26)) 2 (nG (!decide (X 0 7 0 2 = 0)) 1 (.inr (X 0 8 0 (nix q), wdo X 0 (X 0))))) (mG (mIn q 0 25) 1 T (0 : Int32) (mG (!decide (T 30 0 27 = 0)) 2 T (0 : Int32) ((T 58 0 (nix q), T)))) := by
  have hB := (h.E (TE hT)).q.b
  have e : (decide (0 ≤ q) && decide (q < 26)) = mIn q 0 25 := by
    unfold mIn
    congr 1
    by_cases c : 0 ≤ q
    · obtain ⟨j, hj, rfl⟩ := nI_of (Int32.not_lt.mpr c)
      rw [show (26 : Int32) = nI 26 from rfl, show (25 : Int32) = nI 25 from rfl]
      by_cases d : j < 26
      · rw [decide_eq_true ((nI_ltI hj (by omega)).mpr d), decide_eq_true ((nI_leI hj (by omega)).mpr (by omega))]
      · rw [decide_eq_false (fun z => d ((nI_ltI hj (by omega)).mp z)), decide_eq_false (fun z => d (by have := (nI_leI hj (by omega)).mp z; omega))]
    · have c1 := Int32.not_le.mp c
      rw [decide_eq_true (Int32.lt_trans c1 (by decide)), decide_eq_true (Int32.le_trans (Int32.le_of_lt c1) (by decide))]
  refine sim_g e h2 (by decide) (TE hT) (fun gq => sim_g (by rw [hB.le.1]) h1 (by decide) (TE hT) (fun gl => sim_q h (TE hT) (T0 hT) ?_))
  have hq : nix q < 26 := by
    unfold mIn at gq
    rw [Bool.and_eq_true, decide_eq_true_eq, decide_eq_true_eq] at gq
    obtain ⟨j, hj, rfl⟩ := nI_of (Int32.not_lt.mpr gq.1)
    rw [nix_nI hj]
    have := (nI_leI hj (by omega)).mp (show nI j ≤ nI 25 from gq.2)
    omega
  exact ((hB.le.2 (by simpa using gl)).1 _ hq).1.symm
end NS
