/-! The questions, call by call. -/
section NQ
variable {S T : NSt} {x : Int32}
theorem nB.gA (h : nB S T) (a : Int32) : inB a (ona S) = mIn a 0 (T 30 0 5 - 1) := by
  rw [h.eona, h.ok.2.2.2.2.2.2.1]
  exact inB_In (by have := h.na5; omega)
theorem nB.gV (h : nB S T) (a : Int32) : inB a (onv S) = mIn a 0 (T 30 0 9 - 1) := by
  rw [h.eonv, h.ok.2.2.2.2.1]
  exact inB_In (by have := h.nv40; omega)
theorem nB.gP (h : nB S T) (a : Int32) : inB a (onp S) = mIn a 0 (T 30 0 12 - 1) := by
  rw [h.eonp, h.ok.1]
  exact inB_In (by have := h.np12; omega)
theorem nB.tA (h : nB S T) {a : Int32} (g : mIn a 0 (T 30 0 5 - 1) = true) : vp_in a (mna T) := by rw [← h.gA, h.eona] at g; exact inB_t.mp g
theorem nB.tV (h : nB S T) {a : Int32} (g : mIn a 0 (T 30 0 9 - 1) = true) : vp_in a (mnv T) := by rw [← h.gV, h.eonv] at g; exact inB_t.mp g
theorem nB.tP (h : nB S T) {a : Int32} (g : mIn a 0 (T 30 0 12 - 1) = true) : vp_in a (mnp T) := by rw [← h.gP, h.eonp] at g; exact inB_t.mp g
end NQ
section NS
variable {hc : Nat → Int32} {X : NWd} {M T : NSt} {n : Nat}
theorem T0 (hT : nput M 30 0 0 0 = T) : T 30 0 0 = 0 := by rw [← hT]; exact nput_se
theorem TE (hT : nput M 30 0 0 0 = T) : mE M T := by rw [← hT]; exact mE.code
theorem sim_counted (h : nInv X M n) (hT : nput M 30 0 0 0 = T) (h2 : hc 2 = 1) {v : Int32} : nSim hc X M n (nG (inB v (onp (X 0))) 2 (.inr (X 0 11 (nix v) 8, wdo X 0 (X 0)))) (mG (mIn v 0 (T 30 0 12 - 1)) 1 T (0 : Int32) ((mCounted T v, T))) := by
  have hQ := (h.E (TE hT)).q
  have hB := hQ.b
  refine sim_g (hB.gP v) h2 (by decide) (TE hT) (fun g => sim_q h (TE hT) (T0 hT) ?_)
  rw [hQ.j.r8 _ (vp_lt (hB.tP g)), ← vp_eq (hB.tP g)]
theorem sim_deposit (h : nInv X M n) (hT : nput M 30 0 0 0 = T) (h2 : hc 2 = 1) {v : Int32} : nSim hc X M n (nG (inB v (onp (X 0))) 2 (.inr (oDep (X 0) v, wdo X 0 (X 0)))) (mG (mIn v 0 (T 30 0 12 - 1)) 1 T (0 : Int32) ((mFate T v, T))) := by
  have hQ := (h.E (TE hT)).q
  exact sim_g (hQ.b.gP v) h2 (by decide) (TE hT) (fun g => sim_q h (TE hT) (T0 hT) (hQ.dep (hQ.b.tP g)).symm)
theorem sim_reason (h : nInv X M n) (hT : nput M 30 0 0 0 = T) (h2 : hc 2 = 1) {v : Int32} {U : NSt} (hU : mOff T U) : nSim hc X M n (nG (inB v (onp (X 0))) 2 (.inr (oWhy (X 0) v, wdo X 0 (X 0)))) (mG (mIn v 0 (T 30 0 12 - 1)) 1 T (0 : Int32) ((mWhy T v, U))) := by
  have hQ := (h.E (TE hT)).q
  refine sim_g (hQ.b.gP v) h2 (by decide) (TE hT) (fun g => sim_q h ((TE hT).tr (mE.off hU)) ?_ (hQ.why (hQ.b.tP g)).symm)
  rw [hU 30 (by decide) (by decide)]; exact T0 hT
theorem sim_ballotSize (h : nInv X M n) (hT : nput M 30 0 0 0 = T) (h2 : hc 2 = 1) {v : Int32} {U : NSt} (hU : mOff T U) : nSim hc X M n (nG (inB v (ona (X 0))) 2 (.inr (oStand (X 0) v, wdo X 0 (X 0)))) (mG (mIn v 0 (T 30 0 5 - 1)) 1 T (0 : Int32) ((mStand T v, U))) := by
  have hQ := (h.E (TE hT)).q
  refine sim_g (hQ.b.gA v) h2 (by decide) (TE hT) (fun g => sim_q h ((TE hT).tr (mE.off hU)) ?_ (hQ.stand v).symm)
  rw [hU 30 (by decide) (by decide)]; exact T0 hT
theorem sim_reasonByReplay (h : nInv X M n) (hT : nput M 30 0 0 0 = T) (h2 : hc 2 = 1) {v : Int32} {U : NSt} (hU : mOff T U) : nSim hc X M n (nG (inB v (onp (X 0))) 2 (.inr (oWhy (oJudge (rpl (X 2) (X 1) (nix (X 2 21 0 4)))) v, wdo (wdo X 0 (X 0)) 1 (oJudge (rpl (X 2) (X 1) (nix (X 2 21 0 4))))))) (mG (mIn v 0 (T 30 0 12 - 1)) 1 T (0 : Int32) ((mWhy T v, U))) := by
  have hI := h.E (TE hT)
  have hQ := hI.q
  have hU0 : U 30 0 0 = 0 := by rw [hU 30 (by decide) (by decide)]; exact T0 hT
  have hn := h.hn
  refine sim_g (hQ.b.gP v) h2 (by decide) (TE hT) (fun g => sim_r hU0 ?_ (Nat.le_succ n) ((h.E ((TE hT).tr (mE.off hU))).eta.rep))
  rw [h.d, nix_nI (by omega)]
  exact (((hI.r (X 1)).1.J hQ.f).why (hQ.b.tP g)).symm
theorem sim_paperOf (h : nInv X M n) (hT : nput M 30 0 0 0 = T) (h2 : hc 2 = 1) (h4 : hc 4 = 2) {v : Int32} : nSim hc X M n (nG (inB v (onv (X 0))) 2 (nG (!decide (oSup (X 0) v = -1)) 4 (.inr (oSup (X 0) v, wdo X 0 (X 0))))) (mG (mIn v 0 (T 30 0 9 - 1)) 1 T (0 : Int32) (mG ((mSup T v).isSome) 2 T (0 : Int32) ((T 53 0 ((mSup T v).getD 0), T)))) := by
  have hQ := (h.E (TE hT)).q
  have hB := hQ.b
  have hs := hQ.sup v
  refine sim_g (hB.gV v) h2 (by decide) (TE hT) (fun gv => ?_)
  cases hm : mSup T v with
  | none =>
    rw [hm] at hs
    exact sim_g (by rw [hs]; rfl) h4 (by decide) (TE hT) (fun g => by cases g)
  | some k =>
    rw [hm] at hs
    have hk : k < mns T := by
      have h0 : ∀ n m, ffind (fun k => decide (T 54 0 k = v) && decide (mRes T k = 0)) n = some m → m < n := by
        intro n
        induction n with
        | zero => intro m h; cases h
        | succ n ih =>
          intro m h9
          cases hf : ffind (fun k => decide (T 54 0 k = v) && decide (mRes T k = 0)) n with
          | some q => simp [ffind, hf] at h9; subst h9; exact Nat.lt_succ_of_lt (ih q hf)
          | none =>
            rw [ffind_s hf] at h9
            split at h9
            · cases h9; exact Nat.lt_succ_self n
            · cases h9
      exact h0 _ _ hm
    have hv := (hB.si k hk).2.2.2.2.1
    have hne : ¬ T 53 0 k = -1 := by rw [vp_eq hv]; exact i32_m1 (by have := vp_lt hv; have := hB.np12; omega)
    have hs2 : oSup (X 0) v = T 53 0 k := hs
    refine sim_g (by rw [hs2, decide_eq_false hne]; rfl) h4 (by decide) (TE hT) (fun _ => sim_q h (TE hT) (T0 hT) hs2.symm)
end NS
