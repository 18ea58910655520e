/-! The events, call by call. -/
theorem nG_and {α : Type} {b1 b2 : Bool} {k : Nat} {G : Nat ⊕ α} : nG (b1 && b2) k G = nG b1 k (nG b2 k G) := by
  unfold nG; cases b1 <;> cases b2 <;> rfl
section NS
variable {hc : Nat → Int32} {X : NWd} {M T : NSt} {n : Nat}
theorem sim_ev {α : Type} {M' : NSt} {x f z t : Int32} {r r' : α} (h : nInv X M n) (hT : nput M 30 0 0 0 = T) (hn : n < 512) (h0 : M' 30 0 0 = 0) (he : ∀ S, nP S T → oEv S x f z ∧ nP (oHap S x f z t) M') (hf : nF M') (hz : nZ M') (hr : nQ (oJudge (oHap (X 0) x f z t)) M' → r' = r) : nSim hc X M n (.inr (r, nEv X (X 0) x f z t)) (r', M') := by
  have hI := (h.E (TE hT)).ev hn he hf hz
  exact sim_r h0 (hr ((he (X 0) (h.E (TE hT)).q.P).2.J hf)) (Nat.le_refl _) hI
theorem sim_pass (h : nInv X M n) (hT : nput M 30 0 0 0 = T) (hn : n < 512) (h0 : hc 0 = 1) (h1 : hc 1 = 2) {a : Int32} {U : NSt} (hU : mPass T a U ∨ (!(mIn a 1 30 && decide (T 30 0 4 + a ≤ 99))) = true) : nSim hc X M n (nG (decide (1 ≤ a) && decide (a ≤ 30)) 0 (nG (decide (X 0 1 0 0 + a ≤ 99)) 1 (.inr (nJ (X 0) 1 a 0 0 1 0 0, nEv X (X 0) 1 a 0 0)))) (mG (mIn a 1 30) 1 T (0 : Int32) (mG (decide (T 30 0 4 + a ≤ 99)) 2 T (0 : Int32) ((T 30 0 4 + a, nput U 30 0 4 (T 30 0 4 + a))))) := by
  have hI := h.E (TE hT)
  have hQ := hI.q
  have hB := hQ.b
  have hZ := hI.z
  have h12 := hB.np12
  obtain ⟨d, hd, ed⟩ := hZ.d
  refine sim_g rfl h0 (by decide) (TE hT) (fun g0 => sim_g (by rw [hB.c0]) h1 (by decide) (TE hT) (fun g1 => ?_))
  have hP : mPass T a U := by
    rcases hU with hU | hU
    · exact hU
    · rw [g0, g1] at hU; cases hU
  obtain ⟨a', ha1, ha2, ea⟩ : ∃ k, 1 ≤ k ∧ k ≤ 30 ∧ a = nI k := by
    unfold mIn at g0
    rw [Bool.and_eq_true, decide_eq_true_eq, decide_eq_true_eq] at g0
    have hp : ¬ a < 0 := fun z => absurd (Int32.lt_of_le_of_lt g0.1 z) (by decide)
    obtain ⟨j, hj, rfl⟩ := nI_of hp
    exact ⟨j, (nI_leI (by omega) hj).mp (show nI 1 ≤ nI j from g0.1), (nI_leI hj (by omega)).mp (show nI j ≤ nI 30 from g0.2), rfl⟩
  have es : T 30 0 4 + a = nI (d + a') := by rw [ed, ea, nI_add]
  have hle : T 30 0 4 ≤ T 30 0 4 + a := by rw [es, ed]; exact nI_le (by omega) (by omega)
  have h99 : d + a' ≤ 99 := by
    have := of_decide_eq_true g1
    rw [es] at this
    exact (nI_leI (by omega) (by omega)).mp (show nI (d + a') ≤ nI 99 from this)
  have hres : nJ (X 0) 1 a 0 0 1 0 0 = T 30 0 4 + a := by
    show oJudge (nput (oJudge (X 0)) 1 0 0 (oJudge (X 0) 1 0 0 + a)) 1 0 0 = _
    rw [oJudge_same _ 1 0 0 (by decide) (by decide), nput_se, oJudge_same _ 1 0 0 (by decide) (by decide), hB.c0]
  unfold mPass at hP
  by_cases hx : (mOpen T && decide (T 30 0 1 < T 30 0 4 + a)) = true
  · rw [if_pos hx] at hP
    rw [Bool.and_eq_true, decide_eq_true_eq] at hx
    obtain ⟨hop, hcl⟩ := hx
    obtain ⟨u1, u2, u3⟩ := hP
    have gE := mE2.of2 u1
    have eU4 : U 30 0 4 = T 30 0 4 := gE.2 4 (by decide)
    have ho' : mOpen (nput U 30 0 4 (T 30 0 4 + a)) = false := by
      show decide (nput U 30 0 4 (T 30 0 4 + a) 30 0 4 ≤ nput U 30 0 4 (T 30 0 4 + a) 30 0 1) = false
      rw [nput_se, nput_nj (by decide), gE.2 1 (by decide)]
      exact decide_eq_false (Int32.not_le.mpr hcl)
    have enp : mnp (nput U 30 0 4 (T 30 0 4 + a)) = mnp T := gE.enp
    have ens : mns (nput U 30 0 4 (T 30 0 4 + a)) = mns T := gE.ens
    refine sim_ev h hT hn (by rw [nput_nj (by decide), u1.at (by decide)]; exact T0 hT) (fun S hS => ⟨⟨by unfold vp_in; decide, fun e => absurd e (by decide), fun e => absurd e (by decide), fun e => absurd e (by decide), fun e => absurd e (by decide), fun e => absurd e (by decide), fun e => absurd e (by decide), fun e => absurd e (by decide)⟩, ?_, fun _ => ?_⟩) ?_ ?_ (fun _ => hres.symm)
    · show nB (nput (oJudge S) 1 0 0 (oJudge S 1 0 0 + a)) _
      have := ev_day ((hS.b.same (oJudge_same S)).E gE) a
      rwa [eU4] at this
    · have hj := hS.b.judge hop
      refine ⟨fun k hk => ?_, fun i hi => ?_, fun i hi => ?_⟩
      · rw [ens] at hk
        show oJudge S 13 k 4 = _
        rw [hj.r4 k hk]
        unfold mRes
        rw [ho', if_pos hop, if_neg Bool.false_ne_true]
        exact (u2 k hk).symm
      · rw [enp] at hi
        show oJudge S 11 i 8 = _
        rw [hj.r8 i hi]
        unfold mCounted
        rw [ens]
        refine isum_congr (fun k hk => ?_)
        have e1 : mRes (nput U 30 0 4 (T 30 0 4 + a)) k = mRes T k := by
          unfold mRes
          rw [ho', if_pos hop, if_neg Bool.false_ne_true]
          exact u2 k hk
        have e2 : nput U 30 0 4 (T 30 0 4 + a) 53 0 k = T 53 0 k := by rw [nput_nk (by decide), u1.at (by decide)]
        rw [e1, e2]
      · rw [enp] at hi
        show oJudge S 11 i 9 = _
        rw [hj.r9 i hi, ho', if_pos hop, if_neg Bool.false_ne_true]
        show mV T i = U 51 0 i
        rw [u3 i hi, mwh_at T _ (Nat.lt_succ_self i)]
    · intro _ i hi
      rw [enp] at hi
      have e1 : nput U 30 0 4 (T 30 0 4 + a) 46 0 i = T 46 0 i := by rw [nput_nk (by decide), u1.at (by decide)]
      have e2 : nput U 30 0 4 (T 30 0 4 + a) 51 0 i = mV T i := by rw [nput_nk (by decide), u3 i hi, mwh_at T _ (Nat.lt_succ_self i)]
      rw [e1, e2]
      refine ⟨?_, mRs_rng _ _⟩
      rw [mV_1]
      have := hZ.o hop i hi
      rcases hB.wd i hi with ⟨q, -⟩ | ⟨q, -⟩ | ⟨q, -⟩
      · rw [q]; decide
      · rw [q]; decide
      · exact absurd q this
    · have z2 := hZ.E gE
      refine ⟨z2.z38, z2.z41, z2.zp, z2.n45, z2.n58, fun q => (by rw [ho'] at q; cases q), d + a', h99, ?_⟩
      rw [nput_se, es]
  · rw [if_neg hx] at hP
    subst hP
    have hx2 : mOpen U = true → mOpen (nput U 30 0 4 (U 30 0 4 + a)) = true := by
      intro hop
      rw [hop, Bool.true_and] at hx
      have h3 : ¬ U 30 0 1 < U 30 0 4 + a := fun z => hx (decide_eq_true z)
      show decide (nput U 30 0 4 (U 30 0 4 + a) 30 0 4 ≤ nput U 30 0 4 (U 30 0 4 + a) 30 0 1) = true
      rw [nput_se, nput_nj (by decide)]
      exact decide_eq_true (Int32.not_lt.mp h3)
    have hx3 : mOpen (nput U 30 0 4 (U 30 0 4 + a)) = true → mOpen U = true := by
      intro hop
      have h3 : nput U 30 0 4 (U 30 0 4 + a) 30 0 4 ≤ nput U 30 0 4 (U 30 0 4 + a) 30 0 1 := of_decide_eq_true hop
      rw [nput_se, nput_nj (by decide)] at h3
      exact decide_eq_true (Int32.le_trans hle h3)
    have hcl : mOpen (nput U 30 0 4 (U 30 0 4 + a)) = false → mOpen U = false := by
      intro q
      cases hop : mOpen U with
      | false => rfl
      | true => rw [hx2 hop] at q; cases q
    refine sim_ev h hT hn (by rw [nput_nj (by decide)]; exact T0 hT) (fun S hS => ⟨⟨by unfold vp_in; decide, fun e => absurd e (by decide), fun e => absurd e (by decide), fun e => absurd e (by decide), fun e => absurd e (by decide), fun e => absurd e (by decide), fun e => absurd e (by decide), fun e => absurd e (by decide)⟩, ?_, fun q => ?_⟩) ?_ ?_ (fun _ => hres.symm)
    · show nB (nput (oJudge S) 1 0 0 (oJudge S 1 0 0 + a)) _
      exact ev_day (hS.b.same (oJudge_same S)) a
    · show nJd (nput (oJudge S) 1 0 0 (oJudge S 1 0 0 + a)) _
      have hj : oJudge S = S := by unfold oJudge; rw [hS.b.opn, hcl q]; rfl
      rw [hj]
      exact (hS.c (hcl q)).keep (hcl q) q rfl rfl rfl rfl rfl (fun _ => rfl) (fun _ => rfl) (fun _ => rfl)
    · intro q i hi
      exact hQ.f (hcl q) i hi
    · exact ⟨hZ.z38, hZ.z41, hZ.zp, hZ.n45, hZ.n58, fun q i hi => hZ.o (hx3 q) i hi, d + a', h99, by rw [nput_se, es]⟩
end NS
