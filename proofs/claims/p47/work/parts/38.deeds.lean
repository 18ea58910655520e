/-! The other events, call by call. -/
section NS
variable {hc : Nat → Int32} {X : NWd} {M T : NSt} {n : Nat}
theorem dec_ltne {c b : Nat} (h : c ≤ b) (hb : b < 2 ^ 31) : decide (nI c < nI b) = !decide (nI c = nI b) := by
  by_cases q : c = b
  · subst q
    rw [decide_eq_true rfl, decide_eq_false (Int32.lt_irrefl)]; rfl
  · rw [decide_eq_true ((nI_ltI (by omega) hb).mpr (by omega)), decide_eq_false (fun z => q (nI_inj (by omega) hb z))]; rfl
theorem oEv_v {S : NSt} {x f z : Int32} (hx : x = 4 ∨ x = 5 ∨ x = 6) (h : vp_in f (onv S)) : oEv S x f z := by
  rcases hx with rfl | rfl | rfl <;> exact ⟨by unfold vp_in; decide, fun e => absurd e (by decide), fun e => absurd e (by decide), fun _ => h, fun e => absurd e (by decide), fun e => absurd e (by decide), fun e => absurd e (by decide), fun e => absurd e (by decide)⟩
theorem oEv_p {S : NSt} {x f z : Int32} (hx : x = 9 ∨ x = 10 ∨ x = 11 ∨ x = 12 ∨ x = 14) (h : vp_in f (onp S)) : oEv S x f z := by
  rcases hx with rfl | rfl | rfl | rfl | rfl <;> exact ⟨by unfold vp_in; decide, fun e => absurd e (by decide), fun e => absurd e (by decide), fun e => absurd e (by decide), fun e => absurd e (by decide), fun e => absurd e (by decide), fun _ => h, fun e => absurd e (by decide)⟩
theorem nP.v {S : NSt} (h : nP S T) {v : Int32} (g : vp_in v (mnv T)) : vp_in v (onv S) := by rw [h.b.eonv]; exact g
theorem nP.p {S : NSt} (h : nP S T) {v : Int32} (g : vp_in v (mnp T)) : vp_in v (onp S) := by rw [h.b.eonp]; exact g
theorem nP.a {S : NSt} (h : nP S T) {v : Int32} (g : vp_in v (mna T)) : vp_in v (ona S) := by rw [h.b.eona]; exact g
theorem sim_move (h : nInv X M n) (hT : nput M 30 0 0 0 = T) (hn : n < 512) (h2 : hc 2 = 1) (h3 : hc 3 = 2) {v a : Int32} : nSim hc X M n (nG (inB v (onv (X 0))) 2 (nG (inB a (ona (X 0))) 2 (nG (!decide (X 0 6 (nix v) 0 = a)) 3 (.inr (X 0 6 (nix v) 0, nEv X (X 0) 4 v a 0))))) (mG (mIn v 0 (T 30 0 9 - 1) && mIn a 0 (T 30 0 5 - 1)) 1 T (0 : Int32) (mG (!decide (T 40 0 (nix v) = a)) 2 T (0 : Int32) ((T 40 0 (nix v), nput T 40 0 (nix v) a)))) := by
  have hQ := (h.E (TE hT)).q
  have hB := hQ.b
  have hZ := (h.E (TE hT)).z
  rw [mG_and]
  refine sim_g (hB.gV v) h2 (by decide) (TE hT) (fun gv => sim_g (hB.gA a) h2 (by decide) (TE hT) (fun ga => ?_))
  have e := (hB.vo _ (vp_lt (hB.tV gv))).1
  rw [e]
  refine sim_g rfl h3 (by decide) (TE hT) (fun _ => sim_ev h hT hn (show T 30 0 0 = 0 from T0 hT) (fun S hS => ⟨oEv_v (by decide) (hS.v (hB.tV gv)), ?_⟩) (fun ho i hi => hQ.f ho i hi) ⟨hZ.z38, hZ.z41, hZ.zp, hZ.n45, hZ.n58, hZ.o, hZ.d⟩ (fun _ => rfl))
  exact hS.ev (ev_move hS.b v a) id id (fun _ => ⟨rfl, rfl, rfl, rfl, rfl, fun _ => rfl, fun _ => rfl, fun _ => rfl⟩)
theorem sim_strike (h : nInv X M n) (hT : nput M 30 0 0 0 = T) (hn : n < 512) (h2 : hc 2 = 1) (h1 : hc 1 = 2) {v : Int32} : nSim hc X M n (nG (inB v (onv (X 0))) 2 (nG (!decide (X 0 6 (nix v) 1 = 0)) 1 (.inr (oRoll (nJ (X 0) 5 v 0 0), nEv X (X 0) 5 v 0 0)))) (mG (mIn v 0 (T 30 0 9 - 1)) 1 T (0 : Int32) (mG (!decide (T 41 0 (nix v) = 1)) 2 T (0 : Int32) (mRoll (nput T 41 0 (nix v) (vp_nar .boolean 1)), nput T 41 0 (nix v) (vp_nar .boolean 1)))) := by
  have hQ := (h.E (TE hT)).q
  have hB := hQ.b
  have hZ := (h.E (TE hT)).z
  refine sim_g (hB.gV v) h2 (by decide) (TE hT) (fun gv => ?_)
  have hv := vp_lt (hB.tV gv)
  refine sim_g (by rcases (hB.vo _ hv).2.1 with ⟨a, b⟩ | ⟨a, b⟩ <;> rw [a, b] <;> rfl) h1 (by decide) (TE hT) (fun _ => sim_ev h hT hn (show T 30 0 0 = 0 from T0 hT) (fun S hS => ⟨oEv_v (by decide) (hS.v (hB.tV gv)), ?_⟩) (fun ho i hi => hQ.f ho i hi) ⟨hZ.z38, fun i hi => ?_, hZ.zp, hZ.n45, hZ.n58, hZ.o, hZ.d⟩ (fun hq => hq.b.roll.symm))
  · exact hS.ev (ev_strike hS.b v) id id (fun _ => ⟨rfl, rfl, rfl, rfl, rfl, fun _ => rfl, fun _ => rfl, fun _ => rfl⟩)
  · have hi' : mnv T ≤ i := hi
    rw [nput_nj (by omega)]; exact hZ.z41 i hi
theorem sim_restore (h : nInv X M n) (hT : nput M 30 0 0 0 = T) (hn : n < 512) (h2 : hc 2 = 1) (h1 : hc 1 = 2) {v : Int32} : nSim hc X M n (nG (inB v (onv (X 0))) 2 (nG (decide (X 0 6 (nix v) 1 = 0)) 1 (.inr (oRoll (nJ (X 0) 6 v 0 0), nEv X (X 0) 6 v 0 0)))) (mG (mIn v 0 (T 30 0 9 - 1)) 1 T (0 : Int32) (mG (!decide (T 41 0 (nix v) = 0)) 2 T (0 : Int32) (mRoll (nput T 41 0 (nix v) (vp_nar .boolean 0)), nput T 41 0 (nix v) (vp_nar .boolean 0)))) := by
  have hQ := (h.E (TE hT)).q
  have hB := hQ.b
  have hZ := (h.E (TE hT)).z
  refine sim_g (hB.gV v) h2 (by decide) (TE hT) (fun gv => ?_)
  have hv := vp_lt (hB.tV gv)
  refine sim_g (by rcases (hB.vo _ hv).2.1 with ⟨a, b⟩ | ⟨a, b⟩ <;> rw [a, b] <;> rfl) h1 (by decide) (TE hT) (fun _ => sim_ev h hT hn (show T 30 0 0 = 0 from T0 hT) (fun S hS => ⟨oEv_v (by decide) (hS.v (hB.tV gv)), ?_⟩) (fun ho i hi => hQ.f ho i hi) ⟨hZ.z38, fun i hi => ?_, hZ.zp, hZ.n45, hZ.n58, hZ.o, hZ.d⟩ (fun hq => hq.b.roll.symm))
  · exact hS.ev (ev_restore hS.b v) id id (fun _ => ⟨rfl, rfl, rfl, rfl, rfl, fun _ => rfl, fun _ => rfl, fun _ => rfl⟩)
  · have hi' : mnv T ≤ i := hi
    rw [nput_nj (by omega)]; exact hZ.z41 i hi
theorem sim_addArea (h : nInv X M n) (hT : nput M 30 0 0 0 = T) (hn : n < 512) (h0 : hc 0 = 1) (h1 : hc 1 = 2) {a b : Int32} : nSim hc X M n (nG (decide (1 ≤ a) && decide (a ≤ 10) && decide (0 ≤ b) && decide (b ≤ 1000)) 0 (nG (decide (X 0 2 0 2 < 5)) 1 (.inr (nJ (X 0) 2 a b 0 2 0 2 - 1, nEv X (X 0) 2 a b 0)))) (mG (mIn a 1 10 && mIn b 0 1000) 1 T (0 : Int32) (mG (!decide (T 30 0 5 = 5)) 2 T (0 : Int32) ((T 30 0 5 + 1 - 1, nput (nput (nput T 36 0 (nix (T 30 0 5)) a) 37 0 (nix (T 30 0 5)) b) 30 0 5 (T 30 0 5 + 1))))) := by
  have hQ := (h.E (TE hT)).q
  have hB := hQ.b
  have hZ := (h.E (TE hT)).z
  have h5 := hB.na5
  have e5 := hB.ok.2.2.2.2.2.2.1
  refine sim_g (by unfold mIn; simp only [Bool.and_assoc]) h0 (by decide) (TE hT) (fun g0 => sim_g (b' := !decide (T 30 0 5 = 5)) ?_ h1 (by decide) (TE hT) (fun g1 => ?_))
  · rw [hB.na, e5]
    exact dec_ltne (b := 5) (by omega) (by omega)
  · have hlt : mna T < 5 := by
      by_cases q : mna T = 5
      · rw [e5, q] at g1; cases g1
      · omega
    have e6 : nix (T 30 0 5 + 1) = mna T + 1 := nix_pl e5 (by omega)
    refine sim_ev h hT hn (show T 30 0 0 = 0 from T0 hT) (fun S hS => ⟨⟨by unfold vp_in; decide, fun _ => by rw [hS.b.eona]; exact hlt, fun e => absurd e (by decide), fun e => absurd e (by decide), fun e => absurd e (by decide), fun e => absurd e (by decide), fun e => absurd e (by decide), fun e => absurd e (by decide)⟩, ?_⟩) (fun ho i hi => hQ.f ho i hi) ⟨fun i hi => ?_, hZ.z41, hZ.zp, hZ.n45, hZ.n58, hZ.o, hZ.d⟩ (fun hq => ?_)
    · exact hS.ev (ev_area hS.b (hZ.z38 _ (Nat.le_refl _)) hlt a b) id id (fun _ => ⟨rfl, rfl, rfl, rfl, rfl, fun _ => rfl, fun _ => rfl, fun _ => rfl⟩)
    · have hi' : nix (T 30 0 5 + 1) ≤ i := hi
      rw [e6] at hi'
      exact hZ.z38 i (by omega)
    · exact congrArg (· - 1) hq.b.na.symm
theorem sim_addVoter (h : nInv X M n) (hT : nput M 30 0 0 0 = T) (hn : n < 512) (h2 : hc 2 = 1) (h1 : hc 1 = 2) {a : Int32} : nSim hc X M n (nG (inB a (ona (X 0))) 2 (nG (decide (X 0 2 0 3 < 40)) 1 (.inr (nJ (X 0) 3 a 0 0 2 0 3 - 1, nEv X (X 0) 3 a 0 0)))) (mG (mIn a 0 (T 30 0 5 - 1)) 1 T (0 : Int32) (mG (!decide (T 30 0 9 = 40)) 2 T (0 : Int32) ((T 30 0 9 + 1 - 1, nput (nput T 40 0 (nix (T 30 0 9)) a) 30 0 9 (T 30 0 9 + 1))))) := by
  have hQ := (h.E (TE hT)).q
  have hB := hQ.b
  have hZ := (h.E (TE hT)).z
  have h5 := hB.nv40
  have e5 := hB.ok.2.2.2.2.1
  refine sim_g (hB.gA a) h2 (by decide) (TE hT) (fun ga => sim_g (b' := !decide (T 30 0 9 = 40)) ?_ h1 (by decide) (TE hT) (fun g1 => ?_))
  · rw [hB.nv, e5]
    exact dec_ltne (b := 40) (by omega) (by omega)
  · have hlt : mnv T < 40 := by
      by_cases q : mnv T = 40
      · rw [e5, q] at g1; cases g1
      · omega
    have e6 : nix (T 30 0 9 + 1) = mnv T + 1 := nix_pl e5 (by omega)
    refine sim_ev h hT hn (show T 30 0 0 = 0 from T0 hT) (fun S hS => ⟨⟨by unfold vp_in; decide, fun e => absurd e (by decide), fun _ => by rw [hS.b.eonv]; exact hlt, fun e => absurd e (by decide), fun e => absurd e (by decide), fun e => absurd e (by decide), fun e => absurd e (by decide), fun e => absurd e (by decide)⟩, ?_⟩) (fun ho i hi => hQ.f ho i hi) ⟨hZ.z38, fun i hi => ?_, hZ.zp, hZ.n45, hZ.n58, hZ.o, hZ.d⟩ (fun hq => ?_)
    · exact hS.ev (ev_voter hS.b (hZ.z41 _ (Nat.le_refl _)) hlt a) id id (fun _ => ⟨rfl, rfl, rfl, rfl, rfl, fun _ => rfl, fun _ => rfl, fun _ => rfl⟩)
    · have hi' : nix (T 30 0 9 + 1) ≤ i := hi
      rw [e6] at hi'
      exact hZ.z41 i (by omega)
    · exact congrArg (· - 1) hq.b.nv.symm
theorem sim_pay (h : nInv X M n) (hT : nput M 30 0 0 0 = T) (hn : n < 512) (h2 : hc 2 = 1) (h0 : hc 0 = 2) (h1 : hc 1 = 3) {x a : Int32} : nSim hc X M n (nG (inB x (onp (X 0))) 2 (nG (decide (1 ≤ a) && decide (a ≤ 1000)) 0 (nG (oOpen (X 0)) 1 (nG (!oGone (X 0) x) 1 (.inr (nJ (X 0) 9 x a 0 11 (nix x) 3, nEv X (X 0) 9 x a 0)))))) (mG (mIn x 0 (T 30 0 12 - 1)) 1 T (0 : Int32) (mG (mIn a 1 1000) 2 T (0 : Int32) (mG (mOpen T && decide (T 46 0 (nix x) ≤ 0)) 3 T (0 : Int32) ((T 47 0 (nix x) + a, nput T 47 0 (nix x) (T 47 0 (nix x) + a)))))) := by
  have hQ := (h.E (TE hT)).q
  have hB := hQ.b
  have hZ := (h.E (TE hT)).z
  rw [mG_and]
  refine sim_g (hB.gP x) h2 (by decide) (TE hT) (fun gx => sim_g rfl h0 (by decide) (TE hT) (fun _ => sim_g hB.opn h1 (by decide) (TE hT) (fun go => sim_g (hB.wle (hB.tP gx)).symm h1 (by decide) (TE hT) (fun gg => ?_))))
  have hx := vp_lt (hB.tP gx)
  refine sim_ev h hT hn (show T 30 0 0 = 0 from T0 hT) (fun S hS => ⟨oEv_p (by decide) (hS.p (hB.tP gx)), ?_⟩) (fun ho i hi => hQ.f ho i hi) ⟨hZ.z38, hZ.z41, fun i hi => ?_, hZ.n45, hZ.n58, hZ.o, hZ.d⟩ (fun hq => ?_)
  · exact hS.ev (ev_pay hS.b hx a) id id (fun _ => ⟨rfl, rfl, rfl, rfl, rfl, fun _ => rfl, fun _ => rfl, fun _ => rfl⟩)
  · have hi' : mnp T ≤ i := hi
    obtain ⟨z1, z2, z3, z4, z5⟩ := hZ.zp i hi
    exact ⟨z1, by rw [nput_nj (by omega)]; exact z2, z3, z4, z5⟩
  · have := (hq.b.pa (nix x) hx).2.2.1
    exact ((this.trans nput_se).symm).trans rfl
theorem sim_withdraw (h : nInv X M n) (hT : nput M 30 0 0 0 = T) (hn : n < 512) (h2 : hc 2 = 1) (h1 : hc 1 = 2) {x : Int32} : nSim hc X M n (nG (inB x (onp (X 0))) 2 (nG (!oGone (X 0) x) 1 (nG (!oRej (X 0) x) 1 (nG (oChg (X 0)) 1 (.inr (oOthers (nJ (X 0) 10 x 0 0) x - oOthers (X 0) x, nEv X (X 0) 10 x 0 0)))))) (mG (mIn x 0 (T 30 0 12 - 1)) 1 T (0 : Int32) (mG (decide (T 46 0 (nix x) ≤ 0) && !mRej T x && decide (T 30 0 4 ≤ T 30 0 2)) 2 T (0 : Int32) ((if mOpen T then mFreed T x else 0, nput T 46 0 (nix x) (if mOpen T then 1 else 2))))) := by
  have hQ := (h.E (TE hT)).q
  have hB := hQ.b
  have hZ := (h.E (TE hT)).z
  rw [mG_and, mG_and]
  refine sim_g (hB.gP x) h2 (by decide) (TE hT) (fun gx => sim_g (hB.wle (hB.tP gx)).symm h1 (by decide) (TE hT) (fun gg => sim_g (by rw [hQ.rej (hB.tP gx)]) h1 (by decide) (TE hT) (fun gr => sim_g hB.chg h1 (by decide) (TE hT) (fun gc => ?_))))
  have hx := vp_lt (hB.tP gx)
  have hw := hQ.withdraw (hB.tP gx)
  refine sim_ev h hT hn (show T 30 0 0 = 0 from T0 hT) (fun S hS => ⟨oEv_p (by decide) (hS.p (hB.tP gx)), ?_⟩) ?_ ⟨hZ.z38, hZ.z41, fun i hi => ?_, hZ.n45, hZ.n58, ?_, hZ.d⟩ (fun _ => hw.symm)
  · exact hS.ev (ev_wd hS.b (hB.tP gx)) id id (fun _ => ⟨rfl, rfl, rfl, rfl, rfl, fun _ => rfl, fun _ => rfl, fun _ => rfl⟩)
  · intro ho i hi
    have ho : mOpen T = false := ho
    have hi : i < mnp T := hi
    have hf := hQ.f ho i hi
    show (nput T 46 0 (nix x) (if mOpen T then 1 else 2) 46 0 i = 1 ↔ T 51 0 i = 1) ∧ _
    refine ⟨?_, hf.2⟩
    by_cases e : i = nix x
    · subst e
      rw [nput_se, ho]
      have h46 : T 46 0 (nix x) = 0 := by
        have : T 46 0 (nix x) ≤ 0 := of_decide_eq_true gg
        rcases hB.wd _ hx with ⟨q, -⟩ | ⟨q, -⟩ | ⟨q, -⟩
        · exact q
        · rw [q] at this; exact absurd this (by decide)
        · rw [q] at this; exact absurd this (by decide)
      have := hf.1
      rw [h46] at this
      exact ⟨fun q => absurd q (by decide), fun q => absurd (this.mpr q) (by decide)⟩
    · rw [nput_nj e]; exact hf.1
  · have hi' : mnp T ≤ i := hi
    obtain ⟨z1, z2, z3, z4, z5⟩ := hZ.zp i hi
    exact ⟨by rw [nput_nj (by omega)]; exact z1, z2, z3, z4, z5⟩
  · intro ho i hi
    have ho : mOpen T = true := ho
    have hi : i < mnp T := hi
    by_cases e : i = nix x
    · rw [e, nput_se, ho]; decide
    · rw [nput_nj e]; exact hZ.o ho i hi
theorem sim_die (h : nInv X M n) (hT : nput M 30 0 0 0 = T) (hn : n < 512) (h2 : hc 2 = 1) (h1 : hc 1 = 2) {x : Int32} : nSim hc X M n (nG (inB x (onp (X 0))) 2 (nG (!oGone (X 0) x) 1 (nG (!oRej (X 0) x) 1 (nG (decide (X 0 11 (nix x) 6 = 0)) 1 (nG (!oPoll (X 0)) 1 (.inr (nb (oRepl (nJ (X 0) 11 x 0 0) x), nEv X (X 0) 11 x 0 0))))))) (mG (mIn x 0 (T 30 0 12 - 1)) 1 T (0 : Int32) (mG (decide (T 46 0 (nix x) ≤ 0) && !mRej T x && decide (T 48 0 (nix x) = 0) && decide (T 30 0 4 < T 30 0 3)) 2 T (0 : Int32) ((nb (mRepl (nput T 48 0 (nix x) 1) x), nput T 48 0 (nix x) 1)))) := by
  have hQ := (h.E (TE hT)).q
  have hB := hQ.b
  have hZ := (h.E (TE hT)).z
  rw [mG_and, mG_and, mG_and]
  refine sim_g (hB.gP x) h2 (by decide) (TE hT) (fun gx => sim_g (hB.wle (hB.tP gx)).symm h1 (by decide) (TE hT) (fun gg => sim_g (by rw [hQ.rej (hB.tP gx)]) h1 (by decide) (TE hT) (fun gr => sim_g (by rw [(hB.pa _ (vp_lt (hB.tP gx))).2.2.2.2.2.1]) h1 (by decide) (TE hT) (fun gd => sim_g (b' := decide (T 30 0 4 < T 30 0 3)) ?_ h1 (by decide) (TE hT) (fun gp => ?_)))))
  · rw [hB.pol]
    by_cases c : T 30 0 3 ≤ T 30 0 4
    · rw [decide_eq_true c, decide_eq_false (Int32.not_lt.mpr c)]; rfl
    · rw [decide_eq_false c, decide_eq_true (Int32.not_le.mp c)]; rfl
  · have hx := vp_lt (hB.tP gx)
    refine sim_ev h hT hn (show T 30 0 0 = 0 from T0 hT) (fun S hS => ⟨oEv_p (by decide) (hS.p (hB.tP gx)), ?_⟩) (fun ho i hi => hQ.f ho i hi) ⟨hZ.z38, hZ.z41, fun i hi => ?_, hZ.n45, hZ.n58, hZ.o, hZ.d⟩ (fun hq => ?_)
    · exact hS.ev (ev_die hS.b x) id id (fun _ => ⟨rfl, rfl, rfl, rfl, rfl, fun _ => rfl, fun _ => rfl, fun _ => rfl⟩)
    · have hi' : mnp T ≤ i := hi
      obtain ⟨z1, z2, z3, z4, z5⟩ := hZ.zp i hi
      exact ⟨z1, z2, by rw [nput_nj (by omega)]; exact z3, z4, z5⟩
    · exact congrArg nb (hq.repl (hB.tP gx)).symm
theorem nar_idem {x : Int32} (h : vp_nar .char x = x) : narrow .char (.int x) = .int x := congrArg Value.int h
theorem n45_put {M : NSt} {x a b c d : Int32} (h : ∀ k, narrow .char (.int (M 45 0 k)) = .int (M 45 0 k)) (hk : nmOk a b c d = true) : ∀ k, narrow .char (.int (mName M x a b c d 45 0 k)) = .int (mName M x a b c d 45 0 k) := by
  obtain ⟨f0, f1, f2, f3⟩ := sur_nar hk
  intro k
  unfold mName
  rw [f0, f1, f2, f3]
  unfold nput
  repeat' split
  · exact nar_idem f3
  · exact nar_idem f2
  · exact nar_idem f1
  · exact nar_idem f0
  · exact h k
theorem sim_replace (h : nInv X M n) (hT : nput M 30 0 0 0 = T) (hn : n < 512) (h2 : hc 2 = 1) (h0 : hc 0 = 2) (h1 : hc 1 = 3) {x n1 n2 n3 n4 : Int32} : nSim hc X M n (nG (inB x (onp (X 0))) 2 (nG (nmOk n1 n2 n3 n4) 0 (nG (oRepl (X 0) x) 1 (.inr (nJ (X 0) 12 x (cName n1 n2 n3 n4) 0 11 (nix x) 5, nEv X (X 0) 12 x (cName n1 n2 n3 n4) 0))))) (mG (mIn x 0 (T 30 0 12 - 1)) 1 T (0 : Int32) (mG (mSur n1 n2 n3 n4) 2 T (0 : Int32) (mG (mRepl T x) 3 T (0 : Int32) ((T 49 0 (nix x) + 1, nput (nput (mName T x n1 n2 n3 n4) 48 0 (nix x) 0) 49 0 (nix x) (T 49 0 (nix x) + 1)))))) := by
  have hQ := (h.E (TE hT)).q
  have hB := hQ.b
  have hZ := (h.E (TE hT)).z
  refine sim_g (hB.gP x) h2 (by decide) (TE hT) (fun gx => sim_g (nmOk_sur _ _ _ _) h0 (by decide) (TE hT) (fun gn => sim_g (hQ.repl (hB.tP gx)) h1 (by decide) (TE hT) (fun gr => ?_)))
  rw [← nmOk_sur] at gn
  have hx := vp_lt (hB.tP gx)
  refine sim_ev h hT hn (show T 30 0 0 = 0 from T0 hT) (fun S hS => ⟨oEv_p (by decide) (hS.p (hB.tP gx)), ?_⟩) (fun ho i hi => hQ.f ho i hi) ⟨hZ.z38, hZ.z41, fun i hi => ?_, ?_, hZ.n58, hZ.o, hZ.d⟩ (fun hq => ?_)
  · exact hS.ev (ev_repl hS.b (hB.tP gx) gn) id id (fun _ => ⟨rfl, rfl, rfl, rfl, rfl, fun _ => rfl, fun _ => rfl, fun _ => rfl⟩)
  · have hi' : mnp T ≤ i := hi
    obtain ⟨z1, z2, z3, z4, z5⟩ := hZ.zp i hi
    refine ⟨z1, z2, ?_, ?_, z5⟩
    · rw [nput_nk (by decide), nput_nj (by omega), mName_nk _ _ _ _ _ _ (by decide)]; exact z3
    · rw [nput_nj (by omega), nput_nk (by decide), mName_nk _ _ _ _ _ _ (by decide)]; exact z4
  · intro k
    have := n45_put (x := x) hZ.n45 gn k
    rw [nput_nk (by decide), nput_nk (by decide)]; exact this
  · have := (hq.b.pa (nix x) hx).2.2.2.2.1
    exact ((this.trans nput_se).symm).trans rfl
theorem sim_file (h : nInv X M n) (hT : nput M 30 0 0 0 = T) (hn : n < 512) (h2 : hc 2 = 1) (h0 : hc 0 = 2) (h1 : hc 1 = 3) {a q n1 n2 n3 n4 : Int32} : nSim hc X M n (nG (inB a (ona (X 0))) 2 (nG (decide (-1 ≤ q) && decide (q ≤ 7)) 0 (nG (nmOk n1 n2 n3 n4) 0 (nG (oOpen (X 0)) 1 (nG (decide (X 0 0 0 6 < 12)) 1 (.inr (nJ (X 0) 7 a q (cName n1 n2 n3 n4) 0 0 6 - 1, nEv X (X 0) 7 a q (cName n1 n2 n3 n4)))))))) (mG (mIn a 0 (T 30 0 5 - 1)) 1 T (0 : Int32) (mG (mIn q (-1) 7 && mSur n1 n2 n3 n4) 2 T (0 : Int32) (mG (mOpen T && !decide (T 30 0 12 = 12)) 3 T (0 : Int32) ((T 30 0 12 + 1 - 1, nput (mName (nput (nput T 43 0 (nix (T 30 0 12)) a) 44 0 (nix (T 30 0 12)) q) (T 30 0 12) n1 n2 n3 n4) 30 0 12 (T 30 0 12 + 1)))))) := by
  have hQ := (h.E (TE hT)).q
  have hB := hQ.b
  have hZ := (h.E (TE hT)).z
  have h12 := hB.np12
  have e5 := hB.ok.1
  rw [mG_and, mG_and]
  refine sim_g (hB.gA a) h2 (by decide) (TE hT) (fun ga => sim_g rfl h0 (by decide) (TE hT) (fun gq => sim_g (nmOk_sur _ _ _ _) h0 (by decide) (TE hT) (fun gn => sim_g hB.opn h1 (by decide) (TE hT) (fun go => sim_g (b' := !decide (T 30 0 12 = 12)) ?_ h1 (by decide) (TE hT) (fun gc => ?_)))))
  · rw [hB.np, e5]
    exact dec_ltne (b := 12) (by omega) (by omega)
  · have hlt : mnp T < 12 := by
      by_cases c : mnp T = 12
      · rw [e5, c] at gc; cases gc
      · omega
    rw [← nmOk_sur] at gn
    have hq1 : -1 ≤ q := by unfold mIn at gq; rw [Bool.and_eq_true, decide_eq_true_eq] at gq; exact gq.1
    have e6 : nix (T 30 0 12 + 1) = mnp T + 1 := nix_pl e5 (by omega)
    have ho' : mOpen (nput (mName (nput (nput T 43 0 (nix (T 30 0 12)) a) 44 0 (nix (T 30 0 12)) q) (T 30 0 12) n1 n2 n3 n4) 30 0 12 (T 30 0 12 + 1)) = true := go
    refine sim_ev h hT hn (show T 30 0 0 = 0 from T0 hT) (fun S hS => ⟨⟨by unfold vp_in; decide, fun e => absurd e (by decide), fun e => absurd e (by decide), fun e => absurd e (by decide), fun _ => ⟨by rw [hS.b.eonp]; exact hlt, hS.a (hB.tA ga)⟩, fun e => absurd e (by decide), fun e => absurd e (by decide), fun e => absurd e (by decide)⟩, ?_, fun z => by rw [ho'] at z; cases z⟩) (fun z => by rw [ho'] at z; cases z) ⟨hZ.z38, hZ.z41, fun i hi => ?_, ?_, hZ.n58, fun _ i hi => ?_, hZ.d⟩ (fun hq => ?_)
    · exact ev_file hS.b (hZ.zp _ (Nat.le_refl _)) hlt (hB.tA ga) hq1 gn
    · have hi' : nix (T 30 0 12 + 1) ≤ i := hi
      rw [e6] at hi'
      exact hZ.zp i (by omega)
    · intro k
      have := n45_put (M := nput (nput T 43 0 (nix (T 30 0 12)) a) 44 0 (nix (T 30 0 12)) q) (x := T 30 0 12) hZ.n45 gn k
      rw [nput_nk (by decide)]; exact this
    · have hi' : i < nix (T 30 0 12 + 1) := hi
      rw [e6] at hi'
      show ¬ T 46 0 i = 2
      by_cases c : i = mnp T
      · rw [c, (hZ.zp _ (Nat.le_refl _)).1]; decide
      · exact hZ.o go i (by omega)
    · exact congrArg (· - 1) hq.b.np.symm
theorem sim_sign (h : nInv X M n) (hT : nput M 30 0 0 0 = T) (hn : n < 512) (h2 : hc 2 = 1) (h1 : hc 1 = 2) {x v : Int32} : nSim hc X M n (nG (inB x (onp (X 0))) 2 (nG (inB v (onv (X 0))) 2 (nG (oOpen (X 0)) 1 (nG (!oGone (X 0) x) 1 (nG (decide (X 0 0 0 7 < 150)) 1 (.inr (nJ (X 0) 8 x v 0 0 0 7 - 1, nEv X (X 0) 8 x v 0))))))) (mG (mIn x 0 (T 30 0 12 - 1) && mIn v 0 (T 30 0 9 - 1)) 1 T (0 : Int32) (mG (mOpen T && decide (T 46 0 (nix x) ≤ 0) && !decide (T 30 0 22 = 150)) 2 T (0 : Int32) ((T 30 0 22 + 1 - 1, nput (nput (nput (nput T 53 0 (nix (T 30 0 22)) x) 54 0 (nix (T 30 0 22)) v) 55 0 (nix (T 30 0 22)) (nb (mLoc T x v))) 30 0 22 (T 30 0 22 + 1))))) := by
  have hQ := (h.E (TE hT)).q
  have hB := hQ.b
  have hZ := (h.E (TE hT)).z
  have h12 := hB.ns150
  have e5 := hB.ok.2.2.1
  rw [mG_and, mG_and, mG_and]
  refine sim_g (hB.gP x) h2 (by decide) (TE hT) (fun gx => sim_g (hB.gV v) h2 (by decide) (TE hT) (fun gv => sim_g hB.opn h1 (by decide) (TE hT) (fun go => sim_g (hB.wle (hB.tP gx)).symm h1 (by decide) (TE hT) (fun gg => sim_g (b' := !decide (T 30 0 22 = 150)) ?_ h1 (by decide) (TE hT) (fun gc => ?_)))))
  · rw [hB.ns, e5]
    exact dec_ltne (b := 150) (by omega) (by omega)
  · have hlt : mns T < 150 := by
      by_cases c : mns T = 150
      · rw [e5, c] at gc; cases gc
      · omega
    have ho' : mOpen (nput (nput (nput (nput T 53 0 (nix (T 30 0 22)) x) 54 0 (nix (T 30 0 22)) v) 55 0 (nix (T 30 0 22)) (nb (mLoc T x v))) 30 0 22 (T 30 0 22 + 1)) = true := go
    refine sim_ev h hT hn (show T 30 0 0 = 0 from T0 hT) (fun S hS => ⟨⟨by unfold vp_in; decide, fun e => absurd e (by decide), fun e => absurd e (by decide), fun e => absurd e (by decide), fun e => absurd e (by decide), fun _ => ⟨by rw [hS.b.eons]; exact hlt, hS.p (hB.tP gx), hS.v (hB.tV gv)⟩, fun e => absurd e (by decide), fun e => absurd e (by decide)⟩, ?_, fun z => by rw [ho'] at z; cases z⟩) (fun z => by rw [ho'] at z; cases z) ⟨hZ.z38, hZ.z41, hZ.zp, hZ.n45, hZ.n58, hZ.o, hZ.d⟩ (fun hq => ?_)
    · exact ev_sign hS.b hlt (hB.tP gx) (hB.tV gv)
    · exact congrArg (· - 1) hq.b.ns.symm
theorem sim_addVotes (h : nInv X M n) (hT : nput M 30 0 0 0 = T) (hn : n < 512) (h2 : hc 2 = 1) (h0 : hc 0 = 2) (h1 : hc 1 = 3) {x a : Int32} {U : NSt} (hU : mOff T U) : nSim hc X M n (nG (inB x (onp (X 0))) 2 (nG (decide (1 ≤ a) && decide (a ≤ 10000)) 0 (nG (decide (oWhy (X 0) x = 0)) 1 (nG (oPoll (X 0) && decide (X 0 4 (nix (X 0 11 (nix x) 0)) 2 = 0)) 1 (.inr (nJ (X 0) 14 x a 0 11 (nix x) 4, nEv X (X 0) 14 x a 0)))))) (mG (mIn x 0 (T 30 0 12 - 1)) 1 T (0 : Int32) (mG (mIn a 1 10000) 2 T (0 : Int32) (mG (decide (T 30 0 3 ≤ T 30 0 4) && decide (mWhy T x = 0) && decide (T 38 0 (nix (T 43 0 (nix x))) = 0)) 3 U (0 : Int32) ((U 50 0 (nix x) + a, nput U 50 0 (nix x) (U 50 0 (nix x) + a)))))) := by
  have hI := h.E (TE hT)
  have hQ := hI.q
  have hB := hQ.b
  have hUE := mE.off hU
  have hIU := hI.E hUE
  have hU0 : U 30 0 0 = 0 := by rw [hU 30 (by decide) (by decide)]; exact T0 hT
  refine sim_g (hB.gP x) h2 (by decide) (TE hT) (fun gx => sim_g rfl h0 (by decide) (TE hT) (fun _ => ?_))
  obtain ⟨p0, -, -, -, -, -, -, p8⟩ := hB.pa _ (vp_lt (hB.tP gx))
  rw [← nG_and]
  have e : (decide (oWhy (X 0) x = 0) && (oPoll (X 0) && decide (X 0 4 (nix (X 0 11 (nix x) 0)) 2 = 0))) = (decide (T 30 0 3 ≤ T 30 0 4) && decide (mWhy T x = 0) && decide (T 38 0 (nix (T 43 0 (nix x))) = 0)) := by
    rw [hQ.why (hB.tP gx), hB.pol, p0, (hB.ar _ (vp_lt p8)).2.2]
    cases decide (mWhy T x = 0) <;> cases decide (T 30 0 3 ≤ T 30 0 4) <;> rfl
  refine sim_g e h1 (by decide) ((TE hT).tr hUE) (fun _ => ?_)
  have hx : nix x < mnp U := by rw [hUE.enp]; exact vp_lt (hB.tP gx)
  have hZ := hIU.z
  have hev := hIU.ev hn (x := 14) (f := x) (z := a) (t := 0) (M' := nput U 50 0 (nix x) (U 50 0 (nix x) + a)) (fun S hS => ⟨oEv_p (by decide) (by rw [hS.b.eonp, hUE.enp]; exact hB.tP gx), hS.ev (S' := nput S 11 (nix x) 4 (S 11 (nix x) 4 + a)) (ev_add hS.b hx a) id id (fun _ => ⟨rfl, rfl, rfl, rfl, rfl, fun _ => rfl, fun _ => rfl, fun _ => rfl⟩)⟩) (fun ho i hi => hIU.q.f ho i hi) ⟨hZ.z38, hZ.z41, fun i hi => (by
    have hi' : mnp U ≤ i := hi
    obtain ⟨z1, z2, z3, z4, z5⟩ := hZ.zp i hi
    exact ⟨z1, z2, z3, z4, by rw [nput_nj (by omega)]; exact z5⟩), hZ.n45, hZ.n58, hZ.o, hZ.d⟩
  refine sim_r hU0 ?_ (Nat.le_refl _) hev
  have hq := hev.q
  have e0 : nEv X (X 0) 14 x a 0 0 = nJ (X 0) 14 x a 0 := by unfold nEv; rw [wdo_at]; rfl
  rw [e0] at hq
  have := (hq.b.pa (nix x) hx).2.2.2.1
  exact ((this.trans nput_se).symm).trans rfl
theorem sim_finish (h : nInv X M n) (hT : nput M 30 0 0 0 = T) (hn : n < 512) (h2 : hc 2 = 1) (h1 : hc 1 = 2) {a : Int32} {U : NSt} (hU : mOff (nput T 38 0 (nix a) 1) U) : nSim hc X M n (nG (inB a (ona (X 0))) 2 (nG (oPoll (X 0) && decide (X 0 4 (nix a) 2 = 0)) 1 (.inr (oLostIn (nJ (X 0) 15 a 0 0) a, nEv X (X 0) 15 a 0 0)))) (mG (mIn a 0 (T 30 0 5 - 1)) 1 T (0 : Int32) (mG (decide (T 30 0 3 ≤ T 30 0 4) && decide (T 38 0 (nix a) = 0)) 2 T (0 : Int32) ((mLost (nput T 38 0 (nix a) 1) a, U)))) := by
  have hI := h.E (TE hT)
  have hQ := hI.q
  have hB := hQ.b
  have hZ := hI.z
  refine sim_g (hB.gA a) h2 (by decide) (TE hT) (fun ga => sim_g (by rw [hB.pol, (hB.ar _ (vp_lt (hB.tA ga))).2.2]) h1 (by decide) (TE hT) (fun _ => ?_))
  have hx := vp_lt (hB.tA ga)
  have hev := hI.ev hn (x := 15) (f := a) (z := 0) (t := 0) (M' := nput T 38 0 (nix a) 1) (fun S hS => ⟨⟨by unfold vp_in; decide, fun e => absurd e (by decide), fun e => absurd e (by decide), fun e => absurd e (by decide), fun e => absurd e (by decide), fun e => absurd e (by decide), fun e => absurd e (by decide), fun _ => hS.a (hB.tA ga)⟩, hS.ev (S' := nput S 4 (nix a) 2 1) (ev_fin hS.b a) id id (fun _ => ⟨rfl, rfl, rfl, rfl, rfl, fun _ => rfl, fun _ => rfl, fun _ => rfl⟩)⟩) (fun ho i hi => hQ.f ho i hi) ⟨fun i hi => (by
    have hi' : mna T ≤ i := hi
    rw [nput_nj (by omega)]; exact hZ.z38 i hi), hZ.z41, hZ.zp, hZ.n45, hZ.n58, hZ.o, hZ.d⟩
  have hU0 : U 30 0 0 = 0 := by rw [hU 30 (by decide) (by decide), nput_nk (by decide)]; exact T0 hT
  refine sim_r hU0 ?_ (Nat.le_refl _) (hev.E (mE.off hU))
  have hq := hev.q
  have e0 : nEv X (X 0) 15 a 0 0 0 = nJ (X 0) 15 a 0 0 := by unfold nEv; rw [wdo_at]; rfl
  rw [e0] at hq
  exact (hq.lost a).symm
end NS
