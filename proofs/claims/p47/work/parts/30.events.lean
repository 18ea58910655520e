/-! The events: what the two states have in common stays. -/
def nP (S M : NSt) : Prop := (nB S M) ∧ (mOpen M = false → nJd S M)
theorem nP.b {S M : NSt} (h : nP S M) : nB S M := h.1
theorem nP.c {S M : NSt} (h : nP S M) : mOpen M = false → nJd S M := h.2
theorem nput_se {S : NSt} {k i j : Nat} {v : Int32} : nput S k i j v k i j = v := by unfold nput; rw [if_pos ⟨rfl, rfl, rfl⟩]
theorem nput_ni {S : NSt} {k i j k' i' j' : Nat} {v : Int32} (h : ¬ i' = i) : nput S k i j v k' i' j' = S k' i' j' := by unfold nput; rw [if_neg (fun z => h z.2.2)]
theorem nput_nj {S : NSt} {k i j k' i' j' : Nat} {v : Int32} (h : ¬ j' = j) : nput S k i j v k' i' j' = S k' i' j' := by unfold nput; rw [if_neg (fun z => h z.2.1)]
theorem nput_nk {S : NSt} {k i j k' i' j' : Nat} {v : Int32} (h : ¬ k' = k) : nput S k i j v k' i' j' = S k' i' j' := by unfold nput; rw [if_neg (fun z => h z.1)]
section NQ
variable {S M : NSt} {x : Int32}
theorem ev_day (h : nB S M) (a : Int32) : nB (nput S 1 0 0 (S 1 0 0 + a)) (nput M 30 0 4 (M 30 0 4 + a)) :=
  ⟨h.ok, congrArg (· + a) h.c0, h.c1, h.c2, h.c3, h.na, h.nv, h.np, h.ns, h.ar, h.vo, h.pa, h.nm, h.wd, h.wh, h.si, h.le⟩
theorem ev_move (h : nB S M) (v a : Int32) : nB (nput S 6 (nix v) 0 a) (nput M 40 0 (nix v) a) := by
  refine ⟨h.ok, h.c0, h.c1, h.c2, h.c3, h.na, h.nv, h.np, h.ns, h.ar, fun i hi => ?_, h.pa, h.nm, h.wd, h.wh, h.si, h.le⟩
  refine ⟨?_, (h.vo i hi).2⟩
  by_cases e : i = nix v
  · subst e; rw [nput_se, nput_se]
  · rw [nput_ni e, nput_nj e]; exact (h.vo i hi).1
theorem ev_strike (h : nB S M) (v : Int32) : nB (nput S 6 (nix v) 1 0) (nput M 41 0 (nix v) (vp_nar .boolean 1)) := by
  refine ⟨h.ok, h.c0, h.c1, h.c2, h.c3, h.na, h.nv, h.np, h.ns, h.ar, fun i hi => ?_, h.pa, h.nm, h.wd, h.wh, h.si, h.le⟩
  refine ⟨(h.vo i hi).1, ?_, (h.vo i hi).2.2⟩
  by_cases e : i = nix v
  · subst e; rw [nput_se, nput_se]; exact Or.inr ⟨rfl, rfl⟩
  · rw [nput_ni e, nput_nj e]; exact (h.vo i hi).2.1
theorem ev_restore (h : nB S M) (v : Int32) : nB (nput S 6 (nix v) 1 1) (nput M 41 0 (nix v) (vp_nar .boolean 0)) := by
  refine ⟨h.ok, h.c0, h.c1, h.c2, h.c3, h.na, h.nv, h.np, h.ns, h.ar, fun i hi => ?_, h.pa, h.nm, h.wd, h.wh, h.si, h.le⟩
  refine ⟨(h.vo i hi).1, ?_, (h.vo i hi).2.2⟩
  by_cases e : i = nix v
  · subst e; rw [nput_se, nput_se]; exact Or.inl ⟨rfl, rfl⟩
  · rw [nput_ni e, nput_nj e]; exact (h.vo i hi).2.1
theorem ev_die (h : nB S M) (v : Int32) : nB (nput S 11 (nix v) 6 1) (nput M 48 0 (nix v) 1) := by
  refine ⟨h.ok, h.c0, h.c1, h.c2, h.c3, h.na, h.nv, h.np, h.ns, h.ar, h.vo, fun i hi => ?_, h.nm, h.wd, h.wh, h.si, h.le⟩
  obtain ⟨p0, p1, p3, p4, p5, p6, p7, p8⟩ := h.pa i hi
  refine ⟨p0, p1, p3, p4, p5, ?_, p7, p8⟩
  by_cases e : i = nix v
  · subst e; rw [nput_se, nput_se]
  · rw [nput_ni e, nput_nj e]; exact p6
theorem ev_pay (h : nB S M) {v : Int32} (hv : nix v < mnp M) (a : Int32) : nB (nput S 11 (nix v) 3 (S 11 (nix v) 3 + a)) (nput M 47 0 (nix v) (M 47 0 (nix v) + a)) := by
  refine ⟨h.ok, h.c0, h.c1, h.c2, h.c3, h.na, h.nv, h.np, h.ns, h.ar, h.vo, fun i hi => ?_, h.nm, h.wd, h.wh, h.si, h.le⟩
  obtain ⟨p0, p1, p3, p4, p5, p6, p7, p8⟩ := h.pa i hi
  refine ⟨p0, p1, ?_, p4, p5, p6, p7, p8⟩
  by_cases e : i = nix v
  · subst e; rw [nput_se, nput_se, p3]
  · rw [nput_ni e, nput_nj e]; exact p3
theorem ev_add (h : nB S M) {v : Int32} (hv : nix v < mnp M) (a : Int32) : nB (nput S 11 (nix v) 4 (S 11 (nix v) 4 + a)) (nput M 50 0 (nix v) (M 50 0 (nix v) + a)) := by
  refine ⟨h.ok, h.c0, h.c1, h.c2, h.c3, h.na, h.nv, h.np, h.ns, h.ar, h.vo, fun i hi => ?_, h.nm, h.wd, h.wh, h.si, h.le⟩
  obtain ⟨p0, p1, p3, p4, p5, p6, p7, p8⟩ := h.pa i hi
  refine ⟨p0, p1, p3, ?_, p5, p6, p7, p8⟩
  by_cases e : i = nix v
  · subst e; rw [nput_se, nput_se, p4]
  · rw [nput_ni e, nput_nj e]; exact p4
theorem ev_fin (h : nB S M) (v : Int32) : nB (nput S 4 (nix v) 2 1) (nput M 38 0 (nix v) 1) := by
  refine ⟨h.ok, h.c0, h.c1, h.c2, h.c3, h.na, h.nv, h.np, h.ns, fun i hi => ?_, h.vo, h.pa, h.nm, h.wd, h.wh, h.si, h.le⟩
  obtain ⟨a0, a1, a2⟩ := h.ar i hi
  refine ⟨a0, a1, ?_⟩
  by_cases e : i = nix v
  · subst e; rw [nput_se, nput_se]
  · rw [nput_ni e, nput_nj e]; exact a2
theorem ev_wd (h : nB S M) (hx : vp_in x (mnp M)) : nB (oWd S x) (nput M 46 0 (nix x) (if mOpen M then 1 else 2)) := by
  have h12 := h.np12
  have hl := vp_lt hx
  have hbit : ∀ i, i < 32 → ib (S 0 0 8 ||| (1 <<< (x &&& 31))) i = (ib (S 0 0 8) i || decide (i = nix x)) := by
    intro i hi
    rw [ib_or]
    conv => lhs; rhs; rw [vp_eq hx]
    rw [ib_one _ (by omega) i hi]
  refine ⟨h.ok, h.c0, h.c1, h.c2, h.c3, h.na, h.nv, h.np, h.ns, h.ar, h.vo, h.pa, h.nm, fun i hi => ?_, fun i hi hj => ?_, h.si, h.le⟩
  · show (nput M 46 0 (nix x) _ 46 0 i = 0 ∧ ib (S 0 0 8 ||| (1 <<< (x &&& 31))) i = false) ∨ (nput M 46 0 (nix x) _ 46 0 i = 1 ∧ ib (S 0 0 8 ||| (1 <<< (x &&& 31))) i = true ∧ nput (nput S 0 0 8 _) 11 (nix x) 7 _ 11 i 7 = 0) ∨ (nput M 46 0 (nix x) _ 46 0 i = 2 ∧ ib (S 0 0 8 ||| (1 <<< (x &&& 31))) i = true ∧ nput (nput S 0 0 8 _) 11 (nix x) 7 _ 11 i 7 = 1)
    have hi' : i < mnp M := hi
    rw [hbit i (by omega)]
    by_cases e : i = nix x
    · subst e
      rw [nput_se, nput_se, h.opn, decide_eq_true rfl, Bool.or_true]
      cases mOpen M with
      | true => exact Or.inr (Or.inl ⟨rfl, rfl, rfl⟩)
      | false => exact Or.inr (Or.inr ⟨rfl, rfl, rfl⟩)
    · rw [nput_nj e, nput_ni e, decide_eq_false e, Bool.or_false]
      exact h.wd i hi
  · show ib (S 0 0 8 ||| (1 <<< (x &&& 31))) i = false
    rw [hbit i hj, h.wh i hi hj, decide_eq_false (fun z => by have : mnp M ≤ i := hi; omega)]; rfl
theorem nix_pl {n : Nat} {z : Int32} (h : z = nI n) (hn : n < 2 ^ 30) : nix (z + 1) = n + 1 := by rw [h, nI_1, nix_nI (by omega)]
theorem ev_area (h : nB S M) (hz : M 38 0 (mna M) = 0) (ha : mna M < 5) (a b : Int32) : nB (rollArea S a b) (nput (nput (nput M 36 0 (nix (M 30 0 5)) a) 37 0 (nix (M 30 0 5)) b) 30 0 5 (M 30 0 5 + 1)) := by
  obtain ⟨g1, g2, g3, g4, g5, g6, g7, g8, g9, g10⟩ := h.ok
  have e5 : nix (M 30 0 5 + 1) = mna M + 1 := nix_pl g7 (by omega)
  have es : nix (S 2 0 2) = mna M := h.eona
  refine ⟨⟨g1, g2, g3, g4, g5, g6, ?_, ?_, g9, g10⟩, h.c0, h.c1, h.c2, h.c3, congrArg (· + 1) h.na, h.nv, h.np, h.ns, fun i hi => ?_, h.vo, fun i hi => ?_, h.nm, h.wd, h.wh, h.si, h.le⟩
  · show M 30 0 5 + 1 = nI (nix (M 30 0 5 + 1)); rw [e5, g7]; exact nI_1 _
  · show nix (M 30 0 5 + 1) ≤ 5; rw [e5]; omega
  · have hi2 : i < mna M + 1 := by have : i < nix (M 30 0 5 + 1) := hi; rwa [e5] at this
    show nput (nput (nput S 4 (nix (S 2 0 2)) 0 a) 4 (nix (S 2 0 2)) 1 b) 4 (nix (S 2 0 2)) 2 0 4 i 0 = nput M 36 0 (nix (M 30 0 5)) a 36 0 i ∧ nput (nput (nput S 4 (nix (S 2 0 2)) 0 a) 4 (nix (S 2 0 2)) 1 b) 4 (nix (S 2 0 2)) 2 0 4 i 1 = nput M 37 0 (nix (M 30 0 5)) b 37 0 i ∧ nput (nput (nput S 4 (nix (S 2 0 2)) 0 a) 4 (nix (S 2 0 2)) 1 b) 4 (nix (S 2 0 2)) 2 0 4 i 2 = M 38 0 i
    rw [es, show nix (M 30 0 5) = mna M from rfl]
    by_cases e : i = mna M
    · subst e
      rw [nput_nj (by decide), nput_nj (by decide), nput_se, nput_se, nput_nj (by decide), nput_se, nput_se, nput_se, hz]
      exact ⟨rfl, rfl, rfl⟩
    · rw [nput_ni e, nput_ni e, nput_ni e, nput_nj e, nput_ni e, nput_ni e, nput_ni e, nput_nj e, nput_ni e, nput_ni e, nput_ni e]
      exact h.ar i (by omega)
  · obtain ⟨p0, p1, p3, p4, p5, p6, p7, p8⟩ := h.pa i hi
    refine ⟨p0, p1, p3, p4, p5, p6, p7, ?_⟩
    show vp_in (M 43 0 i) (nix (M 30 0 5 + 1))
    rw [e5]; exact vp_mono p8 (Nat.le_succ _)
theorem mErl_none {M : NSt} {v : Int32} : ∀ n, (∀ s, s < n → ¬ M 54 0 s = v) → mErl M v n = 0
  | 0, _ => rfl
  | n + 1, h => by
    show mErl M v n ||| (if M 54 0 n = v ∧ ¬ M 55 0 n = 0 then 1 <<< (M 53 0 n &&& 31) else 0) = 0
    rw [if_neg (fun z => h n (Nat.lt_succ_self n) z.1), mErl_none n (fun s hs => h s (Nat.lt_succ_of_lt hs))]
    rfl
theorem ev_voter (h : nB S M) (hz : M 41 0 (mnv M) = 0) (ha : mnv M < 40) (a : Int32) : nB (rollVoter S a) (nput (nput M 40 0 (nix (M 30 0 9)) a) 30 0 9 (M 30 0 9 + 1)) := by
  obtain ⟨g1, g2, g3, g4, g5, g6, g7, g8, g9, g10⟩ := h.ok
  have e5 : nix (M 30 0 9 + 1) = mnv M + 1 := nix_pl g5 (by omega)
  have es : nix (S 2 0 3) = mnv M := h.eonv
  refine ⟨⟨g1, g2, g3, g4, ?_, ?_, g7, g8, g9, g10⟩, h.c0, h.c1, h.c2, h.c3, h.na, congrArg (· + 1) h.nv, h.np, h.ns, h.ar, fun i hi => ?_, h.pa, h.nm, h.wd, h.wh, fun k hk => ?_, h.le⟩
  · show M 30 0 9 + 1 = nI (nix (M 30 0 9 + 1)); rw [e5, g5]; exact nI_1 _
  · show nix (M 30 0 9 + 1) ≤ 40; rw [e5]; omega
  · have hi2 : i < mnv M + 1 := by have : i < nix (M 30 0 9 + 1) := hi; rwa [e5] at this
    show nput (nput (nput S 6 (nix (S 2 0 3)) 0 a) 6 (nix (S 2 0 3)) 1 1) 6 (nix (S 2 0 3)) 2 0 6 i 0 = nput M 40 0 (nix (M 30 0 9)) a 40 0 i ∧ ((nput (nput (nput S 6 (nix (S 2 0 3)) 0 a) 6 (nix (S 2 0 3)) 1 1) 6 (nix (S 2 0 3)) 2 0 6 i 1 = 1 ∧ M 41 0 i = 0) ∨ (nput (nput (nput S 6 (nix (S 2 0 3)) 0 a) 6 (nix (S 2 0 3)) 1 1) 6 (nix (S 2 0 3)) 2 0 6 i 1 = 0 ∧ M 41 0 i = 1)) ∧ nput (nput (nput S 6 (nix (S 2 0 3)) 0 a) 6 (nix (S 2 0 3)) 1 1) 6 (nix (S 2 0 3)) 2 0 6 i 2 = mErl M (nI i) (mns M)
    rw [es, show nix (M 30 0 9) = mnv M from rfl]
    by_cases e : i = mnv M
    · subst e
      rw [nput_nj (by decide), nput_nj (by decide), nput_se, nput_se, nput_nj (by decide), nput_se, nput_se, hz]
      refine ⟨rfl, Or.inl ⟨rfl, rfl⟩, (mErl_none _ (fun s hs z => ?_)).symm⟩
      have := vp_lt (h.si s hs).2.2.2.2.2
      rw [z, nix_nI (by omega)] at this
      omega
    · rw [nput_ni e, nput_ni e, nput_ni e, nput_nj e, nput_ni e, nput_ni e, nput_ni e, nput_ni e, nput_ni e, nput_ni e]
      exact h.vo i (by omega)
  · obtain ⟨s0, s1, s2, s3, s4, s5⟩ := h.si k hk
    refine ⟨s0, s1, s2, s3, s4, ?_⟩
    show vp_in (M 54 0 k) (nix (M 30 0 9 + 1))
    rw [e5]; exact vp_mono s5 (Nat.le_succ _)
end NQ
