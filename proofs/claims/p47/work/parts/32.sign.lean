/-! Signing, replacing, drawing. -/
section NQ
variable {S M : NSt} {x : Int32}
theorem ev_sign (h : nB S M) (hn : mns M < 150) {v : Int32} (hx : vp_in x (mnp M)) (hv : vp_in v (mnv M)) : nB (oSign S x v) (nput (nput (nput (nput M 53 0 (nix (M 30 0 22)) x) 54 0 (nix (M 30 0 22)) v) 55 0 (nix (M 30 0 22)) (nb (mLoc M x v))) 30 0 22 (M 30 0 22 + 1)) := by
  obtain ⟨g1, g2, g3, g4, g5, g6, g7, g8, g9, g10⟩ := h.ok
  obtain ⟨n, hnn⟩ : ∃ n, n = mns M := ⟨_, rfl⟩
  rw [← hnn] at hn
  have es : ons S = n := by rw [h.eons, hnn]
  have e22 : nix (M 30 0 22) = n := by rw [hnn]; rfl
  have eM : M 30 0 22 = nI n := by rw [hnn]; exact g3
  have hloc : oLocal S x v = mLoc M x v := h.loc hx hv
  rw [e22]
  have k53 : ∀ i, nput (nput (nput (nput M 53 0 n x) 54 0 n v) 55 0 n (nb (mLoc M x v))) 30 0 22 (M 30 0 22 + 1) 53 0 i = if i = n then x else M 53 0 i := by
    intro i
    rw [nput_nk (by decide), nput_nk (by decide), nput_nk (by decide)]
    by_cases e : i = n
    · rw [if_pos e, e, nput_se]
    · rw [if_neg e, nput_nj e]
  have k54 : ∀ i, nput (nput (nput (nput M 53 0 n x) 54 0 n v) 55 0 n (nb (mLoc M x v))) 30 0 22 (M 30 0 22 + 1) 54 0 i = if i = n then v else M 54 0 i := by
    intro i
    rw [nput_nk (by decide), nput_nk (by decide)]
    by_cases e : i = n
    · rw [if_pos e, e, nput_se]
    · rw [if_neg e, nput_nj e, nput_nk (by decide)]
  have k55 : ∀ i, nput (nput (nput (nput M 53 0 n x) 54 0 n v) 55 0 n (nb (mLoc M x v))) 30 0 22 (M 30 0 22 + 1) 55 0 i = if i = n then nb (mLoc M x v) else M 55 0 i := by
    intro i
    rw [nput_nk (by decide)]
    by_cases e : i = n
    · rw [if_pos e, e, nput_se]
    · rw [if_neg e, nput_nj e, nput_nk (by decide), nput_nk (by decide)]
  have kne : ∀ k i j, k ≠ 30 → k ≠ 53 → k ≠ 54 → k ≠ 55 → nput (nput (nput (nput M 53 0 n x) 54 0 n v) 55 0 n (nb (mLoc M x v))) 30 0 22 (M 30 0 22 + 1) k i j = M k i j := by
    intro k i j a1 a2 a3 a4
    rw [nput_nk a1, nput_nk a4, nput_nk a3, nput_nk a2]
  have k30 : ∀ j, j ≠ 22 → nput (nput (nput (nput M 53 0 n x) 54 0 n v) 55 0 n (nb (mLoc M x v))) 30 0 22 (M 30 0 22 + 1) 30 0 j = M 30 0 j := by
    intro j hj
    rw [nput_nj hj, nput_nk (by decide), nput_nk (by decide), nput_nk (by decide)]
  have k22 : nput (nput (nput (nput M 53 0 n x) 54 0 n v) 55 0 n (nb (mLoc M x v))) 30 0 22 (M 30 0 22 + 1) 30 0 22 = nI (n + 1) := by rw [nput_se, eM, nI_1]
  generalize nput (nput (nput (nput M 53 0 n x) 54 0 n v) 55 0 n (nb (mLoc M x v))) 30 0 22 (M 30 0 22 + 1) = M' at *
  have enp : mnp M' = mnp M := by unfold mnp; rw [k30 12 (by decide)]
  have ens : mns M' = n + 1 := by unfold mns; rw [k22, nix_nI (by omega)]
  have env : mnv M' = mnv M := by unfold mnv; rw [k30 9 (by decide)]
  have ena : mna M' = mna M := by unfold mna; rw [k30 5 (by decide)]
  have eEr : ∀ w m, m ≤ n → mErl M' w m = mErl M w m := by
    intro w m hm
    unfold mErl
    refine iors_congr (fun s hs => ?_)
    rw [k54, k55, k53, if_neg (show ¬ s = n by omega), if_neg (show ¬ s = n by omega), if_neg (show ¬ s = n by omega)]
  have eEs : ∀ w, mErl M' w (n + 1) = mErl M w n ||| (if v = w ∧ mLoc M x v = true then 1 <<< (x &&& 31) else 0) := by
    intro w
    show mErl M' w n ||| (if M' 54 0 n = w ∧ ¬ M' 55 0 n = 0 then 1 <<< (M' 53 0 n &&& 31) else 0) = _
    rw [eEr w n (Nat.le_refl _), k54, k55, k53, if_pos rfl, if_pos rfl, if_pos rfl]
    congr 1
    cases mLoc M x v with
    | true => simp [nb]
    | false => simp [nb]
  -- the office
  have o0 : ∀ k i j, k ≠ 13 → ¬ (k = 0 ∧ j = 7) → ¬ (k = 6 ∧ j = 2) → oSign S x v k i j = S k i j := by
    intro k i j b1 b2 b3
    have a1 : oSig1 S x v k i j = S k i j := by
      unfold oSig1 sigBegin
      rw [show nput (nput (nput (nput (nput (nput S 13 (ons S) 0 x) 13 (ons S) 1 v) 13 (ons S) 2 (nb (oLocal S x v))) 13 (ons S) 3 (S 6 (nix v) 2)) 13 (ons S) 4 0) 0 0 7 (S 0 0 7 + 1) k i j = nput (nput (nput (nput (nput S 13 (ons S) 0 x) 13 (ons S) 1 v) 13 (ons S) 2 (nb (oLocal S x v))) 13 (ons S) 3 (S 6 (nix v) 2)) 13 (ons S) 4 0 k i j from by unfold nput; rw [if_neg (fun z => b2 ⟨z.1, z.2.1⟩)]]
      rw [nput_nk b1, nput_nk b1, nput_nk b1, nput_nk b1, nput_nk b1]
    unfold oSign
    split
    · rw [show nput (oSig1 S x v) 6 (nix v) 2 (S 6 (nix v) 2 ||| (1 <<< (x &&& 31))) k i j = oSig1 S x v k i j from by unfold nput; rw [if_neg (fun z => b3 ⟨z.1, z.2.1⟩)]]
      exact a1
    · exact a1
  have o7 : oSign S x v 0 0 7 = nI (n + 1) := by
    have a1 : oSig1 S x v 0 0 7 = nI (n + 1) := by unfold oSig1; rw [nput_se, h.ns, eM, nI_1]
    unfold oSign
    split
    · rw [nput_nk (by decide)]; exact a1
    · exact a1
  have o62 : ∀ i, oSign S x v 6 i 2 = if i = nix v ∧ mLoc M x v = true then S 6 i 2 ||| (1 <<< (x &&& 31)) else S 6 i 2 := by
    intro i
    have a1 : ∀ i, oSig1 S x v 6 i 2 = S 6 i 2 := by
      intro i
      unfold oSig1 sigBegin
      rw [nput_nk (by decide), nput_nk (by decide), nput_nk (by decide), nput_nk (by decide), nput_nk (by decide), nput_nk (by decide)]
    unfold oSign
    rw [hloc]
    by_cases c : mLoc M x v = true
    · rw [if_pos c]
      by_cases e : i = nix v
      · rw [if_pos ⟨e, c⟩, e, nput_se]
      · rw [if_neg (fun z => e z.1), nput_ni e, a1]
    · rw [if_neg c, if_neg (fun z => c z.2), a1]
  have o13 : ∀ i j, i ≠ n → oSign S x v 13 i j = S 13 i j := by
    intro i j b1
    have a1 : oSig1 S x v 13 i j = S 13 i j := by
      unfold oSig1 sigBegin
      rw [es, nput_nk (by decide), nput_ni b1, nput_ni b1, nput_ni b1, nput_ni b1, nput_ni b1]
    unfold oSign
    split
    · rw [nput_nk (by decide)]; exact a1
    · exact a1
  have on : oSign S x v 13 n 0 = x ∧ oSign S x v 13 n 1 = v ∧ oSign S x v 13 n 2 = nb (mLoc M x v) ∧ oSign S x v 13 n 3 = S 6 (nix v) 2 := by
    have a1 : oSig1 S x v 13 n 0 = x ∧ oSig1 S x v 13 n 1 = v ∧ oSig1 S x v 13 n 2 = nb (mLoc M x v) ∧ oSig1 S x v 13 n 3 = S 6 (nix v) 2 := by
      unfold oSig1 sigBegin
      rw [es, hloc]
      refine ⟨?_, ?_, ?_, ?_⟩ <;> (unfold nput; simp)
    unfold oSign
    split
    · rw [nput_nk (by decide), nput_nk (by decide), nput_nk (by decide), nput_nk (by decide)]; exact a1
    · exact a1
  generalize oSign S x v = S' at *
  refine ⟨?_, ?_, ?_, ?_, ?_, ?_, ?_, ?_, ?_, ?_, ?_, ?_, ?_, ?_, ?_, ?_, ?_⟩
  · refine ⟨by rw [enp, k30 12 (by decide)]; exact g1, by rw [enp]; exact g2, by rw [ens, k22], by rw [ens]; omega, by rw [env, k30 9 (by decide)]; exact g5, by rw [env]; exact g6, by rw [ena, k30 5 (by decide)]; exact g7, by rw [ena]; exact g8, fun k hk => ?_, fun k hk => ?_⟩
    · rw [enp] at hk
      rw [kne 43 0 k (by decide) (by decide) (by decide) (by decide)]; exact g9 k hk
    · rw [ens] at hk
      rw [k53, k54]
      by_cases e : k = n
      · rw [if_pos e, if_pos e]; exact ⟨vp_mono hx g2, vp_mono hv g6⟩
      · rw [if_neg e, if_neg e]; exact g10 k (by omega)
  · rw [o0 1 0 0 (by decide) (by decide) (by decide), k30 4 (by decide)]; exact h.c0
  · rw [o0 1 0 1 (by decide) (by decide) (by decide), k30 1 (by decide)]; exact h.c1
  · rw [o0 1 0 2 (by decide) (by decide) (by decide), k30 2 (by decide)]; exact h.c2
  · rw [o0 1 0 3 (by decide) (by decide) (by decide), k30 3 (by decide)]; exact h.c3
  · rw [o0 2 0 2 (by decide) (by decide) (by decide), k30 5 (by decide)]; exact h.na
  · rw [o0 2 0 3 (by decide) (by decide) (by decide), k30 9 (by decide)]; exact h.nv
  · rw [o0 0 0 6 (by decide) (by decide) (by decide), k30 12 (by decide)]; exact h.np
  · rw [o7, k22]
  · intro i hi
    rw [ena] at hi
    rw [o0 4 i 0 (by decide) (by decide) (by decide), o0 4 i 1 (by decide) (by decide) (by decide), o0 4 i 2 (by decide) (by decide) (by decide), kne 36 0 i (by decide) (by decide) (by decide) (by decide), kne 37 0 i (by decide) (by decide) (by decide) (by decide), kne 38 0 i (by decide) (by decide) (by decide) (by decide)]
    exact h.ar i hi
  · intro i hi
    rw [env] at hi
    rw [o0 6 i 0 (by decide) (by decide) (by decide), o0 6 i 1 (by decide) (by decide) (by decide), kne 40 0 i (by decide) (by decide) (by decide) (by decide), kne 41 0 i (by decide) (by decide) (by decide) (by decide), o62, ens, eEs]
    obtain ⟨v0, v1, v2⟩ := h.vo i hi
    refine ⟨v0, v1, ?_⟩
    have hvi : (v = nI i) ↔ (i = nix v) := ⟨fun z => by rw [z, nix_nI (by omega)], fun z => by rw [z]; exact vp_eq hv⟩
    rw [v2, hnn]
    by_cases c : i = nix v ∧ mLoc M x v = true
    · rw [if_pos c, if_pos ⟨hvi.mpr c.1, c.2⟩]
    · rw [if_neg c, if_neg (fun z => c ⟨hvi.mp z.1, z.2⟩)]
      exact (Int32.or_zero).symm
  · intro i hi
    rw [enp] at hi
    rw [o0 11 i 0 (by decide) (fun z => absurd z.1 (by decide)) (by decide), o0 11 i 1 (by decide) (fun z => absurd z.1 (by decide)) (by decide), o0 11 i 3 (by decide) (fun z => absurd z.1 (by decide)) (by decide), o0 11 i 4 (by decide) (fun z => absurd z.1 (by decide)) (by decide), o0 11 i 5 (by decide) (fun z => absurd z.1 (by decide)) (by decide), o0 11 i 6 (by decide) (fun z => absurd z.1 (by decide)) (by decide), kne 43 0 i (by decide) (by decide) (by decide) (by decide), kne 44 0 i (by decide) (by decide) (by decide) (by decide), kne 47 0 i (by decide) (by decide) (by decide) (by decide), kne 48 0 i (by decide) (by decide) (by decide) (by decide), kne 49 0 i (by decide) (by decide) (by decide) (by decide), kne 50 0 i (by decide) (by decide) (by decide) (by decide), ena]
    exact h.pa i hi
  · intro i hi
    rw [enp] at hi
    rw [o0 11 i 2 (by decide) (fun z => absurd z.1 (by decide)) (by decide), kne 45 0 _ (by decide) (by decide) (by decide) (by decide), kne 45 0 _ (by decide) (by decide) (by decide) (by decide), kne 45 0 _ (by decide) (by decide) (by decide) (by decide), kne 45 0 _ (by decide) (by decide) (by decide) (by decide)]
    exact h.nm i hi
  · intro i hi
    rw [enp] at hi
    rw [kne 46 0 i (by decide) (by decide) (by decide) (by decide), o0 0 0 8 (by decide) (by decide) (by decide), o0 11 i 7 (by decide) (fun z => absurd z.1 (by decide)) (by decide)]
    exact h.wd i hi
  · intro i hi hj
    rw [enp] at hi
    rw [o0 0 0 8 (by decide) (by decide) (by decide)]; exact h.wh i hi hj
  · intro k hk
    rw [ens] at hk
    rw [k53, k54, k55, enp, env]
    by_cases e : k = n
    · obtain ⟨b0, b1, b2, b3⟩ := on
      rw [if_pos e, if_pos e, if_pos e, e, b0, b1, b2, b3, eEr v n (Nat.le_refl _), (h.vo _ (vp_lt hv)).2.2, ← vp_eq hv, hnn]
      exact ⟨rfl, rfl, rfl, rfl, hx, hv⟩
    · rw [if_neg e, if_neg e, if_neg e, o13 k 0 e, o13 k 1 e, o13 k 2 e, o13 k 3 e, eEr _ k (by omega)]
      exact h.si k (by omega)
  · have e58 : M' 58 0 = M 58 0 := funext (fun j => kne 58 0 j (by decide) (by decide) (by decide) (by decide))
    rw [o0 7 0 2 (by decide) (by decide) (by decide), k30 27 (by decide), e58]
    refine ⟨h.le.1, fun z => ⟨fun i hi => ?_, (h.le.2 z).2⟩⟩
    rw [o0 8 0 i (by decide) (fun z => absurd z.1 (by decide)) (fun z => absurd z.1 (by decide)), o0 9 0 _ (by decide) (fun z => absurd z.1 (by decide)) (fun z => absurd z.1 (by decide))]
    exact (h.le.2 z).1 i hi
theorem ev_repl (h : nB S M) (hx : vp_in x (mnp M)) {n1 n2 n3 n4 : Int32} (hk : nmOk n1 n2 n3 n4 = true) : nB (paperRenew S (nix x) (cName n1 n2 n3 n4)) (nput (nput (mName M x n1 n2 n3 n4) 48 0 (nix x) 0) 49 0 (nix x) (M 49 0 (nix x) + 1)) := by
  have h12 := h.np12
  have hl := vp_lt hx
  obtain ⟨m0, m1, m2, m3, m4⟩ := mName_at M (show nix x < 12 by omega) hk
  rw [← vp_eq hx] at m0 m1 m2 m3 m4
  obtain ⟨q0, q1, q3, q4, q5, q6, q7, q8⟩ := h.pa _ hl
  refine ⟨h.ok, h.c0, h.c1, h.c2, h.c3, h.na, h.nv, h.np, h.ns, h.ar, h.vo, fun i hi => ?_, fun i hi => ?_, h.wd, h.wh, h.si, h.le⟩
  · have hi : i < mnp M := hi
    obtain ⟨p0, p1, p3, p4, p5, p6, p7, p8⟩ := h.pa i hi
    refine ⟨p0, p1, p3, p4, ?_, ?_, p7, p8⟩
    · show nput (nput (nput S 11 (nix x) 2 _) 11 (nix x) 5 (S 11 (nix x) 5 + 1)) 11 (nix x) 6 0 11 i 5 = nput (nput (mName M x n1 n2 n3 n4) 48 0 (nix x) 0) 49 0 (nix x) (M 49 0 (nix x) + 1) 49 0 i
      rw [nput_nj (by decide)]
      by_cases e : i = nix x
      · rw [e, nput_se, nput_se, q5]
      · rw [nput_ni e, nput_ni e, nput_nj e, nput_nk (by decide), mName_nk _ _ _ _ _ _ (by decide)]; exact p5
    · show nput (nput (nput S 11 (nix x) 2 _) 11 (nix x) 5 (S 11 (nix x) 5 + 1)) 11 (nix x) 6 0 11 i 6 = nput (nput (mName M x n1 n2 n3 n4) 48 0 (nix x) 0) 49 0 (nix x) (M 49 0 (nix x) + 1) 48 0 i
      rw [nput_nk (by decide : ¬ 48 = 49)]
      by_cases e : i = nix x
      · rw [e, nput_se, nput_se]
      · rw [nput_ni e, nput_ni e, nput_ni e, nput_nj e, mName_nk _ _ _ _ _ _ (by decide)]; exact p6
  · have hi : i < mnp M := hi
    have k45 : ∀ z, nput (nput (mName M x n1 n2 n3 n4) 48 0 (nix x) 0) 49 0 (nix x) (M 49 0 (nix x) + 1) 45 0 z = mName M x n1 n2 n3 n4 45 0 z := fun z => by rw [nput_nk (by decide), nput_nk (by decide)]
    rw [k45, k45, k45, k45]
    show nput (nput (nput S 11 (nix x) 2 (cName n1 n2 n3 n4)) 11 (nix x) 5 (S 11 (nix x) 5 + 1)) 11 (nix x) 6 0 11 i 2 = _ ∧ _
    rw [nput_nj (by decide), nput_nj (by decide)]
    by_cases e : i = nix x
    · rw [e, nput_se, m1, m2, m3, m4]; exact ⟨rfl, hk⟩
    · have r0 := m0 i (by omega) e 0 (by decide)
      rw [nput_ni e, show 4 * i = 4 * i + 0 from rfl, r0, m0 i (by omega) e 1 (by decide), m0 i (by omega) e 2 (by decide), m0 i (by omega) e 3 (by decide)]
      exact h.nm i hi
end NQ
