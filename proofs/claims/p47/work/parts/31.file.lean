/-! The events that make rows, the letters, and the days. -/
section NQ
variable {S M : NSt} {x : Int32}
theorem name_ix : ∀ n, n < 12 → nix (4 * nI n) = 4 * n ∧ nix (4 * nI n + 1) = 4 * n + 1 ∧ nix (4 * nI n + 2) = 4 * n + 2 ∧ nix (4 * nI n + 3) = 4 * n + 3 := by decide +kernel
theorem nar32 : vp_nar .char 32 = 32 := by decide
theorem sur_nar {a b c d : Int32} (h : nmOk a b c d = true) : vp_nar .char a = a ∧ vp_nar .char b = b ∧ vp_nar .char c = c ∧ vp_nar .char d = d := by
  unfold nmOk cFollow at h
  simp only [Bool.and_eq_true, Bool.or_eq_true, decide_eq_true_eq] at h
  obtain ⟨⟨⟨h1, h2⟩, h3⟩, h4⟩ := h
  refine ⟨nar_small h1, ?_, ?_, ?_⟩
  · rcases h2 with q | q
    · rw [q, nar32]
    · exact nar_small q.2
  · rcases h3 with q | q
    · rw [q, nar32]
    · exact nar_small q.2
  · rcases h4 with q | q
    · rw [q, nar32]
    · exact nar_small q.2
theorem mName_nk (T : NSt) (x a b c d : Int32) {k i j : Nat} (h : ¬ k = 45) : mName T x a b c d k i j = T k i j := by
  unfold mName
  rw [nput_nk h, nput_nk h, nput_nk h, nput_nk h]
theorem mName_at (T : NSt) {n : Nat} (hn : n < 12) {a b c d : Int32} (hk : nmOk a b c d = true) : (∀ i, i < 12 → i ≠ n → ∀ r, r < 4 → mName T (nI n) a b c d 45 0 (4 * i + r) = T 45 0 (4 * i + r)) ∧ mName T (nI n) a b c d 45 0 (4 * n) = a ∧ mName T (nI n) a b c d 45 0 (4 * n + 1) = b ∧ mName T (nI n) a b c d 45 0 (4 * n + 2) = c ∧ mName T (nI n) a b c d 45 0 (4 * n + 3) = d := by
  obtain ⟨e0, e1, e2, e3⟩ := name_ix n hn
  obtain ⟨f0, f1, f2, f3⟩ := sur_nar hk
  unfold mName
  rw [e0, e1, e2, e3, f0, f1, f2, f3]
  refine ⟨fun i hi hne r hr => ?_, ?_, ?_, ?_, ?_⟩
  · rw [nput_nj (by omega), nput_nj (by omega), nput_nj (by omega), nput_nj (by omega)]
  · rw [nput_nj (by omega), nput_nj (by omega), nput_nj (by omega), nput_se]
  · rw [nput_nj (by omega), nput_nj (by omega), nput_se]
  · rw [nput_nj (by omega), nput_se]
  · rw [nput_se]
theorem ev_file (h : nB S M) (hz : M 46 0 (mnp M) = 0 ∧ M 47 0 (mnp M) = 0 ∧ M 48 0 (mnp M) = 0 ∧ M 49 0 (mnp M) = 0 ∧ M 50 0 (mnp M) = 0) (hn : mnp M < 12) {a q n1 n2 n3 n4 : Int32} (ha : vp_in a (mna M)) (hq : -1 ≤ q) (hk : nmOk n1 n2 n3 n4 = true) : nB (oBegin S a q (cName n1 n2 n3 n4)) (nput (mName (nput (nput M 43 0 (nix (M 30 0 12)) a) 44 0 (nix (M 30 0 12)) q) (M 30 0 12) n1 n2 n3 n4) 30 0 12 (M 30 0 12 + 1)) := by
  obtain ⟨g1, g2, g3, g4, g5, g6, g7, g8, g9, g10⟩ := h.ok
  have e5 : nix (M 30 0 12 + 1) = mnp M + 1 := nix_pl g1 (by omega)
  obtain ⟨n, hnn⟩ : ∃ n, n = mnp M := ⟨_, rfl⟩
  rw [← hnn] at hz hn
  have es : onp S = n := by rw [h.eonp, hnn]
  have e12 : nix (M 30 0 12) = n := by rw [hnn]; rfl
  have eM : M 30 0 12 = nI n := by rw [hnn]; exact g1
  -- the new model, kind by kind
  have k43 : ∀ i, nput (mName (nput (nput M 43 0 (nix (M 30 0 12)) a) 44 0 (nix (M 30 0 12)) q) (M 30 0 12) n1 n2 n3 n4) 30 0 12 (M 30 0 12 + 1) 43 0 i = if i = n then a else M 43 0 i := by
    intro i
    rw [nput_nk (by decide), mName_nk _ _ _ _ _ _ (by decide), nput_nk (by decide), e12]
    by_cases e : i = n
    · rw [if_pos e, e, nput_se]
    · rw [if_neg e, nput_nj e]
  have k44 : ∀ i, nput (mName (nput (nput M 43 0 (nix (M 30 0 12)) a) 44 0 (nix (M 30 0 12)) q) (M 30 0 12) n1 n2 n3 n4) 30 0 12 (M 30 0 12 + 1) 44 0 i = if i = n then q else M 44 0 i := by
    intro i
    rw [nput_nk (by decide), mName_nk _ _ _ _ _ _ (by decide), e12]
    by_cases e : i = n
    · rw [if_pos e, e, nput_se]
    · rw [if_neg e, nput_nj e, nput_nk (by decide)]
  have kne : ∀ k i j, k ≠ 30 → k ≠ 43 → k ≠ 44 → k ≠ 45 → nput (mName (nput (nput M 43 0 (nix (M 30 0 12)) a) 44 0 (nix (M 30 0 12)) q) (M 30 0 12) n1 n2 n3 n4) 30 0 12 (M 30 0 12 + 1) k i j = M k i j := by
    intro k i j a1 a2 a3 a4
    rw [nput_nk a1, mName_nk _ _ _ _ _ _ a4, nput_nk a3, nput_nk a2]
  have k30 : ∀ j, j ≠ 12 → nput (mName (nput (nput M 43 0 (nix (M 30 0 12)) a) 44 0 (nix (M 30 0 12)) q) (M 30 0 12) n1 n2 n3 n4) 30 0 12 (M 30 0 12 + 1) 30 0 j = M 30 0 j := by
    intro j hj
    rw [nput_nj hj, mName_nk _ _ _ _ _ _ (by decide), nput_nk (by decide), nput_nk (by decide)]
  have k12 : nput (mName (nput (nput M 43 0 (nix (M 30 0 12)) a) 44 0 (nix (M 30 0 12)) q) (M 30 0 12) n1 n2 n3 n4) 30 0 12 (M 30 0 12 + 1) 30 0 12 = nI (n + 1) := by rw [nput_se, eM, nI_1]
  obtain ⟨m0, m1, m2, m3, m4⟩ := mName_at (nput (nput M 43 0 (nix (M 30 0 12)) a) 44 0 (nix (M 30 0 12)) q) hn hk
  rw [← eM] at m0 m1 m2 m3 m4
  have k45 : ∀ z, nput (mName (nput (nput M 43 0 (nix (M 30 0 12)) a) 44 0 (nix (M 30 0 12)) q) (M 30 0 12) n1 n2 n3 n4) 30 0 12 (M 30 0 12 + 1) 45 0 z = mName (nput (nput M 43 0 (nix (M 30 0 12)) a) 44 0 (nix (M 30 0 12)) q) (M 30 0 12) n1 n2 n3 n4 45 0 z := fun z => nput_nk (by decide)
  have kT : ∀ z, nput (nput M 43 0 (nix (M 30 0 12)) a) 44 0 (nix (M 30 0 12)) q 45 0 z = M 45 0 z := fun z => by rw [nput_nk (by decide), nput_nk (by decide)]
  generalize nput (mName (nput (nput M 43 0 (nix (M 30 0 12)) a) 44 0 (nix (M 30 0 12)) q) (M 30 0 12) n1 n2 n3 n4) 30 0 12 (M 30 0 12 + 1) = M' at *
  have enp : mnp M' = n + 1 := by unfold mnp; rw [k12, nix_nI (by omega)]
  have ens : mns M' = mns M := by unfold mns; rw [k30 22 (by decide)]
  have env : mnv M' = mnv M := by unfold mnv; rw [k30 9 (by decide)]
  have ena : mna M' = mna M := by unfold mna; rw [k30 5 (by decide)]
  have eEr : ∀ v m, mErl M' v m = mErl M v m := by
    intro v m
    unfold mErl
    refine iors_congr (fun s hs => ?_)
    rw [kne 54 0 s (by decide) (by decide) (by decide) (by decide), kne 55 0 s (by decide) (by decide) (by decide) (by decide), kne 53 0 s (by decide) (by decide) (by decide) (by decide)]
  -- the new office
  have o0 : ∀ k i j, k ≠ 11 → ¬ (k = 0 ∧ j = 6) → oBegin S a q (cName n1 n2 n3 n4) k i j = S k i j := by
    intro k i j b1 b2
    unfold oBegin paperBegin
    rw [show nput (nput (nput (nput (nput (nput (nput (nput (nput (nput (nput S 11 (onp S) 0 a) 11 (onp S) 1 q) 11 (onp S) 2 (cName n1 n2 n3 n4)) 11 (onp S) 3 0) 11 (onp S) 4 0) 11 (onp S) 5 0) 11 (onp S) 6 0) 11 (onp S) 7 0) 11 (onp S) 8 0) 11 (onp S) 9 0) 0 0 6 (S 0 0 6 + 1) k i j = nput (nput (nput (nput (nput (nput (nput (nput (nput (nput S 11 (onp S) 0 a) 11 (onp S) 1 q) 11 (onp S) 2 (cName n1 n2 n3 n4)) 11 (onp S) 3 0) 11 (onp S) 4 0) 11 (onp S) 5 0) 11 (onp S) 6 0) 11 (onp S) 7 0) 11 (onp S) 8 0) 11 (onp S) 9 0 k i j from by unfold nput; rw [if_neg (fun z => b2 ⟨z.1, z.2.1⟩)]]
    rw [nput_nk b1, nput_nk b1, nput_nk b1, nput_nk b1, nput_nk b1, nput_nk b1, nput_nk b1, nput_nk b1, nput_nk b1, nput_nk b1]
  have o6 : oBegin S a q (cName n1 n2 n3 n4) 0 0 6 = nI (n + 1) := by
    unfold oBegin
    rw [nput_se, h.np, eM, nI_1]
  have oo : ∀ i j, i ≠ n → oBegin S a q (cName n1 n2 n3 n4) 11 i j = S 11 i j := by
    intro i j b1
    unfold oBegin paperBegin
    rw [es, nput_nk (by decide), nput_ni b1, nput_ni b1, nput_ni b1, nput_ni b1, nput_ni b1, nput_ni b1, nput_ni b1, nput_ni b1, nput_ni b1, nput_ni b1]
  have on : oBegin S a q (cName n1 n2 n3 n4) 11 n 0 = a ∧ oBegin S a q (cName n1 n2 n3 n4) 11 n 1 = q ∧ oBegin S a q (cName n1 n2 n3 n4) 11 n 2 = cName n1 n2 n3 n4 ∧ oBegin S a q (cName n1 n2 n3 n4) 11 n 3 = 0 ∧ oBegin S a q (cName n1 n2 n3 n4) 11 n 4 = 0 ∧ oBegin S a q (cName n1 n2 n3 n4) 11 n 5 = 0 ∧ oBegin S a q (cName n1 n2 n3 n4) 11 n 6 = 0 := by
    unfold oBegin paperBegin
    rw [es]
    refine ⟨?_, ?_, ?_, ?_, ?_, ?_, ?_⟩ <;> (unfold nput; simp)
  generalize oBegin S a q (cName n1 n2 n3 n4) = S' at *
  have z9 : ∀ k i j, k ≠ 11 → k ≠ 0 → S' k i j = S k i j := fun k i j b1 b2 => o0 k i j b1 (fun z => b2 z.1)
  refine ⟨?_, ?_, ?_, ?_, ?_, ?_, ?_, ?_, ?_, ?_, ?_, ?_, ?_, ?_, ?_, ?_, ?_⟩
  · refine ⟨by rw [enp, k12], by rw [enp]; omega, by rw [ens, k30 22 (by decide)]; exact g3, by rw [ens]; exact g4, by rw [env, k30 9 (by decide)]; exact g5, by rw [env]; exact g6, by rw [ena, k30 5 (by decide)]; exact g7, by rw [ena]; exact g8, fun k hk => ?_, fun k hk => ?_⟩
    · rw [enp] at hk
      rw [k43]
      by_cases e : k = n
      · rw [if_pos e]; exact vp_mono ha g8
      · rw [if_neg e]; exact g9 k (by omega)
    · rw [ens] at hk
      rw [kne 53 0 k (by decide) (by decide) (by decide) (by decide), kne 54 0 k (by decide) (by decide) (by decide) (by decide)]; exact g10 k hk
  · rw [z9 1 0 0 (by decide) (by decide), k30 4 (by decide)]; exact h.c0
  · rw [z9 1 0 1 (by decide) (by decide), k30 1 (by decide)]; exact h.c1
  · rw [z9 1 0 2 (by decide) (by decide), k30 2 (by decide)]; exact h.c2
  · rw [z9 1 0 3 (by decide) (by decide), k30 3 (by decide)]; exact h.c3
  · rw [z9 2 0 2 (by decide) (by decide), k30 5 (by decide)]; exact h.na
  · rw [z9 2 0 3 (by decide) (by decide), k30 9 (by decide)]; exact h.nv
  · rw [o6, k12]
  · rw [o0 0 0 7 (by decide) (by decide), k30 22 (by decide)]; exact h.ns
  · intro i hi
    rw [ena] at hi
    rw [z9 4 i 0 (by decide) (by decide), z9 4 i 1 (by decide) (by decide), z9 4 i 2 (by decide) (by decide), kne 36 0 i (by decide) (by decide) (by decide) (by decide), kne 37 0 i (by decide) (by decide) (by decide) (by decide), kne 38 0 i (by decide) (by decide) (by decide) (by decide)]
    exact h.ar i hi
  · intro i hi
    rw [env] at hi
    rw [z9 6 i 0 (by decide) (by decide), z9 6 i 1 (by decide) (by decide), z9 6 i 2 (by decide) (by decide), kne 40 0 i (by decide) (by decide) (by decide) (by decide), kne 41 0 i (by decide) (by decide) (by decide) (by decide), eEr, ens]
    exact h.vo i hi
  · intro i hi
    rw [enp] at hi
    rw [k43, k44, kne 47 0 i (by decide) (by decide) (by decide) (by decide), kne 48 0 i (by decide) (by decide) (by decide) (by decide), kne 49 0 i (by decide) (by decide) (by decide) (by decide), kne 50 0 i (by decide) (by decide) (by decide) (by decide), ena]
    by_cases e : i = n
    · obtain ⟨b0, b1, b2, b3, b4, b5, b6⟩ := on
      rw [if_pos e, if_pos e, e, b0, b1, b3, b4, b5, b6, hz.2.1, hz.2.2.1, hz.2.2.2.1, hz.2.2.2.2]
      exact ⟨rfl, rfl, rfl, rfl, rfl, rfl, hq, ha⟩
    · rw [if_neg e, if_neg e, oo i 0 e, oo i 1 e, oo i 3 e, oo i 4 e, oo i 5 e, oo i 6 e]
      exact h.pa i (by omega)
  · intro i hi
    rw [enp] at hi
    rw [k45, k45, k45, k45]
    by_cases e : i = n
    · obtain ⟨b0, b1, b2, b3, b4, b5, b6⟩ := on
      rw [e, b2, m1, m2, m3, m4]
      exact ⟨rfl, hk⟩
    · have r0 := m0 i (by omega) e 0 (by decide)
      rw [oo i 2 e, show 4 * i = 4 * i + 0 from rfl, r0, m0 i (by omega) e 1 (by decide), m0 i (by omega) e 2 (by decide), m0 i (by omega) e 3 (by decide), kT, kT, kT, kT]
      exact h.nm i (by omega)
  · intro i hi
    rw [enp] at hi
    rw [kne 46 0 i (by decide) (by decide) (by decide) (by decide), o0 0 0 8 (by decide) (by decide)]
    by_cases e : i = n
    · rw [e, hz.1]
      exact Or.inl ⟨rfl, h.wh n (by omega) (by omega)⟩
    · rw [oo i 7 e]; exact h.wd i (by omega)
  · intro i hi hj
    rw [enp] at hi
    rw [o0 0 0 8 (by decide) (by decide)]; exact h.wh i (by omega) hj
  · intro k hk
    rw [ens] at hk
    rw [z9 13 k 0 (by decide) (by decide), z9 13 k 1 (by decide) (by decide), z9 13 k 2 (by decide) (by decide), z9 13 k 3 (by decide) (by decide), kne 53 0 k (by decide) (by decide) (by decide) (by decide), kne 54 0 k (by decide) (by decide) (by decide) (by decide), kne 55 0 k (by decide) (by decide) (by decide) (by decide), eEr, enp, env]
    obtain ⟨s0, s1, s2, s3, s4, s5⟩ := h.si k hk
    exact ⟨s0, s1, s2, s3, vp_mono s4 (by omega), s5⟩
  · have e58 : M' 58 0 = M 58 0 := funext (fun j => kne 58 0 j (by decide) (by decide) (by decide) (by decide))
    rw [z9 7 0 2 (by decide) (by decide), k30 27 (by decide), e58]
    refine ⟨h.le.1, fun z => ⟨fun i hi => ?_, (h.le.2 z).2⟩⟩
    rw [z9 8 0 i (by decide) (by decide), z9 9 0 _ (by decide) (by decide)]
    exact (h.le.2 z).1 i hi
end NQ
