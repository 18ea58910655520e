/-! The letters. -/
def gP (f : Nat → Int32) : Prop := (∀ i, i < 26 → cSmall (f i) = true) ∧ (∀ i j, i < 26 → j < 26 → f i = f j → i = j) ∧ ∀ c, cSmall c = true → ∃ i, i < 26 ∧ f i = c
theorem small_of {c : Int32} (h : cSmall c = true) : ∃ j, j < 26 ∧ c = nI (97 + j) := by
  obtain ⟨j, hj, e⟩ := vp_in_of (cSmall_in h) (by decide)
  refine ⟨j, hj, ?_⟩
  have : c = (c - 97) + 97 := by rw [Int32.sub_add_cancel]
  rw [this, e, show (97 : Int32) = nI 97 from rfl, nI_add, Nat.add_comm]
theorem ms1_at (M : NSt) : ∀ j, j ≤ 26 → ∀ i, i < j → ms1 M j 58 0 i = nI (97 + i)
  | 0, _, i, hi => absurd hi (Nat.not_lt_zero i)
  | j + 1, hj, i, hi => by
    show nput (ms1 M j) 58 0 j (vp_nar .char ((97 + nI j).toUInt32 % 65536).toInt32) 58 0 i = _
    by_cases e : i = j
    · rw [e, nput_se, (small_nI (by omega)).1]
    · rw [nput_nj e]; exact ms1_at M j (by omega) i (by omega)
theorem ms1_ne (M : NSt) : ∀ j k i z, k ≠ 58 → ms1 M j k i z = M k i z
  | 0, _, _, _, _ => rfl
  | j + 1, k, i, z, hk => by
    show nput (ms1 M j) 58 0 j _ k i z = _
    rw [nput_nk hk]; exact ms1_ne M j k i z hk
theorem shf1_at (S : NSt) : ∀ j, j ≤ 26 → ∀ i, i < j → shf1 S j 8 0 i = nI (97 + i)
  | 0, _, i, hi => absurd hi (Nat.not_lt_zero i)
  | j + 1, hj, i, hi => by
    show nput (shf1 S j) 8 0 j (vp_nar .char ((97 + nI j).toUInt32 % 65536).toInt32) 8 0 i = _
    by_cases e : i = j
    · rw [e, nput_se, (small_nI (by omega)).1]
    · rw [nput_nj e]; exact shf1_at S j (by omega) i (by omega)
theorem gP_start {f : Nat → Int32} (h : ∀ i, i < 26 → f i = nI (97 + i)) : gP f := by
  refine ⟨fun i hi => by rw [h i hi]; exact (small_nI hi).2, fun i j hi hj e => ?_, fun c hc => ?_⟩
  · rw [h i hi, h j hj] at e
    have := nI_inj (by omega) (by omega) e
    omega
  · obtain ⟨j, hj, e⟩ := small_of hc
    exact ⟨j, hj, by rw [h j hj, e]⟩
def nsw (a b i : Nat) : Nat := if i = b then a else if i = a then b else i
theorem nsw_lt {a b i : Nat} (ha : a < 26) (hb : b < 26) (hi : i < 26) : nsw a b i < 26 := by
  unfold nsw; repeat' split
  all_goals omega
theorem nsw_nsw {a b i : Nat} : nsw a b (nsw a b i) = i := by
  unfold nsw
  by_cases h1 : i = b
  · subst h1
    by_cases h2 : a = i
    · subst h2; simp
    · simp [h2]
  · by_cases h2 : i = a
    · subst h2; simp [h1]
    · simp [h1, h2]
theorem gP_sw {f g : Nat → Int32} {a b : Nat} (ha : a < 26) (hb : b < 26) (h : gP f) (e : ∀ i, i < 26 → g i = f (nsw a b i)) : gP g := by
  obtain ⟨h1, h2, h3⟩ := h
  refine ⟨fun i hi => by rw [e i hi]; exact h1 _ (nsw_lt ha hb hi), fun i j hi hj q => ?_, fun c hc => ?_⟩
  · rw [e i hi, e j hj] at q
    have := congrArg (nsw a b) (h2 _ _ (nsw_lt ha hb hi) (nsw_lt ha hb hj) q)
    rwa [nsw_nsw, nsw_nsw] at this
  · obtain ⟨i, hi, q⟩ := h3 c hc
    exact ⟨nsw a b i, nsw_lt ha hb hi, by rw [e _ (nsw_lt ha hb hi), nsw_nsw]; exact q⟩
theorem mex_at {B : NSt} {a b : Int32} (ha : nix a < 26) (hb : nix b < 26) (h : gP (fun i => B 58 0 i)) (i : Nat) : mex B a b 58 0 i = B 58 0 (nsw (nix a) (nix b) i) := by
  unfold mex nsw
  rw [nar_small (h.1 _ ha), nar_small (h.1 _ hb)]
  by_cases e1 : i = nix b
  · rw [if_pos e1, e1, nput_se]
  · rw [if_neg e1, nput_nj e1]
    by_cases e2 : i = nix a
    · rw [if_pos e2, e2, nput_se]
    · rw [if_neg e2, nput_nj e2]
theorem exch_at {A : NSt} {a b : Int32} (ha : nix a < 26) (hb : nix b < 26) (h : gP (fun i => A 8 0 i)) (i : Nat) : letExch A a b 8 0 i = A 8 0 (nsw (nix a) (nix b) i) := by
  unfold letExch nsw
  rw [nar_small (h.1 _ ha), nar_small (h.1 _ hb)]
  by_cases e1 : i = nix b
  · rw [if_pos e1, e1, nput_se]
  · rw [if_neg e1, nput_nj e1]
    by_cases e2 : i = nix a
    · rw [if_pos e2, e2, nput_se]
    · rw [if_neg e2, nput_nj e2]
theorem ms2_ok : ∀ (n : Nat) (st : Int32) (A B : NSt), n ≤ 25 → gP (fun i => A 8 0 i) → gP (fun i => B 58 0 i) → (∀ i, i < 26 → A 8 0 i = B 58 0 i) → gP (fun i => ms2 n st B 58 0 i) ∧ (∀ i, i < 26 → shf2 n st A 8 0 i = ms2 n st B 58 0 i)
  | 0, _, _, _, _, _, h2, h3 => ⟨h2, h3⟩
  | n + 1, st, A, B, hn, h1, h2, h3 => by
    have ha : nix (irm (us (st * 1103515245 + 12345) 8) (nI (n + 1) + 1)) < 26 := vp_lt (vp_mono (irm_in _ (by omega)) (by omega))
    have hb : nix (nI (n + 1)) < 26 := vp_lt (vp_in_nI (by omega) (by decide))
    unfold ms2 shf2
    refine ms2_ok n _ _ _ (by omega) ?_ ?_ ?_
    · exact gP_sw ha hb h1 (fun i hi => exch_at ha hb h1 i)
    · exact gP_sw ha hb h2 (fun i hi => mex_at ha hb h2 i)
    · intro i hi
      rw [exch_at ha hb h1 i, mex_at ha hb h2 i]
      exact h3 _ (nsw_lt ha hb hi)
theorem ms2_ne : ∀ (n : Nat) (st : Int32) (B : NSt) (k i j : Nat), k ≠ 58 → ms2 n st B k i j = B k i j
  | 0, _, _, _, _, _, _ => rfl
  | n + 1, st, B, k, i, j, hk => by
    unfold ms2
    rw [ms2_ne n _ _ k i j hk]
    unfold mex
    rw [nput_nk hk, nput_nk hk]
theorem mDraw_ne (M : NSt) (f : Int32) {k i j : Nat} (h1 : k ≠ 58) (h2 : ¬ (k = 30 ∧ j = 27)) : mDraw M f k i j = M k i j := by
  unfold mDraw
  rw [show nput (ms2 25 f (ms1 M 26)) 30 0 27 1 k i j = ms2 25 f (ms1 M 26) k i j from by unfold nput; rw [if_neg (fun z => h2 ⟨z.1, z.2.1⟩)], ms2_ne _ _ _ _ _ _ h1, ms1_ne _ _ _ _ _ h1]
theorem shf3_at {T : NSt} (h : gP (fun i => T 8 0 i)) : ∀ n, n ≤ 26 → ∀ i, i < n → shf3 T n 9 0 (nix (T 8 0 i - 97)) = nI i
  | 0, _, i, hi => absurd hi (Nat.not_lt_zero i)
  | n + 1, hn, i, hi => by
    show nput (shf3 T n) 9 0 (nix (shf3 T n 8 0 n - 97)) (nI n) 9 0 (nix (T 8 0 i - 97)) = _
    rw [shf3_ne T n 8 0 n (by decide)]
    by_cases e : i = n
    · rw [e, nput_se]
    · rw [nput_nj (fun z => e ?_)]
      · exact shf3_at h n (by omega) i (by omega)
      · have z1 := vp_eq (cSmall_in (h.1 i (by omega)))
        have z2 := vp_eq (cSmall_in (h.1 n (by omega)))
        have z3 : T 8 0 i - 97 = T 8 0 n - 97 := by rw [z1, z2, z]
        have z4 : T 8 0 i = T 8 0 n := by
          have := congrArg (· + (97 : Int32)) z3
          simpa only [Int32.sub_add_cancel] using this
        exact h.2.1 i n (by omega) (by omega) z4
theorem mDraw_ok (S M : NSt) (f : Int32) : gP (fun i => mDraw M f 58 0 i) ∧ (∀ i, i < 26 → oShuf S f 8 0 i = mDraw M f 58 0 i) ∧ ∀ i, i < 26 → oShuf S f 9 0 (nix (mDraw M f 58 0 i - 97)) = nI i := by
  have h1 : gP (fun i => shf1 S 26 8 0 i) := gP_start (shf1_at S 26 (Nat.le_refl _))
  have h2 : gP (fun i => ms1 M 26 58 0 i) := gP_start (ms1_at M 26 (Nat.le_refl _))
  obtain ⟨r1, r2⟩ := ms2_ok 25 f (shf1 S 26) (ms1 M 26) (Nat.le_refl _) h1 h2 (fun i hi => by rw [shf1_at S 26 (Nat.le_refl _) i hi, ms1_at M 26 (Nat.le_refl _) i hi])
  have e1 : ∀ i, mDraw M f 58 0 i = ms2 25 f (ms1 M 26) 58 0 i := fun i => by unfold mDraw; rw [nput_nk (by decide)]
  have e2 : ∀ i, oShuf S f 8 0 i = shf2 25 f (shf1 S 26) 8 0 i := fun i => by unfold oShuf; rw [nput_nk (by decide), shf3_ne _ _ _ _ _ (by decide)]
  have e3 : ∀ i, oShuf S f 9 0 i = shf3 (shf2 25 f (shf1 S 26)) 26 9 0 i := fun i => by unfold oShuf; rw [nput_nk (by decide)]
  have r3 : gP (fun i => shf2 25 f (shf1 S 26) 8 0 i) := by
    obtain ⟨q1, q2, q3⟩ := r1
    refine ⟨fun i hi => ?_, fun i j hi hj e => ?_, fun c hc => ?_⟩
    · show cSmall (shf2 25 f (shf1 S 26) 8 0 i) = true
      rw [r2 i hi]; exact q1 i hi
    · have e : shf2 25 f (shf1 S 26) 8 0 i = shf2 25 f (shf1 S 26) 8 0 j := e
      rw [r2 i hi, r2 j hj] at e; exact q2 i j hi hj e
    · obtain ⟨i, hi, q⟩ := q3 c hc
      exact ⟨i, hi, by show shf2 25 f (shf1 S 26) 8 0 i = c; rw [r2 i hi]; exact q⟩
  refine ⟨?_, fun i hi => by rw [e1, e2]; exact r2 i hi, fun i hi => ?_⟩
  · have : (fun i => mDraw M f 58 0 i) = fun i => ms2 25 f (ms1 M 26) 58 0 i := funext e1
    rw [this]; exact r1
  · rw [e1, e3, ← r2 i hi]
    exact shf3_at r3 26 (Nat.le_refl _) i hi
section NQ
variable {S M : NSt} {x : Int32}
theorem ev_draw (h : nB S M) (f : Int32) : nB (oShuf S f) (mDraw M f) := by
  obtain ⟨r1, r2, r3⟩ := mDraw_ok S M f
  have o : ∀ {k i j : Nat}, k ≠ 7 → k ≠ 8 → k ≠ 9 → oShuf S f k i j = S k i j := fun a b c => oShuf_ne S f a b c
  have m : ∀ {k i j : Nat}, k ≠ 58 → ¬ (k = 30 ∧ j = 27) → mDraw M f k i j = M k i j := fun a b => mDraw_ne M f a b
  have m1 : ∀ k, k ≠ 58 → k ≠ 30 → mDraw M f k = M k := fun k a b => funext (fun i => funext (fun j => m a (fun z => b z.1)))
  have enp : mnp (mDraw M f) = mnp M := by unfold mnp; rw [m (by decide) (by decide)]
  have ens : mns (mDraw M f) = mns M := by unfold mns; rw [m (by decide) (by decide)]
  have env : mnv (mDraw M f) = mnv M := by unfold mnv; rw [m (by decide) (by decide)]
  have ena : mna (mDraw M f) = mna M := by unfold mna; rw [m (by decide) (by decide)]
  have eEr : ∀ v n, mErl (mDraw M f) v n = mErl M v n := fun v n => by unfold mErl; rw [m1 54 (by decide) (by decide), m1 55 (by decide) (by decide), m1 53 (by decide) (by decide)]
  refine ⟨?_, ?_, ?_, ?_, ?_, ?_, ?_, ?_, ?_, ?_, ?_, ?_, ?_, ?_, ?_, ?_, ?_⟩
  · have g := h.ok
    unfold mOk at g ⊢
    rw [enp, ens, env, ena, m (by decide) (by decide), m (by decide) (by decide), m (by decide) (by decide), m (by decide) (by decide), m1 43 (by decide) (by decide), m1 53 (by decide) (by decide), m1 54 (by decide) (by decide)]
    exact g
  · rw [o (by decide) (by decide) (by decide), m (by decide) (by decide)]; exact h.c0
  · rw [o (by decide) (by decide) (by decide), m (by decide) (by decide)]; exact h.c1
  · rw [o (by decide) (by decide) (by decide), m (by decide) (by decide)]; exact h.c2
  · rw [o (by decide) (by decide) (by decide), m (by decide) (by decide)]; exact h.c3
  · rw [o (by decide) (by decide) (by decide), m (by decide) (by decide)]; exact h.na
  · rw [o (by decide) (by decide) (by decide), m (by decide) (by decide)]; exact h.nv
  · rw [o (by decide) (by decide) (by decide), m (by decide) (by decide)]; exact h.np
  · rw [o (by decide) (by decide) (by decide), m (by decide) (by decide)]; exact h.ns
  · intro i hi
    rw [ena] at hi
    rw [o (by decide) (by decide) (by decide), o (by decide) (by decide) (by decide), o (by decide) (by decide) (by decide), m1 36 (by decide) (by decide), m1 37 (by decide) (by decide), m1 38 (by decide) (by decide)]
    exact h.ar i hi
  · intro i hi
    rw [env] at hi
    rw [o (by decide) (by decide) (by decide), o (by decide) (by decide) (by decide), o (by decide) (by decide) (by decide), m1 40 (by decide) (by decide), m1 41 (by decide) (by decide), eEr, ens]
    exact h.vo i hi
  · intro i hi
    rw [enp] at hi
    rw [o (by decide) (by decide) (by decide), o (by decide) (by decide) (by decide), o (by decide) (by decide) (by decide), o (by decide) (by decide) (by decide), o (by decide) (by decide) (by decide), o (by decide) (by decide) (by decide), m1 43 (by decide) (by decide), m1 44 (by decide) (by decide), m1 47 (by decide) (by decide), m1 48 (by decide) (by decide), m1 49 (by decide) (by decide), m1 50 (by decide) (by decide), ena]
    exact h.pa i hi
  · intro i hi
    rw [enp] at hi
    rw [o (by decide) (by decide) (by decide), m1 45 (by decide) (by decide)]
    exact h.nm i hi
  · intro i hi
    rw [enp] at hi
    rw [m1 46 (by decide) (by decide), o (by decide) (by decide) (by decide), o (by decide) (by decide) (by decide)]
    exact h.wd i hi
  · intro i hi hj
    rw [enp] at hi
    rw [o (by decide) (by decide) (by decide)]; exact h.wh i hi hj
  · intro k hk
    rw [ens] at hk
    rw [o (by decide) (by decide) (by decide), o (by decide) (by decide) (by decide), o (by decide) (by decide) (by decide), o (by decide) (by decide) (by decide), m1 53 (by decide) (by decide), m1 54 (by decide) (by decide), m1 55 (by decide) (by decide), eEr, enp, env]
    exact h.si k hk
  · refine ⟨?_, fun _ => ⟨fun i hi => ⟨r2 i hi, r1.1 i hi, r3 i hi⟩, r1.2.2⟩⟩
    unfold oShuf mDraw
    rw [nput_se, nput_se]
end NQ
