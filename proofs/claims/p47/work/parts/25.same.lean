/-! Office and model: the same election. -/
theorem ffind_none {p : Nat → Bool} : ∀ {n : Nat}, ffind p n = none ↔ ∀ k, k < n → p k = false
  | 0 => ⟨fun _ k hk => absurd hk (Nat.not_lt_zero k), fun _ => rfl⟩
  | n + 1 => by
    constructor
    · intro h k hk
      cases hf : ffind p n with
      | some q => simp [ffind, hf] at h
      | none =>
        rw [ffind_s hf] at h
        rcases Nat.lt_or_ge k n with q | q
        · exact ffind_none.mp hf k q
        · obtain rfl : k = n := by omega
          cases hp : p k with
          | false => rfl
          | true => rw [hp] at h; cases h
    · intro h
      have hf := ffind_none.mpr (fun k hk => h k (Nat.lt_succ_of_lt hk))
      rw [ffind_s hf, h n (Nat.lt_succ_self n)]
      rfl
theorem ffind_isSome {p : Nat → Bool} {n : Nat} : (ffind p n).isSome = true ↔ ∃ k, k < n ∧ p k = true := by
  constructor
  · intro h
    apply Classical.byContradiction
    intro hc
    have : ffind p n = none := ffind_none.mpr (fun k hk => by
      cases hp : p k with
      | false => rfl
      | true => exact absurd ⟨k, hk, hp⟩ hc)
    rw [this] at h; cases h
  · rintro ⟨k, hk, hp⟩
    cases hf : ffind p n with
    | some q => rfl
    | none => rw [ffind_none.mp hf k hk] at hp; cases hp
theorem isum_congr {f g : Nat → Int32} : ∀ {n : Nat}, (∀ k, k < n → f k = g k) → isum f n = isum g n
  | 0, _ => rfl
  | n + 1, h => by rw [isum_s, isum_s, isum_congr (fun k hk => h k (Nat.lt_succ_of_lt hk)), h n (Nat.lt_succ_self n)]
theorem iors_congr {f g : Nat → Int32} : ∀ {n : Nat}, (∀ k, k < n → f k = g k) → iors f n = iors g n
  | 0, _ => rfl
  | n + 1, h => by show iors f n ||| f n = iors g n ||| g n; rw [iors_congr (fun k hk => h k (Nat.lt_succ_of_lt hk)), h n (Nat.lt_succ_self n)]
theorem ib_iors {f : Nat → Int32} {i : Nat} : ∀ {n : Nat}, ib (iors f n) i = true ↔ ∃ k, k < n ∧ ib (f k) i = true
  | 0 => by
    constructor
    · intro h; rw [show iors f 0 = 0 from rfl, ib_0] at h; cases h
    · rintro ⟨k, hk, -⟩; exact absurd hk (Nat.not_lt_zero k)
  | n + 1 => by
    rw [show iors f (n + 1) = iors f n ||| f n from rfl, ib_or, Bool.or_eq_true, ib_iors]
    constructor
    · rintro (⟨k, hk, h⟩ | h)
      · exact ⟨k, Nat.lt_succ_of_lt hk, h⟩
      · exact ⟨n, Nat.lt_succ_self n, h⟩
    · rintro ⟨k, hk, h⟩
      rcases Nat.lt_or_ge k n with q | q
      · exact Or.inl ⟨k, q, h⟩
      · obtain rfl : k = n := by omega
        exact Or.inr h
/-- the papers that a voter has signed locally, among the first signatures -/
def mErl (M : NSt) (v : Int32) (n : Nat) : Int32 := iors (fun s => if M 54 0 s = v ∧ ¬ M 55 0 s = 0 then 1 <<< (M 53 0 s &&& 31) else 0) n
theorem ib_mErl {M : NSt} {v : Int32} {n i : Nat} (hi : i < 32) (hp : ∀ s, s < n → vp_in (M 53 0 s) 12) : ib (mErl M v n) i = true ↔ ∃ s, s < n ∧ M 54 0 s = v ∧ ¬ M 55 0 s = 0 ∧ nix (M 53 0 s) = i := by
  unfold mErl
  rw [ib_iors]
  constructor
  · rintro ⟨s, hs, h⟩
    by_cases hc : M 54 0 s = v ∧ ¬ M 55 0 s = 0
    · rw [if_pos hc] at h
      have h1 := vp_lt (hp s hs)
      rw [vp_eq (hp s hs), ib_one _ (by omega) i hi] at h
      exact ⟨s, hs, hc.1, hc.2, (of_decide_eq_true h).symm⟩
    · rw [if_neg hc, ib_0] at h; cases h
  · rintro ⟨s, hs, h1, h2, h3⟩
    refine ⟨s, hs, ?_⟩
    rw [if_pos ⟨h1, h2⟩]
    have h4 := vp_lt (hp s hs)
    rw [vp_eq (hp s hs), ib_one _ (by omega) i hi, h3]
    exact decide_eq_true rfl
/-- what the two states have in common, but for what was judged -/
def nB (S M : NSt) : Prop := (mOk M) ∧ (S 1 0 0 = M 30 0 4) ∧ (S 1 0 1 = M 30 0 1) ∧ (S 1 0 2 = M 30 0 2) ∧ (S 1 0 3 = M 30 0 3) ∧ (S 2 0 2 = M 30 0 5) ∧ (S 2 0 3 = M 30 0 9) ∧ (S 0 0 6 = M 30 0 12) ∧ (S 0 0 7 = M 30 0 22) ∧ (∀ i, i < mna M → S 4 i 0 = M 36 0 i ∧ S 4 i 1 = M 37 0 i ∧ S 4 i 2 = M 38 0 i) ∧ (∀ i, i < mnv M → S 6 i 0 = M 40 0 i ∧ ((S 6 i 1 = 1 ∧ M 41 0 i = 0) ∨ (S 6 i 1 = 0 ∧ M 41 0 i = 1)) ∧ S 6 i 2 = mErl M (nI i) (mns M)) ∧ (∀ i, i < mnp M → S 11 i 0 = M 43 0 i ∧ S 11 i 1 = M 44 0 i ∧ S 11 i 3 = M 47 0 i ∧ S 11 i 4 = M 50 0 i ∧ S 11 i 5 = M 49 0 i ∧ S 11 i 6 = M 48 0 i ∧ -1 ≤ M 44 0 i ∧ vp_in (M 43 0 i) (mna M)) ∧ (∀ i, i < mnp M → S 11 i 2 = cName (M 45 0 (4 * i)) (M 45 0 (4 * i + 1)) (M 45 0 (4 * i + 2)) (M 45 0 (4 * i + 3)) ∧ nmOk (M 45 0 (4 * i)) (M 45 0 (4 * i + 1)) (M 45 0 (4 * i + 2)) (M 45 0 (4 * i + 3)) = true) ∧ (∀ i, i < mnp M → (M 46 0 i = 0 ∧ ib (S 0 0 8) i = false) ∨ (M 46 0 i = 1 ∧ ib (S 0 0 8) i = true ∧ S 11 i 7 = 0) ∨ (M 46 0 i = 2 ∧ ib (S 0 0 8) i = true ∧ S 11 i 7 = 1)) ∧ (∀ i, mnp M ≤ i → i < 32 → ib (S 0 0 8) i = false) ∧ (∀ k, k < mns M → S 13 k 0 = M 53 0 k ∧ S 13 k 1 = M 54 0 k ∧ S 13 k 2 = M 55 0 k ∧ S 13 k 3 = mErl M (M 54 0 k) k ∧ vp_in (M 53 0 k) (mnp M) ∧ vp_in (M 54 0 k) (mnv M)) ∧ (S 7 0 2 = M 30 0 27 ∧ (¬ M 30 0 27 = 0 → (∀ i, i < 26 → S 8 0 i = M 58 0 i ∧ cSmall (M 58 0 i) = true ∧ S 9 0 (nix (M 58 0 i - 97)) = nI i) ∧ ∀ c, cSmall c = true → ∃ i, i < 26 ∧ M 58 0 i = c))
theorem nB.ok {S M : NSt} (h : nB S M) : mOk M := h.1
theorem nB.c0 {S M : NSt} (h : nB S M) : S 1 0 0 = M 30 0 4 := h.2.1
theorem nB.c1 {S M : NSt} (h : nB S M) : S 1 0 1 = M 30 0 1 := h.2.2.1
theorem nB.c2 {S M : NSt} (h : nB S M) : S 1 0 2 = M 30 0 2 := h.2.2.2.1
theorem nB.c3 {S M : NSt} (h : nB S M) : S 1 0 3 = M 30 0 3 := h.2.2.2.2.1
theorem nB.na {S M : NSt} (h : nB S M) : S 2 0 2 = M 30 0 5 := h.2.2.2.2.2.1
theorem nB.nv {S M : NSt} (h : nB S M) : S 2 0 3 = M 30 0 9 := h.2.2.2.2.2.2.1
theorem nB.np {S M : NSt} (h : nB S M) : S 0 0 6 = M 30 0 12 := h.2.2.2.2.2.2.2.1
theorem nB.ns {S M : NSt} (h : nB S M) : S 0 0 7 = M 30 0 22 := h.2.2.2.2.2.2.2.2.1
theorem nB.ar {S M : NSt} (h : nB S M) : ∀ i, i < mna M → S 4 i 0 = M 36 0 i ∧ S 4 i 1 = M 37 0 i ∧ S 4 i 2 = M 38 0 i := h.2.2.2.2.2.2.2.2.2.1
theorem nB.vo {S M : NSt} (h : nB S M) : ∀ i, i < mnv M → S 6 i 0 = M 40 0 i ∧ ((S 6 i 1 = 1 ∧ M 41 0 i = 0) ∨ (S 6 i 1 = 0 ∧ M 41 0 i = 1)) ∧ S 6 i 2 = mErl M (nI i) (mns M) := h.2.2.2.2.2.2.2.2.2.2.1
theorem nB.pa {S M : NSt} (h : nB S M) : ∀ i, i < mnp M → S 11 i 0 = M 43 0 i ∧ S 11 i 1 = M 44 0 i ∧ S 11 i 3 = M 47 0 i ∧ S 11 i 4 = M 50 0 i ∧ S 11 i 5 = M 49 0 i ∧ S 11 i 6 = M 48 0 i ∧ -1 ≤ M 44 0 i ∧ vp_in (M 43 0 i) (mna M) := h.2.2.2.2.2.2.2.2.2.2.2.1
theorem nB.nm {S M : NSt} (h : nB S M) : ∀ i, i < mnp M → S 11 i 2 = cName (M 45 0 (4 * i)) (M 45 0 (4 * i + 1)) (M 45 0 (4 * i + 2)) (M 45 0 (4 * i + 3)) ∧ nmOk (M 45 0 (4 * i)) (M 45 0 (4 * i + 1)) (M 45 0 (4 * i + 2)) (M 45 0 (4 * i + 3)) = true := h.2.2.2.2.2.2.2.2.2.2.2.2.1
theorem nB.wd {S M : NSt} (h : nB S M) : ∀ i, i < mnp M → (M 46 0 i = 0 ∧ ib (S 0 0 8) i = false) ∨ (M 46 0 i = 1 ∧ ib (S 0 0 8) i = true ∧ S 11 i 7 = 0) ∨ (M 46 0 i = 2 ∧ ib (S 0 0 8) i = true ∧ S 11 i 7 = 1) := h.2.2.2.2.2.2.2.2.2.2.2.2.2.1
theorem nB.wh {S M : NSt} (h : nB S M) : ∀ i, mnp M ≤ i → i < 32 → ib (S 0 0 8) i = false := h.2.2.2.2.2.2.2.2.2.2.2.2.2.2.1
theorem nB.si {S M : NSt} (h : nB S M) : ∀ k, k < mns M → S 13 k 0 = M 53 0 k ∧ S 13 k 1 = M 54 0 k ∧ S 13 k 2 = M 55 0 k ∧ S 13 k 3 = mErl M (M 54 0 k) k ∧ vp_in (M 53 0 k) (mnp M) ∧ vp_in (M 54 0 k) (mnv M) := h.2.2.2.2.2.2.2.2.2.2.2.2.2.2.2.1
theorem nB.le {S M : NSt} (h : nB S M) : S 7 0 2 = M 30 0 27 ∧ (¬ M 30 0 27 = 0 → (∀ i, i < 26 → S 8 0 i = M 58 0 i ∧ cSmall (M 58 0 i) = true ∧ S 9 0 (nix (M 58 0 i - 97)) = nI i) ∧ ∀ c, cSmall c = true → ∃ i, i < 26 ∧ M 58 0 i = c) := h.2.2.2.2.2.2.2.2.2.2.2.2.2.2.2.2
section NQ
variable {S M : NSt}
theorem nB.eonp (h : nB S M) : onp S = mnp M := by unfold onp mnp; rw [h.np]
theorem nB.eons (h : nB S M) : ons S = mns M := by unfold ons mns; rw [h.ns]
theorem nB.eonv (h : nB S M) : onv S = mnv M := by unfold onv mnv; rw [h.nv]
theorem nB.eona (h : nB S M) : ona S = mna M := by unfold ona mna; rw [h.na]
theorem nB.np12 (h : nB S M) : mnp M ≤ 12 := h.ok.2.1
theorem nB.ns150 (h : nB S M) : mns M ≤ 150 := h.ok.2.2.2.1
theorem nB.nv40 (h : nB S M) : mnv M ≤ 40 := h.ok.2.2.2.2.2.1
theorem nB.na5 (h : nB S M) : mna M ≤ 5 := h.ok.2.2.2.2.2.2.2.1
theorem nB.oOk (h : nB S M) : oOk S := by
  obtain ⟨g1, g2, g3, g4, g5, g6, g7, g8, g9, g10⟩ := h.ok
  refine ⟨?_, ?_, ?_, ?_, ?_, ?_, ?_, ?_, ?_, ?_⟩
  · rw [h.eonp, h.np]; exact g1
  · rw [h.eonp]; exact g2
  · rw [h.eons, h.ns]; exact g3
  · rw [h.eons]; exact g4
  · rw [h.eonv, h.nv]; exact g5
  · rw [h.eonv]; exact g6
  · rw [h.eona, h.na]; exact g7
  · rw [h.eona]; exact g8
  · intro k hk
    rw [h.eonp] at hk
    rw [(h.pa k hk).1]; exact g9 k hk
  · intro k hk
    rw [h.eons] at hk
    rw [(h.si k hk).1, (h.si k hk).2.1]; exact g10 k hk
theorem nB.opn (h : nB S M) : oOpen S = mOpen M := by unfold oOpen mOpen; rw [h.c0, h.c1]
theorem nB.gone (h : nB S M) {i : Nat} (hi : i < mnp M) : oGone S (nI i) = ib (S 0 0 8) i := by
  unfold oGone
  have := h.np12
  cases hb : ib (S 0 0 8) i with
  | false => rw [decide_eq_false (fun z => z ((ib_test (by omega)).mpr hb))]
  | true => exact decide_eq_true (fun z => by rw [(ib_test (by omega)).mp z] at hb; cases hb)
theorem nB.wd0 (h : nB S M) {i : Nat} (hi : i < mnp M) : decide (0 < M 46 0 i) = ib (S 0 0 8) i := by
  rcases h.wd i hi with ⟨a, b⟩ | ⟨a, b, -⟩ | ⟨a, b, -⟩ <;> rw [a, b] <;> decide
theorem mGone_ib (M : NSt) {i : Nat} (hi : i < 32) (w : Int32) : mGone M (nI i) w = (decide (0 < M 46 0 i) || ib w i) := by
  unfold mGone
  rw [nix_nI (by omega)]
  congr 1
  cases hb : ib w i with
  | false => exact decide_eq_false (fun z => by rw [(ib_shr1t hi).mp z] at hb; cases hb)
  | true => exact decide_eq_true ((ib_shr1t hi).mpr hb)
theorem nB.mgone (h : nB S M) {i : Nat} (hi : i < mnp M) (w : Int32) : mGone M (nI i) w = (ib (S 0 0 8) i || ib w i) := by
  have := h.np12
  rw [mGone_ib M (by omega), h.wd0 hi]
theorem mFree_iff {M : NSt} {v : Int32} {n : Nat} {w : Int32} : mFree M v n w = true ↔ ∀ s, s < n → M 54 0 s = v → ¬ M 55 0 s = 0 → mGone M (M 53 0 s) w = true := by
  unfold mFree
  rw [Bool.not_eq_true', ← Bool.not_eq_true, ffind_isSome]
  constructor
  · intro hn s hs h1 h2
    cases hg : mGone M (M 53 0 s) w with
    | true => rfl
    | false => exact absurd ⟨s, hs, by simp [h1, h2, hg]⟩ hn
  · rintro h ⟨s, hs, hp⟩
    simp only [Bool.and_eq_true, decide_eq_true_eq, Bool.not_eq_true', decide_eq_false_iff_not] at hp
    have := h s hs hp.1.1 hp.1.2
    rw [this] at hp
    exact absurd hp.2 (by decide)
/-- the signatures before k that block: the set is inside the withdrawn and w -/
theorem nB.free (h : nB S M) {v : Int32} {n : Nat} (hn : n ≤ mns M) (w : Int32) : mFree M v n w = true ↔ ∀ i, i < 32 → ib (mErl M v n) i = true → (ib (S 0 0 8) i || ib w i) = true := by
  have hp : ∀ s, s < n → vp_in (M 53 0 s) 12 := fun s hs => (h.ok.2.2.2.2.2.2.2.2.2 s (by omega)).1
  have hP : ∀ s, s < n → nix (M 53 0 s) < mnp M := fun s hs => vp_lt (h.si s (by omega)).2.2.2.2.1
  rw [mFree_iff]
  constructor
  · intro hf i hi hb
    obtain ⟨s, hs, h1, h2, h3⟩ := (ib_mErl hi hp).mp hb
    have := hf s hs h1 h2
    rw [vp_eq (hp s hs), h.mgone (hP s hs), h3] at this
    exact this
  · intro hf s hs h1 h2
    have h3 := hP s hs
    have h4 := h.np12
    rw [vp_eq (hp s hs), h.mgone h3]
    exact hf _ (by omega) ((ib_mErl (by omega) hp).mpr ⟨s, hs, h1, h2, rfl⟩)
theorem nB.blk0 (h : nB S M) {v : Int32} {n : Nat} (hn : n ≤ mns M) : (mErl M v n &&& (S 0 0 8 ^^^ -1)) = 0 ↔ mFree M v n 0 = true := by
  rw [h.free hn, ib_sub]
  simp only [ib_0, Bool.or_false]
theorem nB.vstr (h : nB S M) {i : Nat} (hi : i < mnv M) : S 6 i 1 = 0 ↔ ¬ M 41 0 i = 0 := by
  rcases (h.vo i hi).2.1 with ⟨a, b⟩ | ⟨a, b⟩ <;> rw [a, b] <;> decide
theorem nB.res (h : nB S M) {k : Nat} (hk : k < mns M) : oRes S k = mOres M k 0 := by
  obtain ⟨e0, e1, e2, e3, hp, hv⟩ := h.si k hk
  unfold oRes mOres
  rw [e0, e1, e2, e3]
  have hg : oGone S (M 53 0 k) = mGone M (M 53 0 k) 0 := by
    rw [vp_eq hp, h.gone (vp_lt hp), h.mgone (vp_lt hp), ib_0, Bool.or_false]
  rw [hg]
  by_cases hl : M 55 0 k = 0
  · rw [if_pos hl, if_pos hl]
  · rw [if_neg hl, if_neg hl]
    by_cases hs : M 41 0 (nix (M 54 0 k)) = 0
    · rw [if_pos hs, if_neg (fun z => (h.vstr (vp_lt hv)).mp z hs)]
      by_cases hz : mGone M (M 53 0 k) 0 = true
      · rw [if_pos hz, if_pos hz]
      · rw [if_neg hz, if_neg hz]
        by_cases hf : mFree M (M 54 0 k) k 0 = true
        · rw [if_pos hf, if_pos ((h.blk0 (Nat.le_of_lt hk)).mpr hf)]
        · rw [if_neg hf, if_neg (fun z => hf ((h.blk0 (Nat.le_of_lt hk)).mp z))]
    · rw [if_neg hs, if_pos ((h.vstr (vp_lt hv)).mpr hs)]
theorem mOres_0 {M : NSt} {k : Nat} {w : Int32} : mOres M k w = 0 ↔ ¬ M 55 0 k = 0 ∧ M 41 0 (nix (M 54 0 k)) = 0 ∧ mGone M (M 53 0 k) w = false ∧ mFree M (M 54 0 k) k w = true := by
  unfold mOres
  by_cases h1 : M 55 0 k = 0
  · rw [if_pos h1]; simp [h1]
  · rw [if_neg h1]
    by_cases h2 : M 41 0 (nix (M 54 0 k)) = 0
    · rw [if_pos h2]
      cases h3 : mGone M (M 53 0 k) w with
      | true => simp
      | false =>
        cases h4 : mFree M (M 54 0 k) k w with
        | true => simp [h1, h2]
        | false => simp
    · rw [if_neg h2]; simp [h2]
/-- the signatures of x that count with the papers of w withdrawn as well -/
def mCw (M : NSt) (x w : Int32) (n : Nat) : Int32 := isum (fun k => if M 53 0 k = x ∧ mOres M k w = 0 then 1 else 0) n
theorem ncmp0 {x : Int64} : ncmpL x 0 = 0 ↔ x = 0 := by
  unfold ncmpL
  by_cases h1 : (0 : Int64) < x
  · rw [if_pos h1]
    constructor
    · intro h; cases h
    · rintro rfl; exact absurd h1 (by decide)
  · rw [if_neg h1]
    by_cases h2 : x = 0
    · rw [if_pos h2]; simp [h2]
    · rw [if_neg h2]
      constructor
      · intro h; cases h
      · intro h; exact absurd h h2
theorem nB.cnt (h : nB S M) (x w : Int32) : ∀ n, n ≤ mns M → (mcs M x w n).1 = mCw M x w n ∧ ∀ v, v < 40 → (jb (mcs M x w n).2 v = true ↔ ∃ s, s < n ∧ ¬ M 55 0 s = 0 ∧ mGone M (M 53 0 s) w = false ∧ nix (M 54 0 s) = v) := by
  intro n
  induction n with
  | zero =>
    intro _
    refine ⟨rfl, fun v hv => ⟨fun z => ?_, ?_⟩⟩
    · rw [show (mcs M x w 0).2 = 0 from rfl, jb_0] at z; cases z
    · rintro ⟨s, hs, -⟩; exact absurd hs (Nat.not_lt_zero s)
  | succ n ih =>
    intro hn
    obtain ⟨i1, i2⟩ := ih (by omega)
    have hv4 := (h.ok.2.2.2.2.2.2.2.2.2 n (by omega)).2
    have hv := vp_lt hv4
    have hvi : ∀ s, s < n + 1 → vp_in (M 54 0 s) 40 := fun s hs => (h.ok.2.2.2.2.2.2.2.2.2 s (by omega)).2
    rw [mcs_s]
    by_cases hc : (!decide (M 55 0 n = 0) && !mGone M (M 53 0 n) w) = true
    · rw [if_pos hc]
      simp only [Bool.and_eq_true, Bool.not_eq_true', decide_eq_false_iff_not] at hc
      obtain ⟨hl, hg⟩ := hc
      have hseen : decide (ncmpL ((mcs M x w n).2 >>> ((M 54 0 n).toInt64 &&& 63) &&& 1) 0 = 0) = mFree M (M 54 0 n) n w := by
        have e1 : (ncmpL ((mcs M x w n).2 >>> ((M 54 0 n).toInt64 &&& 63) &&& 1) 0 = 0) ↔ jb (mcs M x w n).2 (nix (M 54 0 n)) = false := by
          rw [ncmp0]
          conv => lhs; rw [vp_eq hv4]
          exact jb_shr1f hv
        cases hf : mFree M (M 54 0 n) n w with
        | true =>
          refine decide_eq_true (e1.mpr ?_)
          cases hj : jb (mcs M x w n).2 (nix (M 54 0 n)) with
          | false => rfl
          | true =>
            obtain ⟨s, hs, h1, h2, h3⟩ := (i2 _ hv).mp hj
            have e2 : M 54 0 s = M 54 0 n := by rw [vp_eq (hvi s (by omega)), vp_eq hv4, h3]
            rw [mFree_iff.mp hf s hs e2 h1] at h2; cases h2
        | false =>
          refine decide_eq_false (fun z => ?_)
          have hj := e1.mp z
          have : mFree M (M 54 0 n) n w = true := mFree_iff.mpr (fun s hs h1 h2 => by
            cases hg2 : mGone M (M 53 0 s) w with
            | true => rfl
            | false => rw [(i2 _ hv).mpr ⟨s, hs, h2, hg2, by rw [h1]⟩] at hj; cases hj)
          rw [this] at hf; cases hf
      refine ⟨?_, fun v hv9 => ?_⟩
      · show (mcs M x w n).1 + _ = mCw M x w n + _
        rw [i1, hseen]
        congr 1
        show _ = (if M 53 0 n = x ∧ mOres M n w = 0 then (1 : Int32) else 0)
        by_cases hq : M 53 0 n = x ∧ mOres M n w = 0
        · rw [if_pos hq]
          obtain ⟨q1, q2⟩ := hq
          obtain ⟨-, q3, -, q5⟩ := mOres_0.mp q2
          rw [if_pos (by simp [q1, q3, q5])]
        · rw [if_neg hq, if_neg (fun z => ?_)]
          simp only [Bool.and_eq_true, decide_eq_true_eq] at z
          exact hq ⟨z.1.1, mOres_0.mpr ⟨hl, z.1.2, hg, z.2⟩⟩
      · show jb ((mcs M x w n).2 ||| 1 <<< ((M 54 0 n).toInt64 &&& 63)) v = true ↔ _
        rw [jb_or, Bool.or_eq_true, i2 v hv9]
        conv => lhs; rhs; rw [vp_eq hv4]
        rw [jb_one _ hv v (by omega), decide_eq_true_eq]
        constructor
        · rintro (⟨s, hs, r⟩ | r)
          · exact ⟨s, by omega, r⟩
          · exact ⟨n, by omega, hl, hg, r.symm⟩
        · rintro ⟨s, hs, r1, r2, r3⟩
          rcases Nat.lt_or_ge s n with q | q
          · exact Or.inl ⟨s, q, r1, r2, r3⟩
          · obtain rfl : s = n := by omega
            exact Or.inr r3.symm
    · rw [if_neg hc]
      have hno : ¬ (¬ M 55 0 n = 0 ∧ mGone M (M 53 0 n) w = false) := fun z => hc (by simp [z.1, z.2])
      refine ⟨?_, fun v hv9 => ?_⟩
      · show (mcs M x w n).1 = mCw M x w n + (if M 53 0 n = x ∧ mOres M n w = 0 then 1 else 0)
        rw [if_neg (fun z => hno ⟨(mOres_0.mp z.2).1, (mOres_0.mp z.2).2.2.1⟩), i1]
        exact (Int32.add_zero _).symm
      · rw [i2 v hv9]
        constructor
        · rintro ⟨s, hs, r⟩
          exact ⟨s, by omega, r⟩
        · rintro ⟨s, hs, r1, r2, r3⟩
          rcases Nat.lt_or_ge s n with q | q
          · exact ⟨s, q, r1, r2, r3⟩
          · obtain rfl : s = n := by omega
            exact absurd ⟨r1, r2⟩ hno
theorem nB.mcnt (h : nB S M) (x w : Int32) : mCnt M x w = mCw M x w (mns M) := (h.cnt x w (mns M) (Nat.le_refl _)).1
end NQ
