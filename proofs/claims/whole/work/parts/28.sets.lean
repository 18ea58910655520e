/-! The sets of papers. -/
theorem gth_sum (S : NSt) (x : Int32) (F : Int32 → Int32) : ∀ n, isum (fun j => F ((gth S x n).2 14 0 j)) (gth S x n).1 = isum (fun k => if gcond S x k = true then F (S 13 k 3 &&& (S 0 0 8 ^^^ -1)) else 0) n
  | 0 => rfl
  | n + 1 => by
    rw [isum_s, ← gth_sum S x F n]
    by_cases c : gcond S x n = true
    · have e : gth S x (n + 1) = ((gth S x n).1 + 1, nput (gth S x n).2 14 0 (gth S x n).1 (S 13 n 3 &&& (S 0 0 8 ^^^ -1))) := by show (if gcond S x n = true then _ else _) = _; rw [if_pos c]
      rw [e]
      show isum (fun j => F (nput (gth S x n).2 14 0 (gth S x n).1 _ 14 0 j)) (gth S x n).1 + F (nput (gth S x n).2 14 0 (gth S x n).1 _ 14 0 (gth S x n).1) = _
      rw [if_pos c]
      congr 1
      · refine isum_congr (fun j hj => ?_)
        unfold nput
        rw [if_neg (fun z => absurd z.2.1 (Nat.ne_of_lt hj))]
      · unfold nput
        rw [if_pos ⟨rfl, rfl, rfl⟩]
    · have e : gth S x (n + 1) = gth S x n := by show (if gcond S x n = true then _ else _) = _; rw [if_neg c]
      rw [e, if_neg c]
      exact (Int32.add_zero _).symm
theorem gth_ors (S : NSt) (x : Int32) (i : Nat) : ∀ n, ib (oAll (gth S x n).2 (gth S x n).1) i = true ↔ ∃ k, k < n ∧ gcond S x k = true ∧ ib (S 13 k 3 &&& (S 0 0 8 ^^^ -1)) i = true
  | 0 => by
    constructor
    · intro h; rw [show oAll (gth S x 0).2 (gth S x 0).1 = 0 from rfl, ib_0] at h; cases h
    · rintro ⟨k, hk, -⟩; exact absurd hk (Nat.not_lt_zero k)
  | n + 1 => by
    by_cases c : gcond S x n = true
    · have e : gth S x (n + 1) = ((gth S x n).1 + 1, nput (gth S x n).2 14 0 (gth S x n).1 (S 13 n 3 &&& (S 0 0 8 ^^^ -1))) := by show (if gcond S x n = true then _ else _) = _; rw [if_pos c]
      rw [e]
      have e2 : oAll (nput (gth S x n).2 14 0 (gth S x n).1 (S 13 n 3 &&& (S 0 0 8 ^^^ -1))) ((gth S x n).1 + 1) = oAll (gth S x n).2 (gth S x n).1 ||| (S 13 n 3 &&& (S 0 0 8 ^^^ -1)) := by
        show iors (fun k => nput (gth S x n).2 14 0 (gth S x n).1 (S 13 n 3 &&& (S 0 0 8 ^^^ -1)) 14 0 k) (gth S x n).1 ||| nput (gth S x n).2 14 0 (gth S x n).1 (S 13 n 3 &&& (S 0 0 8 ^^^ -1)) 14 0 (gth S x n).1 = _
        congr 1
        · refine iors_congr (fun j hj => ?_)
          unfold nput
          rw [if_neg (fun z => absurd z.2.1 (Nat.ne_of_lt hj))]
        · unfold nput
          rw [if_pos ⟨rfl, rfl, rfl⟩]
      show ib (oAll (nput (gth S x n).2 14 0 (gth S x n).1 (S 13 n 3 &&& (S 0 0 8 ^^^ -1))) ((gth S x n).1 + 1)) i = true ↔ _
      rw [e2, ib_or, Bool.or_eq_true, gth_ors S x i n]
      constructor
      · rintro (⟨k, hk, r⟩ | r)
        · exact ⟨k, by omega, r⟩
        · exact ⟨n, by omega, c, r⟩
      · rintro ⟨k, hk, r⟩
        rcases Nat.lt_or_ge k n with q | q
        · exact Or.inl ⟨k, q, r⟩
        · obtain rfl : k = n := by omega
          exact Or.inr r.2
    · have e : gth S x (n + 1) = gth S x n := by show (if gcond S x n = true then _ else _) = _; rw [if_neg c]
      rw [e, gth_ors S x i n]
      constructor
      · rintro ⟨k, hk, r⟩
        exact ⟨k, by omega, r⟩
      · rintro ⟨k, hk, r⟩
        rcases Nat.lt_or_ge k n with q | q
        · exact ⟨k, q, r⟩
        · obtain rfl : k = n := by omega
          exact absurd r.1 c
section NQ
variable {S M : NSt} {x : Int32}
theorem nB.gc (h : nB S M) (hx : vp_in x (mnp M)) (hg : oGone S x = false) {t : Int32} (ht : ib t (nix x) = false) {k : Nat} (hk : k < mns M) : (gcond S x k = true ∧ ((S 13 k 3 &&& (S 0 0 8 ^^^ -1)) &&& (t ^^^ -1)) = 0) ↔ (M 53 0 k = x ∧ mOres M k t = 0) := by
  obtain ⟨e0, e1, e2, e3, hp, hv⟩ := h.si k hk
  have hl := vp_lt hx
  have h12 := h.np12
  have hg2 : ib (S 0 0 8) (nix x) = false := by rw [← h.gone hl, ← vp_eq hx]; exact hg
  have hm : mGone M x t = false := by rw [vp_eq hx, h.mgone hl, hg2, ht]; rfl
  rw [e3, h.blk (Nat.le_of_lt hk), mOres_0]
  unfold gcond
  rw [e0, e1, e2, e3]
  simp only [Bool.and_eq_true, decide_eq_true_eq, Bool.not_eq_true', decide_eq_false_iff_not]
  have hs := h.vstr (vp_lt hv)
  constructor
  · rintro ⟨⟨⟨⟨a1, a2⟩, a3⟩, a4⟩, a5⟩
    refine ⟨a1, a2, ?_, ?_, a5⟩
    · apply Classical.byContradiction
      intro hc; exact a3 (hs.mpr hc)
    · rw [a1]; exact hm
  · rintro ⟨a1, a2, a3, a4, a5⟩
    refine ⟨⟨⟨⟨a1, a2⟩, fun z => hs.mp z a3⟩, ?_⟩, a5⟩
    conv => lhs; rhs; rw [vp_eq hx]
    rw [ib_test (by omega)]
    cases hb : ib (mErl M (M 54 0 k) k) (nix x) with
    | false => rfl
    | true =>
      have := (h.free (Nat.le_of_lt hk) t).mp a5 (nix x) (by omega) hb
      rw [hg2, ht] at this; cases this
theorem nB.ocw (h : nB S M) (hx : vp_in x (mnp M)) (hg : oGone S x = false) {t : Int32} (ht : ib t (nix x) = false) : oCw (oG S x).2 t (oG S x).1 = mCnt M x t := by
  rw [h.mcnt]
  unfold oCw oG
  rw [gth_sum S x (fun z => if (z &&& (t ^^^ -1)) = 0 then 1 else 0), h.eons]
  unfold mCw
  refine isum_congr (fun k hk => ?_)
  have := h.gc hx hg ht hk
  by_cases c : M 53 0 k = x ∧ mOres M k t = 0
  · obtain ⟨c1, c2⟩ := this.mpr c
    rw [if_pos c, if_pos c1, if_pos c2]
  · rw [if_neg c]
    by_cases c1 : gcond S x k = true
    · rw [if_pos c1, if_neg (fun z => c (this.mp ⟨c1, z⟩))]
    · rw [if_neg c1]
theorem nB.freed (h : nB S M) {z : Int32} (hx : vp_in x (mnp M)) (hz : vp_in z (mnp M)) (hne : ¬ x = z) (hg : oGone S x = false) : oFreed S x z = mCnt M x (1 <<< (z &&& 31)) - mCnt M x 0 := by
  have h12 := h.np12
  have h1 := vp_lt hx
  have h2 := vp_lt hz
  unfold oFreed
  have e1 : ib (1 <<< (z &&& 31)) (nix x) = false := by
    rw [vp_eq hz, ib_one _ (by omega) _ (by omega)]
    refine decide_eq_false (fun q => hne ?_)
    rw [vp_eq hx, vp_eq hz, q]
  rw [show oCw (gth S x (ons S)).2 (1 <<< (z &&& 31)) (gth S x (ons S)).1 = _ from h.ocw hx hg e1, show oCw (gth S x (ons S)).2 0 (gth S x (ons S)).1 = _ from h.ocw hx hg (ib_0 _)]
theorem nI_toNat (u : Int32) : nI u.toBitVec.toNat = u := by
  apply Int32.toBitVec_inj.mp
  apply BitVec.eq_of_toNat_eq
  show (BitVec.ofNat 32 u.toBitVec.toNat).toNat = _
  rw [BitVec.toNat_ofNat]
  exact Nat.mod_eq_of_lt u.toBitVec.isLt
theorem ib_nI (n : Nat) {i : Nat} (hi : i < 32) : ib (nI n) i = n.testBit i := by
  show (BitVec.ofNat 32 n).getLsbD i = _
  rw [BitVec.getLsbD_ofNat]
  simp [hi]
theorem ib_small {u : Int32} {n : Nat} (hn : n ≤ 31) (h : ∀ i, n ≤ i → i < 32 → ib u i = false) : u = nI (nix u) ∧ nix u < 2 ^ n := by
  have h1 : u.toBitVec.toNat < 2 ^ n := by
    apply Nat.lt_pow_two_of_testBit
    intro i hi
    by_cases h32 : i < 32
    · exact h i hi h32
    · exact BitVec.getLsbD_of_ge _ _ (by omega)
  have h2 : u.toBitVec.toNat < 2 ^ 31 := Nat.lt_of_lt_of_le h1 (Nat.pow_le_pow_right (by decide) hn)
  have h3 : nix u = u.toBitVec.toNat := by
    conv => lhs; rw [← nI_toNat u]
    exact nix_nI h2
  rw [h3]
  exact ⟨(nI_toNat u).symm, h1⟩
theorem nB.use (h : nB S M) (hx : vp_in x (mnp M)) : (oUse S x = nI (nix (oUse S x)) ∧ nix (oUse S x) < 2 ^ mnp M) ∧ ib (oUse S x) (nix x) = false := by
  have h12 := h.np12
  have hl := vp_lt hx
  refine ⟨ib_small (by omega) (fun i h1 h2 => ?_), ?_⟩
  · cases hb : ib (oUse S x) i with
    | false => rfl
    | true =>
      obtain ⟨k, hk, -, hc⟩ := (gth_ors S x i _).mp hb
      rw [h.eons] at hk
      obtain ⟨-, -, -, e3, -⟩ := h.si k hk
      rw [ib_and, Bool.and_eq_true, e3] at hc
      obtain ⟨s, hs, -, -, q⟩ := (ib_mErl h2 (fun s hs => (h.ok.2.2.2.2.2.2.2.2.2 s (by omega)).1)).mp hc.1
      have := vp_lt (h.si s (by omega)).2.2.2.2.1
      omega
  · cases hb : ib (oUse S x) (nix x) with
    | false => rfl
    | true =>
      obtain ⟨k, hk, hg, hc⟩ := (gth_ors S x (nix x) _).mp hb
      unfold gcond at hg
      simp only [Bool.and_eq_true, decide_eq_true_eq] at hg
      have h5 := hg.2
      conv at h5 => lhs; rhs; rw [vp_eq hx]
      rw [ib_test (by omega)] at h5
      rw [ib_and, h5] at hc
      cases hc
/-- how many bits a set has -/
def pcf : Nat → Nat → Nat
  | 0, _ => 0
  | f + 1, k => k % 2 + pcf f (k / 2)
theorem pcf_le : ∀ (f n u : Nat), pcf f (n &&& u) ≤ pcf f n ∧ (pcf f (n &&& u) = pcf f n → ∀ i, i < f → n.testBit i = true → u.testBit i = true)
  | 0, _, _ => ⟨Nat.le_refl _, fun _ i hi => absurd hi (Nat.not_lt_zero i)⟩
  | f + 1, n, u => by
    obtain ⟨i1, i2⟩ := pcf_le f (n / 2) (u / 2)
    have e1 : (n &&& u) / 2 = (n / 2) &&& (u / 2) := Nat.and_div_two
    have t0 : ∀ m : Nat, m.testBit 0 = decide (m % 2 = 1) := fun m => Nat.testBit_zero m
    have e2 : (n &&& u) % 2 ≤ n % 2 ∧ ((n &&& u) % 2 = n % 2 → n % 2 = 1 → u % 2 = 1) := by
      have := Nat.testBit_and n u 0
      rw [t0, t0, t0] at this
      have a1 := Nat.mod_two_eq_zero_or_one (n &&& u)
      have a2 := Nat.mod_two_eq_zero_or_one n
      have a3 := Nat.mod_two_eq_zero_or_one u
      rcases a1 with a1 | a1 <;> rcases a2 with a2 | a2 <;> rcases a3 with a3 | a3 <;> rw [a1, a2, a3] at this <;> first | (exfalso; revert this; decide) | exact ⟨by omega, fun _ _ => by omega⟩
    have h1 : pcf (f + 1) (n &&& u) = (n &&& u) % 2 + pcf f ((n / 2) &&& (u / 2)) := by show _ + pcf f ((n &&& u) / 2) = _; rw [e1]
    have h2 : pcf (f + 1) n = n % 2 + pcf f (n / 2) := rfl
    rw [h1, h2]
    refine ⟨by omega, fun he i hi hb => ?_⟩
    cases i with
    | zero =>
      rw [t0] at hb ⊢
      exact decide_eq_true (e2.2 (by omega) (of_decide_eq_true hb))
    | succ i =>
      rw [Nat.testBit_succ] at hb ⊢
      exact i2 (by omega) i (by omega) hb
theorem mbf_pcf : ∀ (f n : Nat), mbf f n = nI (pcf f n)
  | 0, _ => rfl
  | f + 1, n => by
    show nI (n % 2) + mbf f (n / 2) = nI (n % 2 + pcf f (n / 2))
    rw [mbf_pcf f, nI_add]
set_option maxRecDepth 100000 in
theorem ibc_pcf : ∀ n, n < 4096 → ibc (nI n) = nI (pcf 31 n) ∧ pcf 31 n ≤ 12 := by decide +kernel
/-- the first of the smallest among the sets below N with Q -/
def nBest (Q : Nat → Prop) (N : Nat) (r : Int32) : Prop := (r = -1 ∧ ∀ n, n < N → ¬ Q n) ∨ ∃ b, r = nI b ∧ b < N ∧ Q b ∧ ∀ n, n < N → Q n → pcf 31 b < pcf 31 n ∨ (pcf 31 b = pcf 31 n ∧ b ≤ n)
theorem nBest_s {Q : Nat → Prop} {N : Nat} {r : Int32} (h : nBest Q N r) (hN : N < 4096) {b : Bool} (hb : b = true ↔ Q N ∧ (r = -1 ∨ pcf 31 N < pcf 31 (nix r))) : nBest Q (N + 1) (if b = true then nI N else r) := by
  by_cases c : b = true
  · rw [if_pos c]
    obtain ⟨c1, c2⟩ := hb.mp c
    refine Or.inr ⟨N, rfl, Nat.lt_succ_self N, c1, fun n hn hq => ?_⟩
    rcases Nat.lt_or_ge n N with q | q
    · rcases h with ⟨h1, h2⟩ | ⟨d, h1, h2, h3, h4⟩
      · exact absurd hq (h2 n q)
      · left
        rcases c2 with c2 | c2
        · rw [h1] at c2; exact absurd c2 (i32_m1 (by omega))
        · rw [h1, nix_nI (by omega)] at c2
          rcases h4 n q hq with h5 | h5 <;> omega
    · obtain rfl : n = N := by omega
      exact Or.inr ⟨rfl, Nat.le_refl _⟩
  · rw [if_neg c]
    rcases h with ⟨h1, h2⟩ | ⟨d, h1, h2, h3, h4⟩
    · refine Or.inl ⟨h1, fun n hn hq => ?_⟩
      rcases Nat.lt_or_ge n N with q | q
      · exact h2 n q hq
      · obtain rfl : n = N := by omega
        exact c (hb.mpr ⟨hq, Or.inl h1⟩)
    · refine Or.inr ⟨d, h1, by omega, h3, fun n hn hq => ?_⟩
      rcases Nat.lt_or_ge n N with q | q
      · exact h4 n q hq
      · obtain rfl : n = N := by omega
        have : ¬ pcf 31 n < pcf 31 d := fun z => c (hb.mpr ⟨hq, Or.inr (by rw [h1, nix_nI (by omega)]; exact z)⟩)
        omega
theorem nI_ltI2 {a b : Nat} (ha : a < 2 ^ 31) (hb : b < 2 ^ 31) : nI a < nI b ↔ a < b := nI_ltI ha hb
theorem mfw_best (T : NSt) {x : Int32} {p : Nat} (hx : x = nI p) (hp : p < 12) : ∀ N, N ≤ 4096 → nBest (fun n => n.testBit p = false ∧ T 36 0 (nix (T 43 0 (nix x))) ≤ mCnt T x (nI n)) N (mfw T x N) := by
  intro N
  induction N with
  | zero => intro _; exact Or.inl ⟨rfl, fun n hn => absurd hn (Nat.not_lt_zero n)⟩
  | succ N ih =>
    intro hN
    refine nBest_s (ih (by omega)) (by omega) ?_
    rw [Bool.and_eq_true, Bool.and_eq_true, decide_eq_true_eq, decide_eq_true_eq, Bool.or_eq_true, decide_eq_true_eq, decide_eq_true_eq]
    have e1 : (nI N >>> (x &&& 31) &&& 1) = 0 ↔ N.testBit p = false := by rw [hx, ib_shr1f (by omega), ib_nI N (by omega)]
    rw [e1]
    have e2 : (mfw T x N < 0 ∨ mbf 31 N < mbf 31 (nix (mfw T x N))) ↔ (mfw T x N = -1 ∨ pcf 31 N < pcf 31 (nix (mfw T x N))) := by
      rcases ih (by omega) with ⟨h1, -⟩ | ⟨d, h1, h2, -⟩
      · rw [h1]; exact ⟨fun _ => Or.inl rfl, fun _ => Or.inl (by decide)⟩
      · have a1 := (ibc_pcf N (by omega)).2
        have a2 := (ibc_pcf d (by omega)).2
        rw [h1, nix_nI (by omega), mbf_pcf, mbf_pcf, nI_ltI (by omega) (by omega)]
        exact ⟨fun z => z.elim (fun z => absurd z (nI_pos (by omega))) Or.inr, fun z => z.elim (fun z => absurd z (i32_m1 (by omega))) Or.inr⟩
    rw [e2]
    exact ⟨fun ⟨⟨a, b⟩, c⟩ => ⟨⟨a, c⟩, b⟩, fun ⟨⟨a, c⟩, b⟩ => ⟨⟨a, b⟩, c⟩⟩
theorem ssv_best (need : Int32) (T : NSt) (cnt : Nat) (u : Int32) : ∀ N, N ≤ 4096 → nBest (fun n => (nI n &&& (u ^^^ -1)) = 0 ∧ need ≤ oCw T (nI n) cnt) N (ssv need T cnt u N).1 ∧ (((ssv need T cnt u N).1 = -1 ∧ (ssv need T cnt u N).2 = 13) ∨ ∃ d, d < N ∧ (ssv need T cnt u N).1 = nI d ∧ (ssv need T cnt u N).2 = nI (pcf 31 d)) := by
  intro N
  induction N with
  | zero => intro _; exact ⟨Or.inl ⟨rfl, fun n hn => absurd hn (Nat.not_lt_zero n)⟩, Or.inl ⟨rfl, rfl⟩⟩
  | succ N ih =>
    intro hN
    obtain ⟨i1, i2⟩ := ih (by omega)
    obtain ⟨a0, a1⟩ := ibc_pcf N (by omega)
    rw [ssv_s]
    have hb : (decide ((nI N &&& (u ^^^ -1)) = 0) && decide (ibc (nI N) < (ssv need T cnt u N).2) && decide (need ≤ oCw T (nI N) cnt)) = true ↔ ((nI N &&& (u ^^^ -1)) = 0 ∧ need ≤ oCw T (nI N) cnt) ∧ ((ssv need T cnt u N).1 = -1 ∨ pcf 31 N < pcf 31 (nix (ssv need T cnt u N).1)) := by
      rw [Bool.and_eq_true, Bool.and_eq_true, decide_eq_true_eq, decide_eq_true_eq, decide_eq_true_eq, a0]
      have e2 : nI (pcf 31 N) < (ssv need T cnt u N).2 ↔ ((ssv need T cnt u N).1 = -1 ∨ pcf 31 N < pcf 31 (nix (ssv need T cnt u N).1)) := by
        rcases i2 with ⟨h1, h2⟩ | ⟨d, hd, h1, h2⟩
        · rw [h1, h2]
          exact ⟨fun _ => Or.inl rfl, fun _ => by rw [show (13 : Int32) = nI 13 from rfl, nI_ltI (by omega) (by omega)]; omega⟩
        · have a2 := (ibc_pcf d (by omega)).2
          rw [h1, h2, nix_nI (by omega), nI_ltI (by omega) (by omega)]
          exact ⟨Or.inr, fun z => z.elim (fun z => absurd z (i32_m1 (by omega))) id⟩
      rw [e2]
      exact ⟨fun ⟨⟨a, b⟩, c⟩ => ⟨⟨a, c⟩, b⟩, fun ⟨⟨a, c⟩, b⟩ => ⟨⟨a, b⟩, c⟩⟩
    have h3 := nBest_s i1 (by omega) hb
    by_cases c : (decide ((nI N &&& (u ^^^ -1)) = 0) && decide (ibc (nI N) < (ssv need T cnt u N).2) && decide (need ≤ oCw T (nI N) cnt)) = true
    · rw [if_pos c] at h3 ⊢
      exact ⟨h3, Or.inr ⟨N, Nat.lt_succ_self N, rfl, a0⟩⟩
    · rw [if_neg c] at h3 ⊢
      exact ⟨h3, i2.elim Or.inl (fun ⟨d, hd, q⟩ => Or.inr ⟨d, by omega, q⟩)⟩
theorem nB.small (h : nB S M) (hx : vp_in x (mnp M)) (hg : oGone S x = false) : oSmall S x = mfw M x (2 ^ mnp M) := by
  have h12 := h.np12
  have hl := vp_lt hx
  have hp := h.pa _ hl
  have hN : 2 ^ mnp M ≤ 4096 := Nat.pow_le_pow_right (by decide) h12
  obtain ⟨⟨u1, u2⟩, u3⟩ := h.use hx
  unfold oSmall
  have hm := mfw_best M (vp_eq hx) (by omega) (2 ^ mnp M) hN
  have hs := (ssv_best (S 4 (nix (S 11 (nix x) 0)) 0) (oG S x).2 (oG S x).1 (oUse S x) (nix (oUse S x) + 1) (by omega)).1
  generalize (ssv (S 4 (nix (S 11 (nix x) 0)) 0) (oG S x).2 (oG S x).1 (oUse S x) (nix (oUse S x) + 1)).1 = r at hs ⊢
  generalize mfw M x (2 ^ mnp M) = q at hm ⊢
  obtain ⟨U, hU⟩ : ∃ U, U = nix (oUse S x) := ⟨_, rfl⟩
  rw [← hU] at u1 u2 hs
  rw [hp.1, (h.ar _ (vp_lt hp.2.2.2.2.2.2.2)).1] at hs
  have hsub : ∀ n, (nI n &&& (oUse S x ^^^ -1)) = 0 ↔ ∀ i, i < 32 → n.testBit i = true → U.testBit i = true := by
    intro n
    rw [ib_sub]
    constructor
    · intro z i hi hb
      have := z i hi (by rw [ib_nI n hi]; exact hb)
      rwa [u1, ib_nI U hi] at this
    · intro z i hi hb
      rw [ib_nI n hi] at hb
      rw [u1, ib_nI U hi]; exact z i hi hb
  have hUx : U.testBit (nix x) = false := by rw [u1, ib_nI U (by omega)] at u3; exact u3
  have hcw : ∀ n, n.testBit (nix x) = false → oCw (oG S x).2 (nI n) (oG S x).1 = mCnt M x (nI n) := fun n hn => h.ocw hx hg (by rw [ib_nI n (by omega)]; exact hn)
  have hcap : ∀ n, oCw (oG S x).2 (nI (n &&& U)) (oG S x).1 = oCw (oG S x).2 (nI n) (oG S x).1 := by
    intro n
    unfold oCw oG
    rw [gth_sum S x (fun z => if (z &&& (nI (n &&& U) ^^^ -1)) = 0 then 1 else 0), gth_sum S x (fun z => if (z &&& (nI n ^^^ -1)) = 0 then 1 else 0)]
    refine isum_congr (fun k hk => ?_)
    by_cases c : gcond S x k = true
    · rw [if_pos c, if_pos c]
      have e : ((S 13 k 3 &&& (S 0 0 8 ^^^ -1)) &&& (nI (n &&& U) ^^^ -1)) = 0 ↔ ((S 13 k 3 &&& (S 0 0 8 ^^^ -1)) &&& (nI n ^^^ -1)) = 0 := by
        rw [ib_sub, ib_sub]
        constructor
        · intro z i hi hb
          have := z i hi hb
          rw [ib_nI _ hi, Nat.testBit_and, Bool.and_eq_true] at this
          rw [ib_nI _ hi]; exact this.1
        · intro z i hi hb
          have := z i hi hb
          rw [ib_nI _ hi] at this
          rw [ib_nI _ hi, Nat.testBit_and, this, Bool.true_and]
          have hb2 : ib (oUse S x) i = true := (gth_ors S x i _).mpr ⟨k, hk, c, hb⟩
          rw [u1, ib_nI U hi] at hb2
          exact hb2
      by_cases d : ((S 13 k 3 &&& (S 0 0 8 ^^^ -1)) &&& (nI n ^^^ -1)) = 0
      · rw [if_pos d, if_pos (e.mpr d)]
      · rw [if_neg d, if_neg (fun z => d (e.mp z))]
    · rw [if_neg c, if_neg c]
  -- a set with enough stays so when it is cut to the useful ones
  have hcut : ∀ n, n < 2 ^ mnp M → (n.testBit (nix x) = false ∧ M 36 0 (nix (M 43 0 (nix x))) ≤ mCnt M x (nI n)) → (n &&& U) < U + 1 ∧ ((nI (n &&& U) &&& (oUse S x ^^^ -1)) = 0 ∧ M 36 0 (nix (M 43 0 (nix x))) ≤ oCw (oG S x).2 (nI (n &&& U)) (oG S x).1) := by
    intro n hn hq
    refine ⟨Nat.lt_succ_of_le Nat.and_le_right, (hsub _).mpr (fun i hi hb => ?_), ?_⟩
    · rw [Nat.testBit_and, Bool.and_eq_true] at hb; exact hb.2
    · rw [hcap, hcw n hq.1]; exact hq.2
  have hback : ∀ n, n < U + 1 → ((nI n &&& (oUse S x ^^^ -1)) = 0 ∧ M 36 0 (nix (M 43 0 (nix x))) ≤ oCw (oG S x).2 (nI n) (oG S x).1) → n < 2 ^ mnp M ∧ (n.testBit (nix x) = false ∧ M 36 0 (nix (M 43 0 (nix x))) ≤ mCnt M x (nI n)) := by
    intro n hn hq
    have h1 : n.testBit (nix x) = false := by
      cases hb : n.testBit (nix x) with
      | false => rfl
      | true => rw [(hsub n).mp hq.1 _ (by omega) hb] at hUx; cases hUx
    refine ⟨by omega, h1, ?_⟩
    rw [← hcw n h1]; exact hq.2
  rcases hm with ⟨m1, m2⟩ | ⟨b, m1, m2, m3, m4⟩
  · rcases hs with ⟨s1, s2⟩ | ⟨d, s1, s2, s3, s4⟩
    · rw [m1, s1]
    · obtain ⟨z1, z2⟩ := hback d s2 s3
      exact absurd z2 (m2 d z1)
  · obtain ⟨c1, c2⟩ := hcut b m2 m3
    obtain ⟨p1, p2⟩ := pcf_le 31 b U
    obtain ⟨d1, d2⟩ := hback _ c1 c2
    have e1 : pcf 31 (b &&& U) = pcf 31 b := by
      rcases m4 _ d1 d2 with q | q <;> omega
    have hbU : ∀ i, i < 31 → b.testBit i = true → U.testBit i = true := p2 e1
    have hb12 : b < 2 ^ 31 := by omega
    have hbU2 : b &&& U = b := by
      apply Nat.eq_of_testBit_eq
      intro i
      rw [Nat.testBit_and]
      cases hb : b.testBit i with
      | false => rfl
      | true =>
        by_cases hi : i < 31
        · rw [hbU i hi hb]; rfl
        · have : b < 2 ^ i := Nat.lt_of_lt_of_le hb12 (Nat.pow_le_pow_right (by decide) (by omega))
          rw [Nat.testBit_lt_two_pow this] at hb; cases hb
    rw [hbU2] at c1 c2
    rcases hs with ⟨s1, s2⟩ | ⟨d, s1, s2, s3, s4⟩
    · exact absurd c2 (s2 b c1)
    · obtain ⟨z1, z2⟩ := hback d s2 s3
      have f1 := s4 b c1 c2
      have f2 := m4 d z1 z2
      have : b = d := by omega
      rw [m1, s1, this]
end NQ
