/-! Names and the order of the letters. -/
theorem ib_255 : ∀ i, i < 32 → ib 255 i = decide (i < 8) := by decide +kernel
theorem ib_shl (x : Int32) {s i : Nat} (hs : s < 32) (hi : i < 32) : ib (x <<< (nI s &&& 31)) i = (decide (s ≤ i) && ib x (i - s)) := by
  unfold ib
  rw [Int32.toBitVec_shiftLeft]
  show (x.toBitVec <<< ((nI s &&& 31).toBitVec.smod 32#32).toNat).getLsbD i = _
  rw [ib_amt s hs, BitVec.getLsbD_shiftLeft]
  by_cases c : s ≤ i
  · simp [hi, c, Nat.not_lt.mpr c]
  · simp [hi, c, Nat.not_le.mp c]
theorem ib_shrk (x : Int32) {s i : Nat} (hs : s < 32) (hi : s + i < 32) : ib (x >>> (nI s &&& 31)) i = ib x (s + i) := by
  unfold ib
  rw [Int32.toBitVec_shiftRight]
  show (BitVec.sshiftRight x.toBitVec ((nI s &&& 31).toBitVec.smod 32#32).toNat).getLsbD i = _
  rw [ib_amt s hs, BitVec.getLsbD_sshiftRight]
  simp [hi, show ¬ 32 ≤ i by omega]
theorem chr_bits {c : Int32} (h : cSmall c = true ∨ c = 32) : ∀ i, 7 ≤ i → i < 32 → ib c i = false := by
  have : ∃ j, j < 128 ∧ c = nI j := by
    rcases h with h | h
    · obtain ⟨j, hj, e⟩ := small_of h
      exact ⟨97 + j, by omega, e⟩
    · exact ⟨32, by decide, h⟩
  obtain ⟨j, hj, rfl⟩ := this
  intro i hi h32
  rw [ib_nI j h32]
  exact Nat.testBit_lt_two_pow (Nat.lt_of_lt_of_le hj (Nat.pow_le_pow_right (by decide) hi : 2 ^ 7 ≤ 2 ^ i))
theorem nm_chr {a b c d : Int32} (h : nmOk a b c d = true) : (cSmall a = true ∨ a = 32) ∧ (cSmall b = true ∨ b = 32) ∧ (cSmall c = true ∨ c = 32) ∧ (cSmall d = true ∨ d = 32) := by
  unfold nmOk cFollow at h
  simp only [Bool.and_eq_true, Bool.or_eq_true, decide_eq_true_eq] at h
  obtain ⟨⟨⟨h1, h2⟩, h3⟩, h4⟩ := h
  exact ⟨Or.inl h1, h2.elim Or.inr (fun q => Or.inl q.2), h3.elim Or.inr (fun q => Or.inl q.2), h4.elim Or.inr (fun q => Or.inl q.2)⟩
theorem chr_nar {c : Int32} (h : cSmall c = true ∨ c = 32) : (c.toUInt32 % 65536).toInt32 = c := by
  rcases h with h | h
  · exact nar_small h
  · rw [h]; decide
/-- the characters come out of a packed name as they went in -/
theorem chr_of {a b c d : Int32} (h : nmOk a b c d = true) : cChar (cName a b c d) 0 = a ∧ cChar (cName a b c d) 1 = b ∧ cChar (cName a b c d) 2 = c ∧ cChar (cName a b c d) 3 = d := by
  obtain ⟨ha, hb, hc, hd⟩ := nm_chr h
  have key : ∀ i, i < 32 → ib (cName a b c d) i = ((decide (24 ≤ i) && ib a (i - 24)) || (decide (16 ≤ i) && ib b (i - 16)) || (decide (8 ≤ i) && ib c (i - 8)) || ib d i) := by
    intro i hi
    unfold cName
    rw [ib_or, ib_or, ib_or, show (24 : Int32) &&& 31 = nI 24 &&& 31 from rfl, show (16 : Int32) &&& 31 = nI 16 &&& 31 from rfl, show (8 : Int32) &&& 31 = nI 8 &&& 31 from rfl, ib_shl a (by decide) hi, ib_shl b (by decide) hi, ib_shl c (by decide) hi]
  have ext : ∀ (s : Nat) (z : Int32), s ≤ 24 → (cSmall z = true ∨ z = 32) → (∀ i, i < 8 → ib (cName a b c d) (s + i) = ib z i) → ((((cName a b c d) >>> (nI s &&& 31)) &&& 255).toUInt32 % 65536).toInt32 = z := by
    intro s z hs hz hi
    have e : ((cName a b c d) >>> (nI s &&& 31)) &&& 255 = z := by
      refine ib_ext (fun i h32 => ?_)
      rw [ib_and, ib_255 i h32]
      by_cases c8 : i < 8
      · rw [ib_shrk _ (by omega) (by omega), hi i c8, decide_eq_true c8, Bool.and_true]
      · rw [decide_eq_false c8, Bool.and_false, chr_bits hz i (by omega) h32]
    rw [e]; exact chr_nar hz
  have A := chr_bits ha
  have B := chr_bits hb
  have C := chr_bits hc
  have D := chr_bits hd
  refine ⟨ext 24 a (by decide) ha (fun i hi => ?_), ext 16 b (by decide) hb (fun i hi => ?_), ext 8 c (by decide) hc (fun i hi => ?_), ext 0 d (by decide) hd (fun i hi => ?_)⟩
  · rw [key _ (by omega), decide_eq_true (show 24 ≤ 24 + i by omega), show 24 + i - 24 = i by omega, B (24 + i - 16) (by omega) (by omega), C (24 + i - 8) (by omega) (by omega), D (24 + i) (by omega) (by omega)]
    simp
  · rw [key _ (by omega), decide_eq_true (show 16 ≤ 16 + i by omega), show 16 + i - 16 = i by omega, C (16 + i - 8) (by omega) (by omega), D (16 + i) (by omega) (by omega), decide_eq_false (show ¬ 24 ≤ 16 + i by omega)]
    simp
  · rw [key _ (by omega), decide_eq_true (show 8 ≤ 8 + i by omega), show 8 + i - 8 = i by omega, D (8 + i) (by omega) (by omega), decide_eq_false (show ¬ 24 ≤ 8 + i by omega), decide_eq_false (show ¬ 16 ≤ 8 + i by omega)]
    simp
  · rw [key _ (by omega), Nat.zero_add, decide_eq_false (show ¬ 24 ≤ i by omega), decide_eq_false (show ¬ 16 ≤ i by omega), decide_eq_false (show ¬ 8 ≤ i by omega)]
    simp
section NS
variable {hc : Nat → Int32} {X : NWd} {M T S : NSt} {n : Nat}
theorem nB.chr (h : nB S T) {x : Int32} (hx : vp_in x (mnp T)) : ∀ r, r < 4 → cChar (S 11 (nix x) 2) (nI r) = T 45 0 (4 * nix x + r) ∧ (cSmall (T 45 0 (4 * nix x + r)) = true ∨ T 45 0 (4 * nix x + r) = 32) := by
  obtain ⟨e, hk⟩ := h.nm _ (vp_lt hx)
  obtain ⟨c0, c1, c2, c3⟩ := chr_of hk
  obtain ⟨k0, k1, k2, k3⟩ := nm_chr hk
  intro r hr
  rw [e]
  match r, hr with
  | 0, _ => exact ⟨c0, k0⟩
  | 1, _ => exact ⟨c1, k1⟩
  | 2, _ => exact ⟨c2, k2⟩
  | 3, _ => exact ⟨c3, k3⟩
theorem ix4 {x : Int32} {p : Nat} (hx : vp_in x p) (hp : p ≤ 12) {r : Nat} (hr : r < 4) : nix (4 * x + nI r) = 4 * nix x + r := by
  have hl := vp_lt hx
  have e := vp_eq hx
  obtain ⟨j, hj⟩ : ∃ j, j = nix x := ⟨_, rfl⟩
  rw [← hj] at e hl ⊢
  rw [e, show (4 : Int32) = nI 4 from rfl]
  have hm : nI 4 * nI j = nI (4 * j) := by
    have : ∀ j, j < 12 → nI 4 * nI j = nI (4 * j) := by decide
    exact this j (by omega)
  rw [hm, nI_add, nix_nI (by omega)]
/-- the place of a character among the letters, and 0 for the blank -/
def nDg (T : NSt) (c : Int32) : Nat := if cSmall c then nix (mrk T c) + 1 else 0
theorem nB.dg (h : nB S T) (hd : ¬ T 30 0 27 = 0) {c : Int32} (hk : cSmall c = true ∨ c = 32) : nDg T c ≤ 26 ∧ mrk T c + 1 = nI (nDg T c) ∧ (if cSmall c = true then S 9 0 (nix (c - 97)) + 1 else 0) = nI (nDg T c) := by
  obtain ⟨l1, l2⟩ := h.le.2 hd
  unfold nDg
  rcases hk with hk | hk
  · obtain ⟨i, hi, e⟩ := l2 c hk
    have hm : mrk T c = nI i := by
      unfold mrk
      cases hf : ffind (fun k => decide (T 58 0 k = c)) 26 with
      | none => exact absurd (ffind_none.mp hf i hi) (by rw [decide_eq_true e]; decide)
      | some k =>
        have h0 : ∀ n m, ffind (fun k => decide (T 58 0 k = c)) n = some m → m < n ∧ T 58 0 m = c := by
          intro n
          induction n with
          | zero => intro m h; cases h
          | succ n ih =>
            intro m h9
            cases hf : ffind (fun k => decide (T 58 0 k = c)) n with
            | some q => simp [ffind, hf] at h9; subst h9; exact ⟨Nat.lt_succ_of_lt (ih q hf).1, (ih q hf).2⟩
            | none =>
              rw [ffind_s hf] at h9
              split at h9
              · cases h9; exact ⟨Nat.lt_succ_self n, by rename_i g; exact of_decide_eq_true g⟩
              · cases h9
        obtain ⟨k1, k2⟩ := h0 _ _ hf
        have := (l1 k k1).2.2
        rw [k2, ← e, (l1 i hi).2.2] at this
        exact this.symm
    rw [hm, if_pos hk, if_pos hk, nix_nI (by omega)]
    have h9 := (l1 i hi).2.2
    rw [e] at h9
    rw [h9, nI_1]
    exact ⟨by omega, rfl, rfl⟩
  · subst hk
    have hm : mrk T 32 = -1 := by
      unfold mrk
      have : ffind (fun k => decide (T 58 0 k = 32)) 26 = none := ffind_none.mpr (fun k hk => decide_eq_false (fun z => by
        have := (l1 k hk).2.1
        rw [z] at this; revert this; decide))
      rw [this]
    rw [hm]
    exact ⟨by decide, rfl, rfl⟩
theorem nI_mul27 (a : Nat) : nI a * 27 = nI (a * 27) := by
  apply Int32.toBitVec_inj.mp
  show BitVec.ofNat 32 a * 27#32 = BitVec.ofNat 32 (a * 27)
  rw [BitVec.ofNat_mul]
theorem nB.rk (h : nB S T) (hd : ¬ T 30 0 27 = 0) {x : Int32} (hx : vp_in x (mnp T)) : rkv S (S 11 (nix x) 2) 4 = nI (((nDg T (T 45 0 (4 * nix x)) * 27 + nDg T (T 45 0 (4 * nix x + 1))) * 27 + nDg T (T 45 0 (4 * nix x + 2))) * 27 + nDg T (T 45 0 (4 * nix x + 3))) := by
  obtain ⟨a0, b0⟩ := h.chr hx 0 (by decide)
  obtain ⟨a1, b1⟩ := h.chr hx 1 (by decide)
  obtain ⟨a2, b2⟩ := h.chr hx 2 (by decide)
  obtain ⟨a3, b3⟩ := h.chr hx 3 (by decide)
  rw [rkv_s, rkv_s, rkv_s, rkv_s, a0, a1, a2, a3, (h.dg hd b0).2.2, (h.dg hd b1).2.2, (h.dg hd b2).2.2, (h.dg hd b3).2.2]
  show ((((0 : Int32) * 27 + _) * 27 + _) * 27 + _) * 27 + _ = _
  rw [show (0 : Int32) * 27 = nI 0 from rfl, nI_add, nI_mul27, nI_add, nI_mul27, nI_add, nI_mul27, nI_add, Nat.zero_add]
  rfl
theorem nB.mk (h : nB S T) (hd : ¬ T 30 0 27 = 0) {x z : Int32} (hx : vp_in x (mnp T)) (hz : vp_in z (mnp T)) {r : Nat} (hr : r < 4) : (mrkn T x r = mrkn T z r ↔ nDg T (T 45 0 (4 * nix x + r)) = nDg T (T 45 0 (4 * nix z + r))) ∧ (mrkn T x r < mrkn T z r ↔ nDg T (T 45 0 (4 * nix x + r)) < nDg T (T 45 0 (4 * nix z + r))) := by
  unfold mrkn
  rw [ix4 hx h.np12 hr, ix4 hz h.np12 hr]
  obtain ⟨u1, u2, -⟩ := h.dg hd (h.chr hx r hr).2
  obtain ⟨v1, v2, -⟩ := h.dg hd (h.chr hz r hr).2
  generalize nDg T (T 45 0 (4 * nix x + r)) = a at *
  generalize nDg T (T 45 0 (4 * nix z + r)) = b at *
  have e1 : mrk T (T 45 0 (4 * nix x + r)) = nI a - 1 := by rw [← u2, Int32.add_sub_cancel]
  have e2 : mrk T (T 45 0 (4 * nix z + r)) = nI b - 1 := by rw [← v2, Int32.add_sub_cancel]
  rw [e1, e2]
  have : ∀ a, a < 27 → ∀ b, b < 27 → ((nI a - 1 = nI b - 1 ↔ a = b) ∧ (nI a - 1 < nI b - 1 ↔ a < b)) := by decide +kernel
  exact this a (by omega) b (by omega)
theorem lex4 {a0 a1 a2 a3 b0 b1 b2 b3 : Nat} (x0 : a0 ≤ 26) (x1 : a1 ≤ 26) (x2 : a2 ≤ 26) (x3 : a3 ≤ 26) (z0 : b0 ≤ 26) (z1 : b1 ≤ 26) (z2 : b2 ≤ 26) (z3 : b3 ≤ 26) (B : Bool) : (decide ((((a0 * 27 + a1) * 27 + a2) * 27 + a3) < (((b0 * 27 + b1) * 27 + b2) * 27 + b3)) || (decide ((((a0 * 27 + a1) * 27 + a2) * 27 + a3) = (((b0 * 27 + b1) * 27 + b2) * 27 + b3)) && B)) = (if a0 = b0 then (if a1 = b1 then (if a2 = b2 then (if a3 = b3 then B else decide (a3 < b3)) else decide (a2 < b2)) else decide (a1 < b1)) else decide (a0 < b0)) := by
  by_cases c0 : a0 = b0
  · by_cases c1 : a1 = b1
    · by_cases c2 : a2 = b2
      · by_cases c3 : a3 = b3
        · rw [if_pos c0, if_pos c1, if_pos c2, if_pos c3, c0, c1, c2, c3]
          simp
        · rw [if_pos c0, if_pos c1, if_pos c2, if_neg c3]
          have e1 : ¬ (((a0 * 27 + a1) * 27 + a2) * 27 + a3) = (((b0 * 27 + b1) * 27 + b2) * 27 + b3) := by omega
          have e2 : (((a0 * 27 + a1) * 27 + a2) * 27 + a3) < (((b0 * 27 + b1) * 27 + b2) * 27 + b3) ↔ a3 < b3 := by omega
          simp [e1, e2]
      · rw [if_pos c0, if_pos c1, if_neg c2]
        have e1 : ¬ (((a0 * 27 + a1) * 27 + a2) * 27 + a3) = (((b0 * 27 + b1) * 27 + b2) * 27 + b3) := by omega
        have e2 : (((a0 * 27 + a1) * 27 + a2) * 27 + a3) < (((b0 * 27 + b1) * 27 + b2) * 27 + b3) ↔ a2 < b2 := by omega
        simp [e1, e2]
    · rw [if_pos c0, if_neg c1]
      have e1 : ¬ (((a0 * 27 + a1) * 27 + a2) * 27 + a3) = (((b0 * 27 + b1) * 27 + b2) * 27 + b3) := by omega
      have e2 : (((a0 * 27 + a1) * 27 + a2) * 27 + a3) < (((b0 * 27 + b1) * 27 + b2) * 27 + b3) ↔ a1 < b1 := by omega
      simp [e1, e2]
  · rw [if_neg c0]
    have e1 : ¬ (((a0 * 27 + a1) * 27 + a2) * 27 + a3) = (((b0 * 27 + b1) * 27 + b2) * 27 + b3) := by omega
    have e2 : (((a0 * 27 + a1) * 27 + a2) * 27 + a3) < (((b0 * 27 + b1) * 27 + b2) * 27 + b3) ↔ a0 < b0 := by omega
    simp [e1, e2]
theorem nB.bef (h : nB S T) (hd : ¬ T 30 0 27 = 0) {x z : Int32} (hx : vp_in x (mnp T)) (hz : vp_in z (mnp T)) : oBef S x z = mAhd T x z := by
  obtain ⟨p0, q0⟩ := h.mk hd hx hz (r := 0) (by decide)
  obtain ⟨p1, q1⟩ := h.mk hd hx hz (r := 1) (by decide)
  obtain ⟨p2, q2⟩ := h.mk hd hx hz (r := 2) (by decide)
  obtain ⟨p3, q3⟩ := h.mk hd hx hz (r := 3) (by decide)
  have bx : ∀ r, r < 4 → nDg T (T 45 0 (4 * nix x + r)) ≤ 26 := fun r hr => (h.dg hd (h.chr hx r hr).2).1
  have bz : ∀ r, r < 4 → nDg T (T 45 0 (4 * nix z + r)) ≤ 26 := fun r hr => (h.dg hd (h.chr hz r hr).2).1
  have x0 := bx 0 (by decide)
  have x1 := bx 1 (by decide)
  have x2 := bx 2 (by decide)
  have x3 := bx 3 (by decide)
  have z0 := bz 0 (by decide)
  have z1 := bz 1 (by decide)
  have z2 := bz 2 (by decide)
  have z3 := bz 3 (by decide)
  unfold oBef mAhd
  rw [h.rk hd hx, h.rk hd hz]
  show _ = (if mrkn T x 0 = mrkn T z 0 then (if mrkn T x 1 = mrkn T z 1 then (if mrkn T x 2 = mrkn T z 2 then (if mrkn T x 3 = mrkn T z 3 then decide (x < z) else decide (mrkn T x 3 < mrkn T z 3)) else decide (mrkn T x 2 < mrkn T z 2)) else decide (mrkn T x 1 < mrkn T z 1)) else decide (mrkn T x 0 < mrkn T z 0))
  simp only [p0, p1, p2, p3, q0, q1, q2, q3]
  simp only [Nat.add_zero] at *
  generalize nDg T (T 45 0 (4 * nix x)) = a0 at *
  generalize nDg T (T 45 0 (4 * nix x + 1)) = a1 at *
  generalize nDg T (T 45 0 (4 * nix x + 2)) = a2 at *
  generalize nDg T (T 45 0 (4 * nix x + 3)) = a3 at *
  generalize nDg T (T 45 0 (4 * nix z)) = b0 at *
  generalize nDg T (T 45 0 (4 * nix z + 1)) = b1 at *
  generalize nDg T (T 45 0 (4 * nix z + 2)) = b2 at *
  generalize nDg T (T 45 0 (4 * nix z + 3)) = b3 at *
  have hlt : nI (((a0 * 27 + a1) * 27 + a2) * 27 + a3) < nI (((b0 * 27 + b1) * 27 + b2) * 27 + b3) ↔ (((a0 * 27 + a1) * 27 + a2) * 27 + a3) < (((b0 * 27 + b1) * 27 + b2) * 27 + b3) := nI_ltI (by omega) (by omega)
  have heq : nI (((a0 * 27 + a1) * 27 + a2) * 27 + a3) = nI (((b0 * 27 + b1) * 27 + b2) * 27 + b3) ↔ (((a0 * 27 + a1) * 27 + a2) * 27 + a3) = (((b0 * 27 + b1) * 27 + b2) * 27 + b3) := ⟨fun q => nI_inj (by omega) (by omega) q, fun q => by rw [q]⟩
  rw [decide_eq_decide.mpr hlt, decide_eq_decide.mpr heq]
  exact lex4 x0 x1 x2 x3 z0 z1 z2 z3 _
end NS
