/-! What was judged before the close stays; the close; the answer of withdraw. -/
section NQ
variable {S M S' M' : NSt} {x : Int32}
theorem nJd.keep (h : nJd S M) (ho : mOpen M = false) (ho' : mOpen M' = false) (e1 : mns M' = mns M) (e2 : mnp M' = mnp M) (e53 : M' 53 = M 53) (e56 : M' 56 = M 56) (e51 : M' 51 = M 51) (s4 : ∀ k, S' 13 k 4 = S 13 k 4) (s8 : ∀ i, S' 11 i 8 = S 11 i 8) (s9 : ∀ i, S' 11 i 9 = S 11 i 9) : nJd S' M' := by
  have er : ∀ k, mRes M' k = mRes M k := fun k => by unfold mRes; rw [ho, ho', e56, if_neg Bool.false_ne_true, if_neg Bool.false_ne_true]
  refine ⟨fun k hk => ?_, fun i hi => ?_, fun i hi => ?_⟩
  · rw [e1] at hk; rw [s4, er]; exact h.r4 k hk
  · rw [e2] at hi
    rw [s8, h.r8 i hi]
    unfold mCounted
    rw [e1, e53]
    exact isum_congr (fun k _ => by rw [er])
  · rw [e2] at hi
    rw [s9, h.r9 i hi, ho, ho', e51, if_neg Bool.false_ne_true, if_neg Bool.false_ne_true]
/-- an event in which no day passes -/
theorem nP.ev (h : nP S M) (hb : nB S' M') (o1 : mOpen M = false → mOpen M' = false) (o2 : mOpen M = true → mOpen M' = true) (hk : mOpen M = false → mns M' = mns M ∧ mnp M' = mnp M ∧ M' 53 = M 53 ∧ M' 56 = M 56 ∧ M' 51 = M 51 ∧ (∀ k, S' 13 k 4 = S 13 k 4) ∧ (∀ i, S' 11 i 8 = S 11 i 8) ∧ ∀ i, S' 11 i 9 = S 11 i 9) : nP S' M' := by
  refine ⟨hb, fun ho' => ?_⟩
  have ho : mOpen M = false := by
    cases ho : mOpen M with
    | true => rw [o2 ho] at ho'; cases ho'
    | false => rfl
  obtain ⟨e1, e2, e3, e4, e5, e6, e7, e8⟩ := hk ho
  exact (h.c ho).keep ho ho' e1 e2 e3 e4 e5 e6 e7 e8
theorem nQ.P (h : nQ S M) : nP S M := ⟨h.b, fun _ => h.j⟩
/-- after the judgement all is as it must be -/
theorem nP.J (h : nP S M) (f : nF M) : nQ (oJudge S) M := by
  obtain ⟨a, b⟩ := h.b.judged h.c
  exact ⟨a, b, f⟩
/-! the sums of withdraw -/
theorem isum_0 {f : Nat → Int32} : ∀ n, (∀ k, k < n → f k = 0) → isum f n = 0
  | 0, _ => rfl
  | n + 1, h => by rw [isum_s, isum_0 n (fun k hk => h k (Nat.lt_succ_of_lt hk)), h n (Nat.lt_succ_self n)]; rfl
theorem isum_add (f g : Nat → Int32) : ∀ n, isum (fun k => f k + g k) n = isum f n + isum g n
  | 0 => rfl
  | n + 1 => by rw [isum_s, isum_s, isum_s, isum_add f g n]; ac_rfl
theorem isum_pt {f : Nat → Int32} {p : Nat} : ∀ n, p < n → (∀ k, k < n → k ≠ p → f k = 0) → isum f n = f p
  | 0, hp, _ => absurd hp (Nat.not_lt_zero p)
  | n + 1, hp, h => by
    rw [isum_s]
    by_cases e : p = n
    · rw [isum_0 n (fun k hk => h k (Nat.lt_succ_of_lt hk) (by omega)), e]; exact Int32.zero_add _
    · rw [isum_pt n (by omega) (fun k hk => h k (Nat.lt_succ_of_lt hk)), h n (Nat.lt_succ_self n) (fun z => e z.symm)]; exact Int32.add_zero _
theorem isum_sw (P : Nat → Nat) (B : Nat → Bool) (x N : Nat) : ∀ n, (∀ k, k < n → P k < N) → isum (fun i => if i = x then 0 else isum (fun k => if P k = i ∧ B k = true then 1 else 0) n) N = isum (fun k => if P k ≠ x ∧ B k = true then 1 else 0) n
  | 0, _ => isum_0 N (fun i _ => by split <;> rfl)
  | n + 1, h => by
    have e : ∀ i, i < N → (if i = x then (0 : Int32) else isum (fun k => if P k = i ∧ B k = true then 1 else 0) (n + 1)) = (if i = x then 0 else isum (fun k => if P k = i ∧ B k = true then 1 else 0) n) + (if i = x then 0 else if P n = i ∧ B n = true then 1 else 0) := by
      intro i _
      by_cases c : i = x
      · rw [if_pos c, if_pos c, if_pos c]; rfl
      · rw [if_neg c, if_neg c, if_neg c, isum_s]
    rw [isum_congr e, isum_add, isum_sw P B x N n (fun k hk => h k (Nat.lt_succ_of_lt hk)), isum_s]
    congr 1
    rw [isum_pt N (h n (Nat.lt_succ_self n)) (fun k hk hne => ?_)]
    · by_cases c : P n = x
      · rw [if_pos c, if_neg (fun z => z.1 c)]
      · rw [if_neg c]
        by_cases d : B n = true
        · rw [if_pos ⟨rfl, d⟩, if_pos ⟨c, d⟩]
        · rw [if_neg (fun z => d z.2), if_neg (fun z => d z.2)]
    · by_cases c : k = x
      · rw [if_pos c]
      · rw [if_neg c, if_neg (fun z => hne z.1.symm)]
theorem isum_sub (f g : Nat → Int32) : ∀ n, isum f n - isum g n = isum (fun k => f k - g k) n
  | 0 => by show (0 : Int32) - 0 = 0; decide
  | n + 1 => by
    rw [isum_s, isum_s, isum_s, ← isum_sub f g n]
    simp only [Int32.sub_eq_add_neg, Int32.neg_add]
    ac_rfl
theorem mGone_wd {M : NSt} {p q : Nat} (hp : p < 12) (hq : q < 12) {z : Int32} (hz : 0 < z) : mGone (nput M 46 0 p z) (nI q) 0 = mGone M (nI q) (1 <<< (nI p &&& 31)) := by
  rw [mGone_ib _ (by omega), mGone_ib _ (by omega), ib_0, Bool.or_false, ib_one _ (by omega) _ (by omega)]
  by_cases e : q = p
  · rw [e, nput_se, decide_eq_true hz, decide_eq_true rfl, Bool.or_true]
  · rw [nput_nj e, decide_eq_false e, Bool.or_false]
theorem mOres_wd (h : nB S M) {p : Nat} (hp : p < 12) {z : Int32} (hz : 0 < z) {k : Nat} (hk : k < mns M) : mOres (nput M 46 0 p z) k 0 = mOres M k (1 <<< (nI p &&& 31)) := by
  have h12 := h.np12
  have hg : ∀ s, s < mns M → mGone (nput M 46 0 p z) (M 53 0 s) 0 = mGone M (M 53 0 s) (1 <<< (nI p &&& 31)) := by
    intro s hs
    have hv := (h.si s hs).2.2.2.2.1
    have := vp_lt hv
    rw [vp_eq hv]
    exact mGone_wd hp (by omega) hz
  have hf : mFree (nput M 46 0 p z) (M 54 0 k) k 0 = mFree M (M 54 0 k) k (1 <<< (nI p &&& 31)) := by
    unfold mFree
    congr 2
    refine ffind_congr (fun s hs => ?_)
    show (decide (M 54 0 s = M 54 0 k) && !decide (M 55 0 s = 0) && !mGone (nput M 46 0 p z) (M 53 0 s) 0) = _
    rw [hg s (by omega)]
  show (if M 55 0 k = 0 then 1 else if M 41 0 (nix (M 54 0 k)) = 0 then (if mGone (nput M 46 0 p z) (M 53 0 k) 0 then 3 else if mFree (nput M 46 0 p z) (M 54 0 k) k 0 then 0 else 4) else 2) = _
  rw [hg k hk, hf]
  rfl
theorem mOres_mono (h : nB S M) {p k : Nat} (hp : p < 12) (hk : k < mns M) (hne : ¬ M 53 0 k = nI p) (h0 : mOres M k 0 = 0) : mOres M k (1 <<< (nI p &&& 31)) = 0 := by
  have h12 := h.np12
  obtain ⟨a1, a2, a3, a4⟩ := mOres_0.mp h0
  have hv := (h.si k hk).2.2.2.2.1
  have hl := vp_lt hv
  refine mOres_0.mpr ⟨a1, a2, ?_, ?_⟩
  · rw [vp_eq hv, h.mgone hl, ib_0, Bool.or_false] at a3
    rw [vp_eq hv, h.mgone hl, a3, ib_one _ (by omega) _ (by omega)]
    exact decide_eq_false (fun z => hne (by rw [← z]; exact vp_eq hv))
  · rw [h.free (Nat.le_of_lt hk)] at a4 ⊢
    intro i hi hb
    have := a4 i hi hb
    rw [ib_0, Bool.or_false] at this
    rw [this]; rfl
theorem nB.others (h : nB S M) (hx : vp_in x (mnp M)) {B : Nat → Bool} (h8 : ∀ i, i < mnp M → S 11 i 8 = isum (fun k => if M 53 0 k = nI i ∧ B k = true then 1 else 0) (mns M)) : oOthers S x = isum (fun k => if nix (M 53 0 k) ≠ nix x ∧ B k = true then 1 else 0) (mns M) := by
  have h12 := h.np12
  have hl := vp_lt hx
  unfold oOthers
  rw [h.eonp, ← isum_sw (fun k => nix (M 53 0 k)) B (nix x) (mnp M) (mns M) (fun k hk => vp_lt (h.si k hk).2.2.2.2.1)]
  refine isum_congr (fun i hi => ?_)
  have e : (nI i = x) ↔ (i = nix x) := ⟨fun z => by rw [← z, nix_nI (by omega)], fun z => by rw [z]; exact (vp_eq hx).symm⟩
  by_cases c : i = nix x
  · rw [if_pos c, if_pos (e.mpr c)]
  · rw [if_neg c, if_neg (fun z => c (e.mp z)), h8 i hi]
    refine isum_congr (fun k hk => ?_)
    have hv := (h.si k hk).2.2.2.2.1
    have e2 : (M 53 0 k = nI i) ↔ (nix (M 53 0 k) = i) := ⟨fun z => by rw [z, nix_nI (by omega)], fun z => by rw [← z]; exact vp_eq hv⟩
    by_cases d : M 53 0 k = nI i ∧ B k = true
    · rw [if_pos d, if_pos ⟨e2.mp d.1, d.2⟩]
    · rw [if_neg d, if_neg (fun z => d ⟨e2.mpr z.1, z.2⟩)]
theorem nQ.withdraw (h : nQ S M) (hx : vp_in x (mnp M)) : oOthers (oJudge (oWd S x)) x - oOthers S x = if mOpen M then mFreed M x else 0 := by
  have h12 := h.b.np12
  have hl := vp_lt hx
  have hb := ev_wd h.b hx
  cases ho : mOpen M with
  | false =>
    have e1 : oOpen (oWd S x) = false := by
      have : oOpen (oWd S x) = oOpen S := rfl
      rw [this, h.b.opn, ho]
    have e2 : oJudge (oWd S x) = oWd S x := by unfold oJudge; rw [e1]; rfl
    rw [e2]
    have e3 : oOthers (oWd S x) x = oOthers S x := rfl
    rw [e3, Int32.sub_self]; rfl
  | true =>
    rw [ho] at hb
    have ho' : mOpen (nput M 46 0 (nix x) (if true = true then 1 else 2)) = true := ho
    have hJ := hb.judge ho'
    have hB := hb.same (oJudge_same (oWd S x))
    have hx' : vp_in x (mnp (nput M 46 0 (nix x) (if true = true then 1 else 2))) := hx
    have a1 := hB.others (x := x) hx' (B := fun k => decide (mOres M k (1 <<< (x &&& 31)) = 0)) (fun i hi => by
      rw [hJ.r8 i hi, mCounted_open ho']
      unfold mCw
      refine isum_congr (fun k hk => ?_)
      have hk' : k < mns M := hk
      have e : mOres (nput M 46 0 (nix x) (if true = true then 1 else 2)) k 0 = mOres M k (1 <<< (x &&& 31)) := by
        have := mOres_wd h.b (p := nix x) (by omega) (z := 1) (by decide) hk'
        rw [← vp_eq hx] at this
        exact this
      rw [e]
      simp only [decide_eq_true_eq])
    have a2 := h.b.others (x := x) hx (B := fun k => decide (mOres M k 0 = 0)) (fun i hi => by
      rw [h.j.r8 i hi, mCounted_open ho]
      unfold mCw
      simp only [decide_eq_true_eq])
    rw [a1, a2]
    show isum (fun k => if nix (M 53 0 k) ≠ nix x ∧ decide (mOres M k (1 <<< (x &&& 31)) = 0) = true then 1 else 0) (mns M) - _ = mFreed M x
    rw [isum_sub]
    unfold mFreed
    refine isum_congr (fun k hk => ?_)
    have hv := (h.b.si k hk).2.2.2.2.1
    have e2 : (nix (M 53 0 k) = nix x) ↔ (M 53 0 k = x) := ⟨fun z => by rw [vp_eq hv, z]; exact (vp_eq hx).symm, fun z => by rw [z]⟩
    simp only [decide_eq_true_eq, Bool.and_eq_true, Bool.not_eq_true', decide_eq_false_iff_not]
    by_cases c : M 53 0 k = x
    · rw [if_neg (fun z => z.1 (e2.mpr c)), if_neg (fun z => z.1 (e2.mpr c)), if_neg (fun z => z.1.1 c)]; rfl
    · have c2 : nix (M 53 0 k) ≠ nix x := fun z => c (e2.mp z)
      by_cases d : mOres M k 0 = 0
      · have d2 : mOres M k (1 <<< (x &&& 31)) = 0 := by
          have := mOres_mono h.b (p := nix x) (by omega) hk (by rw [← vp_eq hx]; exact c) d
          rwa [← vp_eq hx] at this
        rw [if_pos ⟨c2, d2⟩, if_pos ⟨c2, d⟩, if_neg (fun z => z.1.2 d)]; rfl
      · by_cases d2 : mOres M k (1 <<< (x &&& 31)) = 0
        · rw [if_pos ⟨c2, d2⟩, if_neg (fun z => d z.2), if_pos ⟨⟨c, d⟩, d2⟩]; rfl
        · rw [if_neg (fun z => d2 z.2), if_neg (fun z => d z.2), if_neg (fun z => d2 z.2)]; rfl
end NQ
