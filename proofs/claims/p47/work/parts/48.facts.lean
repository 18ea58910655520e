/-! What the law's check of soundness says of an office. -/
/-- no voter counts for two papers -/
def nUq (S : NSt) : Prop := ∀ a b, a < b → b < ons S → S 13 a 1 = S 13 b 1 → ¬ (S 13 a 4 = 0 ∧ S 13 b 4 = 0)
/-- what has been paid, the votes, how often replaced: small numbers -/
def nEx (S : NSt) (e : Nat) : Prop := ∀ i, (∃ q, q ≤ 1000 * e ∧ S 11 i 3 = nI q) ∧ (∃ q, q ≤ 10000 * e ∧ S 11 i 4 = nI q) ∧ ∃ q, q ≤ e ∧ S 11 i 5 = nI q
def cnd (S : NSt) (v : Int32) : Nat → Bool := fun k => decide (S 13 k 1 = v) && decide (S 13 k 4 = 0)
/-- how many signatures of a voter count -/
def mny (S : NSt) (v : Int32) (n : Nat) : Int32 := isum (fun k => if cnd S v k = true then 1 else 0) n
/-- the paper of the last of them -/
def its (S : NSt) (v : Int32) : Nat → Int32
  | 0 => -105
  | n + 1 => if cnd S v n = true then S 13 n 0 else its S v n
theorem its_s {S : NSt} {v : Int32} {n : Nat} : its S v (n + 1) = if cnd S v n = true then S 13 n 0 else its S v n := rfl
section NU
variable {S M : NSt} {x : Int32}
theorem uq_open (h : nQ S M) (ho : oOpen S = true) : nUq S := by
  intro a b hab hb hv hz
  obtain ⟨ha0, hb0⟩ := hz
  have hB := h.b
  rw [hB.eons] at hb
  have hM : mOpen M = true := by rw [← hB.opn]; exact ho
  rw [h.j.r4 a (by omega)] at ha0
  rw [h.j.r4 b hb] at hb0
  unfold mRes at ha0 hb0
  rw [if_pos hM] at ha0 hb0
  obtain ⟨l1, -, g1, -⟩ := mOres_0.mp ha0
  obtain ⟨-, -, -, f2⟩ := mOres_0.mp hb0
  have e1 := (hB.si a (by omega)).2.1
  have e2 := (hB.si b hb).2.1
  have := mFree_iff.mp f2 a hab (by rw [← e1, ← e2]; exact hv) l1
  rw [g1] at this; cases this
theorem snd_v (hu : nUq S) (v : Int32) : ∀ n, n ≤ ons S → (ffind (cnd S v) n = none ∧ mny S v n = 0 ∧ its S v n = -105) ∨ ∃ k, k < n ∧ ffind (cnd S v) n = some k ∧ mny S v n = 1 ∧ its S v n = S 13 k 0 := by
  intro n
  induction n with
  | zero => intro _; exact Or.inl ⟨rfl, rfl, rfl⟩
  | succ n ih =>
    intro hn
    have em : mny S v (n + 1) = mny S v n + (if cnd S v n = true then 1 else 0) := rfl
    rcases ih (by omega) with ⟨h1, h2, h3⟩ | ⟨k, hk, h1, h2, h3⟩
    · by_cases hc : cnd S v n = true
      · refine Or.inr ⟨n, Nat.lt_succ_self n, ?_, ?_, ?_⟩
        · rw [ffind_s h1, hc]; rfl
        · rw [em, h2, if_pos hc]; rfl
        · rw [its_s, if_pos hc]
      · refine Or.inl ⟨?_, ?_, ?_⟩
        · rw [ffind_s h1, if_neg hc]
        · rw [em, h2, if_neg hc]; rfl
        · rw [its_s, if_neg hc]; exact h3
    · have hck := (ffind_lt h1).2
      have hc : ¬ cnd S v n = true := by
        intro hc
        unfold cnd at hck hc
        rw [Bool.and_eq_true, decide_eq_true_eq, decide_eq_true_eq] at hck hc
        exact hu k n hk (by omega) (hck.1.trans hc.1.symm) ⟨hck.2, hc.2⟩
      refine Or.inr ⟨k, by omega, ffind_mono (Nat.le_succ n) h1, ?_, ?_⟩
      · rw [em, h2, if_neg hc]; rfl
      · rw [its_s, if_neg hc]; exact h3
theorem snd_1 {W : NWd} (hu : nUq S) (hok : oOk S) {v : Int32} (hv : inB v (onv S) = true) : ¬ 1 < mny S v (ons S) ∧ lres W (nG (inB v (onv S)) 2 (nG (!decide (oSup S v = -1)) 4 (.inr (oSup S v, W)))) = (its S v (ons S), W) := by
  rcases snd_v hu v (ons S) (Nat.le_refl _) with ⟨h1, h2, h3⟩ | ⟨k, hk, h1, h2, h3⟩
  · refine ⟨by rw [h2]; decide, ?_⟩
    have e : oSup S v = -1 := by
      have h1' : ffind (fun k => decide (S 13 k 1 = v) && decide (S 13 k 4 = 0)) (ons S) = none := h1
      unfold oSup
      rw [h1']
    rw [nG_t hv, e, h3]
    rfl
  · refine ⟨by rw [h2]; decide, ?_⟩
    have e : oSup S v = S 13 k 0 := by
      have h1' : ffind (fun k => decide (S 13 k 1 = v) && decide (S 13 k 4 = 0)) (ons S) = some k := h1
      unfold oSup
      rw [h1']
    have hne : ¬ S 13 k 0 = -1 := by
      intro z
      have := hok.sp hk
      rw [z] at this
      exact this (Or.inl (by decide))
    rw [nG_t hv, e, h3, decide_eq_false hne]
    rfl
theorem isum_sw0 (P : Nat → Nat) (B : Nat → Bool) (N n : Nat) (h : ∀ k, k < n → P k < N) : isum (fun i => isum (fun k => if P k = i ∧ B k = true then 1 else 0) n) N = isum (fun k => if B k = true then 1 else 0) n := by
  have h1 := isum_sw P B N N n h
  have e1 : isum (fun i => if i = N then (0 : Int32) else isum (fun k => if P k = i ∧ B k = true then 1 else 0) n) N = isum (fun i => isum (fun k => if P k = i ∧ B k = true then 1 else 0) n) N := isum_congr (fun i hi => if_neg (by omega))
  rw [e1] at h1
  rw [h1]
  refine isum_congr (fun k hk => ?_)
  have := h k hk
  by_cases hB : B k = true
  · rw [if_pos ⟨by omega, hB⟩, if_pos hB]
  · rw [if_neg (fun z => hB z.2), if_neg hB]
/-- voter by voter and paper by paper: as many signatures count -/
theorem snd_2 (h : nQ S M) : isum (fun i => mny S (nI i) (ons S)) (onv S) = isum (fun i => S 11 i 8) (onp S) := by
  have hB := h.b
  have e1 : isum (fun i => mny S (nI i) (ons S)) (onv S) = isum (fun k => if decide (S 13 k 4 = 0) = true then 1 else 0) (ons S) := by
    rw [← isum_sw0 (fun k => nix (S 13 k 1)) (fun k => decide (S 13 k 4 = 0)) (onv S) (ons S) (fun k hk => ?_)]
    · refine isum_congr (fun i hi => ?_)
      show isum _ _ = _
      refine isum_congr (fun k hk => ?_)
      have hk' : k < mns M := by rw [← hB.eons]; exact hk
      have hv : vp_in (S 13 k 1) (onv S) := by rw [(hB.si k hk').2.1, hB.eonv]; exact (hB.si k hk').2.2.2.2.2
      have hvn := vp_lt hv
      have h40 := hB.nv40
      have e40 := hB.eonv
      have e : (S 13 k 1 = nI i) ↔ nix (S 13 k 1) = i := by
        constructor
        · intro z; rw [z, nix_nI (by omega)]
        · intro z; rw [← z]; exact vp_eq hv
      by_cases c : cnd S (nI i) k = true
      · rw [if_pos c]
        unfold cnd at c
        rw [Bool.and_eq_true, decide_eq_true_eq] at c
        rw [if_pos ⟨e.mp c.1, c.2⟩]
      · rw [if_neg c]
        unfold cnd at c
        rw [Bool.and_eq_true, decide_eq_true_eq] at c
        rw [if_neg (fun z => c ⟨e.mpr z.1, z.2⟩)]
    · have hk' : k < mns M := by rw [← hB.eons]; exact hk
      rw [(hB.si k hk').2.1, hB.eonv]; exact vp_lt (hB.si k hk').2.2.2.2.2
  have e2 : isum (fun i => S 11 i 8) (onp S) = isum (fun k => if decide (S 13 k 4 = 0) = true then 1 else 0) (ons S) := by
    rw [← isum_sw0 (fun k => nix (S 13 k 0)) (fun k => decide (S 13 k 4 = 0)) (onp S) (ons S) (fun k hk => ?_)]
    · refine isum_congr (fun i hi => ?_)
      have hi' : i < mnp M := by rw [← hB.eonp]; exact hi
      rw [h.j.r8 i hi']
      unfold mCounted
      rw [hB.eons]
      refine isum_congr (fun k hk => ?_)
      have hp : vp_in (M 53 0 k) (mnp M) := (hB.si k hk).2.2.2.2.1
      have hpn := vp_lt hp
      have h12 := hB.np12
      rw [h.j.r4 k hk, (hB.si k hk).1]
      have e : (M 53 0 k = nI i) ↔ nix (M 53 0 k) = i := by
        constructor
        · intro z; rw [z, nix_nI (by omega)]
        · intro z; rw [← z]; exact vp_eq hp
      by_cases c : (decide (M 53 0 k = nI i) && decide (mRes M k = 0)) = true
      · rw [if_pos c]
        rw [Bool.and_eq_true, decide_eq_true_eq] at c
        rw [if_pos ⟨e.mp c.1, c.2⟩]
      · rw [if_neg c]
        rw [Bool.and_eq_true, decide_eq_true_eq] at c
        rw [if_neg (fun z => c ⟨e.mpr z.1, z.2⟩)]
    · have hk' : k < mns M := by rw [← hB.eons]; exact hk
      rw [(hB.si k hk').1, hB.eonp]; exact vp_lt (hB.si k hk').2.2.2.2.1
  rw [e1, e2]
theorem i32_r5 (v : Int32) (h : v = 0 ∨ v = 1 ∨ v = 2 ∨ v = 3 ∨ v = 4 ∨ v = 5) : ¬ v < 0 ∧ ¬ 5 < v := by
  rcases h with rfl | rfl | rfl | rfl | rfl | rfl <;> decide
theorem i32_r2 (v : Int32) (h : v = 0 ∨ v = 1 ∨ v = 2) : ¬ v < 0 ∧ ¬ 2 < v := by
  rcases h with rfl | rfl | rfl <;> decide
theorem why_rng (h : nQ S M) {i : Nat} (hi : i < onp S) : ¬ oWhy S (nI i) < 0 ∧ ¬ 5 < oWhy S (nI i) := by
  have hB := h.b
  have h12 := hB.np12
  have hi' : i < mnp M := by rw [← hB.eonp]; exact hi
  have h9 : S 11 i 9 = 0 ∨ S 11 i 9 = 1 ∨ S 11 i 9 = 2 ∨ S 11 i 9 = 3 ∨ S 11 i 9 = 4 := by
    rw [h.j.r9 i hi']
    cases ho : mOpen M with
    | true => rw [if_pos rfl]; exact mRs_rng _ _
    | false => rw [if_neg (by decide)]; exact (h.f ho i hi').2
  refine i32_r5 _ ?_
  unfold oWhy
  rw [nix_nI (by omega)]
  split
  · exact Or.inr (Or.inl rfl)
  · split
    · split
      · exact Or.inl rfl
      · exact Or.inr (Or.inr (Or.inr (Or.inr (Or.inr rfl))))
    · rcases h9 with e | e | e | e | e <;> rw [e]
      · exact Or.inl rfl
      · exact Or.inr (Or.inl rfl)
      · exact Or.inr (Or.inr (Or.inl rfl))
      · exact Or.inr (Or.inr (Or.inr (Or.inl rfl)))
      · exact Or.inr (Or.inr (Or.inr (Or.inr (Or.inl rfl))))
theorem dep_rng (h : nQ S M) {i : Nat} (hi : i < onp S) : ¬ oDep S (nI i) < 0 ∧ ¬ 2 < oDep S (nI i) := by
  have hB := h.b
  have h12 := hB.np12
  have hi' : i < mnp M := by rw [← hB.eonp]; exact hi
  rw [h.dep (vp_in_nI hi' (by omega))]
  exact i32_r2 _ (mFate_rng M _)
theorem dep_open (ho : oOpen S = true) (hw : ¬ oWhy S x = 1) : oDep S x = 0 := by
  unfold oWhy at hw
  unfold oDep
  by_cases g : oGone S x = true
  · rw [if_pos g] at hw; exact absurd rfl hw
  · rw [if_neg g, if_pos ho]
/-- sums of small numbers -/
def nsum (g : Nat → Nat) : Nat → Nat
  | 0 => 0
  | n + 1 => nsum g n + g n
theorem isum_nat {f : Nat → Int32} {g : Nat → Nat} : ∀ n, (∀ k, k < n → f k = nI (g k)) → isum f n = nI (nsum g n)
  | 0, _ => rfl
  | n + 1, h => by
    rw [isum_s, isum_nat n (fun k hk => h k (Nat.lt_succ_of_lt hk)), h n (Nat.lt_succ_self n), nI_add]; rfl
theorem nsum_le {g : Nat → Nat} {c : Nat} (h : ∀ k, g k ≤ c) : ∀ n, nsum g n ≤ c * n
  | 0 => Nat.le_refl _
  | n + 1 => by
    show nsum g n + g n ≤ c * (n + 1)
    have h1 := nsum_le h n
    have h2 := h n
    rw [Nat.mul_succ]
    omega
theorem nsum_2 {a b c : Nat → Nat} (h : ∀ k, a k + b k ≤ c k) : ∀ n, nsum a n + nsum b n ≤ nsum c n
  | 0 => Nat.le_refl _
  | n + 1 => by
    show nsum a n + a n + (nsum b n + b n) ≤ nsum c n + c n
    have h1 := nsum_2 h n
    have h2 := h n
    omega
theorem snd_4 {e : Nat} (hx : nEx S e) (he : e ≤ 500) (hn : onp S ≤ 12) : ¬ isum (fun k => S 11 k 3) (onp S) < isum (fun k => if oDep S (nI k) = 0 then S 11 k 3 else 0) (onp S) + isum (fun k => if oDep S (nI k) = 2 then S 11 k 3 else 0) (onp S) := by
  have hq : ∀ k, S 11 k 3 = nI (nix (S 11 k 3)) ∧ nix (S 11 k 3) ≤ 500000 := by
    intro k
    obtain ⟨q, h1, h2⟩ := (hx k).1
    rw [h2, nix_nI (by omega)]
    exact ⟨rfl, by omega⟩
  rw [isum_nat (f := fun k => S 11 k 3) (g := fun k => nix (S 11 k 3)) _ (fun k _ => (hq k).1),
    isum_nat (f := fun k => if oDep S (nI k) = 0 then S 11 k 3 else 0) (g := fun k => if oDep S (nI k) = 0 then nix (S 11 k 3) else 0) _ (fun k _ => ?_),
    isum_nat (f := fun k => if oDep S (nI k) = 2 then S 11 k 3 else 0) (g := fun k => if oDep S (nI k) = 2 then nix (S 11 k 3) else 0) _ (fun k _ => ?_)]
  · have h1 := nsum_2 (a := fun k => if oDep S (nI k) = 0 then nix (S 11 k 3) else 0) (b := fun k => if oDep S (nI k) = 2 then nix (S 11 k 3) else 0) (c := fun k => nix (S 11 k 3)) (fun k => ?_) (onp S)
    · have h2 := nsum_le (g := fun k => nix (S 11 k 3)) (c := 500000) (fun k => (hq k).2) (onp S)
      rw [nI_add]
      intro z
      have h3 : 500000 * onp S ≤ 500000 * 12 := Nat.mul_le_mul_left _ hn
      have := (nI_ltI (by omega) (by omega)).mp z
      omega
    · by_cases c : oDep S (nI k) = 0
      · show (if oDep S (nI k) = 0 then nix (S 11 k 3) else 0) + (if oDep S (nI k) = 2 then nix (S 11 k 3) else 0) ≤ _
        rw [if_pos c, if_neg (by rw [c]; decide)]; exact Nat.le_refl _
      · show (if oDep S (nI k) = 0 then nix (S 11 k 3) else 0) + (if oDep S (nI k) = 2 then nix (S 11 k 3) else 0) ≤ _
        rw [if_neg c]
        split <;> omega
  · show (if oDep S (nI k) = 2 then S 11 k 3 else 0) = _
    split
    · exact (hq k).1
    · rfl
  · show (if oDep S (nI k) = 0 then S 11 k 3 else 0) = _
    split
    · exact (hq k).1
    · rfl
/-- the two areas hold all that stand -/
theorem snd_5 (h : nQ S M) (ha : ona S = 2) : oStand S 0 + oStand S 1 = isum (fun k => if oWhy S (nI k) = 0 then 1 else 0) (onp S) := by
  unfold oStand
  rw [← isum_add]
  refine isum_congr (fun k hk => ?_)
  have hB := h.b
  have h12 := hB.np12
  have hk' : k < mnp M := by rw [← hB.eonp]; exact hk
  have hv : vp_in (S 11 k 0) 2 := by
    rw [(hB.pa k hk').1, ← ha, hB.eona]; exact (hB.pa k hk').2.2.2.2.2.2.2
  have e := vp_eq hv
  have hl := vp_lt hv
  show (if oIn S (nI k) 0 = true then (1 : Int32) else 0) + (if oIn S (nI k) 1 = true then 1 else 0) = _
  unfold oIn
  rw [nix_nI (by omega)]
  by_cases c : oWhy S (nI k) = 0
  · rw [if_pos c, decide_eq_true c]
    rcases (show nix (S 11 k 0) = 0 ∨ nix (S 11 k 0) = 1 by omega) with q | q <;> rw [q] at e <;> rw [e] <;> decide
  · rw [if_neg c, decide_eq_false c, Bool.and_false, Bool.and_false]; rfl
end NU
/-- no voter's area is below nought -/
def nVa (S : NSt) : Prop := ∀ i, ¬ S 6 i 0 < 0
/-- the run's invariant: the office and a model of it agree, no voter counts twice, the numbers are small -/
def lInv (X : NWd) (na nv e : Nat) : Prop := (∃ M n, nInv X M n ∧ n ≤ e) ∧ nUq (X 0) ∧ nEx (X 0) e ∧ nVa (X 0) ∧ ona (X 0) = na ∧ onv (X 0) = nv ∧ X 0 1 0 1 = 20
section LI
variable {X : NWd} {na nv e : Nat}
theorem lInv.i (h : lInv X na nv e) : ∃ M n, nInv X M n ∧ n ≤ e := h.1
theorem lInv.u (h : lInv X na nv e) : nUq (X 0) := h.2.1
theorem lInv.x (h : lInv X na nv e) : nEx (X 0) e := h.2.2.1
theorem lInv.va (h : lInv X na nv e) : nVa (X 0) := h.2.2.2.1
theorem lInv.ena (h : lInv X na nv e) : ona (X 0) = na := h.2.2.2.2.1
theorem lInv.env (h : lInv X na nv e) : onv (X 0) = nv := h.2.2.2.2.2.1
theorem lInv.cl (h : lInv X na nv e) : X 0 1 0 1 = 20 := h.2.2.2.2.2.2
theorem nEx.mono {S : NSt} {e e' : Nat} (h : nEx S e) (he : e ≤ e') : nEx S e' := by
  intro i
  obtain ⟨⟨q1, a1, b1⟩, ⟨q2, a2, b2⟩, ⟨q3, a3, b3⟩⟩ := h i
  exact ⟨⟨q1, Nat.le_trans a1 (Nat.mul_le_mul_left _ he), b1⟩, ⟨q2, Nat.le_trans a2 (Nat.mul_le_mul_left _ he), b2⟩, ⟨q3, Nat.le_trans a3 he, b3⟩⟩
theorem lInv.mono {e' : Nat} (h : lInv X na nv e) (he : e ≤ e') : lInv X na nv e' := by
  obtain ⟨⟨M, n, h1, h2⟩, h3, h4, h5⟩ := h
  exact ⟨⟨M, n, h1, by omega⟩, h3, h4.mono he, h5⟩
theorem lInv.rep (h : lInv X na nv e) (R : NSt) : lInv (wdo X 1 R) na nv e := by
  obtain ⟨⟨M, n, h1, h2⟩, h3⟩ := h
  have e9 : wdo X 1 R 0 = X 0 := wdo_ne (by decide)
  refine ⟨⟨M, n, h1.rep, h2⟩, ?_⟩
  rw [e9]; exact h3
theorem lInv.ok (h : lInv X na nv e) : lOk X := by
  obtain ⟨⟨M, n, h1, h2⟩, -⟩ := h
  exact ⟨h1.oOk, h1.dia, fun v hv => h1.h01 (inB_t.mpr hv)⟩
theorem lInv.q (h : lInv X na nv e) : ∃ M, nQ (X 0) M := by
  obtain ⟨⟨M, n, h1, h2⟩, -⟩ := h
  exact ⟨M, h1.q⟩
/-- the replay's premises, and what it answers -/
theorem lInv.rp (h : lInv X na nv e) : (∀ j, j < nix (X 2 21 0 4) → oOk (rpl (X 2) (X 1) j) ∧ oEv (rpl (X 2) (X 1) j) (X 2 22 0 j) (X 2 23 0 j) (X 2 24 0 j)) ∧ oOk (rpl (X 2) (X 1) (nix (X 2 21 0 4))) ∧ ∀ i, i < onp (X 0) → oWhy (oJudge (rpl (X 2) (X 1) (nix (X 2 21 0 4)))) (nI i) = oWhy (X 0) (nI i) := by
  obtain ⟨⟨M, n, h1, h2⟩, -⟩ := h
  have hn := h1.hn
  obtain ⟨r1, r2⟩ := h1.r (X 1)
  rw [h1.d, nix_nI (by omega)]
  refine ⟨r2, r1.b.oOk, fun i hi => ?_⟩
  have hB := h1.q.b
  have h12 := hB.np12
  have hi' : vp_in (nI i) (mnp M) := vp_in_nI (by rw [← hB.eonp]; exact hi) (by omega)
  rw [(r1.J h1.q.f).why hi', h1.q.why hi']
end LI
