/-! What the model's own notes (its code, its scratch arrays) don't touch. -/
def mE (M T : NSt) : Prop := (∀ k, k ≠ 30 → k ≠ 59 → k ≠ 60 → T k = M k) ∧ ∀ j, j ≠ 0 → T 30 0 j = M 30 0 j
/-- and not what is fixed at the close either -/
def mE2 (M T : NSt) : Prop := (∀ k, k ≠ 30 → k ≠ 51 → k ≠ 56 → k ≠ 59 → k ≠ 60 → T k = M k) ∧ ∀ j, j ≠ 0 → T 30 0 j = M 30 0 j
theorem mE.to {M T : NSt} (h : mE M T) : mE2 M T := ⟨fun k a _ _ b c => h.1 k a b c, h.2⟩
theorem mE2.of2 {M T : NSt} (h : mOf2 M T) : mE2 M T := ⟨fun k _ b c d e => h k b c d e, fun j _ => by rw [h 30 (by decide) (by decide) (by decide) (by decide)]⟩
theorem mE2.ens {M T : NSt} (h : mE2 M T) : mns T = mns M := by unfold mns; rw [h.2 22 (by decide)]
theorem mE2.enp {M T : NSt} (h : mE2 M T) : mnp T = mnp M := by unfold mnp; rw [h.2 12 (by decide)]
theorem mE2.env {M T : NSt} (h : mE2 M T) : mnv T = mnv M := by unfold mnv; rw [h.2 9 (by decide)]
theorem mE2.ena {M T : NSt} (h : mE2 M T) : mna T = mna M := by unfold mna; rw [h.2 5 (by decide)]
theorem mE2.opn {M T : NSt} (h : mE2 M T) : mOpen T = mOpen M := by unfold mOpen; rw [h.2 4 (by decide), h.2 1 (by decide)]
theorem mE.rf {M : NSt} : mE M M := ⟨fun _ _ _ _ => rfl, fun _ _ => rfl⟩
theorem mE.tr {M T U : NSt} (h : mE M T) (g : mE T U) : mE M U := ⟨fun k a b c => (g.1 k a b c).trans (h.1 k a b c), fun j a => (g.2 j a).trans (h.2 j a)⟩
theorem mE.code {M : NSt} {v : Int32} : mE M (nput M 30 0 0 v) := by
  refine ⟨fun k a _ _ => ?_, fun j a => ?_⟩
  · funext i j; unfold nput; rw [if_neg (fun z => a z.1)]
  · unfold nput; rw [if_neg (fun z => a z.2.1)]
theorem mE.off {M T : NSt} (h : mOff M T) : mE M T := ⟨fun k _ b c => h k b c, fun j _ => by rw [h 30 (by decide) (by decide)]⟩
theorem mE.ens {M T : NSt} (h : mE M T) : mns T = mns M := by unfold mns; rw [h.2 22 (by decide)]
theorem mE.enp {M T : NSt} (h : mE M T) : mnp T = mnp M := by unfold mnp; rw [h.2 12 (by decide)]
theorem mE.env {M T : NSt} (h : mE M T) : mnv T = mnv M := by unfold mnv; rw [h.2 9 (by decide)]
theorem mE.ena {M T : NSt} (h : mE M T) : mna T = mna M := by unfold mna; rw [h.2 5 (by decide)]
theorem mE.opn {M T : NSt} (h : mE M T) : mOpen T = mOpen M := by unfold mOpen; rw [h.2 4 (by decide), h.2 1 (by decide)]
theorem mE.gone {M T : NSt} (h : mE M T) (x w : Int32) : mGone T x w = mGone M x w := by unfold mGone; rw [h.1 46 (by decide) (by decide) (by decide)]
theorem mE.mcs {M T : NSt} (h : mE M T) (x w : Int32) : ∀ n, mcs T x w n = mcs M x w n
  | 0 => rfl
  | n + 1 => by rw [mcs_s, mcs_s, h.mcs x w n, h.gone, h.1 55 (by decide) (by decide) (by decide), h.1 53 (by decide) (by decide) (by decide), h.1 54 (by decide) (by decide) (by decide), h.1 41 (by decide) (by decide) (by decide)]
theorem mE.cnt {M T : NSt} (h : mE M T) (x w : Int32) : mCnt T x w = mCnt M x w := by unfold mCnt; rw [h.mcs, h.ens]
theorem mE.free {M T : NSt} (h : mE M T) (v : Int32) (n : Nat) (w : Int32) : mFree T v n w = mFree M v n w := by
  unfold mFree
  rw [ffind_congr (fun k _ => by rw [h.gone, h.1 55 (by decide) (by decide) (by decide), h.1 53 (by decide) (by decide) (by decide), h.1 54 (by decide) (by decide) (by decide)])]
theorem mE.ores {M T : NSt} (h : mE M T) (k : Nat) (w : Int32) : mOres T k w = mOres M k w := by
  unfold mOres
  rw [h.gone, h.free, h.1 55 (by decide) (by decide) (by decide), h.1 53 (by decide) (by decide) (by decide), h.1 54 (by decide) (by decide) (by decide), h.1 41 (by decide) (by decide) (by decide)]
theorem mE.res {M T : NSt} (h : mE M T) (k : Nat) : mRes T k = mRes M k := by unfold mRes; rw [h.opn, h.ores, h.1 56 (by decide) (by decide) (by decide)]
theorem mE.counted {M T : NSt} (h : mE M T) (x : Int32) : mCounted T x = mCounted M x := by
  unfold mCounted
  rw [h.ens]
  exact isum_congr (fun k _ => by rw [h.res, h.1 53 (by decide) (by decide) (by decide)])
theorem mE.v {M T : NSt} (h : mE M T) : ∀ n, n < 2 ^ 31 → mV T n = mV M n := by
  intro n
  induction n using Nat.strongRecOn with
  | ind n ih =>
    intro hn
    have o1 := mwh_off T n
    have o2 := mwh_off M n
    unfold mV mRs
    have eD : mDbl (mwh T n) (nI n) = mDbl (mwh M n) (nI n) := by
      unfold mDbl
      rw [nix_nI hn]
      congr 1
      refine ffind_congr (fun q hq => ?_)
      rw [mwh_at T n hq, mwh_at M n hq, ih q hq (by omega), o1 44 (by decide) (by decide), o2 44 (by decide) (by decide), o1 43 (by decide) (by decide), o2 43 (by decide) (by decide), h.1 44 (by decide) (by decide) (by decide), h.1 43 (by decide) (by decide) (by decide)]
    rw [eD, mCnt_off o1, mCnt_off o2, h.cnt, o1 46 (by decide) (by decide), o2 46 (by decide) (by decide), o1 47 (by decide) (by decide), o2 47 (by decide) (by decide), o1 37 (by decide) (by decide), o2 37 (by decide) (by decide), o1 43 (by decide) (by decide), o2 43 (by decide) (by decide), o1 36 (by decide) (by decide), o2 36 (by decide) (by decide), h.1 46 (by decide) (by decide) (by decide), h.1 47 (by decide) (by decide) (by decide), h.1 37 (by decide) (by decide) (by decide), h.1 43 (by decide) (by decide) (by decide), h.1 36 (by decide) (by decide) (by decide)]
/-- what holds of the model alone -/
def nZ (M : NSt) : Prop := (∀ i, mna M ≤ i → M 38 0 i = 0) ∧ (∀ i, mnv M ≤ i → M 41 0 i = 0) ∧ (∀ i, mnp M ≤ i → M 46 0 i = 0 ∧ M 47 0 i = 0 ∧ M 48 0 i = 0 ∧ M 49 0 i = 0 ∧ M 50 0 i = 0) ∧ (∀ k, narrow .char (.int (M 45 0 k)) = .int (M 45 0 k)) ∧ (∀ k, narrow .char (.int (M 58 0 k)) = .int (M 58 0 k)) ∧ (mOpen M = true → ∀ i, i < mnp M → ¬ M 46 0 i = 2) ∧ (∃ d, d ≤ 99 ∧ M 30 0 4 = nI d)
theorem nZ.z38 {M : NSt} (h : nZ M) : ∀ i, mna M ≤ i → M 38 0 i = 0 := h.1
theorem nZ.z41 {M : NSt} (h : nZ M) : ∀ i, mnv M ≤ i → M 41 0 i = 0 := h.2.1
theorem nZ.zp {M : NSt} (h : nZ M) : ∀ i, mnp M ≤ i → M 46 0 i = 0 ∧ M 47 0 i = 0 ∧ M 48 0 i = 0 ∧ M 49 0 i = 0 ∧ M 50 0 i = 0 := h.2.2.1
theorem nZ.n45 {M : NSt} (h : nZ M) : ∀ k, narrow .char (.int (M 45 0 k)) = .int (M 45 0 k) := h.2.2.2.1
theorem nZ.n58 {M : NSt} (h : nZ M) : ∀ k, narrow .char (.int (M 58 0 k)) = .int (M 58 0 k) := h.2.2.2.2.1
theorem nZ.o {M : NSt} (h : nZ M) : mOpen M = true → ∀ i, i < mnp M → ¬ M 46 0 i = 2 := h.2.2.2.2.2.1
theorem nZ.d {M : NSt} (h : nZ M) : ∃ d, d ≤ 99 ∧ M 30 0 4 = nI d := h.2.2.2.2.2.2
section NQ
variable {S M : NSt} {x : Int32}
theorem mErl_E {T : NSt} (h : mE2 M T) (v : Int32) (n : Nat) : mErl T v n = mErl M v n := by
  unfold mErl
  rw [h.1 55 (by decide) (by decide) (by decide) (by decide) (by decide), h.1 53 (by decide) (by decide) (by decide) (by decide) (by decide), h.1 54 (by decide) (by decide) (by decide) (by decide) (by decide)]
theorem mOk_E {T : NSt} (h : mE2 M T) (g : mOk M) : mOk T := by
  unfold mOk at g ⊢
  rw [h.enp, h.ens, h.env, h.ena, h.2 12 (by decide), h.2 22 (by decide), h.2 9 (by decide), h.2 5 (by decide), h.1 43 (by decide) (by decide) (by decide) (by decide) (by decide), h.1 53 (by decide) (by decide) (by decide) (by decide) (by decide), h.1 54 (by decide) (by decide) (by decide) (by decide) (by decide)]
  exact g
theorem nB.E {T : NSt} (h : nB S M) (g : mE2 M T) : nB S T := by
  have e := fun k a b c a1 b1 => g.1 k a b c a1 b1
  refine ⟨mOk_E g h.ok, ?_, ?_, ?_, ?_, ?_, ?_, ?_, ?_, ?_, ?_, ?_, ?_, ?_, ?_, ?_, ?_⟩
  · rw [g.2 4 (by decide)]; exact h.c0
  · rw [g.2 1 (by decide)]; exact h.c1
  · rw [g.2 2 (by decide)]; exact h.c2
  · rw [g.2 3 (by decide)]; exact h.c3
  · rw [g.2 5 (by decide)]; exact h.na
  · rw [g.2 9 (by decide)]; exact h.nv
  · rw [g.2 12 (by decide)]; exact h.np
  · rw [g.2 22 (by decide)]; exact h.ns
  · rw [g.ena, e 36 (by decide) (by decide) (by decide) (by decide) (by decide), e 37 (by decide) (by decide) (by decide) (by decide) (by decide), e 38 (by decide) (by decide) (by decide) (by decide) (by decide)]; exact h.ar
  · rw [g.env, e 40 (by decide) (by decide) (by decide) (by decide) (by decide), e 41 (by decide) (by decide) (by decide) (by decide) (by decide)]
    intro i hi
    rw [mErl_E g, g.ens]; exact h.vo i hi
  · rw [g.enp, g.ena, e 43 (by decide) (by decide) (by decide) (by decide) (by decide), e 44 (by decide) (by decide) (by decide) (by decide) (by decide), e 47 (by decide) (by decide) (by decide) (by decide) (by decide), e 48 (by decide) (by decide) (by decide) (by decide) (by decide), e 49 (by decide) (by decide) (by decide) (by decide) (by decide), e 50 (by decide) (by decide) (by decide) (by decide) (by decide)]; exact h.pa
  · rw [g.enp, e 45 (by decide) (by decide) (by decide) (by decide) (by decide)]; exact h.nm
  · rw [g.enp, e 46 (by decide) (by decide) (by decide) (by decide) (by decide)]; exact h.wd
  · rw [g.enp]; exact h.wh
  · rw [g.ens, g.enp, g.env, e 53 (by decide) (by decide) (by decide) (by decide) (by decide), e 54 (by decide) (by decide) (by decide) (by decide) (by decide), e 55 (by decide) (by decide) (by decide) (by decide) (by decide)]
    intro k hk
    rw [mErl_E g]; exact h.si k hk
  · rw [g.2 27 (by decide), e 58 (by decide) (by decide) (by decide) (by decide) (by decide)]; exact h.le
theorem nJd.E {T : NSt} (hp : mnp M ≤ 12) (h : nJd S M) (g : mE M T) : nJd S T := by
  refine ⟨fun k hk => ?_, fun i hi => ?_, fun i hi => ?_⟩
  · rw [g.ens] at hk
    rw [g.res]; exact h.r4 k hk
  · rw [g.enp] at hi
    rw [g.counted]; exact h.r8 i hi
  · rw [g.enp] at hi
    rw [g.opn, g.v i (by omega), g.1 51 (by decide) (by decide) (by decide)]; exact h.r9 i hi
theorem nF.E {T : NSt} (h : nF M) (g : mE M T) : nF T := by
  intro ho i hi
  rw [g.opn] at ho
  rw [g.enp] at hi
  rw [g.1 46 (by decide) (by decide) (by decide), g.1 51 (by decide) (by decide) (by decide)]
  exact h ho i hi
theorem nZ.E {T : NSt} (h : nZ M) (g : mE2 M T) : nZ T := by
  refine ⟨?_, ?_, ?_, ?_, ?_, ?_, ?_⟩
  · rw [g.ena, g.1 38 (by decide) (by decide) (by decide) (by decide) (by decide)]; exact h.z38
  · rw [g.env, g.1 41 (by decide) (by decide) (by decide) (by decide) (by decide)]; exact h.z41
  · rw [g.enp, g.1 46 (by decide) (by decide) (by decide) (by decide) (by decide), g.1 47 (by decide) (by decide) (by decide) (by decide) (by decide), g.1 48 (by decide) (by decide) (by decide) (by decide) (by decide), g.1 49 (by decide) (by decide) (by decide) (by decide) (by decide), g.1 50 (by decide) (by decide) (by decide) (by decide) (by decide)]; exact h.zp
  · rw [g.1 45 (by decide) (by decide) (by decide) (by decide) (by decide)]; exact h.n45
  · rw [g.1 58 (by decide) (by decide) (by decide) (by decide) (by decide)]; exact h.n58
  · rw [g.opn, g.enp, g.1 46 (by decide) (by decide) (by decide) (by decide) (by decide)]; exact h.o
  · rw [g.2 4 (by decide)]; exact h.d
theorem nQ.E {T : NSt} (h : nQ S M) (g : mE M T) : nQ S T := ⟨h.b.E g.to, h.j.E h.b.np12 g, h.f.E g⟩
end NQ
