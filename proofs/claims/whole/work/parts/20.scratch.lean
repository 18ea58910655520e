/-! the model: what touches its scratch arrays -/
def mStand (T : NSt) (a : Int32) : Int32 := isum (fun k => if decide (T 43 0 k = a) && decide (mWhy T (nI k) = 0) then 1 else 0) (mnp T)
def mLost (T : NSt) (a : Int32) : Int32 := isum (fun k => if decide (T 43 0 k = a) && decide (mWhy T (nI k) = 0) && decide (mFate T (nI k) = 2) then 1 else 0) (mnp T)
def mFreed (T : NSt) (x : Int32) : Int32 := isum (fun k => if !decide (T 53 0 k = x) && !decide (mOres T k 0 = 0) && decide (mOres T k (1 <<< (x &&& 31)) = 0) then 1 else 0) (mns T)
def mWin (T : NSt) (a : Int32) : Nat → Int32
  | 0 => -1
  | n + 1 => if decide (T 43 0 n = a) && decide (mWhy T (nI n) = 0) && (decide (mWin T a n < 0) || decide (T 50 0 (nix (mWin T a n)) < T 50 0 n)) then nI n else mWin T a n
theorem mWin_s (T : NSt) (a : Int32) (n : Nat) : mWin T a (n + 1) = if decide (T 43 0 n = a) && decide (mWhy T (nI n) = 0) && (decide (mWin T a n < 0) || decide (T 50 0 (nix (mWin T a n)) < T 50 0 n)) then nI n else mWin T a n := rfl
theorem mWin_in (T : NSt) (a : Int32) : ∀ n, n < 2 ^ 31 → mWin T a n = -1 ∨ vp_in (mWin T a n) n
  | 0, _ => Or.inl rfl
  | n + 1, hn => by
    rw [mWin_s]
    split
    · exact Or.inr (vp_in_nI (Nat.lt_succ_self n) hn)
    · exact (mWin_in T a n (by omega)).imp id (fun z => vp_mono z (Nat.le_succ n))
theorem mWin_12 {T : NSt} {a acc : Int32} {n : Nat} (ha : acc = mWin T a n) (hn : n ≤ 12) (h0 : ¬ acc < 0) : vp_in acc 12 := by
  rcases mWin_in T a n (by omega) with h | h
  · rw [ha, h] at h0; exact absurd (by decide) h0
  · rw [ha]; exact vp_mono h hn
def mbf : Nat → Nat → Int32
  | 0, _ => 0
  | f + 1, k => nI (k % 2) + mbf f (k / 2)
theorem mbf_0 : ∀ f, mbf f 0 = 0
  | 0 => rfl
  | f + 1 => by
    show nI (0 % 2) + mbf f (0 / 2) = 0
    rw [Nat.zero_div, mbf_0 f]; rfl
def mfw (T : NSt) (x : Int32) : Nat → Int32
  | 0 => -1
  | n + 1 => if decide (((nI n >>> (x &&& 31)) &&& 1) = 0) && (decide (mfw T x n < 0) || decide (mbf 31 n < mbf 31 (nix (mfw T x n)))) && decide (T 36 0 (nix (T 43 0 (nix x))) ≤ mCnt T x (nI n)) then nI n else mfw T x n
theorem mfw_s (T : NSt) (x : Int32) (n : Nat) : mfw T x (n + 1) = if decide (((nI n >>> (x &&& 31)) &&& 1) = 0) && (decide (mfw T x n < 0) || decide (mbf 31 n < mbf 31 (nix (mfw T x n)))) && decide (T 36 0 (nix (T 43 0 (nix x))) ≤ mCnt T x (nI n)) then nI n else mfw T x n := rfl
theorem shl1 {n : Nat} (h : n ≤ 12) : (1 : Int32) <<< (nI n &&& 31) = nI (2 ^ n) := by
  have h9 : ∀ k, k < 13 → (1 : Int32) <<< (nI k &&& 31) = nI (2 ^ k) := by decide +kernel
  exact h9 n (by omega)
theorem ogt {x : Int32} {n j : Nat} (hx : vp_in x n) (hn : n ≤ 12) (hj : j = nix x + 1) : x < nI j := by
  have h9 := vp_lt hx
  rw [hj, vp_eq hx, nix_nI (by omega)]
  exact (nI_ltI (by omega) (by omega)).mpr (Nat.lt_succ_self _)
theorem ngt {x : Int32} {n j : Nat} (hx : vp_in x n) (hn : n ≤ 12) (hj : j < nix x + 1) : ¬ x < nI j := by
  have h9 := vp_lt hx
  rw [vp_eq hx]
  exact nI_nlt (by omega) (by omega)
/-- the same but for one scratch array -/
def mO60 (T U : NSt) : Prop := ∀ k, k ≠ 60 → U k = T k
theorem mO60.rf {T : NSt} : mO60 T T := fun _ _ => rfl
theorem mO60.off {T U : NSt} (h : mO60 T U) : mOff T U := fun k _ b => h k b
theorem mwh_o60 (T : NSt) : ∀ n, mO60 T (mwh T n)
  | 0 => mO60.rf
  | n + 1 => fun k b => by
    refine Eq.trans ?_ (mwh_o60 T n k b)
    funext i' j'
    show nput _ _ _ _ _ k i' j' = _
    unfold nput
    rw [if_neg (fun z => b z.1)]
/-- after the close -/
def mOf2 (T U : NSt) : Prop := ∀ k, k ≠ 51 → k ≠ 56 → k ≠ 59 → k ≠ 60 → U k = T k
theorem mOf2.rf {T : NSt} : mOf2 T T := fun _ _ _ _ _ => rfl
theorem mOff.of2 {T U : NSt} (h : mOff T U) : mOf2 T U := fun k _ _ c d => h k c d
theorem mOf2.tr {T U V : NSt} (h : mOf2 T U) (g : mOf2 U V) : mOf2 T V := fun k a b c d => (g k a b c d).trans (h k a b c d)
theorem mOf2.put51 {T : NSt} {i j : Nat} {v : Int32} : mOf2 T (nput T 51 i j v) := by
  intro k a _ _ _
  funext i' j'
  unfold nput
  rw [if_neg (fun z => a z.1)]
theorem mOf2.put56 {T : NSt} {i j : Nat} {v : Int32} : mOf2 T (nput T 56 i j v) := by
  intro k _ b _ _
  funext i' j'
  unfold nput
  rw [if_neg (fun z => b z.1)]
theorem mOf2.at {T U : NSt} (h : mOf2 T U) {k : Nat} (hk : k < 51 ∨ k = 53 ∨ k = 54 ∨ k = 55) : U k = T k := h k (by omega) (by omega) (by omega) (by omega)
theorem mOf2.enp {T U : NSt} (h : mOf2 T U) : mnp U = mnp T := by unfold mnp; rw [h.at (k := 30) (by decide)]
theorem mOf2.ens {T U : NSt} (h : mOf2 T U) : mns U = mns T := by unfold mns; rw [h.at (k := 30) (by decide)]
theorem mOf2.ok {T U : NSt} (h : mOf2 T U) (g : mOk T) : mOk U := mOk_of (by rw [h.at (k := 30) (by decide)]; exact ⟨rfl, rfl, rfl, rfl⟩) (h.at (by decide)) (h.at (by decide)) (h.at (by decide)) g
theorem mGone_of2 {T U : NSt} (h : mOf2 T U) (x w : Int32) : mGone U x w = mGone T x w := by unfold mGone; rw [h.at (k := 46) (by decide)]
theorem mFree_of2 {T U : NSt} (h : mOf2 T U) (v : Int32) (n : Nat) (w : Int32) : mFree U v n w = mFree T v n w := by
  unfold mFree
  rw [ffind_congr (fun k _ => by rw [mGone_of2 h, h.at (k := 54) (by decide), h.at (k := 55) (by decide), h.at (k := 53) (by decide)])]
theorem mOres_of2 {T U : NSt} (h : mOf2 T U) (k : Nat) (w : Int32) : mOres U k w = mOres T k w := by
  unfold mOres
  rw [mGone_of2 h, mFree_of2 h, h.at (k := 54) (by decide), h.at (k := 55) (by decide), h.at (k := 53) (by decide), h.at (k := 41) (by decide)]
theorem mcs_of2 {T U : NSt} (h : mOf2 T U) (x w : Int32) : ∀ n, mcs U x w n = mcs T x w n
  | 0 => rfl
  | n + 1 => by rw [mcs_s, mcs_s, mcs_of2 h x w n, mGone_of2 h, h.at (k := 55) (by decide), h.at (k := 53) (by decide), h.at (k := 54) (by decide), h.at (k := 41) (by decide)]
theorem mCnt_of2 {T U : NSt} (h : mOf2 T U) (x w : Int32) : mCnt U x w = mCnt T x w := by unfold mCnt; rw [mcs_of2 h, h.ens]
theorem mwh_cong2 {T U : NSt} (h : mOf2 T U) : ∀ n, n < 2 ^ 31 → ∀ q, q < n → mwh U n 60 0 q = mwh T n 60 0 q
  | 0, _, _, hq => absurd hq (Nat.not_lt_zero _)
  | n + 1, hn, q, hq => by
    have ih := mwh_cong2 h n (by omega)
    have hO : mOf2 (mwh T n) (mwh U n) := fun k a b c d => (mwh_off U n k c d).trans ((h k a b c d).trans (mwh_off T n k c d).symm)
    have hR : mRs (mwh U n) n = mRs (mwh T n) n := by
      have hD : mDbl (mwh U n) (nI n) = mDbl (mwh T n) (nI n) := by
        unfold mDbl
        rw [ffind_congr (fun k hk => by rw [hO.at (k := 44) (by decide), hO.at (k := 43) (by decide), ih k (by rw [nix_nI (by omega)] at hk; exact hk)])]
      unfold mRs
      rw [hO.at (k := 46) (by decide), hO.at (k := 47) (by decide), hO.at (k := 37) (by decide), hO.at (k := 43) (by decide), hO.at (k := 36) (by decide), mCnt_of2 hO, hD]
    show nput (mwh U n) 60 0 n _ 60 0 q = nput (mwh T n) 60 0 n _ 60 0 q
    unfold nput
    by_cases e : q = n
    · rw [if_pos ⟨rfl, e, rfl⟩, if_pos ⟨rfl, e, rfl⟩, hR]
    · rw [if_neg (fun z => e z.2.1), if_neg (fun z => e z.2.1)]
      exact ih q (by omega)
def mClo (T U : NSt) : Prop := mOf2 T U ∧ (∀ k, k < mns T → U 56 0 k = mOres T k 0) ∧ ∀ k, k < mnp T → U 51 0 k = mwh T (k + 1) 60 0 k
def mPass (T : NSt) (a : Int32) (U : NSt) : Prop := if mOpen T && decide (T 30 0 1 < T 30 0 4 + a) then mClo T U else U = T
theorem vp_31 {x : Int32} (h : ¬ x < 0) : vp_in x (2 ^ 31) := by
  obtain ⟨j, hj, rfl⟩ := nI_of h
  rintro (z | z)
  · exact h z
  · rw [show (nI j).toNatClampNeg = j from nI_clamp hj] at z; omega
theorem mC56 {T U : NSt} {j : Nat} (h2 : mOf2 T U) (ej : nix (nI j) = j) (h : ∀ k, k < j → U 56 0 k = mOres T k 0) : ∀ k, k < j + 1 → nput U 56 0 (nix (nI j)) (mOres U (nix (nI j)) 0) 56 0 k = mOres T k 0 := by
  intro k hk
  rw [ej, mOres_of2 h2]
  unfold nput
  by_cases e : k = j
  · rw [if_pos ⟨rfl, e, rfl⟩, e]
  · rw [if_neg (fun z => e z.2.1)]; exact h k (by omega)
theorem mC5651 {T U : NSt} {j n i : Nat} {v : Int32} (h : ∀ k, k < mns T → U 56 0 k = mOres T k 0) : ∀ k, k < mns T → nput (mwh U n) 51 i j v 56 0 k = mOres T k 0 := by
  intro k hk
  show mwh U n 56 0 k = _
  rw [mwh_off U n 56 (by decide) (by decide)]; exact h k hk
theorem mC51 {T U : NSt} {j : Nat} (h2 : mOf2 T U) (hj : j < 1000) (ej : nix (nI j) = j) (h : ∀ k, k < j → U 51 0 k = mwh T (k + 1) 60 0 k) : ∀ k, k < j + 1 → nput (mwh U (nix (nI j) + 1)) 51 0 (nix (nI j)) (mwh U (nix (nI j) + 1) 60 0 (nix (nI j))) 51 0 k = mwh T (k + 1) 60 0 k := by
  intro k hk
  rw [ej]
  unfold nput
  by_cases e : k = j
  · rw [if_pos ⟨rfl, e, rfl⟩, e]; exact mwh_cong2 h2 (j + 1) (by omega) j (Nat.lt_succ_self j)
  · rw [if_neg (fun z => e z.2.1), mwh_off U _ 51 (by decide) (by decide)]; exact h k (by omega)
section N20
variable {l : Launch} {D : va_G} {dA : Nat → ClassId} {ad : Nat → Nat → Nat → Nat} {on : Nat → Prop} {X : NWd} {M T : NSt}
set_option maxHeartbeats 4000000 in
set_option maxRecDepth 100000 in
theorem c_X10_openReason (hI : ninj ad on) (hon3 : on 3) (hok : mOk T) {x : Int32} (hx12 : vp_in x (mnp T)) : nMi l D dA ad on yX10_openReason cX10_openReason 5 (some .int) (nrm 3) [.ref (ad 3 30 0), .int x] (wdo X 3 T) (fun r X' => r = mwh T (nix x + 1) 60 0 (nix x) ∧ X' = wdo X 3 (mwh T (nix x + 1))) := by
  refine nM_of hI (by decide +kernel) (Nat.le_of_ble_eq_true rfl) ?_
  intro p e s m args below meth cd ls hc hr _ hP hl hS
  have hx := hc.1
  have hb := hc.2.1
  have hl : lv_has ls 5 [(0, .ref (ad 3 30 0)), (1, .int x)] := hl
  have lp : ∀ (r j : Nat) , j + r = nix x + 1 → ∀ (H : Heap) (locs : List Loc) (ls : Array Slot), npic D dA ad on (wdo X 3 (mwh T j)) H → va_S (nA ad on) s.heap H locs → lv_has ls 5 [(2, .int (nI j)), (1, .int x), (0, .ref (ad 3 30 0))] → W p l e (nrm 3) s m args below meth cd H locs 0 0 (MQ below (va_Qi (fun r X' => r = mwh T (nix x + 1) 60 0 (nix x) ∧ X' = wdo X 3 (mwh T (nix x + 1))) (fun X' t => npic D dA ad on X' t.heap) (nA ad on)) args s 0 0 (nA ad on)) (F0 m 2 ls []) := by
    intro r
    induction r with
    | zero =>
      intro j  hj  H locs ls hP hS hl
      have hjn : j = nix x + 1 := by omega
      rw [hjn] at hP
      refine lv_iload_n hx hb dX10_openReason_2 rfl (lv_at hl 0 rfl) ?_
      refine lv_iload_n hx hb dX10_openReason_3 rfl (lv_at hl 1 rfl) ?_
      refine lv_icmp_gt (tgt := 115) hx hb dX10_openReason_4 (by decide) (fun c_4 => ?_) (fun c_4 => absurd (ogt hx12 hok.np12 hjn) c_4)
      refine lv_aload_n hx hb dX10_openReason_115 rfl (lv_at hl 2 rfl) ?_
      refine g10_82 hc hP (nv_m hon3 (by decide) Nat.zero_lt_one) dX10_openReason_116 ?_
      refine lv_iload_n hx hb dX10_openReason_119 rfl (lv_at hl 1 rfl) ?_
      refine la_60 hc hP (nv_m hon3 (by decide) Nat.zero_lt_one) (vp_mono hx12 hok.np12) dX10_openReason_120 ?_
      exact ne_i hc hP hS hr dX10_openReason_121 ⟨rfl, rfl⟩
    | succ r ih =>
      intro j  hj  H locs ls hP hS hl
      have hjn : j < nix x + 1 := by omega
      have hj12 : j < 12 := by have := vp_lt hx12; have := hok.np12; omega
      have ej : nix (nI j) = j := nI_clamp (by omega)
      have hjv : vp_in (nI j) 12 := vp_in_nI hj12 (by decide)
      have hoj := (mwh_off T j).ok hok
      have hjp : vp_in (nI j) (mnp (mwh T j)) := by rw [(mwh_off T j).enp]; exact vp_in_nI (by have := vp_lt hx12; omega) hok.npL
      refine lv_iload_n hx hb dX10_openReason_2 rfl (lv_at hl 0 rfl) ?_
      refine lv_iload_n hx hb dX10_openReason_3 rfl (lv_at hl 1 rfl) ?_
      refine lv_icmp_gt (tgt := 115) hx hb dX10_openReason_4 (by decide) (fun c_4 => absurd c_4 (ngt hx12 hok.np12 hjn)) (fun c_4 => ?_)
      refine lv_aload_n hx hb dX10_openReason_7 rfl (lv_at hl 2 rfl) ?_
      refine g10_49 hc hP (nv_m hon3 (by decide) Nat.zero_lt_one) dX10_openReason_8 ?_
      refine lv_iload_n hx hb dX10_openReason_11 rfl (lv_at hl 0 rfl) ?_
      refine la_47 hc hP (nv_m hon3 (by decide) Nat.zero_lt_one) hjv dX10_openReason_12 ?_
      refine lv_aload_n hx hb dX10_openReason_13 rfl (lv_at hl 2 rfl) ?_
      refine g10_23 hc hP (nv_m hon3 (by decide) Nat.zero_lt_one) dX10_openReason_14 ?_
      refine lv_aload_n hx hb dX10_openReason_17 rfl (lv_at hl 2 rfl) ?_
      refine g10_36 hc hP (nv_m hon3 (by decide) Nat.zero_lt_one) dX10_openReason_18 ?_
      refine lv_iload_n hx hb dX10_openReason_21 rfl (lv_at hl 0 rfl) ?_
      refine la_43 hc hP (nv_m hon3 (by decide) Nat.zero_lt_one) hjv dX10_openReason_22 ?_
      refine la_37 hc hP (nv_m hon3 (by decide) Nat.zero_lt_one) (hoj.ar (vp_lt hjp)) dX10_openReason_23 ?_
      refine lv_icmp_ge (tgt := 31) hx hb dX10_openReason_24 (by decide) (fun c_24 => ?_) (fun c_24 => ?_)
      · refine lv_iconst (v := 0) hx hb dX10_openReason_31 (by decide) ?_
        refine lv_istore_n (lv' := [(3, .int _), (2, .int _), (1, .int _), (0, .ref _)]) hx hb dX10_openReason_32 rfl hl (by decide) rfl (fun ls hl => ?_)
        refine lv_aload_n hx hb dX10_openReason_33 rfl (lv_at hl 3 rfl) ?_
        refine lv_iload_n hx hb dX10_openReason_34 rfl (lv_at hl 1 rfl) ?_
        refine lv_iconst (v := 0) hx hb dX10_openReason_35 (by decide) ?_
        refine nc_Vi (c_X10_counting hI hon3 hoj) hc hP hS hl.1 gd10_171 (nrecv (q := (RX10, TX10, 31)) hc (npic_eta hP) (nv_m hon3 (by decide) Nat.zero_lt_one) rfl rfl) ⟨rfl, rfl⟩ nok_X10_counting rfl ⟨Nat.le_of_ble_eq_true rfl, Nat.le_of_ble_eq_true rfl⟩ ⟨Nat.le_of_ble_eq_true rfl, Nat.le_of_ble_eq_true rfl⟩ dX10_openReason_36 rfl (Nat.le_of_ble_eq_true rfl) (fun r X1 H locs hp hP hS => ?_)
        obtain ⟨hr9, hX9⟩ := hp
        rw [hX9] at hP
        subst hr9
        refine lv_aload_n hx hb dX10_openReason_39 rfl (lv_at hl 3 rfl) ?_
        refine g10_19 hc hP (nv_m hon3 (by decide) Nat.zero_lt_one) dX10_openReason_40 ?_
        refine lv_aload_n hx hb dX10_openReason_43 rfl (lv_at hl 3 rfl) ?_
        refine g10_36 hc hP (nv_m hon3 (by decide) Nat.zero_lt_one) dX10_openReason_44 ?_
        refine lv_iload_n hx hb dX10_openReason_47 rfl (lv_at hl 1 rfl) ?_
        refine la_43 hc hP (nv_m hon3 (by decide) Nat.zero_lt_one) hjv dX10_openReason_48 ?_
        refine la_36 hc hP (nv_m hon3 (by decide) Nat.zero_lt_one) (hoj.ar (vp_lt hjp)) dX10_openReason_49 ?_
        refine lv_icmp_ge (tgt := 57) hx hb dX10_openReason_50 (by decide) (fun c_50 => ?_) (fun c_50 => ?_)
        · refine lv_iconst (v := 0) hx hb dX10_openReason_57 (by decide) ?_
          refine lv_istore (lv' := [(4, .int _), (3, .int _), (2, .int _), (1, .int _), (0, .ref _)]) hx hb dX10_openReason_58 hl (by decide) rfl (fun ls hl => ?_)
          refine lv_aload_n hx hb dX10_openReason_60 rfl (lv_at hl 4 rfl) ?_
          refine g10_82 hc hP (nv_m hon3 (by decide) Nat.zero_lt_one) dX10_openReason_61 ?_
          refine lv_iload_n hx hb dX10_openReason_64 rfl (lv_at hl 2 rfl) ?_
          refine lv_aload_n hx hb dX10_openReason_65 rfl (lv_at hl 4 rfl) ?_
          refine g10_46 hc hP (nv_m hon3 (by decide) Nat.zero_lt_one) dX10_openReason_66 ?_
          refine lv_iload_n hx hb dX10_openReason_69 rfl (lv_at hl 2 rfl) ?_
          refine la_46 hc hP (nv_m hon3 (by decide) Nat.zero_lt_one) hjv dX10_openReason_70 ?_
          refine lv_if_le (tgt := 78) hx hb dX10_openReason_71 (by decide) (fun c_71 => ?_) (fun c_71 => ?_)
          · refine lv_iload_n hx hb dX10_openReason_78 rfl (lv_at hl 1 rfl) ?_
            refine lv_if_eq (tgt := 86) hx hb dX10_openReason_79 (by decide) (fun _ => ?_) (fun c => absurd c (by decide))
            refine lv_iload hx hb dX10_openReason_86 (lv_at hl 0 rfl) ?_
            refine lv_if_eq (tgt := 95) hx hb dX10_openReason_88 (by decide) (fun _ => ?_) (fun c => absurd c (by decide))
            refine lv_aload_n hx hb dX10_openReason_95 rfl (lv_at hl 4 rfl) ?_
            refine lv_iload_n hx hb dX10_openReason_96 rfl (lv_at hl 2 rfl) ?_
            refine nc_Vi (c_X10_isDouble hI hon3 (hjv)) hc hP hS hl.1 gd10_177 (nrecv (q := (RX10, TX10, 31)) hc (npic_eta hP) (nv_m hon3 (by decide) Nat.zero_lt_one) rfl rfl) ⟨rfl, rfl⟩ nok_X10_isDouble rfl ⟨Nat.le_of_ble_eq_true rfl, Nat.le_of_ble_eq_true rfl⟩ ⟨Nat.le_of_ble_eq_true rfl, Nat.le_of_ble_eq_true rfl⟩ dX10_openReason_97 rfl (Nat.le_of_ble_eq_true rfl) (fun r X1 H locs hp hP hS => ?_)
            obtain ⟨hr9, hX9⟩ := hp
            rw [hX9] at hP
            subst hr9
            refine lv_if_eq (tgt := 107) hx hb dX10_openReason_100 (by decide) (fun c_100 => ?_) (fun c_100 => ?_)
            · refine lv_iconst (v := 0) hx hb dX10_openReason_107 (by decide) ?_
              refine sa_60 hc hP hS (nv_m hon3 (by decide) Nat.zero_lt_one) hjv dX10_openReason_108 (fun H locs hP hS => ?_)
              refine lv_iinc (v := nI (j + 1)) (lv' := [(2, .int _), (4, .int _), (3, .int _), (1, .int _), (0, .ref _)]) hx hb dX10_openReason_109 hl (k := 2) rfl (nI_inc j) (by decide) rfl (fun ls hl => ?_)
              refine lv_goto (tgt := 2) hx hb dX10_openReason_112 (by decide) ?_
              exact ih (j + 1) (by omega) _ _ _ (by have h9 : mRs (mwh T j) j = 0 := (by clear hP  hS hl hc hx hb hr ih; simp_all [mRs, -Int32.not_le, -Int32.not_lt, i32_lt, nb_t, nb_f, nb_z, nb_o]); rw [ej] at hP; show npic D dA ad on (wdo X 3 (nput (mwh T j) 60 0 j (mRs (mwh T j) j))) _; rw [h9]; exact hP) hS (lv_sub hl [0, 3, 4] rfl)
            · refine lv_iconst (v := 4) hx hb dX10_openReason_103 (by decide) ?_
              refine lv_goto (tgt := 108) hx hb dX10_openReason_104 (by decide) ?_
              refine sa_60 hc hP hS (nv_m hon3 (by decide) Nat.zero_lt_one) hjv dX10_openReason_108 (fun H locs hP hS => ?_)
              refine lv_iinc (v := nI (j + 1)) (lv' := [(2, .int _), (4, .int _), (3, .int _), (1, .int _), (0, .ref _)]) hx hb dX10_openReason_109 hl (k := 2) rfl (nI_inc j) (by decide) rfl (fun ls hl => ?_)
              refine lv_goto (tgt := 2) hx hb dX10_openReason_112 (by decide) ?_
              exact ih (j + 1) (by omega) _ _ _ (by have h9 : mRs (mwh T j) j = 4 := (by clear hP  hS hl hc hx hb hr ih; simp_all [mRs, -Int32.not_le, -Int32.not_lt, i32_lt, nb_t, nb_f, nb_z, nb_o]); rw [ej] at hP; show npic D dA ad on (wdo X 3 (nput (mwh T j) 60 0 j (mRs (mwh T j) j))) _; rw [h9]; exact hP) hS (lv_sub hl [0, 3, 4] rfl)
          · refine lv_iconst (v := 1) hx hb dX10_openReason_74 (by decide) ?_
            refine lv_goto (tgt := 108) hx hb dX10_openReason_75 (by decide) ?_
            refine sa_60 hc hP hS (nv_m hon3 (by decide) Nat.zero_lt_one) hjv dX10_openReason_108 (fun H locs hP hS => ?_)
            refine lv_iinc (v := nI (j + 1)) (lv' := [(2, .int _), (4, .int _), (3, .int _), (1, .int _), (0, .ref _)]) hx hb dX10_openReason_109 hl (k := 2) rfl (nI_inc j) (by decide) rfl (fun ls hl => ?_)
            refine lv_goto (tgt := 2) hx hb dX10_openReason_112 (by decide) ?_
            exact ih (j + 1) (by omega) _ _ _ (by have h9 : mRs (mwh T j) j = 1 := (by clear hP  hS hl hc hx hb hr ih; simp_all [mRs, -Int32.not_le, -Int32.not_lt, i32_lt, nb_t, nb_f, nb_z, nb_o]); rw [ej] at hP; show npic D dA ad on (wdo X 3 (nput (mwh T j) 60 0 j (mRs (mwh T j) j))) _; rw [h9]; exact hP) hS (lv_sub hl [0, 3, 4] rfl)
        · refine lv_iconst (v := 1) hx hb dX10_openReason_53 (by decide) ?_
          refine lv_goto (tgt := 58) hx hb dX10_openReason_54 (by decide) ?_
          refine lv_istore (lv' := [(4, .int _), (3, .int _), (2, .int _), (1, .int _), (0, .ref _)]) hx hb dX10_openReason_58 hl (by decide) rfl (fun ls hl => ?_)
          refine lv_aload_n hx hb dX10_openReason_60 rfl (lv_at hl 4 rfl) ?_
          refine g10_82 hc hP (nv_m hon3 (by decide) Nat.zero_lt_one) dX10_openReason_61 ?_
          refine lv_iload_n hx hb dX10_openReason_64 rfl (lv_at hl 2 rfl) ?_
          refine lv_aload_n hx hb dX10_openReason_65 rfl (lv_at hl 4 rfl) ?_
          refine g10_46 hc hP (nv_m hon3 (by decide) Nat.zero_lt_one) dX10_openReason_66 ?_
          refine lv_iload_n hx hb dX10_openReason_69 rfl (lv_at hl 2 rfl) ?_
          refine la_46 hc hP (nv_m hon3 (by decide) Nat.zero_lt_one) hjv dX10_openReason_70 ?_
          refine lv_if_le (tgt := 78) hx hb dX10_openReason_71 (by decide) (fun c_71 => ?_) (fun c_71 => ?_)
          · refine lv_iload_n hx hb dX10_openReason_78 rfl (lv_at hl 1 rfl) ?_
            refine lv_if_eq (tgt := 86) hx hb dX10_openReason_79 (by decide) (fun _ => ?_) (fun c => absurd c (by decide))
            refine lv_iload hx hb dX10_openReason_86 (lv_at hl 0 rfl) ?_
            refine lv_if_eq (tgt := 95) hx hb dX10_openReason_88 (by decide) (fun c => absurd c (by decide)) (fun _ => ?_)
            refine lv_iconst (v := 3) hx hb dX10_openReason_91 (by decide) ?_
            refine lv_goto (tgt := 108) hx hb dX10_openReason_92 (by decide) ?_
            refine sa_60 hc hP hS (nv_m hon3 (by decide) Nat.zero_lt_one) hjv dX10_openReason_108 (fun H locs hP hS => ?_)
            refine lv_iinc (v := nI (j + 1)) (lv' := [(2, .int _), (4, .int _), (3, .int _), (1, .int _), (0, .ref _)]) hx hb dX10_openReason_109 hl (k := 2) rfl (nI_inc j) (by decide) rfl (fun ls hl => ?_)
            refine lv_goto (tgt := 2) hx hb dX10_openReason_112 (by decide) ?_
            exact ih (j + 1) (by omega) _ _ _ (by have h9 : mRs (mwh T j) j = 3 := (by clear hP  hS hl hc hx hb hr ih; simp_all [mRs, -Int32.not_le, -Int32.not_lt, i32_lt, nb_t, nb_f, nb_z, nb_o]); rw [ej] at hP; show npic D dA ad on (wdo X 3 (nput (mwh T j) 60 0 j (mRs (mwh T j) j))) _; rw [h9]; exact hP) hS (lv_sub hl [0, 3, 4] rfl)
          · refine lv_iconst (v := 1) hx hb dX10_openReason_74 (by decide) ?_
            refine lv_goto (tgt := 108) hx hb dX10_openReason_75 (by decide) ?_
            refine sa_60 hc hP hS (nv_m hon3 (by decide) Nat.zero_lt_one) hjv dX10_openReason_108 (fun H locs hP hS => ?_)
            refine lv_iinc (v := nI (j + 1)) (lv' := [(2, .int _), (4, .int _), (3, .int _), (1, .int _), (0, .ref _)]) hx hb dX10_openReason_109 hl (k := 2) rfl (nI_inc j) (by decide) rfl (fun ls hl => ?_)
            refine lv_goto (tgt := 2) hx hb dX10_openReason_112 (by decide) ?_
            exact ih (j + 1) (by omega) _ _ _ (by have h9 : mRs (mwh T j) j = 1 := (by clear hP  hS hl hc hx hb hr ih; simp_all [mRs, -Int32.not_le, -Int32.not_lt, i32_lt, nb_t, nb_f, nb_z, nb_o]); rw [ej] at hP; show npic D dA ad on (wdo X 3 (nput (mwh T j) 60 0 j (mRs (mwh T j) j))) _; rw [h9]; exact hP) hS (lv_sub hl [0, 3, 4] rfl)
      · refine lv_iconst (v := 1) hx hb dX10_openReason_27 (by decide) ?_
        refine lv_goto (tgt := 32) hx hb dX10_openReason_28 (by decide) ?_
        refine lv_istore_n (lv' := [(3, .int _), (2, .int _), (1, .int _), (0, .ref _)]) hx hb dX10_openReason_32 rfl hl (by decide) rfl (fun ls hl => ?_)
        refine lv_aload_n hx hb dX10_openReason_33 rfl (lv_at hl 3 rfl) ?_
        refine lv_iload_n hx hb dX10_openReason_34 rfl (lv_at hl 1 rfl) ?_
        refine lv_iconst (v := 0) hx hb dX10_openReason_35 (by decide) ?_
        refine nc_Vi (c_X10_counting hI hon3 hoj) hc hP hS hl.1 gd10_171 (nrecv (q := (RX10, TX10, 31)) hc (npic_eta hP) (nv_m hon3 (by decide) Nat.zero_lt_one) rfl rfl) ⟨rfl, rfl⟩ nok_X10_counting rfl ⟨Nat.le_of_ble_eq_true rfl, Nat.le_of_ble_eq_true rfl⟩ ⟨Nat.le_of_ble_eq_true rfl, Nat.le_of_ble_eq_true rfl⟩ dX10_openReason_36 rfl (Nat.le_of_ble_eq_true rfl) (fun r X1 H locs hp hP hS => ?_)
        obtain ⟨hr9, hX9⟩ := hp
        rw [hX9] at hP
        subst hr9
        refine lv_aload_n hx hb dX10_openReason_39 rfl (lv_at hl 3 rfl) ?_
        refine g10_19 hc hP (nv_m hon3 (by decide) Nat.zero_lt_one) dX10_openReason_40 ?_
        refine lv_aload_n hx hb dX10_openReason_43 rfl (lv_at hl 3 rfl) ?_
        refine g10_36 hc hP (nv_m hon3 (by decide) Nat.zero_lt_one) dX10_openReason_44 ?_
        refine lv_iload_n hx hb dX10_openReason_47 rfl (lv_at hl 1 rfl) ?_
        refine la_43 hc hP (nv_m hon3 (by decide) Nat.zero_lt_one) hjv dX10_openReason_48 ?_
        refine la_36 hc hP (nv_m hon3 (by decide) Nat.zero_lt_one) (hoj.ar (vp_lt hjp)) dX10_openReason_49 ?_
        refine lv_icmp_ge (tgt := 57) hx hb dX10_openReason_50 (by decide) (fun c_50 => ?_) (fun c_50 => ?_)
        · refine lv_iconst (v := 0) hx hb dX10_openReason_57 (by decide) ?_
          refine lv_istore (lv' := [(4, .int _), (3, .int _), (2, .int _), (1, .int _), (0, .ref _)]) hx hb dX10_openReason_58 hl (by decide) rfl (fun ls hl => ?_)
          refine lv_aload_n hx hb dX10_openReason_60 rfl (lv_at hl 4 rfl) ?_
          refine g10_82 hc hP (nv_m hon3 (by decide) Nat.zero_lt_one) dX10_openReason_61 ?_
          refine lv_iload_n hx hb dX10_openReason_64 rfl (lv_at hl 2 rfl) ?_
          refine lv_aload_n hx hb dX10_openReason_65 rfl (lv_at hl 4 rfl) ?_
          refine g10_46 hc hP (nv_m hon3 (by decide) Nat.zero_lt_one) dX10_openReason_66 ?_
          refine lv_iload_n hx hb dX10_openReason_69 rfl (lv_at hl 2 rfl) ?_
          refine la_46 hc hP (nv_m hon3 (by decide) Nat.zero_lt_one) hjv dX10_openReason_70 ?_
          refine lv_if_le (tgt := 78) hx hb dX10_openReason_71 (by decide) (fun c_71 => ?_) (fun c_71 => ?_)
          · refine lv_iload_n hx hb dX10_openReason_78 rfl (lv_at hl 1 rfl) ?_
            refine lv_if_eq (tgt := 86) hx hb dX10_openReason_79 (by decide) (fun c => absurd c (by decide)) (fun _ => ?_)
            refine lv_iconst (v := 2) hx hb dX10_openReason_82 (by decide) ?_
            refine lv_goto (tgt := 108) hx hb dX10_openReason_83 (by decide) ?_
            refine sa_60 hc hP hS (nv_m hon3 (by decide) Nat.zero_lt_one) hjv dX10_openReason_108 (fun H locs hP hS => ?_)
            refine lv_iinc (v := nI (j + 1)) (lv' := [(2, .int _), (4, .int _), (3, .int _), (1, .int _), (0, .ref _)]) hx hb dX10_openReason_109 hl (k := 2) rfl (nI_inc j) (by decide) rfl (fun ls hl => ?_)
            refine lv_goto (tgt := 2) hx hb dX10_openReason_112 (by decide) ?_
            exact ih (j + 1) (by omega) _ _ _ (by have h9 : mRs (mwh T j) j = 2 := (by clear hP  hS hl hc hx hb hr ih; simp_all [mRs, -Int32.not_le, -Int32.not_lt, i32_lt, nb_t, nb_f, nb_z, nb_o]); rw [ej] at hP; show npic D dA ad on (wdo X 3 (nput (mwh T j) 60 0 j (mRs (mwh T j) j))) _; rw [h9]; exact hP) hS (lv_sub hl [0, 3, 4] rfl)
          · refine lv_iconst (v := 1) hx hb dX10_openReason_74 (by decide) ?_
            refine lv_goto (tgt := 108) hx hb dX10_openReason_75 (by decide) ?_
            refine sa_60 hc hP hS (nv_m hon3 (by decide) Nat.zero_lt_one) hjv dX10_openReason_108 (fun H locs hP hS => ?_)
            refine lv_iinc (v := nI (j + 1)) (lv' := [(2, .int _), (4, .int _), (3, .int _), (1, .int _), (0, .ref _)]) hx hb dX10_openReason_109 hl (k := 2) rfl (nI_inc j) (by decide) rfl (fun ls hl => ?_)
            refine lv_goto (tgt := 2) hx hb dX10_openReason_112 (by decide) ?_
            exact ih (j + 1) (by omega) _ _ _ (by have h9 : mRs (mwh T j) j = 1 := (by clear hP  hS hl hc hx hb hr ih; simp_all [mRs, -Int32.not_le, -Int32.not_lt, i32_lt, nb_t, nb_f, nb_z, nb_o]); rw [ej] at hP; show npic D dA ad on (wdo X 3 (nput (mwh T j) 60 0 j (mRs (mwh T j) j))) _; rw [h9]; exact hP) hS (lv_sub hl [0, 3, 4] rfl)
        · refine lv_iconst (v := 1) hx hb dX10_openReason_53 (by decide) ?_
          refine lv_goto (tgt := 58) hx hb dX10_openReason_54 (by decide) ?_
          refine lv_istore (lv' := [(4, .int _), (3, .int _), (2, .int _), (1, .int _), (0, .ref _)]) hx hb dX10_openReason_58 hl (by decide) rfl (fun ls hl => ?_)
          refine lv_aload_n hx hb dX10_openReason_60 rfl (lv_at hl 4 rfl) ?_
          refine g10_82 hc hP (nv_m hon3 (by decide) Nat.zero_lt_one) dX10_openReason_61 ?_
          refine lv_iload_n hx hb dX10_openReason_64 rfl (lv_at hl 2 rfl) ?_
          refine lv_aload_n hx hb dX10_openReason_65 rfl (lv_at hl 4 rfl) ?_
          refine g10_46 hc hP (nv_m hon3 (by decide) Nat.zero_lt_one) dX10_openReason_66 ?_
          refine lv_iload_n hx hb dX10_openReason_69 rfl (lv_at hl 2 rfl) ?_
          refine la_46 hc hP (nv_m hon3 (by decide) Nat.zero_lt_one) hjv dX10_openReason_70 ?_
          refine lv_if_le (tgt := 78) hx hb dX10_openReason_71 (by decide) (fun c_71 => ?_) (fun c_71 => ?_)
          · refine lv_iload_n hx hb dX10_openReason_78 rfl (lv_at hl 1 rfl) ?_
            refine lv_if_eq (tgt := 86) hx hb dX10_openReason_79 (by decide) (fun c => absurd c (by decide)) (fun _ => ?_)
            refine lv_iconst (v := 2) hx hb dX10_openReason_82 (by decide) ?_
            refine lv_goto (tgt := 108) hx hb dX10_openReason_83 (by decide) ?_
            refine sa_60 hc hP hS (nv_m hon3 (by decide) Nat.zero_lt_one) hjv dX10_openReason_108 (fun H locs hP hS => ?_)
            refine lv_iinc (v := nI (j + 1)) (lv' := [(2, .int _), (4, .int _), (3, .int _), (1, .int _), (0, .ref _)]) hx hb dX10_openReason_109 hl (k := 2) rfl (nI_inc j) (by decide) rfl (fun ls hl => ?_)
            refine lv_goto (tgt := 2) hx hb dX10_openReason_112 (by decide) ?_
            exact ih (j + 1) (by omega) _ _ _ (by have h9 : mRs (mwh T j) j = 2 := (by clear hP  hS hl hc hx hb hr ih; simp_all [mRs, -Int32.not_le, -Int32.not_lt, i32_lt, nb_t, nb_f, nb_z, nb_o]); rw [ej] at hP; show npic D dA ad on (wdo X 3 (nput (mwh T j) 60 0 j (mRs (mwh T j) j))) _; rw [h9]; exact hP) hS (lv_sub hl [0, 3, 4] rfl)
          · refine lv_iconst (v := 1) hx hb dX10_openReason_74 (by decide) ?_
            refine lv_goto (tgt := 108) hx hb dX10_openReason_75 (by decide) ?_
            refine sa_60 hc hP hS (nv_m hon3 (by decide) Nat.zero_lt_one) hjv dX10_openReason_108 (fun H locs hP hS => ?_)
            refine lv_iinc (v := nI (j + 1)) (lv' := [(2, .int _), (4, .int _), (3, .int _), (1, .int _), (0, .ref _)]) hx hb dX10_openReason_109 hl (k := 2) rfl (nI_inc j) (by decide) rfl (fun ls hl => ?_)
            refine lv_goto (tgt := 2) hx hb dX10_openReason_112 (by decide) ?_
            exact ih (j + 1) (by omega) _ _ _ (by have h9 : mRs (mwh T j) j = 1 := (by clear hP  hS hl hc hx hb hr ih; simp_all [mRs, -Int32.not_le, -Int32.not_lt, i32_lt, nb_t, nb_f, nb_z, nb_o]); rw [ej] at hP; show npic D dA ad on (wdo X 3 (nput (mwh T j) 60 0 j (mRs (mwh T j) j))) _; rw [h9]; exact hP) hS (lv_sub hl [0, 3, 4] rfl)
  refine lv_iconst (v := nI 0) hx hb dX10_openReason_0 (by decide) ?_
  refine lv_istore_n (lv' := [(2, .int _), (0, .ref _), (1, .int _)]) hx hb dX10_openReason_1 rfl hl (by decide) rfl (fun ls hl => ?_)
  exact lp _ 0 (Nat.zero_add _) _ _ _ hP hS (lv_sub hl [0, 2, 1] rfl)
set_option maxHeartbeats 4000000 in
set_option maxRecDepth 100000 in
theorem c_X10_reasonOf (hI : ninj ad on) (hon3 : on 3) (hok : mOk T) {x : Int32} (hx12 : vp_in x (mnp T)) : nMi l D dA ad on yX10_reasonOf cX10_reasonOf 3 (some .int) (nrm 4) [.ref (ad 3 30 0), .int x] (wdo X 3 T) (fun r X' => ∃ U, mO60 T U ∧ r = mWhy T x ∧ X' = wdo X 3 U) := by
  refine nM_of hI (by decide +kernel) (Nat.le_of_ble_eq_true rfl) ?_
  intro p e s m args below meth cd ls hc hr _ hP hl hS
  have hx := hc.1
  have hb := hc.2.1
  have hl : lv_has ls 3 [(0, .ref (ad 3 30 0)), (1, .int x)] := hl
  have e48 : mwh T (nix x + 1) 48 = T 48 := mwh_off T _ 48 (by decide) (by decide)
  refine lv_aload_n hx hb dX10_reasonOf_0 rfl (lv_at hl 0 rfl) ?_
  refine g10_46 hc hP (nv_m hon3 (by decide) Nat.zero_lt_one) dX10_reasonOf_1 ?_
  refine lv_iload_n hx hb dX10_reasonOf_4 rfl (lv_at hl 1 rfl) ?_
  refine la_46 hc hP (nv_m hon3 (by decide) Nat.zero_lt_one) (vp_mono hx12 hok.np12) dX10_reasonOf_5 ?_
  refine lv_if_le (tgt := 13) hx hb dX10_reasonOf_6 (by decide) (fun c_6 => ?_) (fun c_6 => ?_)
  · refine lv_aload_n hx hb dX10_reasonOf_13 rfl (lv_at hl 0 rfl) ?_
    refine nc_Vi (c_X10_open hI hon3 ) hc hP hS hl.1 gd10_108 (nrecv (q := (RX10, TX10, 31)) hc (npic_eta hP) (nv_m hon3 (by decide) Nat.zero_lt_one) rfl rfl) ⟨rfl, rfl⟩ nok_X10_open rfl ⟨Nat.le_of_ble_eq_true rfl, Nat.le_of_ble_eq_true rfl⟩ ⟨Nat.le_of_ble_eq_true rfl, Nat.le_of_ble_eq_true rfl⟩ dX10_reasonOf_14 rfl (Nat.le_of_ble_eq_true rfl) (fun r X1 H locs hp hP hS => ?_)
    obtain ⟨hr9, hX9⟩ := hp
    rw [hX9] at hP
    subst hr9
    refine lv_if_eq (tgt := 28) hx hb dX10_reasonOf_17 (by decide) (fun c_17 => ?_) (fun c_17 => ?_)
    · refine lv_aload_n hx hb dX10_reasonOf_28 rfl (lv_at hl 0 rfl) ?_
      refine g10_61 hc hP (nv_m hon3 (by decide) Nat.zero_lt_one) dX10_reasonOf_29 ?_
      refine lv_iload_n hx hb dX10_reasonOf_32 rfl (lv_at hl 1 rfl) ?_
      refine la_51 hc hP (nv_m hon3 (by decide) Nat.zero_lt_one) (vp_mono hx12 hok.np12) dX10_reasonOf_33 ?_
      refine lv_istore_n (lv' := [(2, .int _), (0, .ref _), (1, .int _)]) hx hb dX10_reasonOf_34 rfl hl (by decide) rfl (fun ls hl => ?_)
      refine lv_iload_n hx hb dX10_reasonOf_35 rfl (lv_at hl 0 rfl) ?_
      refine lv_if_ne (tgt := 52) hx hb dX10_reasonOf_36 (by decide) (fun c_36 => ?_) (fun c_36 => ?_)
      · refine lv_iload_n hx hb dX10_reasonOf_52 rfl (lv_at hl 0 rfl) ?_
        exact ne_i hc hP hS hr dX10_reasonOf_53 ⟨_, mO60.rf, by clear hP hS hl hc hx hb hr; simp_all [mWhy, mWhy0, -Int32.not_le, -Int32.not_lt, i32_lt, nb_t, nb_f, nb_z, nb_o], rfl⟩
      · refine lv_aload_n hx hb dX10_reasonOf_39 rfl (lv_at hl 1 rfl) ?_
        refine g10_52 hc hP (nv_m hon3 (by decide) Nat.zero_lt_one) dX10_reasonOf_40 ?_
        refine lv_iload_n hx hb dX10_reasonOf_43 rfl (lv_at hl 2 rfl) ?_
        refine la_48 hc hP (nv_m hon3 (by decide) Nat.zero_lt_one) (vp_mono hx12 hok.np12) dX10_reasonOf_44 ?_
        refine lv_if_eq (tgt := 52) hx hb dX10_reasonOf_45 (by decide) (fun c_45 => ?_) (fun c_45 => ?_)
        · refine lv_iload_n hx hb dX10_reasonOf_52 rfl (lv_at hl 0 rfl) ?_
          exact ne_i hc hP hS hr dX10_reasonOf_53 ⟨_, mO60.rf, by clear hP hS hl hc hx hb hr; simp_all [mWhy, mWhy0, -Int32.not_le, -Int32.not_lt, i32_lt, nb_t, nb_f, nb_z, nb_o], rfl⟩
        · refine lv_iconst (v := 5) hx hb dX10_reasonOf_48 (by decide) ?_
          refine lv_goto (tgt := 53) hx hb dX10_reasonOf_49 (by decide) ?_
          exact ne_i hc hP hS hr dX10_reasonOf_53 ⟨_, mO60.rf, by clear hP hS hl hc hx hb hr; simp_all [mWhy, mWhy0, -Int32.not_le, -Int32.not_lt, i32_lt, nb_t, nb_f, nb_z, nb_o], rfl⟩
    · refine lv_aload_n hx hb dX10_reasonOf_20 rfl (lv_at hl 0 rfl) ?_
      refine lv_iload_n hx hb dX10_reasonOf_21 rfl (lv_at hl 1 rfl) ?_
      refine nc_Vi (c_X10_openReason hI hon3 hok (hx12)) hc hP hS hl.1 gd10_122 (nrecv (q := (RX10, TX10, 31)) hc (npic_eta hP) (nv_m hon3 (by decide) Nat.zero_lt_one) rfl rfl) ⟨rfl, rfl⟩ nok_X10_openReason rfl ⟨Nat.le_of_ble_eq_true rfl, Nat.le_of_ble_eq_true rfl⟩ ⟨Nat.le_of_ble_eq_true rfl, Nat.le_of_ble_eq_true rfl⟩ dX10_reasonOf_22 rfl (Nat.le_of_ble_eq_true rfl) (fun r X1 H locs hp hP hS => ?_)
      obtain ⟨hr9, hX9⟩ := hp
      rw [hX9] at hP
      subst hr9
      refine lv_goto (tgt := 34) hx hb dX10_reasonOf_25 (by decide) ?_
      refine lv_istore_n (lv' := [(2, .int _), (0, .ref _), (1, .int _)]) hx hb dX10_reasonOf_34 rfl hl (by decide) rfl (fun ls hl => ?_)
      refine lv_iload_n hx hb dX10_reasonOf_35 rfl (lv_at hl 0 rfl) ?_
      refine lv_if_ne (tgt := 52) hx hb dX10_reasonOf_36 (by decide) (fun c_36 => ?_) (fun c_36 => ?_)
      · refine lv_iload_n hx hb dX10_reasonOf_52 rfl (lv_at hl 0 rfl) ?_
        exact ne_i hc hP hS hr dX10_reasonOf_53 ⟨_, mwh_o60 T _, by clear hP hS hl hc hx hb hr; simp_all [mWhy, mWhy0, -Int32.not_le, -Int32.not_lt, i32_lt, nb_t, nb_f, nb_z, nb_o], rfl⟩
      · refine lv_aload_n hx hb dX10_reasonOf_39 rfl (lv_at hl 1 rfl) ?_
        refine g10_52 hc hP (nv_m hon3 (by decide) Nat.zero_lt_one) dX10_reasonOf_40 ?_
        refine lv_iload_n hx hb dX10_reasonOf_43 rfl (lv_at hl 2 rfl) ?_
        refine la_48 hc hP (nv_m hon3 (by decide) Nat.zero_lt_one) (vp_mono hx12 hok.np12) dX10_reasonOf_44 ?_
        refine lv_if_eq (tgt := 52) hx hb dX10_reasonOf_45 (by decide) (fun c_45 => ?_) (fun c_45 => ?_)
        · refine lv_iload_n hx hb dX10_reasonOf_52 rfl (lv_at hl 0 rfl) ?_
          exact ne_i hc hP hS hr dX10_reasonOf_53 ⟨_, mwh_o60 T _, by clear hP hS hl hc hx hb hr; simp_all [mWhy, mWhy0, -Int32.not_le, -Int32.not_lt, i32_lt, nb_t, nb_f, nb_z, nb_o], rfl⟩
        · refine lv_iconst (v := 5) hx hb dX10_reasonOf_48 (by decide) ?_
          refine lv_goto (tgt := 53) hx hb dX10_reasonOf_49 (by decide) ?_
          exact ne_i hc hP hS hr dX10_reasonOf_53 ⟨_, mwh_o60 T _, by clear hP hS hl hc hx hb hr; simp_all [mWhy, mWhy0, -Int32.not_le, -Int32.not_lt, i32_lt, nb_t, nb_f, nb_z, nb_o], rfl⟩
  · refine lv_iconst (v := 1) hx hb dX10_reasonOf_9 (by decide) ?_
    refine lv_goto (tgt := 34) hx hb dX10_reasonOf_10 (by decide) ?_
    refine lv_istore_n (lv' := [(2, .int _), (0, .ref _), (1, .int _)]) hx hb dX10_reasonOf_34 rfl hl (by decide) rfl (fun ls hl => ?_)
    refine lv_iload_n hx hb dX10_reasonOf_35 rfl (lv_at hl 0 rfl) ?_
    refine lv_if_ne (tgt := 52) hx hb dX10_reasonOf_36 (by decide) (fun _ => ?_) (fun c => absurd c (by decide))
    refine lv_iload_n hx hb dX10_reasonOf_52 rfl (lv_at hl 0 rfl) ?_
    exact ne_i hc hP hS hr dX10_reasonOf_53 ⟨_, mO60.rf, by clear hP hS hl hc hx hb hr; simp_all [mWhy, mWhy0, -Int32.not_le, -Int32.not_lt, i32_lt, nb_t, nb_f, nb_z, nb_o], rfl⟩
set_option maxHeartbeats 4000000 in
set_option maxRecDepth 100000 in
theorem c_X10_reason (hI : ninj ad on) (hon3 : on 3) (hT : nput M 30 0 0 0 = T) (hok : mOk T) {x : Int32} : nMi l D dA ad on yX10_reason cX10_reason 2 (some .int) (nrm 9) [.ref (ad 3 30 0), .int x] (wdo X 3 M) (fun r X' => ∃ U, (mOff T U) ∧ r = (mG (mIn x 0 (T 30 0 12 - 1)) 1 T (0 : Int32) ((mWhy T x, U))).1 ∧ X' = wdo X 3 (mG (mIn x 0 (T 30 0 12 - 1)) 1 T (0 : Int32) ((mWhy T x, U))).2) := by
  refine nM_of hI (by decide +kernel) (Nat.le_of_ble_eq_true rfl) ?_
  intro p e s m args below meth cd ls hc hr _ hP hl hS
  have hx := hc.1
  have hb := hc.2.1
  have hl : lv_has ls 2 [(0, .ref (ad 3 30 0)), (1, .int x)] := hl
  refine lv_aload_n hx hb dX10_reason_0 rfl (lv_at hl 0 rfl) ?_
  refine lv_iconst (v := 0) hx hb dX10_reason_1 (by decide) ?_
  refine p10_85 hc hP hS (nv_m hon3 (by decide) Nat.zero_lt_one) dX10_reason_2 (fun H locs hP hS => ?_)
  rw [hT] at hP
  refine lv_aload_n hx hb dX10_reason_5 rfl (lv_at hl 0 rfl) ?_
  refine lv_iload_n hx hb dX10_reason_6 rfl (lv_at hl 1 rfl) ?_
  refine nc_Vi (c_X10_isPaper hI hon3 ) hc hP hS hl.1 gd10_152 (nrecv (q := (RX10, TX10, 31)) hc (npic_eta hP) (nv_m hon3 (by decide) Nat.zero_lt_one) rfl rfl) ⟨rfl, rfl⟩ nok_X10_isPaper rfl ⟨Nat.le_of_ble_eq_true rfl, Nat.le_of_ble_eq_true rfl⟩ ⟨Nat.le_of_ble_eq_true rfl, Nat.le_of_ble_eq_true rfl⟩ dX10_reason_7 rfl (Nat.le_of_ble_eq_true rfl) (fun r X1 H locs hp hP hS => ?_)
  obtain ⟨hr9, hX9⟩ := hp
  rw [hX9] at hP
  subst hr9
  refine lv_if_eq (tgt := 21) hx hb dX10_reason_10 (by decide) (fun c_10 => ?_) (fun c_10 => ?_)
  · refine lv_aload_n hx hb dX10_reason_21 rfl (lv_at hl 0 rfl) ?_
    refine lv_iconst (v := 1) hx hb dX10_reason_22 (by decide) ?_
    refine nc_Vi (c_X10_fails hI hon3) hc hP hS hl.1 gd10_104 (nrecv (q := (RX10, TX10, 31)) hc (npic_eta hP) (nv_m hon3 (by decide) Nat.zero_lt_one) rfl rfl) ⟨rfl, rfl⟩ nok_X10_fails rfl ⟨Nat.le_of_ble_eq_true rfl, Nat.le_of_ble_eq_true rfl⟩ ⟨Nat.le_of_ble_eq_true rfl, Nat.le_of_ble_eq_true rfl⟩ dX10_reason_23 rfl (Nat.le_of_ble_eq_true rfl) (fun r X1 H locs hp hP hS => ?_)
    obtain ⟨hr9, hX9⟩ := hp
    rw [hX9] at hP
    subst hr9
    exact ne_i hc hP hS hr dX10_reason_26 ⟨_, mOff.rf, (mR_of (mG_f (by clear hP hS hl hc hx hb hr hT; simp_all [-Int32.not_le, -Int32.not_lt, i32_lt, nb_t, nb_f, nb_z, nb_o])))⟩
  · refine lv_aload_n hx hb dX10_reason_13 rfl (lv_at hl 0 rfl) ?_
    refine lv_iload_n hx hb dX10_reason_14 rfl (lv_at hl 1 rfl) ?_
    refine nc_Vi (c_X10_reasonOf hI hon3 hok ((mvp0 (nb_nz.mp c_10) hok.np hok.npL))) hc hP hS hl.1 gd10_180 (nrecv (q := (RX10, TX10, 31)) hc (npic_eta hP) (nv_m hon3 (by decide) Nat.zero_lt_one) rfl rfl) ⟨rfl, rfl⟩ nok_X10_reasonOf rfl ⟨Nat.le_of_ble_eq_true rfl, Nat.le_of_ble_eq_true rfl⟩ ⟨Nat.le_of_ble_eq_true rfl, Nat.le_of_ble_eq_true rfl⟩ dX10_reason_15 rfl (Nat.le_of_ble_eq_true rfl) (fun r X1 H locs hp hP hS => ?_)
    obtain ⟨U15, hO15, hr9, hX9⟩ := hp
    have hU15 := hO15.off
    rw [hX9] at hP
    subst hr9
    have hK15 : ∀ k, k ≠ 59 → k ≠ 60 → U15 k = T k := hU15
    refine lv_goto (tgt := 26) hx hb dX10_reason_18 (by decide) ?_
    exact ne_i hc hP hS hr dX10_reason_26 ⟨_, hU15, (mR_of ((mG_t (by clear hP hS hl hc hx hb hr hT; simp_all [-Int32.not_le, -Int32.not_lt, i32_lt, nb_t, nb_f, nb_z, nb_o])).trans (rfl)))⟩
set_option maxHeartbeats 4000000 in
set_option maxRecDepth 100000 in
theorem c_X10_reasonByReplay (hI : ninj ad on) (hon3 : on 3) (hT : nput M 30 0 0 0 = T) (hok : mOk T) {x : Int32} : nMi l D dA ad on yX10_reasonByReplay cX10_reasonByReplay 2 (some .int) (nrm 9) [.ref (ad 3 30 0), .int x] (wdo X 3 M) (fun r X' => ∃ U, (mOff T U) ∧ r = (mG (mIn x 0 (T 30 0 12 - 1)) 1 T (0 : Int32) ((mWhy T x, U))).1 ∧ X' = wdo X 3 (mG (mIn x 0 (T 30 0 12 - 1)) 1 T (0 : Int32) ((mWhy T x, U))).2) := by
  refine nM_of hI (by decide +kernel) (Nat.le_of_ble_eq_true rfl) ?_
  intro p e s m args below meth cd ls hc hr _ hP hl hS
  have hx := hc.1
  have hb := hc.2.1
  have hl : lv_has ls 2 [(0, .ref (ad 3 30 0)), (1, .int x)] := hl
  refine lv_aload_n hx hb dX10_reasonByReplay_0 rfl (lv_at hl 0 rfl) ?_
  refine lv_iconst (v := 0) hx hb dX10_reasonByReplay_1 (by decide) ?_
  refine p10_85 hc hP hS (nv_m hon3 (by decide) Nat.zero_lt_one) dX10_reasonByReplay_2 (fun H locs hP hS => ?_)
  rw [hT] at hP
  refine lv_aload_n hx hb dX10_reasonByReplay_5 rfl (lv_at hl 0 rfl) ?_
  refine lv_iload_n hx hb dX10_reasonByReplay_6 rfl (lv_at hl 1 rfl) ?_
  refine nc_Vi (c_X10_isPaper hI hon3 ) hc hP hS hl.1 gd10_152 (nrecv (q := (RX10, TX10, 31)) hc (npic_eta hP) (nv_m hon3 (by decide) Nat.zero_lt_one) rfl rfl) ⟨rfl, rfl⟩ nok_X10_isPaper rfl ⟨Nat.le_of_ble_eq_true rfl, Nat.le_of_ble_eq_true rfl⟩ ⟨Nat.le_of_ble_eq_true rfl, Nat.le_of_ble_eq_true rfl⟩ dX10_reasonByReplay_7 rfl (Nat.le_of_ble_eq_true rfl) (fun r X1 H locs hp hP hS => ?_)
  obtain ⟨hr9, hX9⟩ := hp
  rw [hX9] at hP
  subst hr9
  refine lv_if_eq (tgt := 21) hx hb dX10_reasonByReplay_10 (by decide) (fun c_10 => ?_) (fun c_10 => ?_)
  · refine lv_aload_n hx hb dX10_reasonByReplay_21 rfl (lv_at hl 0 rfl) ?_
    refine lv_iconst (v := 1) hx hb dX10_reasonByReplay_22 (by decide) ?_
    refine nc_Vi (c_X10_fails hI hon3) hc hP hS hl.1 gd10_104 (nrecv (q := (RX10, TX10, 31)) hc (npic_eta hP) (nv_m hon3 (by decide) Nat.zero_lt_one) rfl rfl) ⟨rfl, rfl⟩ nok_X10_fails rfl ⟨Nat.le_of_ble_eq_true rfl, Nat.le_of_ble_eq_true rfl⟩ ⟨Nat.le_of_ble_eq_true rfl, Nat.le_of_ble_eq_true rfl⟩ dX10_reasonByReplay_23 rfl (Nat.le_of_ble_eq_true rfl) (fun r X1 H locs hp hP hS => ?_)
    obtain ⟨hr9, hX9⟩ := hp
    rw [hX9] at hP
    subst hr9
    exact ne_i hc hP hS hr dX10_reasonByReplay_26 ⟨_, mOff.rf, (mR_of (mG_f (by clear hP hS hl hc hx hb hr hT; simp_all [-Int32.not_le, -Int32.not_lt, i32_lt, nb_t, nb_f, nb_z, nb_o])))⟩
  · refine lv_aload_n hx hb dX10_reasonByReplay_13 rfl (lv_at hl 0 rfl) ?_
    refine lv_iload_n hx hb dX10_reasonByReplay_14 rfl (lv_at hl 1 rfl) ?_
    refine nc_Vi (c_X10_reasonOf hI hon3 hok ((mvp0 (nb_nz.mp c_10) hok.np hok.npL))) hc hP hS hl.1 gd10_180 (nrecv (q := (RX10, TX10, 31)) hc (npic_eta hP) (nv_m hon3 (by decide) Nat.zero_lt_one) rfl rfl) ⟨rfl, rfl⟩ nok_X10_reasonOf rfl ⟨Nat.le_of_ble_eq_true rfl, Nat.le_of_ble_eq_true rfl⟩ ⟨Nat.le_of_ble_eq_true rfl, Nat.le_of_ble_eq_true rfl⟩ dX10_reasonByReplay_15 rfl (Nat.le_of_ble_eq_true rfl) (fun r X1 H locs hp hP hS => ?_)
    obtain ⟨U15, hO15, hr9, hX9⟩ := hp
    have hU15 := hO15.off
    rw [hX9] at hP
    subst hr9
    have hK15 : ∀ k, k ≠ 59 → k ≠ 60 → U15 k = T k := hU15
    refine lv_goto (tgt := 26) hx hb dX10_reasonByReplay_18 (by decide) ?_
    exact ne_i hc hP hS hr dX10_reasonByReplay_26 ⟨_, hU15, (mR_of ((mG_t (by clear hP hS hl hc hx hb hr hT; simp_all [-Int32.not_le, -Int32.not_lt, i32_lt, nb_t, nb_f, nb_z, nb_o])).trans (rfl)))⟩
set_option maxHeartbeats 4000000 in
set_option maxRecDepth 100000 in
theorem c_X10_standing (hI : ninj ad on) (hon3 : on 3) (hok : mOk T) {a : Int32} : nMi l D dA ad on yX10_standing cX10_standing 4 (some .int) (nrm 5) [.ref (ad 3 30 0), .int a] (wdo X 3 T) (fun r X' => ∃ U, mOff T U ∧ r = mStand T a ∧ X' = wdo X 3 U) := by
  refine nM_of hI (by decide +kernel) (Nat.le_of_ble_eq_true rfl) ?_
  intro p e s m args below meth cd ls hc hr _ hP hl hS
  have hx := hc.1
  have hb := hc.2.1
  have hl : lv_has ls 4 [(0, .ref (ad 3 30 0)), (1, .int a)] := hl
  have lp : ∀ (r j : Nat) (acc : Int32) (U : NSt), j + r = mnp T → mOff T U → acc = isum (fun k => if decide (T 43 0 k = a) && decide (mWhy T (nI k) = 0) then 1 else 0) j → ∀ (H : Heap) (locs : List Loc) (ls : Array Slot), npic D dA ad on (wdo X 3 U) H → va_S (nA ad on) s.heap H locs → lv_has ls 4 [(3, .int (nI j)), (2, .int acc), (1, .int a), (0, .ref (ad 3 30 0))] → W p l e (nrm 5) s m args below meth cd H locs 0 0 (MQ below (va_Qi (fun r X' => ∃ U, mOff T U ∧ r = mStand T a ∧ X' = wdo X 3 U) (fun X' t => npic D dA ad on X' t.heap) (nA ad on)) args s 0 0 (nA ad on)) (F0 m 4 ls []) := by
    intro r
    induction r with
    | zero =>
      intro j acc U hj hU ha H locs ls hP hS hl
      have hjn : j = mnp T := by omega
      refine lv_iload_n hx hb dX10_standing_4 rfl (lv_at hl 0 rfl) ?_
      refine lv_aload_n hx hb dX10_standing_5 rfl (lv_at hl 3 rfl) ?_
      refine g10_98 hc hP (nv_m hon3 (by decide) Nat.zero_lt_one) dX10_standing_6 ?_
      refine lv_icmp_ge (tgt := 44) hx hb dX10_standing_9 (by decide) (fun c_9 => ?_) (fun c_9 => absurd (lp_le (show U 30 0 12 = _ by rw [hU 30 (by decide) (by decide)]; exact hok.np) hjn) c_9)
      refine lv_iload_n hx hb dX10_standing_44 rfl (lv_at hl 1 rfl) ?_
      exact ne_i hc hP hS hr dX10_standing_45 ⟨U, hU, by rw [ha, hjn] <;> rfl, rfl⟩
    | succ r ih =>
      intro j acc U hj hU ha H locs ls hP hS hl
      have hjn : j < mnp T := by omega
      have hj12 : j < 12 := Nat.lt_of_lt_of_le hjn hok.np12
      have ej : nix (nI j) = j := nI_clamp (by omega)
      have hjv : vp_in (nI j) 12 := vp_in_nI hj12 (by decide)
      have hjp : vp_in (nI j) (mnp T) := vp_in_nI hjn hok.npL
      have hoU := hU.ok hok
      have hjU : vp_in (nI j) (mnp U) := by rw [hU.enp]; exact hjp
      have hKU : ∀ k, k ≠ 59 → k ≠ 60 → U k = T k := hU
      refine lv_iload_n hx hb dX10_standing_4 rfl (lv_at hl 0 rfl) ?_
      refine lv_aload_n hx hb dX10_standing_5 rfl (lv_at hl 3 rfl) ?_
      refine g10_98 hc hP (nv_m hon3 (by decide) Nat.zero_lt_one) dX10_standing_6 ?_
      refine lv_icmp_ge (tgt := 44) hx hb dX10_standing_9 (by decide) (fun c_9 => absurd c_9 (lp_gt (show U 30 0 12 = _ by rw [hU 30 (by decide) (by decide)]; exact hok.np) hjn hok.npL)) (fun c_9 => ?_)
      refine lv_iload_n hx hb dX10_standing_12 rfl (lv_at hl 1 rfl) ?_
      refine lv_aload_n hx hb dX10_standing_13 rfl (lv_at hl 3 rfl) ?_
      refine g10_36 hc hP (nv_m hon3 (by decide) Nat.zero_lt_one) dX10_standing_14 ?_
      refine lv_iload_n hx hb dX10_standing_17 rfl (lv_at hl 0 rfl) ?_
      refine la_43 hc hP (nv_m hon3 (by decide) Nat.zero_lt_one) hjv dX10_standing_18 ?_
      refine lv_iload_n hx hb dX10_standing_19 rfl (lv_at hl 2 rfl) ?_
      refine lv_icmp_ne (tgt := 35) hx hb dX10_standing_20 (by decide) (fun c_20 => ?_) (fun c_20 => ?_)
      · refine lv_iconst (v := 0) hx hb dX10_standing_35 (by decide) ?_
        refine lv_iadd hx hb dX10_standing_36 ?_
        refine lv_istore_n (lv' := [(2, .int _), (3, .int _), (1, .int _), (0, .ref _)]) hx hb dX10_standing_37 rfl hl (by decide) rfl (fun ls hl => ?_)
        refine lv_iinc (v := nI (j + 1)) (lv' := [(3, .int _), (2, .int _), (1, .int _), (0, .ref _)]) hx hb dX10_standing_38 hl (k := 1) rfl (nI_inc j) (by decide) rfl (fun ls hl => ?_)
        refine lv_goto (tgt := 4) hx hb dX10_standing_41 (by decide) ?_
        exact ih (j + 1) _ _ (by omega) (hU) (by rw [isum_s, ← ha]; clear hP hS hl hc hx hb hr ih; simp_all [-Int32.not_le, -Int32.not_lt, i32_lt, nb_t, nb_f, nb_z, nb_o]) _ _ _ hP hS (lv_sub hl [0, 1, 2, 3] rfl)
      · refine lv_aload_n hx hb dX10_standing_23 rfl (lv_at hl 3 rfl) ?_
        refine lv_iload_n hx hb dX10_standing_24 rfl (lv_at hl 0 rfl) ?_
        refine nc_Vi (c_X10_reasonOf hI hon3 hoU (hjU)) hc hP hS hl.1 gd10_180 (nrecv (q := (RX10, TX10, 31)) hc (npic_eta hP) (nv_m hon3 (by decide) Nat.zero_lt_one) rfl rfl) ⟨rfl, rfl⟩ nok_X10_reasonOf rfl ⟨Nat.le_of_ble_eq_true rfl, Nat.le_of_ble_eq_true rfl⟩ ⟨Nat.le_of_ble_eq_true rfl, Nat.le_of_ble_eq_true rfl⟩ dX10_standing_25 rfl (Nat.le_of_ble_eq_true rfl) (fun r X1 H locs hp hP hS => ?_)
        obtain ⟨U25, hO25, hr9, hX9⟩ := hp
        have hU25 := hO25.off
        rw [hX9] at hP
        subst hr9
        have hK25 : ∀ k, k ≠ 59 → k ≠ 60 → U25 k = U k := hU25
        have hw9 : mWhy U (nI j) = mWhy T (nI j) := mWhy_off hU _ hjv
        refine lv_if_ne (tgt := 35) hx hb dX10_standing_28 (by decide) (fun c_28 => ?_) (fun c_28 => ?_)
        · refine lv_iconst (v := 0) hx hb dX10_standing_35 (by decide) ?_
          refine lv_iadd hx hb dX10_standing_36 ?_
          refine lv_istore_n (lv' := [(2, .int _), (3, .int _), (1, .int _), (0, .ref _)]) hx hb dX10_standing_37 rfl hl (by decide) rfl (fun ls hl => ?_)
          refine lv_iinc (v := nI (j + 1)) (lv' := [(3, .int _), (2, .int _), (1, .int _), (0, .ref _)]) hx hb dX10_standing_38 hl (k := 1) rfl (nI_inc j) (by decide) rfl (fun ls hl => ?_)
          refine lv_goto (tgt := 4) hx hb dX10_standing_41 (by decide) ?_
          exact ih (j + 1) _ _ (by omega) (hU.tr hU25) (by rw [isum_s, ← ha]; clear hP hS hl hc hx hb hr ih; simp_all [-Int32.not_le, -Int32.not_lt, i32_lt, nb_t, nb_f, nb_z, nb_o]) _ _ _ hP hS (lv_sub hl [0, 1, 2, 3] rfl)
        · refine lv_iconst (v := 1) hx hb dX10_standing_31 (by decide) ?_
          refine lv_goto (tgt := 36) hx hb dX10_standing_32 (by decide) ?_
          refine lv_iadd hx hb dX10_standing_36 ?_
          refine lv_istore_n (lv' := [(2, .int _), (3, .int _), (1, .int _), (0, .ref _)]) hx hb dX10_standing_37 rfl hl (by decide) rfl (fun ls hl => ?_)
          refine lv_iinc (v := nI (j + 1)) (lv' := [(3, .int _), (2, .int _), (1, .int _), (0, .ref _)]) hx hb dX10_standing_38 hl (k := 1) rfl (nI_inc j) (by decide) rfl (fun ls hl => ?_)
          refine lv_goto (tgt := 4) hx hb dX10_standing_41 (by decide) ?_
          exact ih (j + 1) _ _ (by omega) (hU.tr hU25) (by rw [isum_s, ← ha]; clear hP hS hl hc hx hb hr ih; simp_all [-Int32.not_le, -Int32.not_lt, i32_lt, nb_t, nb_f, nb_z, nb_o]) _ _ _ hP hS (lv_sub hl [0, 1, 2, 3] rfl)
  refine lv_iconst (v := 0) hx hb dX10_standing_0 (by decide) ?_
  refine lv_istore_n (lv' := [(2, .int _), (0, .ref _), (1, .int _)]) hx hb dX10_standing_1 rfl hl (by decide) rfl (fun ls hl => ?_)
  refine lv_iconst (v := nI 0) hx hb dX10_standing_2 (by decide) ?_
  refine lv_istore_n (lv' := [(3, .int _), (2, .int _), (0, .ref _), (1, .int _)]) hx hb dX10_standing_3 rfl hl (by decide) rfl (fun ls hl => ?_)
  exact lp _ 0 _ _ (Nat.zero_add _) mOff.rf rfl _ _ _ hP hS (lv_sub hl [0, 1, 3, 2] rfl)
set_option maxHeartbeats 4000000 in
set_option maxRecDepth 100000 in
theorem c_X10_ballotSize (hI : ninj ad on) (hon3 : on 3) (hT : nput M 30 0 0 0 = T) (hok : mOk T) {a : Int32} : nMi l D dA ad on yX10_ballotSize cX10_ballotSize 2 (some .int) (nrm 9) [.ref (ad 3 30 0), .int a] (wdo X 3 M) (fun r X' => ∃ U, (mOff T U) ∧ r = (mG (mIn a 0 (T 30 0 5 - 1)) 1 T (0 : Int32) ((mStand T a, U))).1 ∧ X' = wdo X 3 (mG (mIn a 0 (T 30 0 5 - 1)) 1 T (0 : Int32) ((mStand T a, U))).2) := by
  refine nM_of hI (by decide +kernel) (Nat.le_of_ble_eq_true rfl) ?_
  intro p e s m args below meth cd ls hc hr _ hP hl hS
  have hx := hc.1
  have hb := hc.2.1
  have hl : lv_has ls 2 [(0, .ref (ad 3 30 0)), (1, .int a)] := hl
  refine lv_aload_n hx hb dX10_ballotSize_0 rfl (lv_at hl 0 rfl) ?_
  refine lv_iconst (v := 0) hx hb dX10_ballotSize_1 (by decide) ?_
  refine p10_85 hc hP hS (nv_m hon3 (by decide) Nat.zero_lt_one) dX10_ballotSize_2 (fun H locs hP hS => ?_)
  rw [hT] at hP
  refine lv_aload_n hx hb dX10_ballotSize_5 rfl (lv_at hl 0 rfl) ?_
  refine lv_iload_n hx hb dX10_ballotSize_6 rfl (lv_at hl 1 rfl) ?_
  refine nc_Vi (c_X10_isArea hI hon3 ) hc hP hS hl.1 gd10_125 (nrecv (q := (RX10, TX10, 31)) hc (npic_eta hP) (nv_m hon3 (by decide) Nat.zero_lt_one) rfl rfl) ⟨rfl, rfl⟩ nok_X10_isArea rfl ⟨Nat.le_of_ble_eq_true rfl, Nat.le_of_ble_eq_true rfl⟩ ⟨Nat.le_of_ble_eq_true rfl, Nat.le_of_ble_eq_true rfl⟩ dX10_ballotSize_7 rfl (Nat.le_of_ble_eq_true rfl) (fun r X1 H locs hp hP hS => ?_)
  obtain ⟨hr9, hX9⟩ := hp
  rw [hX9] at hP
  subst hr9
  refine lv_if_eq (tgt := 21) hx hb dX10_ballotSize_10 (by decide) (fun c_10 => ?_) (fun c_10 => ?_)
  · refine lv_aload_n hx hb dX10_ballotSize_21 rfl (lv_at hl 0 rfl) ?_
    refine lv_iconst (v := 1) hx hb dX10_ballotSize_22 (by decide) ?_
    refine nc_Vi (c_X10_fails hI hon3) hc hP hS hl.1 gd10_104 (nrecv (q := (RX10, TX10, 31)) hc (npic_eta hP) (nv_m hon3 (by decide) Nat.zero_lt_one) rfl rfl) ⟨rfl, rfl⟩ nok_X10_fails rfl ⟨Nat.le_of_ble_eq_true rfl, Nat.le_of_ble_eq_true rfl⟩ ⟨Nat.le_of_ble_eq_true rfl, Nat.le_of_ble_eq_true rfl⟩ dX10_ballotSize_23 rfl (Nat.le_of_ble_eq_true rfl) (fun r X1 H locs hp hP hS => ?_)
    obtain ⟨hr9, hX9⟩ := hp
    rw [hX9] at hP
    subst hr9
    exact ne_i hc hP hS hr dX10_ballotSize_26 ⟨_, mOff.rf, (mR_of (mG_f (by clear hP hS hl hc hx hb hr hT; simp_all [-Int32.not_le, -Int32.not_lt, i32_lt, nb_t, nb_f, nb_z, nb_o])))⟩
  · refine lv_aload_n hx hb dX10_ballotSize_13 rfl (lv_at hl 0 rfl) ?_
    refine lv_iload_n hx hb dX10_ballotSize_14 rfl (lv_at hl 1 rfl) ?_
    refine nc_Vi (c_X10_standing hI hon3 hok) hc hP hS hl.1 gd10_183 (nrecv (q := (RX10, TX10, 31)) hc (npic_eta hP) (nv_m hon3 (by decide) Nat.zero_lt_one) rfl rfl) ⟨rfl, rfl⟩ nok_X10_standing rfl ⟨Nat.le_of_ble_eq_true rfl, Nat.le_of_ble_eq_true rfl⟩ ⟨Nat.le_of_ble_eq_true rfl, Nat.le_of_ble_eq_true rfl⟩ dX10_ballotSize_15 rfl (Nat.le_of_ble_eq_true rfl) (fun r X1 H locs hp hP hS => ?_)
    obtain ⟨U15, hU15, hr9, hX9⟩ := hp
    rw [hX9] at hP
    subst hr9
    have hK15 : ∀ k, k ≠ 59 → k ≠ 60 → U15 k = T k := hU15
    refine lv_goto (tgt := 26) hx hb dX10_ballotSize_18 (by decide) ?_
    exact ne_i hc hP hS hr dX10_ballotSize_26 ⟨_, hU15, (mR_of ((mG_t (by clear hP hS hl hc hx hb hr hT; simp_all [-Int32.not_le, -Int32.not_lt, i32_lt, nb_t, nb_f, nb_z, nb_o])).trans (rfl)))⟩
set_option maxHeartbeats 4000000 in
set_option maxRecDepth 100000 in
theorem c_X10_addVotes (hI : ninj ad on) (hon3 : on 3) (hT : nput M 30 0 0 0 = T) (hok : mOk T) {x a : Int32} : nMi l D dA ad on yX10_addVotes cX10_addVotes 3 (some .int) (nrm 9) [.ref (ad 3 30 0), .int x, .int a] (wdo X 3 M) (fun r X' => ∃ U, (mOff T U) ∧ r = (mG (mIn x 0 (T 30 0 12 - 1)) 1 T (0 : Int32) (mG (mIn a 1 10000) 2 T (0 : Int32) (mG (decide (T 30 0 3 ≤ T 30 0 4) && decide (mWhy T x = 0) && decide (T 38 0 (nix (T 43 0 (nix x))) = 0)) 3 U (0 : Int32) ((U 50 0 (nix x) + a, nput U 50 0 (nix x) (U 50 0 (nix x) + a)))))).1 ∧ X' = wdo X 3 (mG (mIn x 0 (T 30 0 12 - 1)) 1 T (0 : Int32) (mG (mIn a 1 10000) 2 T (0 : Int32) (mG (decide (T 30 0 3 ≤ T 30 0 4) && decide (mWhy T x = 0) && decide (T 38 0 (nix (T 43 0 (nix x))) = 0)) 3 U (0 : Int32) ((U 50 0 (nix x) + a, nput U 50 0 (nix x) (U 50 0 (nix x) + a)))))).2) := by
  refine nM_of hI (by decide +kernel) (Nat.le_of_ble_eq_true rfl) ?_
  intro p e s m args below meth cd ls hc hr _ hP hl hS
  have hx := hc.1
  have hb := hc.2.1
  have hl : lv_has ls 3 [(0, .ref (ad 3 30 0)), (1, .int x), (2, .int a)] := hl
  refine lv_aload_n hx hb dX10_addVotes_0 rfl (lv_at hl 0 rfl) ?_
  refine lv_iconst (v := 0) hx hb dX10_addVotes_1 (by decide) ?_
  refine p10_85 hc hP hS (nv_m hon3 (by decide) Nat.zero_lt_one) dX10_addVotes_2 (fun H locs hP hS => ?_)
  rw [hT] at hP
  refine lv_aload_n hx hb dX10_addVotes_5 rfl (lv_at hl 0 rfl) ?_
  refine lv_iload_n hx hb dX10_addVotes_6 rfl (lv_at hl 1 rfl) ?_
  refine nc_Vi (c_X10_isPaper hI hon3 ) hc hP hS hl.1 gd10_152 (nrecv (q := (RX10, TX10, 31)) hc (npic_eta hP) (nv_m hon3 (by decide) Nat.zero_lt_one) rfl rfl) ⟨rfl, rfl⟩ nok_X10_isPaper rfl ⟨Nat.le_of_ble_eq_true rfl, Nat.le_of_ble_eq_true rfl⟩ ⟨Nat.le_of_ble_eq_true rfl, Nat.le_of_ble_eq_true rfl⟩ dX10_addVotes_7 rfl (Nat.le_of_ble_eq_true rfl) (fun r X1 H locs hp hP hS => ?_)
  obtain ⟨hr9, hX9⟩ := hp
  rw [hX9] at hP
  subst hr9
  refine lv_if_ne (tgt := 19) hx hb dX10_addVotes_10 (by decide) (fun c_10 => ?_) (fun c_10 => ?_)
  · refine lv_iload_n hx hb dX10_addVotes_19 rfl (lv_at hl 2 rfl) ?_
    refine lv_iconst (v := 1) hx hb dX10_addVotes_20 (by decide) ?_
    refine lv_sipush (v := 10000) hx hb dX10_addVotes_21 (by decide) ?_
    refine nc_Si (c_X10_isIn hI) hc hP hS hl.1 gd10_91 ⟨rfl, rfl⟩ nok_X10_isIn rfl ⟨Nat.le_of_ble_eq_true rfl, Nat.le_of_ble_eq_true rfl⟩ ⟨Nat.le_of_ble_eq_true rfl, Nat.le_of_ble_eq_true rfl⟩ dX10_addVotes_24 rfl (Nat.le_of_ble_eq_true rfl) (fun r X1 H locs hp hP hS => ?_)
    obtain ⟨hr9, hX9⟩ := hp
    rw [hX9] at hP
    subst hr9
    refine lv_if_ne (tgt := 36) hx hb dX10_addVotes_27 (by decide) (fun c_27 => ?_) (fun c_27 => ?_)
    · refine lv_aload_n hx hb dX10_addVotes_36 rfl (lv_at hl 0 rfl) ?_
      refine g10_101 hc hP (nv_m hon3 (by decide) Nat.zero_lt_one) dX10_addVotes_37 ?_
      refine lv_aload_n hx hb dX10_addVotes_40 rfl (lv_at hl 0 rfl) ?_
      refine g10_16 hc hP (nv_m hon3 (by decide) Nat.zero_lt_one) dX10_addVotes_41 ?_
      refine lv_icmp_lt (tgt := 69) hx hb dX10_addVotes_44 (by decide) (fun c_44 => ?_) (fun c_44 => ?_)
      · refine lv_aload_n hx hb dX10_addVotes_69 rfl (lv_at hl 0 rfl) ?_
        refine lv_iconst (v := 3) hx hb dX10_addVotes_70 (by decide) ?_
        refine nc_Vi (c_X10_fails hI hon3) hc hP hS hl.1 gd10_104 (nrecv (q := (RX10, TX10, 31)) hc (npic_eta hP) (nv_m hon3 (by decide) Nat.zero_lt_one) rfl rfl) ⟨rfl, rfl⟩ nok_X10_fails rfl ⟨Nat.le_of_ble_eq_true rfl, Nat.le_of_ble_eq_true rfl⟩ ⟨Nat.le_of_ble_eq_true rfl, Nat.le_of_ble_eq_true rfl⟩ dX10_addVotes_71 rfl (Nat.le_of_ble_eq_true rfl) (fun r X1 H locs hp hP hS => ?_)
        obtain ⟨hr9, hX9⟩ := hp
        rw [hX9] at hP
        subst hr9
        exact ne_i hc hP hS hr dX10_addVotes_74 ⟨_, mOff.rf, (mR_of ((mG_t (by clear hP hS hl hc hx hb hr hT; simp_all [-Int32.not_le, -Int32.not_lt, i32_lt, nb_t, nb_f, nb_z, nb_o])).trans ((mG_t (by clear hP hS hl hc hx hb hr hT; simp_all [-Int32.not_le, -Int32.not_lt, i32_lt, nb_t, nb_f, nb_z, nb_o])).trans (mG_f (by clear hP hS hl hc hx hb hr hT; simp_all [-Int32.not_le, -Int32.not_lt, i32_lt, nb_t, nb_f, nb_z, nb_o])))))⟩
      · refine lv_aload_n hx hb dX10_addVotes_47 rfl (lv_at hl 0 rfl) ?_
        refine lv_iload_n hx hb dX10_addVotes_48 rfl (lv_at hl 1 rfl) ?_
        refine nc_Vi (c_X10_reasonOf hI hon3 hok ((mvp0 (nb_nz.mp c_10) hok.np hok.npL))) hc hP hS hl.1 gd10_180 (nrecv (q := (RX10, TX10, 31)) hc (npic_eta hP) (nv_m hon3 (by decide) Nat.zero_lt_one) rfl rfl) ⟨rfl, rfl⟩ nok_X10_reasonOf rfl ⟨Nat.le_of_ble_eq_true rfl, Nat.le_of_ble_eq_true rfl⟩ ⟨Nat.le_of_ble_eq_true rfl, Nat.le_of_ble_eq_true rfl⟩ dX10_addVotes_49 rfl (Nat.le_of_ble_eq_true rfl) (fun r X1 H locs hp hP hS => ?_)
        obtain ⟨U49, hO49, hr9, hX9⟩ := hp
        have hU49 := hO49.off
        rw [hX9] at hP
        subst hr9
        have hK49 : ∀ k, k ≠ 59 → k ≠ 60 → U49 k = T k := hU49
        refine lv_if_ne (tgt := 69) hx hb dX10_addVotes_52 (by decide) (fun c_52 => ?_) (fun c_52 => ?_)
        · refine lv_aload_n hx hb dX10_addVotes_69 rfl (lv_at hl 0 rfl) ?_
          refine lv_iconst (v := 3) hx hb dX10_addVotes_70 (by decide) ?_
          refine nc_Vi (c_X10_fails hI hon3) hc hP hS hl.1 gd10_104 (nrecv (q := (RX10, TX10, 31)) hc (npic_eta hP) (nv_m hon3 (by decide) Nat.zero_lt_one) rfl rfl) ⟨rfl, rfl⟩ nok_X10_fails rfl ⟨Nat.le_of_ble_eq_true rfl, Nat.le_of_ble_eq_true rfl⟩ ⟨Nat.le_of_ble_eq_true rfl, Nat.le_of_ble_eq_true rfl⟩ dX10_addVotes_71 rfl (Nat.le_of_ble_eq_true rfl) (fun r X1 H locs hp hP hS => ?_)
          obtain ⟨hr9, hX9⟩ := hp
          rw [hX9] at hP
          subst hr9
          exact ne_i hc hP hS hr dX10_addVotes_74 ⟨_, hU49, (mR_of ((mG_t (by clear hP hS hl hc hx hb hr hT; simp_all [-Int32.not_le, -Int32.not_lt, i32_lt, nb_t, nb_f, nb_z, nb_o])).trans ((mG_t (by clear hP hS hl hc hx hb hr hT; simp_all [-Int32.not_le, -Int32.not_lt, i32_lt, nb_t, nb_f, nb_z, nb_o])).trans (mG_f (by clear hP hS hl hc hx hb hr hT; simp_all [-Int32.not_le, -Int32.not_lt, i32_lt, nb_t, nb_f, nb_z, nb_o])))))⟩
        · refine lv_aload_n hx hb dX10_addVotes_55 rfl (lv_at hl 0 rfl) ?_
          refine g10_26 hc hP (nv_m hon3 (by decide) Nat.zero_lt_one) dX10_addVotes_56 ?_
          refine lv_aload_n hx hb dX10_addVotes_59 rfl (lv_at hl 0 rfl) ?_
          refine g10_36 hc hP (nv_m hon3 (by decide) Nat.zero_lt_one) dX10_addVotes_60 ?_
          refine lv_iload_n hx hb dX10_addVotes_63 rfl (lv_at hl 1 rfl) ?_
          refine la_43 hc hP (nv_m hon3 (by decide) Nat.zero_lt_one) (mvp (nb_nz.mp c_10) hok.np hok.np12 (by decide)) dX10_addVotes_64 ?_
          refine la_38 hc hP (nv_m hon3 (by decide) Nat.zero_lt_one) ((hU49.ok hok).ar (by rw [hU49.enp]; exact vp_lt (mvp0 (nb_nz.mp c_10) hok.np hok.npL))) dX10_addVotes_65 ?_
          refine lv_if_eq (tgt := 75) hx hb dX10_addVotes_66 (by decide) (fun c_66 => ?_) (fun c_66 => ?_)
          · refine lv_aload_n hx hb dX10_addVotes_75 rfl (lv_at hl 0 rfl) ?_
            refine g10_58 hc hP (nv_m hon3 (by decide) Nat.zero_lt_one) dX10_addVotes_76 ?_
            refine lv_iload_n hx hb dX10_addVotes_79 rfl (lv_at hl 1 rfl) ?_
            refine lv_dup2_11 hx hb dX10_addVotes_80 rfl rfl ?_
            refine la_50 hc hP (nv_m hon3 (by decide) Nat.zero_lt_one) (mvp (nb_nz.mp c_10) hok.np hok.np12 (by decide)) dX10_addVotes_81 ?_
            refine lv_iload_n hx hb dX10_addVotes_82 rfl (lv_at hl 2 rfl) ?_
            refine lv_iadd hx hb dX10_addVotes_83 ?_
            refine sa_50 hc hP hS (nv_m hon3 (by decide) Nat.zero_lt_one) (mvp (nb_nz.mp c_10) hok.np hok.np12 (by decide)) dX10_addVotes_84 (fun H locs hP hS => ?_)
            refine lv_aload_n hx hb dX10_addVotes_85 rfl (lv_at hl 0 rfl) ?_
            refine g10_58 hc hP (nv_m hon3 (by decide) Nat.zero_lt_one) dX10_addVotes_86 ?_
            refine lv_iload_n hx hb dX10_addVotes_89 rfl (lv_at hl 1 rfl) ?_
            refine la_50 hc hP (nv_m hon3 (by decide) Nat.zero_lt_one) (mvp (nb_nz.mp c_10) hok.np hok.np12 (by decide)) dX10_addVotes_90 ?_
            exact ne_i hc hP hS hr dX10_addVotes_91 ⟨_, hU49, (mR_of ((mG_t (by clear hP hS hl hc hx hb hr hT; simp_all [-Int32.not_le, -Int32.not_lt, i32_lt, nb_t, nb_f, nb_z, nb_o])).trans ((mG_t (by clear hP hS hl hc hx hb hr hT; simp_all [-Int32.not_le, -Int32.not_lt, i32_lt, nb_t, nb_f, nb_z, nb_o])).trans ((mG_t (by clear hP hS hl hc hx hb hr hT; simp_all [-Int32.not_le, -Int32.not_lt, i32_lt, nb_t, nb_f, nb_z, nb_o])).trans ((by rw [nput_at]))))))⟩
          · refine lv_aload_n hx hb dX10_addVotes_69 rfl (lv_at hl 0 rfl) ?_
            refine lv_iconst (v := 3) hx hb dX10_addVotes_70 (by decide) ?_
            refine nc_Vi (c_X10_fails hI hon3) hc hP hS hl.1 gd10_104 (nrecv (q := (RX10, TX10, 31)) hc (npic_eta hP) (nv_m hon3 (by decide) Nat.zero_lt_one) rfl rfl) ⟨rfl, rfl⟩ nok_X10_fails rfl ⟨Nat.le_of_ble_eq_true rfl, Nat.le_of_ble_eq_true rfl⟩ ⟨Nat.le_of_ble_eq_true rfl, Nat.le_of_ble_eq_true rfl⟩ dX10_addVotes_71 rfl (Nat.le_of_ble_eq_true rfl) (fun r X1 H locs hp hP hS => ?_)
            obtain ⟨hr9, hX9⟩ := hp
            rw [hX9] at hP
            subst hr9
            exact ne_i hc hP hS hr dX10_addVotes_74 ⟨_, hU49, (mR_of ((mG_t (by clear hP hS hl hc hx hb hr hT; simp_all [-Int32.not_le, -Int32.not_lt, i32_lt, nb_t, nb_f, nb_z, nb_o])).trans ((mG_t (by clear hP hS hl hc hx hb hr hT; simp_all [-Int32.not_le, -Int32.not_lt, i32_lt, nb_t, nb_f, nb_z, nb_o])).trans (mG_f (by clear hP hS hl hc hx hb hr hT; simp_all [-Int32.not_le, -Int32.not_lt, i32_lt, nb_t, nb_f, nb_z, nb_o])))))⟩
    · refine lv_aload_n hx hb dX10_addVotes_30 rfl (lv_at hl 0 rfl) ?_
      refine lv_iconst (v := 2) hx hb dX10_addVotes_31 (by decide) ?_
      refine nc_Vi (c_X10_fails hI hon3) hc hP hS hl.1 gd10_104 (nrecv (q := (RX10, TX10, 31)) hc (npic_eta hP) (nv_m hon3 (by decide) Nat.zero_lt_one) rfl rfl) ⟨rfl, rfl⟩ nok_X10_fails rfl ⟨Nat.le_of_ble_eq_true rfl, Nat.le_of_ble_eq_true rfl⟩ ⟨Nat.le_of_ble_eq_true rfl, Nat.le_of_ble_eq_true rfl⟩ dX10_addVotes_32 rfl (Nat.le_of_ble_eq_true rfl) (fun r X1 H locs hp hP hS => ?_)
      obtain ⟨hr9, hX9⟩ := hp
      rw [hX9] at hP
      subst hr9
      exact ne_i hc hP hS hr dX10_addVotes_35 ⟨_, mOff.rf, (mR_of ((mG_t (by clear hP hS hl hc hx hb hr hT; simp_all [-Int32.not_le, -Int32.not_lt, i32_lt, nb_t, nb_f, nb_z, nb_o])).trans (mG_f (by clear hP hS hl hc hx hb hr hT; simp_all [-Int32.not_le, -Int32.not_lt, i32_lt, nb_t, nb_f, nb_z, nb_o]))))⟩
  · refine lv_aload_n hx hb dX10_addVotes_13 rfl (lv_at hl 0 rfl) ?_
    refine lv_iconst (v := 1) hx hb dX10_addVotes_14 (by decide) ?_
    refine nc_Vi (c_X10_fails hI hon3) hc hP hS hl.1 gd10_104 (nrecv (q := (RX10, TX10, 31)) hc (npic_eta hP) (nv_m hon3 (by decide) Nat.zero_lt_one) rfl rfl) ⟨rfl, rfl⟩ nok_X10_fails rfl ⟨Nat.le_of_ble_eq_true rfl, Nat.le_of_ble_eq_true rfl⟩ ⟨Nat.le_of_ble_eq_true rfl, Nat.le_of_ble_eq_true rfl⟩ dX10_addVotes_15 rfl (Nat.le_of_ble_eq_true rfl) (fun r X1 H locs hp hP hS => ?_)
    obtain ⟨hr9, hX9⟩ := hp
    rw [hX9] at hP
    subst hr9
    exact ne_i hc hP hS hr dX10_addVotes_18 ⟨_, mOff.rf, (mR_of (mG_f (by clear hP hS hl hc hx hb hr hT; simp_all [-Int32.not_le, -Int32.not_lt, i32_lt, nb_t, nb_f, nb_z, nb_o])))⟩
set_option maxHeartbeats 4000000 in
set_option maxRecDepth 100000 in
theorem c_X10_finish (hI : ninj ad on) (hon3 : on 3) (hT : nput M 30 0 0 0 = T) (hok : mOk T) {a : Int32} : nMi l D dA ad on yX10_finish cX10_finish 4 (some .int) (nrm 9) [.ref (ad 3 30 0), .int a] (wdo X 3 M) (fun r X' => ∃ U, (mOff (nput T 38 0 (nix a) 1) U) ∧ r = (mG (mIn a 0 (T 30 0 5 - 1)) 1 T (0 : Int32) (mG (decide (T 30 0 3 ≤ T 30 0 4) && decide (T 38 0 (nix a) = 0)) 2 T (0 : Int32) ((mLost (nput T 38 0 (nix a) 1) a, U)))).1 ∧ X' = wdo X 3 (mG (mIn a 0 (T 30 0 5 - 1)) 1 T (0 : Int32) (mG (decide (T 30 0 3 ≤ T 30 0 4) && decide (T 38 0 (nix a) = 0)) 2 T (0 : Int32) ((mLost (nput T 38 0 (nix a) 1) a, U)))).2) := by
  refine nM_of hI (by decide +kernel) (Nat.le_of_ble_eq_true rfl) ?_
  intro p e s m args below meth cd ls hc hr _ hP hl hS
  have hx := hc.1
  have hb := hc.2.1
  have hl : lv_has ls 4 [(0, .ref (ad 3 30 0)), (1, .int a)] := hl
  have ho1 : mOk (nput T 38 0 (nix a) 1) := mOk_of ⟨rfl, rfl, rfl, rfl⟩ rfl rfl rfl hok
  have lp : ∀ (r j : Nat) (acc : Int32) (U : NSt), j + r = mnp T → mOff (nput T 38 0 (nix a) 1) U → acc = isum (fun k => if decide ((nput T 38 0 (nix a) 1) 43 0 k = a) && decide (mWhy (nput T 38 0 (nix a) 1) (nI k) = 0) && decide (mFate (nput T 38 0 (nix a) 1) (nI k) = 2) then 1 else 0) j → mIn a 0 (T 30 0 5 - 1) = true → (decide (T 30 0 3 ≤ T 30 0 4) && decide (T 38 0 (nix a) = 0)) = true → ∀ (H : Heap) (locs : List Loc) (ls : Array Slot), npic D dA ad on (wdo X 3 U) H → va_S (nA ad on) s.heap H locs → lv_has ls 4 [(3, .int (nI j)), (2, .int acc), (1, .int a), (0, .ref (ad 3 30 0))] → W p l e (nrm 9) s m args below meth cd H locs 0 0 (MQ below (va_Qi (fun r X' => ∃ U, (mOff (nput T 38 0 (nix a) 1) U) ∧ r = (mG (mIn a 0 (T 30 0 5 - 1)) 1 T (0 : Int32) (mG (decide (T 30 0 3 ≤ T 30 0 4) && decide (T 38 0 (nix a) = 0)) 2 T (0 : Int32) ((mLost (nput T 38 0 (nix a) 1) a, U)))).1 ∧ X' = wdo X 3 (mG (mIn a 0 (T 30 0 5 - 1)) 1 T (0 : Int32) (mG (decide (T 30 0 3 ≤ T 30 0 4) && decide (T 38 0 (nix a) = 0)) 2 T (0 : Int32) ((mLost (nput T 38 0 (nix a) 1) a, U)))).2) (fun X' t => npic D dA ad on X' t.heap) (nA ad on)) args s 0 0 (nA ad on)) (F0 m 56 ls []) := by
    intro r
    induction r with
    | zero =>
      intro j acc U hj hU ha hq1 hq2 H locs ls hP hS hl
      have hjn : j = mnp T := by omega
      refine lv_iload_n hx hb dX10_finish_56 rfl (lv_at hl 0 rfl) ?_
      refine lv_aload_n hx hb dX10_finish_57 rfl (lv_at hl 3 rfl) ?_
      refine g10_98 hc hP (nv_m hon3 (by decide) Nat.zero_lt_one) dX10_finish_58 ?_
      refine lv_icmp_ge (tgt := 105) hx hb dX10_finish_61 (by decide) (fun c_61 => ?_) (fun c_61 => absurd (lp_le (show U 30 0 12 = _ by rw [hU 30 (by decide) (by decide)]; exact ho1.np) hjn) c_61)
      refine lv_iload_n hx hb dX10_finish_105 rfl (lv_at hl 1 rfl) ?_
      exact ne_i hc hP hS hr dX10_finish_106 ⟨_, hU, (mR_of ((mG_t (by clear hP hS hl hc hx hb hr hT; simp_all [-Int32.not_le, -Int32.not_lt, i32_lt, nb_t, nb_f, nb_z, nb_o])).trans ((mG_t (by clear hP hS hl hc hx hb hr hT; simp_all [-Int32.not_le, -Int32.not_lt, i32_lt, nb_t, nb_f, nb_z, nb_o])).trans ((by rw [mLost, ha, hjn]; rfl)))))⟩
    | succ r ih =>
      intro j acc U hj hU ha hq1 hq2 H locs ls hP hS hl
      have hjn : j < mnp T := by omega
      have hj12 : j < 12 := Nat.lt_of_lt_of_le hjn hok.np12
      have ej : nix (nI j) = j := nI_clamp (by omega)
      have hjv : vp_in (nI j) 12 := vp_in_nI hj12 (by decide)
      have hjp : vp_in (nI j) (mnp T) := vp_in_nI hjn hok.npL
      have hoU := hU.ok ho1
      have hjU : vp_in (nI j) (mnp U) := by rw [hU.enp]; exact hjp
      have hKU : ∀ k, k ≠ 59 → k ≠ 60 → U k = (nput T 38 0 (nix a) 1) k := hU
      refine lv_iload_n hx hb dX10_finish_56 rfl (lv_at hl 0 rfl) ?_
      refine lv_aload_n hx hb dX10_finish_57 rfl (lv_at hl 3 rfl) ?_
      refine g10_98 hc hP (nv_m hon3 (by decide) Nat.zero_lt_one) dX10_finish_58 ?_
      refine lv_icmp_ge (tgt := 105) hx hb dX10_finish_61 (by decide) (fun c_61 => absurd c_61 (lp_gt (show U 30 0 12 = _ by rw [hU 30 (by decide) (by decide)]; exact ho1.np) hjn hok.npL)) (fun c_61 => ?_)
      refine lv_iload_n hx hb dX10_finish_64 rfl (lv_at hl 1 rfl) ?_
      refine lv_aload_n hx hb dX10_finish_65 rfl (lv_at hl 3 rfl) ?_
      refine g10_36 hc hP (nv_m hon3 (by decide) Nat.zero_lt_one) dX10_finish_66 ?_
      refine lv_iload_n hx hb dX10_finish_69 rfl (lv_at hl 0 rfl) ?_
      refine la_43 hc hP (nv_m hon3 (by decide) Nat.zero_lt_one) hjv dX10_finish_70 ?_
      refine lv_iload_n hx hb dX10_finish_71 rfl (lv_at hl 2 rfl) ?_
      refine lv_icmp_ne (tgt := 96) hx hb dX10_finish_72 (by decide) (fun c_72 => ?_) (fun c_72 => ?_)
      · refine lv_iconst (v := 0) hx hb dX10_finish_96 (by decide) ?_
        refine lv_iadd hx hb dX10_finish_97 ?_
        refine lv_istore_n (lv' := [(2, .int _), (3, .int _), (1, .int _), (0, .ref _)]) hx hb dX10_finish_98 rfl hl (by decide) rfl (fun ls hl => ?_)
        refine lv_iinc (v := nI (j + 1)) (lv' := [(3, .int _), (2, .int _), (1, .int _), (0, .ref _)]) hx hb dX10_finish_99 hl (k := 1) rfl (nI_inc j) (by decide) rfl (fun ls hl => ?_)
        refine lv_goto (tgt := 56) hx hb dX10_finish_102 (by decide) ?_
        exact ih (j + 1) _ _ (by omega) (hU) (by rw [isum_s, ← ha]; clear hP hS hl hc hx hb hr ih hT hq1 hq2; simp_all [-Int32.not_le, -Int32.not_lt, i32_lt, nb_t, nb_f, nb_z, nb_o]) hq1 hq2 _ _ _ hP hS (lv_sub hl [0, 1, 2, 3] rfl)
      · refine lv_aload_n hx hb dX10_finish_75 rfl (lv_at hl 3 rfl) ?_
        refine lv_iload_n hx hb dX10_finish_76 rfl (lv_at hl 0 rfl) ?_
        refine nc_Vi (c_X10_reasonOf hI hon3 hoU (hjU)) hc hP hS hl.1 gd10_180 (nrecv (q := (RX10, TX10, 31)) hc (npic_eta hP) (nv_m hon3 (by decide) Nat.zero_lt_one) rfl rfl) ⟨rfl, rfl⟩ nok_X10_reasonOf rfl ⟨Nat.le_of_ble_eq_true rfl, Nat.le_of_ble_eq_true rfl⟩ ⟨Nat.le_of_ble_eq_true rfl, Nat.le_of_ble_eq_true rfl⟩ dX10_finish_77 rfl (Nat.le_of_ble_eq_true rfl) (fun r X1 H locs hp hP hS => ?_)
        obtain ⟨U77, hO77, hr9, hX9⟩ := hp
        have hU77 := hO77.off
        rw [hX9] at hP
        subst hr9
        have hK77 : ∀ k, k ≠ 59 → k ≠ 60 → U77 k = U k := hU77
        have hw9 : mWhy U (nI j) = mWhy (nput T 38 0 (nix a) 1) (nI j) := mWhy_off hU _ hjv
        have hw8 : mFate U77 (nI j) = mFate (nput T 38 0 (nix a) 1) (nI j) := mFate_off (hU.tr hU77) _
        have hoV : mOk U77 := (hU.tr hU77).ok ho1
        have hjV : vp_in (nI j) (mnp U77) := by rw [hU77.enp]; exact hjU
        refine lv_if_ne (tgt := 96) hx hb dX10_finish_80 (by decide) (fun c_80 => ?_) (fun c_80 => ?_)
        · refine lv_iconst (v := 0) hx hb dX10_finish_96 (by decide) ?_
          refine lv_iadd hx hb dX10_finish_97 ?_
          refine lv_istore_n (lv' := [(2, .int _), (3, .int _), (1, .int _), (0, .ref _)]) hx hb dX10_finish_98 rfl hl (by decide) rfl (fun ls hl => ?_)
          refine lv_iinc (v := nI (j + 1)) (lv' := [(3, .int _), (2, .int _), (1, .int _), (0, .ref _)]) hx hb dX10_finish_99 hl (k := 1) rfl (nI_inc j) (by decide) rfl (fun ls hl => ?_)
          refine lv_goto (tgt := 56) hx hb dX10_finish_102 (by decide) ?_
          exact ih (j + 1) _ _ (by omega) (hU.tr hU77) (by rw [isum_s, ← ha]; clear hP hS hl hc hx hb hr ih hT hq1 hq2; simp_all [-Int32.not_le, -Int32.not_lt, i32_lt, nb_t, nb_f, nb_z, nb_o]) hq1 hq2 _ _ _ hP hS (lv_sub hl [0, 1, 2, 3] rfl)
        · refine lv_aload_n hx hb dX10_finish_83 rfl (lv_at hl 3 rfl) ?_
          refine lv_iload_n hx hb dX10_finish_84 rfl (lv_at hl 0 rfl) ?_
          refine nc_Vi (c_X10_fate hI hon3 hoV hjV) hc hP hS hl.1 gd10_201 (nrecv (q := (RX10, TX10, 31)) hc (npic_eta hP) (nv_m hon3 (by decide) Nat.zero_lt_one) rfl rfl) ⟨rfl, rfl⟩ nok_X10_fate rfl ⟨Nat.le_of_ble_eq_true rfl, Nat.le_of_ble_eq_true rfl⟩ ⟨Nat.le_of_ble_eq_true rfl, Nat.le_of_ble_eq_true rfl⟩ dX10_finish_85 rfl (Nat.le_of_ble_eq_true rfl) (fun r X1 H locs hp hP hS => ?_)
          obtain ⟨hr9, hX9⟩ := hp
          rw [hX9] at hP
          subst hr9
          refine lv_iconst (v := 2) hx hb dX10_finish_88 (by decide) ?_
          refine lv_icmp_ne (tgt := 96) hx hb dX10_finish_89 (by decide) (fun c_89 => ?_) (fun c_89 => ?_)
          · refine lv_iconst (v := 0) hx hb dX10_finish_96 (by decide) ?_
            refine lv_iadd hx hb dX10_finish_97 ?_
            refine lv_istore_n (lv' := [(2, .int _), (3, .int _), (1, .int _), (0, .ref _)]) hx hb dX10_finish_98 rfl hl (by decide) rfl (fun ls hl => ?_)
            refine lv_iinc (v := nI (j + 1)) (lv' := [(3, .int _), (2, .int _), (1, .int _), (0, .ref _)]) hx hb dX10_finish_99 hl (k := 1) rfl (nI_inc j) (by decide) rfl (fun ls hl => ?_)
            refine lv_goto (tgt := 56) hx hb dX10_finish_102 (by decide) ?_
            exact ih (j + 1) _ _ (by omega) (hU.tr hU77) (by rw [isum_s, ← ha]; clear hP hS hl hc hx hb hr ih hT hq1 hq2; simp_all [-Int32.not_le, -Int32.not_lt, i32_lt, nb_t, nb_f, nb_z, nb_o]) hq1 hq2 _ _ _ hP hS (lv_sub hl [0, 1, 2, 3] rfl)
          · refine lv_iconst (v := 1) hx hb dX10_finish_92 (by decide) ?_
            refine lv_goto (tgt := 97) hx hb dX10_finish_93 (by decide) ?_
            refine lv_iadd hx hb dX10_finish_97 ?_
            refine lv_istore_n (lv' := [(2, .int _), (3, .int _), (1, .int _), (0, .ref _)]) hx hb dX10_finish_98 rfl hl (by decide) rfl (fun ls hl => ?_)
            refine lv_iinc (v := nI (j + 1)) (lv' := [(3, .int _), (2, .int _), (1, .int _), (0, .ref _)]) hx hb dX10_finish_99 hl (k := 1) rfl (nI_inc j) (by decide) rfl (fun ls hl => ?_)
            refine lv_goto (tgt := 56) hx hb dX10_finish_102 (by decide) ?_
            exact ih (j + 1) _ _ (by omega) (hU.tr hU77) (by rw [isum_s, ← ha]; clear hP hS hl hc hx hb hr ih hT hq1 hq2; simp_all [-Int32.not_le, -Int32.not_lt, i32_lt, nb_t, nb_f, nb_z, nb_o]) hq1 hq2 _ _ _ hP hS (lv_sub hl [0, 1, 2, 3] rfl)
  refine lv_aload_n hx hb dX10_finish_0 rfl (lv_at hl 0 rfl) ?_
  refine lv_iconst (v := 0) hx hb dX10_finish_1 (by decide) ?_
  refine p10_85 hc hP hS (nv_m hon3 (by decide) Nat.zero_lt_one) dX10_finish_2 (fun H locs hP hS => ?_)
  rw [hT] at hP
  refine lv_aload_n hx hb dX10_finish_5 rfl (lv_at hl 0 rfl) ?_
  refine lv_iload_n hx hb dX10_finish_6 rfl (lv_at hl 1 rfl) ?_
  refine nc_Vi (c_X10_isArea hI hon3 ) hc hP hS hl.1 gd10_125 (nrecv (q := (RX10, TX10, 31)) hc (npic_eta hP) (nv_m hon3 (by decide) Nat.zero_lt_one) rfl rfl) ⟨rfl, rfl⟩ nok_X10_isArea rfl ⟨Nat.le_of_ble_eq_true rfl, Nat.le_of_ble_eq_true rfl⟩ ⟨Nat.le_of_ble_eq_true rfl, Nat.le_of_ble_eq_true rfl⟩ dX10_finish_7 rfl (Nat.le_of_ble_eq_true rfl) (fun r X1 H locs hp hP hS => ?_)
  obtain ⟨hr9, hX9⟩ := hp
  rw [hX9] at hP
  subst hr9
  refine lv_if_ne (tgt := 19) hx hb dX10_finish_10 (by decide) (fun c_10 => ?_) (fun c_10 => ?_)
  · refine lv_aload_n hx hb dX10_finish_19 rfl (lv_at hl 0 rfl) ?_
    refine g10_101 hc hP (nv_m hon3 (by decide) Nat.zero_lt_one) dX10_finish_20 ?_
    refine lv_aload_n hx hb dX10_finish_23 rfl (lv_at hl 0 rfl) ?_
    refine g10_16 hc hP (nv_m hon3 (by decide) Nat.zero_lt_one) dX10_finish_24 ?_
    refine lv_icmp_lt (tgt := 39) hx hb dX10_finish_27 (by decide) (fun c_27 => ?_) (fun c_27 => ?_)
    · refine lv_aload_n hx hb dX10_finish_39 rfl (lv_at hl 0 rfl) ?_
      refine lv_iconst (v := 2) hx hb dX10_finish_40 (by decide) ?_
      refine nc_Vi (c_X10_fails hI hon3) hc hP hS hl.1 gd10_104 (nrecv (q := (RX10, TX10, 31)) hc (npic_eta hP) (nv_m hon3 (by decide) Nat.zero_lt_one) rfl rfl) ⟨rfl, rfl⟩ nok_X10_fails rfl ⟨Nat.le_of_ble_eq_true rfl, Nat.le_of_ble_eq_true rfl⟩ ⟨Nat.le_of_ble_eq_true rfl, Nat.le_of_ble_eq_true rfl⟩ dX10_finish_41 rfl (Nat.le_of_ble_eq_true rfl) (fun r X1 H locs hp hP hS => ?_)
      obtain ⟨hr9, hX9⟩ := hp
      rw [hX9] at hP
      subst hr9
      exact ne_i hc hP hS hr dX10_finish_44 ⟨_, mOff.rf, (mR_of ((mG_t (by clear hP hS hl hc hx hb hr hT; simp_all [-Int32.not_le, -Int32.not_lt, i32_lt, nb_t, nb_f, nb_z, nb_o])).trans (mG_f (by clear hP hS hl hc hx hb hr hT; simp_all [-Int32.not_le, -Int32.not_lt, i32_lt, nb_t, nb_f, nb_z, nb_o]))))⟩
    · refine lv_aload_n hx hb dX10_finish_30 rfl (lv_at hl 0 rfl) ?_
      refine g10_26 hc hP (nv_m hon3 (by decide) Nat.zero_lt_one) dX10_finish_31 ?_
      refine lv_iload_n hx hb dX10_finish_34 rfl (lv_at hl 1 rfl) ?_
      refine la_38 hc hP (nv_m hon3 (by decide) Nat.zero_lt_one) (mvp (nb_nz.mp c_10) hok.na hok.na5 (by decide)) dX10_finish_35 ?_
      refine lv_if_eq (tgt := 45) hx hb dX10_finish_36 (by decide) (fun c_36 => ?_) (fun c_36 => ?_)
      · refine lv_aload_n hx hb dX10_finish_45 rfl (lv_at hl 0 rfl) ?_
        refine g10_26 hc hP (nv_m hon3 (by decide) Nat.zero_lt_one) dX10_finish_46 ?_
        refine lv_iload_n hx hb dX10_finish_49 rfl (lv_at hl 1 rfl) ?_
        refine lv_iconst (v := 1) hx hb dX10_finish_50 (by decide) ?_
        refine sa_38 hc hP hS (nv_m hon3 (by decide) Nat.zero_lt_one) (mvp (nb_nz.mp c_10) hok.na hok.na5 (by decide)) dX10_finish_51 (fun H locs hP hS => ?_)
        refine lv_iconst (v := 0) hx hb dX10_finish_52 (by decide) ?_
        refine lv_istore_n (lv' := [(2, .int _), (0, .ref _), (1, .int _)]) hx hb dX10_finish_53 rfl hl (by decide) rfl (fun ls hl => ?_)
        refine lv_iconst (v := nI 0) hx hb dX10_finish_54 (by decide) ?_
        refine lv_istore_n (lv' := [(3, .int _), (2, .int _), (0, .ref _), (1, .int _)]) hx hb dX10_finish_55 rfl hl (by decide) rfl (fun ls hl => ?_)
        exact lp _ 0 _ _ (Nat.zero_add _) mOff.rf rfl (by clear hP hS hl hc hx hb hr hT; simp_all [-Int32.not_le, -Int32.not_lt, i32_lt, nb_t, nb_f, nb_z, nb_o]) (by clear hP hS hl hc hx hb hr hT; simp_all [-Int32.not_le, -Int32.not_lt, i32_lt, nb_t, nb_f, nb_z, nb_o]) _ _ _ hP hS (lv_sub hl [0, 1, 3, 2] rfl)
      · refine lv_aload_n hx hb dX10_finish_39 rfl (lv_at hl 0 rfl) ?_
        refine lv_iconst (v := 2) hx hb dX10_finish_40 (by decide) ?_
        refine nc_Vi (c_X10_fails hI hon3) hc hP hS hl.1 gd10_104 (nrecv (q := (RX10, TX10, 31)) hc (npic_eta hP) (nv_m hon3 (by decide) Nat.zero_lt_one) rfl rfl) ⟨rfl, rfl⟩ nok_X10_fails rfl ⟨Nat.le_of_ble_eq_true rfl, Nat.le_of_ble_eq_true rfl⟩ ⟨Nat.le_of_ble_eq_true rfl, Nat.le_of_ble_eq_true rfl⟩ dX10_finish_41 rfl (Nat.le_of_ble_eq_true rfl) (fun r X1 H locs hp hP hS => ?_)
        obtain ⟨hr9, hX9⟩ := hp
        rw [hX9] at hP
        subst hr9
        exact ne_i hc hP hS hr dX10_finish_44 ⟨_, mOff.rf, (mR_of ((mG_t (by clear hP hS hl hc hx hb hr hT; simp_all [-Int32.not_le, -Int32.not_lt, i32_lt, nb_t, nb_f, nb_z, nb_o])).trans (mG_f (by clear hP hS hl hc hx hb hr hT; simp_all [-Int32.not_le, -Int32.not_lt, i32_lt, nb_t, nb_f, nb_z, nb_o]))))⟩
  · refine lv_aload_n hx hb dX10_finish_13 rfl (lv_at hl 0 rfl) ?_
    refine lv_iconst (v := 1) hx hb dX10_finish_14 (by decide) ?_
    refine nc_Vi (c_X10_fails hI hon3) hc hP hS hl.1 gd10_104 (nrecv (q := (RX10, TX10, 31)) hc (npic_eta hP) (nv_m hon3 (by decide) Nat.zero_lt_one) rfl rfl) ⟨rfl, rfl⟩ nok_X10_fails rfl ⟨Nat.le_of_ble_eq_true rfl, Nat.le_of_ble_eq_true rfl⟩ ⟨Nat.le_of_ble_eq_true rfl, Nat.le_of_ble_eq_true rfl⟩ dX10_finish_15 rfl (Nat.le_of_ble_eq_true rfl) (fun r X1 H locs hp hP hS => ?_)
    obtain ⟨hr9, hX9⟩ := hp
    rw [hX9] at hP
    subst hr9
    exact ne_i hc hP hS hr dX10_finish_18 ⟨_, mOff.rf, (mR_of (mG_f (by clear hP hS hl hc hx hb hr hT; simp_all [-Int32.not_le, -Int32.not_lt, i32_lt, nb_t, nb_f, nb_z, nb_o])))⟩
set_option maxHeartbeats 4000000 in
set_option maxRecDepth 100000 in
theorem c_X10_winner (hI : ninj ad on) (hon3 : on 3) (hT : nput M 30 0 0 0 = T) (hok : mOk T) {a : Int32} : nMi l D dA ad on yX10_winner cX10_winner 4 (some .int) (nrm 9) [.ref (ad 3 30 0), .int a] (wdo X 3 M) (fun r X' => ∃ U, (mOff T U) ∧ r = (mG (mIn a 0 (T 30 0 5 - 1)) 1 T (0 : Int32) (mG (!decide (T 38 0 (nix a) = 0)) 2 T (0 : Int32) (mG (!decide (mWin T a (mnp T) < 0)) 3 U (0 : Int32) ((mWin T a (mnp T), U))))).1 ∧ X' = wdo X 3 (mG (mIn a 0 (T 30 0 5 - 1)) 1 T (0 : Int32) (mG (!decide (T 38 0 (nix a) = 0)) 2 T (0 : Int32) (mG (!decide (mWin T a (mnp T) < 0)) 3 U (0 : Int32) ((mWin T a (mnp T), U))))).2) := by
  refine nM_of hI (by decide +kernel) (Nat.le_of_ble_eq_true rfl) ?_
  intro p e s m args below meth cd ls hc hr _ hP hl hS
  have hx := hc.1
  have hb := hc.2.1
  have hl : lv_has ls 4 [(0, .ref (ad 3 30 0)), (1, .int a)] := hl
  have lp : ∀ (r j : Nat) (acc : Int32) (U : NSt), j + r = mnp T → mOff T U → acc = mWin T a j → mIn a 0 (T 30 0 5 - 1) = true → (!decide (T 38 0 (nix a) = 0)) = true → ∀ (H : Heap) (locs : List Loc) (ls : Array Slot), npic D dA ad on (wdo X 3 U) H → va_S (nA ad on) s.heap H locs → lv_has ls 4 [(3, .int (nI j)), (2, .int acc), (1, .int a), (0, .ref (ad 3 30 0))] → W p l e (nrm 9) s m args below meth cd H locs 0 0 (MQ below (va_Qi (fun r X' => ∃ U, (mOff T U) ∧ r = (mG (mIn a 0 (T 30 0 5 - 1)) 1 T (0 : Int32) (mG (!decide (T 38 0 (nix a) = 0)) 2 T (0 : Int32) (mG (!decide (mWin T a (mnp T) < 0)) 3 U (0 : Int32) ((mWin T a (mnp T), U))))).1 ∧ X' = wdo X 3 (mG (mIn a 0 (T 30 0 5 - 1)) 1 T (0 : Int32) (mG (!decide (T 38 0 (nix a) = 0)) 2 T (0 : Int32) (mG (!decide (mWin T a (mnp T) < 0)) 3 U (0 : Int32) ((mWin T a (mnp T), U))))).2) (fun X' t => npic D dA ad on X' t.heap) (nA ad on)) args s 0 0 (nA ad on)) (F0 m 38 ls []) := by
    intro r
    induction r with
    | zero =>
      intro j acc U hj hU ha hq1 hq2 H locs ls hP hS hl
      have hjn : j = mnp T := by omega
      have h9 : mWin T a (mnp T) = acc := by rw [ha, hjn]
      refine lv_iload_n hx hb dX10_winner_38 rfl (lv_at hl 0 rfl) ?_
      refine lv_aload_n hx hb dX10_winner_39 rfl (lv_at hl 3 rfl) ?_
      refine g10_98 hc hP (nv_m hon3 (by decide) Nat.zero_lt_one) dX10_winner_40 ?_
      refine lv_icmp_ge (tgt := 95) hx hb dX10_winner_43 (by decide) (fun c_43 => ?_) (fun c_43 => absurd (lp_le (show U 30 0 12 = _ by rw [hU 30 (by decide) (by decide)]; exact hok.np) hjn) c_43)
      refine lv_iload_n hx hb dX10_winner_95 rfl (lv_at hl 1 rfl) ?_
      refine lv_if_ge (tgt := 107) hx hb dX10_winner_96 (by decide) (fun c_96 => ?_) (fun c_96 => ?_)
      · refine lv_iload_n hx hb dX10_winner_107 rfl (lv_at hl 1 rfl) ?_
        exact ne_i hc hP hS hr dX10_winner_108 ⟨_, hU, (mR_of ((mG_t (by clear hP hS hl hc hx hb hr hT; simp_all [-Int32.not_le, -Int32.not_lt, i32_lt, nb_t, nb_f, nb_z, nb_o])).trans ((mG_t (by clear hP hS hl hc hx hb hr hT; simp_all [-Int32.not_le, -Int32.not_lt, i32_lt, nb_t, nb_f, nb_z, nb_o])).trans ((mG_t (by clear hP hS hl hc hx hb hr hT; simp_all [-Int32.not_le, -Int32.not_lt, i32_lt, nb_t, nb_f, nb_z, nb_o])).trans ((by rw [h9]))))))⟩
      · refine lv_aload_n hx hb dX10_winner_99 rfl (lv_at hl 3 rfl) ?_
        refine lv_iconst (v := 3) hx hb dX10_winner_100 (by decide) ?_
        refine nc_Vi (c_X10_fails hI hon3) hc hP hS hl.1 gd10_104 (nrecv (q := (RX10, TX10, 31)) hc (npic_eta hP) (nv_m hon3 (by decide) Nat.zero_lt_one) rfl rfl) ⟨rfl, rfl⟩ nok_X10_fails rfl ⟨Nat.le_of_ble_eq_true rfl, Nat.le_of_ble_eq_true rfl⟩ ⟨Nat.le_of_ble_eq_true rfl, Nat.le_of_ble_eq_true rfl⟩ dX10_winner_101 rfl (Nat.le_of_ble_eq_true rfl) (fun r X1 H locs hp hP hS => ?_)
        obtain ⟨hr9, hX9⟩ := hp
        rw [hX9] at hP
        subst hr9
        refine lv_goto (tgt := 108) hx hb dX10_winner_104 (by decide) ?_
        exact ne_i hc hP hS hr dX10_winner_108 ⟨_, hU, (mR_of ((mG_t (by clear hP hS hl hc hx hb hr hT; simp_all [-Int32.not_le, -Int32.not_lt, i32_lt, nb_t, nb_f, nb_z, nb_o])).trans ((mG_t (by clear hP hS hl hc hx hb hr hT; simp_all [-Int32.not_le, -Int32.not_lt, i32_lt, nb_t, nb_f, nb_z, nb_o])).trans (mG_f (by clear hP hS hl hc hx hb hr hT; simp_all [-Int32.not_le, -Int32.not_lt, i32_lt, nb_t, nb_f, nb_z, nb_o])))))⟩
    | succ r ih =>
      intro j acc U hj hU ha hq1 hq2 H locs ls hP hS hl
      have hjn : j < mnp T := by omega
      have hj12 : j < 12 := Nat.lt_of_lt_of_le hjn hok.np12
      have ej : nix (nI j) = j := nI_clamp (by omega)
      have hjv : vp_in (nI j) 12 := vp_in_nI hj12 (by decide)
      have hjp : vp_in (nI j) (mnp T) := vp_in_nI hjn hok.npL
      have hoU := hU.ok hok
      have hjU : vp_in (nI j) (mnp U) := by rw [hU.enp]; exact hjp
      have hKU : ∀ k, k ≠ 59 → k ≠ 60 → U k = T k := hU
      refine lv_iload_n hx hb dX10_winner_38 rfl (lv_at hl 0 rfl) ?_
      refine lv_aload_n hx hb dX10_winner_39 rfl (lv_at hl 3 rfl) ?_
      refine g10_98 hc hP (nv_m hon3 (by decide) Nat.zero_lt_one) dX10_winner_40 ?_
      refine lv_icmp_ge (tgt := 95) hx hb dX10_winner_43 (by decide) (fun c_43 => absurd c_43 (lp_gt (show U 30 0 12 = _ by rw [hU 30 (by decide) (by decide)]; exact hok.np) hjn hok.npL)) (fun c_43 => ?_)
      refine lv_aload_n hx hb dX10_winner_46 rfl (lv_at hl 3 rfl) ?_
      refine g10_36 hc hP (nv_m hon3 (by decide) Nat.zero_lt_one) dX10_winner_47 ?_
      refine lv_iload_n hx hb dX10_winner_50 rfl (lv_at hl 0 rfl) ?_
      refine la_43 hc hP (nv_m hon3 (by decide) Nat.zero_lt_one) hjv dX10_winner_51 ?_
      refine lv_iload_n hx hb dX10_winner_52 rfl (lv_at hl 2 rfl) ?_
      refine lv_icmp_ne (tgt := 89) hx hb dX10_winner_53 (by decide) (fun c_53 => ?_) (fun c_53 => ?_)
      · refine lv_iinc (v := nI (j + 1)) (lv' := [(3, .int _), (2, .int _), (1, .int _), (0, .ref _)]) hx hb dX10_winner_89 hl (k := 0) rfl (nI_inc j) (by decide) rfl (fun ls hl => ?_)
        refine lv_goto (tgt := 38) hx hb dX10_winner_92 (by decide) ?_
        exact ih (j + 1) _ _ (by omega) (hU) (by rw [mWin_s, ← ha]; clear hP hS hl hc hx hb hr ih hT hq1 hq2; simp_all [-Int32.not_le, -Int32.not_lt, i32_lt, nb_t, nb_f, nb_z, nb_o]) hq1 hq2 _ _ _ hP hS (lv_sub hl [0, 1, 2, 3] rfl)
      · refine lv_aload_n hx hb dX10_winner_56 rfl (lv_at hl 3 rfl) ?_
        refine lv_iload_n hx hb dX10_winner_57 rfl (lv_at hl 0 rfl) ?_
        refine nc_Vi (c_X10_reasonOf hI hon3 hoU (hjU)) hc hP hS hl.1 gd10_180 (nrecv (q := (RX10, TX10, 31)) hc (npic_eta hP) (nv_m hon3 (by decide) Nat.zero_lt_one) rfl rfl) ⟨rfl, rfl⟩ nok_X10_reasonOf rfl ⟨Nat.le_of_ble_eq_true rfl, Nat.le_of_ble_eq_true rfl⟩ ⟨Nat.le_of_ble_eq_true rfl, Nat.le_of_ble_eq_true rfl⟩ dX10_winner_58 rfl (Nat.le_of_ble_eq_true rfl) (fun r X1 H locs hp hP hS => ?_)
        obtain ⟨U58, hO58, hr9, hX9⟩ := hp
        have hU58 := hO58.off
        rw [hX9] at hP
        subst hr9
        have hK58 : ∀ k, k ≠ 59 → k ≠ 60 → U58 k = U k := hU58
        have hw9 : mWhy U (nI j) = mWhy T (nI j) := mWhy_off hU _ hjv
        refine lv_if_ne (tgt := 89) hx hb dX10_winner_61 (by decide) (fun c_61 => ?_) (fun c_61 => ?_)
        · refine lv_iinc (v := nI (j + 1)) (lv' := [(3, .int _), (2, .int _), (1, .int _), (0, .ref _)]) hx hb dX10_winner_89 hl (k := 0) rfl (nI_inc j) (by decide) rfl (fun ls hl => ?_)
          refine lv_goto (tgt := 38) hx hb dX10_winner_92 (by decide) ?_
          exact ih (j + 1) _ _ (by omega) (hU.tr hU58) (by rw [mWin_s, ← ha]; clear hP hS hl hc hx hb hr ih hT hq1 hq2; simp_all [-Int32.not_le, -Int32.not_lt, i32_lt, nb_t, nb_f, nb_z, nb_o]) hq1 hq2 _ _ _ hP hS (lv_sub hl [0, 1, 2, 3] rfl)
        · refine lv_iload_n hx hb dX10_winner_64 rfl (lv_at hl 1 rfl) ?_
          refine lv_if_lt (tgt := 83) hx hb dX10_winner_65 (by decide) (fun c_65 => ?_) (fun c_65 => ?_)
          · refine lv_iload_n hx hb dX10_winner_83 rfl (lv_at hl 0 rfl) ?_
            refine lv_goto (tgt := 88) hx hb dX10_winner_84 (by decide) ?_
            refine lv_istore_n (lv' := [(2, .int _), (3, .int _), (1, .int _), (0, .ref _)]) hx hb dX10_winner_88 rfl hl (by decide) rfl (fun ls hl => ?_)
            refine lv_iinc (v := nI (j + 1)) (lv' := [(3, .int _), (2, .int _), (1, .int _), (0, .ref _)]) hx hb dX10_winner_89 hl (k := 1) rfl (nI_inc j) (by decide) rfl (fun ls hl => ?_)
            refine lv_goto (tgt := 38) hx hb dX10_winner_92 (by decide) ?_
            exact ih (j + 1) _ _ (by omega) (hU.tr hU58) (by rw [mWin_s, ← ha]; clear hP hS hl hc hx hb hr ih hT hq1 hq2; simp_all [-Int32.not_le, -Int32.not_lt, i32_lt, nb_t, nb_f, nb_z, nb_o]) hq1 hq2 _ _ _ hP hS (lv_sub hl [0, 1, 2, 3] rfl)
          · refine lv_aload_n hx hb dX10_winner_68 rfl (lv_at hl 3 rfl) ?_
            refine g10_58 hc hP (nv_m hon3 (by decide) Nat.zero_lt_one) dX10_winner_69 ?_
            refine lv_iload_n hx hb dX10_winner_72 rfl (lv_at hl 0 rfl) ?_
            refine la_50 hc hP (nv_m hon3 (by decide) Nat.zero_lt_one) hjv dX10_winner_73 ?_
            refine lv_aload_n hx hb dX10_winner_74 rfl (lv_at hl 3 rfl) ?_
            refine g10_58 hc hP (nv_m hon3 (by decide) Nat.zero_lt_one) dX10_winner_75 ?_
            refine lv_iload_n hx hb dX10_winner_78 rfl (lv_at hl 1 rfl) ?_
            refine la_50 hc hP (nv_m hon3 (by decide) Nat.zero_lt_one) (mWin_12 ha (Nat.le_of_lt hj12) c_65) dX10_winner_79 ?_
            refine lv_icmp_le (tgt := 87) hx hb dX10_winner_80 (by decide) (fun c_80 => ?_) (fun c_80 => ?_)
            · refine lv_iload_n hx hb dX10_winner_87 rfl (lv_at hl 1 rfl) ?_
              refine lv_istore_n (lv' := [(2, .int _), (3, .int _), (1, .int _), (0, .ref _)]) hx hb dX10_winner_88 rfl hl (by decide) rfl (fun ls hl => ?_)
              refine lv_iinc (v := nI (j + 1)) (lv' := [(3, .int _), (2, .int _), (1, .int _), (0, .ref _)]) hx hb dX10_winner_89 hl (k := 1) rfl (nI_inc j) (by decide) rfl (fun ls hl => ?_)
              refine lv_goto (tgt := 38) hx hb dX10_winner_92 (by decide) ?_
              exact ih (j + 1) _ _ (by omega) (hU.tr hU58) (by rw [mWin_s, ← ha]; clear hP hS hl hc hx hb hr ih hT hq1 hq2; simp_all [-Int32.not_le, -Int32.not_lt, i32_lt, nb_t, nb_f, nb_z, nb_o]) hq1 hq2 _ _ _ hP hS (lv_sub hl [0, 1, 2, 3] rfl)
            · refine lv_iload_n hx hb dX10_winner_83 rfl (lv_at hl 0 rfl) ?_
              refine lv_goto (tgt := 88) hx hb dX10_winner_84 (by decide) ?_
              refine lv_istore_n (lv' := [(2, .int _), (3, .int _), (1, .int _), (0, .ref _)]) hx hb dX10_winner_88 rfl hl (by decide) rfl (fun ls hl => ?_)
              refine lv_iinc (v := nI (j + 1)) (lv' := [(3, .int _), (2, .int _), (1, .int _), (0, .ref _)]) hx hb dX10_winner_89 hl (k := 1) rfl (nI_inc j) (by decide) rfl (fun ls hl => ?_)
              refine lv_goto (tgt := 38) hx hb dX10_winner_92 (by decide) ?_
              exact ih (j + 1) _ _ (by omega) (hU.tr hU58) (by rw [mWin_s, ← ha]; clear hP hS hl hc hx hb hr ih hT hq1 hq2; simp_all [-Int32.not_le, -Int32.not_lt, i32_lt, nb_t, nb_f, nb_z, nb_o]) hq1 hq2 _ _ _ hP hS (lv_sub hl [0, 1, 2, 3] rfl)
  refine lv_aload_n hx hb dX10_winner_0 rfl (lv_at hl 0 rfl) ?_
  refine lv_iconst (v := 0) hx hb dX10_winner_1 (by decide) ?_
  refine p10_85 hc hP hS (nv_m hon3 (by decide) Nat.zero_lt_one) dX10_winner_2 (fun H locs hP hS => ?_)
  rw [hT] at hP
  refine lv_aload_n hx hb dX10_winner_5 rfl (lv_at hl 0 rfl) ?_
  refine lv_iload_n hx hb dX10_winner_6 rfl (lv_at hl 1 rfl) ?_
  refine nc_Vi (c_X10_isArea hI hon3 ) hc hP hS hl.1 gd10_125 (nrecv (q := (RX10, TX10, 31)) hc (npic_eta hP) (nv_m hon3 (by decide) Nat.zero_lt_one) rfl rfl) ⟨rfl, rfl⟩ nok_X10_isArea rfl ⟨Nat.le_of_ble_eq_true rfl, Nat.le_of_ble_eq_true rfl⟩ ⟨Nat.le_of_ble_eq_true rfl, Nat.le_of_ble_eq_true rfl⟩ dX10_winner_7 rfl (Nat.le_of_ble_eq_true rfl) (fun r X1 H locs hp hP hS => ?_)
  obtain ⟨hr9, hX9⟩ := hp
  rw [hX9] at hP
  subst hr9
  refine lv_if_ne (tgt := 19) hx hb dX10_winner_10 (by decide) (fun c_10 => ?_) (fun c_10 => ?_)
  · refine lv_aload_n hx hb dX10_winner_19 rfl (lv_at hl 0 rfl) ?_
    refine g10_26 hc hP (nv_m hon3 (by decide) Nat.zero_lt_one) dX10_winner_20 ?_
    refine lv_iload_n hx hb dX10_winner_23 rfl (lv_at hl 1 rfl) ?_
    refine la_38 hc hP (nv_m hon3 (by decide) Nat.zero_lt_one) (mvp (nb_nz.mp c_10) hok.na hok.na5 (by decide)) dX10_winner_24 ?_
    refine lv_if_ne (tgt := 34) hx hb dX10_winner_25 (by decide) (fun c_25 => ?_) (fun c_25 => ?_)
    · refine lv_iconst (v := (-1)) hx hb dX10_winner_34 (by decide) ?_
      refine lv_istore_n (lv' := [(2, .int _), (0, .ref _), (1, .int _)]) hx hb dX10_winner_35 rfl hl (by decide) rfl (fun ls hl => ?_)
      refine lv_iconst (v := nI 0) hx hb dX10_winner_36 (by decide) ?_
      refine lv_istore_n (lv' := [(3, .int _), (2, .int _), (0, .ref _), (1, .int _)]) hx hb dX10_winner_37 rfl hl (by decide) rfl (fun ls hl => ?_)
      exact lp _ 0 _ _ (Nat.zero_add _) mOff.rf rfl (by clear hP hS hl hc hx hb hr hT; simp_all [-Int32.not_le, -Int32.not_lt, i32_lt, nb_t, nb_f, nb_z, nb_o]) (by clear hP hS hl hc hx hb hr hT; simp_all [-Int32.not_le, -Int32.not_lt, i32_lt, nb_t, nb_f, nb_z, nb_o]) _ _ _ hP hS (lv_sub hl [0, 1, 3, 2] rfl)
    · refine lv_aload_n hx hb dX10_winner_28 rfl (lv_at hl 0 rfl) ?_
      refine lv_iconst (v := 2) hx hb dX10_winner_29 (by decide) ?_
      refine nc_Vi (c_X10_fails hI hon3) hc hP hS hl.1 gd10_104 (nrecv (q := (RX10, TX10, 31)) hc (npic_eta hP) (nv_m hon3 (by decide) Nat.zero_lt_one) rfl rfl) ⟨rfl, rfl⟩ nok_X10_fails rfl ⟨Nat.le_of_ble_eq_true rfl, Nat.le_of_ble_eq_true rfl⟩ ⟨Nat.le_of_ble_eq_true rfl, Nat.le_of_ble_eq_true rfl⟩ dX10_winner_30 rfl (Nat.le_of_ble_eq_true rfl) (fun r X1 H locs hp hP hS => ?_)
      obtain ⟨hr9, hX9⟩ := hp
      rw [hX9] at hP
      subst hr9
      exact ne_i hc hP hS hr dX10_winner_33 ⟨_, mOff.rf, (mR_of ((mG_t (by clear hP hS hl hc hx hb hr hT; simp_all [-Int32.not_le, -Int32.not_lt, i32_lt, nb_t, nb_f, nb_z, nb_o])).trans (mG_f (by clear hP hS hl hc hx hb hr hT; simp_all [-Int32.not_le, -Int32.not_lt, i32_lt, nb_t, nb_f, nb_z, nb_o]))))⟩
  · refine lv_aload_n hx hb dX10_winner_13 rfl (lv_at hl 0 rfl) ?_
    refine lv_iconst (v := 1) hx hb dX10_winner_14 (by decide) ?_
    refine nc_Vi (c_X10_fails hI hon3) hc hP hS hl.1 gd10_104 (nrecv (q := (RX10, TX10, 31)) hc (npic_eta hP) (nv_m hon3 (by decide) Nat.zero_lt_one) rfl rfl) ⟨rfl, rfl⟩ nok_X10_fails rfl ⟨Nat.le_of_ble_eq_true rfl, Nat.le_of_ble_eq_true rfl⟩ ⟨Nat.le_of_ble_eq_true rfl, Nat.le_of_ble_eq_true rfl⟩ dX10_winner_15 rfl (Nat.le_of_ble_eq_true rfl) (fun r X1 H locs hp hP hS => ?_)
    obtain ⟨hr9, hX9⟩ := hp
    rw [hX9] at hP
    subst hr9
    exact ne_i hc hP hS hr dX10_winner_18 ⟨_, mOff.rf, (mR_of (mG_f (by clear hP hS hl hc hx hb hr hT; simp_all [-Int32.not_le, -Int32.not_lt, i32_lt, nb_t, nb_f, nb_z, nb_o])))⟩
set_option maxHeartbeats 4000000 in
set_option maxRecDepth 100000 in
theorem c_X10_withdraw (hI : ninj ad on) (hon3 : on 3) (hT : nput M 30 0 0 0 = T) (hok : mOk T) {x : Int32} : nMi l D dA ad on yX10_withdraw cX10_withdraw 4 (some .int) (nrm 9) [.ref (ad 3 30 0), .int x] (wdo X 3 M) (fun r X' => r = (mG (mIn x 0 (T 30 0 12 - 1)) 1 T (0 : Int32) (mG (decide (T 46 0 (nix x) ≤ 0) && !mRej T x && decide (T 30 0 4 ≤ T 30 0 2)) 2 T (0 : Int32) ((if mOpen T then mFreed T x else 0, nput T 46 0 (nix x) (if mOpen T then 1 else 2))))).1 ∧ X' = wdo X 3 (mG (mIn x 0 (T 30 0 12 - 1)) 1 T (0 : Int32) (mG (decide (T 46 0 (nix x) ≤ 0) && !mRej T x && decide (T 30 0 4 ≤ T 30 0 2)) 2 T (0 : Int32) ((if mOpen T then mFreed T x else 0, nput T 46 0 (nix x) (if mOpen T then 1 else 2))))).2) := by
  refine nM_of hI (by decide +kernel) (Nat.le_of_ble_eq_true rfl) ?_
  intro p e s m args below meth cd ls hc hr _ hP hl hS
  have hx := hc.1
  have hb := hc.2.1
  have hl : lv_has ls 4 [(0, .ref (ad 3 30 0)), (1, .int x)] := hl
  have lp : ∀ (r j : Nat) (acc : Int32), j + r = mns T → acc = isum (fun k => if !decide (T 53 0 k = x) && !decide (mOres T k 0 = 0) && decide (mOres T k (1 <<< (x &&& 31)) = 0) then 1 else 0) j → mIn x 0 (T 30 0 12 - 1) = true → (decide (T 46 0 (nix x) ≤ 0) && !mRej T x && decide (T 30 0 4 ≤ T 30 0 2)) = true → mOpen T = true → ∀ (H : Heap) (locs : List Loc) (ls : Array Slot), npic D dA ad on (wdo X 3 T) H → va_S (nA ad on) s.heap H locs → lv_has ls 4 [(3, .int (nI j)), (2, .int acc), (1, .int x), (0, .ref (ad 3 30 0))] → W p l e (nrm 9) s m args below meth cd H locs 0 0 (MQ below (va_Qi (fun r X' => r = (mG (mIn x 0 (T 30 0 12 - 1)) 1 T (0 : Int32) (mG (decide (T 46 0 (nix x) ≤ 0) && !mRej T x && decide (T 30 0 4 ≤ T 30 0 2)) 2 T (0 : Int32) ((if mOpen T then mFreed T x else 0, nput T 46 0 (nix x) (if mOpen T then 1 else 2))))).1 ∧ X' = wdo X 3 (mG (mIn x 0 (T 30 0 12 - 1)) 1 T (0 : Int32) (mG (decide (T 46 0 (nix x) ≤ 0) && !mRej T x && decide (T 30 0 4 ≤ T 30 0 2)) 2 T (0 : Int32) ((if mOpen T then mFreed T x else 0, nput T 46 0 (nix x) (if mOpen T then 1 else 2))))).2) (fun X' t => npic D dA ad on X' t.heap) (nA ad on)) args s 0 0 (nA ad on)) (F0 m 64 ls []) := by
    intro r
    induction r with
    | zero =>
      intro j acc hj ha hq1 hq2 hq3 H locs ls hP hS hl
      have hjn : j = mns T := by omega
      refine lv_iload_n hx hb dX10_withdraw_64 rfl (lv_at hl 0 rfl) ?_
      refine lv_aload_n hx hb dX10_withdraw_65 rfl (lv_at hl 3 rfl) ?_
      refine g10_115 hc hP (nv_m hon3 (by decide) Nat.zero_lt_one) dX10_withdraw_66 ?_
      refine lv_icmp_ge (tgt := 116) hx hb dX10_withdraw_69 (by decide) (fun c_69 => ?_) (fun c_69 => absurd (lp_le hok.ns hjn) c_69)
      refine lv_aload_n hx hb dX10_withdraw_116 rfl (lv_at hl 3 rfl) ?_
      refine g10_46 hc hP (nv_m hon3 (by decide) Nat.zero_lt_one) dX10_withdraw_117 ?_
      refine lv_iload_n hx hb dX10_withdraw_120 rfl (lv_at hl 2 rfl) ?_
      refine lv_aload_n hx hb dX10_withdraw_121 rfl (lv_at hl 3 rfl) ?_
      refine nc_Vi (c_X10_open hI hon3) hc hP hS hl.1 gd10_108 (nrecv (q := (RX10, TX10, 31)) hc (npic_eta hP) (nv_m hon3 (by decide) Nat.zero_lt_one) rfl rfl) ⟨rfl, rfl⟩ nok_X10_open rfl ⟨Nat.le_of_ble_eq_true rfl, Nat.le_of_ble_eq_true rfl⟩ ⟨Nat.le_of_ble_eq_true rfl, Nat.le_of_ble_eq_true rfl⟩ dX10_withdraw_122 rfl (Nat.le_of_ble_eq_true rfl) (fun r X1 H locs hp hP hS => ?_)
      obtain ⟨hr9, hX9⟩ := hp
      rw [hX9] at hP
      subst hr9
      refine lv_if_eq (tgt := 132) hx hb dX10_withdraw_125 (by decide) (fun c_125 => ?_) (fun c_125 => ?_)
      · refine lv_iconst (v := 2) hx hb dX10_withdraw_132 (by decide) ?_
        refine sa_46 hc hP hS (nv_m hon3 (by decide) Nat.zero_lt_one) (mvp hq1 hok.np hok.np12 (by decide)) dX10_withdraw_133 (fun H locs hP hS => ?_)
        refine lv_iload_n hx hb dX10_withdraw_134 rfl (lv_at hl 1 rfl) ?_
        exact ne_i hc hP hS hr dX10_withdraw_135 (mR_of ((mG_t (by clear hP hS hl hc hx hb hr hT; simp_all [-Int32.not_le, -Int32.not_lt, i32_lt, nb_t, nb_f, nb_z, nb_o])).trans ((mG_t (by clear hP hS hl hc hx hb hr hT; simp_all [-Int32.not_le, -Int32.not_lt, i32_lt, nb_t, nb_f, nb_z, nb_o])).trans ((by first | (rw [hq3, mFreed, ha, hjn]; rfl) | (exfalso; clear hP hS hl hc hx hb hr hT; simp_all [nb_t, nb_f]; done))))))
      · refine lv_iconst (v := 1) hx hb dX10_withdraw_128 (by decide) ?_
        refine lv_goto (tgt := 133) hx hb dX10_withdraw_129 (by decide) ?_
        refine sa_46 hc hP hS (nv_m hon3 (by decide) Nat.zero_lt_one) (mvp hq1 hok.np hok.np12 (by decide)) dX10_withdraw_133 (fun H locs hP hS => ?_)
        refine lv_iload_n hx hb dX10_withdraw_134 rfl (lv_at hl 1 rfl) ?_
        exact ne_i hc hP hS hr dX10_withdraw_135 (mR_of ((mG_t (by clear hP hS hl hc hx hb hr hT; simp_all [-Int32.not_le, -Int32.not_lt, i32_lt, nb_t, nb_f, nb_z, nb_o])).trans ((mG_t (by clear hP hS hl hc hx hb hr hT; simp_all [-Int32.not_le, -Int32.not_lt, i32_lt, nb_t, nb_f, nb_z, nb_o])).trans ((by first | (rw [hq3, mFreed, ha, hjn]; rfl) | (exfalso; clear hP hS hl hc hx hb hr hT; simp_all [nb_t, nb_f]; done))))))
    | succ r ih =>
      intro j acc hj ha hq1 hq2 hq3 H locs ls hP hS hl
      have hjn : j < mns T := by omega
      have hj150 : j < 150 := Nat.lt_of_lt_of_le hjn hok.ns150
      have ej : nix (nI j) = j := nI_clamp (by omega)
      have hjv : vp_in (nI j) 150 := vp_in_nI hj150 (by decide)
      have hjs : nix (nI j) < mns T := by rw [ej]; exact hjn
      have hjn2 : vp_in (nI j) (mns T) := vp_in_nI hjn hok.nsL
      refine lv_iload_n hx hb dX10_withdraw_64 rfl (lv_at hl 0 rfl) ?_
      refine lv_aload_n hx hb dX10_withdraw_65 rfl (lv_at hl 3 rfl) ?_
      refine g10_115 hc hP (nv_m hon3 (by decide) Nat.zero_lt_one) dX10_withdraw_66 ?_
      refine lv_icmp_ge (tgt := 116) hx hb dX10_withdraw_69 (by decide) (fun c_69 => absurd c_69 (lp_gt hok.ns hjn hok.nsL)) (fun c_69 => ?_)
      refine lv_iload_n hx hb dX10_withdraw_72 rfl (lv_at hl 1 rfl) ?_
      refine lv_aload_n hx hb dX10_withdraw_73 rfl (lv_at hl 3 rfl) ?_
      refine g10_64 hc hP (nv_m hon3 (by decide) Nat.zero_lt_one) dX10_withdraw_74 ?_
      refine lv_iload_n hx hb dX10_withdraw_77 rfl (lv_at hl 0 rfl) ?_
      refine la_53 hc hP (nv_m hon3 (by decide) Nat.zero_lt_one) hjv dX10_withdraw_78 ?_
      refine lv_iload_n hx hb dX10_withdraw_79 rfl (lv_at hl 2 rfl) ?_
      refine lv_icmp_eq (tgt := 107) hx hb dX10_withdraw_80 (by decide) (fun c_80 => ?_) (fun c_80 => ?_)
      · refine lv_iconst (v := 0) hx hb dX10_withdraw_107 (by decide) ?_
        refine lv_iadd hx hb dX10_withdraw_108 ?_
        refine lv_istore_n (lv' := [(2, .int _), (3, .int _), (1, .int _), (0, .ref _)]) hx hb dX10_withdraw_109 rfl hl (by decide) rfl (fun ls hl => ?_)
        refine lv_iinc (v := nI (j + 1)) (lv' := [(3, .int _), (2, .int _), (1, .int _), (0, .ref _)]) hx hb dX10_withdraw_110 hl (k := 1) rfl (nI_inc j) (by decide) rfl (fun ls hl => ?_)
        refine lv_goto (tgt := 64) hx hb dX10_withdraw_113 (by decide) ?_
        exact ih (j + 1) _ (by omega) (by rw [isum_s, ← ha]; clear hP hS hl hc hx hb hr ih hT hq1 hq2 hq3; simp_all [-Int32.not_le, -Int32.not_lt, i32_lt, nb_t, nb_f, nb_z, nb_o]) hq1 hq2 hq3 _ _ _ hP hS (lv_sub hl [0, 1, 2, 3] rfl)
      · refine lv_aload_n hx hb dX10_withdraw_83 rfl (lv_at hl 3 rfl) ?_
        refine lv_iload_n hx hb dX10_withdraw_84 rfl (lv_at hl 0 rfl) ?_
        refine lv_iconst (v := 0) hx hb dX10_withdraw_85 (by decide) ?_
        refine nc_Vi (c_X10_openResult hI hon3 hok hjn2) hc hP hS hl.1 gd10_118 (nrecv (q := (RX10, TX10, 31)) hc (npic_eta hP) (nv_m hon3 (by decide) Nat.zero_lt_one) rfl rfl) ⟨rfl, rfl⟩ nok_X10_openResult rfl ⟨Nat.le_of_ble_eq_true rfl, Nat.le_of_ble_eq_true rfl⟩ ⟨Nat.le_of_ble_eq_true rfl, Nat.le_of_ble_eq_true rfl⟩ dX10_withdraw_86 rfl (Nat.le_of_ble_eq_true rfl) (fun r X1 H locs hp hP hS => ?_)
        obtain ⟨hr9, hX9⟩ := hp
        rw [hX9] at hP
        subst hr9
        refine lv_if_eq (tgt := 107) hx hb dX10_withdraw_89 (by decide) (fun c_89 => ?_) (fun c_89 => ?_)
        · refine lv_iconst (v := 0) hx hb dX10_withdraw_107 (by decide) ?_
          refine lv_iadd hx hb dX10_withdraw_108 ?_
          refine lv_istore_n (lv' := [(2, .int _), (3, .int _), (1, .int _), (0, .ref _)]) hx hb dX10_withdraw_109 rfl hl (by decide) rfl (fun ls hl => ?_)
          refine lv_iinc (v := nI (j + 1)) (lv' := [(3, .int _), (2, .int _), (1, .int _), (0, .ref _)]) hx hb dX10_withdraw_110 hl (k := 1) rfl (nI_inc j) (by decide) rfl (fun ls hl => ?_)
          refine lv_goto (tgt := 64) hx hb dX10_withdraw_113 (by decide) ?_
          exact ih (j + 1) _ (by omega) (by rw [isum_s, ← ha]; clear hP hS hl hc hx hb hr ih hT hq1 hq2 hq3; simp_all [-Int32.not_le, -Int32.not_lt, i32_lt, nb_t, nb_f, nb_z, nb_o]) hq1 hq2 hq3 _ _ _ hP hS (lv_sub hl [0, 1, 2, 3] rfl)
        · refine lv_aload_n hx hb dX10_withdraw_92 rfl (lv_at hl 3 rfl) ?_
          refine lv_iload_n hx hb dX10_withdraw_93 rfl (lv_at hl 0 rfl) ?_
          refine lv_iconst (v := 1) hx hb dX10_withdraw_94 (by decide) ?_
          refine lv_iload_n hx hb dX10_withdraw_95 rfl (lv_at hl 2 rfl) ?_
          refine lv_ishl hx hb dX10_withdraw_96 ?_
          refine nc_Vi (c_X10_openResult hI hon3 hok hjn2) hc hP hS hl.1 gd10_118 (nrecv (q := (RX10, TX10, 31)) hc (npic_eta hP) (nv_m hon3 (by decide) Nat.zero_lt_one) rfl rfl) ⟨rfl, rfl⟩ nok_X10_openResult rfl ⟨Nat.le_of_ble_eq_true rfl, Nat.le_of_ble_eq_true rfl⟩ ⟨Nat.le_of_ble_eq_true rfl, Nat.le_of_ble_eq_true rfl⟩ dX10_withdraw_97 rfl (Nat.le_of_ble_eq_true rfl) (fun r X1 H locs hp hP hS => ?_)
          obtain ⟨hr9, hX9⟩ := hp
          rw [hX9] at hP
          subst hr9
          refine lv_if_ne (tgt := 107) hx hb dX10_withdraw_100 (by decide) (fun c_100 => ?_) (fun c_100 => ?_)
          · refine lv_iconst (v := 0) hx hb dX10_withdraw_107 (by decide) ?_
            refine lv_iadd hx hb dX10_withdraw_108 ?_
            refine lv_istore_n (lv' := [(2, .int _), (3, .int _), (1, .int _), (0, .ref _)]) hx hb dX10_withdraw_109 rfl hl (by decide) rfl (fun ls hl => ?_)
            refine lv_iinc (v := nI (j + 1)) (lv' := [(3, .int _), (2, .int _), (1, .int _), (0, .ref _)]) hx hb dX10_withdraw_110 hl (k := 1) rfl (nI_inc j) (by decide) rfl (fun ls hl => ?_)
            refine lv_goto (tgt := 64) hx hb dX10_withdraw_113 (by decide) ?_
            exact ih (j + 1) _ (by omega) (by rw [isum_s, ← ha]; clear hP hS hl hc hx hb hr ih hT hq1 hq2 hq3; simp_all [-Int32.not_le, -Int32.not_lt, i32_lt, nb_t, nb_f, nb_z, nb_o]) hq1 hq2 hq3 _ _ _ hP hS (lv_sub hl [0, 1, 2, 3] rfl)
          · refine lv_iconst (v := 1) hx hb dX10_withdraw_103 (by decide) ?_
            refine lv_goto (tgt := 108) hx hb dX10_withdraw_104 (by decide) ?_
            refine lv_iadd hx hb dX10_withdraw_108 ?_
            refine lv_istore_n (lv' := [(2, .int _), (3, .int _), (1, .int _), (0, .ref _)]) hx hb dX10_withdraw_109 rfl hl (by decide) rfl (fun ls hl => ?_)
            refine lv_iinc (v := nI (j + 1)) (lv' := [(3, .int _), (2, .int _), (1, .int _), (0, .ref _)]) hx hb dX10_withdraw_110 hl (k := 1) rfl (nI_inc j) (by decide) rfl (fun ls hl => ?_)
            refine lv_goto (tgt := 64) hx hb dX10_withdraw_113 (by decide) ?_
            exact ih (j + 1) _ (by omega) (by rw [isum_s, ← ha]; clear hP hS hl hc hx hb hr ih hT hq1 hq2 hq3; simp_all [-Int32.not_le, -Int32.not_lt, i32_lt, nb_t, nb_f, nb_z, nb_o]) hq1 hq2 hq3 _ _ _ hP hS (lv_sub hl [0, 1, 2, 3] rfl)
  refine lv_aload_n hx hb dX10_withdraw_0 rfl (lv_at hl 0 rfl) ?_
  refine lv_iconst (v := 0) hx hb dX10_withdraw_1 (by decide) ?_
  refine p10_85 hc hP hS (nv_m hon3 (by decide) Nat.zero_lt_one) dX10_withdraw_2 (fun H locs hP hS => ?_)
  rw [hT] at hP
  refine lv_aload_n hx hb dX10_withdraw_5 rfl (lv_at hl 0 rfl) ?_
  refine lv_iload_n hx hb dX10_withdraw_6 rfl (lv_at hl 1 rfl) ?_
  refine nc_Vi (c_X10_isPaper hI hon3 ) hc hP hS hl.1 gd10_152 (nrecv (q := (RX10, TX10, 31)) hc (npic_eta hP) (nv_m hon3 (by decide) Nat.zero_lt_one) rfl rfl) ⟨rfl, rfl⟩ nok_X10_isPaper rfl ⟨Nat.le_of_ble_eq_true rfl, Nat.le_of_ble_eq_true rfl⟩ ⟨Nat.le_of_ble_eq_true rfl, Nat.le_of_ble_eq_true rfl⟩ dX10_withdraw_7 rfl (Nat.le_of_ble_eq_true rfl) (fun r X1 H locs hp hP hS => ?_)
  obtain ⟨hr9, hX9⟩ := hp
  rw [hX9] at hP
  subst hr9
  refine lv_if_ne (tgt := 19) hx hb dX10_withdraw_10 (by decide) (fun c_10 => ?_) (fun c_10 => ?_)
  · refine lv_aload_n hx hb dX10_withdraw_19 rfl (lv_at hl 0 rfl) ?_
    refine g10_46 hc hP (nv_m hon3 (by decide) Nat.zero_lt_one) dX10_withdraw_20 ?_
    refine lv_iload_n hx hb dX10_withdraw_23 rfl (lv_at hl 1 rfl) ?_
    refine la_46 hc hP (nv_m hon3 (by decide) Nat.zero_lt_one) (mvp (nb_nz.mp c_10) hok.np hok.np12 (by decide)) dX10_withdraw_24 ?_
    refine lv_if_gt (tgt := 47) hx hb dX10_withdraw_25 (by decide) (fun c_25 => ?_) (fun c_25 => ?_)
    · refine lv_aload_n hx hb dX10_withdraw_47 rfl (lv_at hl 0 rfl) ?_
      refine lv_iconst (v := 2) hx hb dX10_withdraw_48 (by decide) ?_
      refine nc_Vi (c_X10_fails hI hon3) hc hP hS hl.1 gd10_104 (nrecv (q := (RX10, TX10, 31)) hc (npic_eta hP) (nv_m hon3 (by decide) Nat.zero_lt_one) rfl rfl) ⟨rfl, rfl⟩ nok_X10_fails rfl ⟨Nat.le_of_ble_eq_true rfl, Nat.le_of_ble_eq_true rfl⟩ ⟨Nat.le_of_ble_eq_true rfl, Nat.le_of_ble_eq_true rfl⟩ dX10_withdraw_49 rfl (Nat.le_of_ble_eq_true rfl) (fun r X1 H locs hp hP hS => ?_)
      obtain ⟨hr9, hX9⟩ := hp
      rw [hX9] at hP
      subst hr9
      exact ne_i hc hP hS hr dX10_withdraw_52 (mR_of ((mG_t (by clear hP hS hl hc hx hb hr hT; simp_all [-Int32.not_le, -Int32.not_lt, i32_lt, nb_t, nb_f, nb_z, nb_o])).trans (mG_f (by clear hP hS hl hc hx hb hr hT; simp_all [-Int32.not_le, -Int32.not_lt, i32_lt, nb_t, nb_f, nb_z, nb_o]))))
    · refine lv_aload_n hx hb dX10_withdraw_28 rfl (lv_at hl 0 rfl) ?_
      refine lv_iload_n hx hb dX10_withdraw_29 rfl (lv_at hl 1 rfl) ?_
      refine nc_Vi (c_X10_isRejected hI hon3 (mvp (nb_nz.mp c_10) hok.np hok.np12 (by decide))) hc hP hS hl.1 gd10_155 (nrecv (q := (RX10, TX10, 31)) hc (npic_eta hP) (nv_m hon3 (by decide) Nat.zero_lt_one) rfl rfl) ⟨rfl, rfl⟩ nok_X10_isRejected rfl ⟨Nat.le_of_ble_eq_true rfl, Nat.le_of_ble_eq_true rfl⟩ ⟨Nat.le_of_ble_eq_true rfl, Nat.le_of_ble_eq_true rfl⟩ dX10_withdraw_30 rfl (Nat.le_of_ble_eq_true rfl) (fun r X1 H locs hp hP hS => ?_)
      obtain ⟨hr9, hX9⟩ := hp
      rw [hX9] at hP
      subst hr9
      refine lv_if_ne (tgt := 47) hx hb dX10_withdraw_33 (by decide) (fun c_33 => ?_) (fun c_33 => ?_)
      · refine lv_aload_n hx hb dX10_withdraw_47 rfl (lv_at hl 0 rfl) ?_
        refine lv_iconst (v := 2) hx hb dX10_withdraw_48 (by decide) ?_
        refine nc_Vi (c_X10_fails hI hon3) hc hP hS hl.1 gd10_104 (nrecv (q := (RX10, TX10, 31)) hc (npic_eta hP) (nv_m hon3 (by decide) Nat.zero_lt_one) rfl rfl) ⟨rfl, rfl⟩ nok_X10_fails rfl ⟨Nat.le_of_ble_eq_true rfl, Nat.le_of_ble_eq_true rfl⟩ ⟨Nat.le_of_ble_eq_true rfl, Nat.le_of_ble_eq_true rfl⟩ dX10_withdraw_49 rfl (Nat.le_of_ble_eq_true rfl) (fun r X1 H locs hp hP hS => ?_)
        obtain ⟨hr9, hX9⟩ := hp
        rw [hX9] at hP
        subst hr9
        exact ne_i hc hP hS hr dX10_withdraw_52 (mR_of ((mG_t (by clear hP hS hl hc hx hb hr hT; simp_all [-Int32.not_le, -Int32.not_lt, i32_lt, nb_t, nb_f, nb_z, nb_o])).trans (mG_f (by clear hP hS hl hc hx hb hr hT; simp_all [-Int32.not_le, -Int32.not_lt, i32_lt, nb_t, nb_f, nb_z, nb_o]))))
      · refine lv_aload_n hx hb dX10_withdraw_36 rfl (lv_at hl 0 rfl) ?_
        refine g10_101 hc hP (nv_m hon3 (by decide) Nat.zero_lt_one) dX10_withdraw_37 ?_
        refine lv_aload_n hx hb dX10_withdraw_40 rfl (lv_at hl 0 rfl) ?_
        refine g10_13 hc hP (nv_m hon3 (by decide) Nat.zero_lt_one) dX10_withdraw_41 ?_
        refine lv_icmp_le (tgt := 53) hx hb dX10_withdraw_44 (by decide) (fun c_44 => ?_) (fun c_44 => ?_)
        · refine lv_iconst (v := 0) hx hb dX10_withdraw_53 (by decide) ?_
          refine lv_istore_n (lv' := [(2, .int _), (0, .ref _), (1, .int _)]) hx hb dX10_withdraw_54 rfl hl (by decide) rfl (fun ls hl => ?_)
          refine lv_aload_n hx hb dX10_withdraw_55 rfl (lv_at hl 1 rfl) ?_
          refine nc_Vi (c_X10_open hI hon3 ) hc hP hS hl.1 gd10_108 (nrecv (q := (RX10, TX10, 31)) hc (npic_eta hP) (nv_m hon3 (by decide) Nat.zero_lt_one) rfl rfl) ⟨rfl, rfl⟩ nok_X10_open rfl ⟨Nat.le_of_ble_eq_true rfl, Nat.le_of_ble_eq_true rfl⟩ ⟨Nat.le_of_ble_eq_true rfl, Nat.le_of_ble_eq_true rfl⟩ dX10_withdraw_56 rfl (Nat.le_of_ble_eq_true rfl) (fun r X1 H locs hp hP hS => ?_)
          obtain ⟨hr9, hX9⟩ := hp
          rw [hX9] at hP
          subst hr9
          refine lv_if_eq (tgt := 116) hx hb dX10_withdraw_59 (by decide) (fun c_59 => ?_) (fun c_59 => ?_)
          · refine lv_aload_n hx hb dX10_withdraw_116 rfl (lv_at hl 1 rfl) ?_
            refine g10_46 hc hP (nv_m hon3 (by decide) Nat.zero_lt_one) dX10_withdraw_117 ?_
            refine lv_iload_n hx hb dX10_withdraw_120 rfl (lv_at hl 2 rfl) ?_
            refine lv_aload_n hx hb dX10_withdraw_121 rfl (lv_at hl 1 rfl) ?_
            refine nc_Vi (c_X10_open hI hon3) hc hP hS hl.1 gd10_108 (nrecv (q := (RX10, TX10, 31)) hc (npic_eta hP) (nv_m hon3 (by decide) Nat.zero_lt_one) rfl rfl) ⟨rfl, rfl⟩ nok_X10_open rfl ⟨Nat.le_of_ble_eq_true rfl, Nat.le_of_ble_eq_true rfl⟩ ⟨Nat.le_of_ble_eq_true rfl, Nat.le_of_ble_eq_true rfl⟩ dX10_withdraw_122 rfl (Nat.le_of_ble_eq_true rfl) (fun r X1 H locs hp hP hS => ?_)
            obtain ⟨hr9, hX9⟩ := hp
            rw [hX9] at hP
            subst hr9
            refine lv_if_eq (tgt := 132) hx hb dX10_withdraw_125 (by decide) (fun c_125 => ?_) (fun c_125 => ?_)
            · refine lv_iconst (v := 2) hx hb dX10_withdraw_132 (by decide) ?_
              refine sa_46 hc hP hS (nv_m hon3 (by decide) Nat.zero_lt_one) (mvp (nb_nz.mp c_10) hok.np hok.np12 (by decide)) dX10_withdraw_133 (fun H locs hP hS => ?_)
              refine lv_iload_n hx hb dX10_withdraw_134 rfl (lv_at hl 0 rfl) ?_
              exact ne_i hc hP hS hr dX10_withdraw_135 (mR_of ((mG_t (by clear hP hS hl hc hx hb hr hT; simp_all [-Int32.not_le, -Int32.not_lt, i32_lt, nb_t, nb_f, nb_z, nb_o])).trans ((mG_t (by clear hP hS hl hc hx hb hr hT; simp_all [-Int32.not_le, -Int32.not_lt, i32_lt, nb_t, nb_f, nb_z, nb_o])).trans ((by have h9 : mOpen T = false := (by clear hP hS hl hc hx hb hr hT; simp_all [-Int32.not_le, -Int32.not_lt, i32_lt, nb_t, nb_f, nb_z, nb_o]); first | (rw [h9]; rfl) | (exfalso; clear hP hS hl hc hx hb hr hT; simp_all [nb_t, nb_f]; done))))))
            · refine lv_iconst (v := 1) hx hb dX10_withdraw_128 (by decide) ?_
              refine lv_goto (tgt := 133) hx hb dX10_withdraw_129 (by decide) ?_
              refine sa_46 hc hP hS (nv_m hon3 (by decide) Nat.zero_lt_one) (mvp (nb_nz.mp c_10) hok.np hok.np12 (by decide)) dX10_withdraw_133 (fun H locs hP hS => ?_)
              refine lv_iload_n hx hb dX10_withdraw_134 rfl (lv_at hl 0 rfl) ?_
              exact ne_i hc hP hS hr dX10_withdraw_135 (mR_of ((mG_t (by clear hP hS hl hc hx hb hr hT; simp_all [-Int32.not_le, -Int32.not_lt, i32_lt, nb_t, nb_f, nb_z, nb_o])).trans ((mG_t (by clear hP hS hl hc hx hb hr hT; simp_all [-Int32.not_le, -Int32.not_lt, i32_lt, nb_t, nb_f, nb_z, nb_o])).trans ((by have h9 : mOpen T = false := (by clear hP hS hl hc hx hb hr hT; simp_all [-Int32.not_le, -Int32.not_lt, i32_lt, nb_t, nb_f, nb_z, nb_o]); first | (rw [h9]; rfl) | (exfalso; clear hP hS hl hc hx hb hr hT; simp_all [nb_t, nb_f]; done))))))
          · refine lv_iconst (v := nI 0) hx hb dX10_withdraw_62 (by decide) ?_
            refine lv_istore_n (lv' := [(3, .int _), (2, .int _), (0, .ref _), (1, .int _)]) hx hb dX10_withdraw_63 rfl hl (by decide) rfl (fun ls hl => ?_)
            exact lp _ 0 _ (Nat.zero_add _) rfl (by clear hP hS hl hc hx hb hr hT; simp_all [-Int32.not_le, -Int32.not_lt, i32_lt, nb_t, nb_f, nb_z, nb_o]) (by clear hP hS hl hc hx hb hr hT; simp_all [-Int32.not_le, -Int32.not_lt, i32_lt, nb_t, nb_f, nb_z, nb_o]) (by clear hP hS hl hc hx hb hr hT; simp_all [-Int32.not_le, -Int32.not_lt, i32_lt, nb_t, nb_f, nb_z, nb_o]) _ _ _ hP hS (lv_sub hl [0, 1, 3, 2] rfl)
        · refine lv_aload_n hx hb dX10_withdraw_47 rfl (lv_at hl 0 rfl) ?_
          refine lv_iconst (v := 2) hx hb dX10_withdraw_48 (by decide) ?_
          refine nc_Vi (c_X10_fails hI hon3) hc hP hS hl.1 gd10_104 (nrecv (q := (RX10, TX10, 31)) hc (npic_eta hP) (nv_m hon3 (by decide) Nat.zero_lt_one) rfl rfl) ⟨rfl, rfl⟩ nok_X10_fails rfl ⟨Nat.le_of_ble_eq_true rfl, Nat.le_of_ble_eq_true rfl⟩ ⟨Nat.le_of_ble_eq_true rfl, Nat.le_of_ble_eq_true rfl⟩ dX10_withdraw_49 rfl (Nat.le_of_ble_eq_true rfl) (fun r X1 H locs hp hP hS => ?_)
          obtain ⟨hr9, hX9⟩ := hp
          rw [hX9] at hP
          subst hr9
          exact ne_i hc hP hS hr dX10_withdraw_52 (mR_of ((mG_t (by clear hP hS hl hc hx hb hr hT; simp_all [-Int32.not_le, -Int32.not_lt, i32_lt, nb_t, nb_f, nb_z, nb_o])).trans (mG_f (by clear hP hS hl hc hx hb hr hT; simp_all [-Int32.not_le, -Int32.not_lt, i32_lt, nb_t, nb_f, nb_z, nb_o]))))
  · refine lv_aload_n hx hb dX10_withdraw_13 rfl (lv_at hl 0 rfl) ?_
    refine lv_iconst (v := 1) hx hb dX10_withdraw_14 (by decide) ?_
    refine nc_Vi (c_X10_fails hI hon3) hc hP hS hl.1 gd10_104 (nrecv (q := (RX10, TX10, 31)) hc (npic_eta hP) (nv_m hon3 (by decide) Nat.zero_lt_one) rfl rfl) ⟨rfl, rfl⟩ nok_X10_fails rfl ⟨Nat.le_of_ble_eq_true rfl, Nat.le_of_ble_eq_true rfl⟩ ⟨Nat.le_of_ble_eq_true rfl, Nat.le_of_ble_eq_true rfl⟩ dX10_withdraw_15 rfl (Nat.le_of_ble_eq_true rfl) (fun r X1 H locs hp hP hS => ?_)
    obtain ⟨hr9, hX9⟩ := hp
    rw [hX9] at hP
    subst hr9
    exact ne_i hc hP hS hr dX10_withdraw_18 (mR_of (mG_f (by clear hP hS hl hc hx hb hr hT; simp_all [-Int32.not_le, -Int32.not_lt, i32_lt, nb_t, nb_f, nb_z, nb_o])))
set_option maxHeartbeats 4000000 in
set_option maxRecDepth 100000 in
theorem c_X10_close (hI : ninj ad on) (hon3 : on 3) (hok : mOk T) : nMv l D dA ad on yX10_close cX10_close 2 (nrm 6) [.ref (ad 3 30 0)] (wdo X 3 T) (fun X' => ∃ U, mClo T U ∧ X' = wdo X 3 U) := by
  refine nM_of hI (by decide +kernel) (Nat.le_of_ble_eq_true rfl) ?_
  intro p e s m args below meth cd ls hc hr _ hP hl hS
  have hx := hc.1
  have hb := hc.2.1
  have hl : lv_has ls 2 [(0, .ref (ad 3 30 0))] := hl
  have lp30 : ∀ (r j : Nat) (U : NSt), j + r = mnp T → mOf2 T U → (∀ k, k < mns T → U 56 0 k = mOres T k 0) → (∀ k, k < j → U 51 0 k = mwh T (k + 1) 60 0 k) → ∀ (H : Heap) (locs : List Loc) (ls : Array Slot), npic D dA ad on (wdo X 3 U) H → va_S (nA ad on) s.heap H locs → lv_has ls 2 [(1, .int (nI j)), (0, .ref (ad 3 30 0))] → W p l e (nrm 6) s m args below meth cd H locs 0 0 (MQ below (va_Qv (fun X' => ∃ U, mClo T U ∧ X' = wdo X 3 U) (fun X' t => npic D dA ad on X' t.heap) (nA ad on)) args s 0 0 (nA ad on)) (F0 m 30 ls []) := by
    intro r
    induction r with
    | zero =>
      intro j U hj h2 h56 h51 H locs ls hP hS hl
      have hjn : j = mnp T := by omega
      refine lv_iload_n hx hb dX10_close_30 rfl (lv_at hl 0 rfl) ?_
      refine lv_aload_n hx hb dX10_close_31 rfl (lv_at hl 1 rfl) ?_
      refine g10_98 hc hP (nv_m hon3 (by decide) Nat.zero_lt_one) dX10_close_32 ?_
      refine lv_icmp_ge (tgt := 55) hx hb dX10_close_35 (by decide) (fun c_35 => ?_) (fun c_35 => absurd (lp_le (show U 30 0 12 = _ by rw [h2.at (k := 30) (by decide)]; exact hok.np) hjn) c_35)
      exact ne_v hc hP hS hr dX10_close_55 ⟨U, ⟨h2, h56, by rw [hjn] at h51; exact h51⟩, rfl⟩
    | succ r ih =>
      intro j U hj h2 h56 h51 H locs ls hP hS hl
      have hjn : j < mnp T := by omega
      have hj12 : j < 12 := Nat.lt_of_lt_of_le hjn hok.np12
      have ej : nix (nI j) = j := nI_clamp (by omega)
      have hjv : vp_in (nI j) 12 := vp_in_nI hj12 (by decide)
      have hoU := h2.ok hok
      have hjU : vp_in (nI j) (mnp U) := by rw [h2.enp]; exact vp_in_nI hjn hok.npL
      refine lv_iload_n hx hb dX10_close_30 rfl (lv_at hl 0 rfl) ?_
      refine lv_aload_n hx hb dX10_close_31 rfl (lv_at hl 1 rfl) ?_
      refine g10_98 hc hP (nv_m hon3 (by decide) Nat.zero_lt_one) dX10_close_32 ?_
      refine lv_icmp_ge (tgt := 55) hx hb dX10_close_35 (by decide) (fun c_35 => absurd c_35 (lp_gt (show U 30 0 12 = _ by rw [h2.at (k := 30) (by decide)]; exact hok.np) hjn hok.npL)) (fun c_35 => ?_)
      refine lv_aload_n hx hb dX10_close_38 rfl (lv_at hl 1 rfl) ?_
      refine g10_61 hc hP (nv_m hon3 (by decide) Nat.zero_lt_one) dX10_close_39 ?_
      refine lv_iload_n hx hb dX10_close_42 rfl (lv_at hl 0 rfl) ?_
      refine lv_aload_n hx hb dX10_close_43 rfl (lv_at hl 1 rfl) ?_
      refine lv_iload_n hx hb dX10_close_44 rfl (lv_at hl 0 rfl) ?_
      refine nc_Vi (c_X10_openReason hI hon3 hoU (hjU)) hc hP hS hl.1 gd10_122 (nrecv (q := (RX10, TX10, 31)) hc (npic_eta hP) (nv_m hon3 (by decide) Nat.zero_lt_one) rfl rfl) ⟨rfl, rfl⟩ nok_X10_openReason rfl ⟨Nat.le_of_ble_eq_true rfl, Nat.le_of_ble_eq_true rfl⟩ ⟨Nat.le_of_ble_eq_true rfl, Nat.le_of_ble_eq_true rfl⟩ dX10_close_45 rfl (Nat.le_of_ble_eq_true rfl) (fun r X1 H locs hp hP hS => ?_)
      obtain ⟨hr9, hX9⟩ := hp
      rw [hX9] at hP
      subst hr9
      refine sa_51 hc hP hS (nv_m hon3 (by decide) Nat.zero_lt_one) hjv dX10_close_48 (fun H locs hP hS => ?_)
      refine lv_iinc (v := nI (j + 1)) (lv' := [(1, .int _), (0, .ref _)]) hx hb dX10_close_49 hl (k := 0) rfl (nI_inc j) (by decide) rfl (fun ls hl => ?_)
      refine lv_goto (tgt := 30) hx hb dX10_close_52 (by decide) ?_
      exact ih (j + 1) _ (by omega) ((h2.tr (mwh_off U _).of2).tr mOf2.put51) (mC5651 h56) (mC51 h2 (by omega) ej h51) _ _ _ hP hS (lv_sub hl [0, 1] rfl)
  have lp2 : ∀ (r j : Nat) (U : NSt), j + r = mns T → mOf2 T U → (∀ k, k < j → U 56 0 k = mOres T k 0) → ∀ (H : Heap) (locs : List Loc) (ls : Array Slot), npic D dA ad on (wdo X 3 U) H → va_S (nA ad on) s.heap H locs → lv_has ls 2 [(1, .int (nI j)), (0, .ref (ad 3 30 0))] → W p l e (nrm 6) s m args below meth cd H locs 0 0 (MQ below (va_Qv (fun X' => ∃ U, mClo T U ∧ X' = wdo X 3 U) (fun X' t => npic D dA ad on X' t.heap) (nA ad on)) args s 0 0 (nA ad on)) (F0 m 2 ls []) := by
    intro r
    induction r with
    | zero =>
      intro j U hj h2 h56 H locs ls hP hS hl
      have hjn : j = mns T := by omega
      refine lv_iload_n hx hb dX10_close_2 rfl (lv_at hl 0 rfl) ?_
      refine lv_aload_n hx hb dX10_close_3 rfl (lv_at hl 1 rfl) ?_
      refine g10_115 hc hP (nv_m hon3 (by decide) Nat.zero_lt_one) dX10_close_4 ?_
      refine lv_icmp_ge (tgt := 28) hx hb dX10_close_7 (by decide) (fun c_7 => ?_) (fun c_7 => absurd (lp_le (show U 30 0 22 = _ by rw [h2.at (k := 30) (by decide)]; exact hok.ns) hjn) c_7)
      refine lv_iconst (v := nI 0) hx hb dX10_close_28 (by decide) ?_
      refine lv_istore_n (lv' := [(1, .int _), (0, .ref _)]) hx hb dX10_close_29 rfl hl (by decide) rfl (fun ls hl => ?_)
      exact lp30 _ 0 _ (Nat.zero_add _) h2 (by rw [hjn] at h56; exact h56) (fun k hk => absurd hk (Nat.not_lt_zero k)) _ _ _ hP hS (lv_sub hl [0, 1] rfl)
    | succ r ih =>
      intro j U hj h2 h56 H locs ls hP hS hl
      have hjn : j < mns T := by omega
      have hj150 : j < 150 := Nat.lt_of_lt_of_le hjn hok.ns150
      have ej : nix (nI j) = j := nI_clamp (by omega)
      have hjv : vp_in (nI j) 150 := vp_in_nI hj150 (by decide)
      have hoU := h2.ok hok
      have hjn2 : vp_in (nI j) (mns U) := by rw [h2.ens]; exact vp_in_nI hjn hok.nsL
      refine lv_iload_n hx hb dX10_close_2 rfl (lv_at hl 0 rfl) ?_
      refine lv_aload_n hx hb dX10_close_3 rfl (lv_at hl 1 rfl) ?_
      refine g10_115 hc hP (nv_m hon3 (by decide) Nat.zero_lt_one) dX10_close_4 ?_
      refine lv_icmp_ge (tgt := 28) hx hb dX10_close_7 (by decide) (fun c_7 => absurd c_7 (lp_gt (show U 30 0 22 = _ by rw [h2.at (k := 30) (by decide)]; exact hok.ns) hjn hok.nsL)) (fun c_7 => ?_)
      refine lv_aload_n hx hb dX10_close_10 rfl (lv_at hl 1 rfl) ?_
      refine g10_73 hc hP (nv_m hon3 (by decide) Nat.zero_lt_one) dX10_close_11 ?_
      refine lv_iload_n hx hb dX10_close_14 rfl (lv_at hl 0 rfl) ?_
      refine lv_aload_n hx hb dX10_close_15 rfl (lv_at hl 1 rfl) ?_
      refine lv_iload_n hx hb dX10_close_16 rfl (lv_at hl 0 rfl) ?_
      refine lv_iconst (v := 0) hx hb dX10_close_17 (by decide) ?_
      refine nc_Vi (c_X10_openResult hI hon3 hoU hjn2) hc hP hS hl.1 gd10_118 (nrecv (q := (RX10, TX10, 31)) hc (npic_eta hP) (nv_m hon3 (by decide) Nat.zero_lt_one) rfl rfl) ⟨rfl, rfl⟩ nok_X10_openResult rfl ⟨Nat.le_of_ble_eq_true rfl, Nat.le_of_ble_eq_true rfl⟩ ⟨Nat.le_of_ble_eq_true rfl, Nat.le_of_ble_eq_true rfl⟩ dX10_close_18 rfl (Nat.le_of_ble_eq_true rfl) (fun r X1 H locs hp hP hS => ?_)
      obtain ⟨hr9, hX9⟩ := hp
      rw [hX9] at hP
      subst hr9
      refine sa_56 hc hP hS (nv_m hon3 (by decide) Nat.zero_lt_one) hjv dX10_close_21 (fun H locs hP hS => ?_)
      refine lv_iinc (v := nI (j + 1)) (lv' := [(1, .int _), (0, .ref _)]) hx hb dX10_close_22 hl (k := 0) rfl (nI_inc j) (by decide) rfl (fun ls hl => ?_)
      refine lv_goto (tgt := 2) hx hb dX10_close_25 (by decide) ?_
      exact ih (j + 1) _ (by omega) (h2.tr mOf2.put56) (mC56 h2 ej h56) _ _ _ hP hS (lv_sub hl [0, 1] rfl)
  refine lv_iconst (v := nI 0) hx hb dX10_close_0 (by decide) ?_
  refine lv_istore_n (lv' := [(1, .int _), (0, .ref _)]) hx hb dX10_close_1 rfl hl (by decide) rfl (fun ls hl => ?_)
  exact lp2 _ 0 _ (Nat.zero_add _) mOf2.rf (fun k hk => absurd hk (Nat.not_lt_zero k)) _ _ _ hP hS (lv_sub hl [0, 1] rfl)
set_option maxHeartbeats 4000000 in
set_option maxRecDepth 100000 in
theorem c_X10_pass (hI : ninj ad on) (hon3 : on 3) (hT : nput M 30 0 0 0 = T) (hok : mOk T) {a : Int32} : nMi l D dA ad on yX10_pass cX10_pass 2 (some .int) (nrm 9) [.ref (ad 3 30 0), .int a] (wdo X 3 M) (fun r X' => ∃ U, (mPass T a U ∨ !(mIn a 1 30 && decide (T 30 0 4 + a ≤ 99)) = true) ∧ r = (mG (mIn a 1 30) 1 T (0 : Int32) (mG (decide (T 30 0 4 + a ≤ 99)) 2 T (0 : Int32) ((T 30 0 4 + a, nput U 30 0 4 (T 30 0 4 + a))))).1 ∧ X' = wdo X 3 (mG (mIn a 1 30) 1 T (0 : Int32) (mG (decide (T 30 0 4 + a ≤ 99)) 2 T (0 : Int32) ((T 30 0 4 + a, nput U 30 0 4 (T 30 0 4 + a))))).2) := by
  refine nM_of hI (by decide +kernel) (Nat.le_of_ble_eq_true rfl) ?_
  intro p e s m args below meth cd ls hc hr _ hP hl hS
  have hx := hc.1
  have hb := hc.2.1
  have hl : lv_has ls 2 [(0, .ref (ad 3 30 0)), (1, .int a)] := hl
  refine lv_aload_n hx hb dX10_pass_0 rfl (lv_at hl 0 rfl) ?_
  refine lv_iconst (v := 0) hx hb dX10_pass_1 (by decide) ?_
  refine p10_85 hc hP hS (nv_m hon3 (by decide) Nat.zero_lt_one) dX10_pass_2 (fun H locs hP hS => ?_)
  rw [hT] at hP
  refine lv_iload_n hx hb dX10_pass_5 rfl (lv_at hl 1 rfl) ?_
  refine lv_iconst (v := 1) hx hb dX10_pass_6 (by decide) ?_
  refine lv_bipush (v := 30) hx hb dX10_pass_7 (by decide) ?_
  refine nc_Si (c_X10_isIn hI) hc hP hS hl.1 gd10_91 ⟨rfl, rfl⟩ nok_X10_isIn rfl ⟨Nat.le_of_ble_eq_true rfl, Nat.le_of_ble_eq_true rfl⟩ ⟨Nat.le_of_ble_eq_true rfl, Nat.le_of_ble_eq_true rfl⟩ dX10_pass_9 rfl (Nat.le_of_ble_eq_true rfl) (fun r X1 H locs hp hP hS => ?_)
  obtain ⟨hr9, hX9⟩ := hp
  rw [hX9] at hP
  subst hr9
  refine lv_if_ne (tgt := 21) hx hb dX10_pass_12 (by decide) (fun c_12 => ?_) (fun c_12 => ?_)
  · refine lv_aload_n hx hb dX10_pass_21 rfl (lv_at hl 0 rfl) ?_
    refine g10_101 hc hP (nv_m hon3 (by decide) Nat.zero_lt_one) dX10_pass_22 ?_
    refine lv_iload_n hx hb dX10_pass_25 rfl (lv_at hl 1 rfl) ?_
    refine lv_iadd hx hb dX10_pass_26 ?_
    refine lv_bipush (v := 99) hx hb dX10_pass_27 (by decide) ?_
    refine lv_icmp_le (tgt := 38) hx hb dX10_pass_29 (by decide) (fun c_29 => ?_) (fun c_29 => ?_)
    · refine lv_aload_n hx hb dX10_pass_38 rfl (lv_at hl 0 rfl) ?_
      refine nc_Vi (c_X10_open hI hon3 ) hc hP hS hl.1 gd10_108 (nrecv (q := (RX10, TX10, 31)) hc (npic_eta hP) (nv_m hon3 (by decide) Nat.zero_lt_one) rfl rfl) ⟨rfl, rfl⟩ nok_X10_open rfl ⟨Nat.le_of_ble_eq_true rfl, Nat.le_of_ble_eq_true rfl⟩ ⟨Nat.le_of_ble_eq_true rfl, Nat.le_of_ble_eq_true rfl⟩ dX10_pass_39 rfl (Nat.le_of_ble_eq_true rfl) (fun r X1 H locs hp hP hS => ?_)
      obtain ⟨hr9, hX9⟩ := hp
      rw [hX9] at hP
      subst hr9
      refine lv_if_eq (tgt := 62) hx hb dX10_pass_42 (by decide) (fun c_42 => ?_) (fun c_42 => ?_)
      · refine lv_aload_n hx hb dX10_pass_62 rfl (lv_at hl 0 rfl) ?_
        refine lv_dup hx hb dX10_pass_63 rfl ?_
        refine g10_101 hc hP (nv_m hon3 (by decide) Nat.zero_lt_one) dX10_pass_64 ?_
        refine lv_iload_n hx hb dX10_pass_67 rfl (lv_at hl 1 rfl) ?_
        refine lv_iadd hx hb dX10_pass_68 ?_
        refine p10_101 hc hP hS (nv_m hon3 (by decide) Nat.zero_lt_one) dX10_pass_69 (fun H locs hP hS => ?_)
        refine lv_aload_n hx hb dX10_pass_72 rfl (lv_at hl 0 rfl) ?_
        refine g10_101 hc hP (nv_m hon3 (by decide) Nat.zero_lt_one) dX10_pass_73 ?_
        exact ne_i hc hP hS hr dX10_pass_76 ⟨T, Or.inl (by clear hP hS hl hc hx hb hr hT; rw [mPass, if_neg (by simp_all [-Int32.not_le, -Int32.not_lt, i32_lt, nb_t, nb_f, nb_z, nb_o])]), mR_of ((mG_t (by clear hP hS hl hc hx hb hr hT; simp_all [-Int32.not_le, -Int32.not_lt, i32_lt, nb_t, nb_f, nb_z, nb_o])).trans ((mG_t (by clear hP hS hl hc hx hb hr hT; simp_all [-Int32.not_le, -Int32.not_lt, i32_lt, nb_t, nb_f, nb_z, nb_o])).trans (by rw [nput_at])))⟩
      · refine lv_aload_n hx hb dX10_pass_45 rfl (lv_at hl 0 rfl) ?_
        refine g10_101 hc hP (nv_m hon3 (by decide) Nat.zero_lt_one) dX10_pass_46 ?_
        refine lv_iload_n hx hb dX10_pass_49 rfl (lv_at hl 1 rfl) ?_
        refine lv_iadd hx hb dX10_pass_50 ?_
        refine lv_aload_n hx hb dX10_pass_51 rfl (lv_at hl 0 rfl) ?_
        refine g10_7 hc hP (nv_m hon3 (by decide) Nat.zero_lt_one) dX10_pass_52 ?_
        refine lv_icmp_le (tgt := 62) hx hb dX10_pass_55 (by decide) (fun c_55 => ?_) (fun c_55 => ?_)
        · refine lv_aload_n hx hb dX10_pass_62 rfl (lv_at hl 0 rfl) ?_
          refine lv_dup hx hb dX10_pass_63 rfl ?_
          refine g10_101 hc hP (nv_m hon3 (by decide) Nat.zero_lt_one) dX10_pass_64 ?_
          refine lv_iload_n hx hb dX10_pass_67 rfl (lv_at hl 1 rfl) ?_
          refine lv_iadd hx hb dX10_pass_68 ?_
          refine p10_101 hc hP hS (nv_m hon3 (by decide) Nat.zero_lt_one) dX10_pass_69 (fun H locs hP hS => ?_)
          refine lv_aload_n hx hb dX10_pass_72 rfl (lv_at hl 0 rfl) ?_
          refine g10_101 hc hP (nv_m hon3 (by decide) Nat.zero_lt_one) dX10_pass_73 ?_
          exact ne_i hc hP hS hr dX10_pass_76 ⟨T, Or.inl (by clear hP hS hl hc hx hb hr hT; rw [mPass, if_neg (by simp_all [-Int32.not_le, -Int32.not_lt, i32_lt, nb_t, nb_f, nb_z, nb_o])]), mR_of ((mG_t (by clear hP hS hl hc hx hb hr hT; simp_all [-Int32.not_le, -Int32.not_lt, i32_lt, nb_t, nb_f, nb_z, nb_o])).trans ((mG_t (by clear hP hS hl hc hx hb hr hT; simp_all [-Int32.not_le, -Int32.not_lt, i32_lt, nb_t, nb_f, nb_z, nb_o])).trans (by rw [nput_at])))⟩
        · refine lv_aload_n hx hb dX10_pass_58 rfl (lv_at hl 0 rfl) ?_
          refine nc_Vv (c_X10_close hI hon3 hok) hc hP hS hl.1 gd10_112 (nrecv (q := (RX10, TX10, 31)) hc (npic_eta hP) (nv_m hon3 (by decide) Nat.zero_lt_one) rfl rfl) ⟨rfl, rfl⟩ nok_X10_close rfl ⟨Nat.le_of_ble_eq_true rfl, Nat.le_of_ble_eq_true rfl⟩ ⟨Nat.le_of_ble_eq_true rfl, Nat.le_of_ble_eq_true rfl⟩ dX10_pass_59 rfl (Nat.le_of_ble_eq_true rfl) (fun X1 H locs hp hP hS => ?_)
          obtain ⟨U, hU, hX9⟩ := hp
          rw [hX9] at hP
          have hK9 : U 30 = T 30 := hU.1.at (by decide)
          refine lv_aload_n hx hb dX10_pass_62 rfl (lv_at hl 0 rfl) ?_
          refine lv_dup hx hb dX10_pass_63 rfl ?_
          refine g10_101 hc hP (nv_m hon3 (by decide) Nat.zero_lt_one) dX10_pass_64 ?_
          refine lv_iload_n hx hb dX10_pass_67 rfl (lv_at hl 1 rfl) ?_
          refine lv_iadd hx hb dX10_pass_68 ?_
          refine p10_101 hc hP hS (nv_m hon3 (by decide) Nat.zero_lt_one) dX10_pass_69 (fun H locs hP hS => ?_)
          refine lv_aload_n hx hb dX10_pass_72 rfl (lv_at hl 0 rfl) ?_
          refine g10_101 hc hP (nv_m hon3 (by decide) Nat.zero_lt_one) dX10_pass_73 ?_
          exact ne_i hc hP hS hr dX10_pass_76 ⟨U, Or.inl (by clear hP hS hl hc hx hb hr hT; rw [mPass, if_pos (by simp_all [-Int32.not_le, -Int32.not_lt, i32_lt, nb_t, nb_f, nb_z, nb_o])]; exact hU), mR_of ((mG_t (by clear hP hS hl hc hx hb hr hT; simp_all [-Int32.not_le, -Int32.not_lt, i32_lt, nb_t, nb_f, nb_z, nb_o])).trans ((mG_t (by clear hP hS hl hc hx hb hr hT; simp_all [-Int32.not_le, -Int32.not_lt, i32_lt, nb_t, nb_f, nb_z, nb_o])).trans (by rw [nput_at, hK9])))⟩
    · refine lv_aload_n hx hb dX10_pass_32 rfl (lv_at hl 0 rfl) ?_
      refine lv_iconst (v := 2) hx hb dX10_pass_33 (by decide) ?_
      refine nc_Vi (c_X10_fails hI hon3) hc hP hS hl.1 gd10_104 (nrecv (q := (RX10, TX10, 31)) hc (npic_eta hP) (nv_m hon3 (by decide) Nat.zero_lt_one) rfl rfl) ⟨rfl, rfl⟩ nok_X10_fails rfl ⟨Nat.le_of_ble_eq_true rfl, Nat.le_of_ble_eq_true rfl⟩ ⟨Nat.le_of_ble_eq_true rfl, Nat.le_of_ble_eq_true rfl⟩ dX10_pass_34 rfl (Nat.le_of_ble_eq_true rfl) (fun r X1 H locs hp hP hS => ?_)
      obtain ⟨hr9, hX9⟩ := hp
      rw [hX9] at hP
      subst hr9
      exact ne_i hc hP hS hr dX10_pass_37 ⟨T, Or.inr (by clear hP hS hl hc hx hb hr hT; simp_all [-Int32.not_le, -Int32.not_lt, i32_lt, nb_t, nb_f, nb_z, nb_o]), mR_of ((mG_t (by clear hP hS hl hc hx hb hr hT; simp_all [-Int32.not_le, -Int32.not_lt, i32_lt, nb_t, nb_f, nb_z, nb_o])).trans (mG_f (by clear hP hS hl hc hx hb hr hT; simp_all [-Int32.not_le, -Int32.not_lt, i32_lt, nb_t, nb_f, nb_z, nb_o])))⟩
  · refine lv_aload_n hx hb dX10_pass_15 rfl (lv_at hl 0 rfl) ?_
    refine lv_iconst (v := 1) hx hb dX10_pass_16 (by decide) ?_
    refine nc_Vi (c_X10_fails hI hon3) hc hP hS hl.1 gd10_104 (nrecv (q := (RX10, TX10, 31)) hc (npic_eta hP) (nv_m hon3 (by decide) Nat.zero_lt_one) rfl rfl) ⟨rfl, rfl⟩ nok_X10_fails rfl ⟨Nat.le_of_ble_eq_true rfl, Nat.le_of_ble_eq_true rfl⟩ ⟨Nat.le_of_ble_eq_true rfl, Nat.le_of_ble_eq_true rfl⟩ dX10_pass_17 rfl (Nat.le_of_ble_eq_true rfl) (fun r X1 H locs hp hP hS => ?_)
    obtain ⟨hr9, hX9⟩ := hp
    rw [hX9] at hP
    subst hr9
    exact ne_i hc hP hS hr dX10_pass_20 ⟨T, Or.inr (by clear hP hS hl hc hx hb hr hT; simp_all [-Int32.not_le, -Int32.not_lt, i32_lt, nb_t, nb_f, nb_z, nb_o]), mR_of (mG_f (by clear hP hS hl hc hx hb hr hT; simp_all [-Int32.not_le, -Int32.not_lt, i32_lt, nb_t, nb_f, nb_z, nb_o]))⟩
set_option maxHeartbeats 4000000 in
set_option maxRecDepth 100000 in
theorem c_X10_bits (hI : ninj ad on) {x : Int32} (h0 : ¬ x < 0) : nMi l D dA ad on yX10_bits cX10_bits 3 (some .int) (nrm 1) [.int x] (X) (fun r X' => r = mbf 31 (nix x) ∧ X' = X) := by
  refine nM_of hI (by decide +kernel) (Nat.le_of_ble_eq_true rfl) ?_
  intro p e s m args below meth cd ls hc hr _ hP hl hS
  have hx := hc.1
  have hb := hc.2.1
  have hl : lv_has ls 3 [(0, .int x)] := hl
  have lp4 : ∀ (f k : Nat) (acc : Int32), k < 2 ^ f → f ≤ 31 → acc + mbf f k = mbf 31 (nix x) → ∀ (H : Heap) (locs : List Loc) (ls : Array Slot), npic D dA ad on X H → va_S (nA ad on) s.heap H locs → lv_has ls 3 [(2, .int (nI k)), (1, .int acc), (0, .int x)] → W p l e (nrm 1) s m args below meth cd H locs 0 0 (MQ below (va_Qi (fun r X' => r = mbf 31 (nix x) ∧ X' = X) (fun X' t => npic D dA ad on X' t.heap) (nA ad on)) args s 0 0 (nA ad on)) (F0 m 4 ls []) := by
    intro f
    induction f with
    | zero =>
      intro k acc hk hf ha H locs ls hP hS hl
      have hk0 : k = 0 := by omega
      subst hk0
      refine lv_iload_n hx hb dX10_bits_4 rfl (lv_at hl 0 rfl) ?_
      refine lv_if_le (tgt := 21) hx hb dX10_bits_5 (by decide) (fun c_5 => ?_) (fun c_5 => absurd (by decide) c_5)
      refine lv_iload_n hx hb dX10_bits_21 rfl (lv_at hl 1 rfl) ?_
      exact ne_i hc hP hS hr dX10_bits_22 ⟨(Int32.add_zero acc).symm.trans ha, rfl⟩
    | succ f ih =>
      intro k acc hk hf ha H locs ls hP hS hl
      by_cases hk0 : k = 0
      · subst hk0
        refine lv_iload_n hx hb dX10_bits_4 rfl (lv_at hl 0 rfl) ?_
        refine lv_if_le (tgt := 21) hx hb dX10_bits_5 (by decide) (fun c_5 => ?_) (fun c_5 => absurd (by decide) c_5)
        refine lv_iload_n hx hb dX10_bits_21 rfl (lv_at hl 1 rfl) ?_
        exact ne_i hc hP hS hr dX10_bits_22 ⟨by rw [mbf_0] at ha; exact (Int32.add_zero acc).symm.trans ha, rfl⟩
      · have h2p : 2 ^ f ≤ 2 ^ 30 := Nat.pow_le_pow_right (by decide) (by omega)
        have hk31 : k < 2 ^ 31 := by rw [Nat.pow_succ] at hk; omega
        have e1 : nI k &&& 1 = nI (k % 2) := pk_andN (by omega) 1 (by decide)
        have e2 : nI k >>> ((1 : Int32) &&& 31) = nI (k / 2) := pk_shrN hk31 _ 1 (by decide)
        refine lv_iload_n hx hb dX10_bits_4 rfl (lv_at hl 0 rfl) ?_
        refine lv_if_le (tgt := 21) hx hb dX10_bits_5 (by decide) (fun c_5 => absurd c_5 (show ¬ nI k ≤ 0 from nI_ge (a := 0) (by omega) hk31)) (fun c_5 => ?_)
        refine lv_iload_n hx hb dX10_bits_8 rfl (lv_at hl 1 rfl) ?_
        refine lv_iload_n hx hb dX10_bits_9 rfl (lv_at hl 0 rfl) ?_
        refine lv_iconst (v := 1) hx hb dX10_bits_10 (by decide) ?_
        refine lv_iand hx hb dX10_bits_11 ?_
        refine lv_iadd hx hb dX10_bits_12 ?_
        refine lv_istore_n (lv' := [(1, .int _), (2, .int _), (0, .int _)]) hx hb dX10_bits_13 rfl hl (by decide) rfl (fun ls hl => ?_)
        refine lv_iload_n hx hb dX10_bits_14 rfl (lv_at hl 1 rfl) ?_
        refine lv_iconst (v := 1) hx hb dX10_bits_15 (by decide) ?_
        refine lv_ishr hx hb dX10_bits_16 ?_
        refine lv_istore_n (lv' := [(2, .int _), (1, .int _), (0, .int _)]) hx hb dX10_bits_17 rfl hl (by decide) rfl (fun ls hl => ?_)
        refine lv_goto (tgt := 4) hx hb dX10_bits_18 (by decide) ?_
        rw [e1, e2] at hl
        exact ih (k / 2) (acc + nI (k % 2)) (by rw [Nat.pow_succ] at hk; omega) (by omega) (by rw [Int32.add_assoc]; exact ha) _ _ _ hP hS (lv_sub hl [0, 1, 2] rfl)
  refine lv_iconst (v := 0) hx hb dX10_bits_0 (by decide) ?_
  refine lv_istore_n (lv' := [(1, .int _), (0, .int _)]) hx hb dX10_bits_1 rfl hl (by decide) rfl (fun ls hl => ?_)
  refine lv_iload_n hx hb dX10_bits_2 rfl (lv_at hl 1 rfl) ?_
  refine lv_istore_n (lv' := [(2, .int _), (1, .int _), (0, .int _)]) hx hb dX10_bits_3 rfl hl (by decide) rfl (fun ls hl => ?_)
  have hl : lv_has ls 3 [(2, .int (nI (nix x))), (1, .int 0), (0, .int x)] := by rw [← vp_eq (vp_31 h0)]; exact (lv_sub hl [0, 1, 2] rfl)
  exact lp4 31 (nix x) 0 (vp_lt (vp_31 h0)) (Nat.le_refl 31) (Int32.zero_add _) _ _ _ hP hS hl
set_option maxHeartbeats 4000000 in
set_option maxRecDepth 100000 in
theorem c_X10_fewestWithdrawals (hI : ninj ad on) (hon3 : on 3) (hT : nput M 30 0 0 0 = T) (hok : mOk T) {x : Int32} : nMi l D dA ad on yX10_fewestWithdrawals cX10_fewestWithdrawals 5 (some .int) (nrm 9) [.ref (ad 3 30 0), .int x] (wdo X 3 M) (fun r X' => r = (mG (mIn x 0 (T 30 0 12 - 1)) 1 T (0 : Int32) (mG (mOpen T && decide (T 46 0 (nix x) ≤ 0)) 2 T (0 : Int32) (mG (!decide (mfw T x (2 ^ mnp T) < 0)) 3 T (0 : Int32) ((mfw T x (2 ^ mnp T), T))))).1 ∧ X' = wdo X 3 (mG (mIn x 0 (T 30 0 12 - 1)) 1 T (0 : Int32) (mG (mOpen T && decide (T 46 0 (nix x) ≤ 0)) 2 T (0 : Int32) (mG (!decide (mfw T x (2 ^ mnp T) < 0)) 3 T (0 : Int32) ((mfw T x (2 ^ mnp T), T))))).2) := by
  refine nM_of hI (by decide +kernel) (Nat.le_of_ble_eq_true rfl) ?_
  intro p e s m args below meth cd ls hc hr _ hP hl hS
  have hx := hc.1
  have hb := hc.2.1
  have hl : lv_has ls 5 [(0, .ref (ad 3 30 0)), (1, .int x)] := hl
  have h2p : 2 ^ mnp T ≤ 2 ^ 12 := Nat.pow_le_pow_right (by decide) hok.np12
  have lp : ∀ (r j : Nat) (acc : Int32), j + r = 2 ^ mnp T → acc = mfw T x j → mIn x 0 (T 30 0 12 - 1) = true → (mOpen T && decide (T 46 0 (nix x) ≤ 0)) = true → ∀ (H : Heap) (locs : List Loc) (ls : Array Slot), npic D dA ad on (wdo X 3 T) H → va_S (nA ad on) s.heap H locs → lv_has ls 5 [(3, .int (nI j)), (2, .int acc), (1, .int x), (0, .ref (ad 3 30 0))] → W p l e (nrm 9) s m args below meth cd H locs 0 0 (MQ below (va_Qi (fun r X' => r = (mG (mIn x 0 (T 30 0 12 - 1)) 1 T (0 : Int32) (mG (mOpen T && decide (T 46 0 (nix x) ≤ 0)) 2 T (0 : Int32) (mG (!decide (mfw T x (2 ^ mnp T) < 0)) 3 T (0 : Int32) ((mfw T x (2 ^ mnp T), T))))).1 ∧ X' = wdo X 3 (mG (mIn x 0 (T 30 0 12 - 1)) 1 T (0 : Int32) (mG (mOpen T && decide (T 46 0 (nix x) ≤ 0)) 2 T (0 : Int32) (mG (!decide (mfw T x (2 ^ mnp T) < 0)) 3 T (0 : Int32) ((mfw T x (2 ^ mnp T), T))))).2) (fun X' t => npic D dA ad on X' t.heap) (nA ad on)) args s 0 0 (nA ad on)) (F0 m 45 ls []) := by
    intro r
    induction r with
    | zero =>
      intro j acc hj ha hq1 hq2 H locs ls hP hS hl
      have hjn : j = 2 ^ mnp T := by omega
      have h9 : mfw T x (2 ^ mnp T) = acc := by rw [ha, hjn]
      refine lv_iload_n hx hb dX10_fewestWithdrawals_45 rfl (lv_at hl 0 rfl) ?_
      refine lv_iconst (v := 1) hx hb dX10_fewestWithdrawals_46 (by decide) ?_
      refine lv_aload_n hx hb dX10_fewestWithdrawals_47 rfl (lv_at hl 3 rfl) ?_
      refine g10_98 hc hP (nv_m hon3 (by decide) Nat.zero_lt_one) dX10_fewestWithdrawals_48 ?_
      refine lv_ishl hx hb dX10_fewestWithdrawals_51 ?_
      refine lv_icmp_ge (tgt := 122) hx hb dX10_fewestWithdrawals_52 (by decide) (fun c_52 => ?_) (fun c_52 => absurd (lp_le (show (1 : Int32) <<< (T 30 0 12 &&& 31) = nI (2 ^ mnp T) by rw [hok.np]; exact (shl1 hok.np12)) hjn) c_52)
      refine lv_iload_n hx hb dX10_fewestWithdrawals_122 rfl (lv_at hl 1 rfl) ?_
      refine lv_if_ge (tgt := 134) hx hb dX10_fewestWithdrawals_123 (by decide) (fun c_123 => ?_) (fun c_123 => ?_)
      · refine lv_iload_n hx hb dX10_fewestWithdrawals_134 rfl (lv_at hl 1 rfl) ?_
        exact ne_i hc hP hS hr dX10_fewestWithdrawals_135 (mR_of ((mG_t (by clear hP hS hl hc hx hb hr hT; simp_all [-Int32.not_le, -Int32.not_lt, i32_lt, nb_t, nb_f, nb_z, nb_o])).trans ((mG_t (by clear hP hS hl hc hx hb hr hT; simp_all [-Int32.not_le, -Int32.not_lt, i32_lt, nb_t, nb_f, nb_z, nb_o])).trans ((mG_t (by clear hP hS hl hc hx hb hr hT; simp_all [-Int32.not_le, -Int32.not_lt, i32_lt, nb_t, nb_f, nb_z, nb_o])).trans ((by rw [h9]))))))
      · refine lv_aload_n hx hb dX10_fewestWithdrawals_126 rfl (lv_at hl 3 rfl) ?_
        refine lv_iconst (v := 3) hx hb dX10_fewestWithdrawals_127 (by decide) ?_
        refine nc_Vi (c_X10_fails hI hon3) hc hP hS hl.1 gd10_104 (nrecv (q := (RX10, TX10, 31)) hc (npic_eta hP) (nv_m hon3 (by decide) Nat.zero_lt_one) rfl rfl) ⟨rfl, rfl⟩ nok_X10_fails rfl ⟨Nat.le_of_ble_eq_true rfl, Nat.le_of_ble_eq_true rfl⟩ ⟨Nat.le_of_ble_eq_true rfl, Nat.le_of_ble_eq_true rfl⟩ dX10_fewestWithdrawals_128 rfl (Nat.le_of_ble_eq_true rfl) (fun r X1 H locs hp hP hS => ?_)
        obtain ⟨hr9, hX9⟩ := hp
        rw [hX9] at hP
        subst hr9
        refine lv_goto (tgt := 135) hx hb dX10_fewestWithdrawals_131 (by decide) ?_
        exact ne_i hc hP hS hr dX10_fewestWithdrawals_135 (mR_of ((mG_t (by clear hP hS hl hc hx hb hr hT; simp_all [-Int32.not_le, -Int32.not_lt, i32_lt, nb_t, nb_f, nb_z, nb_o])).trans ((mG_t (by clear hP hS hl hc hx hb hr hT; simp_all [-Int32.not_le, -Int32.not_lt, i32_lt, nb_t, nb_f, nb_z, nb_o])).trans (mG_f (by clear hP hS hl hc hx hb hr hT; simp_all [-Int32.not_le, -Int32.not_lt, i32_lt, nb_t, nb_f, nb_z, nb_o])))))
    | succ r ih =>
      intro j acc hj ha hq1 hq2 H locs ls hP hS hl
      have hjn : j < 2 ^ mnp T := by omega
      have hj31 : j < 2 ^ 31 := by omega
      have ej : nix (nI j) = j := nI_clamp hj31
      have hjn0 : ¬ nI j < 0 := nI_nlt (Nat.zero_le j) hj31
      refine lv_iload_n hx hb dX10_fewestWithdrawals_45 rfl (lv_at hl 0 rfl) ?_
      refine lv_iconst (v := 1) hx hb dX10_fewestWithdrawals_46 (by decide) ?_
      refine lv_aload_n hx hb dX10_fewestWithdrawals_47 rfl (lv_at hl 3 rfl) ?_
      refine g10_98 hc hP (nv_m hon3 (by decide) Nat.zero_lt_one) dX10_fewestWithdrawals_48 ?_
      refine lv_ishl hx hb dX10_fewestWithdrawals_51 ?_
      refine lv_icmp_ge (tgt := 122) hx hb dX10_fewestWithdrawals_52 (by decide) (fun c_52 => absurd c_52 (lp_gt (show (1 : Int32) <<< (T 30 0 12 &&& 31) = nI (2 ^ mnp T) by rw [hok.np]; exact (shl1 hok.np12)) hjn (Nat.lt_of_le_of_lt h2p (by decide)))) (fun c_52 => ?_)
      refine lv_iload_n hx hb dX10_fewestWithdrawals_55 rfl (lv_at hl 0 rfl) ?_
      refine lv_iload_n hx hb dX10_fewestWithdrawals_56 rfl (lv_at hl 2 rfl) ?_
      refine lv_ishr hx hb dX10_fewestWithdrawals_57 ?_
      refine lv_iconst (v := 1) hx hb dX10_fewestWithdrawals_58 (by decide) ?_
      refine lv_iand hx hb dX10_fewestWithdrawals_59 ?_
      refine lv_if_ne (tgt := 82) hx hb dX10_fewestWithdrawals_60 (by decide) (fun c_60 => ?_) (fun c_60 => ?_)
      · refine lv_iconst (v := 0) hx hb dX10_fewestWithdrawals_82 (by decide) ?_
        refine lv_istore (lv' := [(4, .int _), (3, .int _), (2, .int _), (1, .int _), (0, .ref _)]) hx hb dX10_fewestWithdrawals_83 hl (by decide) rfl (fun ls hl => ?_)
        refine lv_iload hx hb dX10_fewestWithdrawals_85 (lv_at hl 0 rfl) ?_
        refine lv_if_eq (tgt := 114) hx hb dX10_fewestWithdrawals_87 (by decide) (fun _ => ?_) (fun c => absurd c (by decide))
        refine lv_iload_n hx hb dX10_fewestWithdrawals_114 rfl (lv_at hl 2 rfl) ?_
        refine lv_istore_n (lv' := [(2, .int _), (4, .int _), (3, .int _), (1, .int _), (0, .ref _)]) hx hb dX10_fewestWithdrawals_115 rfl hl (by decide) rfl (fun ls hl => ?_)
        refine lv_iinc (v := nI (j + 1)) (lv' := [(3, .int _), (2, .int _), (4, .int _), (1, .int _), (0, .ref _)]) hx hb dX10_fewestWithdrawals_116 hl (k := 2) rfl (nI_inc j) (by decide) rfl (fun ls hl => ?_)
        refine lv_goto (tgt := 45) hx hb dX10_fewestWithdrawals_119 (by decide) ?_
        exact ih (j + 1) _ (by omega) (by rw [mfw_s, ← ha]; clear hP hS hl hc hx hb hr ih hT hq1 hq2; simp_all [-Int32.not_le, -Int32.not_lt, i32_lt, nb_t, nb_f, nb_z, nb_o]) hq1 hq2 _ _ _ hP hS (lv_sub hl [0, 1, 3, 4] rfl)
      · refine lv_iload_n hx hb dX10_fewestWithdrawals_63 rfl (lv_at hl 1 rfl) ?_
        refine lv_if_lt (tgt := 78) hx hb dX10_fewestWithdrawals_64 (by decide) (fun c_64 => ?_) (fun c_64 => ?_)
        · refine lv_iconst (v := 1) hx hb dX10_fewestWithdrawals_78 (by decide) ?_
          refine lv_goto (tgt := 83) hx hb dX10_fewestWithdrawals_79 (by decide) ?_
          refine lv_istore (lv' := [(4, .int _), (3, .int _), (2, .int _), (1, .int _), (0, .ref _)]) hx hb dX10_fewestWithdrawals_83 hl (by decide) rfl (fun ls hl => ?_)
          refine lv_iload hx hb dX10_fewestWithdrawals_85 (lv_at hl 0 rfl) ?_
          refine lv_if_eq (tgt := 114) hx hb dX10_fewestWithdrawals_87 (by decide) (fun c => absurd c (by decide)) (fun _ => ?_)
          refine lv_aload_n hx hb dX10_fewestWithdrawals_90 rfl (lv_at hl 4 rfl) ?_
          refine lv_iload_n hx hb dX10_fewestWithdrawals_91 rfl (lv_at hl 3 rfl) ?_
          refine lv_iload_n hx hb dX10_fewestWithdrawals_92 rfl (lv_at hl 1 rfl) ?_
          refine nc_Vi (c_X10_counting hI hon3 hok) hc hP hS hl.1 gd10_171 (nrecv (q := (RX10, TX10, 31)) hc (npic_eta hP) (nv_m hon3 (by decide) Nat.zero_lt_one) rfl rfl) ⟨rfl, rfl⟩ nok_X10_counting rfl ⟨Nat.le_of_ble_eq_true rfl, Nat.le_of_ble_eq_true rfl⟩ ⟨Nat.le_of_ble_eq_true rfl, Nat.le_of_ble_eq_true rfl⟩ dX10_fewestWithdrawals_93 rfl (Nat.le_of_ble_eq_true rfl) (fun r X1 H locs hp hP hS => ?_)
          obtain ⟨hr9, hX9⟩ := hp
          rw [hX9] at hP
          subst hr9
          refine lv_aload_n hx hb dX10_fewestWithdrawals_96 rfl (lv_at hl 4 rfl) ?_
          refine g10_19 hc hP (nv_m hon3 (by decide) Nat.zero_lt_one) dX10_fewestWithdrawals_97 ?_
          refine lv_aload_n hx hb dX10_fewestWithdrawals_100 rfl (lv_at hl 4 rfl) ?_
          refine g10_36 hc hP (nv_m hon3 (by decide) Nat.zero_lt_one) dX10_fewestWithdrawals_101 ?_
          refine lv_iload_n hx hb dX10_fewestWithdrawals_104 rfl (lv_at hl 3 rfl) ?_
          refine la_43 hc hP (nv_m hon3 (by decide) Nat.zero_lt_one) (mvp hq1 hok.np hok.np12 (by decide)) dX10_fewestWithdrawals_105 ?_
          refine la_36 hc hP (nv_m hon3 (by decide) Nat.zero_lt_one) (hok.ar (vp_lt (mvp0 hq1 hok.np hok.npL))) dX10_fewestWithdrawals_106 ?_
          refine lv_icmp_lt (tgt := 114) hx hb dX10_fewestWithdrawals_107 (by decide) (fun c_107 => ?_) (fun c_107 => ?_)
          · refine lv_iload_n hx hb dX10_fewestWithdrawals_114 rfl (lv_at hl 2 rfl) ?_
            refine lv_istore_n (lv' := [(2, .int _), (4, .int _), (3, .int _), (1, .int _), (0, .ref _)]) hx hb dX10_fewestWithdrawals_115 rfl hl (by decide) rfl (fun ls hl => ?_)
            refine lv_iinc (v := nI (j + 1)) (lv' := [(3, .int _), (2, .int _), (4, .int _), (1, .int _), (0, .ref _)]) hx hb dX10_fewestWithdrawals_116 hl (k := 2) rfl (nI_inc j) (by decide) rfl (fun ls hl => ?_)
            refine lv_goto (tgt := 45) hx hb dX10_fewestWithdrawals_119 (by decide) ?_
            exact ih (j + 1) _ (by omega) (by rw [mfw_s, ← ha]; clear hP hS hl hc hx hb hr ih hT hq1 hq2; simp_all [-Int32.not_le, -Int32.not_lt, i32_lt, nb_t, nb_f, nb_z, nb_o]) hq1 hq2 _ _ _ hP hS (lv_sub hl [0, 1, 3, 4] rfl)
          · refine lv_iload_n hx hb dX10_fewestWithdrawals_110 rfl (lv_at hl 1 rfl) ?_
            refine lv_goto (tgt := 115) hx hb dX10_fewestWithdrawals_111 (by decide) ?_
            refine lv_istore_n (lv' := [(2, .int _), (4, .int _), (3, .int _), (1, .int _), (0, .ref _)]) hx hb dX10_fewestWithdrawals_115 rfl hl (by decide) rfl (fun ls hl => ?_)
            refine lv_iinc (v := nI (j + 1)) (lv' := [(3, .int _), (2, .int _), (4, .int _), (1, .int _), (0, .ref _)]) hx hb dX10_fewestWithdrawals_116 hl (k := 2) rfl (nI_inc j) (by decide) rfl (fun ls hl => ?_)
            refine lv_goto (tgt := 45) hx hb dX10_fewestWithdrawals_119 (by decide) ?_
            exact ih (j + 1) _ (by omega) (by rw [mfw_s, ← ha]; clear hP hS hl hc hx hb hr ih hT hq1 hq2; simp_all [-Int32.not_le, -Int32.not_lt, i32_lt, nb_t, nb_f, nb_z, nb_o]) hq1 hq2 _ _ _ hP hS (lv_sub hl [0, 1, 3, 4] rfl)
        · refine lv_iload_n hx hb dX10_fewestWithdrawals_67 rfl (lv_at hl 0 rfl) ?_
          refine nc_Si (c_X10_bits hI (hjn0)) hc hP hS hl.1 gd10_174 ⟨rfl, rfl⟩ nok_X10_bits rfl ⟨Nat.le_of_ble_eq_true rfl, Nat.le_of_ble_eq_true rfl⟩ ⟨Nat.le_of_ble_eq_true rfl, Nat.le_of_ble_eq_true rfl⟩ dX10_fewestWithdrawals_68 rfl (Nat.le_of_ble_eq_true rfl) (fun r X1 H locs hp hP hS => ?_)
          obtain ⟨hr9, hX9⟩ := hp
          rw [hX9] at hP
          subst hr9
          refine lv_iload_n hx hb dX10_fewestWithdrawals_71 rfl (lv_at hl 1 rfl) ?_
          refine nc_Si (c_X10_bits hI c_64) hc hP hS hl.1 gd10_174 ⟨rfl, rfl⟩ nok_X10_bits rfl ⟨Nat.le_of_ble_eq_true rfl, Nat.le_of_ble_eq_true rfl⟩ ⟨Nat.le_of_ble_eq_true rfl, Nat.le_of_ble_eq_true rfl⟩ dX10_fewestWithdrawals_72 rfl (Nat.le_of_ble_eq_true rfl) (fun r X1 H locs hp hP hS => ?_)
          obtain ⟨hr9, hX9⟩ := hp
          rw [hX9] at hP
          subst hr9
          refine lv_icmp_ge (tgt := 82) hx hb dX10_fewestWithdrawals_75 (by decide) (fun c_75 => ?_) (fun c_75 => ?_)
          · refine lv_iconst (v := 0) hx hb dX10_fewestWithdrawals_82 (by decide) ?_
            refine lv_istore (lv' := [(4, .int _), (3, .int _), (2, .int _), (1, .int _), (0, .ref _)]) hx hb dX10_fewestWithdrawals_83 hl (by decide) rfl (fun ls hl => ?_)
            refine lv_iload hx hb dX10_fewestWithdrawals_85 (lv_at hl 0 rfl) ?_
            refine lv_if_eq (tgt := 114) hx hb dX10_fewestWithdrawals_87 (by decide) (fun _ => ?_) (fun c => absurd c (by decide))
            refine lv_iload_n hx hb dX10_fewestWithdrawals_114 rfl (lv_at hl 2 rfl) ?_
            refine lv_istore_n (lv' := [(2, .int _), (4, .int _), (3, .int _), (1, .int _), (0, .ref _)]) hx hb dX10_fewestWithdrawals_115 rfl hl (by decide) rfl (fun ls hl => ?_)
            refine lv_iinc (v := nI (j + 1)) (lv' := [(3, .int _), (2, .int _), (4, .int _), (1, .int _), (0, .ref _)]) hx hb dX10_fewestWithdrawals_116 hl (k := 2) rfl (nI_inc j) (by decide) rfl (fun ls hl => ?_)
            refine lv_goto (tgt := 45) hx hb dX10_fewestWithdrawals_119 (by decide) ?_
            exact ih (j + 1) _ (by omega) (by rw [mfw_s, ← ha]; clear hP hS hl hc hx hb hr ih hT hq1 hq2; simp_all [-Int32.not_le, -Int32.not_lt, i32_lt, nb_t, nb_f, nb_z, nb_o]) hq1 hq2 _ _ _ hP hS (lv_sub hl [0, 1, 3, 4] rfl)
          · refine lv_iconst (v := 1) hx hb dX10_fewestWithdrawals_78 (by decide) ?_
            refine lv_goto (tgt := 83) hx hb dX10_fewestWithdrawals_79 (by decide) ?_
            refine lv_istore (lv' := [(4, .int _), (3, .int _), (2, .int _), (1, .int _), (0, .ref _)]) hx hb dX10_fewestWithdrawals_83 hl (by decide) rfl (fun ls hl => ?_)
            refine lv_iload hx hb dX10_fewestWithdrawals_85 (lv_at hl 0 rfl) ?_
            refine lv_if_eq (tgt := 114) hx hb dX10_fewestWithdrawals_87 (by decide) (fun c => absurd c (by decide)) (fun _ => ?_)
            refine lv_aload_n hx hb dX10_fewestWithdrawals_90 rfl (lv_at hl 4 rfl) ?_
            refine lv_iload_n hx hb dX10_fewestWithdrawals_91 rfl (lv_at hl 3 rfl) ?_
            refine lv_iload_n hx hb dX10_fewestWithdrawals_92 rfl (lv_at hl 1 rfl) ?_
            refine nc_Vi (c_X10_counting hI hon3 hok) hc hP hS hl.1 gd10_171 (nrecv (q := (RX10, TX10, 31)) hc (npic_eta hP) (nv_m hon3 (by decide) Nat.zero_lt_one) rfl rfl) ⟨rfl, rfl⟩ nok_X10_counting rfl ⟨Nat.le_of_ble_eq_true rfl, Nat.le_of_ble_eq_true rfl⟩ ⟨Nat.le_of_ble_eq_true rfl, Nat.le_of_ble_eq_true rfl⟩ dX10_fewestWithdrawals_93 rfl (Nat.le_of_ble_eq_true rfl) (fun r X1 H locs hp hP hS => ?_)
            obtain ⟨hr9, hX9⟩ := hp
            rw [hX9] at hP
            subst hr9
            refine lv_aload_n hx hb dX10_fewestWithdrawals_96 rfl (lv_at hl 4 rfl) ?_
            refine g10_19 hc hP (nv_m hon3 (by decide) Nat.zero_lt_one) dX10_fewestWithdrawals_97 ?_
            refine lv_aload_n hx hb dX10_fewestWithdrawals_100 rfl (lv_at hl 4 rfl) ?_
            refine g10_36 hc hP (nv_m hon3 (by decide) Nat.zero_lt_one) dX10_fewestWithdrawals_101 ?_
            refine lv_iload_n hx hb dX10_fewestWithdrawals_104 rfl (lv_at hl 3 rfl) ?_
            refine la_43 hc hP (nv_m hon3 (by decide) Nat.zero_lt_one) (mvp hq1 hok.np hok.np12 (by decide)) dX10_fewestWithdrawals_105 ?_
            refine la_36 hc hP (nv_m hon3 (by decide) Nat.zero_lt_one) (hok.ar (vp_lt (mvp0 hq1 hok.np hok.npL))) dX10_fewestWithdrawals_106 ?_
            refine lv_icmp_lt (tgt := 114) hx hb dX10_fewestWithdrawals_107 (by decide) (fun c_107 => ?_) (fun c_107 => ?_)
            · refine lv_iload_n hx hb dX10_fewestWithdrawals_114 rfl (lv_at hl 2 rfl) ?_
              refine lv_istore_n (lv' := [(2, .int _), (4, .int _), (3, .int _), (1, .int _), (0, .ref _)]) hx hb dX10_fewestWithdrawals_115 rfl hl (by decide) rfl (fun ls hl => ?_)
              refine lv_iinc (v := nI (j + 1)) (lv' := [(3, .int _), (2, .int _), (4, .int _), (1, .int _), (0, .ref _)]) hx hb dX10_fewestWithdrawals_116 hl (k := 2) rfl (nI_inc j) (by decide) rfl (fun ls hl => ?_)
              refine lv_goto (tgt := 45) hx hb dX10_fewestWithdrawals_119 (by decide) ?_
              exact ih (j + 1) _ (by omega) (by rw [mfw_s, ← ha]; clear hP hS hl hc hx hb hr ih hT hq1 hq2; simp_all [-Int32.not_le, -Int32.not_lt, i32_lt, nb_t, nb_f, nb_z, nb_o]) hq1 hq2 _ _ _ hP hS (lv_sub hl [0, 1, 3, 4] rfl)
            · refine lv_iload_n hx hb dX10_fewestWithdrawals_110 rfl (lv_at hl 1 rfl) ?_
              refine lv_goto (tgt := 115) hx hb dX10_fewestWithdrawals_111 (by decide) ?_
              refine lv_istore_n (lv' := [(2, .int _), (4, .int _), (3, .int _), (1, .int _), (0, .ref _)]) hx hb dX10_fewestWithdrawals_115 rfl hl (by decide) rfl (fun ls hl => ?_)
              refine lv_iinc (v := nI (j + 1)) (lv' := [(3, .int _), (2, .int _), (4, .int _), (1, .int _), (0, .ref _)]) hx hb dX10_fewestWithdrawals_116 hl (k := 2) rfl (nI_inc j) (by decide) rfl (fun ls hl => ?_)
              refine lv_goto (tgt := 45) hx hb dX10_fewestWithdrawals_119 (by decide) ?_
              exact ih (j + 1) _ (by omega) (by rw [mfw_s, ← ha]; clear hP hS hl hc hx hb hr ih hT hq1 hq2; simp_all [-Int32.not_le, -Int32.not_lt, i32_lt, nb_t, nb_f, nb_z, nb_o]) hq1 hq2 _ _ _ hP hS (lv_sub hl [0, 1, 3, 4] rfl)
  refine lv_aload_n hx hb dX10_fewestWithdrawals_0 rfl (lv_at hl 0 rfl) ?_
  refine lv_iconst (v := 0) hx hb dX10_fewestWithdrawals_1 (by decide) ?_
  refine p10_85 hc hP hS (nv_m hon3 (by decide) Nat.zero_lt_one) dX10_fewestWithdrawals_2 (fun H locs hP hS => ?_)
  rw [hT] at hP
  refine lv_aload_n hx hb dX10_fewestWithdrawals_5 rfl (lv_at hl 0 rfl) ?_
  refine lv_iload_n hx hb dX10_fewestWithdrawals_6 rfl (lv_at hl 1 rfl) ?_
  refine nc_Vi (c_X10_isPaper hI hon3 ) hc hP hS hl.1 gd10_152 (nrecv (q := (RX10, TX10, 31)) hc (npic_eta hP) (nv_m hon3 (by decide) Nat.zero_lt_one) rfl rfl) ⟨rfl, rfl⟩ nok_X10_isPaper rfl ⟨Nat.le_of_ble_eq_true rfl, Nat.le_of_ble_eq_true rfl⟩ ⟨Nat.le_of_ble_eq_true rfl, Nat.le_of_ble_eq_true rfl⟩ dX10_fewestWithdrawals_7 rfl (Nat.le_of_ble_eq_true rfl) (fun r X1 H locs hp hP hS => ?_)
  obtain ⟨hr9, hX9⟩ := hp
  rw [hX9] at hP
  subst hr9
  refine lv_if_ne (tgt := 19) hx hb dX10_fewestWithdrawals_10 (by decide) (fun c_10 => ?_) (fun c_10 => ?_)
  · refine lv_aload_n hx hb dX10_fewestWithdrawals_19 rfl (lv_at hl 0 rfl) ?_
    refine nc_Vi (c_X10_open hI hon3 ) hc hP hS hl.1 gd10_108 (nrecv (q := (RX10, TX10, 31)) hc (npic_eta hP) (nv_m hon3 (by decide) Nat.zero_lt_one) rfl rfl) ⟨rfl, rfl⟩ nok_X10_open rfl ⟨Nat.le_of_ble_eq_true rfl, Nat.le_of_ble_eq_true rfl⟩ ⟨Nat.le_of_ble_eq_true rfl, Nat.le_of_ble_eq_true rfl⟩ dX10_fewestWithdrawals_20 rfl (Nat.le_of_ble_eq_true rfl) (fun r X1 H locs hp hP hS => ?_)
    obtain ⟨hr9, hX9⟩ := hp
    rw [hX9] at hP
    subst hr9
    refine lv_if_eq (tgt := 35) hx hb dX10_fewestWithdrawals_23 (by decide) (fun c_23 => ?_) (fun c_23 => ?_)
    · refine lv_aload_n hx hb dX10_fewestWithdrawals_35 rfl (lv_at hl 0 rfl) ?_
      refine lv_iconst (v := 2) hx hb dX10_fewestWithdrawals_36 (by decide) ?_
      refine nc_Vi (c_X10_fails hI hon3) hc hP hS hl.1 gd10_104 (nrecv (q := (RX10, TX10, 31)) hc (npic_eta hP) (nv_m hon3 (by decide) Nat.zero_lt_one) rfl rfl) ⟨rfl, rfl⟩ nok_X10_fails rfl ⟨Nat.le_of_ble_eq_true rfl, Nat.le_of_ble_eq_true rfl⟩ ⟨Nat.le_of_ble_eq_true rfl, Nat.le_of_ble_eq_true rfl⟩ dX10_fewestWithdrawals_37 rfl (Nat.le_of_ble_eq_true rfl) (fun r X1 H locs hp hP hS => ?_)
      obtain ⟨hr9, hX9⟩ := hp
      rw [hX9] at hP
      subst hr9
      exact ne_i hc hP hS hr dX10_fewestWithdrawals_40 (mR_of ((mG_t (by clear hP hS hl hc hx hb hr hT; simp_all [-Int32.not_le, -Int32.not_lt, i32_lt, nb_t, nb_f, nb_z, nb_o])).trans (mG_f (by clear hP hS hl hc hx hb hr hT; simp_all [-Int32.not_le, -Int32.not_lt, i32_lt, nb_t, nb_f, nb_z, nb_o]))))
    · refine lv_aload_n hx hb dX10_fewestWithdrawals_26 rfl (lv_at hl 0 rfl) ?_
      refine g10_46 hc hP (nv_m hon3 (by decide) Nat.zero_lt_one) dX10_fewestWithdrawals_27 ?_
      refine lv_iload_n hx hb dX10_fewestWithdrawals_30 rfl (lv_at hl 1 rfl) ?_
      refine la_46 hc hP (nv_m hon3 (by decide) Nat.zero_lt_one) (mvp (nb_nz.mp c_10) hok.np hok.np12 (by decide)) dX10_fewestWithdrawals_31 ?_
      refine lv_if_le (tgt := 41) hx hb dX10_fewestWithdrawals_32 (by decide) (fun c_32 => ?_) (fun c_32 => ?_)
      · refine lv_iconst (v := (-1)) hx hb dX10_fewestWithdrawals_41 (by decide) ?_
        refine lv_istore_n (lv' := [(2, .int _), (0, .ref _), (1, .int _)]) hx hb dX10_fewestWithdrawals_42 rfl hl (by decide) rfl (fun ls hl => ?_)
        refine lv_iconst (v := nI 0) hx hb dX10_fewestWithdrawals_43 (by decide) ?_
        refine lv_istore_n (lv' := [(3, .int _), (2, .int _), (0, .ref _), (1, .int _)]) hx hb dX10_fewestWithdrawals_44 rfl hl (by decide) rfl (fun ls hl => ?_)
        exact lp _ 0 _ (Nat.zero_add _) rfl (by clear hP hS hl hc hx hb hr hT; simp_all [-Int32.not_le, -Int32.not_lt, i32_lt, nb_t, nb_f, nb_z, nb_o]) (by clear hP hS hl hc hx hb hr hT; simp_all [-Int32.not_le, -Int32.not_lt, i32_lt, nb_t, nb_f, nb_z, nb_o]) _ _ _ hP hS (lv_sub hl [0, 1, 3, 2] rfl)
      · refine lv_aload_n hx hb dX10_fewestWithdrawals_35 rfl (lv_at hl 0 rfl) ?_
        refine lv_iconst (v := 2) hx hb dX10_fewestWithdrawals_36 (by decide) ?_
        refine nc_Vi (c_X10_fails hI hon3) hc hP hS hl.1 gd10_104 (nrecv (q := (RX10, TX10, 31)) hc (npic_eta hP) (nv_m hon3 (by decide) Nat.zero_lt_one) rfl rfl) ⟨rfl, rfl⟩ nok_X10_fails rfl ⟨Nat.le_of_ble_eq_true rfl, Nat.le_of_ble_eq_true rfl⟩ ⟨Nat.le_of_ble_eq_true rfl, Nat.le_of_ble_eq_true rfl⟩ dX10_fewestWithdrawals_37 rfl (Nat.le_of_ble_eq_true rfl) (fun r X1 H locs hp hP hS => ?_)
        obtain ⟨hr9, hX9⟩ := hp
        rw [hX9] at hP
        subst hr9
        exact ne_i hc hP hS hr dX10_fewestWithdrawals_40 (mR_of ((mG_t (by clear hP hS hl hc hx hb hr hT; simp_all [-Int32.not_le, -Int32.not_lt, i32_lt, nb_t, nb_f, nb_z, nb_o])).trans (mG_f (by clear hP hS hl hc hx hb hr hT; simp_all [-Int32.not_le, -Int32.not_lt, i32_lt, nb_t, nb_f, nb_z, nb_o]))))
  · refine lv_aload_n hx hb dX10_fewestWithdrawals_13 rfl (lv_at hl 0 rfl) ?_
    refine lv_iconst (v := 1) hx hb dX10_fewestWithdrawals_14 (by decide) ?_
    refine nc_Vi (c_X10_fails hI hon3) hc hP hS hl.1 gd10_104 (nrecv (q := (RX10, TX10, 31)) hc (npic_eta hP) (nv_m hon3 (by decide) Nat.zero_lt_one) rfl rfl) ⟨rfl, rfl⟩ nok_X10_fails rfl ⟨Nat.le_of_ble_eq_true rfl, Nat.le_of_ble_eq_true rfl⟩ ⟨Nat.le_of_ble_eq_true rfl, Nat.le_of_ble_eq_true rfl⟩ dX10_fewestWithdrawals_15 rfl (Nat.le_of_ble_eq_true rfl) (fun r X1 H locs hp hP hS => ?_)
    obtain ⟨hr9, hX9⟩ := hp
    rw [hX9] at hP
    subst hr9
    exact ne_i hc hP hS hr dX10_fewestWithdrawals_18 (mR_of (mG_f (by clear hP hS hl hc hx hb hr hT; simp_all [-Int32.not_le, -Int32.not_lt, i32_lt, nb_t, nb_f, nb_z, nb_o])))
end N20
