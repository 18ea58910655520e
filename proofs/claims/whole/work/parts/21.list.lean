/-! the model: its letters and its list -/
def mex (T : NSt) (a b : Int32) : NSt := nput (nput T 58 0 (nix a) (vp_nar .char (T 58 0 (nix b)))) 58 0 (nix b) (vp_nar .char (T 58 0 (nix a)))
def ms1 (T : NSt) (j : Nat) : NSt := itr (fun k U => nput U 58 0 k (vp_nar .char ((97 + nI k).toUInt32 % 65536).toInt32)) j T
def ms2 : Nat → Int32 → NSt → NSt
  | 0, _, T => T
  | n + 1, st, T => ms2 n (st * 1103515245 + 12345) (mex T (irm (us (st * 1103515245 + 12345) 8) (nI (n + 1) + 1)) (nI (n + 1)))
def mDraw (T : NSt) (f : Int32) : NSt := nput (ms2 25 f (ms1 T 26)) 30 0 27 1
def mrk (T : NSt) (c : Int32) : Int32 := match ffind (fun k => decide (T 58 0 k = c)) 26 with
  | some k => nI k
  | none => -1
def mrkn (T : NSt) (x : Int32) (k : Nat) : Int32 := mrk T (T 45 0 (nix (4 * x + nI k)))
def mah (T : NSt) (x z : Int32) : Nat → Nat → Bool
  | 0, _ => decide (x < z)
  | n + 1, k => if mrkn T x k = mrkn T z k then mah T x z n (k + 1) else decide (mrkn T x k < mrkn T z k)
def mAhd (T : NSt) (x z : Int32) : Bool := mah T x z 4 0
theorem mrk_none {T : NSt} {c : Int32} {n : Nat} (hn : n = 26) (h : ffind (fun k => decide (T 58 0 k = c)) n = none) : -1 = mrk T c := by
  subst hn
  unfold mrk
  simp only [h]
theorem mrk_some {T : NSt} {c : Int32} {n k : Nat} (hn : n = 26) (h : ffind (fun k => decide (T 58 0 k = c)) n = some k) : nI k = mrk T c := by
  subst hn
  unfold mrk
  simp only [h]
theorem mrk_off {T U : NSt} (h : mOff T U) (c : Int32) : mrk U c = mrk T c := by unfold mrk; rw [h 58 (by decide) (by decide)]
theorem mah_off {T U : NSt} (h : mOff T U) (x z : Int32) : ∀ n k, mah U x z n k = mah T x z n k
  | 0, _ => rfl
  | n + 1, k => by
    unfold mah mrkn
    rw [mrk_off h, mrk_off h, mah_off h x z n (k + 1), h 45 (by decide) (by decide)]
theorem mAhd_off {T U : NSt} (h : mOff T U) (x z : Int32) : mAhd U x z = mAhd T x z := mah_off h x z 4 0
theorem mah_tr {T : NSt} {x y z : Int32} : ∀ n k, mah T x y n k = true → mah T y z n k = true → mah T x z n k = true
  | 0, _, h, g => by
    simp only [mah, decide_eq_true_eq] at h g ⊢
    exact Int32.lt_trans h g
  | n + 1, k, h, g => by
    unfold mah at h g ⊢
    by_cases e1 : mrkn T x k = mrkn T y k
    · rw [if_pos e1] at h
      by_cases e2 : mrkn T y k = mrkn T z k
      · rw [if_pos e2] at g
        rw [if_pos (e1.trans e2)]
        exact mah_tr n (k + 1) h g
      · rw [if_neg e2] at g
        rw [if_neg (fun q => e2 (e1.symm.trans q)), e1]
        exact g
    · rw [if_neg e1, decide_eq_true_eq] at h
      by_cases e2 : mrkn T y k = mrkn T z k
      · rw [← e2, if_neg e1]
        exact decide_eq_true h
      · rw [if_neg e2, decide_eq_true_eq] at g
        have h9 := Int32.lt_trans h g
        rw [if_neg (fun q => by rw [q] at h9; exact Int32.lt_irrefl h9)]
        exact decide_eq_true h9
theorem mah_tot {T : NSt} {x z : Int32} (hne : x ≠ z) : ∀ n k, mah T x z n k = false → mah T z x n k = true
  | 0, _, h => by
    simp only [mah, decide_eq_false_iff_not, decide_eq_true_eq] at h ⊢
    exact Int32.lt_of_le_of_ne (Int32.not_lt.mp h) (fun q => hne q.symm)
  | n + 1, k, h => by
    unfold mah at h ⊢
    by_cases e1 : mrkn T x k = mrkn T z k
    · rw [if_pos e1] at h
      rw [if_pos e1.symm]
      exact mah_tot hne n (k + 1) h
    · rw [if_neg e1, decide_eq_false_iff_not] at h
      rw [if_neg (fun q => e1 q.symm)]
      exact decide_eq_true (Int32.lt_of_le_of_ne (Int32.not_lt.mp h) (fun q => e1 q.symm))
theorem mah_irr {T : NSt} {x : Int32} : ∀ n k, mah T x x n k = false
  | 0, _ => by
    simp only [mah, decide_eq_false_iff_not]
    exact Int32.lt_irrefl
  | n + 1, k => by
    unfold mah
    rw [if_pos rfl]
    exact mah_irr n (k + 1)
def mStd (T : NSt) (a : Int32) (q : Nat) : Bool := decide (T 43 0 q = a) && decide (mWhy T (nI q) = 0)
/-- the list holds the standing papers below n, in their order -/
def mSrt (T : NSt) (a : Int32) (U : NSt) (len n : Nat) : Prop := (∀ i, i < len → ∃ q, q < n ∧ U 59 0 i = nI q ∧ mStd T a q = true) ∧ (∀ q, q < n → mStd T a q = true → ∃ i, i < len ∧ U 59 0 i = nI q) ∧ (∀ i j, i < j → j < len → mAhd T (U 59 0 i) (U 59 0 j) = true) ∧ len ≤ n
theorem mSrt_0 {T : NSt} {a : Int32} {U : NSt} : mSrt T a U 0 0 := ⟨fun _ h => absurd h (Nat.not_lt_zero _), fun _ h => absurd h (Nat.not_lt_zero _), fun _ _ _ h => absurd h (Nat.not_lt_zero _), Nat.le_refl 0⟩
theorem mSrt_skip {T : NSt} {a : Int32} {U V : NSt} {n j : Nat} (h : mSrt T a U n j) (hs : mStd T a j = false) (h59 : V 59 = U 59) : mSrt T a V n (j + 1) := by
  obtain ⟨h1, h2, h3, h4⟩ := h
  unfold mSrt
  rw [h59]
  refine ⟨fun i hi => ?_, fun q hq hsq => ?_, h3, Nat.le_succ_of_le h4⟩
  · obtain ⟨q, hq, e, s⟩ := h1 i hi
    exact ⟨q, Nat.lt_succ_of_lt hq, e, s⟩
  · refine h2 q (Nat.lt_of_le_of_ne (Nat.le_of_lt_succ hq) (fun e => ?_)) hsq
    rw [e, hs] at hsq; exact absurd hsq (by decide)
theorem nI_inj {a b : Nat} (ha : a < 2 ^ 31) (hb : b < 2 ^ 31) (h : nI a = nI b) : a = b := by
  have h9 := congrArg nix h
  rwa [nix_nI ha, nix_nI hb] at h9
theorem mIns {T V U : NSt} {a : Int32} {j n t : Nat} (hS : mSrt T a U n j) (hst : mStd T a j = true) (ht : t ≤ n) (hlo : ∀ i, i < t → V 59 0 i = U 59 0 i) (hhi : ∀ i, t ≤ i → i < n → V 59 0 (i + 1) = U 59 0 i ∧ mAhd T (nI j) (U 59 0 i) = true) (hstop : t = 0 ∨ mAhd T (nI j) (U 59 0 (t - 1)) = false) (hj : j < 12) : mSrt T a (nput V 59 0 t (nI j)) (n + 1) (j + 1) := by
  obtain ⟨h1, h2, h3, h4⟩ := hS
  have eat : nput V 59 0 t (nI j) 59 0 t = nI j := by unfold nput; rw [if_pos ⟨rfl, rfl, rfl⟩]
  have elo : ∀ i, i < t → nput V 59 0 t (nI j) 59 0 i = U 59 0 i := fun i hi => by unfold nput; rw [if_neg (fun z => Nat.ne_of_lt hi z.2.1)]; exact hlo i hi
  have ehi : ∀ i, t ≤ i → i < n → nput V 59 0 t (nI j) 59 0 (i + 1) = U 59 0 i := fun i hi hn => by unfold nput; rw [if_neg (fun z => by have := z.2.1; omega)]; exact (hhi i hi hn).1
  refine ⟨fun i hi => ?_, fun q hq hs => ?_, fun i k hik hk => ?_, Nat.succ_le_succ h4⟩
  · rcases Nat.lt_trichotomy i t with q | q | q
    · obtain ⟨w, hw, e, s⟩ := h1 i (by omega)
      exact ⟨w, by omega, (elo i q).trans e, s⟩
    · exact ⟨j, Nat.lt_succ_self j, by rw [q]; exact eat, hst⟩
    · obtain ⟨w, hw, e, s⟩ := h1 (i - 1) (by omega)
      refine ⟨w, by omega, ?_, s⟩
      have h9 := ehi (i - 1) (by omega) (by omega)
      rw [show i - 1 + 1 = i by omega] at h9
      exact h9.trans e
  · by_cases e : q = j
    · exact ⟨t, by omega, by rw [e]; exact eat⟩
    · obtain ⟨i, hi, e2⟩ := h2 q (by omega) hs
      by_cases c : i < t
      · exact ⟨i, by omega, (elo i c).trans e2⟩
      · exact ⟨i + 1, by omega, (ehi i (by omega) hi).trans e2⟩
  · rcases Nat.lt_trichotomy i t with q | q | q
    · rw [elo i q]
      rcases Nat.lt_trichotomy k t with w | w | w
      · rw [elo k w]; exact h3 i k hik (by omega)
      · rw [w, eat]
        have hne : t ≠ 0 := by omega
        have hs := hstop.resolve_left hne
        obtain ⟨v, hv, e, -⟩ := h1 (t - 1) (by omega)
        have hd : nI j ≠ U 59 0 (t - 1) := by rw [e]; exact fun z => absurd (nI_inj (by omega) (by omega) z) (by omega)
        have ha : mAhd T (U 59 0 (t - 1)) (nI j) = true := mah_tot hd 4 0 hs
        by_cases c : i = t - 1
        · rw [c]; exact ha
        · exact mah_tr 4 0 (h3 i (t - 1) (by omega) (by omega)) ha
      · have h9 := ehi (k - 1) (by omega) (by omega)
        rw [show k - 1 + 1 = k by omega] at h9
        rw [h9]
        exact h3 i (k - 1) (by omega) (by omega)
    · rw [q, eat]
      have h9 := ehi (k - 1) (by omega) (by omega)
      rw [show k - 1 + 1 = k by omega] at h9
      rw [h9]
      exact (hhi (k - 1) (by omega) (by omega)).2
    · have h8 := ehi (i - 1) (by omega) (by omega)
      rw [show i - 1 + 1 = i by omega] at h8
      have h9 := ehi (k - 1) (by omega) (by omega)
      rw [show k - 1 + 1 = k by omega] at h9
      rw [h8, h9]
      exact h3 (i - 1) (k - 1) (by omega) (by omega)
theorem irm_lt {q : Int32} {n : Nat} (h0 : ¬ q < 0) (h1 : 0 < n) (hn : n < 2 ^ 31) : vp_in (irm q (nI n)) n := by
  obtain ⟨j, hj, rfl⟩ := nI_of h0
  unfold irm
  rw [pk_rem hj h1 hn]
  exact vp_in_nI (Nat.mod_lt _ h1) hn
theorem mSh1 {V U : NSt} {t : Nat} {y v : Int32} (hlo : ∀ i, i < t + 1 → V 59 0 i = U 59 0 i) (e1 : nix y = t + 1) : ∀ i, i < t → nput V 59 0 (nix y) v 59 0 i = U 59 0 i := fun i hi => by
  unfold nput
  rw [if_neg (fun z => by have := z.2.1; omega)]
  exact hlo i (by omega)
theorem mSh2 {T V U : NSt} {j n9 t : Nat} {y v : Int32} (hlo : ∀ i, i < t + 1 → V 59 0 i = U 59 0 i) (hhi : ∀ i, t + 1 ≤ i → i < n9 → V 59 0 (i + 1) = U 59 0 i ∧ mAhd T (nI j) (U 59 0 i) = true) (e1 : nix y = t + 1) (ev : v = V 59 0 t) (hA : mAhd T (nI j) (U 59 0 t) = true) : ∀ i, t ≤ i → i < n9 → nput V 59 0 (nix y) v 59 0 (i + 1) = U 59 0 i ∧ mAhd T (nI j) (U 59 0 i) = true := fun i h1 h2 => by
  by_cases e : i = t
  · subst e
    refine ⟨?_, hA⟩
    unfold nput
    rw [if_pos ⟨rfl, e1.symm, rfl⟩, ev]
    exact hlo i (Nat.lt_succ_self i)
  · obtain ⟨a, b⟩ := hhi i (by omega) h2
    refine ⟨?_, b⟩
    unfold nput
    rw [if_neg (fun z => by have := z.2.1; omega)]
    exact a
theorem bal_in {q b : Int32} {n : Nat} (hq : vp_in q 1000) (hb : vp_in b n) (hn : n ≤ 12) : vp_in (irm (irm q (nI n) + b) (nI n)) n := by
  have h1 := vp_lt hb
  have h2 : vp_in (irm q (nI n)) n := irm_lt (fun z => hq (Or.inl z)) (by omega) (by omega)
  refine irm_lt ?_ (by omega) (by omega)
  have h3 := vp_lt h2
  rw [vp_eq h2, vp_eq hb, nI_add]
  exact nI_nlt (Nat.zero_le _) (by omega)
theorem mStd_off {T U : NSt} (h : mOff T U) (a : Int32) {q : Nat} (hq : q < 12) : mStd U a q = mStd T a q := by
  unfold mStd
  rw [h 43 (by decide) (by decide), mWhy_off h _ (vp_in_nI hq (by decide))]
theorem mSrt_of {T U V : NSt} {x : Int32} {n m : Nat} (h : mOff T U) (g : mSrt U (U 43 0 (nix x)) V n m) (hm : m ≤ 12 := by assumption) : mSrt T (T 43 0 (nix x)) V n m := by
  obtain ⟨g1, g2, g3, g4⟩ := g
  rw [h 43 (by decide) (by decide)] at g1 g2
  refine ⟨fun i hi => ?_, fun q hq hs => g2 q hq ?_, fun i j a b => ?_, g4⟩
  · obtain ⟨q, hq, e, s⟩ := g1 i hi
    exact ⟨q, hq, e, by rw [← mStd_off h _ (by omega)]; exact s⟩
  · rw [mStd_off h _ (by omega)]; exact hs
  · rw [← mAhd_off h]; exact g3 i j a b
theorem mStd_x {T : NSt} {x : Int32} (hx : vp_in x 12) (h : mWhy T x = 0) : mStd T (T 43 0 (nix x)) (nix x) = true := by
  unfold mStd
  rw [← vp_eq hx, decide_eq_true h, decide_eq_true rfl]; rfl
theorem mSrt_find {T U : NSt} {a x : Int32} {n m : Nat} (hs : mSrt T a U n m) (hx : vp_in x m) (hst : mStd T a (nix x) = true) (hm : m ≤ 12) : ∃ i, i < n ∧ U 59 0 i = x ∧ ∀ k, k < i → ¬ U 59 0 k = x := by
  obtain ⟨i, hi, e⟩ := hs.2.1 (nix x) (vp_lt hx) hst
  rw [← vp_eq hx] at e
  refine ⟨i, hi, e, fun k hk h => ?_⟩
  have h9 := hs.2.2.1 k i hk hi
  rw [e, h] at h9
  unfold mAhd at h9
  rw [mah_irr 4 0] at h9
  exact absurd h9 (by decide)
section N21
variable {l : Launch} {D : va_G} {dA : Nat → ClassId} {ad : Nat → Nat → Nat → Nat} {on : Nat → Prop} {X : NWd} {M T : NSt}
set_option maxHeartbeats 4000000 in
set_option maxRecDepth 100000 in
theorem c_X10_draw (hI : ninj ad on) (hon3 : on 3) (hT : nput M 30 0 0 0 = T) (hok : mOk T) {f : Int32} (hlg : cSmall (mDraw T f 58 0 0) = true) : nMi l D dA ad on yX10_draw cX10_draw 6 (some .char) (nrm 9) [.ref (ad 3 30 0), .int f] (wdo X 3 M) (fun r X' => r = (mG (!mOpen T && decide (T 30 0 27 = 0)) 1 T (0 : Int32) ((mDraw T f 58 0 0, mDraw T f))).1 ∧ X' = wdo X 3 (mG (!mOpen T && decide (T 30 0 27 = 0)) 1 T (0 : Int32) ((mDraw T f 58 0 0, mDraw T f))).2) := by
  refine nM_of hI (by decide +kernel) (Nat.le_of_ble_eq_true rfl) ?_
  intro p e s m args below meth cd ls hc hr _ hP hl hS
  have hx := hc.1
  have hb := hc.2.1
  have hl : lv_has ls 6 [(0, .ref (ad 3 30 0)), (1, .int f)] := hl
  have lp56 : ∀ (r : Nat) (st : Int32) (U : NSt), r ≤ 25 → ms2 r st U = (ms2 25 f (ms1 T 26)) → (!mOpen T && decide (T 30 0 27 = 0)) = true → ∀ (H : Heap) (locs : List Loc) (ls : Array Slot), npic D dA ad on (wdo X 3 U) H → va_S (nA ad on) s.heap H locs → lv_has ls 6 [(3, .int (nI r)), (2, .int st), (0, .ref (ad 3 30 0))] → W p l e (nrm 9) s m args below meth cd H locs 0 0 (MQ below (va_Qi (fun r X' => r = (mG (!mOpen T && decide (T 30 0 27 = 0)) 1 T (0 : Int32) ((mDraw T f 58 0 0, mDraw T f))).1 ∧ X' = wdo X 3 (mG (!mOpen T && decide (T 30 0 27 = 0)) 1 T (0 : Int32) ((mDraw T f 58 0 0, mDraw T f))).2) (fun X' t => npic D dA ad on X' t.heap) (nA ad on)) args s 0 0 (nA ad on)) (F0 m 56 ls []) := by
    intro r
    induction r with
    | zero =>
      intro st U h25 hU hq1 H locs ls hP hS hl
      have hU : U = (ms2 25 f (ms1 T 26)) := hU
      rw [hU] at hP
      refine lv_iload_n hx hb dX10_draw_56 rfl (lv_at hl 0 rfl) ?_
      refine lv_if_le (tgt := 115) hx hb dX10_draw_57 (by decide) (fun c_57 => ?_) (fun c_57 => absurd (by decide) c_57)
      refine lv_aload_n hx hb dX10_draw_115 rfl (lv_at hl 2 rfl) ?_
      refine lv_iconst (v := 1) hx hb dX10_draw_116 (by decide) ?_
      refine p10_186 hc hP hS (nv_m hon3 (by decide) Nat.zero_lt_one) (Or.inr rfl) dX10_draw_117 (fun H locs hP hS => ?_)
      refine lv_aload_n hx hb dX10_draw_120 rfl (lv_at hl 2 rfl) ?_
      refine g10_76 hc hP (nv_m hon3 (by decide) Nat.zero_lt_one) dX10_draw_121 ?_
      refine lv_iconst (v := 0) hx hb dX10_draw_124 (by decide) ?_
      refine la_58 hc hP (nv_m hon3 (by decide) Nat.zero_lt_one) (by unfold vp_in; decide) dX10_draw_125 ?_
      exact ne_z hc hP hS hr (nar_sv hlg) dX10_draw_126 (mR_of ((mG_t (by clear hP hS hl hc hx hb hr hT; simp_all [-Int32.not_le, -Int32.not_lt, i32_lt, nb_t, nb_f, nb_z, nb_o])).trans (rfl)))
    | succ r ih =>
      intro st U h25 hU hq1 H locs ls hP hS hl
      have hd0 : ¬ nI (r + 1) + 1 = 0 := by rw [nI_1]; exact nI_ne0 (by omega) (by omega)
      have ha : vp_in (irm (us (st * 1103515245 + 12345) 8) (nI (r + 1) + 1)) 26 := vp_mono (irm_in _ (by omega)) (by omega)
      have hb2 : vp_in (nI (r + 1)) 26 := vp_in_nI (by omega) (by decide)
      refine lv_iload_n hx hb dX10_draw_56 rfl (lv_at hl 0 rfl) ?_
      refine lv_if_le (tgt := 115) hx hb dX10_draw_57 (by decide) (fun c_57 => absurd c_57 (show ¬ nI (r + 1) ≤ (0 : Int32) from nI_ge (a := 0) (by omega) (by omega))) (fun c_57 => ?_)
      refine lv_iload_n hx hb dX10_draw_60 rfl (lv_at hl 1 rfl) ?_
      refine lv_ldc hx hb hc.2.2.2.1 (hc.2.2.2.2.1 _ q1427) dX10_draw_61 ?_
      refine lv_imul hx hb dX10_draw_63 ?_
      refine lv_sipush (v := 12345) hx hb dX10_draw_64 (by decide) ?_
      refine lv_iadd hx hb dX10_draw_67 ?_
      refine lv_istore_n (lv' := [(2, .int _), (3, .int _), (0, .ref _)]) hx hb dX10_draw_68 rfl hl (by decide) rfl (fun ls hl => ?_)
      refine lv_iload_n hx hb dX10_draw_69 rfl (lv_at hl 0 rfl) ?_
      refine lv_bipush (v := 8) hx hb dX10_draw_70 (by decide) ?_
      refine lv_iushr (v := _) hx hb dX10_draw_72 rfl ?_
      refine lv_iload_n hx hb dX10_draw_73 rfl (lv_at hl 1 rfl) ?_
      refine lv_iconst (v := 1) hx hb dX10_draw_74 (by decide) ?_
      refine lv_iadd hx hb dX10_draw_75 ?_
      refine lv_irem hx hb dX10_draw_76 hd0 ?_
      refine lv_istore (lv' := [(4, .int _), (2, .int _), (3, .int _), (0, .ref _)]) hx hb dX10_draw_77 hl (by decide) rfl (fun ls hl => ?_)
      refine lv_aload_n hx hb dX10_draw_79 rfl (lv_at hl 3 rfl) ?_
      refine g10_76 hc hP (nv_m hon3 (by decide) Nat.zero_lt_one) dX10_draw_80 ?_
      refine lv_iload hx hb dX10_draw_83 (lv_at hl 0 rfl) ?_
      refine la_58 hc hP (nv_m hon3 (by decide) Nat.zero_lt_one) ha dX10_draw_85 ?_
      refine lv_istore (lv' := [(5, .int _), (4, .int _), (2, .int _), (3, .int _), (0, .ref _)]) hx hb dX10_draw_86 hl (by decide) rfl (fun ls hl => ?_)
      refine lv_aload_n hx hb dX10_draw_88 rfl (lv_at hl 4 rfl) ?_
      refine g10_76 hc hP (nv_m hon3 (by decide) Nat.zero_lt_one) dX10_draw_89 ?_
      refine lv_iload hx hb dX10_draw_92 (lv_at hl 1 rfl) ?_
      refine lv_aload_n hx hb dX10_draw_94 rfl (lv_at hl 4 rfl) ?_
      refine g10_76 hc hP (nv_m hon3 (by decide) Nat.zero_lt_one) dX10_draw_95 ?_
      refine lv_iload_n hx hb dX10_draw_98 rfl (lv_at hl 3 rfl) ?_
      refine la_58 hc hP (nv_m hon3 (by decide) Nat.zero_lt_one) hb2 dX10_draw_99 ?_
      refine sa_58 hc hP hS (nv_m hon3 (by decide) Nat.zero_lt_one) ha dX10_draw_100 (fun H locs hP hS => ?_)
      refine lv_aload_n hx hb dX10_draw_101 rfl (lv_at hl 4 rfl) ?_
      refine g10_76 hc hP (nv_m hon3 (by decide) Nat.zero_lt_one) dX10_draw_102 ?_
      refine lv_iload_n hx hb dX10_draw_105 rfl (lv_at hl 3 rfl) ?_
      refine lv_iload hx hb dX10_draw_106 (lv_at hl 0 rfl) ?_
      refine sa_58 hc hP hS (nv_m hon3 (by decide) Nat.zero_lt_one) hb2 dX10_draw_108 (fun H locs hP hS => ?_)
      refine lv_iinc (v := nI r) (lv' := [(3, .int _), (5, .int _), (4, .int _), (2, .int _), (0, .ref _)]) hx hb dX10_draw_109 hl (k := 3) rfl (nI_dec r) (by decide) rfl (fun ls hl => ?_)
      refine lv_goto (tgt := 56) hx hb dX10_draw_112 (by decide) ?_
      exact ih _ _ (by omega) hU hq1 _ _ _ hP hS (lv_sub hl [0, 3, 4] rfl)
  have lp28 : ∀ (r j : Nat) , j + r = 26 → (!mOpen T && decide (T 30 0 27 = 0)) = true → ∀ (H : Heap) (locs : List Loc) (ls : Array Slot), npic D dA ad on (wdo X 3 (ms1 T j)) H → va_S (nA ad on) s.heap H locs → lv_has ls 6 [(2, .int (nI j)), (1, .int f), (0, .ref (ad 3 30 0))] → W p l e (nrm 9) s m args below meth cd H locs 0 0 (MQ below (va_Qi (fun r X' => r = (mG (!mOpen T && decide (T 30 0 27 = 0)) 1 T (0 : Int32) ((mDraw T f 58 0 0, mDraw T f))).1 ∧ X' = wdo X 3 (mG (!mOpen T && decide (T 30 0 27 = 0)) 1 T (0 : Int32) ((mDraw T f 58 0 0, mDraw T f))).2) (fun X' t => npic D dA ad on X' t.heap) (nA ad on)) args s 0 0 (nA ad on)) (F0 m 28 ls []) := by
    intro r
    induction r with
    | zero =>
      intro j  hj hq1 H locs ls hP hS hl
      have hjn : j = 26 := by omega
      rw [hjn] at hP
      refine lv_iload_n hx hb dX10_draw_28 rfl (lv_at hl 0 rfl) ?_
      refine lv_bipush (v := 26) hx hb dX10_draw_29 (by decide) ?_
      refine lv_icmp_ge (tgt := 51) hx hb dX10_draw_31 (by decide) (fun c_31 => ?_) (fun c_31 => absurd (lp_le (show (26 : Int32) = nI 26 from rfl) hjn) c_31)
      refine lv_iload_n hx hb dX10_draw_51 rfl (lv_at hl 1 rfl) ?_
      refine lv_istore_n (lv' := [(2, .int _), (1, .int _), (0, .ref _)]) hx hb dX10_draw_52 rfl hl (by decide) rfl (fun ls hl => ?_)
      refine lv_bipush (v := nI 25) hx hb dX10_draw_53 (by decide) ?_
      refine lv_istore_n (lv' := [(3, .int _), (2, .int _), (1, .int _), (0, .ref _)]) hx hb dX10_draw_55 rfl hl (by decide) rfl (fun ls hl => ?_)
      exact lp56 25 f _ (Nat.le_refl 25) rfl hq1 _ _ _ hP hS (lv_sub hl [0, 1, 3] rfl)
    | succ r ih =>
      intro j  hj hq1 H locs ls hP hS hl
      have hjn : j < 26 := by omega
      have ej : nix (nI j) = j := nI_clamp (by omega)
      have hjv : vp_in (nI j) 26 := vp_in_nI hjn (by decide)
      refine lv_iload_n hx hb dX10_draw_28 rfl (lv_at hl 0 rfl) ?_
      refine lv_bipush (v := 26) hx hb dX10_draw_29 (by decide) ?_
      refine lv_icmp_ge (tgt := 51) hx hb dX10_draw_31 (by decide) (fun c_31 => absurd c_31 (lp_gt (show (26 : Int32) = nI 26 from rfl) hjn (by decide))) (fun c_31 => ?_)
      refine lv_aload_n hx hb dX10_draw_34 rfl (lv_at hl 2 rfl) ?_
      refine g10_76 hc hP (nv_m hon3 (by decide) Nat.zero_lt_one) dX10_draw_35 ?_
      refine lv_iload_n hx hb dX10_draw_38 rfl (lv_at hl 0 rfl) ?_
      refine lv_bipush (v := 97) hx hb dX10_draw_39 (by decide) ?_
      refine lv_iload_n hx hb dX10_draw_41 rfl (lv_at hl 0 rfl) ?_
      refine lv_iadd hx hb dX10_draw_42 ?_
      refine lv_i2c (v := _) hx hb dX10_draw_43 rfl ?_
      refine sa_58 hc hP hS (nv_m hon3 (by decide) Nat.zero_lt_one) hjv dX10_draw_44 (fun H locs hP hS => ?_)
      refine lv_iinc (v := nI (j + 1)) (lv' := [(2, .int _), (1, .int _), (0, .ref _)]) hx hb dX10_draw_45 hl (k := 0) rfl (nI_inc j) (by decide) rfl (fun ls hl => ?_)
      refine lv_goto (tgt := 28) hx hb dX10_draw_48 (by decide) ?_
      exact ih (j + 1) (by omega) hq1 _ _ _ (by rw [ej] at hP; exact hP) hS (lv_sub hl [0, 1, 2] rfl)
  refine lv_aload_n hx hb dX10_draw_0 rfl (lv_at hl 0 rfl) ?_
  refine lv_iconst (v := 0) hx hb dX10_draw_1 (by decide) ?_
  refine p10_85 hc hP hS (nv_m hon3 (by decide) Nat.zero_lt_one) dX10_draw_2 (fun H locs hP hS => ?_)
  rw [hT] at hP
  refine lv_aload_n hx hb dX10_draw_5 rfl (lv_at hl 0 rfl) ?_
  refine nc_Vi (c_X10_open hI hon3 ) hc hP hS hl.1 gd10_108 (nrecv (q := (RX10, TX10, 31)) hc (npic_eta hP) (nv_m hon3 (by decide) Nat.zero_lt_one) rfl rfl) ⟨rfl, rfl⟩ nok_X10_open rfl ⟨Nat.le_of_ble_eq_true rfl, Nat.le_of_ble_eq_true rfl⟩ ⟨Nat.le_of_ble_eq_true rfl, Nat.le_of_ble_eq_true rfl⟩ dX10_draw_6 rfl (Nat.le_of_ble_eq_true rfl) (fun r X1 H locs hp hP hS => ?_)
  obtain ⟨hr9, hX9⟩ := hp
  rw [hX9] at hP
  subst hr9
  refine lv_if_ne (tgt := 19) hx hb dX10_draw_9 (by decide) (fun c_9 => ?_) (fun c_9 => ?_)
  · refine lv_aload_n hx hb dX10_draw_19 rfl (lv_at hl 0 rfl) ?_
    refine lv_iconst (v := 1) hx hb dX10_draw_20 (by decide) ?_
    refine p10_85 hc hP hS (nv_m hon3 (by decide) Nat.zero_lt_one) dX10_draw_21 (fun H locs hP hS => ?_)
    refine lv_iconst (v := 0) hx hb dX10_draw_24 (by decide) ?_
    exact ne_z hc hP hS hr rfl dX10_draw_25 (mR_of (mG_f (by clear hP hS hl hc hx hb hr hT; simp_all [-Int32.not_le, -Int32.not_lt, i32_lt, nb_t, nb_f, nb_z, nb_o])))
  · refine lv_aload_n hx hb dX10_draw_12 rfl (lv_at hl 0 rfl) ?_
    refine g10_186 hc hP (nv_m hon3 (by decide) Nat.zero_lt_one) dX10_draw_13 ?_
    refine lv_if_eq (tgt := 26) hx hb dX10_draw_16 (by decide) (fun c_16 => ?_) (fun c_16 => ?_)
    · refine lv_iconst (v := nI 0) hx hb dX10_draw_26 (by decide) ?_
      refine lv_istore_n (lv' := [(2, .int _), (0, .ref _), (1, .int _)]) hx hb dX10_draw_27 rfl hl (by decide) rfl (fun ls hl => ?_)
      exact lp28 _ 0 (Nat.zero_add _) (by clear hP hS hl hc hx hb hr hT; simp_all [-Int32.not_le, -Int32.not_lt, i32_lt, nb_t, nb_f, nb_z, nb_o]) _ _ _ hP hS (lv_sub hl [0, 2, 1] rfl)
    · refine lv_aload_n hx hb dX10_draw_19 rfl (lv_at hl 0 rfl) ?_
      refine lv_iconst (v := 1) hx hb dX10_draw_20 (by decide) ?_
      refine p10_85 hc hP hS (nv_m hon3 (by decide) Nat.zero_lt_one) dX10_draw_21 (fun H locs hP hS => ?_)
      refine lv_iconst (v := 0) hx hb dX10_draw_24 (by decide) ?_
      exact ne_z hc hP hS hr rfl dX10_draw_25 (mR_of (mG_f (by clear hP hS hl hc hx hb hr hT; simp_all [-Int32.not_le, -Int32.not_lt, i32_lt, nb_t, nb_f, nb_z, nb_o])))
set_option maxHeartbeats 4000000 in
set_option maxRecDepth 100000 in
theorem c_X10_rank (hI : ninj ad on) (hon3 : on 3) {c : Int32} : nMi l D dA ad on yX10_rank cX10_rank 3 (some .int) (nrm 1) [.ref (ad 3 30 0), .int c] (wdo X 3 T) (fun r X' => r = mrk T c ∧ X' = wdo X 3 T) := by
  refine nM_of hI (by decide +kernel) (Nat.le_of_ble_eq_true rfl) ?_
  intro p e s m args below meth cd ls hc hr _ hP hl hS
  have hx := hc.1
  have hb := hc.2.1
  have hl : lv_has ls 3 [(0, .ref (ad 3 30 0)), (1, .int c)] := hl
  have lp : ∀ (r j : Nat) , j + r = 26 → ffind (fun k => decide (T 58 0 k = c)) j = none → ∀ (H : Heap) (locs : List Loc) (ls : Array Slot), npic D dA ad on (wdo X 3 T) H → va_S (nA ad on) s.heap H locs → lv_has ls 3 [(2, .int (nI j)), (1, .int c), (0, .ref (ad 3 30 0))] → W p l e (nrm 1) s m args below meth cd H locs 0 0 (MQ below (va_Qi (fun r X' => r = mrk T c ∧ X' = wdo X 3 T) (fun X' t => npic D dA ad on X' t.heap) (nA ad on)) args s 0 0 (nA ad on)) (F0 m 2 ls []) := by
    intro r
    induction r with
    | zero =>
      intro j  hj hf H locs ls hP hS hl
      have hjn : j = 26 := by omega
      refine lv_iload_n hx hb dX10_rank_2 rfl (lv_at hl 0 rfl) ?_
      refine lv_bipush (v := 26) hx hb dX10_rank_3 (by decide) ?_
      refine lv_icmp_ge (tgt := 26) hx hb dX10_rank_5 (by decide) (fun c_5 => ?_) (fun c_5 => absurd (lp_le (show (26 : Int32) = nI 26 from rfl) hjn) c_5)
      refine lv_iconst (v := (-1)) hx hb dX10_rank_26 (by decide) ?_
      exact ne_i hc hP hS hr dX10_rank_27 ⟨mrk_none hjn hf, rfl⟩
    | succ r ih =>
      intro j  hj hf H locs ls hP hS hl
      have hjn : j < 26 := by omega
      have ej : nix (nI j) = j := nI_clamp (by omega)
      have hjv : vp_in (nI j) 26 := vp_in_nI hjn (by decide)
      refine lv_iload_n hx hb dX10_rank_2 rfl (lv_at hl 0 rfl) ?_
      refine lv_bipush (v := 26) hx hb dX10_rank_3 (by decide) ?_
      refine lv_icmp_ge (tgt := 26) hx hb dX10_rank_5 (by decide) (fun c_5 => absurd c_5 (lp_gt (show (26 : Int32) = nI 26 from rfl) hjn (by decide))) (fun c_5 => ?_)
      refine lv_aload_n hx hb dX10_rank_8 rfl (lv_at hl 2 rfl) ?_
      refine g10_76 hc hP (nv_m hon3 (by decide) Nat.zero_lt_one) dX10_rank_9 ?_
      refine lv_iload_n hx hb dX10_rank_12 rfl (lv_at hl 0 rfl) ?_
      refine la_58 hc hP (nv_m hon3 (by decide) Nat.zero_lt_one) hjv dX10_rank_13 ?_
      refine lv_iload_n hx hb dX10_rank_14 rfl (lv_at hl 1 rfl) ?_
      refine lv_icmp_ne (tgt := 20) hx hb dX10_rank_15 (by decide) (fun c_15 => ?_) (fun c_15 => ?_)
      · refine lv_iinc (v := nI (j + 1)) (lv' := [(2, .int _), (1, .int _), (0, .ref _)]) hx hb dX10_rank_20 hl (k := 0) rfl (nI_inc j) (by decide) rfl (fun ls hl => ?_)
        refine lv_goto (tgt := 2) hx hb dX10_rank_23 (by decide) ?_
        exact ih (j + 1) (by omega) (by rw [ffind_s hf]; clear hP hS hl hc hx hb hr ih; simp_all [-Int32.not_le, -Int32.not_lt, i32_lt, nb_t, nb_f, nb_z, nb_o]) _ _ _ hP hS (lv_sub hl [0, 1, 2] rfl)
      · refine lv_iload_n hx hb dX10_rank_18 rfl (lv_at hl 0 rfl) ?_
        exact ne_i hc hP hS hr dX10_rank_19 ⟨mrk_some (n := 26) rfl (ffind_at hf (by clear hP hS hl hc hx hb hr ih; simp_all [-Int32.not_le, -Int32.not_lt, i32_lt, nb_t, nb_f, nb_z, nb_o]) hjn), rfl⟩
  refine lv_iconst (v := nI 0) hx hb dX10_rank_0 (by decide) ?_
  refine lv_istore_n (lv' := [(2, .int _), (0, .ref _), (1, .int _)]) hx hb dX10_rank_1 rfl hl (by decide) rfl (fun ls hl => ?_)
  exact lp _ 0 (Nat.zero_add _) rfl _ _ _ hP hS (lv_sub hl [0, 2, 1] rfl)
set_option maxHeartbeats 4000000 in
set_option maxRecDepth 100000 in
theorem c_X10_isAhead (hI : ninj ad on) (hon3 : on 3) {x z : Int32} (hx0 : vp_in x 12) (hz0 : vp_in z 12) : nMi l D dA ad on yX10_isAhead cX10_isAhead 6 (some .boolean) (nrm 2) [.ref (ad 3 30 0), .int x, .int z] (wdo X 3 T) (fun r X' => r = nb (mAhd T x z) ∧ X' = wdo X 3 T) := by
  refine nM_of hI (by decide +kernel) (Nat.le_of_ble_eq_true rfl) ?_
  intro p e s m args below meth cd ls hc hr _ hP hl hS
  have hx := hc.1
  have hb := hc.2.1
  have hl : lv_has ls 6 [(0, .ref (ad 3 30 0)), (1, .int x), (2, .int z)] := hl
  have lp : ∀ (r j : Nat) , j + r = 4 → mah T x z r j = mAhd T x z → ∀ (H : Heap) (locs : List Loc) (ls : Array Slot), npic D dA ad on (wdo X 3 T) H → va_S (nA ad on) s.heap H locs → lv_has ls 6 [(3, .int (nI j)), (2, .int z), (1, .int x), (0, .ref (ad 3 30 0))] → W p l e (nrm 2) s m args below meth cd H locs 0 0 (MQ below (va_Qi (fun r X' => r = nb (mAhd T x z) ∧ X' = wdo X 3 T) (fun X' t => npic D dA ad on X' t.heap) (nA ad on)) args s 0 0 (nA ad on)) (F0 m 2 ls []) := by
    intro r
    induction r with
    | zero =>
      intro j  hj ha H locs ls hP hS hl
      have hjn : j = 4 := by omega
      refine lv_iload_n hx hb dX10_isAhead_2 rfl (lv_at hl 0 rfl) ?_
      refine lv_iconst (v := 4) hx hb dX10_isAhead_3 (by decide) ?_
      refine lv_icmp_ge (tgt := 65) hx hb dX10_isAhead_4 (by decide) (fun c_4 => ?_) (fun c_4 => absurd (lp_le (show (4 : Int32) = nI 4 from rfl) hjn) c_4)
      refine lv_iload_n hx hb dX10_isAhead_65 rfl (lv_at hl 2 rfl) ?_
      refine lv_iload_n hx hb dX10_isAhead_66 rfl (lv_at hl 1 rfl) ?_
      refine lv_icmp_ge (tgt := 74) hx hb dX10_isAhead_67 (by decide) (fun c_67 => ?_) (fun c_67 => ?_)
      · refine lv_iconst (v := 0) hx hb dX10_isAhead_74 (by decide) ?_
        exact ne_z hc hP hS hr rfl dX10_isAhead_75 ⟨by rw [← ha]; show _ = nb (decide (x < z)); rw [decide_eq_false (Int32.not_lt.mpr c_67)]; rfl, rfl⟩
      · refine lv_iconst (v := 1) hx hb dX10_isAhead_70 (by decide) ?_
        refine lv_goto (tgt := 75) hx hb dX10_isAhead_71 (by decide) ?_
        exact ne_z hc hP hS hr rfl dX10_isAhead_75 ⟨by rw [← ha]; show _ = nb (decide (x < z)); rw [decide_eq_true (Int32.not_le.mp c_67)]; rfl, rfl⟩
    | succ r ih =>
      intro j  hj ha H locs ls hP hS hl
      have hjn : j < 4 := by omega
      have hj4 : j < 4 := hjn
      refine lv_iload_n hx hb dX10_isAhead_2 rfl (lv_at hl 0 rfl) ?_
      refine lv_iconst (v := 4) hx hb dX10_isAhead_3 (by decide) ?_
      refine lv_icmp_ge (tgt := 65) hx hb dX10_isAhead_4 (by decide) (fun c_4 => absurd c_4 (lp_gt (show (4 : Int32) = nI 4 from rfl) hjn (by decide))) (fun c_4 => ?_)
      refine lv_aload_n hx hb dX10_isAhead_7 rfl (lv_at hl 3 rfl) ?_
      refine lv_aload_n hx hb dX10_isAhead_8 rfl (lv_at hl 3 rfl) ?_
      refine g10_42 hc hP (nv_m hon3 (by decide) Nat.zero_lt_one) dX10_isAhead_9 ?_
      refine lv_iconst (v := 4) hx hb dX10_isAhead_12 (by decide) ?_
      refine lv_iload_n hx hb dX10_isAhead_13 rfl (lv_at hl 2 rfl) ?_
      refine lv_imul hx hb dX10_isAhead_14 ?_
      refine lv_iload_n hx hb dX10_isAhead_15 rfl (lv_at hl 0 rfl) ?_
      refine lv_iadd hx hb dX10_isAhead_16 ?_
      refine la_45 hc hP (nv_m hon3 (by decide) Nat.zero_lt_one) (vp4 hx0 j hj4) dX10_isAhead_17 ?_
      refine nc_Vi (c_X10_rank hI hon3) hc hP hS hl.1 gd10_191 (nrecv (q := (RX10, TX10, 31)) hc (npic_eta hP) (nv_m hon3 (by decide) Nat.zero_lt_one) rfl rfl) ⟨rfl, rfl⟩ nok_X10_rank rfl ⟨Nat.le_of_ble_eq_true rfl, Nat.le_of_ble_eq_true rfl⟩ ⟨Nat.le_of_ble_eq_true rfl, Nat.le_of_ble_eq_true rfl⟩ dX10_isAhead_18 rfl (Nat.le_of_ble_eq_true rfl) (fun r X1 H locs hp hP hS => ?_)
      obtain ⟨hr9, hX9⟩ := hp
      rw [hX9] at hP
      subst hr9
      refine lv_istore (lv' := [(4, .int _), (3, .int _), (2, .int _), (1, .int _), (0, .ref _)]) hx hb dX10_isAhead_21 hl (by decide) rfl (fun ls hl => ?_)
      refine lv_aload_n hx hb dX10_isAhead_23 rfl (lv_at hl 4 rfl) ?_
      refine lv_aload_n hx hb dX10_isAhead_24 rfl (lv_at hl 4 rfl) ?_
      refine g10_42 hc hP (nv_m hon3 (by decide) Nat.zero_lt_one) dX10_isAhead_25 ?_
      refine lv_iconst (v := 4) hx hb dX10_isAhead_28 (by decide) ?_
      refine lv_iload_n hx hb dX10_isAhead_29 rfl (lv_at hl 2 rfl) ?_
      refine lv_imul hx hb dX10_isAhead_30 ?_
      refine lv_iload_n hx hb dX10_isAhead_31 rfl (lv_at hl 1 rfl) ?_
      refine lv_iadd hx hb dX10_isAhead_32 ?_
      refine la_45 hc hP (nv_m hon3 (by decide) Nat.zero_lt_one) (vp4 hz0 j hj4) dX10_isAhead_33 ?_
      refine nc_Vi (c_X10_rank hI hon3) hc hP hS hl.1 gd10_191 (nrecv (q := (RX10, TX10, 31)) hc (npic_eta hP) (nv_m hon3 (by decide) Nat.zero_lt_one) rfl rfl) ⟨rfl, rfl⟩ nok_X10_rank rfl ⟨Nat.le_of_ble_eq_true rfl, Nat.le_of_ble_eq_true rfl⟩ ⟨Nat.le_of_ble_eq_true rfl, Nat.le_of_ble_eq_true rfl⟩ dX10_isAhead_34 rfl (Nat.le_of_ble_eq_true rfl) (fun r X1 H locs hp hP hS => ?_)
      obtain ⟨hr9, hX9⟩ := hp
      rw [hX9] at hP
      subst hr9
      refine lv_istore (lv' := [(5, .int _), (4, .int _), (3, .int _), (2, .int _), (1, .int _), (0, .ref _)]) hx hb dX10_isAhead_37 hl (by decide) rfl (fun ls hl => ?_)
      refine lv_iload hx hb dX10_isAhead_39 (lv_at hl 1 rfl) ?_
      refine lv_iload hx hb dX10_isAhead_41 (lv_at hl 0 rfl) ?_
      refine lv_icmp_eq (tgt := 59) hx hb dX10_isAhead_43 (by decide) (fun c_43 => ?_) (fun c_43 => ?_)
      · refine lv_iinc (v := nI (j + 1)) (lv' := [(3, .int _), (5, .int _), (4, .int _), (2, .int _), (1, .int _), (0, .ref _)]) hx hb dX10_isAhead_59 hl (k := 2) rfl (nI_inc j) (by decide) rfl (fun ls hl => ?_)
        refine lv_goto (tgt := 2) hx hb dX10_isAhead_62 (by decide) ?_
        exact ih (j + 1) (by omega) (by rw [← ha, mah, if_pos (show mrkn T x j = mrkn T z j from c_43)]) _ _ _ hP hS (lv_sub hl [0, 3, 4, 5] rfl)
      · refine lv_iload hx hb dX10_isAhead_46 (lv_at hl 1 rfl) ?_
        refine lv_iload hx hb dX10_isAhead_48 (lv_at hl 0 rfl) ?_
        refine lv_icmp_ge (tgt := 57) hx hb dX10_isAhead_50 (by decide) (fun c_50 => ?_) (fun c_50 => ?_)
        · refine lv_iconst (v := 0) hx hb dX10_isAhead_57 (by decide) ?_
          exact ne_z hc hP hS hr rfl dX10_isAhead_58 ⟨by rw [← ha, mah, if_neg (show ¬ mrkn T x j = mrkn T z j from c_43)]; show _ = nb (decide (mrkn T x j < mrkn T z j)); rw [decide_eq_false (Int32.not_lt.mpr (show mrkn T z j ≤ mrkn T x j from c_50))]; rfl, rfl⟩
        · refine lv_iconst (v := 1) hx hb dX10_isAhead_53 (by decide) ?_
          refine lv_goto (tgt := 58) hx hb dX10_isAhead_54 (by decide) ?_
          exact ne_z hc hP hS hr rfl dX10_isAhead_58 ⟨by rw [← ha, mah, if_neg (show ¬ mrkn T x j = mrkn T z j from c_43)]; show _ = nb (decide (mrkn T x j < mrkn T z j)); rw [decide_eq_true (Int32.not_le.mp (show ¬ mrkn T z j ≤ mrkn T x j from c_50))]; rfl, rfl⟩
  refine lv_iconst (v := nI 0) hx hb dX10_isAhead_0 (by decide) ?_
  refine lv_istore_n (lv' := [(3, .int _), (0, .ref _), (1, .int _), (2, .int _)]) hx hb dX10_isAhead_1 rfl hl (by decide) rfl (fun ls hl => ?_)
  exact lp _ 0 (Nat.zero_add _) rfl _ _ _ hP hS (lv_sub hl [0, 3, 2, 1] rfl)
set_option maxHeartbeats 4000000 in
set_option maxRecDepth 100000 in
theorem c_X10_laid (hI : ninj ad on) (hon3 : on 3) (hok : mOk T) {a : Int32} : nMi l D dA ad on yX10_laid cX10_laid 5 (some .int) (nrm 5) [.ref (ad 3 30 0), .int a] (wdo X 3 T) (fun r X' => ∃ (U : NSt) (n : Nat), (mOff T U ∧ mSrt T a U n (mnp T)) ∧ r = nI n ∧ X' = wdo X 3 U) := by
  refine nM_of hI (by decide +kernel) (Nat.le_of_ble_eq_true rfl) ?_
  intro p e s m args below meth cd ls hc hr _ hP hl hS
  have hx := hc.1
  have hb := hc.2.1
  have hl : lv_has ls 5 [(0, .ref (ad 3 30 0)), (1, .int a)] := hl
  have lp : ∀ (r j : Nat) (n9 : Nat) (U : NSt), j + r = mnp T → mOff T U → mSrt T a U n9 j → ∀ (H : Heap) (locs : List Loc) (ls : Array Slot), npic D dA ad on (wdo X 3 U) H → va_S (nA ad on) s.heap H locs → lv_has ls 5 [(3, .int (nI j)), (2, .int (nI n9)), (1, .int a), (0, .ref (ad 3 30 0))] → W p l e (nrm 5) s m args below meth cd H locs 0 0 (MQ below (va_Qi (fun r X' => ∃ (U : NSt) (n : Nat), (mOff T U ∧ mSrt T a U n (mnp T)) ∧ r = nI n ∧ X' = wdo X 3 U) (fun X' t => npic D dA ad on X' t.heap) (nA ad on)) args s 0 0 (nA ad on)) (F0 m 4 ls []) := by
    intro r
    induction r with
    | zero =>
      intro j n9 U hj hU hs H locs ls hP hS hl
      have hjn : j = mnp T := by omega
      refine lv_iload_n hx hb dX10_laid_4 rfl (lv_at hl 0 rfl) ?_
      refine lv_aload_n hx hb dX10_laid_5 rfl (lv_at hl 3 rfl) ?_
      refine g10_98 hc hP (nv_m hon3 (by decide) Nat.zero_lt_one) dX10_laid_6 ?_
      refine lv_icmp_ge (tgt := 94) hx hb dX10_laid_9 (by decide) (fun c_9 => ?_) (fun c_9 => absurd (lp_le (show U 30 0 12 = _ by rw [hU 30 (by decide) (by decide)]; exact hok.np) hjn) c_9)
      refine lv_iload_n hx hb dX10_laid_94 rfl (lv_at hl 1 rfl) ?_
      exact ne_i hc hP hS hr dX10_laid_95 ⟨U, n9, ⟨hU, by rw [hjn] at hs; exact hs⟩, rfl, rfl⟩
    | succ r ih =>
      intro j n9 U hj hU hs H locs ls hP hS hl
      have hjn : j < mnp T := by omega
      have hj12 : j < 12 := Nat.lt_of_lt_of_le hjn hok.np12
      have ej : nix (nI j) = j := nI_clamp (by omega)
      have hjv : vp_in (nI j) 12 := vp_in_nI hj12 (by decide)
      have hjp : vp_in (nI j) (mnp T) := vp_in_nI hjn hok.npL
      have hoU := hU.ok hok
      have hjU : vp_in (nI j) (mnp U) := by rw [hU.enp]; exact hjp
      have hKU : ∀ k, k ≠ 59 → k ≠ 60 → U k = T k := hU
      have hn9 : n9 ≤ j := hs.2.2.2
      refine lv_iload_n hx hb dX10_laid_4 rfl (lv_at hl 0 rfl) ?_
      refine lv_aload_n hx hb dX10_laid_5 rfl (lv_at hl 3 rfl) ?_
      refine g10_98 hc hP (nv_m hon3 (by decide) Nat.zero_lt_one) dX10_laid_6 ?_
      refine lv_icmp_ge (tgt := 94) hx hb dX10_laid_9 (by decide) (fun c_9 => absurd c_9 (lp_gt (show U 30 0 12 = _ by rw [hU 30 (by decide) (by decide)]; exact hok.np) hjn hok.npL)) (fun c_9 => ?_)
      refine lv_aload_n hx hb dX10_laid_12 rfl (lv_at hl 3 rfl) ?_
      refine g10_36 hc hP (nv_m hon3 (by decide) Nat.zero_lt_one) dX10_laid_13 ?_
      refine lv_iload_n hx hb dX10_laid_16 rfl (lv_at hl 0 rfl) ?_
      refine la_43 hc hP (nv_m hon3 (by decide) Nat.zero_lt_one) hjv dX10_laid_17 ?_
      refine lv_iload_n hx hb dX10_laid_18 rfl (lv_at hl 2 rfl) ?_
      refine lv_icmp_ne (tgt := 88) hx hb dX10_laid_19 (by decide) (fun c_19 => ?_) (fun c_19 => ?_)
      · refine lv_iinc (v := nI (j + 1)) (lv' := [(3, .int _), (2, .int _), (1, .int _), (0, .ref _)]) hx hb dX10_laid_88 hl (k := 0) rfl (nI_inc j) (by decide) rfl (fun ls hl => ?_)
        refine lv_goto (tgt := 4) hx hb dX10_laid_91 (by decide) ?_
        exact ih (j + 1) n9 _ (by omega) hU (mSrt_skip hs (by clear hP hS hl hc hx hb hr ih; simp_all [mStd, -Int32.not_le, -Int32.not_lt, i32_lt, nb_t, nb_f, nb_z, nb_o]) rfl) _ _ _ hP hS (lv_sub hl [0, 1, 2, 3] rfl)
      · refine lv_aload_n hx hb dX10_laid_22 rfl (lv_at hl 3 rfl) ?_
        refine lv_iload_n hx hb dX10_laid_23 rfl (lv_at hl 0 rfl) ?_
        refine nc_Vi (c_X10_reasonOf hI hon3 hoU (hjU)) hc hP hS hl.1 gd10_180 (nrecv (q := (RX10, TX10, 31)) hc (npic_eta hP) (nv_m hon3 (by decide) Nat.zero_lt_one) rfl rfl) ⟨rfl, rfl⟩ nok_X10_reasonOf rfl ⟨Nat.le_of_ble_eq_true rfl, Nat.le_of_ble_eq_true rfl⟩ ⟨Nat.le_of_ble_eq_true rfl, Nat.le_of_ble_eq_true rfl⟩ dX10_laid_24 rfl (Nat.le_of_ble_eq_true rfl) (fun r X1 H locs hp hP hS => ?_)
        obtain ⟨U24, hO24, hr9, hX9⟩ := hp
        have hU24 := hO24.off
        rw [hX9] at hP
        subst hr9
        have hK24 : ∀ k, k ≠ 59 → k ≠ 60 → U24 k = U k := hU24
        have hw9 : mWhy U (nI j) = mWhy T (nI j) := mWhy_off hU _ hjv
        refine lv_if_ne (tgt := 88) hx hb dX10_laid_27 (by decide) (fun c_27 => ?_) (fun c_27 => ?_)
        · refine lv_iinc (v := nI (j + 1)) (lv' := [(3, .int _), (2, .int _), (1, .int _), (0, .ref _)]) hx hb dX10_laid_88 hl (k := 0) rfl (nI_inc j) (by decide) rfl (fun ls hl => ?_)
          refine lv_goto (tgt := 4) hx hb dX10_laid_91 (by decide) ?_
          exact ih (j + 1) n9 _ (by omega) (hU.tr hU24) (mSrt_skip hs (by clear hP hS hl hc hx hb hr ih; simp_all [mStd, -Int32.not_le, -Int32.not_lt, i32_lt, nb_t, nb_f, nb_z, nb_o]) (hO24 59 (by decide))) _ _ _ hP hS (lv_sub hl [0, 1, 2, 3] rfl)
        · refine lv_iload_n hx hb dX10_laid_30 rfl (lv_at hl 1 rfl) ?_
          refine lv_istore (lv' := [(4, .int _), (3, .int _), (2, .int _), (1, .int _), (0, .ref _)]) hx hb dX10_laid_31 hl (by decide) rfl (fun ls hl => ?_)
          have hst : mStd T a j = true := by clear hP hS hl hc hx hb hr ih; simp_all [mStd, -Int32.not_le, -Int32.not_lt, i32_lt, nb_t, nb_f, nb_z, nb_o]
          have lp33 : ∀ (t : Nat) (V : NSt), t ≤ n9 → mOff T V → (∀ i, i < t → V 59 0 i = U 59 0 i) → (∀ i, t ≤ i → i < n9 → V 59 0 (i + 1) = U 59 0 i ∧ mAhd T (nI j) (U 59 0 i) = true) → ∀ (H : Heap) (locs : List Loc) (ls : Array Slot), npic D dA ad on (wdo X 3 V) H → va_S (nA ad on) s.heap H locs → lv_has ls 5 [(4, .int (nI t)), (3, .int (nI j)), (2, .int (nI n9)), (1, .int a), (0, .ref (ad 3 30 0))] → W p l e (nrm 5) s m args below meth cd H locs 0 0 (MQ below (va_Qi (fun r X' => ∃ (U : NSt) (n : Nat), (mOff T U ∧ mSrt T a U n (mnp T)) ∧ r = nI n ∧ X' = wdo X 3 U) (fun X' t => npic D dA ad on X' t.heap) (nA ad on)) args s 0 0 (nA ad on)) (F0 m 33 ls []) := by
            intro t
            induction t with
            | zero =>
              intro V ht hV hlo hhi H locs ls hP hS hl
              have e0 : nix (nI 0) = 0 := rfl
              refine lv_iload hx hb dX10_laid_33 (lv_at hl 0 rfl) ?_
              refine lv_if_le (tgt := 77) hx hb dX10_laid_35 (by decide) (fun c_35 => ?_) (fun c_35 => absurd (by decide) c_35)
              refine lv_aload_n hx hb dX10_laid_77 rfl (lv_at hl 4 rfl) ?_
              refine g10_79 hc hP (nv_m hon3 (by decide) Nat.zero_lt_one) dX10_laid_78 ?_
              refine lv_iload hx hb dX10_laid_81 (lv_at hl 0 rfl) ?_
              refine lv_iload_n hx hb dX10_laid_83 rfl (lv_at hl 1 rfl) ?_
              refine sa_59 hc hP hS (nv_m hon3 (by decide) Nat.zero_lt_one) (vp_in_nI (by decide) (by decide)) dX10_laid_84 (fun H locs hP hS => ?_)
              refine lv_iinc (v := nI (n9 + 1)) (lv' := [(2, .int _), (4, .int _), (3, .int _), (1, .int _), (0, .ref _)]) hx hb dX10_laid_85 hl (k := 2) rfl (nI_inc n9) (by decide) rfl (fun ls hl => ?_)
              refine lv_iinc (v := nI (j + 1)) (lv' := [(3, .int _), (2, .int _), (4, .int _), (1, .int _), (0, .ref _)]) hx hb dX10_laid_88 hl (k := 2) rfl (nI_inc j) (by decide) rfl (fun ls hl => ?_)
              refine lv_goto (tgt := 4) hx hb dX10_laid_91 (by decide) ?_
              exact ih (j + 1) (n9 + 1) _ (by omega) (hV.tr mOff.put59) (mIns hs hst (Nat.zero_le _) hlo hhi (Or.inl rfl) hj12) _ _ _ (by rw [e0] at hP; exact hP) hS (lv_sub hl [0, 1, 3, 4] rfl)
            | succ t ih2 =>
              intro V ht hV hlo hhi H locs ls hP hS hl
              have e1 : nix (nI (t + 1)) = t + 1 := nI_clamp (by omega)
              have e3 : nI (t + 1) - 1 = nI t := by rw [Int32.sub_eq_add_neg]; exact pk_m1 t
              have e2 : nix (nI (t + 1) - 1) = t := by rw [e3]; exact nI_clamp (by omega)
              have htv : vp_in (nI (t + 1) - 1) 12 := by rw [e3]; exact vp_in_nI (by omega) (by decide)
              have hlv : vp_in (V 59 0 (nix (nI (t + 1) - 1))) 12 := by
                rw [e2, hlo t (Nat.lt_succ_self t)]
                obtain ⟨q, hq, e9, -⟩ := hs.1 t (by omega)
                rw [e9]
                exact vp_in_nI (by omega) (by decide)
              refine lv_iload hx hb dX10_laid_33 (lv_at hl 0 rfl) ?_
              refine lv_if_le (tgt := 77) hx hb dX10_laid_35 (by decide) (fun c_35 => absurd c_35 (show ¬ nI (t + 1) ≤ (0 : Int32) from nI_ge (a := 0) (by omega) (by omega))) (fun c_35 => ?_)
              refine lv_aload_n hx hb dX10_laid_38 rfl (lv_at hl 4 rfl) ?_
              refine lv_iload_n hx hb dX10_laid_39 rfl (lv_at hl 1 rfl) ?_
              refine lv_aload_n hx hb dX10_laid_40 rfl (lv_at hl 4 rfl) ?_
              refine g10_79 hc hP (nv_m hon3 (by decide) Nat.zero_lt_one) dX10_laid_41 ?_
              refine lv_iload hx hb dX10_laid_44 (lv_at hl 0 rfl) ?_
              refine lv_iconst (v := 1) hx hb dX10_laid_46 (by decide) ?_
              refine lv_isub hx hb dX10_laid_47 ?_
              refine la_59 hc hP (nv_m hon3 (by decide) Nat.zero_lt_one) htv dX10_laid_48 ?_
              refine nc_Vi (c_X10_isAhead hI hon3 (hjv) (hlv)) hc hP hS hl.1 gd10_195 (nrecv (q := (RX10, TX10, 31)) hc (npic_eta hP) (nv_m hon3 (by decide) Nat.zero_lt_one) rfl rfl) ⟨rfl, rfl⟩ nok_X10_isAhead rfl ⟨Nat.le_of_ble_eq_true rfl, Nat.le_of_ble_eq_true rfl⟩ ⟨Nat.le_of_ble_eq_true rfl, Nat.le_of_ble_eq_true rfl⟩ dX10_laid_49 rfl (Nat.le_of_ble_eq_true rfl) (fun r X1 H locs hp hP hS => ?_)
              obtain ⟨hr9, hX9⟩ := hp
              rw [hX9] at hP
              subst hr9
              refine lv_if_eq (tgt := 77) hx hb dX10_laid_52 (by decide) (fun c_52 => ?_) (fun c_52 => ?_)
              · refine lv_aload_n hx hb dX10_laid_77 rfl (lv_at hl 4 rfl) ?_
                refine g10_79 hc hP (nv_m hon3 (by decide) Nat.zero_lt_one) dX10_laid_78 ?_
                refine lv_iload hx hb dX10_laid_81 (lv_at hl 0 rfl) ?_
                refine lv_iload_n hx hb dX10_laid_83 rfl (lv_at hl 1 rfl) ?_
                refine sa_59 hc hP hS (nv_m hon3 (by decide) Nat.zero_lt_one) (vp_in_nI (by omega) (by decide)) dX10_laid_84 (fun H locs hP hS => ?_)
                refine lv_iinc (v := nI (n9 + 1)) (lv' := [(2, .int _), (4, .int _), (3, .int _), (1, .int _), (0, .ref _)]) hx hb dX10_laid_85 hl (k := 2) rfl (nI_inc n9) (by decide) rfl (fun ls hl => ?_)
                refine lv_iinc (v := nI (j + 1)) (lv' := [(3, .int _), (2, .int _), (4, .int _), (1, .int _), (0, .ref _)]) hx hb dX10_laid_88 hl (k := 2) rfl (nI_inc j) (by decide) rfl (fun ls hl => ?_)
                refine lv_goto (tgt := 4) hx hb dX10_laid_91 (by decide) ?_
                exact ih (j + 1) (n9 + 1) _ (by omega) (hV.tr mOff.put59) (mIns hs hst ht hlo hhi (Or.inr (by have h9 := nb_z.mp c_52; rw [e2, mAhd_off hV, hlo t (Nat.lt_succ_self t)] at h9; exact h9)) hj12) _ _ _ (by rw [e1] at hP; exact hP) hS (lv_sub hl [0, 1, 3, 4] rfl)
              · refine lv_aload_n hx hb dX10_laid_55 rfl (lv_at hl 4 rfl) ?_
                refine g10_79 hc hP (nv_m hon3 (by decide) Nat.zero_lt_one) dX10_laid_56 ?_
                refine lv_iload hx hb dX10_laid_59 (lv_at hl 0 rfl) ?_
                refine lv_aload_n hx hb dX10_laid_61 rfl (lv_at hl 4 rfl) ?_
                refine g10_79 hc hP (nv_m hon3 (by decide) Nat.zero_lt_one) dX10_laid_62 ?_
                refine lv_iload hx hb dX10_laid_65 (lv_at hl 0 rfl) ?_
                refine lv_iconst (v := 1) hx hb dX10_laid_67 (by decide) ?_
                refine lv_isub hx hb dX10_laid_68 ?_
                refine la_59 hc hP (nv_m hon3 (by decide) Nat.zero_lt_one) htv dX10_laid_69 ?_
                refine sa_59 hc hP hS (nv_m hon3 (by decide) Nat.zero_lt_one) (vp_in_nI (by omega) (by decide)) dX10_laid_70 (fun H locs hP hS => ?_)
                refine lv_iinc (v := nI t) (lv' := [(4, .int _), (3, .int _), (2, .int _), (1, .int _), (0, .ref _)]) hx hb dX10_laid_71 hl (k := 0) rfl (nI_dec t) (by decide) rfl (fun ls hl => ?_)
                refine lv_goto (tgt := 33) hx hb dX10_laid_74 (by decide) ?_
                exact ih2 _ (by omega) (hV.tr mOff.put59) (mSh1 hlo e1) (mSh2 hlo hhi e1 (by rw [e2]) (by have h9 := nb_nz.mp c_52; rw [e2, mAhd_off hV, hlo t (Nat.lt_succ_self t)] at h9; exact h9)) _ _ _ hP hS (lv_sub hl [0, 1, 2, 3, 4] rfl)
          exact lp33 n9 _ (Nat.le_refl n9) (hU.tr hU24) (fun i _ => by rw [hO24 59 (by decide)]) (fun i h8 h9 => absurd h9 (Nat.not_lt.mpr h8)) _ _ _ hP hS (lv_sub hl [0, 1, 2, 3, 4] rfl)
  refine lv_iconst (v := nI 0) hx hb dX10_laid_0 (by decide) ?_
  refine lv_istore_n (lv' := [(2, .int _), (0, .ref _), (1, .int _)]) hx hb dX10_laid_1 rfl hl (by decide) rfl (fun ls hl => ?_)
  refine lv_iconst (v := nI 0) hx hb dX10_laid_2 (by decide) ?_
  refine lv_istore_n (lv' := [(3, .int _), (2, .int _), (0, .ref _), (1, .int _)]) hx hb dX10_laid_3 rfl hl (by decide) rfl (fun ls hl => ?_)
  exact lp _ 0 0 _ (Nat.zero_add _) mOff.rf mSrt_0 _ _ _ hP hS (lv_sub hl [0, 1, 3, 2] rfl)
set_option maxHeartbeats 4000000 in
set_option maxRecDepth 100000 in
theorem c_X10_ballot (hI : ninj ad on) (hon3 : on 3) (hT : nput M 30 0 0 0 = T) (hok : mOk T) {a q b : Int32} : nMi l D dA ad on yX10_ballot cX10_ballot 5 (some .int) (nrm 9) [.ref (ad 3 30 0), .int a, .int q, .int b] (wdo X 3 M) (fun r X' => ∃ (U : NSt) (n9 : Nat), (mOff T U ∧ ((mIn a 0 (T 30 0 5 - 1) && mIn q 0 999 && !decide (T 30 0 27 = 0)) = true → mSrt T a U n9 (mnp T))) ∧ r = (mG (mIn a 0 (T 30 0 5 - 1)) 1 T (0 : Int32) (mG (mIn q 0 999) 2 T (0 : Int32) (mG (!decide (T 30 0 27 = 0)) 3 T (0 : Int32) (mG (mIn b 0 (nI n9 - 1)) 4 U (0 : Int32) ((U 59 0 (nix (irm (irm q (nI n9) + b) (nI n9))), U)))))).1 ∧ X' = wdo X 3 (mG (mIn a 0 (T 30 0 5 - 1)) 1 T (0 : Int32) (mG (mIn q 0 999) 2 T (0 : Int32) (mG (!decide (T 30 0 27 = 0)) 3 T (0 : Int32) (mG (mIn b 0 (nI n9 - 1)) 4 U (0 : Int32) ((U 59 0 (nix (irm (irm q (nI n9) + b) (nI n9))), U)))))).2) := by
  refine nM_of hI (by decide +kernel) (Nat.le_of_ble_eq_true rfl) ?_
  intro p e s m args below meth cd ls hc hr _ hP hl hS
  have hx := hc.1
  have hb := hc.2.1
  have hl : lv_has ls 5 [(0, .ref (ad 3 30 0)), (1, .int a), (2, .int q), (3, .int b)] := hl
  refine lv_aload_n hx hb dX10_ballot_0 rfl (lv_at hl 0 rfl) ?_
  refine lv_iconst (v := 0) hx hb dX10_ballot_1 (by decide) ?_
  refine p10_85 hc hP hS (nv_m hon3 (by decide) Nat.zero_lt_one) dX10_ballot_2 (fun H locs hP hS => ?_)
  rw [hT] at hP
  refine lv_aload_n hx hb dX10_ballot_5 rfl (lv_at hl 0 rfl) ?_
  refine lv_iload_n hx hb dX10_ballot_6 rfl (lv_at hl 1 rfl) ?_
  refine nc_Vi (c_X10_isArea hI hon3 ) hc hP hS hl.1 gd10_125 (nrecv (q := (RX10, TX10, 31)) hc (npic_eta hP) (nv_m hon3 (by decide) Nat.zero_lt_one) rfl rfl) ⟨rfl, rfl⟩ nok_X10_isArea rfl ⟨Nat.le_of_ble_eq_true rfl, Nat.le_of_ble_eq_true rfl⟩ ⟨Nat.le_of_ble_eq_true rfl, Nat.le_of_ble_eq_true rfl⟩ dX10_ballot_7 rfl (Nat.le_of_ble_eq_true rfl) (fun r X1 H locs hp hP hS => ?_)
  obtain ⟨hr9, hX9⟩ := hp
  rw [hX9] at hP
  subst hr9
  refine lv_if_ne (tgt := 19) hx hb dX10_ballot_10 (by decide) (fun c_10 => ?_) (fun c_10 => ?_)
  · refine lv_iload_n hx hb dX10_ballot_19 rfl (lv_at hl 2 rfl) ?_
    refine lv_iconst (v := 0) hx hb dX10_ballot_20 (by decide) ?_
    refine lv_sipush (v := 999) hx hb dX10_ballot_21 (by decide) ?_
    refine nc_Si (c_X10_isIn hI) hc hP hS hl.1 gd10_91 ⟨rfl, rfl⟩ nok_X10_isIn rfl ⟨Nat.le_of_ble_eq_true rfl, Nat.le_of_ble_eq_true rfl⟩ ⟨Nat.le_of_ble_eq_true rfl, Nat.le_of_ble_eq_true rfl⟩ dX10_ballot_24 rfl (Nat.le_of_ble_eq_true rfl) (fun r X1 H locs hp hP hS => ?_)
    obtain ⟨hr9, hX9⟩ := hp
    rw [hX9] at hP
    subst hr9
    refine lv_if_ne (tgt := 36) hx hb dX10_ballot_27 (by decide) (fun c_27 => ?_) (fun c_27 => ?_)
    · refine lv_aload_n hx hb dX10_ballot_36 rfl (lv_at hl 0 rfl) ?_
      refine g10_186 hc hP (nv_m hon3 (by decide) Nat.zero_lt_one) dX10_ballot_37 ?_
      refine lv_if_ne (tgt := 49) hx hb dX10_ballot_40 (by decide) (fun c_40 => ?_) (fun c_40 => ?_)
      · refine lv_aload_n hx hb dX10_ballot_49 rfl (lv_at hl 0 rfl) ?_
        refine lv_iload_n hx hb dX10_ballot_50 rfl (lv_at hl 1 rfl) ?_
        refine nc_Vi (c_X10_laid hI hon3 hok) hc hP hS hl.1 gd10_198 (nrecv (q := (RX10, TX10, 31)) hc (npic_eta hP) (nv_m hon3 (by decide) Nat.zero_lt_one) rfl rfl) ⟨rfl, rfl⟩ nok_X10_laid rfl ⟨Nat.le_of_ble_eq_true rfl, Nat.le_of_ble_eq_true rfl⟩ ⟨Nat.le_of_ble_eq_true rfl, Nat.le_of_ble_eq_true rfl⟩ dX10_ballot_51 rfl (Nat.le_of_ble_eq_true rfl) (fun r X1 H locs hp hP hS => ?_)
        obtain ⟨U, n9, ⟨hU, hs⟩, hr9, hX9⟩ := hp
        rw [hX9] at hP
        subst hr9
        have hn12 : n9 ≤ 12 := Nat.le_trans hs.2.2.2 hok.np12
        refine lv_istore (lv' := [(4, .int _), (0, .ref _), (1, .int _), (2, .int _), (3, .int _)]) hx hb dX10_ballot_54 hl (by decide) rfl (fun ls hl => ?_)
        refine lv_iload_n hx hb dX10_ballot_56 rfl (lv_at hl 4 rfl) ?_
        refine lv_iconst (v := 0) hx hb dX10_ballot_57 (by decide) ?_
        refine lv_iload hx hb dX10_ballot_58 (lv_at hl 0 rfl) ?_
        refine lv_iconst (v := 1) hx hb dX10_ballot_60 (by decide) ?_
        refine lv_isub hx hb dX10_ballot_61 ?_
        refine nc_Si (c_X10_isIn hI) hc hP hS hl.1 gd10_91 ⟨rfl, rfl⟩ nok_X10_isIn rfl ⟨Nat.le_of_ble_eq_true rfl, Nat.le_of_ble_eq_true rfl⟩ ⟨Nat.le_of_ble_eq_true rfl, Nat.le_of_ble_eq_true rfl⟩ dX10_ballot_62 rfl (Nat.le_of_ble_eq_true rfl) (fun r X1 H locs hp hP hS => ?_)
        obtain ⟨hr9, hX9⟩ := hp
        rw [hX9] at hP
        subst hr9
        refine lv_if_eq (tgt := 85) hx hb dX10_ballot_65 (by decide) (fun c_65 => ?_) (fun c_65 => ?_)
        · refine lv_aload_n hx hb dX10_ballot_85 rfl (lv_at hl 1 rfl) ?_
          refine lv_iconst (v := 4) hx hb dX10_ballot_86 (by decide) ?_
          refine nc_Vi (c_X10_fails hI hon3) hc hP hS hl.1 gd10_104 (nrecv (q := (RX10, TX10, 31)) hc (npic_eta hP) (nv_m hon3 (by decide) Nat.zero_lt_one) rfl rfl) ⟨rfl, rfl⟩ nok_X10_fails rfl ⟨Nat.le_of_ble_eq_true rfl, Nat.le_of_ble_eq_true rfl⟩ ⟨Nat.le_of_ble_eq_true rfl, Nat.le_of_ble_eq_true rfl⟩ dX10_ballot_87 rfl (Nat.le_of_ble_eq_true rfl) (fun r X1 H locs hp hP hS => ?_)
          obtain ⟨hr9, hX9⟩ := hp
          rw [hX9] at hP
          subst hr9
          exact ne_i hc hP hS hr dX10_ballot_90 ⟨_, n9, ⟨hU, fun _ => hs⟩, (mR_of ((mG_t (by clear hP hS hl hc hx hb hr hT; simp_all [-Int32.not_le, -Int32.not_lt, i32_lt, nb_t, nb_f, nb_z, nb_o])).trans ((mG_t (by clear hP hS hl hc hx hb hr hT; simp_all [-Int32.not_le, -Int32.not_lt, i32_lt, nb_t, nb_f, nb_z, nb_o])).trans ((mG_t (by clear hP hS hl hc hx hb hr hT; simp_all [-Int32.not_le, -Int32.not_lt, i32_lt, nb_t, nb_f, nb_z, nb_o])).trans (mG_f (by clear hP hS hl hc hx hb hr hT; simp_all [-Int32.not_le, -Int32.not_lt, i32_lt, nb_t, nb_f, nb_z, nb_o]))))))⟩
        · have hb9 : vp_in b n9 := mvp0 (nb_nz.mp c_65) rfl (by omega)
          have hnp : 0 < n9 := Nat.lt_of_le_of_lt (Nat.zero_le _) (vp_lt hb9)
          have hn0 : ¬ nI n9 = 0 := nI_ne0 hnp (by omega)
          have hq0 : vp_in q 1000 := vp25 (n := 999) (nb_nz.mp c_27)
          have hrv : vp_in (irm (irm q (nI n9) + b) (nI n9)) 12 := vp_mono (bal_in hq0 hb9 hn12) hn12
          refine lv_aload_n hx hb dX10_ballot_68 rfl (lv_at hl 1 rfl) ?_
          refine g10_79 hc hP (nv_m hon3 (by decide) Nat.zero_lt_one) dX10_ballot_69 ?_
          refine lv_iload_n hx hb dX10_ballot_72 rfl (lv_at hl 3 rfl) ?_
          refine lv_iload hx hb dX10_ballot_73 (lv_at hl 0 rfl) ?_
          refine lv_irem hx hb dX10_ballot_75 hn0 ?_
          refine lv_iload_n hx hb dX10_ballot_76 rfl (lv_at hl 4 rfl) ?_
          refine lv_iadd hx hb dX10_ballot_77 ?_
          refine lv_iload hx hb dX10_ballot_78 (lv_at hl 0 rfl) ?_
          refine lv_irem hx hb dX10_ballot_80 hn0 ?_
          refine la_59 hc hP (nv_m hon3 (by decide) Nat.zero_lt_one) hrv dX10_ballot_81 ?_
          refine lv_goto (tgt := 90) hx hb dX10_ballot_82 (by decide) ?_
          exact ne_i hc hP hS hr dX10_ballot_90 ⟨_, n9, ⟨hU, fun _ => hs⟩, (mR_of ((mG_t (by clear hP hS hl hc hx hb hr hT; simp_all [-Int32.not_le, -Int32.not_lt, i32_lt, nb_t, nb_f, nb_z, nb_o])).trans ((mG_t (by clear hP hS hl hc hx hb hr hT; simp_all [-Int32.not_le, -Int32.not_lt, i32_lt, nb_t, nb_f, nb_z, nb_o])).trans ((mG_t (by clear hP hS hl hc hx hb hr hT; simp_all [-Int32.not_le, -Int32.not_lt, i32_lt, nb_t, nb_f, nb_z, nb_o])).trans ((mG_t (by clear hP hS hl hc hx hb hr hT; simp_all [-Int32.not_le, -Int32.not_lt, i32_lt, nb_t, nb_f, nb_z, nb_o])).trans (rfl))))))⟩
      · refine lv_aload_n hx hb dX10_ballot_43 rfl (lv_at hl 0 rfl) ?_
        refine lv_iconst (v := 3) hx hb dX10_ballot_44 (by decide) ?_
        refine nc_Vi (c_X10_fails hI hon3) hc hP hS hl.1 gd10_104 (nrecv (q := (RX10, TX10, 31)) hc (npic_eta hP) (nv_m hon3 (by decide) Nat.zero_lt_one) rfl rfl) ⟨rfl, rfl⟩ nok_X10_fails rfl ⟨Nat.le_of_ble_eq_true rfl, Nat.le_of_ble_eq_true rfl⟩ ⟨Nat.le_of_ble_eq_true rfl, Nat.le_of_ble_eq_true rfl⟩ dX10_ballot_45 rfl (Nat.le_of_ble_eq_true rfl) (fun r X1 H locs hp hP hS => ?_)
        obtain ⟨hr9, hX9⟩ := hp
        rw [hX9] at hP
        subst hr9
        exact ne_i hc hP hS hr dX10_ballot_48 ⟨_, 0, ⟨mOff.rf, fun h => absurd h (by clear hP hS hl hc hx hb hr hT; simp_all [-Int32.not_le, -Int32.not_lt, i32_lt, nb_t, nb_f, nb_z, nb_o])⟩, (mR_of ((mG_t (by clear hP hS hl hc hx hb hr hT; simp_all [-Int32.not_le, -Int32.not_lt, i32_lt, nb_t, nb_f, nb_z, nb_o])).trans ((mG_t (by clear hP hS hl hc hx hb hr hT; simp_all [-Int32.not_le, -Int32.not_lt, i32_lt, nb_t, nb_f, nb_z, nb_o])).trans (mG_f (by clear hP hS hl hc hx hb hr hT; simp_all [-Int32.not_le, -Int32.not_lt, i32_lt, nb_t, nb_f, nb_z, nb_o])))))⟩
    · refine lv_aload_n hx hb dX10_ballot_30 rfl (lv_at hl 0 rfl) ?_
      refine lv_iconst (v := 2) hx hb dX10_ballot_31 (by decide) ?_
      refine nc_Vi (c_X10_fails hI hon3) hc hP hS hl.1 gd10_104 (nrecv (q := (RX10, TX10, 31)) hc (npic_eta hP) (nv_m hon3 (by decide) Nat.zero_lt_one) rfl rfl) ⟨rfl, rfl⟩ nok_X10_fails rfl ⟨Nat.le_of_ble_eq_true rfl, Nat.le_of_ble_eq_true rfl⟩ ⟨Nat.le_of_ble_eq_true rfl, Nat.le_of_ble_eq_true rfl⟩ dX10_ballot_32 rfl (Nat.le_of_ble_eq_true rfl) (fun r X1 H locs hp hP hS => ?_)
      obtain ⟨hr9, hX9⟩ := hp
      rw [hX9] at hP
      subst hr9
      exact ne_i hc hP hS hr dX10_ballot_35 ⟨_, 0, ⟨mOff.rf, fun h => absurd h (by clear hP hS hl hc hx hb hr hT; simp_all [-Int32.not_le, -Int32.not_lt, i32_lt, nb_t, nb_f, nb_z, nb_o])⟩, (mR_of ((mG_t (by clear hP hS hl hc hx hb hr hT; simp_all [-Int32.not_le, -Int32.not_lt, i32_lt, nb_t, nb_f, nb_z, nb_o])).trans (mG_f (by clear hP hS hl hc hx hb hr hT; simp_all [-Int32.not_le, -Int32.not_lt, i32_lt, nb_t, nb_f, nb_z, nb_o]))))⟩
  · refine lv_aload_n hx hb dX10_ballot_13 rfl (lv_at hl 0 rfl) ?_
    refine lv_iconst (v := 1) hx hb dX10_ballot_14 (by decide) ?_
    refine nc_Vi (c_X10_fails hI hon3) hc hP hS hl.1 gd10_104 (nrecv (q := (RX10, TX10, 31)) hc (npic_eta hP) (nv_m hon3 (by decide) Nat.zero_lt_one) rfl rfl) ⟨rfl, rfl⟩ nok_X10_fails rfl ⟨Nat.le_of_ble_eq_true rfl, Nat.le_of_ble_eq_true rfl⟩ ⟨Nat.le_of_ble_eq_true rfl, Nat.le_of_ble_eq_true rfl⟩ dX10_ballot_15 rfl (Nat.le_of_ble_eq_true rfl) (fun r X1 H locs hp hP hS => ?_)
    obtain ⟨hr9, hX9⟩ := hp
    rw [hX9] at hP
    subst hr9
    exact ne_i hc hP hS hr dX10_ballot_18 ⟨_, 0, ⟨mOff.rf, fun h => absurd h (by clear hP hS hl hc hx hb hr hT; simp_all [-Int32.not_le, -Int32.not_lt, i32_lt, nb_t, nb_f, nb_z, nb_o])⟩, (mR_of (mG_f (by clear hP hS hl hc hx hb hr hT; simp_all [-Int32.not_le, -Int32.not_lt, i32_lt, nb_t, nb_f, nb_z, nb_o])))⟩
set_option maxHeartbeats 4000000 in
set_option maxRecDepth 100000 in
theorem c_X10_placeOnBallot (hI : ninj ad on) (hon3 : on 3) (hT : nput M 30 0 0 0 = T) (hok : mOk T) {x q : Int32} : nMi l D dA ad on yX10_placeOnBallot cX10_placeOnBallot 5 (some .int) (nrm 9) [.ref (ad 3 30 0), .int x, .int q] (wdo X 3 M) (fun r X' => ∃ (U : NSt) (n9 i9 : Nat), (mOff T U ∧ (((mIn x 0 (T 30 0 12 - 1)) && (mIn q 0 999) && (!decide (T 30 0 27 = 0) && decide (mWhy T x = 0))) = true → mSrt T (T 43 0 (nix x)) U n9 (mnp T) ∧ i9 < n9 ∧ U 59 0 i9 = x)) ∧ r = (mG (mIn x 0 (T 30 0 12 - 1)) 1 T (0 : Int32) (mG (mIn q 0 999) 2 T (0 : Int32) (mG (!decide (T 30 0 27 = 0) && decide (mWhy T x = 0)) 3 U (0 : Int32) ((irm (nI i9 + nI n9 - irm q (nI n9)) (nI n9), U))))).1 ∧ X' = wdo X 3 (mG (mIn x 0 (T 30 0 12 - 1)) 1 T (0 : Int32) (mG (mIn q 0 999) 2 T (0 : Int32) (mG (!decide (T 30 0 27 = 0) && decide (mWhy T x = 0)) 3 U (0 : Int32) ((irm (nI i9 + nI n9 - irm q (nI n9)) (nI n9), U))))).2) := by
  refine nM_of hI (by decide +kernel) (Nat.le_of_ble_eq_true rfl) ?_
  intro p e s m args below meth cd ls hc hr _ hP hl hS
  have hx := hc.1
  have hb := hc.2.1
  have hl : lv_has ls 5 [(0, .ref (ad 3 30 0)), (1, .int x), (2, .int q)] := hl
  refine lv_aload_n hx hb dX10_placeOnBallot_0 rfl (lv_at hl 0 rfl) ?_
  refine lv_iconst (v := 0) hx hb dX10_placeOnBallot_1 (by decide) ?_
  refine p10_85 hc hP hS (nv_m hon3 (by decide) Nat.zero_lt_one) dX10_placeOnBallot_2 (fun H locs hP hS => ?_)
  rw [hT] at hP
  refine lv_aload_n hx hb dX10_placeOnBallot_5 rfl (lv_at hl 0 rfl) ?_
  refine lv_iload_n hx hb dX10_placeOnBallot_6 rfl (lv_at hl 1 rfl) ?_
  refine nc_Vi (c_X10_isPaper hI hon3 ) hc hP hS hl.1 gd10_152 (nrecv (q := (RX10, TX10, 31)) hc (npic_eta hP) (nv_m hon3 (by decide) Nat.zero_lt_one) rfl rfl) ⟨rfl, rfl⟩ nok_X10_isPaper rfl ⟨Nat.le_of_ble_eq_true rfl, Nat.le_of_ble_eq_true rfl⟩ ⟨Nat.le_of_ble_eq_true rfl, Nat.le_of_ble_eq_true rfl⟩ dX10_placeOnBallot_7 rfl (Nat.le_of_ble_eq_true rfl) (fun r X1 H locs hp hP hS => ?_)
  obtain ⟨hr9, hX9⟩ := hp
  rw [hX9] at hP
  subst hr9
  refine lv_if_ne (tgt := 19) hx hb dX10_placeOnBallot_10 (by decide) (fun c_10 => ?_) (fun c_10 => ?_)
  · refine lv_iload_n hx hb dX10_placeOnBallot_19 rfl (lv_at hl 2 rfl) ?_
    refine lv_iconst (v := 0) hx hb dX10_placeOnBallot_20 (by decide) ?_
    refine lv_sipush (v := 999) hx hb dX10_placeOnBallot_21 (by decide) ?_
    refine nc_Si (c_X10_isIn hI) hc hP hS hl.1 gd10_91 ⟨rfl, rfl⟩ nok_X10_isIn rfl ⟨Nat.le_of_ble_eq_true rfl, Nat.le_of_ble_eq_true rfl⟩ ⟨Nat.le_of_ble_eq_true rfl, Nat.le_of_ble_eq_true rfl⟩ dX10_placeOnBallot_24 rfl (Nat.le_of_ble_eq_true rfl) (fun r X1 H locs hp hP hS => ?_)
    obtain ⟨hr9, hX9⟩ := hp
    rw [hX9] at hP
    subst hr9
    refine lv_if_ne (tgt := 36) hx hb dX10_placeOnBallot_27 (by decide) (fun c_27 => ?_) (fun c_27 => ?_)
    · refine lv_aload_n hx hb dX10_placeOnBallot_36 rfl (lv_at hl 0 rfl) ?_
      refine g10_186 hc hP (nv_m hon3 (by decide) Nat.zero_lt_one) dX10_placeOnBallot_37 ?_
      refine lv_if_eq (tgt := 51) hx hb dX10_placeOnBallot_40 (by decide) (fun c_40 => ?_) (fun c_40 => ?_)
      · refine lv_aload_n hx hb dX10_placeOnBallot_51 rfl (lv_at hl 0 rfl) ?_
        refine lv_iconst (v := 3) hx hb dX10_placeOnBallot_52 (by decide) ?_
        refine nc_Vi (c_X10_fails hI hon3) hc hP hS hl.1 gd10_104 (nrecv (q := (RX10, TX10, 31)) hc (npic_eta hP) (nv_m hon3 (by decide) Nat.zero_lt_one) rfl rfl) ⟨rfl, rfl⟩ nok_X10_fails rfl ⟨Nat.le_of_ble_eq_true rfl, Nat.le_of_ble_eq_true rfl⟩ ⟨Nat.le_of_ble_eq_true rfl, Nat.le_of_ble_eq_true rfl⟩ dX10_placeOnBallot_53 rfl (Nat.le_of_ble_eq_true rfl) (fun r X1 H locs hp hP hS => ?_)
        obtain ⟨hr9, hX9⟩ := hp
        rw [hX9] at hP
        subst hr9
        exact ne_i hc hP hS hr dX10_placeOnBallot_56 ⟨_, 0, 0, ⟨mOff.rf, fun h => absurd h (by clear hP hS hl hc hx hb hr hT; simp_all [-Int32.not_le, -Int32.not_lt, i32_lt, nb_t, nb_f, nb_z, nb_o])⟩, (mR_of ((mG_t (by clear hP hS hl hc hx hb hr hT; simp_all [-Int32.not_le, -Int32.not_lt, i32_lt, nb_t, nb_f, nb_z, nb_o])).trans ((mG_t (by clear hP hS hl hc hx hb hr hT; simp_all [-Int32.not_le, -Int32.not_lt, i32_lt, nb_t, nb_f, nb_z, nb_o])).trans (mG_f (by clear hP hS hl hc hx hb hr hT; simp_all [-Int32.not_le, -Int32.not_lt, i32_lt, nb_t, nb_f, nb_z, nb_o])))))⟩
      · refine lv_aload_n hx hb dX10_placeOnBallot_43 rfl (lv_at hl 0 rfl) ?_
        refine lv_iload_n hx hb dX10_placeOnBallot_44 rfl (lv_at hl 1 rfl) ?_
        refine nc_Vi (c_X10_reasonOf hI hon3 hok ((mvp0 (nb_nz.mp c_10) hok.np hok.npL))) hc hP hS hl.1 gd10_180 (nrecv (q := (RX10, TX10, 31)) hc (npic_eta hP) (nv_m hon3 (by decide) Nat.zero_lt_one) rfl rfl) ⟨rfl, rfl⟩ nok_X10_reasonOf rfl ⟨Nat.le_of_ble_eq_true rfl, Nat.le_of_ble_eq_true rfl⟩ ⟨Nat.le_of_ble_eq_true rfl, Nat.le_of_ble_eq_true rfl⟩ dX10_placeOnBallot_45 rfl (Nat.le_of_ble_eq_true rfl) (fun r X1 H locs hp hP hS => ?_)
        obtain ⟨U45, hO45, hr9, hX9⟩ := hp
        have hU45 := hO45.off
        rw [hX9] at hP
        subst hr9
        have hK45 : ∀ k, k ≠ 59 → k ≠ 60 → U45 k = T k := hU45
        refine lv_if_eq (tgt := 57) hx hb dX10_placeOnBallot_48 (by decide) (fun c_48 => ?_) (fun c_48 => ?_)
        · refine lv_aload_n hx hb dX10_placeOnBallot_57 rfl (lv_at hl 0 rfl) ?_
          refine lv_aload_n hx hb dX10_placeOnBallot_58 rfl (lv_at hl 0 rfl) ?_
          refine g10_36 hc hP (nv_m hon3 (by decide) Nat.zero_lt_one) dX10_placeOnBallot_59 ?_
          refine lv_iload_n hx hb dX10_placeOnBallot_62 rfl (lv_at hl 1 rfl) ?_
          refine la_43 hc hP (nv_m hon3 (by decide) Nat.zero_lt_one) (mvp (nb_nz.mp c_10) hok.np hok.np12 (by decide)) dX10_placeOnBallot_63 ?_
          refine nc_Vi (c_X10_laid hI hon3 (hU45.ok hok)) hc hP hS hl.1 gd10_198 (nrecv (q := (RX10, TX10, 31)) hc (npic_eta hP) (nv_m hon3 (by decide) Nat.zero_lt_one) rfl rfl) ⟨rfl, rfl⟩ nok_X10_laid rfl ⟨Nat.le_of_ble_eq_true rfl, Nat.le_of_ble_eq_true rfl⟩ ⟨Nat.le_of_ble_eq_true rfl, Nat.le_of_ble_eq_true rfl⟩ dX10_placeOnBallot_64 rfl (Nat.le_of_ble_eq_true rfl) (fun r X1 H locs hp hP hS => ?_)
          obtain ⟨U, n9, ⟨hV, hs9⟩, hr9, hX9⟩ := hp
          rw [hX9] at hP
          subst hr9
          have hU : mOff T U := hU45.tr hV
          have hs : mSrt T (T 43 0 (nix x)) U n9 (mnp T) := mSrt_of hU45 (by rw [hU45.enp] at hs9; exact hs9) hok.np12
          have hn12 : n9 ≤ 12 := Nat.le_trans hs.2.2.2 hok.np12
          have hst : mStd T (T 43 0 (nix x)) (nix x) = true := mStd_x (mvp (nb_nz.mp c_10) hok.np hok.np12 (by decide)) (by clear hP hS hl hc hx hb hr hT; simp_all [-Int32.not_le, -Int32.not_lt, i32_lt, nb_t, nb_f, nb_z, nb_o])
          obtain ⟨i9, hi9, hx9, hmin⟩ := mSrt_find hs (mvp0 (nb_nz.mp c_10) hok.np hok.npL) hst hok.np12
          have hn0 : ¬ nI n9 = 0 := nI_ne0 (by omega) (by omega)
          have hg : (mIn x 0 (T 30 0 12 - 1)) = true ∧ (mIn q 0 999) = true ∧ (!decide (T 30 0 27 = 0) && decide (mWhy T x = 0)) = true := by clear hP hS hl hc hx hb hr hT; simp_all [-Int32.not_le, -Int32.not_lt, i32_lt, nb_t, nb_f, nb_z, nb_o]
          refine lv_istore_n (lv' := [(3, .int _), (0, .ref _), (1, .int _), (2, .int _)]) hx hb dX10_placeOnBallot_67 rfl hl (by decide) rfl (fun ls hl => ?_)
          refine lv_iconst (v := nI 0) hx hb dX10_placeOnBallot_68 (by decide) ?_
          refine lv_istore (lv' := [(4, .int _), (3, .int _), (0, .ref _), (1, .int _), (2, .int _)]) hx hb dX10_placeOnBallot_69 hl (by decide) rfl (fun ls hl => ?_)
          have lp71 : ∀ (r j : Nat), j + r = i9 → ∀ (H : Heap) (locs : List Loc) (ls : Array Slot), npic D dA ad on (wdo X 3 U) H → va_S (nA ad on) s.heap H locs → lv_has ls 5 [(4, .int (nI j)), (3, .int (nI n9)), (2, .int q), (1, .int x), (0, .ref (ad 3 30 0))] → W p l e (nrm 9) s m args below meth cd H locs 0 0 (MQ below (va_Qi (fun r X' => ∃ (U : NSt) (n9 i9 : Nat), (mOff T U ∧ (((mIn x 0 (T 30 0 12 - 1)) && (mIn q 0 999) && (!decide (T 30 0 27 = 0) && decide (mWhy T x = 0))) = true → mSrt T (T 43 0 (nix x)) U n9 (mnp T) ∧ i9 < n9 ∧ U 59 0 i9 = x)) ∧ r = (mG (mIn x 0 (T 30 0 12 - 1)) 1 T (0 : Int32) (mG (mIn q 0 999) 2 T (0 : Int32) (mG (!decide (T 30 0 27 = 0) && decide (mWhy T x = 0)) 3 U (0 : Int32) ((irm (nI i9 + nI n9 - irm q (nI n9)) (nI n9), U))))).1 ∧ X' = wdo X 3 (mG (mIn x 0 (T 30 0 12 - 1)) 1 T (0 : Int32) (mG (mIn q 0 999) 2 T (0 : Int32) (mG (!decide (T 30 0 27 = 0) && decide (mWhy T x = 0)) 3 U (0 : Int32) ((irm (nI i9 + nI n9 - irm q (nI n9)) (nI n9), U))))).2) (fun X' t => npic D dA ad on X' t.heap) (nA ad on)) args s 0 0 (nA ad on)) (F0 m 71 ls []) := by
            intro r
            induction r with
            | zero =>
              intro j hj H locs ls hP hS hl
              have hjn : j = i9 := by omega
              have ej : nix (nI j) = j := nI_clamp (by omega)
              have hjv : vp_in (nI j) 12 := vp_in_nI (by omega) (by decide)
              refine lv_aload_n hx hb dX10_placeOnBallot_71 rfl (lv_at hl 4 rfl) ?_
              refine g10_79 hc hP (nv_m hon3 (by decide) Nat.zero_lt_one) dX10_placeOnBallot_72 ?_
              refine lv_iload hx hb dX10_placeOnBallot_75 (lv_at hl 0 rfl) ?_
              refine la_59 hc hP (nv_m hon3 (by decide) Nat.zero_lt_one) hjv dX10_placeOnBallot_77 ?_
              refine lv_iload_n hx hb dX10_placeOnBallot_78 rfl (lv_at hl 3 rfl) ?_
              refine lv_icmp_eq (tgt := 88) hx hb dX10_placeOnBallot_79 (by decide) (fun c_79 => ?_) (fun c_79 => absurd (by rw [ej, hjn]; exact hx9) c_79)
              refine lv_iload hx hb dX10_placeOnBallot_88 (lv_at hl 0 rfl) ?_
              refine lv_iload_n hx hb dX10_placeOnBallot_90 rfl (lv_at hl 1 rfl) ?_
              refine lv_iadd hx hb dX10_placeOnBallot_91 ?_
              refine lv_iload_n hx hb dX10_placeOnBallot_92 rfl (lv_at hl 2 rfl) ?_
              refine lv_iload_n hx hb dX10_placeOnBallot_93 rfl (lv_at hl 1 rfl) ?_
              refine lv_irem hx hb dX10_placeOnBallot_94 hn0 ?_
              refine lv_isub hx hb dX10_placeOnBallot_95 ?_
              refine lv_iload_n hx hb dX10_placeOnBallot_96 rfl (lv_at hl 1 rfl) ?_
              refine lv_irem hx hb dX10_placeOnBallot_97 hn0 ?_
              exact ne_i hc hP hS hr dX10_placeOnBallot_98 ⟨U, n9, i9, ⟨hU, fun _ => ⟨hs, hi9, hx9⟩⟩, (mR_of ((mG_t (by clear hP hS hl hc hx hb hr hT; simp_all [-Int32.not_le, -Int32.not_lt, i32_lt, nb_t, nb_f, nb_z, nb_o])).trans ((mG_t (by clear hP hS hl hc hx hb hr hT; simp_all [-Int32.not_le, -Int32.not_lt, i32_lt, nb_t, nb_f, nb_z, nb_o])).trans ((mG_t (by clear hP hS hl hc hx hb hr hT; simp_all [-Int32.not_le, -Int32.not_lt, i32_lt, nb_t, nb_f, nb_z, nb_o])).trans ((by rw [hjn]; rfl))))))⟩
            | succ r ih =>
              intro j hj H locs ls hP hS hl
              have ej : nix (nI j) = j := nI_clamp (by omega)
              have hjv : vp_in (nI j) 12 := vp_in_nI (by omega) (by decide)
              refine lv_aload_n hx hb dX10_placeOnBallot_71 rfl (lv_at hl 4 rfl) ?_
              refine g10_79 hc hP (nv_m hon3 (by decide) Nat.zero_lt_one) dX10_placeOnBallot_72 ?_
              refine lv_iload hx hb dX10_placeOnBallot_75 (lv_at hl 0 rfl) ?_
              refine la_59 hc hP (nv_m hon3 (by decide) Nat.zero_lt_one) hjv dX10_placeOnBallot_77 ?_
              refine lv_iload_n hx hb dX10_placeOnBallot_78 rfl (lv_at hl 3 rfl) ?_
              refine lv_icmp_eq (tgt := 88) hx hb dX10_placeOnBallot_79 (by decide) (fun c_79 => absurd c_79 (by rw [ej]; exact hmin j (by omega))) (fun c_79 => ?_)
              refine lv_iinc (v := nI (j + 1)) (lv' := [(4, .int _), (3, .int _), (2, .int _), (1, .int _), (0, .ref _)]) hx hb dX10_placeOnBallot_82 hl (k := 0) rfl (nI_inc j) (by decide) rfl (fun ls hl => ?_)
              refine lv_goto (tgt := 71) hx hb dX10_placeOnBallot_85 (by decide) ?_
              exact ih (j + 1) (by omega) _ _ _ hP hS (lv_sub hl [0, 1, 2, 3, 4] rfl)
          exact lp71 i9 0 (Nat.zero_add _) _ _ _ hP hS (lv_sub hl [0, 1, 4, 3, 2] rfl)
        · refine lv_aload_n hx hb dX10_placeOnBallot_51 rfl (lv_at hl 0 rfl) ?_
          refine lv_iconst (v := 3) hx hb dX10_placeOnBallot_52 (by decide) ?_
          refine nc_Vi (c_X10_fails hI hon3) hc hP hS hl.1 gd10_104 (nrecv (q := (RX10, TX10, 31)) hc (npic_eta hP) (nv_m hon3 (by decide) Nat.zero_lt_one) rfl rfl) ⟨rfl, rfl⟩ nok_X10_fails rfl ⟨Nat.le_of_ble_eq_true rfl, Nat.le_of_ble_eq_true rfl⟩ ⟨Nat.le_of_ble_eq_true rfl, Nat.le_of_ble_eq_true rfl⟩ dX10_placeOnBallot_53 rfl (Nat.le_of_ble_eq_true rfl) (fun r X1 H locs hp hP hS => ?_)
          obtain ⟨hr9, hX9⟩ := hp
          rw [hX9] at hP
          subst hr9
          exact ne_i hc hP hS hr dX10_placeOnBallot_56 ⟨_, 0, 0, ⟨hU45, fun h => absurd h (by clear hP hS hl hc hx hb hr hT; simp_all [-Int32.not_le, -Int32.not_lt, i32_lt, nb_t, nb_f, nb_z, nb_o])⟩, (mR_of ((mG_t (by clear hP hS hl hc hx hb hr hT; simp_all [-Int32.not_le, -Int32.not_lt, i32_lt, nb_t, nb_f, nb_z, nb_o])).trans ((mG_t (by clear hP hS hl hc hx hb hr hT; simp_all [-Int32.not_le, -Int32.not_lt, i32_lt, nb_t, nb_f, nb_z, nb_o])).trans (mG_f (by clear hP hS hl hc hx hb hr hT; simp_all [-Int32.not_le, -Int32.not_lt, i32_lt, nb_t, nb_f, nb_z, nb_o])))))⟩
    · refine lv_aload_n hx hb dX10_placeOnBallot_30 rfl (lv_at hl 0 rfl) ?_
      refine lv_iconst (v := 2) hx hb dX10_placeOnBallot_31 (by decide) ?_
      refine nc_Vi (c_X10_fails hI hon3) hc hP hS hl.1 gd10_104 (nrecv (q := (RX10, TX10, 31)) hc (npic_eta hP) (nv_m hon3 (by decide) Nat.zero_lt_one) rfl rfl) ⟨rfl, rfl⟩ nok_X10_fails rfl ⟨Nat.le_of_ble_eq_true rfl, Nat.le_of_ble_eq_true rfl⟩ ⟨Nat.le_of_ble_eq_true rfl, Nat.le_of_ble_eq_true rfl⟩ dX10_placeOnBallot_32 rfl (Nat.le_of_ble_eq_true rfl) (fun r X1 H locs hp hP hS => ?_)
      obtain ⟨hr9, hX9⟩ := hp
      rw [hX9] at hP
      subst hr9
      exact ne_i hc hP hS hr dX10_placeOnBallot_35 ⟨_, 0, 0, ⟨mOff.rf, fun h => absurd h (by clear hP hS hl hc hx hb hr hT; simp_all [-Int32.not_le, -Int32.not_lt, i32_lt, nb_t, nb_f, nb_z, nb_o])⟩, (mR_of ((mG_t (by clear hP hS hl hc hx hb hr hT; simp_all [-Int32.not_le, -Int32.not_lt, i32_lt, nb_t, nb_f, nb_z, nb_o])).trans (mG_f (by clear hP hS hl hc hx hb hr hT; simp_all [-Int32.not_le, -Int32.not_lt, i32_lt, nb_t, nb_f, nb_z, nb_o]))))⟩
  · refine lv_aload_n hx hb dX10_placeOnBallot_13 rfl (lv_at hl 0 rfl) ?_
    refine lv_iconst (v := 1) hx hb dX10_placeOnBallot_14 (by decide) ?_
    refine nc_Vi (c_X10_fails hI hon3) hc hP hS hl.1 gd10_104 (nrecv (q := (RX10, TX10, 31)) hc (npic_eta hP) (nv_m hon3 (by decide) Nat.zero_lt_one) rfl rfl) ⟨rfl, rfl⟩ nok_X10_fails rfl ⟨Nat.le_of_ble_eq_true rfl, Nat.le_of_ble_eq_true rfl⟩ ⟨Nat.le_of_ble_eq_true rfl, Nat.le_of_ble_eq_true rfl⟩ dX10_placeOnBallot_15 rfl (Nat.le_of_ble_eq_true rfl) (fun r X1 H locs hp hP hS => ?_)
    obtain ⟨hr9, hX9⟩ := hp
    rw [hX9] at hP
    subst hr9
    exact ne_i hc hP hS hr dX10_placeOnBallot_18 ⟨_, 0, 0, ⟨mOff.rf, fun h => absurd h (by clear hP hS hl hc hx hb hr hT; simp_all [-Int32.not_le, -Int32.not_lt, i32_lt, nb_t, nb_f, nb_z, nb_o])⟩, (mR_of (mG_f (by clear hP hS hl hc hx hb hr hT; simp_all [-Int32.not_le, -Int32.not_lt, i32_lt, nb_t, nb_f, nb_z, nb_o])))⟩
end N21
