/-! the model: its loops -/
def nMd (l : Launch) (D : va_G) (dA : Nat → ClassId) (ad : Nat → Nat → Nat → Nat) (on : Nat → Prop) (y : MethodName) (cc : ByteArray) (maxL : Nat) (rm : Room) (av : List Value) (X : NWd) (P : UInt64 → NWd → Prop) : Prop :=
  Met l y (nws y cc maxL (some .double)) rm (va_Pc av (npre D dA ad on X)) (va_Qd P (fun X' t => npic D dA ad on X' t.heap) (nA ad on)) 0 0 (nA ad on)
def nMf (l : Launch) (D : va_G) (dA : Nat → ClassId) (ad : Nat → Nat → Nat → Nat) (on : Nat → Prop) (y : MethodName) (cc : ByteArray) (maxL : Nat) (rm : Room) (av : List Value) (X : NWd) (P : UInt32 → NWd → Prop) : Prop :=
  Met l y (nws y cc maxL (some .float)) rm (va_Pc av (npre D dA ad on X)) (va_Qf P (fun X' t => npic D dA ad on X' t.heap) (nA ad on)) 0 0 (nA ad on)
def ncmpL (x y : Int64) : Int32 := if y < x then 1 else if x = y then 0 else -1
/-- the same but for the model's two scratch arrays -/
def mOff (T U : NSt) : Prop := ∀ k, k ≠ 59 → k ≠ 60 → U k = T k
theorem mOff.rf {T : NSt} : mOff T T := fun _ _ _ => rfl
theorem mOff.tr {T U V : NSt} (h : mOff T U) (g : mOff U V) : mOff T V := fun k a b => (g k a b).trans (h k a b)
theorem mOff.put60 {T : NSt} {i j : Nat} {v : Int32} : mOff T (nput T 60 i j v) := by
  intro k _ b
  funext i' j'
  unfold nput
  rw [if_neg (fun z => b z.1)]
theorem mOff.put59 {T : NSt} {i j : Nat} {v : Int32} : mOff T (nput T 59 i j v) := by
  intro k a _
  funext i' j'
  unfold nput
  rw [if_neg (fun z => a z.1)]
theorem mOff.enp {T U : NSt} (h : mOff T U) : mnp U = mnp T := by unfold mnp; rw [h 30 (by decide) (by decide)]
theorem mOff.ens {T U : NSt} (h : mOff T U) : mns U = mns T := by unfold mns; rw [h 30 (by decide) (by decide)]
theorem mOff.env {T U : NSt} (h : mOff T U) : mnv U = mnv T := by unfold mnv; rw [h 30 (by decide) (by decide)]
theorem mOff.ena {T U : NSt} (h : mOff T U) : mna U = mna T := by unfold mna; rw [h 30 (by decide) (by decide)]
theorem mOk_of {T U : NSt} (h30 : U 30 0 12 = T 30 0 12 ∧ U 30 0 22 = T 30 0 22 ∧ U 30 0 9 = T 30 0 9 ∧ U 30 0 5 = T 30 0 5) (h43 : U 43 = T 43) (h53 : U 53 = T 53) (h54 : U 54 = T 54) (g : mOk T) : mOk U := by
  obtain ⟨a, b, c, d⟩ := h30
  unfold mOk mnp mns mnv mna at g ⊢
  rw [a, b, c, d, h43, h53, h54]
  exact g
theorem mOff.ok {T U : NSt} (h : mOff T U) (g : mOk T) : mOk U := mOk_of (by rw [h 30 (by decide) (by decide)]; exact ⟨rfl, rfl, rfl, rfl⟩) (h 43 (by decide) (by decide)) (h 53 (by decide) (by decide)) (h 54 (by decide) (by decide)) g
def mRoll (T : NSt) : Int32 := isum (fun k => if T 41 0 k = 0 then 1 else 0) (mnv T)
def mFree (T : NSt) (v : Int32) (n : Nat) (w : Int32) : Bool := !(ffind (fun k => decide (T 54 0 k = v) && !decide (T 55 0 k = 0) && !mGone T (T 53 0 k) w) n).isSome
def mOres (T : NSt) (k : Nat) (w : Int32) : Int32 := if T 55 0 k = 0 then 1 else if T 41 0 (nix (T 54 0 k)) = 0 then (if mGone T (T 53 0 k) w then 3 else if mFree T (T 54 0 k) k w then 0 else 4) else 2
def mRes (T : NSt) (k : Nat) : Int32 := if mOpen T then mOres T k 0 else T 56 0 k
def mcs (T : NSt) (x w : Int32) : Nat → Int32 × Int64
  | 0 => (0, 0)
  | n + 1 => if !decide (T 55 0 n = 0) && !mGone T (T 53 0 n) w then ((mcs T x w n).1 + (if decide (T 53 0 n = x) && decide (T 41 0 (nix (T 54 0 n)) = 0) && decide (ncmpL ((mcs T x w n).2 >>> ((T 54 0 n).toInt64 &&& 63) &&& 1) 0 = 0) then 1 else 0), (mcs T x w n).2 ||| 1 <<< ((T 54 0 n).toInt64 &&& 63)) else mcs T x w n
def mCnt (T : NSt) (x w : Int32) : Int32 := (mcs T x w (mns T)).1
def mCounted (T : NSt) (x : Int32) : Int32 := isum (fun k => if decide (T 53 0 k = x) && decide (mRes T k = 0) then 1 else 0) (mns T)
def mSup (T : NSt) (v : Int32) : Option Nat := ffind (fun k => decide (T 54 0 k = v) && decide (mRes T k = 0)) (mns T)
def mDbl (T : NSt) (x : Int32) : Bool := (ffind (fun q => decide (0 ≤ T 44 0 (nix x)) && decide (T 44 0 q = T 44 0 (nix x)) && decide (T 43 0 q = T 43 0 (nix x)) && decide (T 60 0 q = 0)) (nix x)).isSome
def mRs (U : NSt) (n : Nat) : Int32 := if 0 < U 46 0 n then 1 else if U 47 0 n < U 37 0 (nix (U 43 0 n)) then 2 else if mCnt U (nI n) 0 < U 36 0 (nix (U 43 0 n)) then 3 else if mDbl U (nI n) then 4 else 0
def mwh (T : NSt) : Nat → NSt
  | 0 => T
  | n + 1 => nput (mwh T n) 60 0 n (mRs (mwh T n) n)
theorem mwh_off (T : NSt) : ∀ n, mOff T (mwh T n)
  | 0 => mOff.rf
  | n + 1 => (mwh_off T n).tr mOff.put60
def mWhy0 (T : NSt) (x : Int32) : Int32 := if 0 < T 46 0 (nix x) then 1 else if mOpen T then mwh T (nix x + 1) 60 0 (nix x) else T 51 0 (nix x)
def mWhy (T : NSt) (x : Int32) : Int32 := if mWhy0 T x = 0 then (if T 48 0 (nix x) = 0 then 0 else 5) else mWhy0 T x
def mVotes (T : NSt) (a : Int32) : Int32 := isum (fun k => if T 43 0 k = a then T 50 0 k else 0) (mnp T)
def mFate (T : NSt) (x : Int32) : Int32 := if 0 < T 46 0 (nix x) then (if T 46 0 (nix x) = 1 then 1 else 2) else if mOpen T then 0 else if 0 < T 51 0 (nix x) then 1 else if T 48 0 (nix x) = 0 then (if T 38 0 (nix (T 43 0 (nix x))) = 0 then 0 else if 20 * T 50 0 (nix x) < mVotes T (T 43 0 (nix x)) then 2 else 1) else if mRepl T x then 0 else 1
def mSum (T : NSt) (q : Int32) : Int32 := isum (fun k => if mFate T (nI k) = q then T 47 0 k else 0) (mnp T)
theorem mcs_s (T : NSt) (x w : Int32) (n : Nat) : mcs T x w (n + 1) = if !decide (T 55 0 n = 0) && !mGone T (T 53 0 n) w then ((mcs T x w n).1 + (if decide (T 53 0 n = x) && decide (T 41 0 (nix (T 54 0 n)) = 0) && decide (ncmpL ((mcs T x w n).2 >>> ((T 54 0 n).toInt64 &&& 63) &&& 1) 0 = 0) then 1 else 0), (mcs T x w n).2 ||| 1 <<< ((T 54 0 n).toInt64 &&& 63)) else mcs T x w n := rfl
theorem mGone_off {T U : NSt} (h : mOff T U) (x w : Int32) : mGone U x w = mGone T x w := by unfold mGone; rw [h 46 (by decide) (by decide)]
theorem mOpen_off {T U : NSt} (h : mOff T U) : mOpen U = mOpen T := by unfold mOpen; rw [h 30 (by decide) (by decide)]
theorem mcs_off {T U : NSt} (h : mOff T U) (x w : Int32) : ∀ n, mcs U x w n = mcs T x w n
  | 0 => rfl
  | n + 1 => by rw [mcs_s, mcs_s, mcs_off h x w n, mGone_off h, h 55 (by decide) (by decide), h 53 (by decide) (by decide), h 54 (by decide) (by decide), h 41 (by decide) (by decide)]
theorem mCnt_off {T U : NSt} (h : mOff T U) (x w : Int32) : mCnt U x w = mCnt T x w := by unfold mCnt; rw [mcs_off h, h.ens]
theorem ffind_congr {p q : Nat → Bool} : ∀ {n : Nat}, (∀ k, k < n → p k = q k) → ffind p n = ffind q n
  | 0, _ => rfl
  | n + 1, h => by
    unfold ffind
    rw [ffind_congr (fun k hk => h k (Nat.lt_succ_of_lt hk)), h n (Nat.lt_succ_self n)]
theorem mDbl_off {T U : NSt} (h : mOff T U) (x : Int32) (h60 : ∀ q, q < nix x → U 60 0 q = T 60 0 q) : mDbl U x = mDbl T x := by
  unfold mDbl
  rw [ffind_congr (fun k hk => by rw [h 44 (by decide) (by decide), h 43 (by decide) (by decide), h60 k hk])]
theorem mwh_cong {T U : NSt} (h : mOff T U) : ∀ n, n < 2 ^ 31 → ∀ q, q < n → mwh U n 60 0 q = mwh T n 60 0 q
  | 0, _, _, hq => absurd hq (Nat.not_lt_zero _)
  | n + 1, hn, q, hq => by
    have ih := mwh_cong h n (by omega)
    have hO : mOff (mwh T n) (mwh U n) := fun k a b => (mwh_off U n k a b).trans ((h k a b).trans (mwh_off T n k a b).symm)
    have hR : mRs (mwh U n) n = mRs (mwh T n) n := by
      unfold mRs
      rw [hO 46 (by decide) (by decide), hO 47 (by decide) (by decide), hO 37 (by decide) (by decide), hO 43 (by decide) (by decide), hO 36 (by decide) (by decide), mCnt_off hO, mDbl_off hO (nI n) (fun q hq => by rw [nix_nI (by omega)] at hq; exact ih q hq)]
    show nput (mwh U n) 60 0 n _ 60 0 q = nput (mwh T n) 60 0 n _ 60 0 q
    unfold nput
    by_cases e : q = n
    · rw [if_pos ⟨rfl, e, rfl⟩, if_pos ⟨rfl, e, rfl⟩, hR]
    · rw [if_neg (fun z => e z.2.1), if_neg (fun z => e z.2.1)]
      exact ih q (by omega)
theorem mWhy_off {T U : NSt} (h : mOff T U) (x : Int32) (hx : vp_in x 12) : mWhy U x = mWhy T x := by
  have hl := vp_lt hx
  have h0 : mWhy0 U x = mWhy0 T x := by
    unfold mWhy0
    rw [h 46 (by decide) (by decide), h 51 (by decide) (by decide), mOpen_off h, mwh_cong h (nix x + 1) (by omega) (nix x) (by omega)]
  unfold mWhy
  rw [h0, h 48 (by decide) (by decide)]
theorem mVotes_off {T U : NSt} (h : mOff T U) (a : Int32) : mVotes U a = mVotes T a := by unfold mVotes; rw [h 43 (by decide) (by decide), h 50 (by decide) (by decide), h.enp]
theorem mRej_off {T U : NSt} (h : mOff T U) (x : Int32) : mRej U x = mRej T x := by unfold mRej; rw [mOpen_off h, h 46 (by decide) (by decide), h 51 (by decide) (by decide)]
theorem mRepl_off {T U : NSt} (h : mOff T U) (x : Int32) : mRepl U x = mRepl T x := by unfold mRepl; rw [mOpen_off h, mRej_off h, h 46 (by decide) (by decide), h 44 (by decide) (by decide), h 49 (by decide) (by decide), h 30 (by decide) (by decide), h 48 (by decide) (by decide)]
theorem mFate_off {T U : NSt} (h : mOff T U) (x : Int32) : mFate U x = mFate T x := by unfold mFate; rw [mOpen_off h, mRepl_off h, mVotes_off h, h 46 (by decide) (by decide), h 51 (by decide) (by decide), h 48 (by decide) (by decide), h 38 (by decide) (by decide), h 43 (by decide) (by decide), h 50 (by decide) (by decide)]
section N19
variable {p : Program} {l : Launch} {e : Env} {R : Room} {s : State} {m : MethodId} {args : Array Value} {below : List Frame} {meth : Method} {c : Code} {H : Heap} {locs : List Loc} {cells slots : Nat} {Q : State → Prop} {cc : ByteArray} {pc : Nat} {ls : Array Slot} {rest : List Value}
theorem nl_lcmp (hexec : p.tables.exec = Jvm.exec) (hb : c.code = cc) {x y : Int64} (hdg : decode cc pc = .ok (.lcmp, 1))
    (k : W p l e R s m args below meth c H locs cells slots Q (F0 m (pc + 1) ls (.int (ncmpL x y) :: rest))) : W p l e R s m args below meth c H locs cells slots Q (F0 m pc ls (.long y :: .long x :: rest)) := by
  intro T hT X
  obtain ⟨t, a, b⟩ := k T hT X
  refine ⟨t, ?_, b⟩
  unfold ncmpL at a
  by_cases h1 : y < x
  · rw [if_pos h1] at a
    jvm_step X.here [X.here.top, hexec, hb, hdg, h1]
    exact a
  · rw [if_neg h1] at a
    by_cases h2 : x = y
    · rw [if_pos h2] at a
      subst h2
      jvm_step X.here [X.here.top, hexec, hb, hdg, h1]
      exact a
    · rw [if_neg h2] at a
      jvm_step X.here [X.here.top, hexec, hb, hdg, h1, h2]
      exact a
theorem ne_d {nL : Nat} {own : String} {D : va_G} {dA : Nat → ClassId} {ad : Nat → Nat → Nat → Nat} {on : Nat → Prop} {P : UInt64 → NWd → Prop} {X' : NWd} {v : UInt64} (hc : nC p s m args meth c cc nL own D dA ad on) (hP : npic D dA ad on X' H) (hS : va_S (nA ad on) s.heap H locs) (hr : meth.sig.returnType = some .double) (hdg : decode cc pc = .ok (.dreturn, 1)) (hp : P v X') : W p l e R s m args below meth c H locs 0 0 (MQ below (va_Qd P (fun X' t => npic D dA ad on X' t.heap) (nA ad on)) args s 0 0 (nA ad on)) (F0 m pc ls [.double v]) :=
  W.dret hc.1 hc.2.1 hr (fun t ht hW => ⟨⟨v, X', rfl, hp, (show npic D dA ad on X' t.heap by rw [ht]; exact hP)⟩, hS.F ht⟩) hS.2.2 hdg hc.2.2.2.2.2.2.2.2
theorem ne_f {nL : Nat} {own : String} {D : va_G} {dA : Nat → ClassId} {ad : Nat → Nat → Nat → Nat} {on : Nat → Prop} {P : UInt32 → NWd → Prop} {X' : NWd} {v : UInt32} (hc : nC p s m args meth c cc nL own D dA ad on) (hP : npic D dA ad on X' H) (hS : va_S (nA ad on) s.heap H locs) (hr : meth.sig.returnType = some .float) (hdg : decode cc pc = .ok (.freturn, 1)) (hp : P v X') : W p l e R s m args below meth c H locs 0 0 (MQ below (va_Qf P (fun X' t => npic D dA ad on X' t.heap) (nA ad on)) args s 0 0 (nA ad on)) (F0 m pc ls [.float v]) :=
  W.fret hc.1 hc.2.1 hr (fun t ht hW => ⟨⟨v, X', rfl, hp, (show npic D dA ad on X' t.heap by rw [ht]; exact hP)⟩, hS.F ht⟩) hS.2.2 hdg hc.2.2.2.2.2.2.2.2
end N19
section N19
variable {l : Launch} {D : va_G} {dA : Nat → ClassId} {ad : Nat → Nat → Nat → Nat} {on : Nat → Prop} {X : NWd} {M T : NSt}
set_option maxHeartbeats 4000000 in
set_option maxRecDepth 100000 in
theorem c_X10_onRoll (hI : ninj ad on) (hon3 : on 3) (hok : mOk T) : nMi l D dA ad on yX10_onRoll cX10_onRoll 3 (some .int) (nrm 1) [.ref (ad 3 30 0)] (wdo X 3 T) (fun r X' => r = mRoll T ∧ X' = wdo X 3 T) := by
  refine nM_of hI (by decide +kernel) (Nat.le_of_ble_eq_true rfl) ?_
  intro p e s m args below meth cd ls hc hr _ hP hl hS
  have hx := hc.1
  have hb := hc.2.1
  have hl : lv_has ls 3 [(0, .ref (ad 3 30 0))] := hl
  have lp : ∀ (r j : Nat) (acc : Int32), j + r = mnv T → acc = isum (fun k => if T 41 0 k = 0 then 1 else 0) j → ∀ (H : Heap) (locs : List Loc) (ls : Array Slot), npic D dA ad on (wdo X 3 T) H → va_S (nA ad on) s.heap H locs → lv_has ls 3 [(2, .int (nI j)), (1, .int acc), (0, .ref (ad 3 30 0))] → W p l e (nrm 1) s m args below meth cd H locs 0 0 (MQ below (va_Qi (fun r X' => r = mRoll T ∧ X' = wdo X 3 T) (fun X' t => npic D dA ad on X' t.heap) (nA ad on)) args s 0 0 (nA ad on)) (F0 m 4 ls []) := by
    intro r
    induction r with
    | zero =>
      intro j acc hj ha  H locs ls hP hS hl
      have hjn : j = mnv T := by omega
      refine lv_iload_n hx hb dX10_onRoll_4 rfl (lv_at hl 0 rfl) ?_
      refine lv_aload_n hx hb dX10_onRoll_5 rfl (lv_at hl 2 rfl) ?_
      refine g10_95 hc hP (nv_m hon3 (by decide) Nat.zero_lt_one) dX10_onRoll_6 ?_
      refine lv_icmp_ge (tgt := 35) hx hb dX10_onRoll_9 (by decide) (fun c_9 => ?_) (fun c_9 => absurd (lp_le hok.nv hjn) c_9)
      refine lv_iload_n hx hb dX10_onRoll_35 rfl (lv_at hl 1 rfl) ?_
      exact ne_i hc hP hS hr dX10_onRoll_36 ⟨by rw [ha, hjn] <;> rfl, rfl⟩
    | succ r ih =>
      intro j acc hj ha  H locs ls hP hS hl
      have hjn : j < mnv T := by omega
      have hj40 : j < 40 := Nat.lt_of_lt_of_le hjn hok.nv40
      have ej : nix (nI j) = j := nI_clamp (by omega)
      have hjv : vp_in (nI j) 40 := vp_in_nI hj40 (by decide)
      refine lv_iload_n hx hb dX10_onRoll_4 rfl (lv_at hl 0 rfl) ?_
      refine lv_aload_n hx hb dX10_onRoll_5 rfl (lv_at hl 2 rfl) ?_
      refine g10_95 hc hP (nv_m hon3 (by decide) Nat.zero_lt_one) dX10_onRoll_6 ?_
      refine lv_icmp_ge (tgt := 35) hx hb dX10_onRoll_9 (by decide) (fun c_9 => absurd c_9 (lp_gt hok.nv hjn hok.nvL)) (fun c_9 => ?_)
      refine lv_iload_n hx hb dX10_onRoll_12 rfl (lv_at hl 1 rfl) ?_
      refine lv_aload_n hx hb dX10_onRoll_13 rfl (lv_at hl 2 rfl) ?_
      refine g10_33 hc hP (nv_m hon3 (by decide) Nat.zero_lt_one) dX10_onRoll_14 ?_
      refine lv_iload_n hx hb dX10_onRoll_17 rfl (lv_at hl 0 rfl) ?_
      refine la_41 hc hP (nv_m hon3 (by decide) Nat.zero_lt_one) hjv dX10_onRoll_18 ?_
      refine lv_if_eq (tgt := 26) hx hb dX10_onRoll_19 (by decide) (fun c_19 => ?_) (fun c_19 => ?_)
      · refine lv_iconst (v := 1) hx hb dX10_onRoll_26 (by decide) ?_
        refine lv_iadd hx hb dX10_onRoll_27 ?_
        refine lv_istore_n (lv' := [(1, .int _), (2, .int _), (0, .ref _)]) hx hb dX10_onRoll_28 rfl hl (by decide) rfl (fun ls hl => ?_)
        refine lv_iinc (v := nI (j + 1)) (lv' := [(2, .int _), (1, .int _), (0, .ref _)]) hx hb dX10_onRoll_29 hl (k := 1) rfl (nI_inc j) (by decide) rfl (fun ls hl => ?_)
        refine lv_goto (tgt := 4) hx hb dX10_onRoll_32 (by decide) ?_
        exact ih (j + 1) _ (by omega) (by rw [isum_s, ← ha]; clear hP hS hl hc hx hb hr ih; simp_all [-Int32.not_le, -Int32.not_lt, i32_lt, nb_t, nb_f, nb_z, nb_o]) _ _ _ hP hS (lv_sub hl [0, 1, 2] rfl)
      · refine lv_iconst (v := 0) hx hb dX10_onRoll_22 (by decide) ?_
        refine lv_goto (tgt := 27) hx hb dX10_onRoll_23 (by decide) ?_
        refine lv_iadd hx hb dX10_onRoll_27 ?_
        refine lv_istore_n (lv' := [(1, .int _), (2, .int _), (0, .ref _)]) hx hb dX10_onRoll_28 rfl hl (by decide) rfl (fun ls hl => ?_)
        refine lv_iinc (v := nI (j + 1)) (lv' := [(2, .int _), (1, .int _), (0, .ref _)]) hx hb dX10_onRoll_29 hl (k := 1) rfl (nI_inc j) (by decide) rfl (fun ls hl => ?_)
        refine lv_goto (tgt := 4) hx hb dX10_onRoll_32 (by decide) ?_
        exact ih (j + 1) _ (by omega) (by rw [isum_s, ← ha]; clear hP hS hl hc hx hb hr ih; simp_all [-Int32.not_le, -Int32.not_lt, i32_lt, nb_t, nb_f, nb_z, nb_o]) _ _ _ hP hS (lv_sub hl [0, 1, 2] rfl)
  refine lv_iconst (v := 0) hx hb dX10_onRoll_0 (by decide) ?_
  refine lv_istore_n (lv' := [(1, .int _), (0, .ref _)]) hx hb dX10_onRoll_1 rfl hl (by decide) rfl (fun ls hl => ?_)
  refine lv_iconst (v := nI 0) hx hb dX10_onRoll_2 (by decide) ?_
  refine lv_istore_n (lv' := [(2, .int _), (1, .int _), (0, .ref _)]) hx hb dX10_onRoll_3 rfl hl (by decide) rfl (fun ls hl => ?_)
  exact lp _ 0 _ (Nat.zero_add _) rfl _ _ _ hP hS (lv_sub hl [0, 1, 2] rfl)
set_option maxHeartbeats 4000000 in
set_option maxRecDepth 100000 in
theorem c_X10_turns (hI : ninj ad on) (hon3 : on 3) (hT : nput M 30 0 0 0 = T) (hok : mOk T) {v q : Int32} : nMi l D dA ad on yX10_turns cX10_turns 3 (some .int) (nrm 9) [.ref (ad 3 30 0), .int v, .int q] (wdo X 3 M) (fun r X' => r = (mG (mIn v 0 (T 30 0 9 - 1)) 1 T (0 : Int32) (mG (!decide (T 41 0 (nix v) = q)) 2 T (0 : Int32) ((mRoll (nput T 41 0 (nix v) (vp_nar .boolean q)), nput T 41 0 (nix v) (vp_nar .boolean q))))).1 ∧ X' = wdo X 3 (mG (mIn v 0 (T 30 0 9 - 1)) 1 T (0 : Int32) (mG (!decide (T 41 0 (nix v) = q)) 2 T (0 : Int32) ((mRoll (nput T 41 0 (nix v) (vp_nar .boolean q)), nput T 41 0 (nix v) (vp_nar .boolean q))))).2) := by
  refine nM_of hI (by decide +kernel) (Nat.le_of_ble_eq_true rfl) ?_
  intro p e s m args below meth cd ls hc hr _ hP hl hS
  have hx := hc.1
  have hb := hc.2.1
  have hl : lv_has ls 3 [(0, .ref (ad 3 30 0)), (1, .int v), (2, .int q)] := hl
  refine lv_aload_n hx hb dX10_turns_0 rfl (lv_at hl 0 rfl) ?_
  refine lv_iconst (v := 0) hx hb dX10_turns_1 (by decide) ?_
  refine p10_85 hc hP hS (nv_m hon3 (by decide) Nat.zero_lt_one) dX10_turns_2 (fun H locs hP hS => ?_)
  rw [hT] at hP
  refine lv_aload_n hx hb dX10_turns_5 rfl (lv_at hl 0 rfl) ?_
  refine lv_iload_n hx hb dX10_turns_6 rfl (lv_at hl 1 rfl) ?_
  refine nc_Vi (c_X10_isVoter hI hon3 ) hc hP hS hl.1 gd10_129 (nrecv (q := (RX10, TX10, 31)) hc (npic_eta hP) (nv_m hon3 (by decide) Nat.zero_lt_one) rfl rfl) ⟨rfl, rfl⟩ nok_X10_isVoter rfl ⟨Nat.le_of_ble_eq_true rfl, Nat.le_of_ble_eq_true rfl⟩ ⟨Nat.le_of_ble_eq_true rfl, Nat.le_of_ble_eq_true rfl⟩ dX10_turns_7 rfl (Nat.le_of_ble_eq_true rfl) (fun r X1 H locs hp hP hS => ?_)
  obtain ⟨hr9, hX9⟩ := hp
  rw [hX9] at hP
  subst hr9
  refine lv_if_ne (tgt := 19) hx hb dX10_turns_10 (by decide) (fun c_10 => ?_) (fun c_10 => ?_)
  · refine lv_aload_n hx hb dX10_turns_19 rfl (lv_at hl 0 rfl) ?_
    refine g10_33 hc hP (nv_m hon3 (by decide) Nat.zero_lt_one) dX10_turns_20 ?_
    refine lv_iload_n hx hb dX10_turns_23 rfl (lv_at hl 1 rfl) ?_
    refine la_41 hc hP (nv_m hon3 (by decide) Nat.zero_lt_one) (mvp (nb_nz.mp c_10) hok.nv hok.nv40 (by decide)) dX10_turns_24 ?_
    refine lv_iload_n hx hb dX10_turns_25 rfl (lv_at hl 2 rfl) ?_
    refine lv_icmp_ne (tgt := 35) hx hb dX10_turns_26 (by decide) (fun c_26 => ?_) (fun c_26 => ?_)
    · refine lv_aload_n hx hb dX10_turns_35 rfl (lv_at hl 0 rfl) ?_
      refine g10_33 hc hP (nv_m hon3 (by decide) Nat.zero_lt_one) dX10_turns_36 ?_
      refine lv_iload_n hx hb dX10_turns_39 rfl (lv_at hl 1 rfl) ?_
      refine lv_iload_n hx hb dX10_turns_40 rfl (lv_at hl 2 rfl) ?_
      refine sa_41 hc hP hS (nv_m hon3 (by decide) Nat.zero_lt_one) (mvp (nb_nz.mp c_10) hok.nv hok.nv40 (by decide)) dX10_turns_41 (fun H locs hP hS => ?_)
      refine lv_aload_n hx hb dX10_turns_42 rfl (lv_at hl 0 rfl) ?_
      refine nc_Vi (c_X10_onRoll hI hon3 (show mOk (nput T 41 0 (nix v) (vp_nar .boolean q)) from mOk_of ⟨rfl, rfl, rfl, rfl⟩ rfl rfl rfl hok)) hc hP hS hl.1 gd10_132 (nrecv (q := (RX10, TX10, 31)) hc (npic_eta hP) (nv_m hon3 (by decide) Nat.zero_lt_one) rfl rfl) ⟨rfl, rfl⟩ nok_X10_onRoll rfl ⟨Nat.le_of_ble_eq_true rfl, Nat.le_of_ble_eq_true rfl⟩ ⟨Nat.le_of_ble_eq_true rfl, Nat.le_of_ble_eq_true rfl⟩ dX10_turns_43 rfl (Nat.le_of_ble_eq_true rfl) (fun r X1 H locs hp hP hS => ?_)
      obtain ⟨hr9, hX9⟩ := hp
      rw [hX9] at hP
      subst hr9
      exact ne_i hc hP hS hr dX10_turns_46 (mR_of ((mG_t (by clear hP hS hl hc hx hb hr hT; simp_all [-Int32.not_le, -Int32.not_lt, i32_lt, nb_t, nb_f, nb_z, nb_o])).trans ((mG_t (by clear hP hS hl hc hx hb hr hT; simp_all [-Int32.not_le, -Int32.not_lt, i32_lt, nb_t, nb_f, nb_z, nb_o])).trans (rfl))))
    · refine lv_aload_n hx hb dX10_turns_29 rfl (lv_at hl 0 rfl) ?_
      refine lv_iconst (v := 2) hx hb dX10_turns_30 (by decide) ?_
      refine nc_Vi (c_X10_fails hI hon3) hc hP hS hl.1 gd10_104 (nrecv (q := (RX10, TX10, 31)) hc (npic_eta hP) (nv_m hon3 (by decide) Nat.zero_lt_one) rfl rfl) ⟨rfl, rfl⟩ nok_X10_fails rfl ⟨Nat.le_of_ble_eq_true rfl, Nat.le_of_ble_eq_true rfl⟩ ⟨Nat.le_of_ble_eq_true rfl, Nat.le_of_ble_eq_true rfl⟩ dX10_turns_31 rfl (Nat.le_of_ble_eq_true rfl) (fun r X1 H locs hp hP hS => ?_)
      obtain ⟨hr9, hX9⟩ := hp
      rw [hX9] at hP
      subst hr9
      exact ne_i hc hP hS hr dX10_turns_34 (mR_of ((mG_t (by clear hP hS hl hc hx hb hr hT; simp_all [-Int32.not_le, -Int32.not_lt, i32_lt, nb_t, nb_f, nb_z, nb_o])).trans (mG_f (by clear hP hS hl hc hx hb hr hT; simp_all [-Int32.not_le, -Int32.not_lt, i32_lt, nb_t, nb_f, nb_z, nb_o]))))
  · refine lv_aload_n hx hb dX10_turns_13 rfl (lv_at hl 0 rfl) ?_
    refine lv_iconst (v := 1) hx hb dX10_turns_14 (by decide) ?_
    refine nc_Vi (c_X10_fails hI hon3) hc hP hS hl.1 gd10_104 (nrecv (q := (RX10, TX10, 31)) hc (npic_eta hP) (nv_m hon3 (by decide) Nat.zero_lt_one) rfl rfl) ⟨rfl, rfl⟩ nok_X10_fails rfl ⟨Nat.le_of_ble_eq_true rfl, Nat.le_of_ble_eq_true rfl⟩ ⟨Nat.le_of_ble_eq_true rfl, Nat.le_of_ble_eq_true rfl⟩ dX10_turns_15 rfl (Nat.le_of_ble_eq_true rfl) (fun r X1 H locs hp hP hS => ?_)
    obtain ⟨hr9, hX9⟩ := hp
    rw [hX9] at hP
    subst hr9
    exact ne_i hc hP hS hr dX10_turns_18 (mR_of (mG_f (by clear hP hS hl hc hx hb hr hT; simp_all [-Int32.not_le, -Int32.not_lt, i32_lt, nb_t, nb_f, nb_z, nb_o])))
set_option maxHeartbeats 4000000 in
set_option maxRecDepth 100000 in
theorem c_X10_strike (hI : ninj ad on) (hon3 : on 3) (hT : nput M 30 0 0 0 = T) (hok : mOk T) {v : Int32} : nMi l D dA ad on yX10_strike cX10_strike 2 (some .int) (nrm 10) [.ref (ad 3 30 0), .int v] (wdo X 3 M) (fun r X' => r = (mG (mIn v 0 (T 30 0 9 - 1)) 1 T (0 : Int32) (mG (!decide (T 41 0 (nix v) = 1)) 2 T (0 : Int32) (mRoll (nput T 41 0 (nix v) (vp_nar .boolean 1)), nput T 41 0 (nix v) (vp_nar .boolean 1)))).1 ∧ X' = wdo X 3 (mG (mIn v 0 (T 30 0 9 - 1)) 1 T (0 : Int32) (mG (!decide (T 41 0 (nix v) = 1)) 2 T (0 : Int32) (mRoll (nput T 41 0 (nix v) (vp_nar .boolean 1)), nput T 41 0 (nix v) (vp_nar .boolean 1)))).2) := by
  refine nM_of hI (by decide +kernel) (Nat.le_of_ble_eq_true rfl) ?_
  intro p e s m args below meth cd ls hc hr _ hP hl hS
  have hx := hc.1
  have hb := hc.2.1
  have hl : lv_has ls 2 [(0, .ref (ad 3 30 0)), (1, .int v)] := hl
  refine lv_aload_n hx hb dX10_strike_0 rfl (lv_at hl 0 rfl) ?_
  refine lv_iload_n hx hb dX10_strike_1 rfl (lv_at hl 1 rfl) ?_
  refine lv_iconst (v := 1) hx hb dX10_strike_2 (by decide) ?_
  refine nc_Vi (c_X10_turns hI hon3 hT hok) hc hP hS hl.1 gd10_136 (nrecv (q := (RX10, TX10, 31)) hc (npic_eta hP) (nv_m hon3 (by decide) Nat.zero_lt_one) rfl rfl) ⟨rfl, rfl⟩ nok_X10_turns rfl ⟨Nat.le_of_ble_eq_true rfl, Nat.le_of_ble_eq_true rfl⟩ ⟨Nat.le_of_ble_eq_true rfl, Nat.le_of_ble_eq_true rfl⟩ dX10_strike_3 rfl (Nat.le_of_ble_eq_true rfl) (fun r X1 H locs hp hP hS => ?_)
  obtain ⟨hr9, hX9⟩ := hp
  rw [hX9] at hP
  subst hr9
  exact ne_i hc hP hS hr dX10_strike_6 ⟨rfl, rfl⟩
set_option maxHeartbeats 4000000 in
set_option maxRecDepth 100000 in
theorem c_X10_restore (hI : ninj ad on) (hon3 : on 3) (hT : nput M 30 0 0 0 = T) (hok : mOk T) {v : Int32} : nMi l D dA ad on yX10_restore cX10_restore 2 (some .int) (nrm 10) [.ref (ad 3 30 0), .int v] (wdo X 3 M) (fun r X' => r = (mG (mIn v 0 (T 30 0 9 - 1)) 1 T (0 : Int32) (mG (!decide (T 41 0 (nix v) = 0)) 2 T (0 : Int32) (mRoll (nput T 41 0 (nix v) (vp_nar .boolean 0)), nput T 41 0 (nix v) (vp_nar .boolean 0)))).1 ∧ X' = wdo X 3 (mG (mIn v 0 (T 30 0 9 - 1)) 1 T (0 : Int32) (mG (!decide (T 41 0 (nix v) = 0)) 2 T (0 : Int32) (mRoll (nput T 41 0 (nix v) (vp_nar .boolean 0)), nput T 41 0 (nix v) (vp_nar .boolean 0)))).2) := by
  refine nM_of hI (by decide +kernel) (Nat.le_of_ble_eq_true rfl) ?_
  intro p e s m args below meth cd ls hc hr _ hP hl hS
  have hx := hc.1
  have hb := hc.2.1
  have hl : lv_has ls 2 [(0, .ref (ad 3 30 0)), (1, .int v)] := hl
  refine lv_aload_n hx hb dX10_restore_0 rfl (lv_at hl 0 rfl) ?_
  refine lv_iload_n hx hb dX10_restore_1 rfl (lv_at hl 1 rfl) ?_
  refine lv_iconst (v := 0) hx hb dX10_restore_2 (by decide) ?_
  refine nc_Vi (c_X10_turns hI hon3 hT hok) hc hP hS hl.1 gd10_136 (nrecv (q := (RX10, TX10, 31)) hc (npic_eta hP) (nv_m hon3 (by decide) Nat.zero_lt_one) rfl rfl) ⟨rfl, rfl⟩ nok_X10_turns rfl ⟨Nat.le_of_ble_eq_true rfl, Nat.le_of_ble_eq_true rfl⟩ ⟨Nat.le_of_ble_eq_true rfl, Nat.le_of_ble_eq_true rfl⟩ dX10_restore_3 rfl (Nat.le_of_ble_eq_true rfl) (fun r X1 H locs hp hP hS => ?_)
  obtain ⟨hr9, hX9⟩ := hp
  rw [hX9] at hP
  subst hr9
  exact ne_i hc hP hS hr dX10_restore_6 ⟨rfl, rfl⟩
set_option maxHeartbeats 4000000 in
set_option maxRecDepth 100000 in
theorem c_X10_isFree (hI : ninj ad on) (hon3 : on 3) (hok : mOk T) {v b w : Int32} {n : Nat} (hn : n ≤ mns T) (hbn : b = nI n) : nMi l D dA ad on yX10_isFree cX10_isFree 5 (some .boolean) (nrm 2) [.ref (ad 3 30 0), .int v, .int b, .int w] (wdo X 3 T) (fun r X' => r = nb (mFree T v n w) ∧ X' = wdo X 3 T) := by
  refine nM_of hI (by decide +kernel) (Nat.le_of_ble_eq_true rfl) ?_
  intro p e s m args below meth cd ls hc hr _ hP hl hS
  have hx := hc.1
  have hb := hc.2.1
  have hl : lv_has ls 5 [(0, .ref (ad 3 30 0)), (1, .int v), (2, .int b), (3, .int w)] := hl
  have lp : ∀ (r j : Nat) , j + r = n → ffind (fun k => decide (T 54 0 k = v) && !decide (T 55 0 k = 0) && !mGone T (T 53 0 k) w) j = none → ∀ (H : Heap) (locs : List Loc) (ls : Array Slot), npic D dA ad on (wdo X 3 T) H → va_S (nA ad on) s.heap H locs → lv_has ls 5 [(4, .int (nI j)), (3, .int w), (2, .int b), (1, .int v), (0, .ref (ad 3 30 0))] → W p l e (nrm 2) s m args below meth cd H locs 0 0 (MQ below (va_Qi (fun r X' => r = nb (mFree T v n w) ∧ X' = wdo X 3 T) (fun X' t => npic D dA ad on X' t.heap) (nA ad on)) args s 0 0 (nA ad on)) (F0 m 3 ls []) := by
    intro r
    induction r with
    | zero =>
      intro j  hj hf H locs ls hP hS hl
      have hjn : j = n := by omega
      refine lv_iload hx hb dX10_isFree_3 (lv_at hl 0 rfl) ?_
      refine lv_iload_n hx hb dX10_isFree_5 rfl (lv_at hl 2 rfl) ?_
      refine lv_icmp_ge (tgt := 53) hx hb dX10_isFree_6 (by decide) (fun c_6 => ?_) (fun c_6 => absurd (lp_le hbn hjn) c_6)
      refine lv_iconst (v := 1) hx hb dX10_isFree_53 (by decide) ?_
      exact ne_z hc hP hS hr rfl dX10_isFree_54 ⟨by rw [hjn] at hf; rw [mFree, hf]; rfl, rfl⟩
    | succ r ih =>
      intro j  hj hf H locs ls hP hS hl
      have hjn : j < n := by omega
      have hj150 : j < 150 := Nat.lt_of_lt_of_le (Nat.lt_of_lt_of_le hjn hn) hok.ns150
      have ej : nix (nI j) = j := nI_clamp (by omega)
      have hjv : vp_in (nI j) 150 := vp_in_nI hj150 (by decide)
      have hjs : nix (nI j) < mns T := by rw [ej]; exact Nat.lt_of_lt_of_le hjn hn
      have hjn2 : vp_in (nI j) (mns T) := vp_in_nI (Nat.lt_of_lt_of_le hjn hn) hok.nsL
      refine lv_iload hx hb dX10_isFree_3 (lv_at hl 0 rfl) ?_
      refine lv_iload_n hx hb dX10_isFree_5 rfl (lv_at hl 2 rfl) ?_
      refine lv_icmp_ge (tgt := 53) hx hb dX10_isFree_6 (by decide) (fun c_6 => absurd c_6 (lp_gt hbn hjn (Nat.lt_of_le_of_lt hn hok.nsL))) (fun c_6 => ?_)
      refine lv_aload_n hx hb dX10_isFree_9 rfl (lv_at hl 4 rfl) ?_
      refine g10_67 hc hP (nv_m hon3 (by decide) Nat.zero_lt_one) dX10_isFree_10 ?_
      refine lv_iload hx hb dX10_isFree_13 (lv_at hl 0 rfl) ?_
      refine la_54 hc hP (nv_m hon3 (by decide) Nat.zero_lt_one) hjv dX10_isFree_15 ?_
      refine lv_iload_n hx hb dX10_isFree_16 rfl (lv_at hl 3 rfl) ?_
      refine lv_icmp_ne (tgt := 47) hx hb dX10_isFree_17 (by decide) (fun c_17 => ?_) (fun c_17 => ?_)
      · refine lv_iinc (v := nI (j + 1)) (lv' := [(4, .int _), (3, .int _), (2, .int _), (1, .int _), (0, .ref _)]) hx hb dX10_isFree_47 hl (k := 0) rfl (nI_inc j) (by decide) rfl (fun ls hl => ?_)
        refine lv_goto (tgt := 3) hx hb dX10_isFree_50 (by decide) ?_
        exact ih (j + 1) (by omega) (by rw [ffind_s hf]; clear hP hS hl hc hx hb hr ih; simp_all [-Int32.not_le, -Int32.not_lt, i32_lt, nb_t, nb_f, nb_z, nb_o]) _ _ _ hP hS (lv_sub hl [0, 1, 2, 3, 4] rfl)
      · refine lv_aload_n hx hb dX10_isFree_20 rfl (lv_at hl 4 rfl) ?_
        refine g10_70 hc hP (nv_m hon3 (by decide) Nat.zero_lt_one) dX10_isFree_21 ?_
        refine lv_iload hx hb dX10_isFree_24 (lv_at hl 0 rfl) ?_
        refine la_55 hc hP (nv_m hon3 (by decide) Nat.zero_lt_one) hjv dX10_isFree_26 ?_
        refine lv_if_eq (tgt := 47) hx hb dX10_isFree_27 (by decide) (fun c_27 => ?_) (fun c_27 => ?_)
        · refine lv_iinc (v := nI (j + 1)) (lv' := [(4, .int _), (3, .int _), (2, .int _), (1, .int _), (0, .ref _)]) hx hb dX10_isFree_47 hl (k := 0) rfl (nI_inc j) (by decide) rfl (fun ls hl => ?_)
          refine lv_goto (tgt := 3) hx hb dX10_isFree_50 (by decide) ?_
          exact ih (j + 1) (by omega) (by rw [ffind_s hf]; clear hP hS hl hc hx hb hr ih; simp_all [-Int32.not_le, -Int32.not_lt, i32_lt, nb_t, nb_f, nb_z, nb_o]) _ _ _ hP hS (lv_sub hl [0, 1, 2, 3, 4] rfl)
        · refine lv_aload_n hx hb dX10_isFree_30 rfl (lv_at hl 4 rfl) ?_
          refine lv_aload_n hx hb dX10_isFree_31 rfl (lv_at hl 4 rfl) ?_
          refine g10_64 hc hP (nv_m hon3 (by decide) Nat.zero_lt_one) dX10_isFree_32 ?_
          refine lv_iload hx hb dX10_isFree_35 (lv_at hl 0 rfl) ?_
          refine la_53 hc hP (nv_m hon3 (by decide) Nat.zero_lt_one) hjv dX10_isFree_37 ?_
          refine lv_iload_n hx hb dX10_isFree_38 rfl (lv_at hl 1 rfl) ?_
          refine nc_Vi (c_X10_isGone hI hon3 (hok.sp hjs)) hc hP hS hl.1 gd10_161 (nrecv (q := (RX10, TX10, 31)) hc (npic_eta hP) (nv_m hon3 (by decide) Nat.zero_lt_one) rfl rfl) ⟨rfl, rfl⟩ nok_X10_isGone rfl ⟨Nat.le_of_ble_eq_true rfl, Nat.le_of_ble_eq_true rfl⟩ ⟨Nat.le_of_ble_eq_true rfl, Nat.le_of_ble_eq_true rfl⟩ dX10_isFree_39 rfl (Nat.le_of_ble_eq_true rfl) (fun r X1 H locs hp hP hS => ?_)
          obtain ⟨hr9, hX9⟩ := hp
          rw [hX9] at hP
          subst hr9
          refine lv_if_ne (tgt := 47) hx hb dX10_isFree_42 (by decide) (fun c_42 => ?_) (fun c_42 => ?_)
          · refine lv_iinc (v := nI (j + 1)) (lv' := [(4, .int _), (3, .int _), (2, .int _), (1, .int _), (0, .ref _)]) hx hb dX10_isFree_47 hl (k := 0) rfl (nI_inc j) (by decide) rfl (fun ls hl => ?_)
            refine lv_goto (tgt := 3) hx hb dX10_isFree_50 (by decide) ?_
            exact ih (j + 1) (by omega) (by rw [ffind_s hf]; clear hP hS hl hc hx hb hr ih; simp_all [-Int32.not_le, -Int32.not_lt, i32_lt, nb_t, nb_f, nb_z, nb_o]) _ _ _ hP hS (lv_sub hl [0, 1, 2, 3, 4] rfl)
          · refine lv_iconst (v := 0) hx hb dX10_isFree_45 (by decide) ?_
            exact ne_z hc hP hS hr rfl dX10_isFree_46 ⟨by have h9 := ffind_at hf (by clear hP hS hl hc hx hb hr ih; simp_all [-Int32.not_le, -Int32.not_lt, i32_lt, nb_t, nb_f, nb_z, nb_o]) hjn; rw [mFree, h9]; rfl, rfl⟩
  refine lv_iconst (v := nI 0) hx hb dX10_isFree_0 (by decide) ?_
  refine lv_istore (lv' := [(4, .int _), (0, .ref _), (1, .int _), (2, .int _), (3, .int _)]) hx hb dX10_isFree_1 hl (by decide) rfl (fun ls hl => ?_)
  exact lp _ 0 (Nat.zero_add _) rfl _ _ _ hP hS (lv_sub hl [0, 4, 3, 2, 1] rfl)
set_option maxHeartbeats 4000000 in
set_option maxRecDepth 100000 in
theorem c_X10_openResult (hI : ninj ad on) (hon3 : on 3) {k w : Int32} (hok : mOk T) (hk : vp_in k (mns T)) : nMi l D dA ad on yX10_openResult cX10_openResult 3 (some .int) (nrm 3) [.ref (ad 3 30 0), .int k, .int w] (wdo X 3 T) (fun r X' => r = mOres T (nix k) w ∧ X' = wdo X 3 T) := by
  refine nM_of hI (by decide +kernel) (Nat.le_of_ble_eq_true rfl) ?_
  intro p e s m args below meth cd ls hc hr _ hP hl hS
  have hx := hc.1
  have hb := hc.2.1
  have hl : lv_has ls 3 [(0, .ref (ad 3 30 0)), (1, .int k), (2, .int w)] := hl
  refine lv_aload_n hx hb dX10_openResult_0 rfl (lv_at hl 0 rfl) ?_
  refine g10_70 hc hP (nv_m hon3 (by decide) Nat.zero_lt_one) dX10_openResult_1 ?_
  refine lv_iload_n hx hb dX10_openResult_4 rfl (lv_at hl 1 rfl) ?_
  refine la_55 hc hP (nv_m hon3 (by decide) Nat.zero_lt_one) (vp_mono hk hok.ns150) dX10_openResult_5 ?_
  refine lv_if_ne (tgt := 11) hx hb dX10_openResult_6 (by decide) (fun c_6 => ?_) (fun c_6 => ?_)
  · refine lv_aload_n hx hb dX10_openResult_11 rfl (lv_at hl 0 rfl) ?_
    refine g10_33 hc hP (nv_m hon3 (by decide) Nat.zero_lt_one) dX10_openResult_12 ?_
    refine lv_aload_n hx hb dX10_openResult_15 rfl (lv_at hl 0 rfl) ?_
    refine g10_67 hc hP (nv_m hon3 (by decide) Nat.zero_lt_one) dX10_openResult_16 ?_
    refine lv_iload_n hx hb dX10_openResult_19 rfl (lv_at hl 1 rfl) ?_
    refine la_54 hc hP (nv_m hon3 (by decide) Nat.zero_lt_one) (vp_mono hk hok.ns150) dX10_openResult_20 ?_
    refine la_41 hc hP (nv_m hon3 (by decide) Nat.zero_lt_one) (hok.sv (vp_lt hk)) dX10_openResult_21 ?_
    refine lv_if_eq (tgt := 27) hx hb dX10_openResult_22 (by decide) (fun c_22 => ?_) (fun c_22 => ?_)
    · refine lv_aload_n hx hb dX10_openResult_27 rfl (lv_at hl 0 rfl) ?_
      refine lv_aload_n hx hb dX10_openResult_28 rfl (lv_at hl 0 rfl) ?_
      refine g10_64 hc hP (nv_m hon3 (by decide) Nat.zero_lt_one) dX10_openResult_29 ?_
      refine lv_iload_n hx hb dX10_openResult_32 rfl (lv_at hl 1 rfl) ?_
      refine la_53 hc hP (nv_m hon3 (by decide) Nat.zero_lt_one) (vp_mono hk hok.ns150) dX10_openResult_33 ?_
      refine lv_iload_n hx hb dX10_openResult_34 rfl (lv_at hl 2 rfl) ?_
      refine nc_Vi (c_X10_isGone hI hon3 (hok.sp (vp_lt hk))) hc hP hS hl.1 gd10_161 (nrecv (q := (RX10, TX10, 31)) hc (npic_eta hP) (nv_m hon3 (by decide) Nat.zero_lt_one) rfl rfl) ⟨rfl, rfl⟩ nok_X10_isGone rfl ⟨Nat.le_of_ble_eq_true rfl, Nat.le_of_ble_eq_true rfl⟩ ⟨Nat.le_of_ble_eq_true rfl, Nat.le_of_ble_eq_true rfl⟩ dX10_openResult_35 rfl (Nat.le_of_ble_eq_true rfl) (fun r X1 H locs hp hP hS => ?_)
      obtain ⟨hr9, hX9⟩ := hp
      rw [hX9] at hP
      subst hr9
      refine lv_if_eq (tgt := 43) hx hb dX10_openResult_38 (by decide) (fun c_38 => ?_) (fun c_38 => ?_)
      · refine lv_aload_n hx hb dX10_openResult_43 rfl (lv_at hl 0 rfl) ?_
        refine lv_aload_n hx hb dX10_openResult_44 rfl (lv_at hl 0 rfl) ?_
        refine g10_67 hc hP (nv_m hon3 (by decide) Nat.zero_lt_one) dX10_openResult_45 ?_
        refine lv_iload_n hx hb dX10_openResult_48 rfl (lv_at hl 1 rfl) ?_
        refine la_54 hc hP (nv_m hon3 (by decide) Nat.zero_lt_one) (vp_mono hk hok.ns150) dX10_openResult_49 ?_
        refine lv_iload_n hx hb dX10_openResult_50 rfl (lv_at hl 1 rfl) ?_
        refine lv_iload_n hx hb dX10_openResult_51 rfl (lv_at hl 2 rfl) ?_
        refine nc_Vi (c_X10_isFree hI hon3 hok (n := nix k) (Nat.le_of_lt (vp_lt hk)) (vp_eq hk)) hc hP hS hl.1 gd10_165 (nrecv (q := (RX10, TX10, 31)) hc (npic_eta hP) (nv_m hon3 (by decide) Nat.zero_lt_one) rfl rfl) ⟨rfl, rfl⟩ nok_X10_isFree rfl ⟨Nat.le_of_ble_eq_true rfl, Nat.le_of_ble_eq_true rfl⟩ ⟨Nat.le_of_ble_eq_true rfl, Nat.le_of_ble_eq_true rfl⟩ dX10_openResult_52 rfl (Nat.le_of_ble_eq_true rfl) (fun r X1 H locs hp hP hS => ?_)
        obtain ⟨hr9, hX9⟩ := hp
        rw [hX9] at hP
        subst hr9
        refine lv_if_eq (tgt := 62) hx hb dX10_openResult_55 (by decide) (fun c_55 => ?_) (fun c_55 => ?_)
        · refine lv_iconst (v := 4) hx hb dX10_openResult_62 (by decide) ?_
          exact ne_i hc hP hS hr dX10_openResult_63 ⟨by clear hP hS hl hc hx hb hr; simp_all [-Int32.not_le, -Int32.not_lt, i32_lt, nb_t, nb_f, nb_z, nb_o, mOres], rfl⟩
        · refine lv_iconst (v := 0) hx hb dX10_openResult_58 (by decide) ?_
          refine lv_goto (tgt := 63) hx hb dX10_openResult_59 (by decide) ?_
          exact ne_i hc hP hS hr dX10_openResult_63 ⟨by clear hP hS hl hc hx hb hr; simp_all [-Int32.not_le, -Int32.not_lt, i32_lt, nb_t, nb_f, nb_z, nb_o, mOres], rfl⟩
      · refine lv_iconst (v := 3) hx hb dX10_openResult_41 (by decide) ?_
        exact ne_i hc hP hS hr dX10_openResult_42 ⟨by clear hP hS hl hc hx hb hr; simp_all [-Int32.not_le, -Int32.not_lt, i32_lt, nb_t, nb_f, nb_z, nb_o, mOres], rfl⟩
    · refine lv_iconst (v := 2) hx hb dX10_openResult_25 (by decide) ?_
      exact ne_i hc hP hS hr dX10_openResult_26 ⟨by clear hP hS hl hc hx hb hr; simp_all [-Int32.not_le, -Int32.not_lt, i32_lt, nb_t, nb_f, nb_z, nb_o, mOres], rfl⟩
  · refine lv_iconst (v := 1) hx hb dX10_openResult_9 (by decide) ?_
    exact ne_i hc hP hS hr dX10_openResult_10 ⟨by clear hP hS hl hc hx hb hr; simp_all [-Int32.not_le, -Int32.not_lt, i32_lt, nb_t, nb_f, nb_z, nb_o, mOres], rfl⟩
set_option maxHeartbeats 4000000 in
set_option maxRecDepth 100000 in
theorem c_X10_result (hI : ninj ad on) (hon3 : on 3) {k : Int32} (hok : mOk T) (hk : vp_in k (mns T)) : nMi l D dA ad on yX10_result cX10_result 2 (some .int) (nrm 4) [.ref (ad 3 30 0), .int k] (wdo X 3 T) (fun r X' => r = mRes T (nix k) ∧ X' = wdo X 3 T) := by
  refine nM_of hI (by decide +kernel) (Nat.le_of_ble_eq_true rfl) ?_
  intro p e s m args below meth cd ls hc hr _ hP hl hS
  have hx := hc.1
  have hb := hc.2.1
  have hl : lv_has ls 2 [(0, .ref (ad 3 30 0)), (1, .int k)] := hl
  refine lv_aload_n hx hb dX10_result_0 rfl (lv_at hl 0 rfl) ?_
  refine nc_Vi (c_X10_open hI hon3 ) hc hP hS hl.1 gd10_108 (nrecv (q := (RX10, TX10, 31)) hc (npic_eta hP) (nv_m hon3 (by decide) Nat.zero_lt_one) rfl rfl) ⟨rfl, rfl⟩ nok_X10_open rfl ⟨Nat.le_of_ble_eq_true rfl, Nat.le_of_ble_eq_true rfl⟩ ⟨Nat.le_of_ble_eq_true rfl, Nat.le_of_ble_eq_true rfl⟩ dX10_result_1 rfl (Nat.le_of_ble_eq_true rfl) (fun r X1 H locs hp hP hS => ?_)
  obtain ⟨hr9, hX9⟩ := hp
  rw [hX9] at hP
  subst hr9
  refine lv_if_eq (tgt := 16) hx hb dX10_result_4 (by decide) (fun c_4 => ?_) (fun c_4 => ?_)
  · refine lv_aload_n hx hb dX10_result_16 rfl (lv_at hl 0 rfl) ?_
    refine g10_73 hc hP (nv_m hon3 (by decide) Nat.zero_lt_one) dX10_result_17 ?_
    refine lv_iload_n hx hb dX10_result_20 rfl (lv_at hl 1 rfl) ?_
    refine la_56 hc hP (nv_m hon3 (by decide) Nat.zero_lt_one) (vp_mono hk hok.ns150) dX10_result_21 ?_
    exact ne_i hc hP hS hr dX10_result_22 ⟨by clear hP hS hl hc hx hb hr; simp_all [-Int32.not_le, -Int32.not_lt, i32_lt, nb_t, nb_f, nb_z, nb_o, mRes], rfl⟩
  · refine lv_aload_n hx hb dX10_result_7 rfl (lv_at hl 0 rfl) ?_
    refine lv_iload_n hx hb dX10_result_8 rfl (lv_at hl 1 rfl) ?_
    refine lv_iconst (v := 0) hx hb dX10_result_9 (by decide) ?_
    refine nc_Vi (c_X10_openResult hI hon3 hok hk) hc hP hS hl.1 gd10_118 (nrecv (q := (RX10, TX10, 31)) hc (npic_eta hP) (nv_m hon3 (by decide) Nat.zero_lt_one) rfl rfl) ⟨rfl, rfl⟩ nok_X10_openResult rfl ⟨Nat.le_of_ble_eq_true rfl, Nat.le_of_ble_eq_true rfl⟩ ⟨Nat.le_of_ble_eq_true rfl, Nat.le_of_ble_eq_true rfl⟩ dX10_result_10 rfl (Nat.le_of_ble_eq_true rfl) (fun r X1 H locs hp hP hS => ?_)
    obtain ⟨hr9, hX9⟩ := hp
    rw [hX9] at hP
    subst hr9
    refine lv_goto (tgt := 22) hx hb dX10_result_13 (by decide) ?_
    exact ne_i hc hP hS hr dX10_result_22 ⟨by clear hP hS hl hc hx hb hr; simp_all [-Int32.not_le, -Int32.not_lt, i32_lt, nb_t, nb_f, nb_z, nb_o, mRes], rfl⟩
set_option maxHeartbeats 4000000 in
set_option maxRecDepth 100000 in
theorem c_X10_counting (hI : ninj ad on) (hon3 : on 3) (hok : mOk T) {x w : Int32} : nMi l D dA ad on yX10_counting cX10_counting 7 (some .int) (nrm 2) [.ref (ad 3 30 0), .int x, .int w] (wdo X 3 T) (fun r X' => r = mCnt T x w ∧ X' = wdo X 3 T) := by
  refine nM_of hI (by decide +kernel) (Nat.le_of_ble_eq_true rfl) ?_
  intro p e s m args below meth cd ls hc hr _ hP hl hS
  have hx := hc.1
  have hb := hc.2.1
  have hl : lv_has ls 7 [(0, .ref (ad 3 30 0)), (1, .int x), (2, .int w)] := hl
  have lp : ∀ (r j : Nat) (acc : Int32) (q : Int64), j + r = mns T → (acc, q) = mcs T x w j → ∀ (H : Heap) (locs : List Loc) (ls : Array Slot), npic D dA ad on (wdo X 3 T) H → va_S (nA ad on) s.heap H locs → lv_has ls 7 [(6, .int (nI j)), (4, .long q), (3, .int acc), (2, .int w), (1, .int x), (0, .ref (ad 3 30 0))] → W p l e (nrm 2) s m args below meth cd H locs 0 0 (MQ below (va_Qi (fun r X' => r = mCnt T x w ∧ X' = wdo X 3 T) (fun X' t => npic D dA ad on X' t.heap) (nA ad on)) args s 0 0 (nA ad on)) (F0 m 8 ls []) := by
    intro r
    induction r with
    | zero =>
      intro j acc q hj ha H locs ls hP hS hl
      have hjn : j = mns T := by omega
      refine lv_iload hx hb dX10_counting_8 (lv_at hl 0 rfl) ?_
      refine lv_aload_n hx hb dX10_counting_10 rfl (lv_at hl 5 rfl) ?_
      refine g10_115 hc hP (nv_m hon3 (by decide) Nat.zero_lt_one) dX10_counting_11 ?_
      refine lv_icmp_ge (tgt := 113) hx hb dX10_counting_14 (by decide) (fun c_14 => ?_) (fun c_14 => absurd (lp_le hok.ns hjn) c_14)
      refine lv_iload_n hx hb dX10_counting_113 rfl (lv_at hl 2 rfl) ?_
      exact ne_i hc hP hS hr dX10_counting_114 ⟨by rw [hjn] at ha; rw [mCnt, ← ha], rfl⟩
    | succ r ih =>
      intro j acc q hj ha H locs ls hP hS hl
      have hjn : j < mns T := by omega
      have hj150 : j < 150 := Nat.lt_of_lt_of_le hjn hok.ns150
      have ej : nix (nI j) = j := nI_clamp (by omega)
      have hjv : vp_in (nI j) 150 := vp_in_nI hj150 (by decide)
      have hjs : nix (nI j) < mns T := by rw [ej]; exact hjn
      have hjn2 : vp_in (nI j) (mns T) := vp_in_nI hjn hok.nsL
      refine lv_iload hx hb dX10_counting_8 (lv_at hl 0 rfl) ?_
      refine lv_aload_n hx hb dX10_counting_10 rfl (lv_at hl 5 rfl) ?_
      refine g10_115 hc hP (nv_m hon3 (by decide) Nat.zero_lt_one) dX10_counting_11 ?_
      refine lv_icmp_ge (tgt := 113) hx hb dX10_counting_14 (by decide) (fun c_14 => absurd c_14 (lp_gt hok.ns hjn hok.nsL)) (fun c_14 => ?_)
      refine lv_aload_n hx hb dX10_counting_17 rfl (lv_at hl 5 rfl) ?_
      refine g10_70 hc hP (nv_m hon3 (by decide) Nat.zero_lt_one) dX10_counting_18 ?_
      refine lv_iload hx hb dX10_counting_21 (lv_at hl 0 rfl) ?_
      refine la_55 hc hP (nv_m hon3 (by decide) Nat.zero_lt_one) hjv dX10_counting_23 ?_
      refine lv_if_eq (tgt := 107) hx hb dX10_counting_24 (by decide) (fun c_24 => ?_) (fun c_24 => ?_)
      · refine lv_iinc (v := nI (j + 1)) (lv' := [(6, .int _), (4, .long _), (3, .int _), (2, .int _), (1, .int _), (0, .ref _)]) hx hb dX10_counting_107 hl (k := 0) rfl (nI_inc j) (by decide) rfl (fun ls hl => ?_)
        refine lv_goto (tgt := 8) hx hb dX10_counting_110 (by decide) ?_
        exact ih (j + 1) _ _ (by omega) (by rw [mcs_s, ← ha]; clear hP hS hl hc hx hb hr ih; simp_all [-Int32.not_le, -Int32.not_lt, i32_lt, nb_t, nb_f, nb_z, nb_o]) _ _ _ hP hS (lv_sub hl [0, 1, 2, 3, 4, 5] rfl)
      · refine lv_aload_n hx hb dX10_counting_27 rfl (lv_at hl 5 rfl) ?_
        refine lv_aload_n hx hb dX10_counting_28 rfl (lv_at hl 5 rfl) ?_
        refine g10_64 hc hP (nv_m hon3 (by decide) Nat.zero_lt_one) dX10_counting_29 ?_
        refine lv_iload hx hb dX10_counting_32 (lv_at hl 0 rfl) ?_
        refine la_53 hc hP (nv_m hon3 (by decide) Nat.zero_lt_one) hjv dX10_counting_34 ?_
        refine lv_iload_n hx hb dX10_counting_35 rfl (lv_at hl 3 rfl) ?_
        refine nc_Vi (c_X10_isGone hI hon3 (hok.sp hjs)) hc hP hS hl.1 gd10_161 (nrecv (q := (RX10, TX10, 31)) hc (npic_eta hP) (nv_m hon3 (by decide) Nat.zero_lt_one) rfl rfl) ⟨rfl, rfl⟩ nok_X10_isGone rfl ⟨Nat.le_of_ble_eq_true rfl, Nat.le_of_ble_eq_true rfl⟩ ⟨Nat.le_of_ble_eq_true rfl, Nat.le_of_ble_eq_true rfl⟩ dX10_counting_36 rfl (Nat.le_of_ble_eq_true rfl) (fun r X1 H locs hp hP hS => ?_)
        obtain ⟨hr9, hX9⟩ := hp
        rw [hX9] at hP
        subst hr9
        refine lv_if_ne (tgt := 107) hx hb dX10_counting_39 (by decide) (fun c_39 => ?_) (fun c_39 => ?_)
        · refine lv_iinc (v := nI (j + 1)) (lv' := [(6, .int _), (4, .long _), (3, .int _), (2, .int _), (1, .int _), (0, .ref _)]) hx hb dX10_counting_107 hl (k := 0) rfl (nI_inc j) (by decide) rfl (fun ls hl => ?_)
          refine lv_goto (tgt := 8) hx hb dX10_counting_110 (by decide) ?_
          exact ih (j + 1) _ _ (by omega) (by rw [mcs_s, ← ha]; clear hP hS hl hc hx hb hr ih; simp_all [-Int32.not_le, -Int32.not_lt, i32_lt, nb_t, nb_f, nb_z, nb_o]) _ _ _ hP hS (lv_sub hl [0, 1, 2, 3, 4, 5] rfl)
        · refine lv_iload_n hx hb dX10_counting_42 rfl (lv_at hl 2 rfl) ?_
          refine lv_aload_n hx hb dX10_counting_43 rfl (lv_at hl 5 rfl) ?_
          refine g10_64 hc hP (nv_m hon3 (by decide) Nat.zero_lt_one) dX10_counting_44 ?_
          refine lv_iload hx hb dX10_counting_47 (lv_at hl 0 rfl) ?_
          refine la_53 hc hP (nv_m hon3 (by decide) Nat.zero_lt_one) hjv dX10_counting_49 ?_
          refine lv_iload_n hx hb dX10_counting_50 rfl (lv_at hl 4 rfl) ?_
          refine lv_icmp_ne (tgt := 90) hx hb dX10_counting_51 (by decide) (fun c_51 => ?_) (fun c_51 => ?_)
          · refine lv_iconst (v := 0) hx hb dX10_counting_90 (by decide) ?_
            refine lv_iadd hx hb dX10_counting_91 ?_
            refine lv_istore_n (lv' := [(3, .int _), (6, .int _), (4, .long _), (2, .int _), (1, .int _), (0, .ref _)]) hx hb dX10_counting_92 rfl hl (by decide) rfl (fun ls hl => ?_)
            refine lv_lload hx hb dX10_counting_93 (lv_at hl 2 rfl) ?_
            refine lv_lconst (v := 1) hx hb dX10_counting_95 rfl ?_
            refine lv_aload_n hx hb dX10_counting_96 rfl (lv_at hl 5 rfl) ?_
            refine g10_67 hc hP (nv_m hon3 (by decide) Nat.zero_lt_one) dX10_counting_97 ?_
            refine lv_iload hx hb dX10_counting_100 (lv_at hl 1 rfl) ?_
            refine la_54 hc hP (nv_m hon3 (by decide) Nat.zero_lt_one) hjv dX10_counting_102 ?_
            refine lv_lshl hx hb dX10_counting_103 rfl ?_
            refine lv_lor hx hb dX10_counting_104 ?_
            refine lv_lstore (lv' := [(4, .long _), (3, .int _), (6, .int _), (2, .int _), (1, .int _), (0, .ref _)]) hx hb dX10_counting_105 hl (by decide) rfl (fun ls hl => ?_)
            refine lv_iinc (v := nI (j + 1)) (lv' := [(6, .int _), (4, .long _), (3, .int _), (2, .int _), (1, .int _), (0, .ref _)]) hx hb dX10_counting_107 hl (k := 2) rfl (nI_inc j) (by decide) rfl (fun ls hl => ?_)
            refine lv_goto (tgt := 8) hx hb dX10_counting_110 (by decide) ?_
            exact ih (j + 1) _ _ (by omega) (by rw [mcs_s, ← ha]; clear hP hS hl hc hx hb hr ih; simp_all [-Int32.not_le, -Int32.not_lt, i32_lt, nb_t, nb_f, nb_z, nb_o]) _ _ _ hP hS (lv_sub hl [0, 1, 2, 3, 4, 5] rfl)
          · refine lv_aload_n hx hb dX10_counting_54 rfl (lv_at hl 5 rfl) ?_
            refine g10_33 hc hP (nv_m hon3 (by decide) Nat.zero_lt_one) dX10_counting_55 ?_
            refine lv_aload_n hx hb dX10_counting_58 rfl (lv_at hl 5 rfl) ?_
            refine g10_67 hc hP (nv_m hon3 (by decide) Nat.zero_lt_one) dX10_counting_59 ?_
            refine lv_iload hx hb dX10_counting_62 (lv_at hl 0 rfl) ?_
            refine la_54 hc hP (nv_m hon3 (by decide) Nat.zero_lt_one) hjv dX10_counting_64 ?_
            refine la_41 hc hP (nv_m hon3 (by decide) Nat.zero_lt_one) (hok.sv hjs) dX10_counting_65 ?_
            refine lv_if_ne (tgt := 90) hx hb dX10_counting_66 (by decide) (fun c_66 => ?_) (fun c_66 => ?_)
            · refine lv_iconst (v := 0) hx hb dX10_counting_90 (by decide) ?_
              refine lv_iadd hx hb dX10_counting_91 ?_
              refine lv_istore_n (lv' := [(3, .int _), (6, .int _), (4, .long _), (2, .int _), (1, .int _), (0, .ref _)]) hx hb dX10_counting_92 rfl hl (by decide) rfl (fun ls hl => ?_)
              refine lv_lload hx hb dX10_counting_93 (lv_at hl 2 rfl) ?_
              refine lv_lconst (v := 1) hx hb dX10_counting_95 rfl ?_
              refine lv_aload_n hx hb dX10_counting_96 rfl (lv_at hl 5 rfl) ?_
              refine g10_67 hc hP (nv_m hon3 (by decide) Nat.zero_lt_one) dX10_counting_97 ?_
              refine lv_iload hx hb dX10_counting_100 (lv_at hl 1 rfl) ?_
              refine la_54 hc hP (nv_m hon3 (by decide) Nat.zero_lt_one) hjv dX10_counting_102 ?_
              refine lv_lshl hx hb dX10_counting_103 rfl ?_
              refine lv_lor hx hb dX10_counting_104 ?_
              refine lv_lstore (lv' := [(4, .long _), (3, .int _), (6, .int _), (2, .int _), (1, .int _), (0, .ref _)]) hx hb dX10_counting_105 hl (by decide) rfl (fun ls hl => ?_)
              refine lv_iinc (v := nI (j + 1)) (lv' := [(6, .int _), (4, .long _), (3, .int _), (2, .int _), (1, .int _), (0, .ref _)]) hx hb dX10_counting_107 hl (k := 2) rfl (nI_inc j) (by decide) rfl (fun ls hl => ?_)
              refine lv_goto (tgt := 8) hx hb dX10_counting_110 (by decide) ?_
              exact ih (j + 1) _ _ (by omega) (by rw [mcs_s, ← ha]; clear hP hS hl hc hx hb hr ih; simp_all [-Int32.not_le, -Int32.not_lt, i32_lt, nb_t, nb_f, nb_z, nb_o]) _ _ _ hP hS (lv_sub hl [0, 1, 2, 3, 4, 5] rfl)
            · refine lv_lload hx hb dX10_counting_69 (lv_at hl 1 rfl) ?_
              refine lv_aload_n hx hb dX10_counting_71 rfl (lv_at hl 5 rfl) ?_
              refine g10_67 hc hP (nv_m hon3 (by decide) Nat.zero_lt_one) dX10_counting_72 ?_
              refine lv_iload hx hb dX10_counting_75 (lv_at hl 0 rfl) ?_
              refine la_54 hc hP (nv_m hon3 (by decide) Nat.zero_lt_one) hjv dX10_counting_77 ?_
              refine lv_lshr hx hb dX10_counting_78 rfl ?_
              refine lv_lconst (v := 1) hx hb dX10_counting_79 rfl ?_
              refine lv_land hx hb dX10_counting_80 ?_
              refine lv_lconst (v := 0) hx hb dX10_counting_81 rfl ?_
              refine nl_lcmp hx hb dX10_counting_82 ?_
              refine lv_if_ne (tgt := 90) hx hb dX10_counting_83 (by decide) (fun c_83 => ?_) (fun c_83 => ?_)
              · refine lv_iconst (v := 0) hx hb dX10_counting_90 (by decide) ?_
                refine lv_iadd hx hb dX10_counting_91 ?_
                refine lv_istore_n (lv' := [(3, .int _), (6, .int _), (4, .long _), (2, .int _), (1, .int _), (0, .ref _)]) hx hb dX10_counting_92 rfl hl (by decide) rfl (fun ls hl => ?_)
                refine lv_lload hx hb dX10_counting_93 (lv_at hl 2 rfl) ?_
                refine lv_lconst (v := 1) hx hb dX10_counting_95 rfl ?_
                refine lv_aload_n hx hb dX10_counting_96 rfl (lv_at hl 5 rfl) ?_
                refine g10_67 hc hP (nv_m hon3 (by decide) Nat.zero_lt_one) dX10_counting_97 ?_
                refine lv_iload hx hb dX10_counting_100 (lv_at hl 1 rfl) ?_
                refine la_54 hc hP (nv_m hon3 (by decide) Nat.zero_lt_one) hjv dX10_counting_102 ?_
                refine lv_lshl hx hb dX10_counting_103 rfl ?_
                refine lv_lor hx hb dX10_counting_104 ?_
                refine lv_lstore (lv' := [(4, .long _), (3, .int _), (6, .int _), (2, .int _), (1, .int _), (0, .ref _)]) hx hb dX10_counting_105 hl (by decide) rfl (fun ls hl => ?_)
                refine lv_iinc (v := nI (j + 1)) (lv' := [(6, .int _), (4, .long _), (3, .int _), (2, .int _), (1, .int _), (0, .ref _)]) hx hb dX10_counting_107 hl (k := 2) rfl (nI_inc j) (by decide) rfl (fun ls hl => ?_)
                refine lv_goto (tgt := 8) hx hb dX10_counting_110 (by decide) ?_
                exact ih (j + 1) _ _ (by omega) (by rw [mcs_s, ← ha]; clear hP hS hl hc hx hb hr ih; simp_all [-Int32.not_le, -Int32.not_lt, i32_lt, nb_t, nb_f, nb_z, nb_o]) _ _ _ hP hS (lv_sub hl [0, 1, 2, 3, 4, 5] rfl)
              · refine lv_iconst (v := 1) hx hb dX10_counting_86 (by decide) ?_
                refine lv_goto (tgt := 91) hx hb dX10_counting_87 (by decide) ?_
                refine lv_iadd hx hb dX10_counting_91 ?_
                refine lv_istore_n (lv' := [(3, .int _), (6, .int _), (4, .long _), (2, .int _), (1, .int _), (0, .ref _)]) hx hb dX10_counting_92 rfl hl (by decide) rfl (fun ls hl => ?_)
                refine lv_lload hx hb dX10_counting_93 (lv_at hl 2 rfl) ?_
                refine lv_lconst (v := 1) hx hb dX10_counting_95 rfl ?_
                refine lv_aload_n hx hb dX10_counting_96 rfl (lv_at hl 5 rfl) ?_
                refine g10_67 hc hP (nv_m hon3 (by decide) Nat.zero_lt_one) dX10_counting_97 ?_
                refine lv_iload hx hb dX10_counting_100 (lv_at hl 1 rfl) ?_
                refine la_54 hc hP (nv_m hon3 (by decide) Nat.zero_lt_one) hjv dX10_counting_102 ?_
                refine lv_lshl hx hb dX10_counting_103 rfl ?_
                refine lv_lor hx hb dX10_counting_104 ?_
                refine lv_lstore (lv' := [(4, .long _), (3, .int _), (6, .int _), (2, .int _), (1, .int _), (0, .ref _)]) hx hb dX10_counting_105 hl (by decide) rfl (fun ls hl => ?_)
                refine lv_iinc (v := nI (j + 1)) (lv' := [(6, .int _), (4, .long _), (3, .int _), (2, .int _), (1, .int _), (0, .ref _)]) hx hb dX10_counting_107 hl (k := 2) rfl (nI_inc j) (by decide) rfl (fun ls hl => ?_)
                refine lv_goto (tgt := 8) hx hb dX10_counting_110 (by decide) ?_
                exact ih (j + 1) _ _ (by omega) (by rw [mcs_s, ← ha]; clear hP hS hl hc hx hb hr ih; simp_all [-Int32.not_le, -Int32.not_lt, i32_lt, nb_t, nb_f, nb_z, nb_o]) _ _ _ hP hS (lv_sub hl [0, 1, 2, 3, 4, 5] rfl)
  refine lv_iconst (v := 0) hx hb dX10_counting_0 (by decide) ?_
  refine lv_istore_n (lv' := [(3, .int _), (0, .ref _), (1, .int _), (2, .int _)]) hx hb dX10_counting_1 rfl hl (by decide) rfl (fun ls hl => ?_)
  refine lv_lconst (v := 0) hx hb dX10_counting_2 rfl ?_
  refine lv_lstore (lv' := [(4, .long _), (3, .int _), (0, .ref _), (1, .int _), (2, .int _)]) hx hb dX10_counting_3 hl (by decide) rfl (fun ls hl => ?_)
  refine lv_iconst (v := nI 0) hx hb dX10_counting_5 (by decide) ?_
  refine lv_istore (lv' := [(6, .int _), (4, .long _), (3, .int _), (0, .ref _), (1, .int _), (2, .int _)]) hx hb dX10_counting_6 hl (by decide) rfl (fun ls hl => ?_)
  exact lp _ 0 _ _ (Nat.zero_add _) rfl _ _ _ hP hS (lv_sub hl [0, 1, 2, 5, 4, 3] rfl)
set_option maxHeartbeats 4000000 in
set_option maxRecDepth 100000 in
theorem c_X10_counted (hI : ninj ad on) (hon3 : on 3) (hT : nput M 30 0 0 0 = T) (hok : mOk T) {x : Int32} : nMi l D dA ad on yX10_counted cX10_counted 4 (some .int) (nrm 9) [.ref (ad 3 30 0), .int x] (wdo X 3 M) (fun r X' => r = (mG (mIn x 0 (T 30 0 12 - 1)) 1 T (0 : Int32) ((mCounted T x, T))).1 ∧ X' = wdo X 3 (mG (mIn x 0 (T 30 0 12 - 1)) 1 T (0 : Int32) ((mCounted T x, T))).2) := by
  refine nM_of hI (by decide +kernel) (Nat.le_of_ble_eq_true rfl) ?_
  intro p e s m args below meth cd ls hc hr _ hP hl hS
  have hx := hc.1
  have hb := hc.2.1
  have hl : lv_has ls 4 [(0, .ref (ad 3 30 0)), (1, .int x)] := hl
  have lp : ∀ (r j : Nat) (acc : Int32), j + r = mns T → acc = isum (fun k => if decide (T 53 0 k = x) && decide (mRes T k = 0) then 1 else 0) j → ¬ nb (mIn x 0 (T 30 0 12 - 1)) = 0 → ∀ (H : Heap) (locs : List Loc) (ls : Array Slot), npic D dA ad on (wdo X 3 T) H → va_S (nA ad on) s.heap H locs → lv_has ls 4 [(3, .int (nI j)), (2, .int acc), (1, .int x), (0, .ref (ad 3 30 0))] → W p l e (nrm 9) s m args below meth cd H locs 0 0 (MQ below (va_Qi (fun r X' => r = (mG (mIn x 0 (T 30 0 12 - 1)) 1 T (0 : Int32) ((mCounted T x, T))).1 ∧ X' = wdo X 3 (mG (mIn x 0 (T 30 0 12 - 1)) 1 T (0 : Int32) ((mCounted T x, T))).2) (fun X' t => npic D dA ad on X' t.heap) (nA ad on)) args s 0 0 (nA ad on)) (F0 m 23 ls []) := by
    intro r
    induction r with
    | zero =>
      intro j acc hj ha c_10 H locs ls hP hS hl
      have hjn : j = mns T := by omega
      refine lv_iload_n hx hb dX10_counted_23 rfl (lv_at hl 0 rfl) ?_
      refine lv_aload_n hx hb dX10_counted_24 rfl (lv_at hl 3 rfl) ?_
      refine g10_115 hc hP (nv_m hon3 (by decide) Nat.zero_lt_one) dX10_counted_25 ?_
      refine lv_icmp_ge (tgt := 63) hx hb dX10_counted_28 (by decide) (fun c_28 => ?_) (fun c_28 => absurd (lp_le hok.ns hjn) c_28)
      refine lv_iload_n hx hb dX10_counted_63 rfl (lv_at hl 1 rfl) ?_
      exact ne_i hc hP hS hr dX10_counted_64 (mR_of ((mG_t (by clear hP hS hl hc hx hb hr hT; simp_all [-Int32.not_le, -Int32.not_lt, i32_lt, nb_t, nb_f, nb_z, nb_o])).trans ((by rw [mCounted, ← hjn, ← ha]))))
    | succ r ih =>
      intro j acc hj ha c_10 H locs ls hP hS hl
      have hjn : j < mns T := by omega
      have hj150 : j < 150 := Nat.lt_of_lt_of_le hjn hok.ns150
      have ej : nix (nI j) = j := nI_clamp (by omega)
      have hjv : vp_in (nI j) 150 := vp_in_nI hj150 (by decide)
      have hjs : nix (nI j) < mns T := by rw [ej]; exact hjn
      have hjn2 : vp_in (nI j) (mns T) := vp_in_nI hjn hok.nsL
      refine lv_iload_n hx hb dX10_counted_23 rfl (lv_at hl 0 rfl) ?_
      refine lv_aload_n hx hb dX10_counted_24 rfl (lv_at hl 3 rfl) ?_
      refine g10_115 hc hP (nv_m hon3 (by decide) Nat.zero_lt_one) dX10_counted_25 ?_
      refine lv_icmp_ge (tgt := 63) hx hb dX10_counted_28 (by decide) (fun c_28 => absurd c_28 (lp_gt hok.ns hjn hok.nsL)) (fun c_28 => ?_)
      refine lv_iload_n hx hb dX10_counted_31 rfl (lv_at hl 1 rfl) ?_
      refine lv_aload_n hx hb dX10_counted_32 rfl (lv_at hl 3 rfl) ?_
      refine g10_64 hc hP (nv_m hon3 (by decide) Nat.zero_lt_one) dX10_counted_33 ?_
      refine lv_iload_n hx hb dX10_counted_36 rfl (lv_at hl 0 rfl) ?_
      refine la_53 hc hP (nv_m hon3 (by decide) Nat.zero_lt_one) hjv dX10_counted_37 ?_
      refine lv_iload_n hx hb dX10_counted_38 rfl (lv_at hl 2 rfl) ?_
      refine lv_icmp_ne (tgt := 54) hx hb dX10_counted_39 (by decide) (fun c_39 => ?_) (fun c_39 => ?_)
      · refine lv_iconst (v := 0) hx hb dX10_counted_54 (by decide) ?_
        refine lv_iadd hx hb dX10_counted_55 ?_
        refine lv_istore_n (lv' := [(2, .int _), (3, .int _), (1, .int _), (0, .ref _)]) hx hb dX10_counted_56 rfl hl (by decide) rfl (fun ls hl => ?_)
        refine lv_iinc (v := nI (j + 1)) (lv' := [(3, .int _), (2, .int _), (1, .int _), (0, .ref _)]) hx hb dX10_counted_57 hl (k := 1) rfl (nI_inc j) (by decide) rfl (fun ls hl => ?_)
        refine lv_goto (tgt := 23) hx hb dX10_counted_60 (by decide) ?_
        exact ih (j + 1) _ (by omega) (by rw [isum_s, ← ha]; clear hP hS hl hc hx hb hr ih hT; simp_all [-Int32.not_le, -Int32.not_lt, i32_lt, nb_t, nb_f, nb_z, nb_o]) c_10 _ _ _ hP hS (lv_sub hl [0, 1, 2, 3] rfl)
      · refine lv_aload_n hx hb dX10_counted_42 rfl (lv_at hl 3 rfl) ?_
        refine lv_iload_n hx hb dX10_counted_43 rfl (lv_at hl 0 rfl) ?_
        refine nc_Vi (c_X10_result hI hon3 hok hjn2) hc hP hS hl.1 gd10_168 (nrecv (q := (RX10, TX10, 31)) hc (npic_eta hP) (nv_m hon3 (by decide) Nat.zero_lt_one) rfl rfl) ⟨rfl, rfl⟩ nok_X10_result rfl ⟨Nat.le_of_ble_eq_true rfl, Nat.le_of_ble_eq_true rfl⟩ ⟨Nat.le_of_ble_eq_true rfl, Nat.le_of_ble_eq_true rfl⟩ dX10_counted_44 rfl (Nat.le_of_ble_eq_true rfl) (fun r X1 H locs hp hP hS => ?_)
        obtain ⟨hr9, hX9⟩ := hp
        rw [hX9] at hP
        subst hr9
        refine lv_if_ne (tgt := 54) hx hb dX10_counted_47 (by decide) (fun c_47 => ?_) (fun c_47 => ?_)
        · refine lv_iconst (v := 0) hx hb dX10_counted_54 (by decide) ?_
          refine lv_iadd hx hb dX10_counted_55 ?_
          refine lv_istore_n (lv' := [(2, .int _), (3, .int _), (1, .int _), (0, .ref _)]) hx hb dX10_counted_56 rfl hl (by decide) rfl (fun ls hl => ?_)
          refine lv_iinc (v := nI (j + 1)) (lv' := [(3, .int _), (2, .int _), (1, .int _), (0, .ref _)]) hx hb dX10_counted_57 hl (k := 1) rfl (nI_inc j) (by decide) rfl (fun ls hl => ?_)
          refine lv_goto (tgt := 23) hx hb dX10_counted_60 (by decide) ?_
          exact ih (j + 1) _ (by omega) (by rw [isum_s, ← ha]; clear hP hS hl hc hx hb hr ih hT; simp_all [-Int32.not_le, -Int32.not_lt, i32_lt, nb_t, nb_f, nb_z, nb_o]) c_10 _ _ _ hP hS (lv_sub hl [0, 1, 2, 3] rfl)
        · refine lv_iconst (v := 1) hx hb dX10_counted_50 (by decide) ?_
          refine lv_goto (tgt := 55) hx hb dX10_counted_51 (by decide) ?_
          refine lv_iadd hx hb dX10_counted_55 ?_
          refine lv_istore_n (lv' := [(2, .int _), (3, .int _), (1, .int _), (0, .ref _)]) hx hb dX10_counted_56 rfl hl (by decide) rfl (fun ls hl => ?_)
          refine lv_iinc (v := nI (j + 1)) (lv' := [(3, .int _), (2, .int _), (1, .int _), (0, .ref _)]) hx hb dX10_counted_57 hl (k := 1) rfl (nI_inc j) (by decide) rfl (fun ls hl => ?_)
          refine lv_goto (tgt := 23) hx hb dX10_counted_60 (by decide) ?_
          exact ih (j + 1) _ (by omega) (by rw [isum_s, ← ha]; clear hP hS hl hc hx hb hr ih hT; simp_all [-Int32.not_le, -Int32.not_lt, i32_lt, nb_t, nb_f, nb_z, nb_o]) c_10 _ _ _ hP hS (lv_sub hl [0, 1, 2, 3] rfl)
  refine lv_aload_n hx hb dX10_counted_0 rfl (lv_at hl 0 rfl) ?_
  refine lv_iconst (v := 0) hx hb dX10_counted_1 (by decide) ?_
  refine p10_85 hc hP hS (nv_m hon3 (by decide) Nat.zero_lt_one) dX10_counted_2 (fun H locs hP hS => ?_)
  rw [hT] at hP
  refine lv_aload_n hx hb dX10_counted_5 rfl (lv_at hl 0 rfl) ?_
  refine lv_iload_n hx hb dX10_counted_6 rfl (lv_at hl 1 rfl) ?_
  refine nc_Vi (c_X10_isPaper hI hon3 ) hc hP hS hl.1 gd10_152 (nrecv (q := (RX10, TX10, 31)) hc (npic_eta hP) (nv_m hon3 (by decide) Nat.zero_lt_one) rfl rfl) ⟨rfl, rfl⟩ nok_X10_isPaper rfl ⟨Nat.le_of_ble_eq_true rfl, Nat.le_of_ble_eq_true rfl⟩ ⟨Nat.le_of_ble_eq_true rfl, Nat.le_of_ble_eq_true rfl⟩ dX10_counted_7 rfl (Nat.le_of_ble_eq_true rfl) (fun r X1 H locs hp hP hS => ?_)
  obtain ⟨hr9, hX9⟩ := hp
  rw [hX9] at hP
  subst hr9
  refine lv_if_ne (tgt := 19) hx hb dX10_counted_10 (by decide) (fun c_10 => ?_) (fun c_10 => ?_)
  · refine lv_iconst (v := 0) hx hb dX10_counted_19 (by decide) ?_
    refine lv_istore_n (lv' := [(2, .int _), (0, .ref _), (1, .int _)]) hx hb dX10_counted_20 rfl hl (by decide) rfl (fun ls hl => ?_)
    refine lv_iconst (v := nI 0) hx hb dX10_counted_21 (by decide) ?_
    refine lv_istore_n (lv' := [(3, .int _), (2, .int _), (0, .ref _), (1, .int _)]) hx hb dX10_counted_22 rfl hl (by decide) rfl (fun ls hl => ?_)
    exact lp _ 0 _ (Nat.zero_add _) rfl c_10 _ _ _ hP hS (lv_sub hl [0, 1, 3, 2] rfl)
  · refine lv_aload_n hx hb dX10_counted_13 rfl (lv_at hl 0 rfl) ?_
    refine lv_iconst (v := 1) hx hb dX10_counted_14 (by decide) ?_
    refine nc_Vi (c_X10_fails hI hon3) hc hP hS hl.1 gd10_104 (nrecv (q := (RX10, TX10, 31)) hc (npic_eta hP) (nv_m hon3 (by decide) Nat.zero_lt_one) rfl rfl) ⟨rfl, rfl⟩ nok_X10_fails rfl ⟨Nat.le_of_ble_eq_true rfl, Nat.le_of_ble_eq_true rfl⟩ ⟨Nat.le_of_ble_eq_true rfl, Nat.le_of_ble_eq_true rfl⟩ dX10_counted_15 rfl (Nat.le_of_ble_eq_true rfl) (fun r X1 H locs hp hP hS => ?_)
    obtain ⟨hr9, hX9⟩ := hp
    rw [hX9] at hP
    subst hr9
    exact ne_i hc hP hS hr dX10_counted_18 (mR_of (mG_f (by clear hP hS hl hc hx hb hr hT; simp_all [-Int32.not_le, -Int32.not_lt, i32_lt, nb_t, nb_f, nb_z, nb_o])))
set_option maxHeartbeats 4000000 in
set_option maxRecDepth 100000 in
theorem c_X10_signatureResult (hI : ninj ad on) (hon3 : on 3) (hT : nput M 30 0 0 0 = T) (hok : mOk T) {k : Int32} : nMi l D dA ad on yX10_signatureResult cX10_signatureResult 2 (some .int) (nrm 9) [.ref (ad 3 30 0), .int k] (wdo X 3 M) (fun r X' => r = (mG (mIn k 0 (T 30 0 22 - 1)) 1 T (0 : Int32) ((mRes T (nix k), T))).1 ∧ X' = wdo X 3 (mG (mIn k 0 (T 30 0 22 - 1)) 1 T (0 : Int32) ((mRes T (nix k), T))).2) := by
  refine nM_of hI (by decide +kernel) (Nat.le_of_ble_eq_true rfl) ?_
  intro p e s m args below meth cd ls hc hr _ hP hl hS
  have hx := hc.1
  have hb := hc.2.1
  have hl : lv_has ls 2 [(0, .ref (ad 3 30 0)), (1, .int k)] := hl
  refine lv_aload_n hx hb dX10_signatureResult_0 rfl (lv_at hl 0 rfl) ?_
  refine lv_iconst (v := 0) hx hb dX10_signatureResult_1 (by decide) ?_
  refine p10_85 hc hP hS (nv_m hon3 (by decide) Nat.zero_lt_one) dX10_signatureResult_2 (fun H locs hP hS => ?_)
  rw [hT] at hP
  refine lv_iload_n hx hb dX10_signatureResult_5 rfl (lv_at hl 1 rfl) ?_
  refine lv_iconst (v := 0) hx hb dX10_signatureResult_6 (by decide) ?_
  refine lv_aload_n hx hb dX10_signatureResult_7 rfl (lv_at hl 0 rfl) ?_
  refine g10_115 hc hP (nv_m hon3 (by decide) Nat.zero_lt_one) dX10_signatureResult_8 ?_
  refine lv_iconst (v := 1) hx hb dX10_signatureResult_11 (by decide) ?_
  refine lv_isub hx hb dX10_signatureResult_12 ?_
  refine nc_Si (c_X10_isIn hI) hc hP hS hl.1 gd10_91 ⟨rfl, rfl⟩ nok_X10_isIn rfl ⟨Nat.le_of_ble_eq_true rfl, Nat.le_of_ble_eq_true rfl⟩ ⟨Nat.le_of_ble_eq_true rfl, Nat.le_of_ble_eq_true rfl⟩ dX10_signatureResult_13 rfl (Nat.le_of_ble_eq_true rfl) (fun r X1 H locs hp hP hS => ?_)
  obtain ⟨hr9, hX9⟩ := hp
  rw [hX9] at hP
  subst hr9
  refine lv_if_eq (tgt := 27) hx hb dX10_signatureResult_16 (by decide) (fun c_16 => ?_) (fun c_16 => ?_)
  · refine lv_aload_n hx hb dX10_signatureResult_27 rfl (lv_at hl 0 rfl) ?_
    refine lv_iconst (v := 1) hx hb dX10_signatureResult_28 (by decide) ?_
    refine nc_Vi (c_X10_fails hI hon3) hc hP hS hl.1 gd10_104 (nrecv (q := (RX10, TX10, 31)) hc (npic_eta hP) (nv_m hon3 (by decide) Nat.zero_lt_one) rfl rfl) ⟨rfl, rfl⟩ nok_X10_fails rfl ⟨Nat.le_of_ble_eq_true rfl, Nat.le_of_ble_eq_true rfl⟩ ⟨Nat.le_of_ble_eq_true rfl, Nat.le_of_ble_eq_true rfl⟩ dX10_signatureResult_29 rfl (Nat.le_of_ble_eq_true rfl) (fun r X1 H locs hp hP hS => ?_)
    obtain ⟨hr9, hX9⟩ := hp
    rw [hX9] at hP
    subst hr9
    exact ne_i hc hP hS hr dX10_signatureResult_32 (mR_of (mG_f (by clear hP hS hl hc hx hb hr hT; simp_all [-Int32.not_le, -Int32.not_lt, i32_lt, nb_t, nb_f, nb_z, nb_o])))
  · refine lv_aload_n hx hb dX10_signatureResult_19 rfl (lv_at hl 0 rfl) ?_
    refine lv_iload_n hx hb dX10_signatureResult_20 rfl (lv_at hl 1 rfl) ?_
    refine nc_Vi (c_X10_result hI hon3 hok (mvp0 (nb_nz.mp c_16) hok.ns hok.nsL)) hc hP hS hl.1 gd10_168 (nrecv (q := (RX10, TX10, 31)) hc (npic_eta hP) (nv_m hon3 (by decide) Nat.zero_lt_one) rfl rfl) ⟨rfl, rfl⟩ nok_X10_result rfl ⟨Nat.le_of_ble_eq_true rfl, Nat.le_of_ble_eq_true rfl⟩ ⟨Nat.le_of_ble_eq_true rfl, Nat.le_of_ble_eq_true rfl⟩ dX10_signatureResult_21 rfl (Nat.le_of_ble_eq_true rfl) (fun r X1 H locs hp hP hS => ?_)
    obtain ⟨hr9, hX9⟩ := hp
    rw [hX9] at hP
    subst hr9
    refine lv_goto (tgt := 32) hx hb dX10_signatureResult_24 (by decide) ?_
    exact ne_i hc hP hS hr dX10_signatureResult_32 (mR_of ((mG_t (by clear hP hS hl hc hx hb hr hT; simp_all [-Int32.not_le, -Int32.not_lt, i32_lt, nb_t, nb_f, nb_z, nb_o])).trans (rfl)))
set_option maxHeartbeats 4000000 in
set_option maxRecDepth 100000 in
theorem c_X10_wouldCount (hI : ninj ad on) (hon3 : on 3) (hT : nput M 30 0 0 0 = T) (hok : mOk T) {x v : Int32} : nMi l D dA ad on yX10_wouldCount cX10_wouldCount 3 (some .boolean) (nrm 9) [.ref (ad 3 30 0), .int x, .int v] (wdo X 3 M) (fun r X' => r = (mG (mIn x 0 (T 30 0 12 - 1) && mIn v 0 (T 30 0 9 - 1)) 1 T (0 : Int32) (mG (mOpen T && decide (T 46 0 (nix x) ≤ 0)) 2 T (0 : Int32) ((nb (mLoc T x v && mFree T v (mns T) 0), T)))).1 ∧ X' = wdo X 3 (mG (mIn x 0 (T 30 0 12 - 1) && mIn v 0 (T 30 0 9 - 1)) 1 T (0 : Int32) (mG (mOpen T && decide (T 46 0 (nix x) ≤ 0)) 2 T (0 : Int32) ((nb (mLoc T x v && mFree T v (mns T) 0), T)))).2) := by
  refine nM_of hI (by decide +kernel) (Nat.le_of_ble_eq_true rfl) ?_
  intro p e s m args below meth cd ls hc hr _ hP hl hS
  have hx := hc.1
  have hb := hc.2.1
  have hl : lv_has ls 3 [(0, .ref (ad 3 30 0)), (1, .int x), (2, .int v)] := hl
  refine lv_aload_n hx hb dX10_wouldCount_0 rfl (lv_at hl 0 rfl) ?_
  refine lv_iconst (v := 0) hx hb dX10_wouldCount_1 (by decide) ?_
  refine p10_85 hc hP hS (nv_m hon3 (by decide) Nat.zero_lt_one) dX10_wouldCount_2 (fun H locs hP hS => ?_)
  rw [hT] at hP
  refine lv_aload_n hx hb dX10_wouldCount_5 rfl (lv_at hl 0 rfl) ?_
  refine lv_iload_n hx hb dX10_wouldCount_6 rfl (lv_at hl 1 rfl) ?_
  refine nc_Vi (c_X10_isPaper hI hon3 ) hc hP hS hl.1 gd10_152 (nrecv (q := (RX10, TX10, 31)) hc (npic_eta hP) (nv_m hon3 (by decide) Nat.zero_lt_one) rfl rfl) ⟨rfl, rfl⟩ nok_X10_isPaper rfl ⟨Nat.le_of_ble_eq_true rfl, Nat.le_of_ble_eq_true rfl⟩ ⟨Nat.le_of_ble_eq_true rfl, Nat.le_of_ble_eq_true rfl⟩ dX10_wouldCount_7 rfl (Nat.le_of_ble_eq_true rfl) (fun r X1 H locs hp hP hS => ?_)
  obtain ⟨hr9, hX9⟩ := hp
  rw [hX9] at hP
  subst hr9
  refine lv_if_eq (tgt := 21) hx hb dX10_wouldCount_10 (by decide) (fun c_10 => ?_) (fun c_10 => ?_)
  · refine lv_aload_n hx hb dX10_wouldCount_21 rfl (lv_at hl 0 rfl) ?_
    refine lv_iconst (v := 1) hx hb dX10_wouldCount_22 (by decide) ?_
    refine p10_85 hc hP hS (nv_m hon3 (by decide) Nat.zero_lt_one) dX10_wouldCount_23 (fun H locs hP hS => ?_)
    refine lv_iconst (v := 0) hx hb dX10_wouldCount_26 (by decide) ?_
    exact ne_z hc hP hS hr rfl dX10_wouldCount_27 (mR_of (mG_f (by clear hP hS hl hc hx hb hr hT; simp_all [-Int32.not_le, -Int32.not_lt, i32_lt, nb_t, nb_f, nb_z, nb_o])))
  · refine lv_aload_n hx hb dX10_wouldCount_13 rfl (lv_at hl 0 rfl) ?_
    refine lv_iload_n hx hb dX10_wouldCount_14 rfl (lv_at hl 2 rfl) ?_
    refine nc_Vi (c_X10_isVoter hI hon3 ) hc hP hS hl.1 gd10_129 (nrecv (q := (RX10, TX10, 31)) hc (npic_eta hP) (nv_m hon3 (by decide) Nat.zero_lt_one) rfl rfl) ⟨rfl, rfl⟩ nok_X10_isVoter rfl ⟨Nat.le_of_ble_eq_true rfl, Nat.le_of_ble_eq_true rfl⟩ ⟨Nat.le_of_ble_eq_true rfl, Nat.le_of_ble_eq_true rfl⟩ dX10_wouldCount_15 rfl (Nat.le_of_ble_eq_true rfl) (fun r X1 H locs hp hP hS => ?_)
    obtain ⟨hr9, hX9⟩ := hp
    rw [hX9] at hP
    subst hr9
    refine lv_if_ne (tgt := 28) hx hb dX10_wouldCount_18 (by decide) (fun c_18 => ?_) (fun c_18 => ?_)
    · refine lv_aload_n hx hb dX10_wouldCount_28 rfl (lv_at hl 0 rfl) ?_
      refine nc_Vi (c_X10_open hI hon3 ) hc hP hS hl.1 gd10_108 (nrecv (q := (RX10, TX10, 31)) hc (npic_eta hP) (nv_m hon3 (by decide) Nat.zero_lt_one) rfl rfl) ⟨rfl, rfl⟩ nok_X10_open rfl ⟨Nat.le_of_ble_eq_true rfl, Nat.le_of_ble_eq_true rfl⟩ ⟨Nat.le_of_ble_eq_true rfl, Nat.le_of_ble_eq_true rfl⟩ dX10_wouldCount_29 rfl (Nat.le_of_ble_eq_true rfl) (fun r X1 H locs hp hP hS => ?_)
      obtain ⟨hr9, hX9⟩ := hp
      rw [hX9] at hP
      subst hr9
      refine lv_if_eq (tgt := 44) hx hb dX10_wouldCount_32 (by decide) (fun c_32 => ?_) (fun c_32 => ?_)
      · refine lv_aload_n hx hb dX10_wouldCount_44 rfl (lv_at hl 0 rfl) ?_
        refine lv_iconst (v := 2) hx hb dX10_wouldCount_45 (by decide) ?_
        refine p10_85 hc hP hS (nv_m hon3 (by decide) Nat.zero_lt_one) dX10_wouldCount_46 (fun H locs hP hS => ?_)
        refine lv_iconst (v := 0) hx hb dX10_wouldCount_49 (by decide) ?_
        exact ne_z hc hP hS hr rfl dX10_wouldCount_50 (mR_of ((mG_t (by clear hP hS hl hc hx hb hr hT; simp_all [-Int32.not_le, -Int32.not_lt, i32_lt, nb_t, nb_f, nb_z, nb_o])).trans (mG_f (by clear hP hS hl hc hx hb hr hT; simp_all [-Int32.not_le, -Int32.not_lt, i32_lt, nb_t, nb_f, nb_z, nb_o]))))
      · refine lv_aload_n hx hb dX10_wouldCount_35 rfl (lv_at hl 0 rfl) ?_
        refine g10_46 hc hP (nv_m hon3 (by decide) Nat.zero_lt_one) dX10_wouldCount_36 ?_
        refine lv_iload_n hx hb dX10_wouldCount_39 rfl (lv_at hl 1 rfl) ?_
        refine la_46 hc hP (nv_m hon3 (by decide) Nat.zero_lt_one) (mvp (nb_nz.mp c_10) hok.np hok.np12 (by decide)) dX10_wouldCount_40 ?_
        refine lv_if_le (tgt := 51) hx hb dX10_wouldCount_41 (by decide) (fun c_41 => ?_) (fun c_41 => ?_)
        · refine lv_aload_n hx hb dX10_wouldCount_51 rfl (lv_at hl 0 rfl) ?_
          refine g10_33 hc hP (nv_m hon3 (by decide) Nat.zero_lt_one) dX10_wouldCount_52 ?_
          refine lv_iload_n hx hb dX10_wouldCount_55 rfl (lv_at hl 2 rfl) ?_
          refine la_41 hc hP (nv_m hon3 (by decide) Nat.zero_lt_one) (mvp (nb_nz.mp c_18) hok.nv hok.nv40 (by decide)) dX10_wouldCount_56 ?_
          refine lv_if_ne (tgt := 92) hx hb dX10_wouldCount_57 (by decide) (fun c_57 => ?_) (fun c_57 => ?_)
          · refine lv_iconst (v := 0) hx hb dX10_wouldCount_92 (by decide) ?_
            exact ne_z hc hP hS hr rfl dX10_wouldCount_93 (mR_of ((mG_t (by clear hP hS hl hc hx hb hr hT; simp_all [-Int32.not_le, -Int32.not_lt, i32_lt, nb_t, nb_f, nb_z, nb_o])).trans ((mG_t (by clear hP hS hl hc hx hb hr hT; simp_all [-Int32.not_le, -Int32.not_lt, i32_lt, nb_t, nb_f, nb_z, nb_o])).trans ((by clear hP hS hl hc hx hb hr hT; simp_all [mLoc, nb_t, nb_f, nb_z, -Int32.not_le, -Int32.not_lt, i32_lt])))))
          · refine lv_aload_n hx hb dX10_wouldCount_60 rfl (lv_at hl 0 rfl) ?_
            refine g10_30 hc hP (nv_m hon3 (by decide) Nat.zero_lt_one) dX10_wouldCount_61 ?_
            refine lv_iload_n hx hb dX10_wouldCount_64 rfl (lv_at hl 2 rfl) ?_
            refine la_40 hc hP (nv_m hon3 (by decide) Nat.zero_lt_one) (mvp (nb_nz.mp c_18) hok.nv hok.nv40 (by decide)) dX10_wouldCount_65 ?_
            refine lv_aload_n hx hb dX10_wouldCount_66 rfl (lv_at hl 0 rfl) ?_
            refine g10_36 hc hP (nv_m hon3 (by decide) Nat.zero_lt_one) dX10_wouldCount_67 ?_
            refine lv_iload_n hx hb dX10_wouldCount_70 rfl (lv_at hl 1 rfl) ?_
            refine la_43 hc hP (nv_m hon3 (by decide) Nat.zero_lt_one) (mvp (nb_nz.mp c_10) hok.np hok.np12 (by decide)) dX10_wouldCount_71 ?_
            refine lv_icmp_ne (tgt := 92) hx hb dX10_wouldCount_72 (by decide) (fun c_72 => ?_) (fun c_72 => ?_)
            · refine lv_iconst (v := 0) hx hb dX10_wouldCount_92 (by decide) ?_
              exact ne_z hc hP hS hr rfl dX10_wouldCount_93 (mR_of ((mG_t (by clear hP hS hl hc hx hb hr hT; simp_all [-Int32.not_le, -Int32.not_lt, i32_lt, nb_t, nb_f, nb_z, nb_o])).trans ((mG_t (by clear hP hS hl hc hx hb hr hT; simp_all [-Int32.not_le, -Int32.not_lt, i32_lt, nb_t, nb_f, nb_z, nb_o])).trans ((by clear hP hS hl hc hx hb hr hT; simp_all [mLoc, nb_t, nb_f, nb_z, -Int32.not_le, -Int32.not_lt, i32_lt])))))
            · refine lv_aload_n hx hb dX10_wouldCount_75 rfl (lv_at hl 0 rfl) ?_
              refine lv_iload_n hx hb dX10_wouldCount_76 rfl (lv_at hl 2 rfl) ?_
              refine lv_aload_n hx hb dX10_wouldCount_77 rfl (lv_at hl 0 rfl) ?_
              refine g10_115 hc hP (nv_m hon3 (by decide) Nat.zero_lt_one) dX10_wouldCount_78 ?_
              refine lv_iconst (v := 0) hx hb dX10_wouldCount_81 (by decide) ?_
              refine nc_Vi (c_X10_isFree hI hon3 hok (Nat.le_refl _) hok.ns) hc hP hS hl.1 gd10_165 (nrecv (q := (RX10, TX10, 31)) hc (npic_eta hP) (nv_m hon3 (by decide) Nat.zero_lt_one) rfl rfl) ⟨rfl, rfl⟩ nok_X10_isFree rfl ⟨Nat.le_of_ble_eq_true rfl, Nat.le_of_ble_eq_true rfl⟩ ⟨Nat.le_of_ble_eq_true rfl, Nat.le_of_ble_eq_true rfl⟩ dX10_wouldCount_82 rfl (Nat.le_of_ble_eq_true rfl) (fun r X1 H locs hp hP hS => ?_)
              obtain ⟨hr9, hX9⟩ := hp
              rw [hX9] at hP
              subst hr9
              refine lv_if_eq (tgt := 92) hx hb dX10_wouldCount_85 (by decide) (fun c_85 => ?_) (fun c_85 => ?_)
              · refine lv_iconst (v := 0) hx hb dX10_wouldCount_92 (by decide) ?_
                exact ne_z hc hP hS hr rfl dX10_wouldCount_93 (mR_of ((mG_t (by clear hP hS hl hc hx hb hr hT; simp_all [-Int32.not_le, -Int32.not_lt, i32_lt, nb_t, nb_f, nb_z, nb_o])).trans ((mG_t (by clear hP hS hl hc hx hb hr hT; simp_all [-Int32.not_le, -Int32.not_lt, i32_lt, nb_t, nb_f, nb_z, nb_o])).trans ((by clear hP hS hl hc hx hb hr hT; simp_all [mLoc, nb_t, nb_f, nb_z, -Int32.not_le, -Int32.not_lt, i32_lt])))))
              · refine lv_iconst (v := 1) hx hb dX10_wouldCount_88 (by decide) ?_
                refine lv_goto (tgt := 93) hx hb dX10_wouldCount_89 (by decide) ?_
                exact ne_z hc hP hS hr rfl dX10_wouldCount_93 (mR_of ((mG_t (by clear hP hS hl hc hx hb hr hT; simp_all [-Int32.not_le, -Int32.not_lt, i32_lt, nb_t, nb_f, nb_z, nb_o])).trans ((mG_t (by clear hP hS hl hc hx hb hr hT; simp_all [-Int32.not_le, -Int32.not_lt, i32_lt, nb_t, nb_f, nb_z, nb_o])).trans ((by clear hP hS hl hc hx hb hr hT; simp_all [mLoc, nb_t, nb_f, nb_z, -Int32.not_le, -Int32.not_lt, i32_lt])))))
        · refine lv_aload_n hx hb dX10_wouldCount_44 rfl (lv_at hl 0 rfl) ?_
          refine lv_iconst (v := 2) hx hb dX10_wouldCount_45 (by decide) ?_
          refine p10_85 hc hP hS (nv_m hon3 (by decide) Nat.zero_lt_one) dX10_wouldCount_46 (fun H locs hP hS => ?_)
          refine lv_iconst (v := 0) hx hb dX10_wouldCount_49 (by decide) ?_
          exact ne_z hc hP hS hr rfl dX10_wouldCount_50 (mR_of ((mG_t (by clear hP hS hl hc hx hb hr hT; simp_all [-Int32.not_le, -Int32.not_lt, i32_lt, nb_t, nb_f, nb_z, nb_o])).trans (mG_f (by clear hP hS hl hc hx hb hr hT; simp_all [-Int32.not_le, -Int32.not_lt, i32_lt, nb_t, nb_f, nb_z, nb_o]))))
    · refine lv_aload_n hx hb dX10_wouldCount_21 rfl (lv_at hl 0 rfl) ?_
      refine lv_iconst (v := 1) hx hb dX10_wouldCount_22 (by decide) ?_
      refine p10_85 hc hP hS (nv_m hon3 (by decide) Nat.zero_lt_one) dX10_wouldCount_23 (fun H locs hP hS => ?_)
      refine lv_iconst (v := 0) hx hb dX10_wouldCount_26 (by decide) ?_
      exact ne_z hc hP hS hr rfl dX10_wouldCount_27 (mR_of (mG_f (by clear hP hS hl hc hx hb hr hT; simp_all [-Int32.not_le, -Int32.not_lt, i32_lt, nb_t, nb_f, nb_z, nb_o])))
set_option maxHeartbeats 4000000 in
set_option maxRecDepth 100000 in
theorem c_X10_paperOf (hI : ninj ad on) (hon3 : on 3) (hT : nput M 30 0 0 0 = T) (hok : mOk T) {v : Int32} : nMi l D dA ad on yX10_paperOf cX10_paperOf 3 (some .int) (nrm 9) [.ref (ad 3 30 0), .int v] (wdo X 3 M) (fun r X' => r = (mG (mIn v 0 (T 30 0 9 - 1)) 1 T (0 : Int32) (mG ((mSup T v).isSome) 2 T (0 : Int32) ((T 53 0 ((mSup T v).getD 0), T)))).1 ∧ X' = wdo X 3 (mG (mIn v 0 (T 30 0 9 - 1)) 1 T (0 : Int32) (mG ((mSup T v).isSome) 2 T (0 : Int32) ((T 53 0 ((mSup T v).getD 0), T)))).2) := by
  refine nM_of hI (by decide +kernel) (Nat.le_of_ble_eq_true rfl) ?_
  intro p e s m args below meth cd ls hc hr _ hP hl hS
  have hx := hc.1
  have hb := hc.2.1
  have hl : lv_has ls 3 [(0, .ref (ad 3 30 0)), (1, .int v)] := hl
  have lp : ∀ (r j : Nat) , j + r = mns T → ffind (fun k => decide (T 54 0 k = v) && decide (mRes T k = 0)) j = none → ¬ nb (mIn v 0 (T 30 0 9 - 1)) = 0 → ∀ (H : Heap) (locs : List Loc) (ls : Array Slot), npic D dA ad on (wdo X 3 T) H → va_S (nA ad on) s.heap H locs → lv_has ls 3 [(2, .int (nI j)), (1, .int v), (0, .ref (ad 3 30 0))] → W p l e (nrm 9) s m args below meth cd H locs 0 0 (MQ below (va_Qi (fun r X' => r = (mG (mIn v 0 (T 30 0 9 - 1)) 1 T (0 : Int32) (mG ((mSup T v).isSome) 2 T (0 : Int32) ((T 53 0 ((mSup T v).getD 0), T)))).1 ∧ X' = wdo X 3 (mG (mIn v 0 (T 30 0 9 - 1)) 1 T (0 : Int32) (mG ((mSup T v).isSome) 2 T (0 : Int32) ((T 53 0 ((mSup T v).getD 0), T)))).2) (fun X' t => npic D dA ad on X' t.heap) (nA ad on)) args s 0 0 (nA ad on)) (F0 m 21 ls []) := by
    intro r
    induction r with
    | zero =>
      intro j  hj hf c_10 H locs ls hP hS hl
      have hjn : j = mns T := by omega
      have h9 : mSup T v = none := by rw [hjn] at hf; exact hf
      refine lv_iload_n hx hb dX10_paperOf_21 rfl (lv_at hl 0 rfl) ?_
      refine lv_aload_n hx hb dX10_paperOf_22 rfl (lv_at hl 2 rfl) ?_
      refine g10_115 hc hP (nv_m hon3 (by decide) Nat.zero_lt_one) dX10_paperOf_23 ?_
      refine lv_icmp_ge (tgt := 60) hx hb dX10_paperOf_26 (by decide) (fun c_26 => ?_) (fun c_26 => absurd (lp_le hok.ns hjn) c_26)
      refine lv_aload_n hx hb dX10_paperOf_60 rfl (lv_at hl 2 rfl) ?_
      refine lv_iconst (v := 2) hx hb dX10_paperOf_61 (by decide) ?_
      refine nc_Vi (c_X10_fails hI hon3) hc hP hS hl.1 gd10_104 (nrecv (q := (RX10, TX10, 31)) hc (npic_eta hP) (nv_m hon3 (by decide) Nat.zero_lt_one) rfl rfl) ⟨rfl, rfl⟩ nok_X10_fails rfl ⟨Nat.le_of_ble_eq_true rfl, Nat.le_of_ble_eq_true rfl⟩ ⟨Nat.le_of_ble_eq_true rfl, Nat.le_of_ble_eq_true rfl⟩ dX10_paperOf_62 rfl (Nat.le_of_ble_eq_true rfl) (fun r X1 H locs hp hP hS => ?_)
      obtain ⟨hr9, hX9⟩ := hp
      rw [hX9] at hP
      subst hr9
      exact ne_i hc hP hS hr dX10_paperOf_65 (mR_of ((mG_t (by clear hP hS hl hc hx hb hr hT; simp_all [-Int32.not_le, -Int32.not_lt, i32_lt, nb_t, nb_f, nb_z, nb_o])).trans (mG_f (by clear hP hS hl hc hx hb hr hT; simp_all [-Int32.not_le, -Int32.not_lt, i32_lt, nb_t, nb_f, nb_z, nb_o]))))
    | succ r ih =>
      intro j  hj hf c_10 H locs ls hP hS hl
      have hjn : j < mns T := by omega
      have hj150 : j < 150 := Nat.lt_of_lt_of_le hjn hok.ns150
      have ej : nix (nI j) = j := nI_clamp (by omega)
      have hjv : vp_in (nI j) 150 := vp_in_nI hj150 (by decide)
      have hjs : nix (nI j) < mns T := by rw [ej]; exact hjn
      have hjn2 : vp_in (nI j) (mns T) := vp_in_nI hjn hok.nsL
      refine lv_iload_n hx hb dX10_paperOf_21 rfl (lv_at hl 0 rfl) ?_
      refine lv_aload_n hx hb dX10_paperOf_22 rfl (lv_at hl 2 rfl) ?_
      refine g10_115 hc hP (nv_m hon3 (by decide) Nat.zero_lt_one) dX10_paperOf_23 ?_
      refine lv_icmp_ge (tgt := 60) hx hb dX10_paperOf_26 (by decide) (fun c_26 => absurd c_26 (lp_gt hok.ns hjn hok.nsL)) (fun c_26 => ?_)
      refine lv_aload_n hx hb dX10_paperOf_29 rfl (lv_at hl 2 rfl) ?_
      refine g10_67 hc hP (nv_m hon3 (by decide) Nat.zero_lt_one) dX10_paperOf_30 ?_
      refine lv_iload_n hx hb dX10_paperOf_33 rfl (lv_at hl 0 rfl) ?_
      refine la_54 hc hP (nv_m hon3 (by decide) Nat.zero_lt_one) hjv dX10_paperOf_34 ?_
      refine lv_iload_n hx hb dX10_paperOf_35 rfl (lv_at hl 1 rfl) ?_
      refine lv_icmp_ne (tgt := 54) hx hb dX10_paperOf_36 (by decide) (fun c_36 => ?_) (fun c_36 => ?_)
      · refine lv_iinc (v := nI (j + 1)) (lv' := [(2, .int _), (1, .int _), (0, .ref _)]) hx hb dX10_paperOf_54 hl (k := 0) rfl (nI_inc j) (by decide) rfl (fun ls hl => ?_)
        refine lv_goto (tgt := 21) hx hb dX10_paperOf_57 (by decide) ?_
        exact ih (j + 1) (by omega) (by rw [ffind_s hf]; clear hP hS hl hc hx hb hr ih; simp_all [-Int32.not_le, -Int32.not_lt, i32_lt, nb_t, nb_f, nb_z, nb_o]) c_10 _ _ _ hP hS (lv_sub hl [0, 1, 2] rfl)
      · refine lv_aload_n hx hb dX10_paperOf_39 rfl (lv_at hl 2 rfl) ?_
        refine lv_iload_n hx hb dX10_paperOf_40 rfl (lv_at hl 0 rfl) ?_
        refine nc_Vi (c_X10_result hI hon3 hok hjn2) hc hP hS hl.1 gd10_168 (nrecv (q := (RX10, TX10, 31)) hc (npic_eta hP) (nv_m hon3 (by decide) Nat.zero_lt_one) rfl rfl) ⟨rfl, rfl⟩ nok_X10_result rfl ⟨Nat.le_of_ble_eq_true rfl, Nat.le_of_ble_eq_true rfl⟩ ⟨Nat.le_of_ble_eq_true rfl, Nat.le_of_ble_eq_true rfl⟩ dX10_paperOf_41 rfl (Nat.le_of_ble_eq_true rfl) (fun r X1 H locs hp hP hS => ?_)
        obtain ⟨hr9, hX9⟩ := hp
        rw [hX9] at hP
        subst hr9
        refine lv_if_ne (tgt := 54) hx hb dX10_paperOf_44 (by decide) (fun c_44 => ?_) (fun c_44 => ?_)
        · refine lv_iinc (v := nI (j + 1)) (lv' := [(2, .int _), (1, .int _), (0, .ref _)]) hx hb dX10_paperOf_54 hl (k := 0) rfl (nI_inc j) (by decide) rfl (fun ls hl => ?_)
          refine lv_goto (tgt := 21) hx hb dX10_paperOf_57 (by decide) ?_
          exact ih (j + 1) (by omega) (by rw [ffind_s hf]; clear hP hS hl hc hx hb hr ih; simp_all [-Int32.not_le, -Int32.not_lt, i32_lt, nb_t, nb_f, nb_z, nb_o]) c_10 _ _ _ hP hS (lv_sub hl [0, 1, 2] rfl)
        · have h9 : mSup T v = some j := ffind_at hf (by clear hP hS hl hc hx hb hr ih hT; simp_all [-Int32.not_le, -Int32.not_lt, i32_lt, nb_t, nb_f, nb_z, nb_o]) hjn
          refine lv_aload_n hx hb dX10_paperOf_47 rfl (lv_at hl 2 rfl) ?_
          refine g10_64 hc hP (nv_m hon3 (by decide) Nat.zero_lt_one) dX10_paperOf_48 ?_
          refine lv_iload_n hx hb dX10_paperOf_51 rfl (lv_at hl 0 rfl) ?_
          refine la_53 hc hP (nv_m hon3 (by decide) Nat.zero_lt_one) hjv dX10_paperOf_52 ?_
          exact ne_i hc hP hS hr dX10_paperOf_53 (mR_of ((mG_t (by clear hP hS hl hc hx hb hr hT; simp_all [-Int32.not_le, -Int32.not_lt, i32_lt, nb_t, nb_f, nb_z, nb_o])).trans ((mG_t (by clear hP hS hl hc hx hb hr hT; simp_all [-Int32.not_le, -Int32.not_lt, i32_lt, nb_t, nb_f, nb_z, nb_o])).trans ((by rw [h9, ej]; rfl)))))
  refine lv_aload_n hx hb dX10_paperOf_0 rfl (lv_at hl 0 rfl) ?_
  refine lv_iconst (v := 0) hx hb dX10_paperOf_1 (by decide) ?_
  refine p10_85 hc hP hS (nv_m hon3 (by decide) Nat.zero_lt_one) dX10_paperOf_2 (fun H locs hP hS => ?_)
  rw [hT] at hP
  refine lv_aload_n hx hb dX10_paperOf_5 rfl (lv_at hl 0 rfl) ?_
  refine lv_iload_n hx hb dX10_paperOf_6 rfl (lv_at hl 1 rfl) ?_
  refine nc_Vi (c_X10_isVoter hI hon3 ) hc hP hS hl.1 gd10_129 (nrecv (q := (RX10, TX10, 31)) hc (npic_eta hP) (nv_m hon3 (by decide) Nat.zero_lt_one) rfl rfl) ⟨rfl, rfl⟩ nok_X10_isVoter rfl ⟨Nat.le_of_ble_eq_true rfl, Nat.le_of_ble_eq_true rfl⟩ ⟨Nat.le_of_ble_eq_true rfl, Nat.le_of_ble_eq_true rfl⟩ dX10_paperOf_7 rfl (Nat.le_of_ble_eq_true rfl) (fun r X1 H locs hp hP hS => ?_)
  obtain ⟨hr9, hX9⟩ := hp
  rw [hX9] at hP
  subst hr9
  refine lv_if_ne (tgt := 19) hx hb dX10_paperOf_10 (by decide) (fun c_10 => ?_) (fun c_10 => ?_)
  · refine lv_iconst (v := nI 0) hx hb dX10_paperOf_19 (by decide) ?_
    refine lv_istore_n (lv' := [(2, .int _), (0, .ref _), (1, .int _)]) hx hb dX10_paperOf_20 rfl hl (by decide) rfl (fun ls hl => ?_)
    exact lp _ 0 (Nat.zero_add _) rfl c_10 _ _ _ hP hS (lv_sub hl [0, 2, 1] rfl)
  · refine lv_aload_n hx hb dX10_paperOf_13 rfl (lv_at hl 0 rfl) ?_
    refine lv_iconst (v := 1) hx hb dX10_paperOf_14 (by decide) ?_
    refine nc_Vi (c_X10_fails hI hon3) hc hP hS hl.1 gd10_104 (nrecv (q := (RX10, TX10, 31)) hc (npic_eta hP) (nv_m hon3 (by decide) Nat.zero_lt_one) rfl rfl) ⟨rfl, rfl⟩ nok_X10_fails rfl ⟨Nat.le_of_ble_eq_true rfl, Nat.le_of_ble_eq_true rfl⟩ ⟨Nat.le_of_ble_eq_true rfl, Nat.le_of_ble_eq_true rfl⟩ dX10_paperOf_15 rfl (Nat.le_of_ble_eq_true rfl) (fun r X1 H locs hp hP hS => ?_)
    obtain ⟨hr9, hX9⟩ := hp
    rw [hX9] at hP
    subst hr9
    exact ne_i hc hP hS hr dX10_paperOf_18 (mR_of (mG_f (by clear hP hS hl hc hx hb hr hT; simp_all [-Int32.not_le, -Int32.not_lt, i32_lt, nb_t, nb_f, nb_z, nb_o])))
set_option maxHeartbeats 4000000 in
set_option maxRecDepth 100000 in
theorem c_X10_gain (hI : ninj ad on) (hon3 : on 3) (hT : nput M 30 0 0 0 = T) (hok : mOk T) {x z : Int32} : nMi l D dA ad on yX10_gain cX10_gain 3 (some .int) (nrm 9) [.ref (ad 3 30 0), .int x, .int z] (wdo X 3 M) (fun r X' => r = (mG (mIn x 0 (T 30 0 12 - 1) && mIn z 0 (T 30 0 12 - 1)) 1 T (0 : Int32) (mG (!decide (x = z)) 2 T (0 : Int32) (mG (mOpen T && decide (T 46 0 (nix x) ≤ 0)) 3 T (0 : Int32) ((mCnt T x (1 <<< (z &&& 31)) - mCnt T x 0, T))))).1 ∧ X' = wdo X 3 (mG (mIn x 0 (T 30 0 12 - 1) && mIn z 0 (T 30 0 12 - 1)) 1 T (0 : Int32) (mG (!decide (x = z)) 2 T (0 : Int32) (mG (mOpen T && decide (T 46 0 (nix x) ≤ 0)) 3 T (0 : Int32) ((mCnt T x (1 <<< (z &&& 31)) - mCnt T x 0, T))))).2) := by
  refine nM_of hI (by decide +kernel) (Nat.le_of_ble_eq_true rfl) ?_
  intro p e s m args below meth cd ls hc hr _ hP hl hS
  have hx := hc.1
  have hb := hc.2.1
  have hl : lv_has ls 3 [(0, .ref (ad 3 30 0)), (1, .int x), (2, .int z)] := hl
  refine lv_aload_n hx hb dX10_gain_0 rfl (lv_at hl 0 rfl) ?_
  refine lv_iconst (v := 0) hx hb dX10_gain_1 (by decide) ?_
  refine p10_85 hc hP hS (nv_m hon3 (by decide) Nat.zero_lt_one) dX10_gain_2 (fun H locs hP hS => ?_)
  rw [hT] at hP
  refine lv_aload_n hx hb dX10_gain_5 rfl (lv_at hl 0 rfl) ?_
  refine lv_iload_n hx hb dX10_gain_6 rfl (lv_at hl 1 rfl) ?_
  refine nc_Vi (c_X10_isPaper hI hon3 ) hc hP hS hl.1 gd10_152 (nrecv (q := (RX10, TX10, 31)) hc (npic_eta hP) (nv_m hon3 (by decide) Nat.zero_lt_one) rfl rfl) ⟨rfl, rfl⟩ nok_X10_isPaper rfl ⟨Nat.le_of_ble_eq_true rfl, Nat.le_of_ble_eq_true rfl⟩ ⟨Nat.le_of_ble_eq_true rfl, Nat.le_of_ble_eq_true rfl⟩ dX10_gain_7 rfl (Nat.le_of_ble_eq_true rfl) (fun r X1 H locs hp hP hS => ?_)
  obtain ⟨hr9, hX9⟩ := hp
  rw [hX9] at hP
  subst hr9
  refine lv_if_eq (tgt := 21) hx hb dX10_gain_10 (by decide) (fun c_10 => ?_) (fun c_10 => ?_)
  · refine lv_aload_n hx hb dX10_gain_21 rfl (lv_at hl 0 rfl) ?_
    refine lv_iconst (v := 1) hx hb dX10_gain_22 (by decide) ?_
    refine nc_Vi (c_X10_fails hI hon3) hc hP hS hl.1 gd10_104 (nrecv (q := (RX10, TX10, 31)) hc (npic_eta hP) (nv_m hon3 (by decide) Nat.zero_lt_one) rfl rfl) ⟨rfl, rfl⟩ nok_X10_fails rfl ⟨Nat.le_of_ble_eq_true rfl, Nat.le_of_ble_eq_true rfl⟩ ⟨Nat.le_of_ble_eq_true rfl, Nat.le_of_ble_eq_true rfl⟩ dX10_gain_23 rfl (Nat.le_of_ble_eq_true rfl) (fun r X1 H locs hp hP hS => ?_)
    obtain ⟨hr9, hX9⟩ := hp
    rw [hX9] at hP
    subst hr9
    exact ne_i hc hP hS hr dX10_gain_26 (mR_of (mG_f (by clear hP hS hl hc hx hb hr hT; simp_all [-Int32.not_le, -Int32.not_lt, i32_lt, nb_t, nb_f, nb_z, nb_o])))
  · refine lv_aload_n hx hb dX10_gain_13 rfl (lv_at hl 0 rfl) ?_
    refine lv_iload_n hx hb dX10_gain_14 rfl (lv_at hl 2 rfl) ?_
    refine nc_Vi (c_X10_isPaper hI hon3 ) hc hP hS hl.1 gd10_152 (nrecv (q := (RX10, TX10, 31)) hc (npic_eta hP) (nv_m hon3 (by decide) Nat.zero_lt_one) rfl rfl) ⟨rfl, rfl⟩ nok_X10_isPaper rfl ⟨Nat.le_of_ble_eq_true rfl, Nat.le_of_ble_eq_true rfl⟩ ⟨Nat.le_of_ble_eq_true rfl, Nat.le_of_ble_eq_true rfl⟩ dX10_gain_15 rfl (Nat.le_of_ble_eq_true rfl) (fun r X1 H locs hp hP hS => ?_)
    obtain ⟨hr9, hX9⟩ := hp
    rw [hX9] at hP
    subst hr9
    refine lv_if_ne (tgt := 27) hx hb dX10_gain_18 (by decide) (fun c_18 => ?_) (fun c_18 => ?_)
    · refine lv_iload_n hx hb dX10_gain_27 rfl (lv_at hl 1 rfl) ?_
      refine lv_iload_n hx hb dX10_gain_28 rfl (lv_at hl 2 rfl) ?_
      refine lv_icmp_ne (tgt := 38) hx hb dX10_gain_29 (by decide) (fun c_29 => ?_) (fun c_29 => ?_)
      · refine lv_aload_n hx hb dX10_gain_38 rfl (lv_at hl 0 rfl) ?_
        refine nc_Vi (c_X10_open hI hon3 ) hc hP hS hl.1 gd10_108 (nrecv (q := (RX10, TX10, 31)) hc (npic_eta hP) (nv_m hon3 (by decide) Nat.zero_lt_one) rfl rfl) ⟨rfl, rfl⟩ nok_X10_open rfl ⟨Nat.le_of_ble_eq_true rfl, Nat.le_of_ble_eq_true rfl⟩ ⟨Nat.le_of_ble_eq_true rfl, Nat.le_of_ble_eq_true rfl⟩ dX10_gain_39 rfl (Nat.le_of_ble_eq_true rfl) (fun r X1 H locs hp hP hS => ?_)
        obtain ⟨hr9, hX9⟩ := hp
        rw [hX9] at hP
        subst hr9
        refine lv_if_eq (tgt := 54) hx hb dX10_gain_42 (by decide) (fun c_42 => ?_) (fun c_42 => ?_)
        · refine lv_aload_n hx hb dX10_gain_54 rfl (lv_at hl 0 rfl) ?_
          refine lv_iconst (v := 3) hx hb dX10_gain_55 (by decide) ?_
          refine nc_Vi (c_X10_fails hI hon3) hc hP hS hl.1 gd10_104 (nrecv (q := (RX10, TX10, 31)) hc (npic_eta hP) (nv_m hon3 (by decide) Nat.zero_lt_one) rfl rfl) ⟨rfl, rfl⟩ nok_X10_fails rfl ⟨Nat.le_of_ble_eq_true rfl, Nat.le_of_ble_eq_true rfl⟩ ⟨Nat.le_of_ble_eq_true rfl, Nat.le_of_ble_eq_true rfl⟩ dX10_gain_56 rfl (Nat.le_of_ble_eq_true rfl) (fun r X1 H locs hp hP hS => ?_)
          obtain ⟨hr9, hX9⟩ := hp
          rw [hX9] at hP
          subst hr9
          exact ne_i hc hP hS hr dX10_gain_59 (mR_of ((mG_t (by clear hP hS hl hc hx hb hr hT; simp_all [-Int32.not_le, -Int32.not_lt, i32_lt, nb_t, nb_f, nb_z, nb_o])).trans ((mG_t (by clear hP hS hl hc hx hb hr hT; simp_all [-Int32.not_le, -Int32.not_lt, i32_lt, nb_t, nb_f, nb_z, nb_o])).trans (mG_f (by clear hP hS hl hc hx hb hr hT; simp_all [-Int32.not_le, -Int32.not_lt, i32_lt, nb_t, nb_f, nb_z, nb_o])))))
        · refine lv_aload_n hx hb dX10_gain_45 rfl (lv_at hl 0 rfl) ?_
          refine g10_46 hc hP (nv_m hon3 (by decide) Nat.zero_lt_one) dX10_gain_46 ?_
          refine lv_iload_n hx hb dX10_gain_49 rfl (lv_at hl 1 rfl) ?_
          refine la_46 hc hP (nv_m hon3 (by decide) Nat.zero_lt_one) (mvp (nb_nz.mp c_10) hok.np hok.np12 (by decide)) dX10_gain_50 ?_
          refine lv_if_le (tgt := 60) hx hb dX10_gain_51 (by decide) (fun c_51 => ?_) (fun c_51 => ?_)
          · refine lv_aload_n hx hb dX10_gain_60 rfl (lv_at hl 0 rfl) ?_
            refine lv_iload_n hx hb dX10_gain_61 rfl (lv_at hl 1 rfl) ?_
            refine lv_iconst (v := 1) hx hb dX10_gain_62 (by decide) ?_
            refine lv_iload_n hx hb dX10_gain_63 rfl (lv_at hl 2 rfl) ?_
            refine lv_ishl hx hb dX10_gain_64 ?_
            refine nc_Vi (c_X10_counting hI hon3 hok) hc hP hS hl.1 gd10_171 (nrecv (q := (RX10, TX10, 31)) hc (npic_eta hP) (nv_m hon3 (by decide) Nat.zero_lt_one) rfl rfl) ⟨rfl, rfl⟩ nok_X10_counting rfl ⟨Nat.le_of_ble_eq_true rfl, Nat.le_of_ble_eq_true rfl⟩ ⟨Nat.le_of_ble_eq_true rfl, Nat.le_of_ble_eq_true rfl⟩ dX10_gain_65 rfl (Nat.le_of_ble_eq_true rfl) (fun r X1 H locs hp hP hS => ?_)
            obtain ⟨hr9, hX9⟩ := hp
            rw [hX9] at hP
            subst hr9
            refine lv_aload_n hx hb dX10_gain_68 rfl (lv_at hl 0 rfl) ?_
            refine lv_iload_n hx hb dX10_gain_69 rfl (lv_at hl 1 rfl) ?_
            refine lv_iconst (v := 0) hx hb dX10_gain_70 (by decide) ?_
            refine nc_Vi (c_X10_counting hI hon3 hok) hc hP hS hl.1 gd10_171 (nrecv (q := (RX10, TX10, 31)) hc (npic_eta hP) (nv_m hon3 (by decide) Nat.zero_lt_one) rfl rfl) ⟨rfl, rfl⟩ nok_X10_counting rfl ⟨Nat.le_of_ble_eq_true rfl, Nat.le_of_ble_eq_true rfl⟩ ⟨Nat.le_of_ble_eq_true rfl, Nat.le_of_ble_eq_true rfl⟩ dX10_gain_71 rfl (Nat.le_of_ble_eq_true rfl) (fun r X1 H locs hp hP hS => ?_)
            obtain ⟨hr9, hX9⟩ := hp
            rw [hX9] at hP
            subst hr9
            refine lv_isub hx hb dX10_gain_74 ?_
            exact ne_i hc hP hS hr dX10_gain_75 (mR_of ((mG_t (by clear hP hS hl hc hx hb hr hT; simp_all [-Int32.not_le, -Int32.not_lt, i32_lt, nb_t, nb_f, nb_z, nb_o])).trans ((mG_t (by clear hP hS hl hc hx hb hr hT; simp_all [-Int32.not_le, -Int32.not_lt, i32_lt, nb_t, nb_f, nb_z, nb_o])).trans ((mG_t (by clear hP hS hl hc hx hb hr hT; simp_all [-Int32.not_le, -Int32.not_lt, i32_lt, nb_t, nb_f, nb_z, nb_o])).trans (rfl)))))
          · refine lv_aload_n hx hb dX10_gain_54 rfl (lv_at hl 0 rfl) ?_
            refine lv_iconst (v := 3) hx hb dX10_gain_55 (by decide) ?_
            refine nc_Vi (c_X10_fails hI hon3) hc hP hS hl.1 gd10_104 (nrecv (q := (RX10, TX10, 31)) hc (npic_eta hP) (nv_m hon3 (by decide) Nat.zero_lt_one) rfl rfl) ⟨rfl, rfl⟩ nok_X10_fails rfl ⟨Nat.le_of_ble_eq_true rfl, Nat.le_of_ble_eq_true rfl⟩ ⟨Nat.le_of_ble_eq_true rfl, Nat.le_of_ble_eq_true rfl⟩ dX10_gain_56 rfl (Nat.le_of_ble_eq_true rfl) (fun r X1 H locs hp hP hS => ?_)
            obtain ⟨hr9, hX9⟩ := hp
            rw [hX9] at hP
            subst hr9
            exact ne_i hc hP hS hr dX10_gain_59 (mR_of ((mG_t (by clear hP hS hl hc hx hb hr hT; simp_all [-Int32.not_le, -Int32.not_lt, i32_lt, nb_t, nb_f, nb_z, nb_o])).trans ((mG_t (by clear hP hS hl hc hx hb hr hT; simp_all [-Int32.not_le, -Int32.not_lt, i32_lt, nb_t, nb_f, nb_z, nb_o])).trans (mG_f (by clear hP hS hl hc hx hb hr hT; simp_all [-Int32.not_le, -Int32.not_lt, i32_lt, nb_t, nb_f, nb_z, nb_o])))))
      · refine lv_aload_n hx hb dX10_gain_32 rfl (lv_at hl 0 rfl) ?_
        refine lv_iconst (v := 2) hx hb dX10_gain_33 (by decide) ?_
        refine nc_Vi (c_X10_fails hI hon3) hc hP hS hl.1 gd10_104 (nrecv (q := (RX10, TX10, 31)) hc (npic_eta hP) (nv_m hon3 (by decide) Nat.zero_lt_one) rfl rfl) ⟨rfl, rfl⟩ nok_X10_fails rfl ⟨Nat.le_of_ble_eq_true rfl, Nat.le_of_ble_eq_true rfl⟩ ⟨Nat.le_of_ble_eq_true rfl, Nat.le_of_ble_eq_true rfl⟩ dX10_gain_34 rfl (Nat.le_of_ble_eq_true rfl) (fun r X1 H locs hp hP hS => ?_)
        obtain ⟨hr9, hX9⟩ := hp
        rw [hX9] at hP
        subst hr9
        exact ne_i hc hP hS hr dX10_gain_37 (mR_of ((mG_t (by clear hP hS hl hc hx hb hr hT; simp_all [-Int32.not_le, -Int32.not_lt, i32_lt, nb_t, nb_f, nb_z, nb_o])).trans (mG_f (by clear hP hS hl hc hx hb hr hT; simp_all [-Int32.not_le, -Int32.not_lt, i32_lt, nb_t, nb_f, nb_z, nb_o]))))
    · refine lv_aload_n hx hb dX10_gain_21 rfl (lv_at hl 0 rfl) ?_
      refine lv_iconst (v := 1) hx hb dX10_gain_22 (by decide) ?_
      refine nc_Vi (c_X10_fails hI hon3) hc hP hS hl.1 gd10_104 (nrecv (q := (RX10, TX10, 31)) hc (npic_eta hP) (nv_m hon3 (by decide) Nat.zero_lt_one) rfl rfl) ⟨rfl, rfl⟩ nok_X10_fails rfl ⟨Nat.le_of_ble_eq_true rfl, Nat.le_of_ble_eq_true rfl⟩ ⟨Nat.le_of_ble_eq_true rfl, Nat.le_of_ble_eq_true rfl⟩ dX10_gain_23 rfl (Nat.le_of_ble_eq_true rfl) (fun r X1 H locs hp hP hS => ?_)
      obtain ⟨hr9, hX9⟩ := hp
      rw [hX9] at hP
      subst hr9
      exact ne_i hc hP hS hr dX10_gain_26 (mR_of (mG_f (by clear hP hS hl hc hx hb hr hT; simp_all [-Int32.not_le, -Int32.not_lt, i32_lt, nb_t, nb_f, nb_z, nb_o])))
set_option maxHeartbeats 4000000 in
set_option maxRecDepth 100000 in
theorem c_X10_isDouble (hI : ninj ad on) (hon3 : on 3) {x : Int32} (hx12 : vp_in x 12) : nMi l D dA ad on yX10_isDouble cX10_isDouble 3 (some .boolean) (nrm 1) [.ref (ad 3 30 0), .int x] (wdo X 3 T) (fun r X' => r = nb (mDbl T x) ∧ X' = wdo X 3 T) := by
  refine nM_of hI (by decide +kernel) (Nat.le_of_ble_eq_true rfl) ?_
  intro p e s m args below meth cd ls hc hr _ hP hl hS
  have hx := hc.1
  have hb := hc.2.1
  have hl : lv_has ls 3 [(0, .ref (ad 3 30 0)), (1, .int x)] := hl
  have lp : ∀ (r j : Nat) , j + r = nix x → ffind (fun q => decide (0 ≤ T 44 0 (nix x)) && decide (T 44 0 q = T 44 0 (nix x)) && decide (T 43 0 q = T 43 0 (nix x)) && decide (T 60 0 q = 0)) j = none → ∀ (H : Heap) (locs : List Loc) (ls : Array Slot), npic D dA ad on (wdo X 3 T) H → va_S (nA ad on) s.heap H locs → lv_has ls 3 [(2, .int (nI j)), (1, .int x), (0, .ref (ad 3 30 0))] → W p l e (nrm 1) s m args below meth cd H locs 0 0 (MQ below (va_Qi (fun r X' => r = nb (mDbl T x) ∧ X' = wdo X 3 T) (fun X' t => npic D dA ad on X' t.heap) (nA ad on)) args s 0 0 (nA ad on)) (F0 m 2 ls []) := by
    intro r
    induction r with
    | zero =>
      intro j  hj hf H locs ls hP hS hl
      have hjn : j = nix x := by omega
      refine lv_iload_n hx hb dX10_isDouble_2 rfl (lv_at hl 0 rfl) ?_
      refine lv_iload_n hx hb dX10_isDouble_3 rfl (lv_at hl 1 rfl) ?_
      refine lv_icmp_ge (tgt := 63) hx hb dX10_isDouble_4 (by decide) (fun c_4 => ?_) (fun c_4 => absurd (lp_le (vp_eq hx12) hjn) c_4)
      refine lv_iconst (v := 0) hx hb dX10_isDouble_63 (by decide) ?_
      exact ne_z hc hP hS hr rfl dX10_isDouble_64 ⟨by rw [hjn] at hf; rw [mDbl, hf]; rfl, rfl⟩
    | succ r ih =>
      intro j  hj hf H locs ls hP hS hl
      have hjn : j < nix x := by omega
      have hj12 : j < 12 := Nat.lt_trans hjn (vp_lt hx12)
      have ej : nix (nI j) = j := nI_clamp (by omega)
      have hjv : vp_in (nI j) 12 := vp_in_nI hj12 (by decide)
      refine lv_iload_n hx hb dX10_isDouble_2 rfl (lv_at hl 0 rfl) ?_
      refine lv_iload_n hx hb dX10_isDouble_3 rfl (lv_at hl 1 rfl) ?_
      refine lv_icmp_ge (tgt := 63) hx hb dX10_isDouble_4 (by decide) (fun c_4 => absurd c_4 (lp_gt (vp_eq hx12) hjn (Nat.lt_trans (vp_lt hx12) (by decide)))) (fun c_4 => ?_)
      refine lv_aload_n hx hb dX10_isDouble_7 rfl (lv_at hl 2 rfl) ?_
      refine g10_39 hc hP (nv_m hon3 (by decide) Nat.zero_lt_one) dX10_isDouble_8 ?_
      refine lv_iload_n hx hb dX10_isDouble_11 rfl (lv_at hl 1 rfl) ?_
      refine la_44 hc hP (nv_m hon3 (by decide) Nat.zero_lt_one) hx12 dX10_isDouble_12 ?_
      refine lv_if_lt (tgt := 57) hx hb dX10_isDouble_13 (by decide) (fun c_13 => ?_) (fun c_13 => ?_)
      · refine lv_iinc (v := nI (j + 1)) (lv' := [(2, .int _), (1, .int _), (0, .ref _)]) hx hb dX10_isDouble_57 hl (k := 0) rfl (nI_inc j) (by decide) rfl (fun ls hl => ?_)
        refine lv_goto (tgt := 2) hx hb dX10_isDouble_60 (by decide) ?_
        exact ih (j + 1) (by omega) (by rw [ffind_s hf]; clear hP hS hl hc hx hb hr ih; simp_all [-Int32.not_le, -Int32.not_lt, i32_lt, nb_t, nb_f, nb_z, nb_o]) _ _ _ hP hS (lv_sub hl [0, 1, 2] rfl)
      · refine lv_aload_n hx hb dX10_isDouble_16 rfl (lv_at hl 2 rfl) ?_
        refine g10_39 hc hP (nv_m hon3 (by decide) Nat.zero_lt_one) dX10_isDouble_17 ?_
        refine lv_iload_n hx hb dX10_isDouble_20 rfl (lv_at hl 0 rfl) ?_
        refine la_44 hc hP (nv_m hon3 (by decide) Nat.zero_lt_one) hjv dX10_isDouble_21 ?_
        refine lv_aload_n hx hb dX10_isDouble_22 rfl (lv_at hl 2 rfl) ?_
        refine g10_39 hc hP (nv_m hon3 (by decide) Nat.zero_lt_one) dX10_isDouble_23 ?_
        refine lv_iload_n hx hb dX10_isDouble_26 rfl (lv_at hl 1 rfl) ?_
        refine la_44 hc hP (nv_m hon3 (by decide) Nat.zero_lt_one) hx12 dX10_isDouble_27 ?_
        refine lv_icmp_ne (tgt := 57) hx hb dX10_isDouble_28 (by decide) (fun c_28 => ?_) (fun c_28 => ?_)
        · refine lv_iinc (v := nI (j + 1)) (lv' := [(2, .int _), (1, .int _), (0, .ref _)]) hx hb dX10_isDouble_57 hl (k := 0) rfl (nI_inc j) (by decide) rfl (fun ls hl => ?_)
          refine lv_goto (tgt := 2) hx hb dX10_isDouble_60 (by decide) ?_
          exact ih (j + 1) (by omega) (by rw [ffind_s hf]; clear hP hS hl hc hx hb hr ih; simp_all [-Int32.not_le, -Int32.not_lt, i32_lt, nb_t, nb_f, nb_z, nb_o]) _ _ _ hP hS (lv_sub hl [0, 1, 2] rfl)
        · refine lv_aload_n hx hb dX10_isDouble_31 rfl (lv_at hl 2 rfl) ?_
          refine g10_36 hc hP (nv_m hon3 (by decide) Nat.zero_lt_one) dX10_isDouble_32 ?_
          refine lv_iload_n hx hb dX10_isDouble_35 rfl (lv_at hl 0 rfl) ?_
          refine la_43 hc hP (nv_m hon3 (by decide) Nat.zero_lt_one) hjv dX10_isDouble_36 ?_
          refine lv_aload_n hx hb dX10_isDouble_37 rfl (lv_at hl 2 rfl) ?_
          refine g10_36 hc hP (nv_m hon3 (by decide) Nat.zero_lt_one) dX10_isDouble_38 ?_
          refine lv_iload_n hx hb dX10_isDouble_41 rfl (lv_at hl 1 rfl) ?_
          refine la_43 hc hP (nv_m hon3 (by decide) Nat.zero_lt_one) hx12 dX10_isDouble_42 ?_
          refine lv_icmp_ne (tgt := 57) hx hb dX10_isDouble_43 (by decide) (fun c_43 => ?_) (fun c_43 => ?_)
          · refine lv_iinc (v := nI (j + 1)) (lv' := [(2, .int _), (1, .int _), (0, .ref _)]) hx hb dX10_isDouble_57 hl (k := 0) rfl (nI_inc j) (by decide) rfl (fun ls hl => ?_)
            refine lv_goto (tgt := 2) hx hb dX10_isDouble_60 (by decide) ?_
            exact ih (j + 1) (by omega) (by rw [ffind_s hf]; clear hP hS hl hc hx hb hr ih; simp_all [-Int32.not_le, -Int32.not_lt, i32_lt, nb_t, nb_f, nb_z, nb_o]) _ _ _ hP hS (lv_sub hl [0, 1, 2] rfl)
          · refine lv_aload_n hx hb dX10_isDouble_46 rfl (lv_at hl 2 rfl) ?_
            refine g10_82 hc hP (nv_m hon3 (by decide) Nat.zero_lt_one) dX10_isDouble_47 ?_
            refine lv_iload_n hx hb dX10_isDouble_50 rfl (lv_at hl 0 rfl) ?_
            refine la_60 hc hP (nv_m hon3 (by decide) Nat.zero_lt_one) hjv dX10_isDouble_51 ?_
            refine lv_if_ne (tgt := 57) hx hb dX10_isDouble_52 (by decide) (fun c_52 => ?_) (fun c_52 => ?_)
            · refine lv_iinc (v := nI (j + 1)) (lv' := [(2, .int _), (1, .int _), (0, .ref _)]) hx hb dX10_isDouble_57 hl (k := 0) rfl (nI_inc j) (by decide) rfl (fun ls hl => ?_)
              refine lv_goto (tgt := 2) hx hb dX10_isDouble_60 (by decide) ?_
              exact ih (j + 1) (by omega) (by rw [ffind_s hf]; clear hP hS hl hc hx hb hr ih; simp_all [-Int32.not_le, -Int32.not_lt, i32_lt, nb_t, nb_f, nb_z, nb_o]) _ _ _ hP hS (lv_sub hl [0, 1, 2] rfl)
            · refine lv_iconst (v := 1) hx hb dX10_isDouble_55 (by decide) ?_
              exact ne_z hc hP hS hr rfl dX10_isDouble_56 ⟨by have h9 := ffind_at hf (by clear hP hS hl hc hx hb hr ih; simp_all [-Int32.not_le, -Int32.not_lt, i32_lt, nb_t, nb_f, nb_z, nb_o]) hjn; rw [mDbl, h9]; rfl, rfl⟩
  refine lv_iconst (v := nI 0) hx hb dX10_isDouble_0 (by decide) ?_
  refine lv_istore_n (lv' := [(2, .int _), (0, .ref _), (1, .int _)]) hx hb dX10_isDouble_1 rfl hl (by decide) rfl (fun ls hl => ?_)
  exact lp _ 0 (Nat.zero_add _) rfl _ _ _ hP hS (lv_sub hl [0, 2, 1] rfl)
set_option maxHeartbeats 4000000 in
set_option maxRecDepth 100000 in
theorem c_X10_allVotes (hI : ninj ad on) (hon3 : on 3) {a : Int32} (hok : mOk T) : nMi l D dA ad on yX10_allVotes cX10_allVotes 4 (some .int) (nrm 1) [.ref (ad 3 30 0), .int a] (wdo X 3 T) (fun r X' => r = mVotes T a ∧ X' = wdo X 3 T) := by
  refine nM_of hI (by decide +kernel) (Nat.le_of_ble_eq_true rfl) ?_
  intro p e s m args below meth cd ls hc hr _ hP hl hS
  have hx := hc.1
  have hb := hc.2.1
  have hl : lv_has ls 4 [(0, .ref (ad 3 30 0)), (1, .int a)] := hl
  have lp : ∀ (r j : Nat) (acc : Int32), j + r = mnp T → acc = isum (fun k => if T 43 0 k = a then T 50 0 k else 0) j → ∀ (H : Heap) (locs : List Loc) (ls : Array Slot), npic D dA ad on (wdo X 3 T) H → va_S (nA ad on) s.heap H locs → lv_has ls 4 [(3, .int (nI j)), (2, .int acc), (1, .int a), (0, .ref (ad 3 30 0))] → W p l e (nrm 1) s m args below meth cd H locs 0 0 (MQ below (va_Qi (fun r X' => r = mVotes T a ∧ X' = wdo X 3 T) (fun X' t => npic D dA ad on X' t.heap) (nA ad on)) args s 0 0 (nA ad on)) (F0 m 4 ls []) := by
    intro r
    induction r with
    | zero =>
      intro j acc hj ha  H locs ls hP hS hl
      have hjn : j = mnp T := by omega
      refine lv_iload_n hx hb dX10_allVotes_4 rfl (lv_at hl 0 rfl) ?_
      refine lv_aload_n hx hb dX10_allVotes_5 rfl (lv_at hl 3 rfl) ?_
      refine g10_98 hc hP (nv_m hon3 (by decide) Nat.zero_lt_one) dX10_allVotes_6 ?_
      refine lv_icmp_ge (tgt := 41) hx hb dX10_allVotes_9 (by decide) (fun c_9 => ?_) (fun c_9 => absurd (lp_le hok.np hjn) c_9)
      refine lv_iload_n hx hb dX10_allVotes_41 rfl (lv_at hl 1 rfl) ?_
      exact ne_i hc hP hS hr dX10_allVotes_42 ⟨by rw [ha, hjn] <;> rfl, rfl⟩
    | succ r ih =>
      intro j acc hj ha  H locs ls hP hS hl
      have hjn : j < mnp T := by omega
      have hj12 : j < 12 := Nat.lt_of_lt_of_le hjn hok.np12
      have ej : nix (nI j) = j := nI_clamp (by omega)
      have hjv : vp_in (nI j) 12 := vp_in_nI hj12 (by decide)
      have hjp : vp_in (nI j) (mnp T) := vp_in_nI hjn hok.npL
      refine lv_iload_n hx hb dX10_allVotes_4 rfl (lv_at hl 0 rfl) ?_
      refine lv_aload_n hx hb dX10_allVotes_5 rfl (lv_at hl 3 rfl) ?_
      refine g10_98 hc hP (nv_m hon3 (by decide) Nat.zero_lt_one) dX10_allVotes_6 ?_
      refine lv_icmp_ge (tgt := 41) hx hb dX10_allVotes_9 (by decide) (fun c_9 => absurd c_9 (lp_gt hok.np hjn hok.npL)) (fun c_9 => ?_)
      refine lv_iload_n hx hb dX10_allVotes_12 rfl (lv_at hl 1 rfl) ?_
      refine lv_aload_n hx hb dX10_allVotes_13 rfl (lv_at hl 3 rfl) ?_
      refine g10_36 hc hP (nv_m hon3 (by decide) Nat.zero_lt_one) dX10_allVotes_14 ?_
      refine lv_iload_n hx hb dX10_allVotes_17 rfl (lv_at hl 0 rfl) ?_
      refine la_43 hc hP (nv_m hon3 (by decide) Nat.zero_lt_one) hjv dX10_allVotes_18 ?_
      refine lv_iload_n hx hb dX10_allVotes_19 rfl (lv_at hl 2 rfl) ?_
      refine lv_icmp_ne (tgt := 32) hx hb dX10_allVotes_20 (by decide) (fun c_20 => ?_) (fun c_20 => ?_)
      · refine lv_iconst (v := 0) hx hb dX10_allVotes_32 (by decide) ?_
        refine lv_iadd hx hb dX10_allVotes_33 ?_
        refine lv_istore_n (lv' := [(2, .int _), (3, .int _), (1, .int _), (0, .ref _)]) hx hb dX10_allVotes_34 rfl hl (by decide) rfl (fun ls hl => ?_)
        refine lv_iinc (v := nI (j + 1)) (lv' := [(3, .int _), (2, .int _), (1, .int _), (0, .ref _)]) hx hb dX10_allVotes_35 hl (k := 1) rfl (nI_inc j) (by decide) rfl (fun ls hl => ?_)
        refine lv_goto (tgt := 4) hx hb dX10_allVotes_38 (by decide) ?_
        exact ih (j + 1) _ (by omega) (by rw [isum_s, ← ha]; clear hP hS hl hc hx hb hr ih; simp_all [-Int32.not_le, -Int32.not_lt, i32_lt, nb_t, nb_f, nb_z, nb_o]) _ _ _ hP hS (lv_sub hl [0, 1, 2, 3] rfl)
      · refine lv_aload_n hx hb dX10_allVotes_23 rfl (lv_at hl 3 rfl) ?_
        refine g10_58 hc hP (nv_m hon3 (by decide) Nat.zero_lt_one) dX10_allVotes_24 ?_
        refine lv_iload_n hx hb dX10_allVotes_27 rfl (lv_at hl 0 rfl) ?_
        refine la_50 hc hP (nv_m hon3 (by decide) Nat.zero_lt_one) hjv dX10_allVotes_28 ?_
        refine lv_goto (tgt := 33) hx hb dX10_allVotes_29 (by decide) ?_
        refine lv_iadd hx hb dX10_allVotes_33 ?_
        refine lv_istore_n (lv' := [(2, .int _), (3, .int _), (1, .int _), (0, .ref _)]) hx hb dX10_allVotes_34 rfl hl (by decide) rfl (fun ls hl => ?_)
        refine lv_iinc (v := nI (j + 1)) (lv' := [(3, .int _), (2, .int _), (1, .int _), (0, .ref _)]) hx hb dX10_allVotes_35 hl (k := 1) rfl (nI_inc j) (by decide) rfl (fun ls hl => ?_)
        refine lv_goto (tgt := 4) hx hb dX10_allVotes_38 (by decide) ?_
        exact ih (j + 1) _ (by omega) (by rw [isum_s, ← ha]; clear hP hS hl hc hx hb hr ih; simp_all [-Int32.not_le, -Int32.not_lt, i32_lt, nb_t, nb_f, nb_z, nb_o]) _ _ _ hP hS (lv_sub hl [0, 1, 2, 3] rfl)
  refine lv_iconst (v := 0) hx hb dX10_allVotes_0 (by decide) ?_
  refine lv_istore_n (lv' := [(2, .int _), (0, .ref _), (1, .int _)]) hx hb dX10_allVotes_1 rfl hl (by decide) rfl (fun ls hl => ?_)
  refine lv_iconst (v := nI 0) hx hb dX10_allVotes_2 (by decide) ?_
  refine lv_istore_n (lv' := [(3, .int _), (2, .int _), (0, .ref _), (1, .int _)]) hx hb dX10_allVotes_3 rfl hl (by decide) rfl (fun ls hl => ?_)
  exact lp _ 0 _ (Nat.zero_add _) rfl _ _ _ hP hS (lv_sub hl [0, 1, 3, 2] rfl)
set_option maxHeartbeats 4000000 in
set_option maxRecDepth 100000 in
theorem c_X10_fate (hI : ninj ad on) (hon3 : on 3) {x : Int32} (hok : mOk T) (hx0 : vp_in x (mnp T)) : nMi l D dA ad on yX10_fate cX10_fate 2 (some .int) (nrm 4) [.ref (ad 3 30 0), .int x] (wdo X 3 T) (fun r X' => r = mFate T x ∧ X' = wdo X 3 T) := by
  refine nM_of hI (by decide +kernel) (Nat.le_of_ble_eq_true rfl) ?_
  intro p e s m args below meth cd ls hc hr _ hP hl hS
  have hx := hc.1
  have hb := hc.2.1
  have hl : lv_has ls 2 [(0, .ref (ad 3 30 0)), (1, .int x)] := hl
  refine lv_aload_n hx hb dX10_fate_0 rfl (lv_at hl 0 rfl) ?_
  refine g10_46 hc hP (nv_m hon3 (by decide) Nat.zero_lt_one) dX10_fate_1 ?_
  refine lv_iload_n hx hb dX10_fate_4 rfl (lv_at hl 1 rfl) ?_
  refine la_46 hc hP (nv_m hon3 (by decide) Nat.zero_lt_one) (vp_mono hx0 hok.np12) dX10_fate_5 ?_
  refine lv_if_le (tgt := 25) hx hb dX10_fate_6 (by decide) (fun c_6 => ?_) (fun c_6 => ?_)
  · refine lv_aload_n hx hb dX10_fate_25 rfl (lv_at hl 0 rfl) ?_
    refine nc_Vi (c_X10_open hI hon3 ) hc hP hS hl.1 gd10_108 (nrecv (q := (RX10, TX10, 31)) hc (npic_eta hP) (nv_m hon3 (by decide) Nat.zero_lt_one) rfl rfl) ⟨rfl, rfl⟩ nok_X10_open rfl ⟨Nat.le_of_ble_eq_true rfl, Nat.le_of_ble_eq_true rfl⟩ ⟨Nat.le_of_ble_eq_true rfl, Nat.le_of_ble_eq_true rfl⟩ dX10_fate_26 rfl (Nat.le_of_ble_eq_true rfl) (fun r X1 H locs hp hP hS => ?_)
    obtain ⟨hr9, hX9⟩ := hp
    rw [hX9] at hP
    subst hr9
    refine lv_if_eq (tgt := 34) hx hb dX10_fate_29 (by decide) (fun c_29 => ?_) (fun c_29 => ?_)
    · refine lv_aload_n hx hb dX10_fate_34 rfl (lv_at hl 0 rfl) ?_
      refine g10_61 hc hP (nv_m hon3 (by decide) Nat.zero_lt_one) dX10_fate_35 ?_
      refine lv_iload_n hx hb dX10_fate_38 rfl (lv_at hl 1 rfl) ?_
      refine la_51 hc hP (nv_m hon3 (by decide) Nat.zero_lt_one) (vp_mono hx0 hok.np12) dX10_fate_39 ?_
      refine lv_if_le (tgt := 45) hx hb dX10_fate_40 (by decide) (fun c_40 => ?_) (fun c_40 => ?_)
      · refine lv_aload_n hx hb dX10_fate_45 rfl (lv_at hl 0 rfl) ?_
        refine g10_52 hc hP (nv_m hon3 (by decide) Nat.zero_lt_one) dX10_fate_46 ?_
        refine lv_iload_n hx hb dX10_fate_49 rfl (lv_at hl 1 rfl) ?_
        refine la_48 hc hP (nv_m hon3 (by decide) Nat.zero_lt_one) (vp_mono hx0 hok.np12) dX10_fate_50 ?_
        refine lv_if_eq (tgt := 68) hx hb dX10_fate_51 (by decide) (fun c_51 => ?_) (fun c_51 => ?_)
        · refine lv_aload_n hx hb dX10_fate_68 rfl (lv_at hl 0 rfl) ?_
          refine g10_26 hc hP (nv_m hon3 (by decide) Nat.zero_lt_one) dX10_fate_69 ?_
          refine lv_aload_n hx hb dX10_fate_72 rfl (lv_at hl 0 rfl) ?_
          refine g10_36 hc hP (nv_m hon3 (by decide) Nat.zero_lt_one) dX10_fate_73 ?_
          refine lv_iload_n hx hb dX10_fate_76 rfl (lv_at hl 1 rfl) ?_
          refine la_43 hc hP (nv_m hon3 (by decide) Nat.zero_lt_one) (vp_mono hx0 hok.np12) dX10_fate_77 ?_
          refine la_38 hc hP (nv_m hon3 (by decide) Nat.zero_lt_one) (hok.ar (vp_lt hx0)) dX10_fate_78 ?_
          refine lv_if_ne (tgt := 84) hx hb dX10_fate_79 (by decide) (fun c_79 => ?_) (fun c_79 => ?_)
          · refine lv_bipush (v := 20) hx hb dX10_fate_84 (by decide) ?_
            refine lv_aload_n hx hb dX10_fate_86 rfl (lv_at hl 0 rfl) ?_
            refine g10_58 hc hP (nv_m hon3 (by decide) Nat.zero_lt_one) dX10_fate_87 ?_
            refine lv_iload_n hx hb dX10_fate_90 rfl (lv_at hl 1 rfl) ?_
            refine la_50 hc hP (nv_m hon3 (by decide) Nat.zero_lt_one) (vp_mono hx0 hok.np12) dX10_fate_91 ?_
            refine lv_imul hx hb dX10_fate_92 ?_
            refine lv_aload_n hx hb dX10_fate_93 rfl (lv_at hl 0 rfl) ?_
            refine lv_aload_n hx hb dX10_fate_94 rfl (lv_at hl 0 rfl) ?_
            refine g10_36 hc hP (nv_m hon3 (by decide) Nat.zero_lt_one) dX10_fate_95 ?_
            refine lv_iload_n hx hb dX10_fate_98 rfl (lv_at hl 1 rfl) ?_
            refine la_43 hc hP (nv_m hon3 (by decide) Nat.zero_lt_one) (vp_mono hx0 hok.np12) dX10_fate_99 ?_
            refine nc_Vi (c_X10_allVotes hI hon3 hok) hc hP hS hl.1 gd10_204 (nrecv (q := (RX10, TX10, 31)) hc (npic_eta hP) (nv_m hon3 (by decide) Nat.zero_lt_one) rfl rfl) ⟨rfl, rfl⟩ nok_X10_allVotes rfl ⟨Nat.le_of_ble_eq_true rfl, Nat.le_of_ble_eq_true rfl⟩ ⟨Nat.le_of_ble_eq_true rfl, Nat.le_of_ble_eq_true rfl⟩ dX10_fate_100 rfl (Nat.le_of_ble_eq_true rfl) (fun r X1 H locs hp hP hS => ?_)
            obtain ⟨hr9, hX9⟩ := hp
            rw [hX9] at hP
            subst hr9
            refine lv_icmp_ge (tgt := 110) hx hb dX10_fate_103 (by decide) (fun c_103 => ?_) (fun c_103 => ?_)
            · refine lv_iconst (v := 1) hx hb dX10_fate_110 (by decide) ?_
              exact ne_i hc hP hS hr dX10_fate_111 ⟨by clear hP hS hl hc hx hb hr; simp_all [-Int32.not_le, -Int32.not_lt, i32_lt, nb_t, nb_f, nb_z, nb_o, mFate], rfl⟩
            · refine lv_iconst (v := 2) hx hb dX10_fate_106 (by decide) ?_
              refine lv_goto (tgt := 111) hx hb dX10_fate_107 (by decide) ?_
              exact ne_i hc hP hS hr dX10_fate_111 ⟨by clear hP hS hl hc hx hb hr; simp_all [-Int32.not_le, -Int32.not_lt, i32_lt, nb_t, nb_f, nb_z, nb_o, mFate], rfl⟩
          · refine lv_iconst (v := 0) hx hb dX10_fate_82 (by decide) ?_
            exact ne_i hc hP hS hr dX10_fate_83 ⟨by clear hP hS hl hc hx hb hr; simp_all [-Int32.not_le, -Int32.not_lt, i32_lt, nb_t, nb_f, nb_z, nb_o, mFate], rfl⟩
        · refine lv_aload_n hx hb dX10_fate_54 rfl (lv_at hl 0 rfl) ?_
          refine lv_iload_n hx hb dX10_fate_55 rfl (lv_at hl 1 rfl) ?_
          refine nc_Vi (c_X10_canReplace hI hon3 (vp_mono hx0 hok.np12)) hc hP hS hl.1 gd10_158 (nrecv (q := (RX10, TX10, 31)) hc (npic_eta hP) (nv_m hon3 (by decide) Nat.zero_lt_one) rfl rfl) ⟨rfl, rfl⟩ nok_X10_canReplace rfl ⟨Nat.le_of_ble_eq_true rfl, Nat.le_of_ble_eq_true rfl⟩ ⟨Nat.le_of_ble_eq_true rfl, Nat.le_of_ble_eq_true rfl⟩ dX10_fate_56 rfl (Nat.le_of_ble_eq_true rfl) (fun r X1 H locs hp hP hS => ?_)
          obtain ⟨hr9, hX9⟩ := hp
          rw [hX9] at hP
          subst hr9
          refine lv_if_eq (tgt := 66) hx hb dX10_fate_59 (by decide) (fun c_59 => ?_) (fun c_59 => ?_)
          · refine lv_iconst (v := 1) hx hb dX10_fate_66 (by decide) ?_
            exact ne_i hc hP hS hr dX10_fate_67 ⟨by clear hP hS hl hc hx hb hr; simp_all [-Int32.not_le, -Int32.not_lt, i32_lt, nb_t, nb_f, nb_z, nb_o, mFate], rfl⟩
          · refine lv_iconst (v := 0) hx hb dX10_fate_62 (by decide) ?_
            refine lv_goto (tgt := 67) hx hb dX10_fate_63 (by decide) ?_
            exact ne_i hc hP hS hr dX10_fate_67 ⟨by clear hP hS hl hc hx hb hr; simp_all [-Int32.not_le, -Int32.not_lt, i32_lt, nb_t, nb_f, nb_z, nb_o, mFate], rfl⟩
      · refine lv_iconst (v := 1) hx hb dX10_fate_43 (by decide) ?_
        exact ne_i hc hP hS hr dX10_fate_44 ⟨by clear hP hS hl hc hx hb hr; simp_all [-Int32.not_le, -Int32.not_lt, i32_lt, nb_t, nb_f, nb_z, nb_o, mFate], rfl⟩
    · refine lv_iconst (v := 0) hx hb dX10_fate_32 (by decide) ?_
      exact ne_i hc hP hS hr dX10_fate_33 ⟨by clear hP hS hl hc hx hb hr; simp_all [-Int32.not_le, -Int32.not_lt, i32_lt, nb_t, nb_f, nb_z, nb_o, mFate], rfl⟩
  · refine lv_aload_n hx hb dX10_fate_9 rfl (lv_at hl 0 rfl) ?_
    refine g10_46 hc hP (nv_m hon3 (by decide) Nat.zero_lt_one) dX10_fate_10 ?_
    refine lv_iload_n hx hb dX10_fate_13 rfl (lv_at hl 1 rfl) ?_
    refine la_46 hc hP (nv_m hon3 (by decide) Nat.zero_lt_one) (vp_mono hx0 hok.np12) dX10_fate_14 ?_
    refine lv_iconst (v := 1) hx hb dX10_fate_15 (by decide) ?_
    refine lv_icmp_ne (tgt := 23) hx hb dX10_fate_16 (by decide) (fun c_16 => ?_) (fun c_16 => ?_)
    · refine lv_iconst (v := 2) hx hb dX10_fate_23 (by decide) ?_
      exact ne_i hc hP hS hr dX10_fate_24 ⟨by clear hP hS hl hc hx hb hr; simp_all [-Int32.not_le, -Int32.not_lt, i32_lt, nb_t, nb_f, nb_z, nb_o, mFate], rfl⟩
    · refine lv_iconst (v := 1) hx hb dX10_fate_19 (by decide) ?_
      refine lv_goto (tgt := 24) hx hb dX10_fate_20 (by decide) ?_
      exact ne_i hc hP hS hr dX10_fate_24 ⟨by clear hP hS hl hc hx hb hr; simp_all [-Int32.not_le, -Int32.not_lt, i32_lt, nb_t, nb_f, nb_z, nb_o, mFate], rfl⟩
set_option maxHeartbeats 4000000 in
set_option maxRecDepth 100000 in
theorem c_X10_sum (hI : ninj ad on) (hon3 : on 3) {q : Int32} (hok : mOk T) : nMi l D dA ad on yX10_sum cX10_sum 4 (some .int) (nrm 5) [.ref (ad 3 30 0), .int q] (wdo X 3 T) (fun r X' => r = mSum T q ∧ X' = wdo X 3 T) := by
  refine nM_of hI (by decide +kernel) (Nat.le_of_ble_eq_true rfl) ?_
  intro p e s m args below meth cd ls hc hr _ hP hl hS
  have hx := hc.1
  have hb := hc.2.1
  have hl : lv_has ls 4 [(0, .ref (ad 3 30 0)), (1, .int q)] := hl
  have lp : ∀ (r j : Nat) (acc : Int32), j + r = mnp T → acc = isum (fun k => if mFate T (nI k) = q then T 47 0 k else 0) j → ∀ (H : Heap) (locs : List Loc) (ls : Array Slot), npic D dA ad on (wdo X 3 T) H → va_S (nA ad on) s.heap H locs → lv_has ls 4 [(3, .int (nI j)), (2, .int acc), (1, .int q), (0, .ref (ad 3 30 0))] → W p l e (nrm 5) s m args below meth cd H locs 0 0 (MQ below (va_Qi (fun r X' => r = mSum T q ∧ X' = wdo X 3 T) (fun X' t => npic D dA ad on X' t.heap) (nA ad on)) args s 0 0 (nA ad on)) (F0 m 4 ls []) := by
    intro r
    induction r with
    | zero =>
      intro j acc hj ha  H locs ls hP hS hl
      have hjn : j = mnp T := by omega
      refine lv_iload_n hx hb dX10_sum_4 rfl (lv_at hl 0 rfl) ?_
      refine lv_aload_n hx hb dX10_sum_5 rfl (lv_at hl 3 rfl) ?_
      refine g10_98 hc hP (nv_m hon3 (by decide) Nat.zero_lt_one) dX10_sum_6 ?_
      refine lv_icmp_ge (tgt := 40) hx hb dX10_sum_9 (by decide) (fun c_9 => ?_) (fun c_9 => absurd (lp_le hok.np hjn) c_9)
      refine lv_iload_n hx hb dX10_sum_40 rfl (lv_at hl 1 rfl) ?_
      exact ne_i hc hP hS hr dX10_sum_41 ⟨by rw [ha, hjn] <;> rfl, rfl⟩
    | succ r ih =>
      intro j acc hj ha  H locs ls hP hS hl
      have hjn : j < mnp T := by omega
      have hj12 : j < 12 := Nat.lt_of_lt_of_le hjn hok.np12
      have ej : nix (nI j) = j := nI_clamp (by omega)
      have hjv : vp_in (nI j) 12 := vp_in_nI hj12 (by decide)
      have hjp : vp_in (nI j) (mnp T) := vp_in_nI hjn hok.npL
      refine lv_iload_n hx hb dX10_sum_4 rfl (lv_at hl 0 rfl) ?_
      refine lv_aload_n hx hb dX10_sum_5 rfl (lv_at hl 3 rfl) ?_
      refine g10_98 hc hP (nv_m hon3 (by decide) Nat.zero_lt_one) dX10_sum_6 ?_
      refine lv_icmp_ge (tgt := 40) hx hb dX10_sum_9 (by decide) (fun c_9 => absurd c_9 (lp_gt hok.np hjn hok.npL)) (fun c_9 => ?_)
      refine lv_iload_n hx hb dX10_sum_12 rfl (lv_at hl 1 rfl) ?_
      refine lv_aload_n hx hb dX10_sum_13 rfl (lv_at hl 3 rfl) ?_
      refine lv_iload_n hx hb dX10_sum_14 rfl (lv_at hl 0 rfl) ?_
      refine nc_Vi (c_X10_fate hI hon3 hok hjp) hc hP hS hl.1 gd10_201 (nrecv (q := (RX10, TX10, 31)) hc (npic_eta hP) (nv_m hon3 (by decide) Nat.zero_lt_one) rfl rfl) ⟨rfl, rfl⟩ nok_X10_fate rfl ⟨Nat.le_of_ble_eq_true rfl, Nat.le_of_ble_eq_true rfl⟩ ⟨Nat.le_of_ble_eq_true rfl, Nat.le_of_ble_eq_true rfl⟩ dX10_sum_15 rfl (Nat.le_of_ble_eq_true rfl) (fun r X1 H locs hp hP hS => ?_)
      obtain ⟨hr9, hX9⟩ := hp
      rw [hX9] at hP
      subst hr9
      refine lv_iload_n hx hb dX10_sum_18 rfl (lv_at hl 2 rfl) ?_
      refine lv_icmp_ne (tgt := 31) hx hb dX10_sum_19 (by decide) (fun c_19 => ?_) (fun c_19 => ?_)
      · refine lv_iconst (v := 0) hx hb dX10_sum_31 (by decide) ?_
        refine lv_iadd hx hb dX10_sum_32 ?_
        refine lv_istore_n (lv' := [(2, .int _), (3, .int _), (1, .int _), (0, .ref _)]) hx hb dX10_sum_33 rfl hl (by decide) rfl (fun ls hl => ?_)
        refine lv_iinc (v := nI (j + 1)) (lv' := [(3, .int _), (2, .int _), (1, .int _), (0, .ref _)]) hx hb dX10_sum_34 hl (k := 1) rfl (nI_inc j) (by decide) rfl (fun ls hl => ?_)
        refine lv_goto (tgt := 4) hx hb dX10_sum_37 (by decide) ?_
        exact ih (j + 1) _ (by omega) (by rw [isum_s, ← ha]; clear hP hS hl hc hx hb hr ih; simp_all [-Int32.not_le, -Int32.not_lt, i32_lt, nb_t, nb_f, nb_z, nb_o]) _ _ _ hP hS (lv_sub hl [0, 1, 2, 3] rfl)
      · refine lv_aload_n hx hb dX10_sum_22 rfl (lv_at hl 3 rfl) ?_
        refine g10_49 hc hP (nv_m hon3 (by decide) Nat.zero_lt_one) dX10_sum_23 ?_
        refine lv_iload_n hx hb dX10_sum_26 rfl (lv_at hl 0 rfl) ?_
        refine la_47 hc hP (nv_m hon3 (by decide) Nat.zero_lt_one) hjv dX10_sum_27 ?_
        refine lv_goto (tgt := 32) hx hb dX10_sum_28 (by decide) ?_
        refine lv_iadd hx hb dX10_sum_32 ?_
        refine lv_istore_n (lv' := [(2, .int _), (3, .int _), (1, .int _), (0, .ref _)]) hx hb dX10_sum_33 rfl hl (by decide) rfl (fun ls hl => ?_)
        refine lv_iinc (v := nI (j + 1)) (lv' := [(3, .int _), (2, .int _), (1, .int _), (0, .ref _)]) hx hb dX10_sum_34 hl (k := 1) rfl (nI_inc j) (by decide) rfl (fun ls hl => ?_)
        refine lv_goto (tgt := 4) hx hb dX10_sum_37 (by decide) ?_
        exact ih (j + 1) _ (by omega) (by rw [isum_s, ← ha]; clear hP hS hl hc hx hb hr ih; simp_all [-Int32.not_le, -Int32.not_lt, i32_lt, nb_t, nb_f, nb_z, nb_o]) _ _ _ hP hS (lv_sub hl [0, 1, 2, 3] rfl)
  refine lv_iconst (v := 0) hx hb dX10_sum_0 (by decide) ?_
  refine lv_istore_n (lv' := [(2, .int _), (0, .ref _), (1, .int _)]) hx hb dX10_sum_1 rfl hl (by decide) rfl (fun ls hl => ?_)
  refine lv_iconst (v := nI 0) hx hb dX10_sum_2 (by decide) ?_
  refine lv_istore_n (lv' := [(3, .int _), (2, .int _), (0, .ref _), (1, .int _)]) hx hb dX10_sum_3 rfl hl (by decide) rfl (fun ls hl => ?_)
  exact lp _ 0 _ (Nat.zero_add _) rfl _ _ _ hP hS (lv_sub hl [0, 1, 3, 2] rfl)
set_option maxHeartbeats 4000000 in
set_option maxRecDepth 100000 in
theorem c_X10_deposit (hI : ninj ad on) (hon3 : on 3) (hT : nput M 30 0 0 0 = T) (hok : mOk T) {x : Int32} : nMi l D dA ad on yX10_deposit cX10_deposit 2 (some .int) (nrm 9) [.ref (ad 3 30 0), .int x] (wdo X 3 M) (fun r X' => r = (mG (mIn x 0 (T 30 0 12 - 1)) 1 T (0 : Int32) ((mFate T x, T))).1 ∧ X' = wdo X 3 (mG (mIn x 0 (T 30 0 12 - 1)) 1 T (0 : Int32) ((mFate T x, T))).2) := by
  refine nM_of hI (by decide +kernel) (Nat.le_of_ble_eq_true rfl) ?_
  intro p e s m args below meth cd ls hc hr _ hP hl hS
  have hx := hc.1
  have hb := hc.2.1
  have hl : lv_has ls 2 [(0, .ref (ad 3 30 0)), (1, .int x)] := hl
  refine lv_aload_n hx hb dX10_deposit_0 rfl (lv_at hl 0 rfl) ?_
  refine lv_iconst (v := 0) hx hb dX10_deposit_1 (by decide) ?_
  refine p10_85 hc hP hS (nv_m hon3 (by decide) Nat.zero_lt_one) dX10_deposit_2 (fun H locs hP hS => ?_)
  rw [hT] at hP
  refine lv_aload_n hx hb dX10_deposit_5 rfl (lv_at hl 0 rfl) ?_
  refine lv_iload_n hx hb dX10_deposit_6 rfl (lv_at hl 1 rfl) ?_
  refine nc_Vi (c_X10_isPaper hI hon3 ) hc hP hS hl.1 gd10_152 (nrecv (q := (RX10, TX10, 31)) hc (npic_eta hP) (nv_m hon3 (by decide) Nat.zero_lt_one) rfl rfl) ⟨rfl, rfl⟩ nok_X10_isPaper rfl ⟨Nat.le_of_ble_eq_true rfl, Nat.le_of_ble_eq_true rfl⟩ ⟨Nat.le_of_ble_eq_true rfl, Nat.le_of_ble_eq_true rfl⟩ dX10_deposit_7 rfl (Nat.le_of_ble_eq_true rfl) (fun r X1 H locs hp hP hS => ?_)
  obtain ⟨hr9, hX9⟩ := hp
  rw [hX9] at hP
  subst hr9
  refine lv_if_eq (tgt := 21) hx hb dX10_deposit_10 (by decide) (fun c_10 => ?_) (fun c_10 => ?_)
  · refine lv_aload_n hx hb dX10_deposit_21 rfl (lv_at hl 0 rfl) ?_
    refine lv_iconst (v := 1) hx hb dX10_deposit_22 (by decide) ?_
    refine nc_Vi (c_X10_fails hI hon3) hc hP hS hl.1 gd10_104 (nrecv (q := (RX10, TX10, 31)) hc (npic_eta hP) (nv_m hon3 (by decide) Nat.zero_lt_one) rfl rfl) ⟨rfl, rfl⟩ nok_X10_fails rfl ⟨Nat.le_of_ble_eq_true rfl, Nat.le_of_ble_eq_true rfl⟩ ⟨Nat.le_of_ble_eq_true rfl, Nat.le_of_ble_eq_true rfl⟩ dX10_deposit_23 rfl (Nat.le_of_ble_eq_true rfl) (fun r X1 H locs hp hP hS => ?_)
    obtain ⟨hr9, hX9⟩ := hp
    rw [hX9] at hP
    subst hr9
    exact ne_i hc hP hS hr dX10_deposit_26 (mR_of (mG_f (by clear hP hS hl hc hx hb hr hT; simp_all [-Int32.not_le, -Int32.not_lt, i32_lt, nb_t, nb_f, nb_z, nb_o])))
  · refine lv_aload_n hx hb dX10_deposit_13 rfl (lv_at hl 0 rfl) ?_
    refine lv_iload_n hx hb dX10_deposit_14 rfl (lv_at hl 1 rfl) ?_
    refine nc_Vi (c_X10_fate hI hon3 hok (mvp0 (nb_nz.mp c_10) hok.np hok.npL)) hc hP hS hl.1 gd10_201 (nrecv (q := (RX10, TX10, 31)) hc (npic_eta hP) (nv_m hon3 (by decide) Nat.zero_lt_one) rfl rfl) ⟨rfl, rfl⟩ nok_X10_fate rfl ⟨Nat.le_of_ble_eq_true rfl, Nat.le_of_ble_eq_true rfl⟩ ⟨Nat.le_of_ble_eq_true rfl, Nat.le_of_ble_eq_true rfl⟩ dX10_deposit_15 rfl (Nat.le_of_ble_eq_true rfl) (fun r X1 H locs hp hP hS => ?_)
    obtain ⟨hr9, hX9⟩ := hp
    rw [hX9] at hP
    subst hr9
    refine lv_goto (tgt := 26) hx hb dX10_deposit_18 (by decide) ?_
    exact ne_i hc hP hS hr dX10_deposit_26 (mR_of ((mG_t (by clear hP hS hl hc hx hb hr hT; simp_all [-Int32.not_le, -Int32.not_lt, i32_lt, nb_t, nb_f, nb_z, nb_o])).trans (rfl)))
set_option maxHeartbeats 4000000 in
set_option maxRecDepth 100000 in
theorem c_X10_sumHeld (hI : ninj ad on) (hon3 : on 3) (hT : nput M 30 0 0 0 = T) (hok : mOk T) : nMi l D dA ad on yX10_sumHeld cX10_sumHeld 1 (some .int) (nrm 9) [.ref (ad 3 30 0)] (wdo X 3 M) (fun r X' => r = ((mSum T 0, T)).1 ∧ X' = wdo X 3 ((mSum T 0, T)).2) := by
  refine nM_of hI (by decide +kernel) (Nat.le_of_ble_eq_true rfl) ?_
  intro p e s m args below meth cd ls hc hr _ hP hl hS
  have hx := hc.1
  have hb := hc.2.1
  have hl : lv_has ls 1 [(0, .ref (ad 3 30 0))] := hl
  refine lv_aload_n hx hb dX10_sumHeld_0 rfl (lv_at hl 0 rfl) ?_
  refine lv_iconst (v := 0) hx hb dX10_sumHeld_1 (by decide) ?_
  refine p10_85 hc hP hS (nv_m hon3 (by decide) Nat.zero_lt_one) dX10_sumHeld_2 (fun H locs hP hS => ?_)
  rw [hT] at hP
  refine lv_aload_n hx hb dX10_sumHeld_5 rfl (lv_at hl 0 rfl) ?_
  refine lv_iconst (v := 0) hx hb dX10_sumHeld_6 (by decide) ?_
  refine nc_Vi (c_X10_sum hI hon3 hok) hc hP hS hl.1 gd10_207 (nrecv (q := (RX10, TX10, 31)) hc (npic_eta hP) (nv_m hon3 (by decide) Nat.zero_lt_one) rfl rfl) ⟨rfl, rfl⟩ nok_X10_sum rfl ⟨Nat.le_of_ble_eq_true rfl, Nat.le_of_ble_eq_true rfl⟩ ⟨Nat.le_of_ble_eq_true rfl, Nat.le_of_ble_eq_true rfl⟩ dX10_sumHeld_7 rfl (Nat.le_of_ble_eq_true rfl) (fun r X1 H locs hp hP hS => ?_)
  obtain ⟨hr9, hX9⟩ := hp
  rw [hX9] at hP
  subst hr9
  exact ne_i hc hP hS hr dX10_sumHeld_10 (mR_of (rfl))
set_option maxHeartbeats 4000000 in
set_option maxRecDepth 100000 in
theorem c_X10_sumLost (hI : ninj ad on) (hon3 : on 3) (hT : nput M 30 0 0 0 = T) (hok : mOk T) : nMi l D dA ad on yX10_sumLost cX10_sumLost 1 (some .int) (nrm 9) [.ref (ad 3 30 0)] (wdo X 3 M) (fun r X' => r = ((mSum T 2, T)).1 ∧ X' = wdo X 3 ((mSum T 2, T)).2) := by
  refine nM_of hI (by decide +kernel) (Nat.le_of_ble_eq_true rfl) ?_
  intro p e s m args below meth cd ls hc hr _ hP hl hS
  have hx := hc.1
  have hb := hc.2.1
  have hl : lv_has ls 1 [(0, .ref (ad 3 30 0))] := hl
  refine lv_aload_n hx hb dX10_sumLost_0 rfl (lv_at hl 0 rfl) ?_
  refine lv_iconst (v := 0) hx hb dX10_sumLost_1 (by decide) ?_
  refine p10_85 hc hP hS (nv_m hon3 (by decide) Nat.zero_lt_one) dX10_sumLost_2 (fun H locs hP hS => ?_)
  rw [hT] at hP
  refine lv_aload_n hx hb dX10_sumLost_5 rfl (lv_at hl 0 rfl) ?_
  refine lv_iconst (v := 2) hx hb dX10_sumLost_6 (by decide) ?_
  refine nc_Vi (c_X10_sum hI hon3 hok) hc hP hS hl.1 gd10_207 (nrecv (q := (RX10, TX10, 31)) hc (npic_eta hP) (nv_m hon3 (by decide) Nat.zero_lt_one) rfl rfl) ⟨rfl, rfl⟩ nok_X10_sum rfl ⟨Nat.le_of_ble_eq_true rfl, Nat.le_of_ble_eq_true rfl⟩ ⟨Nat.le_of_ble_eq_true rfl, Nat.le_of_ble_eq_true rfl⟩ dX10_sumLost_7 rfl (Nat.le_of_ble_eq_true rfl) (fun r X1 H locs hp hP hS => ?_)
  obtain ⟨hr9, hX9⟩ := hp
  rw [hX9] at hP
  subst hr9
  exact ne_i hc hP hS hr dX10_sumLost_10 (mR_of (rfl))
set_option maxHeartbeats 4000000 in
set_option maxRecDepth 100000 in
theorem c_X10_lostShare (hI : ninj ad on) (hon3 : on 3) (hT : nput M 30 0 0 0 = T) (hok : mOk T) (hnn : ∀ x y : Int32, ¬ y = 0 → vf_n32 (FP.fdiv (FP.i2f x) (FP.i2f y))) : nMf l D dA ad on yX10_lostShare cX10_lostShare 2 (nrm 9) [.ref (ad 3 30 0)] (wdo X 3 M) (fun r X' => r = (mG (!decide (mSum T 0 + mSum T 1 + mSum T 2 = 0)) 1 T (FP.fconst0 : UInt32) ((FP.fdiv (FP.i2f (mSum T 2)) (FP.i2f (mSum T 0 + mSum T 1 + mSum T 2)), T))).1 ∧ X' = wdo X 3 (mG (!decide (mSum T 0 + mSum T 1 + mSum T 2 = 0)) 1 T (FP.fconst0 : UInt32) ((FP.fdiv (FP.i2f (mSum T 2)) (FP.i2f (mSum T 0 + mSum T 1 + mSum T 2)), T))).2) := by
  refine nM_of hI (by decide +kernel) (Nat.le_of_ble_eq_true rfl) ?_
  intro p e s m args below meth cd ls hc hr _ hP hl hS
  have hx := hc.1
  have hb := hc.2.1
  have hl : lv_has ls 2 [(0, .ref (ad 3 30 0))] := hl
  refine lv_aload_n hx hb dX10_lostShare_0 rfl (lv_at hl 0 rfl) ?_
  refine lv_iconst (v := 0) hx hb dX10_lostShare_1 (by decide) ?_
  refine p10_85 hc hP hS (nv_m hon3 (by decide) Nat.zero_lt_one) dX10_lostShare_2 (fun H locs hP hS => ?_)
  rw [hT] at hP
  refine lv_aload_n hx hb dX10_lostShare_5 rfl (lv_at hl 0 rfl) ?_
  refine lv_iconst (v := 0) hx hb dX10_lostShare_6 (by decide) ?_
  refine nc_Vi (c_X10_sum hI hon3 hok) hc hP hS hl.1 gd10_207 (nrecv (q := (RX10, TX10, 31)) hc (npic_eta hP) (nv_m hon3 (by decide) Nat.zero_lt_one) rfl rfl) ⟨rfl, rfl⟩ nok_X10_sum rfl ⟨Nat.le_of_ble_eq_true rfl, Nat.le_of_ble_eq_true rfl⟩ ⟨Nat.le_of_ble_eq_true rfl, Nat.le_of_ble_eq_true rfl⟩ dX10_lostShare_7 rfl (Nat.le_of_ble_eq_true rfl) (fun r X1 H locs hp hP hS => ?_)
  obtain ⟨hr9, hX9⟩ := hp
  rw [hX9] at hP
  subst hr9
  refine lv_aload_n hx hb dX10_lostShare_10 rfl (lv_at hl 0 rfl) ?_
  refine lv_iconst (v := 1) hx hb dX10_lostShare_11 (by decide) ?_
  refine nc_Vi (c_X10_sum hI hon3 hok) hc hP hS hl.1 gd10_207 (nrecv (q := (RX10, TX10, 31)) hc (npic_eta hP) (nv_m hon3 (by decide) Nat.zero_lt_one) rfl rfl) ⟨rfl, rfl⟩ nok_X10_sum rfl ⟨Nat.le_of_ble_eq_true rfl, Nat.le_of_ble_eq_true rfl⟩ ⟨Nat.le_of_ble_eq_true rfl, Nat.le_of_ble_eq_true rfl⟩ dX10_lostShare_12 rfl (Nat.le_of_ble_eq_true rfl) (fun r X1 H locs hp hP hS => ?_)
  obtain ⟨hr9, hX9⟩ := hp
  rw [hX9] at hP
  subst hr9
  refine lv_iadd hx hb dX10_lostShare_15 ?_
  refine lv_aload_n hx hb dX10_lostShare_16 rfl (lv_at hl 0 rfl) ?_
  refine lv_iconst (v := 2) hx hb dX10_lostShare_17 (by decide) ?_
  refine nc_Vi (c_X10_sum hI hon3 hok) hc hP hS hl.1 gd10_207 (nrecv (q := (RX10, TX10, 31)) hc (npic_eta hP) (nv_m hon3 (by decide) Nat.zero_lt_one) rfl rfl) ⟨rfl, rfl⟩ nok_X10_sum rfl ⟨Nat.le_of_ble_eq_true rfl, Nat.le_of_ble_eq_true rfl⟩ ⟨Nat.le_of_ble_eq_true rfl, Nat.le_of_ble_eq_true rfl⟩ dX10_lostShare_18 rfl (Nat.le_of_ble_eq_true rfl) (fun r X1 H locs hp hP hS => ?_)
  obtain ⟨hr9, hX9⟩ := hp
  rw [hX9] at hP
  subst hr9
  refine lv_iadd hx hb dX10_lostShare_21 ?_
  refine lv_istore_n (lv' := [(1, .int _), (0, .ref _)]) hx hb dX10_lostShare_22 rfl hl (by decide) rfl (fun ls hl => ?_)
  refine lv_iload_n hx hb dX10_lostShare_23 rfl (lv_at hl 0 rfl) ?_
  refine lv_if_ne (tgt := 34) hx hb dX10_lostShare_24 (by decide) (fun c_24 => ?_) (fun c_24 => ?_)
  · refine lv_aload_n hx hb dX10_lostShare_34 rfl (lv_at hl 1 rfl) ?_
    refine lv_iconst (v := 2) hx hb dX10_lostShare_35 (by decide) ?_
    refine nc_Vi (c_X10_sum hI hon3 hok) hc hP hS hl.1 gd10_207 (nrecv (q := (RX10, TX10, 31)) hc (npic_eta hP) (nv_m hon3 (by decide) Nat.zero_lt_one) rfl rfl) ⟨rfl, rfl⟩ nok_X10_sum rfl ⟨Nat.le_of_ble_eq_true rfl, Nat.le_of_ble_eq_true rfl⟩ ⟨Nat.le_of_ble_eq_true rfl, Nat.le_of_ble_eq_true rfl⟩ dX10_lostShare_36 rfl (Nat.le_of_ble_eq_true rfl) (fun r X1 H locs hp hP hS => ?_)
    obtain ⟨hr9, hX9⟩ := hp
    rw [hX9] at hP
    subst hr9
    refine lv_i2f hx hb dX10_lostShare_39 ?_
    refine lv_iload_n hx hb dX10_lostShare_40 rfl (lv_at hl 0 rfl) ?_
    refine lv_i2f hx hb dX10_lostShare_41 ?_
    refine lv_fdiv hx hb dX10_lostShare_42 (hnn _ _ c_24) ?_
    exact ne_f hc hP hS hr dX10_lostShare_43 (mR_of ((mG_t (by clear hP hS hl hc hx hb hr hT; simp_all [-Int32.not_le, -Int32.not_lt, i32_lt, nb_t, nb_f, nb_z, nb_o])).trans (rfl)))
  · refine lv_aload_n hx hb dX10_lostShare_27 rfl (lv_at hl 1 rfl) ?_
    refine lv_iconst (v := 1) hx hb dX10_lostShare_28 (by decide) ?_
    refine p10_85 hc hP hS (nv_m hon3 (by decide) Nat.zero_lt_one) dX10_lostShare_29 (fun H locs hP hS => ?_)
    refine lv_fconst0 hx hb dX10_lostShare_32 ?_
    exact ne_f hc hP hS hr dX10_lostShare_33 (mR_of (mG_f (by clear hP hS hl hc hx hb hr hT; simp_all [-Int32.not_le, -Int32.not_lt, i32_lt, nb_t, nb_f, nb_z, nb_o])))
set_option maxHeartbeats 4000000 in
set_option maxRecDepth 100000 in
theorem c_X10_share (hI : ninj ad on) (hon3 : on 3) (hT : nput M 30 0 0 0 = T) (hok : mOk T) {x : Int32} (hnn : ∀ x y : Int32, ¬ y = 0 → vf_n64 (FP.ddiv (FP.i2d x) (FP.i2d y))) : nMd l D dA ad on yX10_share cX10_share 3 (nrm 9) [.ref (ad 3 30 0), .int x] (wdo X 3 M) (fun r X' => r = (mG (mIn x 0 (T 30 0 12 - 1)) 1 T (FP.dconst0 : UInt64) (mG (!decide (mVotes T (T 43 0 (nix x)) = 0)) 2 T (FP.dconst0 : UInt64) ((FP.ddiv (FP.i2d (T 50 0 (nix x))) (FP.i2d (mVotes T (T 43 0 (nix x)))), T)))).1 ∧ X' = wdo X 3 (mG (mIn x 0 (T 30 0 12 - 1)) 1 T (FP.dconst0 : UInt64) (mG (!decide (mVotes T (T 43 0 (nix x)) = 0)) 2 T (FP.dconst0 : UInt64) ((FP.ddiv (FP.i2d (T 50 0 (nix x))) (FP.i2d (mVotes T (T 43 0 (nix x)))), T)))).2) := by
  refine nM_of hI (by decide +kernel) (Nat.le_of_ble_eq_true rfl) ?_
  intro p e s m args below meth cd ls hc hr _ hP hl hS
  have hx := hc.1
  have hb := hc.2.1
  have hl : lv_has ls 3 [(0, .ref (ad 3 30 0)), (1, .int x)] := hl
  refine lv_aload_n hx hb dX10_share_0 rfl (lv_at hl 0 rfl) ?_
  refine lv_iconst (v := 0) hx hb dX10_share_1 (by decide) ?_
  refine p10_85 hc hP hS (nv_m hon3 (by decide) Nat.zero_lt_one) dX10_share_2 (fun H locs hP hS => ?_)
  rw [hT] at hP
  refine lv_aload_n hx hb dX10_share_5 rfl (lv_at hl 0 rfl) ?_
  refine lv_iload_n hx hb dX10_share_6 rfl (lv_at hl 1 rfl) ?_
  refine nc_Vi (c_X10_isPaper hI hon3 ) hc hP hS hl.1 gd10_152 (nrecv (q := (RX10, TX10, 31)) hc (npic_eta hP) (nv_m hon3 (by decide) Nat.zero_lt_one) rfl rfl) ⟨rfl, rfl⟩ nok_X10_isPaper rfl ⟨Nat.le_of_ble_eq_true rfl, Nat.le_of_ble_eq_true rfl⟩ ⟨Nat.le_of_ble_eq_true rfl, Nat.le_of_ble_eq_true rfl⟩ dX10_share_7 rfl (Nat.le_of_ble_eq_true rfl) (fun r X1 H locs hp hP hS => ?_)
  obtain ⟨hr9, hX9⟩ := hp
  rw [hX9] at hP
  subst hr9
  refine lv_if_ne (tgt := 20) hx hb dX10_share_10 (by decide) (fun c_10 => ?_) (fun c_10 => ?_)
  · refine lv_aload_n hx hb dX10_share_20 rfl (lv_at hl 0 rfl) ?_
    refine lv_aload_n hx hb dX10_share_21 rfl (lv_at hl 0 rfl) ?_
    refine g10_36 hc hP (nv_m hon3 (by decide) Nat.zero_lt_one) dX10_share_22 ?_
    refine lv_iload_n hx hb dX10_share_25 rfl (lv_at hl 1 rfl) ?_
    refine la_43 hc hP (nv_m hon3 (by decide) Nat.zero_lt_one) (mvp (nb_nz.mp c_10) hok.np hok.np12 (by decide)) dX10_share_26 ?_
    refine nc_Vi (c_X10_allVotes hI hon3 hok) hc hP hS hl.1 gd10_204 (nrecv (q := (RX10, TX10, 31)) hc (npic_eta hP) (nv_m hon3 (by decide) Nat.zero_lt_one) rfl rfl) ⟨rfl, rfl⟩ nok_X10_allVotes rfl ⟨Nat.le_of_ble_eq_true rfl, Nat.le_of_ble_eq_true rfl⟩ ⟨Nat.le_of_ble_eq_true rfl, Nat.le_of_ble_eq_true rfl⟩ dX10_share_27 rfl (Nat.le_of_ble_eq_true rfl) (fun r X1 H locs hp hP hS => ?_)
    obtain ⟨hr9, hX9⟩ := hp
    rw [hX9] at hP
    subst hr9
    refine lv_istore_n (lv' := [(2, .int _), (0, .ref _), (1, .int _)]) hx hb dX10_share_30 rfl hl (by decide) rfl (fun ls hl => ?_)
    refine lv_iload_n hx hb dX10_share_31 rfl (lv_at hl 0 rfl) ?_
    refine lv_if_ne (tgt := 42) hx hb dX10_share_32 (by decide) (fun c_32 => ?_) (fun c_32 => ?_)
    · refine lv_aload_n hx hb dX10_share_42 rfl (lv_at hl 1 rfl) ?_
      refine g10_58 hc hP (nv_m hon3 (by decide) Nat.zero_lt_one) dX10_share_43 ?_
      refine lv_iload_n hx hb dX10_share_46 rfl (lv_at hl 2 rfl) ?_
      refine la_50 hc hP (nv_m hon3 (by decide) Nat.zero_lt_one) (mvp (nb_nz.mp c_10) hok.np hok.np12 (by decide)) dX10_share_47 ?_
      refine lv_i2d hx hb dX10_share_48 ?_
      refine lv_iload_n hx hb dX10_share_49 rfl (lv_at hl 0 rfl) ?_
      refine lv_i2d hx hb dX10_share_50 ?_
      refine lv_ddiv hx hb dX10_share_51 (hnn _ _ c_32) ?_
      exact ne_d hc hP hS hr dX10_share_52 (mR_of ((mG_t (by clear hP hS hl hc hx hb hr hT; simp_all [-Int32.not_le, -Int32.not_lt, i32_lt, nb_t, nb_f, nb_z, nb_o])).trans ((mG_t (by clear hP hS hl hc hx hb hr hT; simp_all [-Int32.not_le, -Int32.not_lt, i32_lt, nb_t, nb_f, nb_z, nb_o])).trans (rfl))))
    · refine lv_aload_n hx hb dX10_share_35 rfl (lv_at hl 1 rfl) ?_
      refine lv_iconst (v := 2) hx hb dX10_share_36 (by decide) ?_
      refine p10_85 hc hP hS (nv_m hon3 (by decide) Nat.zero_lt_one) dX10_share_37 (fun H locs hP hS => ?_)
      refine lv_dconst0 hx hb dX10_share_40 ?_
      exact ne_d hc hP hS hr dX10_share_41 (mR_of ((mG_t (by clear hP hS hl hc hx hb hr hT; simp_all [-Int32.not_le, -Int32.not_lt, i32_lt, nb_t, nb_f, nb_z, nb_o])).trans (mG_f (by clear hP hS hl hc hx hb hr hT; simp_all [-Int32.not_le, -Int32.not_lt, i32_lt, nb_t, nb_f, nb_z, nb_o]))))
  · refine lv_aload_n hx hb dX10_share_13 rfl (lv_at hl 0 rfl) ?_
    refine lv_iconst (v := 1) hx hb dX10_share_14 (by decide) ?_
    refine p10_85 hc hP hS (nv_m hon3 (by decide) Nat.zero_lt_one) dX10_share_15 (fun H locs hP hS => ?_)
    refine lv_dconst0 hx hb dX10_share_18 ?_
    exact ne_d hc hP hS hr dX10_share_19 (mR_of (mG_f (by clear hP hS hl hc hx hb hr hT; simp_all [-Int32.not_le, -Int32.not_lt, i32_lt, nb_t, nb_f, nb_z, nb_o])))
end N19
