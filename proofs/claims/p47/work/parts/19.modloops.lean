/-! the model: its loops -/
def ncmpL (x y : Int64) : Int32 := if y < x then 1 else if x = y then 0 else -1
/-- the same but for the model's two scratch arrays -/
def mOff (T U : NSt) : Prop := ∀ k, k ≠ 59 → k ≠ 60 → U k = T k
theorem mOff.rf {T : NSt} : mOff T T := fun _ _ _ => rfl
theorem mOff.tr {T U V : NSt} (h : mOff T U) (g : mOff U V) : mOff T V := fun k a b => (g k a b).trans (h k a b)
theorem mOff.put60 {T : NSt} {i j : Nat} {v : Int32} : mOff T (nput T 60 i j v) := by
  intro k _ b
  funext i' j'
  unfold nput
  rw [if_neg (fun z => b z.1)]
theorem mOff.enp {T U : NSt} (h : mOff T U) : mnp U = mnp T := by unfold mnp; rw [h 30 (by decide) (by decide)]
theorem mOff.ens {T U : NSt} (h : mOff T U) : mns U = mns T := by unfold mns; rw [h 30 (by decide) (by decide)]
theorem mOff.env {T U : NSt} (h : mOff T U) : mnv U = mnv T := by unfold mnv; rw [h 30 (by decide) (by decide)]
theorem mOff.ena {T U : NSt} (h : mOff T U) : mna U = mna T := by unfold mna; rw [h 30 (by decide) (by decide)]
theorem mOk_of {T U : NSt} (h30 : U 30 0 12 = T 30 0 12 ∧ U 30 0 22 = T 30 0 22 ∧ U 30 0 9 = T 30 0 9 ∧ U 30 0 5 = T 30 0 5) (h43 : U 43 = T 43) (h53 : U 53 = T 53) (h54 : U 54 = T 54) (g : mOk T) : mOk U := by
  obtain ⟨a, b, c, d⟩ := h30
  unfold mOk mnp mns mnv mna at g ⊢
  rw [a, b, c, d, h43, h53, h54]
  exact g
theorem mOff.ok {T U : NSt} (h : mOff T U) (g : mOk T) : mOk U := mOk_of (by rw [h 30 (by decide) (by decide)]; exact ⟨rfl, rfl, rfl, rfl⟩) (h 43 (by decide) (by decide)) (h 53 (by decide) (by decide)) (h 54 (by decide) (by decide)) g
def mRoll (T : NSt) : Int32 := isum (fun k => if T 41 0 k = 0 then 1 else 0) (mnv T)
def mFree (T : NSt) (v : Int32) (n : Nat) (w : Int32) : Bool := !(ffind (fun k => decide (T 54 0 k = v) && !decide (T 55 0 k = 0) && !mGone T (T 53 0 k) w) n).isSome
def mOres (T : NSt) (k : Nat) (w : Int32) : Int32 := if T 55 0 k = 0 then 1 else if T 41 0 (nix (T 54 0 k)) = 0 then (if mGone T (T 53 0 k) w then 3 else if mFree T (T 54 0 k) k w then 0 else 4) else 2
def mRes (T : NSt) (k : Nat) : Int32 := if mOpen T then mOres T k 0 else T 56 0 k
def mcs (T : NSt) (x w : Int32) : Nat → Int32 × Int64
  | 0 => (0, 0)
  | n + 1 => if !decide (T 55 0 n = 0) && !mGone T (T 53 0 n) w then ((mcs T x w n).1 + (if decide (T 53 0 n = x) && decide (T 41 0 (nix (T 54 0 n)) = 0) && decide (ncmpL ((mcs T x w n).2 >>> ((T 54 0 n).toInt64 &&& 63) &&& 1) 0 = 0) then 1 else 0), (mcs T x w n).2 ||| 1 <<< ((T 54 0 n).toInt64 &&& 63)) else mcs T x w n
def mCnt (T : NSt) (x w : Int32) : Int32 := (mcs T x w (mns T)).1
def mCounted (T : NSt) (x : Int32) : Int32 := isum (fun k => if decide (T 53 0 k = x) && decide (mRes T k = 0) then 1 else 0) (mns T)
def mSup (T : NSt) (v : Int32) : Option Nat := ffind (fun k => decide (T 54 0 k = v) && decide (mRes T k = 0)) (mns T)
def mDbl (T : NSt) (x : Int32) : Bool := (ffind (fun q => decide (0 ≤ T 44 0 (nix x)) && decide (T 44 0 q = T 44 0 (nix x)) && decide (T 43 0 q = T 43 0 (nix x)) && decide (T 60 0 q = 0)) (nix x)).isSome
def mRs (U : NSt) (n : Nat) : Int32 := if 0 < U 46 0 n then 1 else if U 47 0 n < U 37 0 (nix (U 43 0 n)) then 2 else if mCnt U (nI n) 0 < U 36 0 (nix (U 43 0 n)) then 3 else if mDbl U (nI n) then 4 else 0
def mwh (T : NSt) : Nat → NSt
  | 0 => T
  | n + 1 => nput (mwh T n) 60 0 n (mRs (mwh T n) n)
theorem mwh_off (T : NSt) : ∀ n, mOff T (mwh T n)
  | 0 => mOff.rf
  | n + 1 => (mwh_off T n).tr mOff.put60
def mWhy0 (T : NSt) (x : Int32) : Int32 := if 0 < T 46 0 (nix x) then 1 else if mOpen T then mwh T (nix x + 1) 60 0 (nix x) else T 51 0 (nix x)
def mWhy (T : NSt) (x : Int32) : Int32 := if mWhy0 T x = 0 then (if T 48 0 (nix x) = 0 then 0 else 5) else mWhy0 T x
def mVotes (T : NSt) (a : Int32) : Int32 := isum (fun k => if T 43 0 k = a then T 50 0 k else 0) (mnp T)
def mFate (T : NSt) (x : Int32) : Int32 := if 0 < T 46 0 (nix x) then (if T 46 0 (nix x) = 1 then 1 else 2) else if mOpen T then 0 else if 0 < T 51 0 (nix x) then 1 else if T 48 0 (nix x) = 0 then (if T 38 0 (nix (T 43 0 (nix x))) = 0 then 0 else if 20 * T 50 0 (nix x) < mVotes T (T 43 0 (nix x)) then 2 else 1) else if mRepl T x then 0 else 1
def mSum (T : NSt) (q : Int32) : Int32 := isum (fun k => if mFate T (nI k) = q then T 47 0 k else 0) (mnp T)
theorem mcs_s (T : NSt) (x w : Int32) (n : Nat) : mcs T x w (n + 1) = if !decide (T 55 0 n = 0) && !mGone T (T 53 0 n) w then ((mcs T x w n).1 + (if decide (T 53 0 n = x) && decide (T 41 0 (nix (T 54 0 n)) = 0) && decide (ncmpL ((mcs T x w n).2 >>> ((T 54 0 n).toInt64 &&& 63) &&& 1) 0 = 0) then 1 else 0), (mcs T x w n).2 ||| 1 <<< ((T 54 0 n).toInt64 &&& 63)) else mcs T x w n := rfl
theorem mGone_off {T U : NSt} (h : mOff T U) (x w : Int32) : mGone U x w = mGone T x w := by unfold mGone; rw [h 46 (by decide) (by decide)]
theorem mcs_off {T U : NSt} (h : mOff T U) (x w : Int32) : ∀ n, mcs U x w n = mcs T x w n
  | 0 => rfl
  | n + 1 => by rw [mcs_s, mcs_s, mcs_off h x w n, mGone_off h, h 55 (by decide) (by decide), h 53 (by decide) (by decide), h 54 (by decide) (by decide), h 41 (by decide) (by decide)]
theorem mCnt_off {T U : NSt} (h : mOff T U) (x w : Int32) : mCnt U x w = mCnt T x w := by unfold mCnt; rw [mcs_off h, h.ens]
theorem ffind_congr {p q : Nat → Bool} : ∀ {n : Nat}, (∀ k, k < n → p k = q k) → ffind p n = ffind q n
  | 0, _ => rfl
  | n + 1, h => by
    unfold ffind
    rw [ffind_congr (fun k hk => h k (Nat.lt_succ_of_lt hk)), h n (Nat.lt_succ_self n)]
