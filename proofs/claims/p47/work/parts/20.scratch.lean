/-! the model: what touches its scratch arrays -/
def mStand (T : NSt) (a : Int32) : Int32 := isum (fun k => if decide (T 43 0 k = a) && decide (mWhy T (nI k) = 0) then 1 else 0) (mnp T)
def mLost (T : NSt) (a : Int32) : Int32 := isum (fun k => if decide (T 43 0 k = a) && decide (mWhy T (nI k) = 0) && decide (mFate T (nI k) = 2) then 1 else 0) (mnp T)
def mFreed (T : NSt) (x : Int32) : Int32 := isum (fun k => if !decide (T 53 0 k = x) && !decide (mOres T k 0 = 0) && decide (mOres T k (1 <<< (x &&& 31)) = 0) then 1 else 0) (mns T)
/-- the same but for one scratch array -/
def mO60 (T U : NSt) : Prop := ∀ k, k ≠ 60 → U k = T k
theorem mO60.rf {T : NSt} : mO60 T T := fun _ _ => rfl
theorem mO60.off {T U : NSt} (h : mO60 T U) : mOff T U := fun k _ b => h k b
/-- after the close -/
def mOf2 (T U : NSt) : Prop := ∀ k, k ≠ 51 → k ≠ 56 → k ≠ 59 → k ≠ 60 → U k = T k
theorem mOf2.rf {T : NSt} : mOf2 T T := fun _ _ _ _ _ => rfl
theorem mOff.of2 {T U : NSt} (h : mOff T U) : mOf2 T U := fun k _ _ c d => h k c d
theorem mOf2.tr {T U V : NSt} (h : mOf2 T U) (g : mOf2 U V) : mOf2 T V := fun k a b c d => (g k a b c d).trans (h k a b c d)
theorem mOf2.at {T U : NSt} (h : mOf2 T U) {k : Nat} (hk : k < 51 ∨ k = 53 ∨ k = 54 ∨ k = 55) : U k = T k := h k (by omega) (by omega) (by omega) (by omega)
theorem mOf2.enp {T U : NSt} (h : mOf2 T U) : mnp U = mnp T := by unfold mnp; rw [h.at (k := 30) (by decide)]
theorem mOf2.ens {T U : NSt} (h : mOf2 T U) : mns U = mns T := by unfold mns; rw [h.at (k := 30) (by decide)]
theorem mOf2.ok {T U : NSt} (h : mOf2 T U) (g : mOk T) : mOk U := mOk_of (by rw [h.at (k := 30) (by decide)]; exact ⟨rfl, rfl, rfl, rfl⟩) (h.at (by decide)) (h.at (by decide)) (h.at (by decide)) g
def mClo (T U : NSt) : Prop := mOf2 T U ∧ (∀ k, k < mns T → U 56 0 k = mOres T k 0) ∧ ∀ k, k < mnp T → U 51 0 k = mwh T (k + 1) 60 0 k
def mPass (T : NSt) (a : Int32) (U : NSt) : Prop := if mOpen T && decide (T 30 0 1 < T 30 0 4 + a) then mClo T U else U = T
