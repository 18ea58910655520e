/-! the model: its methods without loops -/
def mnp (T : NSt) : Nat := nix (T 30 0 12)
def mns (T : NSt) : Nat := nix (T 30 0 22)
def mnv (T : NSt) : Nat := nix (T 30 0 9)
def mna (T : NSt) : Nat := nix (T 30 0 5)
def mOk (T : NSt) : Prop := T 30 0 12 = nI (mnp T) ∧ mnp T ≤ 12 ∧ T 30 0 22 = nI (mns T) ∧ mns T ≤ 150 ∧ T 30 0 9 = nI (mnv T) ∧ mnv T ≤ 40 ∧ T 30 0 5 = nI (mna T) ∧ mna T ≤ 5 ∧ (∀ k, k < mnp T → vp_in (T 43 0 k) 5) ∧ ∀ k, k < mns T → vp_in (T 53 0 k) 12 ∧ vp_in (T 54 0 k) 40
theorem mOk.np {T : NSt} (h : mOk T) : T 30 0 12 = nI (mnp T) := h.1
theorem mOk.np12 {T : NSt} (h : mOk T) : mnp T ≤ 12 := h.2.1
theorem mOk.ns {T : NSt} (h : mOk T) : T 30 0 22 = nI (mns T) := h.2.2.1
theorem mOk.ns150 {T : NSt} (h : mOk T) : mns T ≤ 150 := h.2.2.2.1
theorem mOk.nv {T : NSt} (h : mOk T) : T 30 0 9 = nI (mnv T) := h.2.2.2.2.1
theorem mOk.nv40 {T : NSt} (h : mOk T) : mnv T ≤ 40 := h.2.2.2.2.2.1
theorem mOk.na {T : NSt} (h : mOk T) : T 30 0 5 = nI (mna T) := h.2.2.2.2.2.2.1
theorem mOk.na5 {T : NSt} (h : mOk T) : mna T ≤ 5 := h.2.2.2.2.2.2.2.1
theorem mOk.ar {T : NSt} (h : mOk T) {k : Nat} (hk : k < mnp T) : vp_in (T 43 0 k) 5 := h.2.2.2.2.2.2.2.2.1 k hk
def mIn (v a b : Int32) : Bool := decide (a ≤ v) && decide (v ≤ b)
def mG {α : Type} (b : Bool) (k : Int32) (T : NSt) (z : α) (rest : α × NSt) : α × NSt := if b then rest else (z, nput T 30 0 0 k)
def mOpen (T : NSt) : Bool := decide (T 30 0 4 ≤ T 30 0 1)
def mSur (a b c d : Int32) : Bool := cSmall a && (cSmall b || decide (b = 32) && decide (c = 32)) && (cSmall c || decide (c = 32) && decide (d = 32)) && (cSmall d || decide (d = 32))
def mName (T : NSt) (x a b c d : Int32) : NSt := nput (nput (nput (nput T 45 0 (nix (4 * x)) (vp_nar .char a)) 45 0 (nix (4 * x + 1)) (vp_nar .char b)) 45 0 (nix (4 * x + 2)) (vp_nar .char c)) 45 0 (nix (4 * x + 3)) (vp_nar .char d)
def mRej (T : NSt) (x : Int32) : Bool := !mOpen T && !decide (T 46 0 (nix x) = 1) && decide (0 < T 51 0 (nix x))
def mRepl (T : NSt) (x : Int32) : Bool := decide (0 ≤ T 44 0 (nix x)) && decide (T 46 0 (nix x) = 0) && !mRej T x && decide (T 49 0 (nix x) < 2) && decide (T 30 0 4 ≤ T 30 0 2) && (mOpen T || !decide (T 48 0 (nix x) = 0))
def mGone (T : NSt) (x w : Int32) : Bool := decide (0 < T 46 0 (nix x)) || decide (((w >>> (x &&& 31)) &&& 1) = 1)
def mLoc (T : NSt) (x v : Int32) : Bool := decide (T 41 0 (nix v) = 0) && decide (T 40 0 (nix v) = T 43 0 (nix x))
