/-! the model: its letters and its list -/
def mrk (T : NSt) (c : Int32) : Int32 := match ffind (fun k => decide (T 58 0 k = c)) 26 with
  | some k => nI k
  | none => -1
def mrkn (T : NSt) (x : Int32) (k : Nat) : Int32 := mrk T (T 45 0 (nix (4 * x + nI k)))
def mah (T : NSt) (x z : Int32) : Nat → Nat → Bool
  | 0, _ => decide (x < z)
  | n + 1, k => if mrkn T x k = mrkn T z k then mah T x z n (k + 1) else decide (mrkn T x k < mrkn T z k)
def mAhd (T : NSt) (x z : Int32) : Bool := mah T x z 4 0
theorem mah_tr {T : NSt} {x y z : Int32} : ∀ n k, mah T x y n k = true → mah T y z n k = true → mah T x z n k = true
  | 0, _, h, g => by
    simp only [mah, decide_eq_true_eq] at h g ⊢
    exact Int32.lt_trans h g
  | n + 1, k, h, g => by
    unfold mah at h g ⊢
    by_cases e1 : mrkn T x k = mrkn T y k
    · rw [if_pos e1] at h
      by_cases e2 : mrkn T y k = mrkn T z k
      · rw [if_pos e2] at g
        rw [if_pos (e1.trans e2)]
        exact mah_tr n (k + 1) h g
      · rw [if_neg e2] at g
        rw [if_neg (fun q => e2 (e1.symm.trans q)), e1]
        exact g
    · rw [if_neg e1, decide_eq_true_eq] at h
      by_cases e2 : mrkn T y k = mrkn T z k
      · rw [← e2, if_neg e1]
        exact decide_eq_true h
      · rw [if_neg e2, decide_eq_true_eq] at g
        have h9 := Int32.lt_trans h g
        rw [if_neg (fun q => by rw [q] at h9; exact Int32.lt_irrefl h9)]
        exact decide_eq_true h9
theorem mah_irr {T : NSt} {x : Int32} : ∀ n k, mah T x x n k = false
  | 0, _ => by
    simp only [mah, decide_eq_false_iff_not]
    exact Int32.lt_irrefl
  | n + 1, k => by
    unfold mah
    rw [if_pos rfl]
    exact mah_irr n (k + 1)
def mStd (T : NSt) (a : Int32) (q : Nat) : Bool := decide (T 43 0 q = a) && decide (mWhy T (nI q) = 0)
/-- the list holds the standing papers below n, in their order -/
def mSrt (T : NSt) (a : Int32) (U : NSt) (len n : Nat) : Prop := (∀ i, i < len → ∃ q, q < n ∧ U 59 0 i = nI q ∧ mStd T a q = true) ∧ (∀ q, q < n → mStd T a q = true → ∃ i, i < len ∧ U 59 0 i = nI q) ∧ (∀ i j, i < j → j < len → mAhd T (U 59 0 i) (U 59 0 j) = true) ∧ len ≤ n
theorem nI_inj {a b : Nat} (ha : a < 2 ^ 31) (hb : b < 2 ^ 31) (h : nI a = nI b) : a = b := by
  have h9 := congrArg nix h
  rwa [nix_nI ha, nix_nI hb] at h9
