/-! the model: its methods without loops -/
def mnp (T : NSt) : Nat := nix (T 30 0 12)
def mns (T : NSt) : Nat := nix (T 30 0 22)
def mnv (T : NSt) : Nat := nix (T 30 0 9)
def mna (T : NSt) : Nat := nix (T 30 0 5)
def mOk (T : NSt) : Prop := T 30 0 12 = nI (mnp T) ∧ mnp T ≤ 12 ∧ T 30 0 22 = nI (mns T) ∧ mns T ≤ 150 ∧ T 30 0 9 = nI (mnv T) ∧ mnv T ≤ 40 ∧ T 30 0 5 = nI (mna T) ∧ mna T ≤ 5 ∧ (∀ k, k < mnp T → vp_in (T 43 0 k) 5) ∧ ∀ k, k < mns T → vp_in (T 53 0 k) 12 ∧ vp_in (T 54 0 k) 40
theorem mOk.np {T : NSt} (h : mOk T) : T 30 0 12 = nI (mnp T) := h.1
theorem mOk.np12 {T : NSt} (h : mOk T) : mnp T ≤ 12 := h.2.1
theorem mOk.npL {T : NSt} (h : mOk T) : mnp T < 2 ^ 31 := Nat.lt_of_le_of_lt h.2.1 (by decide)
theorem mOk.ns {T : NSt} (h : mOk T) : T 30 0 22 = nI (mns T) := h.2.2.1
theorem mOk.ns150 {T : NSt} (h : mOk T) : mns T ≤ 150 := h.2.2.2.1
theorem mOk.nsL {T : NSt} (h : mOk T) : mns T < 2 ^ 31 := Nat.lt_of_le_of_lt h.2.2.2.1 (by decide)
theorem mOk.nv {T : NSt} (h : mOk T) : T 30 0 9 = nI (mnv T) := h.2.2.2.2.1
theorem mOk.nv40 {T : NSt} (h : mOk T) : mnv T ≤ 40 := h.2.2.2.2.2.1
theorem mOk.nvL {T : NSt} (h : mOk T) : mnv T < 2 ^ 31 := Nat.lt_of_le_of_lt h.2.2.2.2.2.1 (by decide)
theorem mOk.na {T : NSt} (h : mOk T) : T 30 0 5 = nI (mna T) := h.2.2.2.2.2.2.1
theorem mOk.na5 {T : NSt} (h : mOk T) : mna T ≤ 5 := h.2.2.2.2.2.2.2.1
theorem mOk.naL {T : NSt} (h : mOk T) : mna T < 2 ^ 31 := Nat.lt_of_le_of_lt h.2.2.2.2.2.2.2.1 (by decide)
theorem mOk.ar {T : NSt} (h : mOk T) {k : Nat} (hk : k < mnp T) : vp_in (T 43 0 k) 5 := h.2.2.2.2.2.2.2.2.1 k hk
theorem mOk.sp {T : NSt} (h : mOk T) {k : Nat} (hk : k < mns T) : vp_in (T 53 0 k) 12 := (h.2.2.2.2.2.2.2.2.2 k hk).1
theorem mOk.sv {T : NSt} (h : mOk T) {k : Nat} (hk : k < mns T) : vp_in (T 54 0 k) 40 := (h.2.2.2.2.2.2.2.2.2 k hk).2
def mIn (v a b : Int32) : Bool := decide (a ≤ v) && decide (v ≤ b)
theorem mIn_inB {x b : Int32} {n : Nat} (hb : b = nI n) (hn : n < 2 ^ 31) : mIn x 0 (b - 1) = inB x n := by
  subst hb
  by_cases h0 : x < 0
  · rw [inB_neg h0, mIn, decide_eq_false (Int32.not_le.mpr h0)]; rfl
  · rw [inB_lt h0 rfl hn, mIn, decide_eq_true (Int32.not_lt.mp h0), Bool.true_and]
    obtain ⟨j, hj, rfl⟩ := nI_of h0
    cases n with
    | zero =>
      rw [decide_eq_false (fun z => nI_nlt (Nat.zero_le j) hj z), decide_eq_false]
      intro z
      have h1 : nI j < 0 := Int32.lt_of_le_of_lt z (by decide)
      exact h0 h1
    | succ m =>
      have e : nI (m + 1) - 1 = nI m := by rw [Int32.sub_eq_add_neg]; exact pk_m1 m
      rw [e]
      have h9 : nI j ≤ nI m ↔ nI j < nI (m + 1) := by rw [nI_leI hj (by omega), nI_ltI hj hn]; omega
      simp only [h9]
theorem mvp0 {x b : Int32} {n : Nat} (h : mIn x 0 (b - 1) = true) (hb : b = nI n) (hn : n < 2 ^ 31) : vp_in x n := inB_t.mp ((mIn_inB hb hn).symm.trans h)
theorem mvp {x b : Int32} {n m : Nat} (h : mIn x 0 (b - 1) = true) (hb : b = nI n) (hm : n ≤ m) (h31 : m < 2 ^ 31) : vp_in x m := vp_mono (mvp0 h hb (Nat.lt_of_le_of_lt hm h31)) hm
theorem vp4 {x : Int32} (h : vp_in x 12) (k : Nat) (hk : k < 4) : vp_in (4 * x + nI k) 48 := by
  obtain ⟨j, hj, rfl⟩ := vp_in_of h (by decide)
  have e : (4 : Int32) * nI j + nI k = nI (4 * j + k) := by rw [show (4 : Int32) = nI 4 from rfl, pk_mul, nI_add]
  rw [e]
  exact vp_in_nI (by omega) (by decide)
theorem vp40 {x : Int32} (h : vp_in x 12) : vp_in (4 * x) 48 := by
  have h9 := vp4 h 0 (by decide)
  rwa [show (4 : Int32) * x + nI 0 = 4 * x from Int32.add_zero _] at h9
def mG {α : Type} (b : Bool) (k : Int32) (T : NSt) (z : α) (rest : α × NSt) : α × NSt := if b then rest else (z, nput T 30 0 0 k)
theorem mG_t {α : Type} {b : Bool} {k : Int32} {T : NSt} {z : α} {rest : α × NSt} (h : b = true) : mG b k T z rest = rest := by rw [h]; rfl
theorem mG_f {α : Type} {b : Bool} {k : Int32} {T : NSt} {z : α} {rest : α × NSt} (h : b = false) : mG b k T z rest = (z, nput T 30 0 0 k) := by rw [h]; rfl
theorem mR_of {α : Type} {F : α × NSt} {r : α} {T' : NSt} {X : NWd} (h : F = (r, T')) : r = F.1 ∧ wdo X 3 T' = wdo X 3 F.2 := by rw [h]; exact ⟨rfl, rfl⟩
def mOpen (T : NSt) : Bool := decide (T 30 0 4 ≤ T 30 0 1)
def mSur (a b c d : Int32) : Bool := cSmall a && (cSmall b || decide (b = 32) && decide (c = 32)) && (cSmall c || decide (c = 32) && decide (d = 32)) && (cSmall d || decide (d = 32))
def mName (T : NSt) (x a b c d : Int32) : NSt := nput (nput (nput (nput T 45 0 (nix (4 * x)) (vp_nar .char a)) 45 0 (nix (4 * x + 1)) (vp_nar .char b)) 45 0 (nix (4 * x + 2)) (vp_nar .char c)) 45 0 (nix (4 * x + 3)) (vp_nar .char d)
def mRej (T : NSt) (x : Int32) : Bool := !mOpen T && !decide (T 46 0 (nix x) = 1) && decide (0 < T 51 0 (nix x))
def mRepl (T : NSt) (x : Int32) : Bool := decide (0 ≤ T 44 0 (nix x)) && decide (T 46 0 (nix x) = 0) && !mRej T x && decide (T 49 0 (nix x) < 2) && decide (T 30 0 4 ≤ T 30 0 2) && (mOpen T || !decide (T 48 0 (nix x) = 0))
def mGone (T : NSt) (x w : Int32) : Bool := decide (0 < T 46 0 (nix x)) || decide (((w >>> (x &&& 31)) &&& 1) = 1)
def mLoc (T : NSt) (x v : Int32) : Bool := decide (T 41 0 (nix v) = 0) && decide (T 40 0 (nix v) = T 43 0 (nix x))
theorem mroom {x b : Int32} {n m : Nat} (he : x = nI n) (hm : n ≤ m) (hc : ¬ x = b) (hb : m < 2 ^ 31 ∧ b = nI m) : vp_in x m := by
  subst he
  refine vp_in_nI (Nat.lt_of_le_of_ne hm (fun z => hc ?_)) hb.1
  rw [z, hb.2]
theorem nput_at (T : NSt) (k i j : Nat) {v : Int32} : nput T k i j v k i j = v := by unfold nput; rw [if_pos ⟨rfl, rfl, rfl⟩]
theorem vp25 {x : Int32} {n : Nat} (h : mIn x 0 (nI n) = true) (hn : n < 1000 := by decide) : vp_in x (n + 1) := by
  unfold mIn at h
  rw [Bool.and_eq_true, decide_eq_true_eq, decide_eq_true_eq] at h
  obtain ⟨j, hj, rfl⟩ := nI_of (Int32.not_lt.mpr h.1)
  exact vp_in_nI (Nat.lt_succ_of_le ((nI_leI hj (by omega)).mp h.2)) (by omega)
theorem vp4q {x q : Int32} (h : vp_in x 12) (hq : mIn q 0 3 = true) : vp_in (4 * x + q) 48 := by
  have h3 : vp_in q 4 := vp25 (n := 3) hq
  obtain ⟨k, hk, rfl⟩ := vp_in_of h3 (by decide)
  exact vp4 h k hk
section N18
variable {l : Launch} {D : va_G} {dA : Nat → ClassId} {ad : Nat → Nat → Nat → Nat} {on : Nat → Prop} {X : NWd} {M T : NSt}
set_option maxHeartbeats 4000000 in
set_option maxRecDepth 100000 in
theorem c_X10_isIn (hI : ninj ad on) {v a b : Int32} : nMi l D dA ad on yX10_isIn cX10_isIn 3 (some .boolean) (nrm 1) [.int v, .int a, .int b] (X) (fun r X' => r = nb (mIn v a b) ∧ X' = X) := by
  refine nM_of hI (by decide +kernel) (Nat.le_of_ble_eq_true rfl) ?_
  intro p e s m args below meth cd ls hc hr _ hP hl hS
  have hx := hc.1
  have hb := hc.2.1
  have hl : lv_has ls 3 [(0, .int v), (1, .int a), (2, .int b)] := hl
  refine lv_iload_n hx hb dX10_isIn_0 rfl (lv_at hl 0 rfl) ?_
  refine lv_iload_n hx hb dX10_isIn_1 rfl (lv_at hl 1 rfl) ?_
  refine lv_icmp_lt (tgt := 14) hx hb dX10_isIn_2 (by decide) (fun c_2 => ?_) (fun c_2 => ?_)
  · refine lv_iconst (v := 0) hx hb dX10_isIn_14 (by decide) ?_
    exact ne_z hc hP hS hr rfl dX10_isIn_15 ⟨by clear hP hS hl hc hx hb hr; simp_all [-Int32.not_le, -Int32.not_lt, i32_lt, nb_t, nb_f, nb_z, nb_o, mIn], rfl⟩
  · refine lv_iload_n hx hb dX10_isIn_5 rfl (lv_at hl 0 rfl) ?_
    refine lv_iload_n hx hb dX10_isIn_6 rfl (lv_at hl 2 rfl) ?_
    refine lv_icmp_gt (tgt := 14) hx hb dX10_isIn_7 (by decide) (fun c_7 => ?_) (fun c_7 => ?_)
    · refine lv_iconst (v := 0) hx hb dX10_isIn_14 (by decide) ?_
      exact ne_z hc hP hS hr rfl dX10_isIn_15 ⟨by clear hP hS hl hc hx hb hr; simp_all [-Int32.not_le, -Int32.not_lt, i32_lt, nb_t, nb_f, nb_z, nb_o, mIn], rfl⟩
    · refine lv_iconst (v := 1) hx hb dX10_isIn_10 (by decide) ?_
      refine lv_goto (tgt := 15) hx hb dX10_isIn_11 (by decide) ?_
      exact ne_z hc hP hS hr rfl dX10_isIn_15 ⟨by clear hP hS hl hc hx hb hr; simp_all [-Int32.not_le, -Int32.not_lt, i32_lt, nb_t, nb_f, nb_z, nb_o, mIn], rfl⟩
set_option maxHeartbeats 4000000 in
set_option maxRecDepth 100000 in
theorem c_X10_isLetter (hI : ninj ad on) {c : Int32} : nMi l D dA ad on yX10_isLetter cX10_isLetter 1 (some .boolean) (nrm 1) [.int c] (X) (fun r X' => r = nb (cSmall c) ∧ X' = X) := by
  refine nM_of hI (by decide +kernel) (Nat.le_of_ble_eq_true rfl) ?_
  intro p e s m args below meth cd ls hc hr _ hP hl hS
  have hx := hc.1
  have hb := hc.2.1
  have hl : lv_has ls 1 [(0, .int c)] := hl
  refine lv_iload_n hx hb dX10_isLetter_0 rfl (lv_at hl 0 rfl) ?_
  refine lv_bipush (v := 97) hx hb dX10_isLetter_1 (by decide) ?_
  refine lv_icmp_lt (tgt := 16) hx hb dX10_isLetter_3 (by decide) (fun c_3 => ?_) (fun c_3 => ?_)
  · refine lv_iconst (v := 0) hx hb dX10_isLetter_16 (by decide) ?_
    exact ne_z hc hP hS hr rfl dX10_isLetter_17 ⟨by clear hP hS hl hc hx hb hr; simp_all [-Int32.not_le, -Int32.not_lt, i32_lt, nb_t, nb_f, nb_z, nb_o, cSmall], rfl⟩
  · refine lv_iload_n hx hb dX10_isLetter_6 rfl (lv_at hl 0 rfl) ?_
    refine lv_bipush (v := 122) hx hb dX10_isLetter_7 (by decide) ?_
    refine lv_icmp_gt (tgt := 16) hx hb dX10_isLetter_9 (by decide) (fun c_9 => ?_) (fun c_9 => ?_)
    · refine lv_iconst (v := 0) hx hb dX10_isLetter_16 (by decide) ?_
      exact ne_z hc hP hS hr rfl dX10_isLetter_17 ⟨by clear hP hS hl hc hx hb hr; simp_all [-Int32.not_le, -Int32.not_lt, i32_lt, nb_t, nb_f, nb_z, nb_o, cSmall], rfl⟩
    · refine lv_iconst (v := 1) hx hb dX10_isLetter_12 (by decide) ?_
      refine lv_goto (tgt := 17) hx hb dX10_isLetter_13 (by decide) ?_
      exact ne_z hc hP hS hr rfl dX10_isLetter_17 ⟨by clear hP hS hl hc hx hb hr; simp_all [-Int32.not_le, -Int32.not_lt, i32_lt, nb_t, nb_f, nb_z, nb_o, cSmall], rfl⟩
set_option maxHeartbeats 4000000 in
set_option maxRecDepth 100000 in
theorem c_X10_isSurname (hI : ninj ad on) {a b c d : Int32} : nMi l D dA ad on yX10_isSurname cX10_isSurname 4 (some .boolean) (nrm 2) [.int a, .int b, .int c, .int d] (X) (fun r X' => r = nb (mSur a b c d) ∧ X' = X) := by
  refine nM_of hI (by decide +kernel) (Nat.le_of_ble_eq_true rfl) ?_
  intro p e s m args below meth cd ls hc hr _ hP hl hS
  have hx := hc.1
  have hb := hc.2.1
  have hl : lv_has ls 4 [(0, .int a), (1, .int b), (2, .int c), (3, .int d)] := hl
  refine lv_iload_n hx hb dX10_isSurname_0 rfl (lv_at hl 0 rfl) ?_
  refine nc_Si (c_X10_isLetter hI) hc hP hS hl.1 gd10_140 ⟨rfl, rfl⟩ nok_X10_isLetter rfl ⟨Nat.le_of_ble_eq_true rfl, Nat.le_of_ble_eq_true rfl⟩ ⟨Nat.le_of_ble_eq_true rfl, Nat.le_of_ble_eq_true rfl⟩ dX10_isSurname_1 rfl (Nat.le_of_ble_eq_true rfl) (fun r X1 H locs hp hP hS => ?_)
  obtain ⟨hr9, hX9⟩ := hp
  rw [hX9] at hP
  subst hr9
  refine lv_if_eq (tgt := 62) hx hb dX10_isSurname_4 (by decide) (fun c_4 => ?_) (fun c_4 => ?_)
  · refine lv_iconst (v := 0) hx hb dX10_isSurname_62 (by decide) ?_
    exact ne_z hc hP hS hr rfl dX10_isSurname_63 ⟨by clear hP hS hl hc hx hb hr; simp_all [-Int32.not_le, -Int32.not_lt, i32_lt, nb_t, nb_f, nb_z, nb_o, mSur], rfl⟩
  · refine lv_iload_n hx hb dX10_isSurname_7 rfl (lv_at hl 1 rfl) ?_
    refine nc_Si (c_X10_isLetter hI) hc hP hS hl.1 gd10_140 ⟨rfl, rfl⟩ nok_X10_isLetter rfl ⟨Nat.le_of_ble_eq_true rfl, Nat.le_of_ble_eq_true rfl⟩ ⟨Nat.le_of_ble_eq_true rfl, Nat.le_of_ble_eq_true rfl⟩ dX10_isSurname_8 rfl (Nat.le_of_ble_eq_true rfl) (fun r X1 H locs hp hP hS => ?_)
    obtain ⟨hr9, hX9⟩ := hp
    rw [hX9] at hP
    subst hr9
    refine lv_if_ne (tgt := 26) hx hb dX10_isSurname_11 (by decide) (fun c_11 => ?_) (fun c_11 => ?_)
    · refine lv_iload_n hx hb dX10_isSurname_26 rfl (lv_at hl 2 rfl) ?_
      refine nc_Si (c_X10_isLetter hI) hc hP hS hl.1 gd10_140 ⟨rfl, rfl⟩ nok_X10_isLetter rfl ⟨Nat.le_of_ble_eq_true rfl, Nat.le_of_ble_eq_true rfl⟩ ⟨Nat.le_of_ble_eq_true rfl, Nat.le_of_ble_eq_true rfl⟩ dX10_isSurname_27 rfl (Nat.le_of_ble_eq_true rfl) (fun r X1 H locs hp hP hS => ?_)
      obtain ⟨hr9, hX9⟩ := hp
      rw [hX9] at hP
      subst hr9
      refine lv_if_ne (tgt := 45) hx hb dX10_isSurname_30 (by decide) (fun c_30 => ?_) (fun c_30 => ?_)
      · refine lv_iload_n hx hb dX10_isSurname_45 rfl (lv_at hl 3 rfl) ?_
        refine nc_Si (c_X10_isLetter hI) hc hP hS hl.1 gd10_140 ⟨rfl, rfl⟩ nok_X10_isLetter rfl ⟨Nat.le_of_ble_eq_true rfl, Nat.le_of_ble_eq_true rfl⟩ ⟨Nat.le_of_ble_eq_true rfl, Nat.le_of_ble_eq_true rfl⟩ dX10_isSurname_46 rfl (Nat.le_of_ble_eq_true rfl) (fun r X1 H locs hp hP hS => ?_)
        obtain ⟨hr9, hX9⟩ := hp
        rw [hX9] at hP
        subst hr9
        refine lv_if_ne (tgt := 58) hx hb dX10_isSurname_49 (by decide) (fun c_49 => ?_) (fun c_49 => ?_)
        · refine lv_iconst (v := 1) hx hb dX10_isSurname_58 (by decide) ?_
          refine lv_goto (tgt := 63) hx hb dX10_isSurname_59 (by decide) ?_
          exact ne_z hc hP hS hr rfl dX10_isSurname_63 ⟨by clear hP hS hl hc hx hb hr; simp_all [-Int32.not_le, -Int32.not_lt, i32_lt, nb_t, nb_f, nb_z, nb_o, mSur], rfl⟩
        · refine lv_iload_n hx hb dX10_isSurname_52 rfl (lv_at hl 3 rfl) ?_
          refine lv_bipush (v := 32) hx hb dX10_isSurname_53 (by decide) ?_
          refine lv_icmp_ne (tgt := 62) hx hb dX10_isSurname_55 (by decide) (fun c_55 => ?_) (fun c_55 => ?_)
          · refine lv_iconst (v := 0) hx hb dX10_isSurname_62 (by decide) ?_
            exact ne_z hc hP hS hr rfl dX10_isSurname_63 ⟨by clear hP hS hl hc hx hb hr; simp_all [-Int32.not_le, -Int32.not_lt, i32_lt, nb_t, nb_f, nb_z, nb_o, mSur], rfl⟩
          · refine lv_iconst (v := 1) hx hb dX10_isSurname_58 (by decide) ?_
            refine lv_goto (tgt := 63) hx hb dX10_isSurname_59 (by decide) ?_
            exact ne_z hc hP hS hr rfl dX10_isSurname_63 ⟨by clear hP hS hl hc hx hb hr; simp_all [-Int32.not_le, -Int32.not_lt, i32_lt, nb_t, nb_f, nb_z, nb_o, mSur], rfl⟩
      · refine lv_iload_n hx hb dX10_isSurname_33 rfl (lv_at hl 2 rfl) ?_
        refine lv_bipush (v := 32) hx hb dX10_isSurname_34 (by decide) ?_
        refine lv_icmp_ne (tgt := 62) hx hb dX10_isSurname_36 (by decide) (fun c_36 => ?_) (fun c_36 => ?_)
        · refine lv_iconst (v := 0) hx hb dX10_isSurname_62 (by decide) ?_
          exact ne_z hc hP hS hr rfl dX10_isSurname_63 ⟨by clear hP hS hl hc hx hb hr; simp_all [-Int32.not_le, -Int32.not_lt, i32_lt, nb_t, nb_f, nb_z, nb_o, mSur], rfl⟩
        · refine lv_iload_n hx hb dX10_isSurname_39 rfl (lv_at hl 3 rfl) ?_
          refine lv_bipush (v := 32) hx hb dX10_isSurname_40 (by decide) ?_
          refine lv_icmp_ne (tgt := 62) hx hb dX10_isSurname_42 (by decide) (fun c_42 => ?_) (fun c_42 => ?_)
          · refine lv_iconst (v := 0) hx hb dX10_isSurname_62 (by decide) ?_
            exact ne_z hc hP hS hr rfl dX10_isSurname_63 ⟨by clear hP hS hl hc hx hb hr; simp_all [-Int32.not_le, -Int32.not_lt, i32_lt, nb_t, nb_f, nb_z, nb_o, mSur], rfl⟩
          · refine lv_iload_n hx hb dX10_isSurname_45 rfl (lv_at hl 3 rfl) ?_
            refine nc_Si (c_X10_isLetter hI) hc hP hS hl.1 gd10_140 ⟨rfl, rfl⟩ nok_X10_isLetter rfl ⟨Nat.le_of_ble_eq_true rfl, Nat.le_of_ble_eq_true rfl⟩ ⟨Nat.le_of_ble_eq_true rfl, Nat.le_of_ble_eq_true rfl⟩ dX10_isSurname_46 rfl (Nat.le_of_ble_eq_true rfl) (fun r X1 H locs hp hP hS => ?_)
            obtain ⟨hr9, hX9⟩ := hp
            rw [hX9] at hP
            subst hr9
            refine lv_if_ne (tgt := 58) hx hb dX10_isSurname_49 (by decide) (fun c_49 => ?_) (fun c_49 => ?_)
            · refine lv_iconst (v := 1) hx hb dX10_isSurname_58 (by decide) ?_
              refine lv_goto (tgt := 63) hx hb dX10_isSurname_59 (by decide) ?_
              exact ne_z hc hP hS hr rfl dX10_isSurname_63 ⟨by clear hP hS hl hc hx hb hr; simp_all [-Int32.not_le, -Int32.not_lt, i32_lt, nb_t, nb_f, nb_z, nb_o, mSur], rfl⟩
            · refine lv_iload_n hx hb dX10_isSurname_52 rfl (lv_at hl 3 rfl) ?_
              refine lv_bipush (v := 32) hx hb dX10_isSurname_53 (by decide) ?_
              refine lv_icmp_ne (tgt := 62) hx hb dX10_isSurname_55 (by decide) (fun c_55 => ?_) (fun c_55 => ?_)
              · refine lv_iconst (v := 0) hx hb dX10_isSurname_62 (by decide) ?_
                exact ne_z hc hP hS hr rfl dX10_isSurname_63 ⟨by clear hP hS hl hc hx hb hr; simp_all [-Int32.not_le, -Int32.not_lt, i32_lt, nb_t, nb_f, nb_z, nb_o, mSur], rfl⟩
              · refine lv_iconst (v := 1) hx hb dX10_isSurname_58 (by decide) ?_
                refine lv_goto (tgt := 63) hx hb dX10_isSurname_59 (by decide) ?_
                exact ne_z hc hP hS hr rfl dX10_isSurname_63 ⟨by clear hP hS hl hc hx hb hr; simp_all [-Int32.not_le, -Int32.not_lt, i32_lt, nb_t, nb_f, nb_z, nb_o, mSur], rfl⟩
    · refine lv_iload_n hx hb dX10_isSurname_14 rfl (lv_at hl 1 rfl) ?_
      refine lv_bipush (v := 32) hx hb dX10_isSurname_15 (by decide) ?_
      refine lv_icmp_ne (tgt := 62) hx hb dX10_isSurname_17 (by decide) (fun c_17 => ?_) (fun c_17 => ?_)
      · refine lv_iconst (v := 0) hx hb dX10_isSurname_62 (by decide) ?_
        exact ne_z hc hP hS hr rfl dX10_isSurname_63 ⟨by clear hP hS hl hc hx hb hr; simp_all [-Int32.not_le, -Int32.not_lt, i32_lt, nb_t, nb_f, nb_z, nb_o, mSur], rfl⟩
      · refine lv_iload_n hx hb dX10_isSurname_20 rfl (lv_at hl 2 rfl) ?_
        refine lv_bipush (v := 32) hx hb dX10_isSurname_21 (by decide) ?_
        refine lv_icmp_ne (tgt := 62) hx hb dX10_isSurname_23 (by decide) (fun c_23 => ?_) (fun c_23 => ?_)
        · refine lv_iconst (v := 0) hx hb dX10_isSurname_62 (by decide) ?_
          exact ne_z hc hP hS hr rfl dX10_isSurname_63 ⟨by clear hP hS hl hc hx hb hr; simp_all [-Int32.not_le, -Int32.not_lt, i32_lt, nb_t, nb_f, nb_z, nb_o, mSur], rfl⟩
        · refine lv_iload_n hx hb dX10_isSurname_26 rfl (lv_at hl 2 rfl) ?_
          refine nc_Si (c_X10_isLetter hI) hc hP hS hl.1 gd10_140 ⟨rfl, rfl⟩ nok_X10_isLetter rfl ⟨Nat.le_of_ble_eq_true rfl, Nat.le_of_ble_eq_true rfl⟩ ⟨Nat.le_of_ble_eq_true rfl, Nat.le_of_ble_eq_true rfl⟩ dX10_isSurname_27 rfl (Nat.le_of_ble_eq_true rfl) (fun r X1 H locs hp hP hS => ?_)
          obtain ⟨hr9, hX9⟩ := hp
          rw [hX9] at hP
          subst hr9
          refine lv_if_ne (tgt := 45) hx hb dX10_isSurname_30 (by decide) (fun c_30 => ?_) (fun c_30 => ?_)
          · refine lv_iload_n hx hb dX10_isSurname_45 rfl (lv_at hl 3 rfl) ?_
            refine nc_Si (c_X10_isLetter hI) hc hP hS hl.1 gd10_140 ⟨rfl, rfl⟩ nok_X10_isLetter rfl ⟨Nat.le_of_ble_eq_true rfl, Nat.le_of_ble_eq_true rfl⟩ ⟨Nat.le_of_ble_eq_true rfl, Nat.le_of_ble_eq_true rfl⟩ dX10_isSurname_46 rfl (Nat.le_of_ble_eq_true rfl) (fun r X1 H locs hp hP hS => ?_)
            obtain ⟨hr9, hX9⟩ := hp
            rw [hX9] at hP
            subst hr9
            refine lv_if_ne (tgt := 58) hx hb dX10_isSurname_49 (by decide) (fun c_49 => ?_) (fun c_49 => ?_)
            · refine lv_iconst (v := 1) hx hb dX10_isSurname_58 (by decide) ?_
              refine lv_goto (tgt := 63) hx hb dX10_isSurname_59 (by decide) ?_
              exact ne_z hc hP hS hr rfl dX10_isSurname_63 ⟨by clear hP hS hl hc hx hb hr; simp_all [-Int32.not_le, -Int32.not_lt, i32_lt, nb_t, nb_f, nb_z, nb_o, mSur], rfl⟩
            · refine lv_iload_n hx hb dX10_isSurname_52 rfl (lv_at hl 3 rfl) ?_
              refine lv_bipush (v := 32) hx hb dX10_isSurname_53 (by decide) ?_
              refine lv_icmp_ne (tgt := 62) hx hb dX10_isSurname_55 (by decide) (fun c_55 => ?_) (fun c_55 => ?_)
              · refine lv_iconst (v := 0) hx hb dX10_isSurname_62 (by decide) ?_
                exact ne_z hc hP hS hr rfl dX10_isSurname_63 ⟨by clear hP hS hl hc hx hb hr; simp_all [-Int32.not_le, -Int32.not_lt, i32_lt, nb_t, nb_f, nb_z, nb_o, mSur], rfl⟩
              · refine lv_iconst (v := 1) hx hb dX10_isSurname_58 (by decide) ?_
                refine lv_goto (tgt := 63) hx hb dX10_isSurname_59 (by decide) ?_
                exact ne_z hc hP hS hr rfl dX10_isSurname_63 ⟨by clear hP hS hl hc hx hb hr; simp_all [-Int32.not_le, -Int32.not_lt, i32_lt, nb_t, nb_f, nb_z, nb_o, mSur], rfl⟩
          · refine lv_iload_n hx hb dX10_isSurname_33 rfl (lv_at hl 2 rfl) ?_
            refine lv_bipush (v := 32) hx hb dX10_isSurname_34 (by decide) ?_
            refine lv_icmp_ne (tgt := 62) hx hb dX10_isSurname_36 (by decide) (fun c_36 => ?_) (fun c_36 => ?_)
            · refine lv_iconst (v := 0) hx hb dX10_isSurname_62 (by decide) ?_
              exact ne_z hc hP hS hr rfl dX10_isSurname_63 ⟨by clear hP hS hl hc hx hb hr; simp_all [-Int32.not_le, -Int32.not_lt, i32_lt, nb_t, nb_f, nb_z, nb_o, mSur], rfl⟩
            · refine lv_iload_n hx hb dX10_isSurname_39 rfl (lv_at hl 3 rfl) ?_
              refine lv_bipush (v := 32) hx hb dX10_isSurname_40 (by decide) ?_
              refine lv_icmp_ne (tgt := 62) hx hb dX10_isSurname_42 (by decide) (fun c_42 => ?_) (fun c_42 => ?_)
              · refine lv_iconst (v := 0) hx hb dX10_isSurname_62 (by decide) ?_
                exact ne_z hc hP hS hr rfl dX10_isSurname_63 ⟨by clear hP hS hl hc hx hb hr; simp_all [-Int32.not_le, -Int32.not_lt, i32_lt, nb_t, nb_f, nb_z, nb_o, mSur], rfl⟩
              · refine lv_iload_n hx hb dX10_isSurname_45 rfl (lv_at hl 3 rfl) ?_
                refine nc_Si (c_X10_isLetter hI) hc hP hS hl.1 gd10_140 ⟨rfl, rfl⟩ nok_X10_isLetter rfl ⟨Nat.le_of_ble_eq_true rfl, Nat.le_of_ble_eq_true rfl⟩ ⟨Nat.le_of_ble_eq_true rfl, Nat.le_of_ble_eq_true rfl⟩ dX10_isSurname_46 rfl (Nat.le_of_ble_eq_true rfl) (fun r X1 H locs hp hP hS => ?_)
                obtain ⟨hr9, hX9⟩ := hp
                rw [hX9] at hP
                subst hr9
                refine lv_if_ne (tgt := 58) hx hb dX10_isSurname_49 (by decide) (fun c_49 => ?_) (fun c_49 => ?_)
                · refine lv_iconst (v := 1) hx hb dX10_isSurname_58 (by decide) ?_
                  refine lv_goto (tgt := 63) hx hb dX10_isSurname_59 (by decide) ?_
                  exact ne_z hc hP hS hr rfl dX10_isSurname_63 ⟨by clear hP hS hl hc hx hb hr; simp_all [-Int32.not_le, -Int32.not_lt, i32_lt, nb_t, nb_f, nb_z, nb_o, mSur], rfl⟩
                · refine lv_iload_n hx hb dX10_isSurname_52 rfl (lv_at hl 3 rfl) ?_
                  refine lv_bipush (v := 32) hx hb dX10_isSurname_53 (by decide) ?_
                  refine lv_icmp_ne (tgt := 62) hx hb dX10_isSurname_55 (by decide) (fun c_55 => ?_) (fun c_55 => ?_)
                  · refine lv_iconst (v := 0) hx hb dX10_isSurname_62 (by decide) ?_
                    exact ne_z hc hP hS hr rfl dX10_isSurname_63 ⟨by clear hP hS hl hc hx hb hr; simp_all [-Int32.not_le, -Int32.not_lt, i32_lt, nb_t, nb_f, nb_z, nb_o, mSur], rfl⟩
                  · refine lv_iconst (v := 1) hx hb dX10_isSurname_58 (by decide) ?_
                    refine lv_goto (tgt := 63) hx hb dX10_isSurname_59 (by decide) ?_
                    exact ne_z hc hP hS hr rfl dX10_isSurname_63 ⟨by clear hP hS hl hc hx hb hr; simp_all [-Int32.not_le, -Int32.not_lt, i32_lt, nb_t, nb_f, nb_z, nb_o, mSur], rfl⟩
set_option maxHeartbeats 4000000 in
set_option maxRecDepth 100000 in
theorem c_X10_thrown (hI : ninj ad on) (hon3 : on 3) : nMi l D dA ad on yX10_thrown cX10_thrown 1 (some .int) (nrm 1) [.ref (ad 3 30 0)] (wdo X 3 T) (fun r X' => r = T 30 0 0 ∧ X' = wdo X 3 T) := by
  refine nM_of hI (by decide +kernel) (Nat.le_of_ble_eq_true rfl) ?_
  intro p e s m args below meth cd ls hc hr _ hP hl hS
  have hx := hc.1
  have hb := hc.2.1
  have hl : lv_has ls 1 [(0, .ref (ad 3 30 0))] := hl
  refine lv_aload_n hx hb dX10_thrown_0 rfl (lv_at hl 0 rfl) ?_
  refine g10_85 hc hP (nv_m hon3 (by decide) Nat.zero_lt_one) dX10_thrown_1 ?_
  exact ne_i hc hP hS hr dX10_thrown_4 ⟨rfl, rfl⟩
set_option maxHeartbeats 4000000 in
set_option maxRecDepth 100000 in
theorem c_X10_open (hI : ninj ad on) (hon3 : on 3) : nMi l D dA ad on yX10_open cX10_open 1 (some .boolean) (nrm 1) [.ref (ad 3 30 0)] (wdo X 3 T) (fun r X' => r = nb (mOpen T) ∧ X' = wdo X 3 T) := by
  refine nM_of hI (by decide +kernel) (Nat.le_of_ble_eq_true rfl) ?_
  intro p e s m args below meth cd ls hc hr _ hP hl hS
  have hx := hc.1
  have hb := hc.2.1
  have hl : lv_has ls 1 [(0, .ref (ad 3 30 0))] := hl
  refine lv_aload_n hx hb dX10_open_0 rfl (lv_at hl 0 rfl) ?_
  refine g10_101 hc hP (nv_m hon3 (by decide) Nat.zero_lt_one) dX10_open_1 ?_
  refine lv_aload_n hx hb dX10_open_4 rfl (lv_at hl 0 rfl) ?_
  refine g10_7 hc hP (nv_m hon3 (by decide) Nat.zero_lt_one) dX10_open_5 ?_
  refine lv_icmp_gt (tgt := 15) hx hb dX10_open_8 (by decide) (fun c_8 => ?_) (fun c_8 => ?_)
  · refine lv_iconst (v := 0) hx hb dX10_open_15 (by decide) ?_
    exact ne_z hc hP hS hr rfl dX10_open_16 ⟨by clear hP hS hl hc hx hb hr; simp_all [-Int32.not_le, -Int32.not_lt, i32_lt, nb_t, nb_f, nb_z, nb_o, mOpen], rfl⟩
  · refine lv_iconst (v := 1) hx hb dX10_open_11 (by decide) ?_
    refine lv_goto (tgt := 16) hx hb dX10_open_12 (by decide) ?_
    exact ne_z hc hP hS hr rfl dX10_open_16 ⟨by clear hP hS hl hc hx hb hr; simp_all [-Int32.not_le, -Int32.not_lt, i32_lt, nb_t, nb_f, nb_z, nb_o, mOpen], rfl⟩
set_option maxHeartbeats 4000000 in
set_option maxRecDepth 100000 in
theorem c_X10_isArea (hI : ninj ad on) (hon3 : on 3) {x : Int32} : nMi l D dA ad on yX10_isArea cX10_isArea 2 (some .boolean) (nrm 2) [.ref (ad 3 30 0), .int x] (wdo X 3 T) (fun r X' => r = nb (mIn x 0 (T 30 0 5 - 1)) ∧ X' = wdo X 3 T) := by
  refine nM_of hI (by decide +kernel) (Nat.le_of_ble_eq_true rfl) ?_
  intro p e s m args below meth cd ls hc hr _ hP hl hS
  have hx := hc.1
  have hb := hc.2.1
  have hl : lv_has ls 2 [(0, .ref (ad 3 30 0)), (1, .int x)] := hl
  refine lv_iload_n hx hb dX10_isArea_0 rfl (lv_at hl 1 rfl) ?_
  refine lv_iconst (v := 0) hx hb dX10_isArea_1 (by decide) ?_
  refine lv_aload_n hx hb dX10_isArea_2 rfl (lv_at hl 0 rfl) ?_
  refine g10_88 hc hP (nv_m hon3 (by decide) Nat.zero_lt_one) dX10_isArea_3 ?_
  refine lv_iconst (v := 1) hx hb dX10_isArea_6 (by decide) ?_
  refine lv_isub hx hb dX10_isArea_7 ?_
  refine nc_Si (c_X10_isIn hI) hc hP hS hl.1 gd10_91 ⟨rfl, rfl⟩ nok_X10_isIn rfl ⟨Nat.le_of_ble_eq_true rfl, Nat.le_of_ble_eq_true rfl⟩ ⟨Nat.le_of_ble_eq_true rfl, Nat.le_of_ble_eq_true rfl⟩ dX10_isArea_8 rfl (Nat.le_of_ble_eq_true rfl) (fun r X1 H locs hp hP hS => ?_)
  obtain ⟨hr9, hX9⟩ := hp
  rw [hX9] at hP
  subst hr9
  exact ne_z hc hP hS hr (nbz _) dX10_isArea_11 ⟨rfl, rfl⟩
set_option maxHeartbeats 4000000 in
set_option maxRecDepth 100000 in
theorem c_X10_isVoter (hI : ninj ad on) (hon3 : on 3) {x : Int32} : nMi l D dA ad on yX10_isVoter cX10_isVoter 2 (some .boolean) (nrm 2) [.ref (ad 3 30 0), .int x] (wdo X 3 T) (fun r X' => r = nb (mIn x 0 (T 30 0 9 - 1)) ∧ X' = wdo X 3 T) := by
  refine nM_of hI (by decide +kernel) (Nat.le_of_ble_eq_true rfl) ?_
  intro p e s m args below meth cd ls hc hr _ hP hl hS
  have hx := hc.1
  have hb := hc.2.1
  have hl : lv_has ls 2 [(0, .ref (ad 3 30 0)), (1, .int x)] := hl
  refine lv_iload_n hx hb dX10_isVoter_0 rfl (lv_at hl 1 rfl) ?_
  refine lv_iconst (v := 0) hx hb dX10_isVoter_1 (by decide) ?_
  refine lv_aload_n hx hb dX10_isVoter_2 rfl (lv_at hl 0 rfl) ?_
  refine g10_95 hc hP (nv_m hon3 (by decide) Nat.zero_lt_one) dX10_isVoter_3 ?_
  refine lv_iconst (v := 1) hx hb dX10_isVoter_6 (by decide) ?_
  refine lv_isub hx hb dX10_isVoter_7 ?_
  refine nc_Si (c_X10_isIn hI) hc hP hS hl.1 gd10_91 ⟨rfl, rfl⟩ nok_X10_isIn rfl ⟨Nat.le_of_ble_eq_true rfl, Nat.le_of_ble_eq_true rfl⟩ ⟨Nat.le_of_ble_eq_true rfl, Nat.le_of_ble_eq_true rfl⟩ dX10_isVoter_8 rfl (Nat.le_of_ble_eq_true rfl) (fun r X1 H locs hp hP hS => ?_)
  obtain ⟨hr9, hX9⟩ := hp
  rw [hX9] at hP
  subst hr9
  exact ne_z hc hP hS hr (nbz _) dX10_isVoter_11 ⟨rfl, rfl⟩
set_option maxHeartbeats 4000000 in
set_option maxRecDepth 100000 in
theorem c_X10_isPaper (hI : ninj ad on) (hon3 : on 3) {x : Int32} : nMi l D dA ad on yX10_isPaper cX10_isPaper 2 (some .boolean) (nrm 2) [.ref (ad 3 30 0), .int x] (wdo X 3 T) (fun r X' => r = nb (mIn x 0 (T 30 0 12 - 1)) ∧ X' = wdo X 3 T) := by
  refine nM_of hI (by decide +kernel) (Nat.le_of_ble_eq_true rfl) ?_
  intro p e s m args below meth cd ls hc hr _ hP hl hS
  have hx := hc.1
  have hb := hc.2.1
  have hl : lv_has ls 2 [(0, .ref (ad 3 30 0)), (1, .int x)] := hl
  refine lv_iload_n hx hb dX10_isPaper_0 rfl (lv_at hl 1 rfl) ?_
  refine lv_iconst (v := 0) hx hb dX10_isPaper_1 (by decide) ?_
  refine lv_aload_n hx hb dX10_isPaper_2 rfl (lv_at hl 0 rfl) ?_
  refine g10_98 hc hP (nv_m hon3 (by decide) Nat.zero_lt_one) dX10_isPaper_3 ?_
  refine lv_iconst (v := 1) hx hb dX10_isPaper_6 (by decide) ?_
  refine lv_isub hx hb dX10_isPaper_7 ?_
  refine nc_Si (c_X10_isIn hI) hc hP hS hl.1 gd10_91 ⟨rfl, rfl⟩ nok_X10_isIn rfl ⟨Nat.le_of_ble_eq_true rfl, Nat.le_of_ble_eq_true rfl⟩ ⟨Nat.le_of_ble_eq_true rfl, Nat.le_of_ble_eq_true rfl⟩ dX10_isPaper_8 rfl (Nat.le_of_ble_eq_true rfl) (fun r X1 H locs hp hP hS => ?_)
  obtain ⟨hr9, hX9⟩ := hp
  rw [hX9] at hP
  subst hr9
  exact ne_z hc hP hS hr (nbz _) dX10_isPaper_11 ⟨rfl, rfl⟩
set_option maxHeartbeats 4000000 in
set_option maxRecDepth 100000 in
theorem c_X10_fails (hI : ninj ad on) (hon3 : on 3) {x : Int32} : nMi l D dA ad on yX10_fails cX10_fails 2 (some .int) (nrm 1) [.ref (ad 3 30 0), .int x] (wdo X 3 T) (fun r X' => r = 0 ∧ X' = wdo X 3 (nput T 30 0 0 x)) := by
  refine nM_of hI (by decide +kernel) (Nat.le_of_ble_eq_true rfl) ?_
  intro p e s m args below meth cd ls hc hr _ hP hl hS
  have hx := hc.1
  have hb := hc.2.1
  have hl : lv_has ls 2 [(0, .ref (ad 3 30 0)), (1, .int x)] := hl
  refine lv_aload_n hx hb dX10_fails_0 rfl (lv_at hl 0 rfl) ?_
  refine lv_iload_n hx hb dX10_fails_1 rfl (lv_at hl 1 rfl) ?_
  refine p10_85 hc hP hS (nv_m hon3 (by decide) Nat.zero_lt_one) dX10_fails_2 (fun H locs hP hS => ?_)
  refine lv_iconst (v := 0) hx hb dX10_fails_5 (by decide) ?_
  exact ne_i hc hP hS hr dX10_fails_6 ⟨rfl, rfl⟩
set_option maxHeartbeats 4000000 in
set_option maxRecDepth 100000 in
theorem c_X10_writeName (hI : ninj ad on) (hon3 : on 3) {x a b c d : Int32} (hx0 : vp_in x 12) : nMv l D dA ad on yX10_writeName cX10_writeName 6 (nrm 1) [.ref (ad 3 30 0), .int x, .int a, .int b, .int c, .int d] (wdo X 3 T) (fun X' => X' = wdo X 3 (mName T x a b c d)) := by
  refine nM_of hI (by decide +kernel) (Nat.le_of_ble_eq_true rfl) ?_
  intro p e s m args below meth cd ls hc hr _ hP hl hS
  have hx := hc.1
  have hb := hc.2.1
  have hl : lv_has ls 6 [(0, .ref (ad 3 30 0)), (1, .int x), (2, .int a), (3, .int b), (4, .int c), (5, .int d)] := hl
  refine lv_aload_n hx hb dX10_writeName_0 rfl (lv_at hl 0 rfl) ?_
  refine g10_42 hc hP (nv_m hon3 (by decide) Nat.zero_lt_one) dX10_writeName_1 ?_
  refine lv_iconst (v := 4) hx hb dX10_writeName_4 (by decide) ?_
  refine lv_iload_n hx hb dX10_writeName_5 rfl (lv_at hl 1 rfl) ?_
  refine lv_imul hx hb dX10_writeName_6 ?_
  refine lv_iload_n hx hb dX10_writeName_7 rfl (lv_at hl 2 rfl) ?_
  refine sa_45 hc hP hS (nv_m hon3 (by decide) Nat.zero_lt_one) (vp40 hx0) dX10_writeName_8 (fun H locs hP hS => ?_)
  refine lv_aload_n hx hb dX10_writeName_9 rfl (lv_at hl 0 rfl) ?_
  refine g10_42 hc hP (nv_m hon3 (by decide) Nat.zero_lt_one) dX10_writeName_10 ?_
  refine lv_iconst (v := 4) hx hb dX10_writeName_13 (by decide) ?_
  refine lv_iload_n hx hb dX10_writeName_14 rfl (lv_at hl 1 rfl) ?_
  refine lv_imul hx hb dX10_writeName_15 ?_
  refine lv_iconst (v := 1) hx hb dX10_writeName_16 (by decide) ?_
  refine lv_iadd hx hb dX10_writeName_17 ?_
  refine lv_iload_n hx hb dX10_writeName_18 rfl (lv_at hl 3 rfl) ?_
  refine sa_45 hc hP hS (nv_m hon3 (by decide) Nat.zero_lt_one) (vp4 hx0 1 (by decide)) dX10_writeName_19 (fun H locs hP hS => ?_)
  refine lv_aload_n hx hb dX10_writeName_20 rfl (lv_at hl 0 rfl) ?_
  refine g10_42 hc hP (nv_m hon3 (by decide) Nat.zero_lt_one) dX10_writeName_21 ?_
  refine lv_iconst (v := 4) hx hb dX10_writeName_24 (by decide) ?_
  refine lv_iload_n hx hb dX10_writeName_25 rfl (lv_at hl 1 rfl) ?_
  refine lv_imul hx hb dX10_writeName_26 ?_
  refine lv_iconst (v := 2) hx hb dX10_writeName_27 (by decide) ?_
  refine lv_iadd hx hb dX10_writeName_28 ?_
  refine lv_iload hx hb dX10_writeName_29 (lv_at hl 4 rfl) ?_
  refine sa_45 hc hP hS (nv_m hon3 (by decide) Nat.zero_lt_one) (vp4 hx0 2 (by decide)) dX10_writeName_31 (fun H locs hP hS => ?_)
  refine lv_aload_n hx hb dX10_writeName_32 rfl (lv_at hl 0 rfl) ?_
  refine g10_42 hc hP (nv_m hon3 (by decide) Nat.zero_lt_one) dX10_writeName_33 ?_
  refine lv_iconst (v := 4) hx hb dX10_writeName_36 (by decide) ?_
  refine lv_iload_n hx hb dX10_writeName_37 rfl (lv_at hl 1 rfl) ?_
  refine lv_imul hx hb dX10_writeName_38 ?_
  refine lv_iconst (v := 3) hx hb dX10_writeName_39 (by decide) ?_
  refine lv_iadd hx hb dX10_writeName_40 ?_
  refine lv_iload hx hb dX10_writeName_41 (lv_at hl 5 rfl) ?_
  refine sa_45 hc hP hS (nv_m hon3 (by decide) Nat.zero_lt_one) (vp4 hx0 3 (by decide)) dX10_writeName_43 (fun H locs hP hS => ?_)
  exact ne_v hc hP hS hr dX10_writeName_44 rfl
set_option maxHeartbeats 4000000 in
set_option maxRecDepth 100000 in
theorem c_X10_isRejected (hI : ninj ad on) (hon3 : on 3) {x : Int32} (hx0 : vp_in x 12) : nMi l D dA ad on yX10_isRejected cX10_isRejected 2 (some .boolean) (nrm 2) [.ref (ad 3 30 0), .int x] (wdo X 3 T) (fun r X' => r = nb (mRej T x) ∧ X' = wdo X 3 T) := by
  refine nM_of hI (by decide +kernel) (Nat.le_of_ble_eq_true rfl) ?_
  intro p e s m args below meth cd ls hc hr _ hP hl hS
  have hx := hc.1
  have hb := hc.2.1
  have hl : lv_has ls 2 [(0, .ref (ad 3 30 0)), (1, .int x)] := hl
  refine lv_aload_n hx hb dX10_isRejected_0 rfl (lv_at hl 0 rfl) ?_
  refine nc_Vi (c_X10_open hI hon3 ) hc hP hS hl.1 gd10_108 (nrecv (q := (RX10, TX10, 31)) hc (npic_eta hP) (nv_m hon3 (by decide) Nat.zero_lt_one) rfl rfl) ⟨rfl, rfl⟩ nok_X10_open rfl ⟨Nat.le_of_ble_eq_true rfl, Nat.le_of_ble_eq_true rfl⟩ ⟨Nat.le_of_ble_eq_true rfl, Nat.le_of_ble_eq_true rfl⟩ dX10_isRejected_1 rfl (Nat.le_of_ble_eq_true rfl) (fun r X1 H locs hp hP hS => ?_)
  obtain ⟨hr9, hX9⟩ := hp
  rw [hX9] at hP
  subst hr9
  refine lv_if_ne (tgt := 30) hx hb dX10_isRejected_4 (by decide) (fun c_4 => ?_) (fun c_4 => ?_)
  · refine lv_iconst (v := 0) hx hb dX10_isRejected_30 (by decide) ?_
    exact ne_z hc hP hS hr rfl dX10_isRejected_31 ⟨by clear hP hS hl hc hx hb hr; simp_all [-Int32.not_le, -Int32.not_lt, i32_lt, nb_t, nb_f, nb_z, nb_o, mRej], rfl⟩
  · refine lv_aload_n hx hb dX10_isRejected_7 rfl (lv_at hl 0 rfl) ?_
    refine g10_46 hc hP (nv_m hon3 (by decide) Nat.zero_lt_one) dX10_isRejected_8 ?_
    refine lv_iload_n hx hb dX10_isRejected_11 rfl (lv_at hl 1 rfl) ?_
    refine la_46 hc hP (nv_m hon3 (by decide) Nat.zero_lt_one) hx0 dX10_isRejected_12 ?_
    refine lv_iconst (v := 1) hx hb dX10_isRejected_13 (by decide) ?_
    refine lv_icmp_eq (tgt := 30) hx hb dX10_isRejected_14 (by decide) (fun c_14 => ?_) (fun c_14 => ?_)
    · refine lv_iconst (v := 0) hx hb dX10_isRejected_30 (by decide) ?_
      exact ne_z hc hP hS hr rfl dX10_isRejected_31 ⟨by clear hP hS hl hc hx hb hr; simp_all [-Int32.not_le, -Int32.not_lt, i32_lt, nb_t, nb_f, nb_z, nb_o, mRej], rfl⟩
    · refine lv_aload_n hx hb dX10_isRejected_17 rfl (lv_at hl 0 rfl) ?_
      refine g10_61 hc hP (nv_m hon3 (by decide) Nat.zero_lt_one) dX10_isRejected_18 ?_
      refine lv_iload_n hx hb dX10_isRejected_21 rfl (lv_at hl 1 rfl) ?_
      refine la_51 hc hP (nv_m hon3 (by decide) Nat.zero_lt_one) hx0 dX10_isRejected_22 ?_
      refine lv_if_le (tgt := 30) hx hb dX10_isRejected_23 (by decide) (fun c_23 => ?_) (fun c_23 => ?_)
      · refine lv_iconst (v := 0) hx hb dX10_isRejected_30 (by decide) ?_
        exact ne_z hc hP hS hr rfl dX10_isRejected_31 ⟨by clear hP hS hl hc hx hb hr; simp_all [-Int32.not_le, -Int32.not_lt, i32_lt, nb_t, nb_f, nb_z, nb_o, mRej], rfl⟩
      · refine lv_iconst (v := 1) hx hb dX10_isRejected_26 (by decide) ?_
        refine lv_goto (tgt := 31) hx hb dX10_isRejected_27 (by decide) ?_
        exact ne_z hc hP hS hr rfl dX10_isRejected_31 ⟨by clear hP hS hl hc hx hb hr; simp_all [-Int32.not_le, -Int32.not_lt, i32_lt, nb_t, nb_f, nb_z, nb_o, mRej], rfl⟩
set_option maxHeartbeats 4000000 in
set_option maxRecDepth 100000 in
theorem c_X10_canReplace (hI : ninj ad on) (hon3 : on 3) {x : Int32} (hx0 : vp_in x 12) : nMi l D dA ad on yX10_canReplace cX10_canReplace 2 (some .boolean) (nrm 3) [.ref (ad 3 30 0), .int x] (wdo X 3 T) (fun r X' => r = nb (mRepl T x) ∧ X' = wdo X 3 T) := by
  refine nM_of hI (by decide +kernel) (Nat.le_of_ble_eq_true rfl) ?_
  intro p e s m args below meth cd ls hc hr _ hP hl hS
  have hx := hc.1
  have hb := hc.2.1
  have hl : lv_has ls 2 [(0, .ref (ad 3 30 0)), (1, .int x)] := hl
  refine lv_aload_n hx hb dX10_canReplace_0 rfl (lv_at hl 0 rfl) ?_
  refine g10_39 hc hP (nv_m hon3 (by decide) Nat.zero_lt_one) dX10_canReplace_1 ?_
  refine lv_iload_n hx hb dX10_canReplace_4 rfl (lv_at hl 1 rfl) ?_
  refine la_44 hc hP (nv_m hon3 (by decide) Nat.zero_lt_one) hx0 dX10_canReplace_5 ?_
  refine lv_if_lt (tgt := 67) hx hb dX10_canReplace_6 (by decide) (fun c_6 => ?_) (fun c_6 => ?_)
  · refine lv_iconst (v := 0) hx hb dX10_canReplace_67 (by decide) ?_
    exact ne_z hc hP hS hr rfl dX10_canReplace_68 ⟨by clear hP hS hl hc hx hb hr; simp_all [-Int32.not_le, -Int32.not_lt, i32_lt, nb_t, nb_f, nb_z, nb_o, mRepl], rfl⟩
  · refine lv_aload_n hx hb dX10_canReplace_9 rfl (lv_at hl 0 rfl) ?_
    refine g10_46 hc hP (nv_m hon3 (by decide) Nat.zero_lt_one) dX10_canReplace_10 ?_
    refine lv_iload_n hx hb dX10_canReplace_13 rfl (lv_at hl 1 rfl) ?_
    refine la_46 hc hP (nv_m hon3 (by decide) Nat.zero_lt_one) hx0 dX10_canReplace_14 ?_
    refine lv_if_ne (tgt := 67) hx hb dX10_canReplace_15 (by decide) (fun c_15 => ?_) (fun c_15 => ?_)
    · refine lv_iconst (v := 0) hx hb dX10_canReplace_67 (by decide) ?_
      exact ne_z hc hP hS hr rfl dX10_canReplace_68 ⟨by clear hP hS hl hc hx hb hr; simp_all [-Int32.not_le, -Int32.not_lt, i32_lt, nb_t, nb_f, nb_z, nb_o, mRepl], rfl⟩
    · refine lv_aload_n hx hb dX10_canReplace_18 rfl (lv_at hl 0 rfl) ?_
      refine lv_iload_n hx hb dX10_canReplace_19 rfl (lv_at hl 1 rfl) ?_
      refine nc_Vi (c_X10_isRejected hI hon3 hx0) hc hP hS hl.1 gd10_155 (nrecv (q := (RX10, TX10, 31)) hc (npic_eta hP) (nv_m hon3 (by decide) Nat.zero_lt_one) rfl rfl) ⟨rfl, rfl⟩ nok_X10_isRejected rfl ⟨Nat.le_of_ble_eq_true rfl, Nat.le_of_ble_eq_true rfl⟩ ⟨Nat.le_of_ble_eq_true rfl, Nat.le_of_ble_eq_true rfl⟩ dX10_canReplace_20 rfl (Nat.le_of_ble_eq_true rfl) (fun r X1 H locs hp hP hS => ?_)
      obtain ⟨hr9, hX9⟩ := hp
      rw [hX9] at hP
      subst hr9
      refine lv_if_ne (tgt := 67) hx hb dX10_canReplace_23 (by decide) (fun c_23 => ?_) (fun c_23 => ?_)
      · refine lv_iconst (v := 0) hx hb dX10_canReplace_67 (by decide) ?_
        exact ne_z hc hP hS hr rfl dX10_canReplace_68 ⟨by clear hP hS hl hc hx hb hr; simp_all [-Int32.not_le, -Int32.not_lt, i32_lt, nb_t, nb_f, nb_z, nb_o, mRepl], rfl⟩
      · refine lv_aload_n hx hb dX10_canReplace_26 rfl (lv_at hl 0 rfl) ?_
        refine g10_55 hc hP (nv_m hon3 (by decide) Nat.zero_lt_one) dX10_canReplace_27 ?_
        refine lv_iload_n hx hb dX10_canReplace_30 rfl (lv_at hl 1 rfl) ?_
        refine la_49 hc hP (nv_m hon3 (by decide) Nat.zero_lt_one) hx0 dX10_canReplace_31 ?_
        refine lv_iconst (v := 2) hx hb dX10_canReplace_32 (by decide) ?_
        refine lv_icmp_ge (tgt := 67) hx hb dX10_canReplace_33 (by decide) (fun c_33 => ?_) (fun c_33 => ?_)
        · refine lv_iconst (v := 0) hx hb dX10_canReplace_67 (by decide) ?_
          exact ne_z hc hP hS hr rfl dX10_canReplace_68 ⟨by clear hP hS hl hc hx hb hr; simp_all [-Int32.not_le, -Int32.not_lt, i32_lt, nb_t, nb_f, nb_z, nb_o, mRepl], rfl⟩
        · refine lv_aload_n hx hb dX10_canReplace_36 rfl (lv_at hl 0 rfl) ?_
          refine g10_101 hc hP (nv_m hon3 (by decide) Nat.zero_lt_one) dX10_canReplace_37 ?_
          refine lv_aload_n hx hb dX10_canReplace_40 rfl (lv_at hl 0 rfl) ?_
          refine g10_13 hc hP (nv_m hon3 (by decide) Nat.zero_lt_one) dX10_canReplace_41 ?_
          refine lv_icmp_gt (tgt := 67) hx hb dX10_canReplace_44 (by decide) (fun c_44 => ?_) (fun c_44 => ?_)
          · refine lv_iconst (v := 0) hx hb dX10_canReplace_67 (by decide) ?_
            exact ne_z hc hP hS hr rfl dX10_canReplace_68 ⟨by clear hP hS hl hc hx hb hr; simp_all [-Int32.not_le, -Int32.not_lt, i32_lt, nb_t, nb_f, nb_z, nb_o, mRepl], rfl⟩
          · refine lv_aload_n hx hb dX10_canReplace_47 rfl (lv_at hl 0 rfl) ?_
            refine nc_Vi (c_X10_open hI hon3 ) hc hP hS hl.1 gd10_108 (nrecv (q := (RX10, TX10, 31)) hc (npic_eta hP) (nv_m hon3 (by decide) Nat.zero_lt_one) rfl rfl) ⟨rfl, rfl⟩ nok_X10_open rfl ⟨Nat.le_of_ble_eq_true rfl, Nat.le_of_ble_eq_true rfl⟩ ⟨Nat.le_of_ble_eq_true rfl, Nat.le_of_ble_eq_true rfl⟩ dX10_canReplace_48 rfl (Nat.le_of_ble_eq_true rfl) (fun r X1 H locs hp hP hS => ?_)
            obtain ⟨hr9, hX9⟩ := hp
            rw [hX9] at hP
            subst hr9
            refine lv_if_ne (tgt := 63) hx hb dX10_canReplace_51 (by decide) (fun c_51 => ?_) (fun c_51 => ?_)
            · refine lv_iconst (v := 1) hx hb dX10_canReplace_63 (by decide) ?_
              refine lv_goto (tgt := 68) hx hb dX10_canReplace_64 (by decide) ?_
              exact ne_z hc hP hS hr rfl dX10_canReplace_68 ⟨by clear hP hS hl hc hx hb hr; simp_all [-Int32.not_le, -Int32.not_lt, i32_lt, nb_t, nb_f, nb_z, nb_o, mRepl], rfl⟩
            · refine lv_aload_n hx hb dX10_canReplace_54 rfl (lv_at hl 0 rfl) ?_
              refine g10_52 hc hP (nv_m hon3 (by decide) Nat.zero_lt_one) dX10_canReplace_55 ?_
              refine lv_iload_n hx hb dX10_canReplace_58 rfl (lv_at hl 1 rfl) ?_
              refine la_48 hc hP (nv_m hon3 (by decide) Nat.zero_lt_one) hx0 dX10_canReplace_59 ?_
              refine lv_if_eq (tgt := 67) hx hb dX10_canReplace_60 (by decide) (fun c_60 => ?_) (fun c_60 => ?_)
              · refine lv_iconst (v := 0) hx hb dX10_canReplace_67 (by decide) ?_
                exact ne_z hc hP hS hr rfl dX10_canReplace_68 ⟨by clear hP hS hl hc hx hb hr; simp_all [-Int32.not_le, -Int32.not_lt, i32_lt, nb_t, nb_f, nb_z, nb_o, mRepl], rfl⟩
              · refine lv_iconst (v := 1) hx hb dX10_canReplace_63 (by decide) ?_
                refine lv_goto (tgt := 68) hx hb dX10_canReplace_64 (by decide) ?_
                exact ne_z hc hP hS hr rfl dX10_canReplace_68 ⟨by clear hP hS hl hc hx hb hr; simp_all [-Int32.not_le, -Int32.not_lt, i32_lt, nb_t, nb_f, nb_z, nb_o, mRepl], rfl⟩
set_option maxHeartbeats 4000000 in
set_option maxRecDepth 100000 in
theorem c_X10_isGone (hI : ninj ad on) (hon3 : on 3) {x w : Int32} (hx0 : vp_in x 12) : nMi l D dA ad on yX10_isGone cX10_isGone 3 (some .boolean) (nrm 1) [.ref (ad 3 30 0), .int x, .int w] (wdo X 3 T) (fun r X' => r = nb (mGone T x w) ∧ X' = wdo X 3 T) := by
  refine nM_of hI (by decide +kernel) (Nat.le_of_ble_eq_true rfl) ?_
  intro p e s m args below meth cd ls hc hr _ hP hl hS
  have hx := hc.1
  have hb := hc.2.1
  have hl : lv_has ls 3 [(0, .ref (ad 3 30 0)), (1, .int x), (2, .int w)] := hl
  refine lv_aload_n hx hb dX10_isGone_0 rfl (lv_at hl 0 rfl) ?_
  refine g10_46 hc hP (nv_m hon3 (by decide) Nat.zero_lt_one) dX10_isGone_1 ?_
  refine lv_iload_n hx hb dX10_isGone_4 rfl (lv_at hl 1 rfl) ?_
  refine la_46 hc hP (nv_m hon3 (by decide) Nat.zero_lt_one) hx0 dX10_isGone_5 ?_
  refine lv_if_gt (tgt := 18) hx hb dX10_isGone_6 (by decide) (fun c_6 => ?_) (fun c_6 => ?_)
  · refine lv_iconst (v := 1) hx hb dX10_isGone_18 (by decide) ?_
    refine lv_goto (tgt := 23) hx hb dX10_isGone_19 (by decide) ?_
    exact ne_z hc hP hS hr rfl dX10_isGone_23 ⟨by clear hP hS hl hc hx hb hr; simp_all [-Int32.not_le, -Int32.not_lt, i32_lt, nb_t, nb_f, nb_z, nb_o, mGone], rfl⟩
  · refine lv_iload_n hx hb dX10_isGone_9 rfl (lv_at hl 2 rfl) ?_
    refine lv_iload_n hx hb dX10_isGone_10 rfl (lv_at hl 1 rfl) ?_
    refine lv_ishr hx hb dX10_isGone_11 ?_
    refine lv_iconst (v := 1) hx hb dX10_isGone_12 (by decide) ?_
    refine lv_iand hx hb dX10_isGone_13 ?_
    refine lv_iconst (v := 1) hx hb dX10_isGone_14 (by decide) ?_
    refine lv_icmp_ne (tgt := 22) hx hb dX10_isGone_15 (by decide) (fun c_15 => ?_) (fun c_15 => ?_)
    · refine lv_iconst (v := 0) hx hb dX10_isGone_22 (by decide) ?_
      exact ne_z hc hP hS hr rfl dX10_isGone_23 ⟨by clear hP hS hl hc hx hb hr; simp_all [-Int32.not_le, -Int32.not_lt, i32_lt, nb_t, nb_f, nb_z, nb_o, mGone], rfl⟩
    · refine lv_iconst (v := 1) hx hb dX10_isGone_18 (by decide) ?_
      refine lv_goto (tgt := 23) hx hb dX10_isGone_19 (by decide) ?_
      exact ne_z hc hP hS hr rfl dX10_isGone_23 ⟨by clear hP hS hl hc hx hb hr; simp_all [-Int32.not_le, -Int32.not_lt, i32_lt, nb_t, nb_f, nb_z, nb_o, mGone], rfl⟩
set_option maxHeartbeats 4000000 in
set_option maxRecDepth 100000 in
theorem c_X10_setCalendar (hI : ninj ad on) (hon3 : on 3) (hT : nput M 30 0 0 0 = T) (hok : mOk T) {a b c : Int32} : nMi l D dA ad on yX10_setCalendar cX10_setCalendar 5 (some .int) (nrm 9) [.ref (ad 3 30 0), .int a, .int b, .int c] (wdo X 3 M) (fun r X' => r = (mG (decide (0 ≤ a) && decide (a ≤ b) && decide (b < c) && decide (c ≤ 60)) 1 T (0 : Int32) (mG (decide (T 30 0 4 ≤ 0) && decide (T 30 0 12 ≤ 0)) 2 T (0 : Int32) ((T 30 0 3, nput (nput (nput T 30 0 1 a) 30 0 2 b) 30 0 3 c)))).1 ∧ X' = wdo X 3 (mG (decide (0 ≤ a) && decide (a ≤ b) && decide (b < c) && decide (c ≤ 60)) 1 T (0 : Int32) (mG (decide (T 30 0 4 ≤ 0) && decide (T 30 0 12 ≤ 0)) 2 T (0 : Int32) ((T 30 0 3, nput (nput (nput T 30 0 1 a) 30 0 2 b) 30 0 3 c)))).2) := by
  refine nM_of hI (by decide +kernel) (Nat.le_of_ble_eq_true rfl) ?_
  intro p e s m args below meth cd ls hc hr _ hP hl hS
  have hx := hc.1
  have hb := hc.2.1
  have hl : lv_has ls 5 [(0, .ref (ad 3 30 0)), (1, .int a), (2, .int b), (3, .int c)] := hl
  refine lv_aload_n hx hb dX10_setCalendar_0 rfl (lv_at hl 0 rfl) ?_
  refine lv_iconst (v := 0) hx hb dX10_setCalendar_1 (by decide) ?_
  refine p10_85 hc hP hS (nv_m hon3 (by decide) Nat.zero_lt_one) dX10_setCalendar_2 (fun H locs hP hS => ?_)
  rw [hT] at hP
  refine lv_iload_n hx hb dX10_setCalendar_5 rfl (lv_at hl 1 rfl) ?_
  refine lv_if_lt (tgt := 25) hx hb dX10_setCalendar_6 (by decide) (fun c_6 => ?_) (fun c_6 => ?_)
  · refine lv_aload_n hx hb dX10_setCalendar_25 rfl (lv_at hl 0 rfl) ?_
    refine lv_iconst (v := 1) hx hb dX10_setCalendar_26 (by decide) ?_
    refine nc_Vi (c_X10_fails hI hon3) hc hP hS hl.1 gd10_104 (nrecv (q := (RX10, TX10, 31)) hc (npic_eta hP) (nv_m hon3 (by decide) Nat.zero_lt_one) rfl rfl) ⟨rfl, rfl⟩ nok_X10_fails rfl ⟨Nat.le_of_ble_eq_true rfl, Nat.le_of_ble_eq_true rfl⟩ ⟨Nat.le_of_ble_eq_true rfl, Nat.le_of_ble_eq_true rfl⟩ dX10_setCalendar_27 rfl (Nat.le_of_ble_eq_true rfl) (fun r X1 H locs hp hP hS => ?_)
    obtain ⟨hr9, hX9⟩ := hp
    rw [hX9] at hP
    subst hr9
    exact ne_i hc hP hS hr dX10_setCalendar_30 (mR_of (mG_f (by clear hP hS hl hc hx hb hr hT; simp_all [-Int32.not_le, -Int32.not_lt, i32_lt, nb_t, nb_f, nb_z, nb_o])))
  · refine lv_iload_n hx hb dX10_setCalendar_9 rfl (lv_at hl 2 rfl) ?_
    refine lv_iload_n hx hb dX10_setCalendar_10 rfl (lv_at hl 1 rfl) ?_
    refine lv_icmp_lt (tgt := 25) hx hb dX10_setCalendar_11 (by decide) (fun c_11 => ?_) (fun c_11 => ?_)
    · refine lv_aload_n hx hb dX10_setCalendar_25 rfl (lv_at hl 0 rfl) ?_
      refine lv_iconst (v := 1) hx hb dX10_setCalendar_26 (by decide) ?_
      refine nc_Vi (c_X10_fails hI hon3) hc hP hS hl.1 gd10_104 (nrecv (q := (RX10, TX10, 31)) hc (npic_eta hP) (nv_m hon3 (by decide) Nat.zero_lt_one) rfl rfl) ⟨rfl, rfl⟩ nok_X10_fails rfl ⟨Nat.le_of_ble_eq_true rfl, Nat.le_of_ble_eq_true rfl⟩ ⟨Nat.le_of_ble_eq_true rfl, Nat.le_of_ble_eq_true rfl⟩ dX10_setCalendar_27 rfl (Nat.le_of_ble_eq_true rfl) (fun r X1 H locs hp hP hS => ?_)
      obtain ⟨hr9, hX9⟩ := hp
      rw [hX9] at hP
      subst hr9
      exact ne_i hc hP hS hr dX10_setCalendar_30 (mR_of (mG_f (by clear hP hS hl hc hx hb hr hT; simp_all [-Int32.not_le, -Int32.not_lt, i32_lt, nb_t, nb_f, nb_z, nb_o])))
    · refine lv_iload_n hx hb dX10_setCalendar_14 rfl (lv_at hl 3 rfl) ?_
      refine lv_iload_n hx hb dX10_setCalendar_15 rfl (lv_at hl 2 rfl) ?_
      refine lv_icmp_le (tgt := 25) hx hb dX10_setCalendar_16 (by decide) (fun c_16 => ?_) (fun c_16 => ?_)
      · refine lv_aload_n hx hb dX10_setCalendar_25 rfl (lv_at hl 0 rfl) ?_
        refine lv_iconst (v := 1) hx hb dX10_setCalendar_26 (by decide) ?_
        refine nc_Vi (c_X10_fails hI hon3) hc hP hS hl.1 gd10_104 (nrecv (q := (RX10, TX10, 31)) hc (npic_eta hP) (nv_m hon3 (by decide) Nat.zero_lt_one) rfl rfl) ⟨rfl, rfl⟩ nok_X10_fails rfl ⟨Nat.le_of_ble_eq_true rfl, Nat.le_of_ble_eq_true rfl⟩ ⟨Nat.le_of_ble_eq_true rfl, Nat.le_of_ble_eq_true rfl⟩ dX10_setCalendar_27 rfl (Nat.le_of_ble_eq_true rfl) (fun r X1 H locs hp hP hS => ?_)
        obtain ⟨hr9, hX9⟩ := hp
        rw [hX9] at hP
        subst hr9
        exact ne_i hc hP hS hr dX10_setCalendar_30 (mR_of (mG_f (by clear hP hS hl hc hx hb hr hT; simp_all [-Int32.not_le, -Int32.not_lt, i32_lt, nb_t, nb_f, nb_z, nb_o])))
      · refine lv_iload_n hx hb dX10_setCalendar_19 rfl (lv_at hl 3 rfl) ?_
        refine lv_bipush (v := 60) hx hb dX10_setCalendar_20 (by decide) ?_
        refine lv_icmp_le (tgt := 31) hx hb dX10_setCalendar_22 (by decide) (fun c_22 => ?_) (fun c_22 => ?_)
        · refine lv_aload_n hx hb dX10_setCalendar_31 rfl (lv_at hl 0 rfl) ?_
          refine g10_101 hc hP (nv_m hon3 (by decide) Nat.zero_lt_one) dX10_setCalendar_32 ?_
          refine lv_if_gt (tgt := 45) hx hb dX10_setCalendar_35 (by decide) (fun c_35 => ?_) (fun c_35 => ?_)
          · refine lv_aload_n hx hb dX10_setCalendar_45 rfl (lv_at hl 0 rfl) ?_
            refine lv_iconst (v := 2) hx hb dX10_setCalendar_46 (by decide) ?_
            refine nc_Vi (c_X10_fails hI hon3) hc hP hS hl.1 gd10_104 (nrecv (q := (RX10, TX10, 31)) hc (npic_eta hP) (nv_m hon3 (by decide) Nat.zero_lt_one) rfl rfl) ⟨rfl, rfl⟩ nok_X10_fails rfl ⟨Nat.le_of_ble_eq_true rfl, Nat.le_of_ble_eq_true rfl⟩ ⟨Nat.le_of_ble_eq_true rfl, Nat.le_of_ble_eq_true rfl⟩ dX10_setCalendar_47 rfl (Nat.le_of_ble_eq_true rfl) (fun r X1 H locs hp hP hS => ?_)
            obtain ⟨hr9, hX9⟩ := hp
            rw [hX9] at hP
            subst hr9
            exact ne_i hc hP hS hr dX10_setCalendar_50 (mR_of ((mG_t (by clear hP hS hl hc hx hb hr hT; simp_all [-Int32.not_le, -Int32.not_lt, i32_lt, nb_t, nb_f, nb_z, nb_o])).trans (mG_f (by clear hP hS hl hc hx hb hr hT; simp_all [-Int32.not_le, -Int32.not_lt, i32_lt, nb_t, nb_f, nb_z, nb_o]))))
          · refine lv_aload_n hx hb dX10_setCalendar_38 rfl (lv_at hl 0 rfl) ?_
            refine g10_98 hc hP (nv_m hon3 (by decide) Nat.zero_lt_one) dX10_setCalendar_39 ?_
            refine lv_if_le (tgt := 51) hx hb dX10_setCalendar_42 (by decide) (fun c_42 => ?_) (fun c_42 => ?_)
            · refine lv_aload_n hx hb dX10_setCalendar_51 rfl (lv_at hl 0 rfl) ?_
              refine g10_16 hc hP (nv_m hon3 (by decide) Nat.zero_lt_one) dX10_setCalendar_52 ?_
              refine lv_istore (lv' := [(4, .int _), (0, .ref _), (1, .int _), (2, .int _), (3, .int _)]) hx hb dX10_setCalendar_55 hl (by decide) rfl (fun ls hl => ?_)
              refine lv_aload_n hx hb dX10_setCalendar_57 rfl (lv_at hl 1 rfl) ?_
              refine lv_iload_n hx hb dX10_setCalendar_58 rfl (lv_at hl 2 rfl) ?_
              refine p10_7 hc hP hS (nv_m hon3 (by decide) Nat.zero_lt_one) dX10_setCalendar_59 (fun H locs hP hS => ?_)
              refine lv_aload_n hx hb dX10_setCalendar_62 rfl (lv_at hl 1 rfl) ?_
              refine lv_iload_n hx hb dX10_setCalendar_63 rfl (lv_at hl 3 rfl) ?_
              refine p10_13 hc hP hS (nv_m hon3 (by decide) Nat.zero_lt_one) dX10_setCalendar_64 (fun H locs hP hS => ?_)
              refine lv_aload_n hx hb dX10_setCalendar_67 rfl (lv_at hl 1 rfl) ?_
              refine lv_iload_n hx hb dX10_setCalendar_68 rfl (lv_at hl 4 rfl) ?_
              refine p10_16 hc hP hS (nv_m hon3 (by decide) Nat.zero_lt_one) dX10_setCalendar_69 (fun H locs hP hS => ?_)
              refine lv_iload hx hb dX10_setCalendar_72 (lv_at hl 0 rfl) ?_
              exact ne_i hc hP hS hr dX10_setCalendar_74 (mR_of ((mG_t (by clear hP hS hl hc hx hb hr hT; simp_all [-Int32.not_le, -Int32.not_lt, i32_lt, nb_t, nb_f, nb_z, nb_o])).trans ((mG_t (by clear hP hS hl hc hx hb hr hT; simp_all [-Int32.not_le, -Int32.not_lt, i32_lt, nb_t, nb_f, nb_z, nb_o])).trans (rfl))))
            · refine lv_aload_n hx hb dX10_setCalendar_45 rfl (lv_at hl 0 rfl) ?_
              refine lv_iconst (v := 2) hx hb dX10_setCalendar_46 (by decide) ?_
              refine nc_Vi (c_X10_fails hI hon3) hc hP hS hl.1 gd10_104 (nrecv (q := (RX10, TX10, 31)) hc (npic_eta hP) (nv_m hon3 (by decide) Nat.zero_lt_one) rfl rfl) ⟨rfl, rfl⟩ nok_X10_fails rfl ⟨Nat.le_of_ble_eq_true rfl, Nat.le_of_ble_eq_true rfl⟩ ⟨Nat.le_of_ble_eq_true rfl, Nat.le_of_ble_eq_true rfl⟩ dX10_setCalendar_47 rfl (Nat.le_of_ble_eq_true rfl) (fun r X1 H locs hp hP hS => ?_)
              obtain ⟨hr9, hX9⟩ := hp
              rw [hX9] at hP
              subst hr9
              exact ne_i hc hP hS hr dX10_setCalendar_50 (mR_of ((mG_t (by clear hP hS hl hc hx hb hr hT; simp_all [-Int32.not_le, -Int32.not_lt, i32_lt, nb_t, nb_f, nb_z, nb_o])).trans (mG_f (by clear hP hS hl hc hx hb hr hT; simp_all [-Int32.not_le, -Int32.not_lt, i32_lt, nb_t, nb_f, nb_z, nb_o]))))
        · refine lv_aload_n hx hb dX10_setCalendar_25 rfl (lv_at hl 0 rfl) ?_
          refine lv_iconst (v := 1) hx hb dX10_setCalendar_26 (by decide) ?_
          refine nc_Vi (c_X10_fails hI hon3) hc hP hS hl.1 gd10_104 (nrecv (q := (RX10, TX10, 31)) hc (npic_eta hP) (nv_m hon3 (by decide) Nat.zero_lt_one) rfl rfl) ⟨rfl, rfl⟩ nok_X10_fails rfl ⟨Nat.le_of_ble_eq_true rfl, Nat.le_of_ble_eq_true rfl⟩ ⟨Nat.le_of_ble_eq_true rfl, Nat.le_of_ble_eq_true rfl⟩ dX10_setCalendar_27 rfl (Nat.le_of_ble_eq_true rfl) (fun r X1 H locs hp hP hS => ?_)
          obtain ⟨hr9, hX9⟩ := hp
          rw [hX9] at hP
          subst hr9
          exact ne_i hc hP hS hr dX10_setCalendar_30 (mR_of (mG_f (by clear hP hS hl hc hx hb hr hT; simp_all [-Int32.not_le, -Int32.not_lt, i32_lt, nb_t, nb_f, nb_z, nb_o])))
set_option maxHeartbeats 4000000 in
set_option maxRecDepth 100000 in
theorem c_X10_day (hI : ninj ad on) (hon3 : on 3) (hT : nput M 30 0 0 0 = T) (hok : mOk T) : nMi l D dA ad on yX10_day cX10_day 1 (some .int) (nrm 9) [.ref (ad 3 30 0)] (wdo X 3 M) (fun r X' => r = ((T 30 0 4, T)).1 ∧ X' = wdo X 3 ((T 30 0 4, T)).2) := by
  refine nM_of hI (by decide +kernel) (Nat.le_of_ble_eq_true rfl) ?_
  intro p e s m args below meth cd ls hc hr _ hP hl hS
  have hx := hc.1
  have hb := hc.2.1
  have hl : lv_has ls 1 [(0, .ref (ad 3 30 0))] := hl
  refine lv_aload_n hx hb dX10_day_0 rfl (lv_at hl 0 rfl) ?_
  refine lv_iconst (v := 0) hx hb dX10_day_1 (by decide) ?_
  refine p10_85 hc hP hS (nv_m hon3 (by decide) Nat.zero_lt_one) dX10_day_2 (fun H locs hP hS => ?_)
  rw [hT] at hP
  refine lv_aload_n hx hb dX10_day_5 rfl (lv_at hl 0 rfl) ?_
  refine g10_101 hc hP (nv_m hon3 (by decide) Nat.zero_lt_one) dX10_day_6 ?_
  exact ne_i hc hP hS hr dX10_day_9 (mR_of (rfl))
set_option maxHeartbeats 4000000 in
set_option maxRecDepth 100000 in
theorem c_X10_isOpen (hI : ninj ad on) (hon3 : on 3) (hT : nput M 30 0 0 0 = T) (hok : mOk T) : nMi l D dA ad on yX10_isOpen cX10_isOpen 1 (some .boolean) (nrm 9) [.ref (ad 3 30 0)] (wdo X 3 M) (fun r X' => r = ((nb (mOpen T), T)).1 ∧ X' = wdo X 3 ((nb (mOpen T), T)).2) := by
  refine nM_of hI (by decide +kernel) (Nat.le_of_ble_eq_true rfl) ?_
  intro p e s m args below meth cd ls hc hr _ hP hl hS
  have hx := hc.1
  have hb := hc.2.1
  have hl : lv_has ls 1 [(0, .ref (ad 3 30 0))] := hl
  refine lv_aload_n hx hb dX10_isOpen_0 rfl (lv_at hl 0 rfl) ?_
  refine lv_iconst (v := 0) hx hb dX10_isOpen_1 (by decide) ?_
  refine p10_85 hc hP hS (nv_m hon3 (by decide) Nat.zero_lt_one) dX10_isOpen_2 (fun H locs hP hS => ?_)
  rw [hT] at hP
  refine lv_aload_n hx hb dX10_isOpen_5 rfl (lv_at hl 0 rfl) ?_
  refine nc_Vi (c_X10_open hI hon3 ) hc hP hS hl.1 gd10_108 (nrecv (q := (RX10, TX10, 31)) hc (npic_eta hP) (nv_m hon3 (by decide) Nat.zero_lt_one) rfl rfl) ⟨rfl, rfl⟩ nok_X10_open rfl ⟨Nat.le_of_ble_eq_true rfl, Nat.le_of_ble_eq_true rfl⟩ ⟨Nat.le_of_ble_eq_true rfl, Nat.le_of_ble_eq_true rfl⟩ dX10_isOpen_6 rfl (Nat.le_of_ble_eq_true rfl) (fun r X1 H locs hp hP hS => ?_)
  obtain ⟨hr9, hX9⟩ := hp
  rw [hX9] at hP
  subst hr9
  exact ne_z hc hP hS hr (nbz _) dX10_isOpen_9 (mR_of (rfl))
set_option maxHeartbeats 4000000 in
set_option maxRecDepth 100000 in
theorem c_X10_papers (hI : ninj ad on) (hon3 : on 3) (hT : nput M 30 0 0 0 = T) (hok : mOk T) : nMi l D dA ad on yX10_papers cX10_papers 1 (some .int) (nrm 9) [.ref (ad 3 30 0)] (wdo X 3 M) (fun r X' => r = ((T 30 0 12, T)).1 ∧ X' = wdo X 3 ((T 30 0 12, T)).2) := by
  refine nM_of hI (by decide +kernel) (Nat.le_of_ble_eq_true rfl) ?_
  intro p e s m args below meth cd ls hc hr _ hP hl hS
  have hx := hc.1
  have hb := hc.2.1
  have hl : lv_has ls 1 [(0, .ref (ad 3 30 0))] := hl
  refine lv_aload_n hx hb dX10_papers_0 rfl (lv_at hl 0 rfl) ?_
  refine lv_iconst (v := 0) hx hb dX10_papers_1 (by decide) ?_
  refine p10_85 hc hP hS (nv_m hon3 (by decide) Nat.zero_lt_one) dX10_papers_2 (fun H locs hP hS => ?_)
  rw [hT] at hP
  refine lv_aload_n hx hb dX10_papers_5 rfl (lv_at hl 0 rfl) ?_
  refine g10_98 hc hP (nv_m hon3 (by decide) Nat.zero_lt_one) dX10_papers_6 ?_
  exact ne_i hc hP hS hr dX10_papers_9 (mR_of (rfl))
set_option maxHeartbeats 4000000 in
set_option maxRecDepth 100000 in
theorem c_X10_signatures (hI : ninj ad on) (hon3 : on 3) (hT : nput M 30 0 0 0 = T) (hok : mOk T) : nMi l D dA ad on yX10_signatures cX10_signatures 1 (some .int) (nrm 9) [.ref (ad 3 30 0)] (wdo X 3 M) (fun r X' => r = ((T 30 0 22, T)).1 ∧ X' = wdo X 3 ((T 30 0 22, T)).2) := by
  refine nM_of hI (by decide +kernel) (Nat.le_of_ble_eq_true rfl) ?_
  intro p e s m args below meth cd ls hc hr _ hP hl hS
  have hx := hc.1
  have hb := hc.2.1
  have hl : lv_has ls 1 [(0, .ref (ad 3 30 0))] := hl
  refine lv_aload_n hx hb dX10_signatures_0 rfl (lv_at hl 0 rfl) ?_
  refine lv_iconst (v := 0) hx hb dX10_signatures_1 (by decide) ?_
  refine p10_85 hc hP hS (nv_m hon3 (by decide) Nat.zero_lt_one) dX10_signatures_2 (fun H locs hP hS => ?_)
  rw [hT] at hP
  refine lv_aload_n hx hb dX10_signatures_5 rfl (lv_at hl 0 rfl) ?_
  refine g10_115 hc hP (nv_m hon3 (by decide) Nat.zero_lt_one) dX10_signatures_6 ?_
  exact ne_i hc hP hS hr dX10_signatures_9 (mR_of (rfl))
set_option maxHeartbeats 4000000 in
set_option maxRecDepth 100000 in
theorem c_X10_addArea (hI : ninj ad on) (hon3 : on 3) (hT : nput M 30 0 0 0 = T) (hok : mOk T) {a b : Int32} : nMi l D dA ad on yX10_addArea cX10_addArea 3 (some .int) (nrm 9) [.ref (ad 3 30 0), .int a, .int b] (wdo X 3 M) (fun r X' => r = (mG (mIn a 1 10 && mIn b 0 1000) 1 T (0 : Int32) (mG (!decide (T 30 0 5 = 5)) 2 T (0 : Int32) ((T 30 0 5 + 1 - 1, nput (nput (nput T 36 0 (nix (T 30 0 5)) a) 37 0 (nix (T 30 0 5)) b) 30 0 5 (T 30 0 5 + 1))))).1 ∧ X' = wdo X 3 (mG (mIn a 1 10 && mIn b 0 1000) 1 T (0 : Int32) (mG (!decide (T 30 0 5 = 5)) 2 T (0 : Int32) ((T 30 0 5 + 1 - 1, nput (nput (nput T 36 0 (nix (T 30 0 5)) a) 37 0 (nix (T 30 0 5)) b) 30 0 5 (T 30 0 5 + 1))))).2) := by
  refine nM_of hI (by decide +kernel) (Nat.le_of_ble_eq_true rfl) ?_
  intro p e s m args below meth cd ls hc hr _ hP hl hS
  have hx := hc.1
  have hb := hc.2.1
  have hl : lv_has ls 3 [(0, .ref (ad 3 30 0)), (1, .int a), (2, .int b)] := hl
  refine lv_aload_n hx hb dX10_addArea_0 rfl (lv_at hl 0 rfl) ?_
  refine lv_iconst (v := 0) hx hb dX10_addArea_1 (by decide) ?_
  refine p10_85 hc hP hS (nv_m hon3 (by decide) Nat.zero_lt_one) dX10_addArea_2 (fun H locs hP hS => ?_)
  rw [hT] at hP
  refine lv_iload_n hx hb dX10_addArea_5 rfl (lv_at hl 1 rfl) ?_
  refine lv_iconst (v := 1) hx hb dX10_addArea_6 (by decide) ?_
  refine lv_bipush (v := 10) hx hb dX10_addArea_7 (by decide) ?_
  refine nc_Si (c_X10_isIn hI) hc hP hS hl.1 gd10_91 ⟨rfl, rfl⟩ nok_X10_isIn rfl ⟨Nat.le_of_ble_eq_true rfl, Nat.le_of_ble_eq_true rfl⟩ ⟨Nat.le_of_ble_eq_true rfl, Nat.le_of_ble_eq_true rfl⟩ dX10_addArea_9 rfl (Nat.le_of_ble_eq_true rfl) (fun r X1 H locs hp hP hS => ?_)
  obtain ⟨hr9, hX9⟩ := hp
  rw [hX9] at hP
  subst hr9
  refine lv_if_eq (tgt := 26) hx hb dX10_addArea_12 (by decide) (fun c_12 => ?_) (fun c_12 => ?_)
  · refine lv_aload_n hx hb dX10_addArea_26 rfl (lv_at hl 0 rfl) ?_
    refine lv_iconst (v := 1) hx hb dX10_addArea_27 (by decide) ?_
    refine nc_Vi (c_X10_fails hI hon3) hc hP hS hl.1 gd10_104 (nrecv (q := (RX10, TX10, 31)) hc (npic_eta hP) (nv_m hon3 (by decide) Nat.zero_lt_one) rfl rfl) ⟨rfl, rfl⟩ nok_X10_fails rfl ⟨Nat.le_of_ble_eq_true rfl, Nat.le_of_ble_eq_true rfl⟩ ⟨Nat.le_of_ble_eq_true rfl, Nat.le_of_ble_eq_true rfl⟩ dX10_addArea_28 rfl (Nat.le_of_ble_eq_true rfl) (fun r X1 H locs hp hP hS => ?_)
    obtain ⟨hr9, hX9⟩ := hp
    rw [hX9] at hP
    subst hr9
    exact ne_i hc hP hS hr dX10_addArea_31 (mR_of (mG_f (by clear hP hS hl hc hx hb hr hT; simp_all [-Int32.not_le, -Int32.not_lt, i32_lt, nb_t, nb_f, nb_z, nb_o])))
  · refine lv_iload_n hx hb dX10_addArea_15 rfl (lv_at hl 2 rfl) ?_
    refine lv_iconst (v := 0) hx hb dX10_addArea_16 (by decide) ?_
    refine lv_sipush (v := 1000) hx hb dX10_addArea_17 (by decide) ?_
    refine nc_Si (c_X10_isIn hI) hc hP hS hl.1 gd10_91 ⟨rfl, rfl⟩ nok_X10_isIn rfl ⟨Nat.le_of_ble_eq_true rfl, Nat.le_of_ble_eq_true rfl⟩ ⟨Nat.le_of_ble_eq_true rfl, Nat.le_of_ble_eq_true rfl⟩ dX10_addArea_20 rfl (Nat.le_of_ble_eq_true rfl) (fun r X1 H locs hp hP hS => ?_)
    obtain ⟨hr9, hX9⟩ := hp
    rw [hX9] at hP
    subst hr9
    refine lv_if_ne (tgt := 32) hx hb dX10_addArea_23 (by decide) (fun c_23 => ?_) (fun c_23 => ?_)
    · refine lv_aload_n hx hb dX10_addArea_32 rfl (lv_at hl 0 rfl) ?_
      refine g10_88 hc hP (nv_m hon3 (by decide) Nat.zero_lt_one) dX10_addArea_33 ?_
      refine lv_iconst (v := 5) hx hb dX10_addArea_36 (by decide) ?_
      refine lv_icmp_ne (tgt := 46) hx hb dX10_addArea_37 (by decide) (fun c_37 => ?_) (fun c_37 => ?_)
      · refine lv_aload_n hx hb dX10_addArea_46 rfl (lv_at hl 0 rfl) ?_
        refine g10_19 hc hP (nv_m hon3 (by decide) Nat.zero_lt_one) dX10_addArea_47 ?_
        refine lv_aload_n hx hb dX10_addArea_50 rfl (lv_at hl 0 rfl) ?_
        refine g10_88 hc hP (nv_m hon3 (by decide) Nat.zero_lt_one) dX10_addArea_51 ?_
        refine lv_iload_n hx hb dX10_addArea_54 rfl (lv_at hl 1 rfl) ?_
        refine sa_36 hc hP hS (nv_m hon3 (by decide) Nat.zero_lt_one) (mroom hok.na hok.na5 c_37 (by decide)) dX10_addArea_55 (fun H locs hP hS => ?_)
        refine lv_aload_n hx hb dX10_addArea_56 rfl (lv_at hl 0 rfl) ?_
        refine g10_23 hc hP (nv_m hon3 (by decide) Nat.zero_lt_one) dX10_addArea_57 ?_
        refine lv_aload_n hx hb dX10_addArea_60 rfl (lv_at hl 0 rfl) ?_
        refine g10_88 hc hP (nv_m hon3 (by decide) Nat.zero_lt_one) dX10_addArea_61 ?_
        refine lv_iload_n hx hb dX10_addArea_64 rfl (lv_at hl 2 rfl) ?_
        refine sa_37 hc hP hS (nv_m hon3 (by decide) Nat.zero_lt_one) (mroom hok.na hok.na5 c_37 (by decide)) dX10_addArea_65 (fun H locs hP hS => ?_)
        refine lv_aload_n hx hb dX10_addArea_66 rfl (lv_at hl 0 rfl) ?_
        refine lv_dup hx hb dX10_addArea_67 rfl ?_
        refine g10_88 hc hP (nv_m hon3 (by decide) Nat.zero_lt_one) dX10_addArea_68 ?_
        refine lv_iconst (v := 1) hx hb dX10_addArea_71 (by decide) ?_
        refine lv_iadd hx hb dX10_addArea_72 ?_
        refine p10_88 hc hP hS (nv_m hon3 (by decide) Nat.zero_lt_one) dX10_addArea_73 (fun H locs hP hS => ?_)
        refine lv_aload_n hx hb dX10_addArea_76 rfl (lv_at hl 0 rfl) ?_
        refine g10_88 hc hP (nv_m hon3 (by decide) Nat.zero_lt_one) dX10_addArea_77 ?_
        refine lv_iconst (v := 1) hx hb dX10_addArea_80 (by decide) ?_
        refine lv_isub hx hb dX10_addArea_81 ?_
        exact ne_i hc hP hS hr dX10_addArea_82 (mR_of ((mG_t (by clear hP hS hl hc hx hb hr hT; simp_all [-Int32.not_le, -Int32.not_lt, i32_lt, nb_t, nb_f, nb_z, nb_o])).trans ((mG_t (by clear hP hS hl hc hx hb hr hT; simp_all [-Int32.not_le, -Int32.not_lt, i32_lt, nb_t, nb_f, nb_z, nb_o])).trans (rfl))))
      · refine lv_aload_n hx hb dX10_addArea_40 rfl (lv_at hl 0 rfl) ?_
        refine lv_iconst (v := 2) hx hb dX10_addArea_41 (by decide) ?_
        refine nc_Vi (c_X10_fails hI hon3) hc hP hS hl.1 gd10_104 (nrecv (q := (RX10, TX10, 31)) hc (npic_eta hP) (nv_m hon3 (by decide) Nat.zero_lt_one) rfl rfl) ⟨rfl, rfl⟩ nok_X10_fails rfl ⟨Nat.le_of_ble_eq_true rfl, Nat.le_of_ble_eq_true rfl⟩ ⟨Nat.le_of_ble_eq_true rfl, Nat.le_of_ble_eq_true rfl⟩ dX10_addArea_42 rfl (Nat.le_of_ble_eq_true rfl) (fun r X1 H locs hp hP hS => ?_)
        obtain ⟨hr9, hX9⟩ := hp
        rw [hX9] at hP
        subst hr9
        exact ne_i hc hP hS hr dX10_addArea_45 (mR_of ((mG_t (by clear hP hS hl hc hx hb hr hT; simp_all [-Int32.not_le, -Int32.not_lt, i32_lt, nb_t, nb_f, nb_z, nb_o])).trans (mG_f (by clear hP hS hl hc hx hb hr hT; simp_all [-Int32.not_le, -Int32.not_lt, i32_lt, nb_t, nb_f, nb_z, nb_o]))))
    · refine lv_aload_n hx hb dX10_addArea_26 rfl (lv_at hl 0 rfl) ?_
      refine lv_iconst (v := 1) hx hb dX10_addArea_27 (by decide) ?_
      refine nc_Vi (c_X10_fails hI hon3) hc hP hS hl.1 gd10_104 (nrecv (q := (RX10, TX10, 31)) hc (npic_eta hP) (nv_m hon3 (by decide) Nat.zero_lt_one) rfl rfl) ⟨rfl, rfl⟩ nok_X10_fails rfl ⟨Nat.le_of_ble_eq_true rfl, Nat.le_of_ble_eq_true rfl⟩ ⟨Nat.le_of_ble_eq_true rfl, Nat.le_of_ble_eq_true rfl⟩ dX10_addArea_28 rfl (Nat.le_of_ble_eq_true rfl) (fun r X1 H locs hp hP hS => ?_)
      obtain ⟨hr9, hX9⟩ := hp
      rw [hX9] at hP
      subst hr9
      exact ne_i hc hP hS hr dX10_addArea_31 (mR_of (mG_f (by clear hP hS hl hc hx hb hr hT; simp_all [-Int32.not_le, -Int32.not_lt, i32_lt, nb_t, nb_f, nb_z, nb_o])))
set_option maxHeartbeats 4000000 in
set_option maxRecDepth 100000 in
theorem c_X10_addVoter (hI : ninj ad on) (hon3 : on 3) (hT : nput M 30 0 0 0 = T) (hok : mOk T) {a : Int32} : nMi l D dA ad on yX10_addVoter cX10_addVoter 2 (some .int) (nrm 9) [.ref (ad 3 30 0), .int a] (wdo X 3 M) (fun r X' => r = (mG (mIn a 0 (T 30 0 5 - 1)) 1 T (0 : Int32) (mG (!decide (T 30 0 9 = 40)) 2 T (0 : Int32) ((T 30 0 9 + 1 - 1, nput (nput T 40 0 (nix (T 30 0 9)) a) 30 0 9 (T 30 0 9 + 1))))).1 ∧ X' = wdo X 3 (mG (mIn a 0 (T 30 0 5 - 1)) 1 T (0 : Int32) (mG (!decide (T 30 0 9 = 40)) 2 T (0 : Int32) ((T 30 0 9 + 1 - 1, nput (nput T 40 0 (nix (T 30 0 9)) a) 30 0 9 (T 30 0 9 + 1))))).2) := by
  refine nM_of hI (by decide +kernel) (Nat.le_of_ble_eq_true rfl) ?_
  intro p e s m args below meth cd ls hc hr _ hP hl hS
  have hx := hc.1
  have hb := hc.2.1
  have hl : lv_has ls 2 [(0, .ref (ad 3 30 0)), (1, .int a)] := hl
  refine lv_aload_n hx hb dX10_addVoter_0 rfl (lv_at hl 0 rfl) ?_
  refine lv_iconst (v := 0) hx hb dX10_addVoter_1 (by decide) ?_
  refine p10_85 hc hP hS (nv_m hon3 (by decide) Nat.zero_lt_one) dX10_addVoter_2 (fun H locs hP hS => ?_)
  rw [hT] at hP
  refine lv_aload_n hx hb dX10_addVoter_5 rfl (lv_at hl 0 rfl) ?_
  refine lv_iload_n hx hb dX10_addVoter_6 rfl (lv_at hl 1 rfl) ?_
  refine nc_Vi (c_X10_isArea hI hon3 ) hc hP hS hl.1 gd10_125 (nrecv (q := (RX10, TX10, 31)) hc (npic_eta hP) (nv_m hon3 (by decide) Nat.zero_lt_one) rfl rfl) ⟨rfl, rfl⟩ nok_X10_isArea rfl ⟨Nat.le_of_ble_eq_true rfl, Nat.le_of_ble_eq_true rfl⟩ ⟨Nat.le_of_ble_eq_true rfl, Nat.le_of_ble_eq_true rfl⟩ dX10_addVoter_7 rfl (Nat.le_of_ble_eq_true rfl) (fun r X1 H locs hp hP hS => ?_)
  obtain ⟨hr9, hX9⟩ := hp
  rw [hX9] at hP
  subst hr9
  refine lv_if_ne (tgt := 19) hx hb dX10_addVoter_10 (by decide) (fun c_10 => ?_) (fun c_10 => ?_)
  · refine lv_aload_n hx hb dX10_addVoter_19 rfl (lv_at hl 0 rfl) ?_
    refine g10_95 hc hP (nv_m hon3 (by decide) Nat.zero_lt_one) dX10_addVoter_20 ?_
    refine lv_bipush (v := 40) hx hb dX10_addVoter_23 (by decide) ?_
    refine lv_icmp_ne (tgt := 34) hx hb dX10_addVoter_25 (by decide) (fun c_25 => ?_) (fun c_25 => ?_)
    · refine lv_aload_n hx hb dX10_addVoter_34 rfl (lv_at hl 0 rfl) ?_
      refine g10_30 hc hP (nv_m hon3 (by decide) Nat.zero_lt_one) dX10_addVoter_35 ?_
      refine lv_aload_n hx hb dX10_addVoter_38 rfl (lv_at hl 0 rfl) ?_
      refine g10_95 hc hP (nv_m hon3 (by decide) Nat.zero_lt_one) dX10_addVoter_39 ?_
      refine lv_iload_n hx hb dX10_addVoter_42 rfl (lv_at hl 1 rfl) ?_
      refine sa_40 hc hP hS (nv_m hon3 (by decide) Nat.zero_lt_one) (mroom hok.nv hok.nv40 c_25 (by decide)) dX10_addVoter_43 (fun H locs hP hS => ?_)
      refine lv_aload_n hx hb dX10_addVoter_44 rfl (lv_at hl 0 rfl) ?_
      refine lv_dup hx hb dX10_addVoter_45 rfl ?_
      refine g10_95 hc hP (nv_m hon3 (by decide) Nat.zero_lt_one) dX10_addVoter_46 ?_
      refine lv_iconst (v := 1) hx hb dX10_addVoter_49 (by decide) ?_
      refine lv_iadd hx hb dX10_addVoter_50 ?_
      refine p10_95 hc hP hS (nv_m hon3 (by decide) Nat.zero_lt_one) dX10_addVoter_51 (fun H locs hP hS => ?_)
      refine lv_aload_n hx hb dX10_addVoter_54 rfl (lv_at hl 0 rfl) ?_
      refine g10_95 hc hP (nv_m hon3 (by decide) Nat.zero_lt_one) dX10_addVoter_55 ?_
      refine lv_iconst (v := 1) hx hb dX10_addVoter_58 (by decide) ?_
      refine lv_isub hx hb dX10_addVoter_59 ?_
      exact ne_i hc hP hS hr dX10_addVoter_60 (mR_of ((mG_t (by clear hP hS hl hc hx hb hr hT; simp_all [-Int32.not_le, -Int32.not_lt, i32_lt, nb_t, nb_f, nb_z, nb_o])).trans ((mG_t (by clear hP hS hl hc hx hb hr hT; simp_all [-Int32.not_le, -Int32.not_lt, i32_lt, nb_t, nb_f, nb_z, nb_o])).trans (rfl))))
    · refine lv_aload_n hx hb dX10_addVoter_28 rfl (lv_at hl 0 rfl) ?_
      refine lv_iconst (v := 2) hx hb dX10_addVoter_29 (by decide) ?_
      refine nc_Vi (c_X10_fails hI hon3) hc hP hS hl.1 gd10_104 (nrecv (q := (RX10, TX10, 31)) hc (npic_eta hP) (nv_m hon3 (by decide) Nat.zero_lt_one) rfl rfl) ⟨rfl, rfl⟩ nok_X10_fails rfl ⟨Nat.le_of_ble_eq_true rfl, Nat.le_of_ble_eq_true rfl⟩ ⟨Nat.le_of_ble_eq_true rfl, Nat.le_of_ble_eq_true rfl⟩ dX10_addVoter_30 rfl (Nat.le_of_ble_eq_true rfl) (fun r X1 H locs hp hP hS => ?_)
      obtain ⟨hr9, hX9⟩ := hp
      rw [hX9] at hP
      subst hr9
      exact ne_i hc hP hS hr dX10_addVoter_33 (mR_of ((mG_t (by clear hP hS hl hc hx hb hr hT; simp_all [-Int32.not_le, -Int32.not_lt, i32_lt, nb_t, nb_f, nb_z, nb_o])).trans (mG_f (by clear hP hS hl hc hx hb hr hT; simp_all [-Int32.not_le, -Int32.not_lt, i32_lt, nb_t, nb_f, nb_z, nb_o]))))
  · refine lv_aload_n hx hb dX10_addVoter_13 rfl (lv_at hl 0 rfl) ?_
    refine lv_iconst (v := 1) hx hb dX10_addVoter_14 (by decide) ?_
    refine nc_Vi (c_X10_fails hI hon3) hc hP hS hl.1 gd10_104 (nrecv (q := (RX10, TX10, 31)) hc (npic_eta hP) (nv_m hon3 (by decide) Nat.zero_lt_one) rfl rfl) ⟨rfl, rfl⟩ nok_X10_fails rfl ⟨Nat.le_of_ble_eq_true rfl, Nat.le_of_ble_eq_true rfl⟩ ⟨Nat.le_of_ble_eq_true rfl, Nat.le_of_ble_eq_true rfl⟩ dX10_addVoter_15 rfl (Nat.le_of_ble_eq_true rfl) (fun r X1 H locs hp hP hS => ?_)
    obtain ⟨hr9, hX9⟩ := hp
    rw [hX9] at hP
    subst hr9
    exact ne_i hc hP hS hr dX10_addVoter_18 (mR_of (mG_f (by clear hP hS hl hc hx hb hr hT; simp_all [-Int32.not_le, -Int32.not_lt, i32_lt, nb_t, nb_f, nb_z, nb_o])))
set_option maxHeartbeats 4000000 in
set_option maxRecDepth 100000 in
theorem c_X10_move (hI : ninj ad on) (hon3 : on 3) (hT : nput M 30 0 0 0 = T) (hok : mOk T) {v a : Int32} : nMi l D dA ad on yX10_move cX10_move 4 (some .int) (nrm 9) [.ref (ad 3 30 0), .int v, .int a] (wdo X 3 M) (fun r X' => r = (mG (mIn v 0 (T 30 0 9 - 1) && mIn a 0 (T 30 0 5 - 1)) 1 T (0 : Int32) (mG (!decide (T 40 0 (nix v) = a)) 2 T (0 : Int32) ((T 40 0 (nix v), nput T 40 0 (nix v) a)))).1 ∧ X' = wdo X 3 (mG (mIn v 0 (T 30 0 9 - 1) && mIn a 0 (T 30 0 5 - 1)) 1 T (0 : Int32) (mG (!decide (T 40 0 (nix v) = a)) 2 T (0 : Int32) ((T 40 0 (nix v), nput T 40 0 (nix v) a)))).2) := by
  refine nM_of hI (by decide +kernel) (Nat.le_of_ble_eq_true rfl) ?_
  intro p e s m args below meth cd ls hc hr _ hP hl hS
  have hx := hc.1
  have hb := hc.2.1
  have hl : lv_has ls 4 [(0, .ref (ad 3 30 0)), (1, .int v), (2, .int a)] := hl
  refine lv_aload_n hx hb dX10_move_0 rfl (lv_at hl 0 rfl) ?_
  refine lv_iconst (v := 0) hx hb dX10_move_1 (by decide) ?_
  refine p10_85 hc hP hS (nv_m hon3 (by decide) Nat.zero_lt_one) dX10_move_2 (fun H locs hP hS => ?_)
  rw [hT] at hP
  refine lv_aload_n hx hb dX10_move_5 rfl (lv_at hl 0 rfl) ?_
  refine lv_iload_n hx hb dX10_move_6 rfl (lv_at hl 1 rfl) ?_
  refine nc_Vi (c_X10_isVoter hI hon3 ) hc hP hS hl.1 gd10_129 (nrecv (q := (RX10, TX10, 31)) hc (npic_eta hP) (nv_m hon3 (by decide) Nat.zero_lt_one) rfl rfl) ⟨rfl, rfl⟩ nok_X10_isVoter rfl ⟨Nat.le_of_ble_eq_true rfl, Nat.le_of_ble_eq_true rfl⟩ ⟨Nat.le_of_ble_eq_true rfl, Nat.le_of_ble_eq_true rfl⟩ dX10_move_7 rfl (Nat.le_of_ble_eq_true rfl) (fun r X1 H locs hp hP hS => ?_)
  obtain ⟨hr9, hX9⟩ := hp
  rw [hX9] at hP
  subst hr9
  refine lv_if_eq (tgt := 21) hx hb dX10_move_10 (by decide) (fun c_10 => ?_) (fun c_10 => ?_)
  · refine lv_aload_n hx hb dX10_move_21 rfl (lv_at hl 0 rfl) ?_
    refine lv_iconst (v := 1) hx hb dX10_move_22 (by decide) ?_
    refine nc_Vi (c_X10_fails hI hon3) hc hP hS hl.1 gd10_104 (nrecv (q := (RX10, TX10, 31)) hc (npic_eta hP) (nv_m hon3 (by decide) Nat.zero_lt_one) rfl rfl) ⟨rfl, rfl⟩ nok_X10_fails rfl ⟨Nat.le_of_ble_eq_true rfl, Nat.le_of_ble_eq_true rfl⟩ ⟨Nat.le_of_ble_eq_true rfl, Nat.le_of_ble_eq_true rfl⟩ dX10_move_23 rfl (Nat.le_of_ble_eq_true rfl) (fun r X1 H locs hp hP hS => ?_)
    obtain ⟨hr9, hX9⟩ := hp
    rw [hX9] at hP
    subst hr9
    exact ne_i hc hP hS hr dX10_move_26 (mR_of (mG_f (by clear hP hS hl hc hx hb hr hT; simp_all [-Int32.not_le, -Int32.not_lt, i32_lt, nb_t, nb_f, nb_z, nb_o])))
  · refine lv_aload_n hx hb dX10_move_13 rfl (lv_at hl 0 rfl) ?_
    refine lv_iload_n hx hb dX10_move_14 rfl (lv_at hl 2 rfl) ?_
    refine nc_Vi (c_X10_isArea hI hon3 ) hc hP hS hl.1 gd10_125 (nrecv (q := (RX10, TX10, 31)) hc (npic_eta hP) (nv_m hon3 (by decide) Nat.zero_lt_one) rfl rfl) ⟨rfl, rfl⟩ nok_X10_isArea rfl ⟨Nat.le_of_ble_eq_true rfl, Nat.le_of_ble_eq_true rfl⟩ ⟨Nat.le_of_ble_eq_true rfl, Nat.le_of_ble_eq_true rfl⟩ dX10_move_15 rfl (Nat.le_of_ble_eq_true rfl) (fun r X1 H locs hp hP hS => ?_)
    obtain ⟨hr9, hX9⟩ := hp
    rw [hX9] at hP
    subst hr9
    refine lv_if_ne (tgt := 27) hx hb dX10_move_18 (by decide) (fun c_18 => ?_) (fun c_18 => ?_)
    · refine lv_aload_n hx hb dX10_move_27 rfl (lv_at hl 0 rfl) ?_
      refine g10_30 hc hP (nv_m hon3 (by decide) Nat.zero_lt_one) dX10_move_28 ?_
      refine lv_iload_n hx hb dX10_move_31 rfl (lv_at hl 1 rfl) ?_
      refine la_40 hc hP (nv_m hon3 (by decide) Nat.zero_lt_one) (mvp (nb_nz.mp c_10) hok.nv hok.nv40 (by decide)) dX10_move_32 ?_
      refine lv_iload_n hx hb dX10_move_33 rfl (lv_at hl 2 rfl) ?_
      refine lv_icmp_ne (tgt := 43) hx hb dX10_move_34 (by decide) (fun c_34 => ?_) (fun c_34 => ?_)
      · refine lv_aload_n hx hb dX10_move_43 rfl (lv_at hl 0 rfl) ?_
        refine g10_30 hc hP (nv_m hon3 (by decide) Nat.zero_lt_one) dX10_move_44 ?_
        refine lv_iload_n hx hb dX10_move_47 rfl (lv_at hl 1 rfl) ?_
        refine la_40 hc hP (nv_m hon3 (by decide) Nat.zero_lt_one) (mvp (nb_nz.mp c_10) hok.nv hok.nv40 (by decide)) dX10_move_48 ?_
        refine lv_istore_n (lv' := [(3, .int _), (0, .ref _), (1, .int _), (2, .int _)]) hx hb dX10_move_49 rfl hl (by decide) rfl (fun ls hl => ?_)
        refine lv_aload_n hx hb dX10_move_50 rfl (lv_at hl 1 rfl) ?_
        refine g10_30 hc hP (nv_m hon3 (by decide) Nat.zero_lt_one) dX10_move_51 ?_
        refine lv_iload_n hx hb dX10_move_54 rfl (lv_at hl 2 rfl) ?_
        refine lv_iload_n hx hb dX10_move_55 rfl (lv_at hl 3 rfl) ?_
        refine sa_40 hc hP hS (nv_m hon3 (by decide) Nat.zero_lt_one) (mvp (nb_nz.mp c_10) hok.nv hok.nv40 (by decide)) dX10_move_56 (fun H locs hP hS => ?_)
        refine lv_iload_n hx hb dX10_move_57 rfl (lv_at hl 0 rfl) ?_
        exact ne_i hc hP hS hr dX10_move_58 (mR_of ((mG_t (by clear hP hS hl hc hx hb hr hT; simp_all [-Int32.not_le, -Int32.not_lt, i32_lt, nb_t, nb_f, nb_z, nb_o])).trans ((mG_t (by clear hP hS hl hc hx hb hr hT; simp_all [-Int32.not_le, -Int32.not_lt, i32_lt, nb_t, nb_f, nb_z, nb_o])).trans (rfl))))
      · refine lv_aload_n hx hb dX10_move_37 rfl (lv_at hl 0 rfl) ?_
        refine lv_iconst (v := 2) hx hb dX10_move_38 (by decide) ?_
        refine nc_Vi (c_X10_fails hI hon3) hc hP hS hl.1 gd10_104 (nrecv (q := (RX10, TX10, 31)) hc (npic_eta hP) (nv_m hon3 (by decide) Nat.zero_lt_one) rfl rfl) ⟨rfl, rfl⟩ nok_X10_fails rfl ⟨Nat.le_of_ble_eq_true rfl, Nat.le_of_ble_eq_true rfl⟩ ⟨Nat.le_of_ble_eq_true rfl, Nat.le_of_ble_eq_true rfl⟩ dX10_move_39 rfl (Nat.le_of_ble_eq_true rfl) (fun r X1 H locs hp hP hS => ?_)
        obtain ⟨hr9, hX9⟩ := hp
        rw [hX9] at hP
        subst hr9
        exact ne_i hc hP hS hr dX10_move_42 (mR_of ((mG_t (by clear hP hS hl hc hx hb hr hT; simp_all [-Int32.not_le, -Int32.not_lt, i32_lt, nb_t, nb_f, nb_z, nb_o])).trans (mG_f (by clear hP hS hl hc hx hb hr hT; simp_all [-Int32.not_le, -Int32.not_lt, i32_lt, nb_t, nb_f, nb_z, nb_o]))))
    · refine lv_aload_n hx hb dX10_move_21 rfl (lv_at hl 0 rfl) ?_
      refine lv_iconst (v := 1) hx hb dX10_move_22 (by decide) ?_
      refine nc_Vi (c_X10_fails hI hon3) hc hP hS hl.1 gd10_104 (nrecv (q := (RX10, TX10, 31)) hc (npic_eta hP) (nv_m hon3 (by decide) Nat.zero_lt_one) rfl rfl) ⟨rfl, rfl⟩ nok_X10_fails rfl ⟨Nat.le_of_ble_eq_true rfl, Nat.le_of_ble_eq_true rfl⟩ ⟨Nat.le_of_ble_eq_true rfl, Nat.le_of_ble_eq_true rfl⟩ dX10_move_23 rfl (Nat.le_of_ble_eq_true rfl) (fun r X1 H locs hp hP hS => ?_)
      obtain ⟨hr9, hX9⟩ := hp
      rw [hX9] at hP
      subst hr9
      exact ne_i hc hP hS hr dX10_move_26 (mR_of (mG_f (by clear hP hS hl hc hx hb hr hT; simp_all [-Int32.not_le, -Int32.not_lt, i32_lt, nb_t, nb_f, nb_z, nb_o])))
set_option maxHeartbeats 4000000 in
set_option maxRecDepth 100000 in
theorem c_X10_areaOf (hI : ninj ad on) (hon3 : on 3) (hT : nput M 30 0 0 0 = T) (hok : mOk T) {v : Int32} : nMi l D dA ad on yX10_areaOf cX10_areaOf 2 (some .int) (nrm 9) [.ref (ad 3 30 0), .int v] (wdo X 3 M) (fun r X' => r = (mG (mIn v 0 (T 30 0 9 - 1)) 1 T (0 : Int32) ((T 40 0 (nix v), T))).1 ∧ X' = wdo X 3 (mG (mIn v 0 (T 30 0 9 - 1)) 1 T (0 : Int32) ((T 40 0 (nix v), T))).2) := by
  refine nM_of hI (by decide +kernel) (Nat.le_of_ble_eq_true rfl) ?_
  intro p e s m args below meth cd ls hc hr _ hP hl hS
  have hx := hc.1
  have hb := hc.2.1
  have hl : lv_has ls 2 [(0, .ref (ad 3 30 0)), (1, .int v)] := hl
  refine lv_aload_n hx hb dX10_areaOf_0 rfl (lv_at hl 0 rfl) ?_
  refine lv_iconst (v := 0) hx hb dX10_areaOf_1 (by decide) ?_
  refine p10_85 hc hP hS (nv_m hon3 (by decide) Nat.zero_lt_one) dX10_areaOf_2 (fun H locs hP hS => ?_)
  rw [hT] at hP
  refine lv_aload_n hx hb dX10_areaOf_5 rfl (lv_at hl 0 rfl) ?_
  refine lv_iload_n hx hb dX10_areaOf_6 rfl (lv_at hl 1 rfl) ?_
  refine nc_Vi (c_X10_isVoter hI hon3 ) hc hP hS hl.1 gd10_129 (nrecv (q := (RX10, TX10, 31)) hc (npic_eta hP) (nv_m hon3 (by decide) Nat.zero_lt_one) rfl rfl) ⟨rfl, rfl⟩ nok_X10_isVoter rfl ⟨Nat.le_of_ble_eq_true rfl, Nat.le_of_ble_eq_true rfl⟩ ⟨Nat.le_of_ble_eq_true rfl, Nat.le_of_ble_eq_true rfl⟩ dX10_areaOf_7 rfl (Nat.le_of_ble_eq_true rfl) (fun r X1 H locs hp hP hS => ?_)
  obtain ⟨hr9, hX9⟩ := hp
  rw [hX9] at hP
  subst hr9
  refine lv_if_eq (tgt := 22) hx hb dX10_areaOf_10 (by decide) (fun c_10 => ?_) (fun c_10 => ?_)
  · refine lv_aload_n hx hb dX10_areaOf_22 rfl (lv_at hl 0 rfl) ?_
    refine lv_iconst (v := 1) hx hb dX10_areaOf_23 (by decide) ?_
    refine nc_Vi (c_X10_fails hI hon3) hc hP hS hl.1 gd10_104 (nrecv (q := (RX10, TX10, 31)) hc (npic_eta hP) (nv_m hon3 (by decide) Nat.zero_lt_one) rfl rfl) ⟨rfl, rfl⟩ nok_X10_fails rfl ⟨Nat.le_of_ble_eq_true rfl, Nat.le_of_ble_eq_true rfl⟩ ⟨Nat.le_of_ble_eq_true rfl, Nat.le_of_ble_eq_true rfl⟩ dX10_areaOf_24 rfl (Nat.le_of_ble_eq_true rfl) (fun r X1 H locs hp hP hS => ?_)
    obtain ⟨hr9, hX9⟩ := hp
    rw [hX9] at hP
    subst hr9
    exact ne_i hc hP hS hr dX10_areaOf_27 (mR_of (mG_f (by clear hP hS hl hc hx hb hr hT; simp_all [-Int32.not_le, -Int32.not_lt, i32_lt, nb_t, nb_f, nb_z, nb_o])))
  · refine lv_aload_n hx hb dX10_areaOf_13 rfl (lv_at hl 0 rfl) ?_
    refine g10_30 hc hP (nv_m hon3 (by decide) Nat.zero_lt_one) dX10_areaOf_14 ?_
    refine lv_iload_n hx hb dX10_areaOf_17 rfl (lv_at hl 1 rfl) ?_
    refine la_40 hc hP (nv_m hon3 (by decide) Nat.zero_lt_one) (mvp (nb_nz.mp c_10) hok.nv hok.nv40 (by decide)) dX10_areaOf_18 ?_
    refine lv_goto (tgt := 27) hx hb dX10_areaOf_19 (by decide) ?_
    exact ne_i hc hP hS hr dX10_areaOf_27 (mR_of ((mG_t (by clear hP hS hl hc hx hb hr hT; simp_all [-Int32.not_le, -Int32.not_lt, i32_lt, nb_t, nb_f, nb_z, nb_o])).trans (rfl)))
set_option maxHeartbeats 4000000 in
set_option maxRecDepth 100000 in
theorem c_X10_isOnRoll (hI : ninj ad on) (hon3 : on 3) (hT : nput M 30 0 0 0 = T) (hok : mOk T) {v : Int32} : nMi l D dA ad on yX10_isOnRoll cX10_isOnRoll 2 (some .boolean) (nrm 9) [.ref (ad 3 30 0), .int v] (wdo X 3 M) (fun r X' => r = (mG (mIn v 0 (T 30 0 9 - 1)) 1 T (0 : Int32) ((nb (decide (T 41 0 (nix v) = 0)), T))).1 ∧ X' = wdo X 3 (mG (mIn v 0 (T 30 0 9 - 1)) 1 T (0 : Int32) ((nb (decide (T 41 0 (nix v) = 0)), T))).2) := by
  refine nM_of hI (by decide +kernel) (Nat.le_of_ble_eq_true rfl) ?_
  intro p e s m args below meth cd ls hc hr _ hP hl hS
  have hx := hc.1
  have hb := hc.2.1
  have hl : lv_has ls 2 [(0, .ref (ad 3 30 0)), (1, .int v)] := hl
  refine lv_aload_n hx hb dX10_isOnRoll_0 rfl (lv_at hl 0 rfl) ?_
  refine lv_iconst (v := 0) hx hb dX10_isOnRoll_1 (by decide) ?_
  refine p10_85 hc hP hS (nv_m hon3 (by decide) Nat.zero_lt_one) dX10_isOnRoll_2 (fun H locs hP hS => ?_)
  rw [hT] at hP
  refine lv_aload_n hx hb dX10_isOnRoll_5 rfl (lv_at hl 0 rfl) ?_
  refine lv_iload_n hx hb dX10_isOnRoll_6 rfl (lv_at hl 1 rfl) ?_
  refine nc_Vi (c_X10_isVoter hI hon3 ) hc hP hS hl.1 gd10_129 (nrecv (q := (RX10, TX10, 31)) hc (npic_eta hP) (nv_m hon3 (by decide) Nat.zero_lt_one) rfl rfl) ⟨rfl, rfl⟩ nok_X10_isVoter rfl ⟨Nat.le_of_ble_eq_true rfl, Nat.le_of_ble_eq_true rfl⟩ ⟨Nat.le_of_ble_eq_true rfl, Nat.le_of_ble_eq_true rfl⟩ dX10_isOnRoll_7 rfl (Nat.le_of_ble_eq_true rfl) (fun r X1 H locs hp hP hS => ?_)
  obtain ⟨hr9, hX9⟩ := hp
  rw [hX9] at hP
  subst hr9
  refine lv_if_ne (tgt := 20) hx hb dX10_isOnRoll_10 (by decide) (fun c_10 => ?_) (fun c_10 => ?_)
  · refine lv_aload_n hx hb dX10_isOnRoll_20 rfl (lv_at hl 0 rfl) ?_
    refine g10_33 hc hP (nv_m hon3 (by decide) Nat.zero_lt_one) dX10_isOnRoll_21 ?_
    refine lv_iload_n hx hb dX10_isOnRoll_24 rfl (lv_at hl 1 rfl) ?_
    refine la_41 hc hP (nv_m hon3 (by decide) Nat.zero_lt_one) (mvp (nb_nz.mp c_10) hok.nv hok.nv40 (by decide)) dX10_isOnRoll_25 ?_
    refine lv_if_ne (tgt := 33) hx hb dX10_isOnRoll_26 (by decide) (fun c_26 => ?_) (fun c_26 => ?_)
    · refine lv_iconst (v := 0) hx hb dX10_isOnRoll_33 (by decide) ?_
      exact ne_z hc hP hS hr rfl dX10_isOnRoll_34 (mR_of ((mG_t (by clear hP hS hl hc hx hb hr hT; simp_all [-Int32.not_le, -Int32.not_lt, i32_lt, nb_t, nb_f, nb_z, nb_o])).trans ((by clear hP hS hl hc hx hb hr; simp_all [nb_t, nb_f]))))
    · refine lv_iconst (v := 1) hx hb dX10_isOnRoll_29 (by decide) ?_
      refine lv_goto (tgt := 34) hx hb dX10_isOnRoll_30 (by decide) ?_
      exact ne_z hc hP hS hr rfl dX10_isOnRoll_34 (mR_of ((mG_t (by clear hP hS hl hc hx hb hr hT; simp_all [-Int32.not_le, -Int32.not_lt, i32_lt, nb_t, nb_f, nb_z, nb_o])).trans ((by clear hP hS hl hc hx hb hr; simp_all [nb_t, nb_f]))))
  · refine lv_aload_n hx hb dX10_isOnRoll_13 rfl (lv_at hl 0 rfl) ?_
    refine lv_iconst (v := 1) hx hb dX10_isOnRoll_14 (by decide) ?_
    refine p10_85 hc hP hS (nv_m hon3 (by decide) Nat.zero_lt_one) dX10_isOnRoll_15 (fun H locs hP hS => ?_)
    refine lv_iconst (v := 0) hx hb dX10_isOnRoll_18 (by decide) ?_
    exact ne_z hc hP hS hr rfl dX10_isOnRoll_19 (mR_of (mG_f (by clear hP hS hl hc hx hb hr hT; simp_all [-Int32.not_le, -Int32.not_lt, i32_lt, nb_t, nb_f, nb_z, nb_o])))
set_option maxHeartbeats 4000000 in
set_option maxRecDepth 100000 in
theorem c_X10_file (hI : ninj ad on) (hon3 : on 3) (hT : nput M 30 0 0 0 = T) (hok : mOk T) {a q n1 n2 n3 n4 : Int32} : nMi l D dA ad on yX10_file cX10_file 7 (some .int) (nrm 9) [.ref (ad 3 30 0), .int a, .int q, .int n1, .int n2, .int n3, .int n4] (wdo X 3 M) (fun r X' => r = (mG (mIn a 0 (T 30 0 5 - 1)) 1 T (0 : Int32) (mG (mIn q (-1) 7 && mSur n1 n2 n3 n4) 2 T (0 : Int32) (mG (mOpen T && !decide (T 30 0 12 = 12)) 3 T (0 : Int32) ((T 30 0 12 + 1 - 1, nput (mName (nput (nput T 43 0 (nix (T 30 0 12)) a) 44 0 (nix (T 30 0 12)) q) (T 30 0 12) n1 n2 n3 n4) 30 0 12 (T 30 0 12 + 1)))))).1 ∧ X' = wdo X 3 (mG (mIn a 0 (T 30 0 5 - 1)) 1 T (0 : Int32) (mG (mIn q (-1) 7 && mSur n1 n2 n3 n4) 2 T (0 : Int32) (mG (mOpen T && !decide (T 30 0 12 = 12)) 3 T (0 : Int32) ((T 30 0 12 + 1 - 1, nput (mName (nput (nput T 43 0 (nix (T 30 0 12)) a) 44 0 (nix (T 30 0 12)) q) (T 30 0 12) n1 n2 n3 n4) 30 0 12 (T 30 0 12 + 1)))))).2) := by
  refine nM_of hI (by decide +kernel) (Nat.le_of_ble_eq_true rfl) ?_
  intro p e s m args below meth cd ls hc hr _ hP hl hS
  have hx := hc.1
  have hb := hc.2.1
  have hl : lv_has ls 7 [(0, .ref (ad 3 30 0)), (1, .int a), (2, .int q), (3, .int n1), (4, .int n2), (5, .int n3), (6, .int n4)] := hl
  refine lv_aload_n hx hb dX10_file_0 rfl (lv_at hl 0 rfl) ?_
  refine lv_iconst (v := 0) hx hb dX10_file_1 (by decide) ?_
  refine p10_85 hc hP hS (nv_m hon3 (by decide) Nat.zero_lt_one) dX10_file_2 (fun H locs hP hS => ?_)
  rw [hT] at hP
  refine lv_aload_n hx hb dX10_file_5 rfl (lv_at hl 0 rfl) ?_
  refine lv_iload_n hx hb dX10_file_6 rfl (lv_at hl 1 rfl) ?_
  refine nc_Vi (c_X10_isArea hI hon3 ) hc hP hS hl.1 gd10_125 (nrecv (q := (RX10, TX10, 31)) hc (npic_eta hP) (nv_m hon3 (by decide) Nat.zero_lt_one) rfl rfl) ⟨rfl, rfl⟩ nok_X10_isArea rfl ⟨Nat.le_of_ble_eq_true rfl, Nat.le_of_ble_eq_true rfl⟩ ⟨Nat.le_of_ble_eq_true rfl, Nat.le_of_ble_eq_true rfl⟩ dX10_file_7 rfl (Nat.le_of_ble_eq_true rfl) (fun r X1 H locs hp hP hS => ?_)
  obtain ⟨hr9, hX9⟩ := hp
  rw [hX9] at hP
  subst hr9
  refine lv_if_ne (tgt := 19) hx hb dX10_file_10 (by decide) (fun c_10 => ?_) (fun c_10 => ?_)
  · refine lv_iload_n hx hb dX10_file_19 rfl (lv_at hl 2 rfl) ?_
    refine lv_iconst (v := (-1)) hx hb dX10_file_20 (by decide) ?_
    refine lv_bipush (v := 7) hx hb dX10_file_21 (by decide) ?_
    refine nc_Si (c_X10_isIn hI) hc hP hS hl.1 gd10_91 ⟨rfl, rfl⟩ nok_X10_isIn rfl ⟨Nat.le_of_ble_eq_true rfl, Nat.le_of_ble_eq_true rfl⟩ ⟨Nat.le_of_ble_eq_true rfl, Nat.le_of_ble_eq_true rfl⟩ dX10_file_23 rfl (Nat.le_of_ble_eq_true rfl) (fun r X1 H locs hp hP hS => ?_)
    obtain ⟨hr9, hX9⟩ := hp
    rw [hX9] at hP
    subst hr9
    refine lv_if_eq (tgt := 42) hx hb dX10_file_26 (by decide) (fun c_26 => ?_) (fun c_26 => ?_)
    · refine lv_aload_n hx hb dX10_file_42 rfl (lv_at hl 0 rfl) ?_
      refine lv_iconst (v := 2) hx hb dX10_file_43 (by decide) ?_
      refine nc_Vi (c_X10_fails hI hon3) hc hP hS hl.1 gd10_104 (nrecv (q := (RX10, TX10, 31)) hc (npic_eta hP) (nv_m hon3 (by decide) Nat.zero_lt_one) rfl rfl) ⟨rfl, rfl⟩ nok_X10_fails rfl ⟨Nat.le_of_ble_eq_true rfl, Nat.le_of_ble_eq_true rfl⟩ ⟨Nat.le_of_ble_eq_true rfl, Nat.le_of_ble_eq_true rfl⟩ dX10_file_44 rfl (Nat.le_of_ble_eq_true rfl) (fun r X1 H locs hp hP hS => ?_)
      obtain ⟨hr9, hX9⟩ := hp
      rw [hX9] at hP
      subst hr9
      exact ne_i hc hP hS hr dX10_file_47 (mR_of ((mG_t (by clear hP hS hl hc hx hb hr hT; simp_all [-Int32.not_le, -Int32.not_lt, i32_lt, nb_t, nb_f, nb_z, nb_o])).trans (mG_f (by clear hP hS hl hc hx hb hr hT; simp_all [-Int32.not_le, -Int32.not_lt, i32_lt, nb_t, nb_f, nb_z, nb_o]))))
    · refine lv_iload_n hx hb dX10_file_29 rfl (lv_at hl 3 rfl) ?_
      refine lv_iload hx hb dX10_file_30 (lv_at hl 4 rfl) ?_
      refine lv_iload hx hb dX10_file_32 (lv_at hl 5 rfl) ?_
      refine lv_iload hx hb dX10_file_34 (lv_at hl 6 rfl) ?_
      refine nc_Si (c_X10_isSurname hI) hc hP hS hl.1 gd10_144 ⟨rfl, rfl⟩ nok_X10_isSurname rfl ⟨Nat.le_of_ble_eq_true rfl, Nat.le_of_ble_eq_true rfl⟩ ⟨Nat.le_of_ble_eq_true rfl, Nat.le_of_ble_eq_true rfl⟩ dX10_file_36 rfl (Nat.le_of_ble_eq_true rfl) (fun r X1 H locs hp hP hS => ?_)
      obtain ⟨hr9, hX9⟩ := hp
      rw [hX9] at hP
      subst hr9
      refine lv_if_ne (tgt := 48) hx hb dX10_file_39 (by decide) (fun c_39 => ?_) (fun c_39 => ?_)
      · refine lv_aload_n hx hb dX10_file_48 rfl (lv_at hl 0 rfl) ?_
        refine nc_Vi (c_X10_open hI hon3 ) hc hP hS hl.1 gd10_108 (nrecv (q := (RX10, TX10, 31)) hc (npic_eta hP) (nv_m hon3 (by decide) Nat.zero_lt_one) rfl rfl) ⟨rfl, rfl⟩ nok_X10_open rfl ⟨Nat.le_of_ble_eq_true rfl, Nat.le_of_ble_eq_true rfl⟩ ⟨Nat.le_of_ble_eq_true rfl, Nat.le_of_ble_eq_true rfl⟩ dX10_file_49 rfl (Nat.le_of_ble_eq_true rfl) (fun r X1 H locs hp hP hS => ?_)
        obtain ⟨hr9, hX9⟩ := hp
        rw [hX9] at hP
        subst hr9
        refine lv_if_eq (tgt := 64) hx hb dX10_file_52 (by decide) (fun c_52 => ?_) (fun c_52 => ?_)
        · refine lv_aload_n hx hb dX10_file_64 rfl (lv_at hl 0 rfl) ?_
          refine lv_iconst (v := 3) hx hb dX10_file_65 (by decide) ?_
          refine nc_Vi (c_X10_fails hI hon3) hc hP hS hl.1 gd10_104 (nrecv (q := (RX10, TX10, 31)) hc (npic_eta hP) (nv_m hon3 (by decide) Nat.zero_lt_one) rfl rfl) ⟨rfl, rfl⟩ nok_X10_fails rfl ⟨Nat.le_of_ble_eq_true rfl, Nat.le_of_ble_eq_true rfl⟩ ⟨Nat.le_of_ble_eq_true rfl, Nat.le_of_ble_eq_true rfl⟩ dX10_file_66 rfl (Nat.le_of_ble_eq_true rfl) (fun r X1 H locs hp hP hS => ?_)
          obtain ⟨hr9, hX9⟩ := hp
          rw [hX9] at hP
          subst hr9
          exact ne_i hc hP hS hr dX10_file_69 (mR_of ((mG_t (by clear hP hS hl hc hx hb hr hT; simp_all [-Int32.not_le, -Int32.not_lt, i32_lt, nb_t, nb_f, nb_z, nb_o])).trans ((mG_t (by clear hP hS hl hc hx hb hr hT; simp_all [-Int32.not_le, -Int32.not_lt, i32_lt, nb_t, nb_f, nb_z, nb_o])).trans (mG_f (by clear hP hS hl hc hx hb hr hT; simp_all [-Int32.not_le, -Int32.not_lt, i32_lt, nb_t, nb_f, nb_z, nb_o])))))
        · refine lv_aload_n hx hb dX10_file_55 rfl (lv_at hl 0 rfl) ?_
          refine g10_98 hc hP (nv_m hon3 (by decide) Nat.zero_lt_one) dX10_file_56 ?_
          refine lv_bipush (v := 12) hx hb dX10_file_59 (by decide) ?_
          refine lv_icmp_ne (tgt := 70) hx hb dX10_file_61 (by decide) (fun c_61 => ?_) (fun c_61 => ?_)
          · refine lv_aload_n hx hb dX10_file_70 rfl (lv_at hl 0 rfl) ?_
            refine g10_36 hc hP (nv_m hon3 (by decide) Nat.zero_lt_one) dX10_file_71 ?_
            refine lv_aload_n hx hb dX10_file_74 rfl (lv_at hl 0 rfl) ?_
            refine g10_98 hc hP (nv_m hon3 (by decide) Nat.zero_lt_one) dX10_file_75 ?_
            refine lv_iload_n hx hb dX10_file_78 rfl (lv_at hl 1 rfl) ?_
            refine sa_43 hc hP hS (nv_m hon3 (by decide) Nat.zero_lt_one) (mroom hok.np hok.np12 c_61 (by decide)) dX10_file_79 (fun H locs hP hS => ?_)
            refine lv_aload_n hx hb dX10_file_80 rfl (lv_at hl 0 rfl) ?_
            refine g10_39 hc hP (nv_m hon3 (by decide) Nat.zero_lt_one) dX10_file_81 ?_
            refine lv_aload_n hx hb dX10_file_84 rfl (lv_at hl 0 rfl) ?_
            refine g10_98 hc hP (nv_m hon3 (by decide) Nat.zero_lt_one) dX10_file_85 ?_
            refine lv_iload_n hx hb dX10_file_88 rfl (lv_at hl 2 rfl) ?_
            refine sa_44 hc hP hS (nv_m hon3 (by decide) Nat.zero_lt_one) (mroom hok.np hok.np12 c_61 (by decide)) dX10_file_89 (fun H locs hP hS => ?_)
            refine lv_aload_n hx hb dX10_file_90 rfl (lv_at hl 0 rfl) ?_
            refine lv_aload_n hx hb dX10_file_91 rfl (lv_at hl 0 rfl) ?_
            refine g10_98 hc hP (nv_m hon3 (by decide) Nat.zero_lt_one) dX10_file_92 ?_
            refine lv_iload_n hx hb dX10_file_95 rfl (lv_at hl 3 rfl) ?_
            refine lv_iload hx hb dX10_file_96 (lv_at hl 4 rfl) ?_
            refine lv_iload hx hb dX10_file_98 (lv_at hl 5 rfl) ?_
            refine lv_iload hx hb dX10_file_100 (lv_at hl 6 rfl) ?_
            refine nc_Vv (c_X10_writeName hI hon3 (mroom hok.np hok.np12 c_61 (by decide))) hc hP hS hl.1 gd10_148 (nrecv (q := (RX10, TX10, 31)) hc (npic_eta hP) (nv_m hon3 (by decide) Nat.zero_lt_one) rfl rfl) ⟨rfl, rfl⟩ nok_X10_writeName rfl ⟨Nat.le_of_ble_eq_true rfl, Nat.le_of_ble_eq_true rfl⟩ ⟨Nat.le_of_ble_eq_true rfl, Nat.le_of_ble_eq_true rfl⟩ dX10_file_102 rfl (Nat.le_of_ble_eq_true rfl) (fun X1 H locs hp hP hS => ?_)
            rw [hp] at hP
            refine lv_aload_n hx hb dX10_file_105 rfl (lv_at hl 0 rfl) ?_
            refine lv_dup hx hb dX10_file_106 rfl ?_
            refine g10_98 hc hP (nv_m hon3 (by decide) Nat.zero_lt_one) dX10_file_107 ?_
            refine lv_iconst (v := 1) hx hb dX10_file_110 (by decide) ?_
            refine lv_iadd hx hb dX10_file_111 ?_
            refine p10_98 hc hP hS (nv_m hon3 (by decide) Nat.zero_lt_one) dX10_file_112 (fun H locs hP hS => ?_)
            refine lv_aload_n hx hb dX10_file_115 rfl (lv_at hl 0 rfl) ?_
            refine g10_98 hc hP (nv_m hon3 (by decide) Nat.zero_lt_one) dX10_file_116 ?_
            refine lv_iconst (v := 1) hx hb dX10_file_119 (by decide) ?_
            refine lv_isub hx hb dX10_file_120 ?_
            exact ne_i hc hP hS hr dX10_file_121 (mR_of ((mG_t (by clear hP hS hl hc hx hb hr hT; simp_all [-Int32.not_le, -Int32.not_lt, i32_lt, nb_t, nb_f, nb_z, nb_o])).trans ((mG_t (by clear hP hS hl hc hx hb hr hT; simp_all [-Int32.not_le, -Int32.not_lt, i32_lt, nb_t, nb_f, nb_z, nb_o])).trans ((mG_t (by clear hP hS hl hc hx hb hr hT; simp_all [-Int32.not_le, -Int32.not_lt, i32_lt, nb_t, nb_f, nb_z, nb_o])).trans (rfl)))))
          · refine lv_aload_n hx hb dX10_file_64 rfl (lv_at hl 0 rfl) ?_
            refine lv_iconst (v := 3) hx hb dX10_file_65 (by decide) ?_
            refine nc_Vi (c_X10_fails hI hon3) hc hP hS hl.1 gd10_104 (nrecv (q := (RX10, TX10, 31)) hc (npic_eta hP) (nv_m hon3 (by decide) Nat.zero_lt_one) rfl rfl) ⟨rfl, rfl⟩ nok_X10_fails rfl ⟨Nat.le_of_ble_eq_true rfl, Nat.le_of_ble_eq_true rfl⟩ ⟨Nat.le_of_ble_eq_true rfl, Nat.le_of_ble_eq_true rfl⟩ dX10_file_66 rfl (Nat.le_of_ble_eq_true rfl) (fun r X1 H locs hp hP hS => ?_)
            obtain ⟨hr9, hX9⟩ := hp
            rw [hX9] at hP
            subst hr9
            exact ne_i hc hP hS hr dX10_file_69 (mR_of ((mG_t (by clear hP hS hl hc hx hb hr hT; simp_all [-Int32.not_le, -Int32.not_lt, i32_lt, nb_t, nb_f, nb_z, nb_o])).trans ((mG_t (by clear hP hS hl hc hx hb hr hT; simp_all [-Int32.not_le, -Int32.not_lt, i32_lt, nb_t, nb_f, nb_z, nb_o])).trans (mG_f (by clear hP hS hl hc hx hb hr hT; simp_all [-Int32.not_le, -Int32.not_lt, i32_lt, nb_t, nb_f, nb_z, nb_o])))))
      · refine lv_aload_n hx hb dX10_file_42 rfl (lv_at hl 0 rfl) ?_
        refine lv_iconst (v := 2) hx hb dX10_file_43 (by decide) ?_
        refine nc_Vi (c_X10_fails hI hon3) hc hP hS hl.1 gd10_104 (nrecv (q := (RX10, TX10, 31)) hc (npic_eta hP) (nv_m hon3 (by decide) Nat.zero_lt_one) rfl rfl) ⟨rfl, rfl⟩ nok_X10_fails rfl ⟨Nat.le_of_ble_eq_true rfl, Nat.le_of_ble_eq_true rfl⟩ ⟨Nat.le_of_ble_eq_true rfl, Nat.le_of_ble_eq_true rfl⟩ dX10_file_44 rfl (Nat.le_of_ble_eq_true rfl) (fun r X1 H locs hp hP hS => ?_)
        obtain ⟨hr9, hX9⟩ := hp
        rw [hX9] at hP
        subst hr9
        exact ne_i hc hP hS hr dX10_file_47 (mR_of ((mG_t (by clear hP hS hl hc hx hb hr hT; simp_all [-Int32.not_le, -Int32.not_lt, i32_lt, nb_t, nb_f, nb_z, nb_o])).trans (mG_f (by clear hP hS hl hc hx hb hr hT; simp_all [-Int32.not_le, -Int32.not_lt, i32_lt, nb_t, nb_f, nb_z, nb_o]))))
  · refine lv_aload_n hx hb dX10_file_13 rfl (lv_at hl 0 rfl) ?_
    refine lv_iconst (v := 1) hx hb dX10_file_14 (by decide) ?_
    refine nc_Vi (c_X10_fails hI hon3) hc hP hS hl.1 gd10_104 (nrecv (q := (RX10, TX10, 31)) hc (npic_eta hP) (nv_m hon3 (by decide) Nat.zero_lt_one) rfl rfl) ⟨rfl, rfl⟩ nok_X10_fails rfl ⟨Nat.le_of_ble_eq_true rfl, Nat.le_of_ble_eq_true rfl⟩ ⟨Nat.le_of_ble_eq_true rfl, Nat.le_of_ble_eq_true rfl⟩ dX10_file_15 rfl (Nat.le_of_ble_eq_true rfl) (fun r X1 H locs hp hP hS => ?_)
    obtain ⟨hr9, hX9⟩ := hp
    rw [hX9] at hP
    subst hr9
    exact ne_i hc hP hS hr dX10_file_18 (mR_of (mG_f (by clear hP hS hl hc hx hb hr hT; simp_all [-Int32.not_le, -Int32.not_lt, i32_lt, nb_t, nb_f, nb_z, nb_o])))
set_option maxHeartbeats 4000000 in
set_option maxRecDepth 100000 in
theorem c_X10_sign (hI : ninj ad on) (hon3 : on 3) (hT : nput M 30 0 0 0 = T) (hok : mOk T) {x v : Int32} : nMi l D dA ad on yX10_sign cX10_sign 3 (some .int) (nrm 9) [.ref (ad 3 30 0), .int x, .int v] (wdo X 3 M) (fun r X' => r = (mG (mIn x 0 (T 30 0 12 - 1) && mIn v 0 (T 30 0 9 - 1)) 1 T (0 : Int32) (mG (mOpen T && decide (T 46 0 (nix x) ≤ 0) && !decide (T 30 0 22 = 150)) 2 T (0 : Int32) ((T 30 0 22 + 1 - 1, nput (nput (nput (nput T 53 0 (nix (T 30 0 22)) x) 54 0 (nix (T 30 0 22)) v) 55 0 (nix (T 30 0 22)) (nb (mLoc T x v))) 30 0 22 (T 30 0 22 + 1))))).1 ∧ X' = wdo X 3 (mG (mIn x 0 (T 30 0 12 - 1) && mIn v 0 (T 30 0 9 - 1)) 1 T (0 : Int32) (mG (mOpen T && decide (T 46 0 (nix x) ≤ 0) && !decide (T 30 0 22 = 150)) 2 T (0 : Int32) ((T 30 0 22 + 1 - 1, nput (nput (nput (nput T 53 0 (nix (T 30 0 22)) x) 54 0 (nix (T 30 0 22)) v) 55 0 (nix (T 30 0 22)) (nb (mLoc T x v))) 30 0 22 (T 30 0 22 + 1))))).2) := by
  refine nM_of hI (by decide +kernel) (Nat.le_of_ble_eq_true rfl) ?_
  intro p e s m args below meth cd ls hc hr _ hP hl hS
  have hx := hc.1
  have hb := hc.2.1
  have hl : lv_has ls 3 [(0, .ref (ad 3 30 0)), (1, .int x), (2, .int v)] := hl
  refine lv_aload_n hx hb dX10_sign_0 rfl (lv_at hl 0 rfl) ?_
  refine lv_iconst (v := 0) hx hb dX10_sign_1 (by decide) ?_
  refine p10_85 hc hP hS (nv_m hon3 (by decide) Nat.zero_lt_one) dX10_sign_2 (fun H locs hP hS => ?_)
  rw [hT] at hP
  refine lv_aload_n hx hb dX10_sign_5 rfl (lv_at hl 0 rfl) ?_
  refine lv_iload_n hx hb dX10_sign_6 rfl (lv_at hl 1 rfl) ?_
  refine nc_Vi (c_X10_isPaper hI hon3 ) hc hP hS hl.1 gd10_152 (nrecv (q := (RX10, TX10, 31)) hc (npic_eta hP) (nv_m hon3 (by decide) Nat.zero_lt_one) rfl rfl) ⟨rfl, rfl⟩ nok_X10_isPaper rfl ⟨Nat.le_of_ble_eq_true rfl, Nat.le_of_ble_eq_true rfl⟩ ⟨Nat.le_of_ble_eq_true rfl, Nat.le_of_ble_eq_true rfl⟩ dX10_sign_7 rfl (Nat.le_of_ble_eq_true rfl) (fun r X1 H locs hp hP hS => ?_)
  obtain ⟨hr9, hX9⟩ := hp
  rw [hX9] at hP
  subst hr9
  refine lv_if_eq (tgt := 21) hx hb dX10_sign_10 (by decide) (fun c_10 => ?_) (fun c_10 => ?_)
  · refine lv_aload_n hx hb dX10_sign_21 rfl (lv_at hl 0 rfl) ?_
    refine lv_iconst (v := 1) hx hb dX10_sign_22 (by decide) ?_
    refine nc_Vi (c_X10_fails hI hon3) hc hP hS hl.1 gd10_104 (nrecv (q := (RX10, TX10, 31)) hc (npic_eta hP) (nv_m hon3 (by decide) Nat.zero_lt_one) rfl rfl) ⟨rfl, rfl⟩ nok_X10_fails rfl ⟨Nat.le_of_ble_eq_true rfl, Nat.le_of_ble_eq_true rfl⟩ ⟨Nat.le_of_ble_eq_true rfl, Nat.le_of_ble_eq_true rfl⟩ dX10_sign_23 rfl (Nat.le_of_ble_eq_true rfl) (fun r X1 H locs hp hP hS => ?_)
    obtain ⟨hr9, hX9⟩ := hp
    rw [hX9] at hP
    subst hr9
    exact ne_i hc hP hS hr dX10_sign_26 (mR_of (mG_f (by clear hP hS hl hc hx hb hr hT; simp_all [-Int32.not_le, -Int32.not_lt, i32_lt, nb_t, nb_f, nb_z, nb_o])))
  · refine lv_aload_n hx hb dX10_sign_13 rfl (lv_at hl 0 rfl) ?_
    refine lv_iload_n hx hb dX10_sign_14 rfl (lv_at hl 2 rfl) ?_
    refine nc_Vi (c_X10_isVoter hI hon3 ) hc hP hS hl.1 gd10_129 (nrecv (q := (RX10, TX10, 31)) hc (npic_eta hP) (nv_m hon3 (by decide) Nat.zero_lt_one) rfl rfl) ⟨rfl, rfl⟩ nok_X10_isVoter rfl ⟨Nat.le_of_ble_eq_true rfl, Nat.le_of_ble_eq_true rfl⟩ ⟨Nat.le_of_ble_eq_true rfl, Nat.le_of_ble_eq_true rfl⟩ dX10_sign_15 rfl (Nat.le_of_ble_eq_true rfl) (fun r X1 H locs hp hP hS => ?_)
    obtain ⟨hr9, hX9⟩ := hp
    rw [hX9] at hP
    subst hr9
    refine lv_if_ne (tgt := 27) hx hb dX10_sign_18 (by decide) (fun c_18 => ?_) (fun c_18 => ?_)
    · refine lv_aload_n hx hb dX10_sign_27 rfl (lv_at hl 0 rfl) ?_
      refine nc_Vi (c_X10_open hI hon3 ) hc hP hS hl.1 gd10_108 (nrecv (q := (RX10, TX10, 31)) hc (npic_eta hP) (nv_m hon3 (by decide) Nat.zero_lt_one) rfl rfl) ⟨rfl, rfl⟩ nok_X10_open rfl ⟨Nat.le_of_ble_eq_true rfl, Nat.le_of_ble_eq_true rfl⟩ ⟨Nat.le_of_ble_eq_true rfl, Nat.le_of_ble_eq_true rfl⟩ dX10_sign_28 rfl (Nat.le_of_ble_eq_true rfl) (fun r X1 H locs hp hP hS => ?_)
      obtain ⟨hr9, hX9⟩ := hp
      rw [hX9] at hP
      subst hr9
      refine lv_if_eq (tgt := 53) hx hb dX10_sign_31 (by decide) (fun c_31 => ?_) (fun c_31 => ?_)
      · refine lv_aload_n hx hb dX10_sign_53 rfl (lv_at hl 0 rfl) ?_
        refine lv_iconst (v := 2) hx hb dX10_sign_54 (by decide) ?_
        refine nc_Vi (c_X10_fails hI hon3) hc hP hS hl.1 gd10_104 (nrecv (q := (RX10, TX10, 31)) hc (npic_eta hP) (nv_m hon3 (by decide) Nat.zero_lt_one) rfl rfl) ⟨rfl, rfl⟩ nok_X10_fails rfl ⟨Nat.le_of_ble_eq_true rfl, Nat.le_of_ble_eq_true rfl⟩ ⟨Nat.le_of_ble_eq_true rfl, Nat.le_of_ble_eq_true rfl⟩ dX10_sign_55 rfl (Nat.le_of_ble_eq_true rfl) (fun r X1 H locs hp hP hS => ?_)
        obtain ⟨hr9, hX9⟩ := hp
        rw [hX9] at hP
        subst hr9
        exact ne_i hc hP hS hr dX10_sign_58 (mR_of ((mG_t (by clear hP hS hl hc hx hb hr hT; simp_all [-Int32.not_le, -Int32.not_lt, i32_lt, nb_t, nb_f, nb_z, nb_o])).trans (mG_f (by clear hP hS hl hc hx hb hr hT; simp_all [-Int32.not_le, -Int32.not_lt, i32_lt, nb_t, nb_f, nb_z, nb_o]))))
      · refine lv_aload_n hx hb dX10_sign_34 rfl (lv_at hl 0 rfl) ?_
        refine g10_46 hc hP (nv_m hon3 (by decide) Nat.zero_lt_one) dX10_sign_35 ?_
        refine lv_iload_n hx hb dX10_sign_38 rfl (lv_at hl 1 rfl) ?_
        refine la_46 hc hP (nv_m hon3 (by decide) Nat.zero_lt_one) (mvp (nb_nz.mp c_10) hok.np hok.np12 (by decide)) dX10_sign_39 ?_
        refine lv_if_gt (tgt := 53) hx hb dX10_sign_40 (by decide) (fun c_40 => ?_) (fun c_40 => ?_)
        · refine lv_aload_n hx hb dX10_sign_53 rfl (lv_at hl 0 rfl) ?_
          refine lv_iconst (v := 2) hx hb dX10_sign_54 (by decide) ?_
          refine nc_Vi (c_X10_fails hI hon3) hc hP hS hl.1 gd10_104 (nrecv (q := (RX10, TX10, 31)) hc (npic_eta hP) (nv_m hon3 (by decide) Nat.zero_lt_one) rfl rfl) ⟨rfl, rfl⟩ nok_X10_fails rfl ⟨Nat.le_of_ble_eq_true rfl, Nat.le_of_ble_eq_true rfl⟩ ⟨Nat.le_of_ble_eq_true rfl, Nat.le_of_ble_eq_true rfl⟩ dX10_sign_55 rfl (Nat.le_of_ble_eq_true rfl) (fun r X1 H locs hp hP hS => ?_)
          obtain ⟨hr9, hX9⟩ := hp
          rw [hX9] at hP
          subst hr9
          exact ne_i hc hP hS hr dX10_sign_58 (mR_of ((mG_t (by clear hP hS hl hc hx hb hr hT; simp_all [-Int32.not_le, -Int32.not_lt, i32_lt, nb_t, nb_f, nb_z, nb_o])).trans (mG_f (by clear hP hS hl hc hx hb hr hT; simp_all [-Int32.not_le, -Int32.not_lt, i32_lt, nb_t, nb_f, nb_z, nb_o]))))
        · refine lv_aload_n hx hb dX10_sign_43 rfl (lv_at hl 0 rfl) ?_
          refine g10_115 hc hP (nv_m hon3 (by decide) Nat.zero_lt_one) dX10_sign_44 ?_
          refine lv_sipush (v := 150) hx hb dX10_sign_47 (by decide) ?_
          refine lv_icmp_ne (tgt := 59) hx hb dX10_sign_50 (by decide) (fun c_50 => ?_) (fun c_50 => ?_)
          · refine lv_aload_n hx hb dX10_sign_59 rfl (lv_at hl 0 rfl) ?_
            refine g10_64 hc hP (nv_m hon3 (by decide) Nat.zero_lt_one) dX10_sign_60 ?_
            refine lv_aload_n hx hb dX10_sign_63 rfl (lv_at hl 0 rfl) ?_
            refine g10_115 hc hP (nv_m hon3 (by decide) Nat.zero_lt_one) dX10_sign_64 ?_
            refine lv_iload_n hx hb dX10_sign_67 rfl (lv_at hl 1 rfl) ?_
            refine sa_53 hc hP hS (nv_m hon3 (by decide) Nat.zero_lt_one) (mroom hok.ns hok.ns150 c_50 (by decide)) dX10_sign_68 (fun H locs hP hS => ?_)
            refine lv_aload_n hx hb dX10_sign_69 rfl (lv_at hl 0 rfl) ?_
            refine g10_67 hc hP (nv_m hon3 (by decide) Nat.zero_lt_one) dX10_sign_70 ?_
            refine lv_aload_n hx hb dX10_sign_73 rfl (lv_at hl 0 rfl) ?_
            refine g10_115 hc hP (nv_m hon3 (by decide) Nat.zero_lt_one) dX10_sign_74 ?_
            refine lv_iload_n hx hb dX10_sign_77 rfl (lv_at hl 2 rfl) ?_
            refine sa_54 hc hP hS (nv_m hon3 (by decide) Nat.zero_lt_one) (mroom hok.ns hok.ns150 c_50 (by decide)) dX10_sign_78 (fun H locs hP hS => ?_)
            refine lv_aload_n hx hb dX10_sign_79 rfl (lv_at hl 0 rfl) ?_
            refine g10_70 hc hP (nv_m hon3 (by decide) Nat.zero_lt_one) dX10_sign_80 ?_
            refine lv_aload_n hx hb dX10_sign_83 rfl (lv_at hl 0 rfl) ?_
            refine g10_115 hc hP (nv_m hon3 (by decide) Nat.zero_lt_one) dX10_sign_84 ?_
            refine lv_aload_n hx hb dX10_sign_87 rfl (lv_at hl 0 rfl) ?_
            refine g10_33 hc hP (nv_m hon3 (by decide) Nat.zero_lt_one) dX10_sign_88 ?_
            refine lv_iload_n hx hb dX10_sign_91 rfl (lv_at hl 2 rfl) ?_
            refine la_41 hc hP (nv_m hon3 (by decide) Nat.zero_lt_one) (mvp (nb_nz.mp c_18) hok.nv hok.nv40 (by decide)) dX10_sign_92 ?_
            refine lv_if_ne (tgt := 115) hx hb dX10_sign_93 (by decide) (fun c_93 => ?_) (fun c_93 => ?_)
            · refine lv_iconst (v := 0) hx hb dX10_sign_115 (by decide) ?_
              refine sa_55 hc hP hS (nv_m hon3 (by decide) Nat.zero_lt_one) (mroom hok.ns hok.ns150 c_50 (by decide)) dX10_sign_116 (fun H locs hP hS => ?_)
              refine lv_aload_n hx hb dX10_sign_117 rfl (lv_at hl 0 rfl) ?_
              refine lv_dup hx hb dX10_sign_118 rfl ?_
              refine g10_115 hc hP (nv_m hon3 (by decide) Nat.zero_lt_one) dX10_sign_119 ?_
              refine lv_iconst (v := 1) hx hb dX10_sign_122 (by decide) ?_
              refine lv_iadd hx hb dX10_sign_123 ?_
              refine p10_115 hc hP hS (nv_m hon3 (by decide) Nat.zero_lt_one) dX10_sign_124 (fun H locs hP hS => ?_)
              refine lv_aload_n hx hb dX10_sign_127 rfl (lv_at hl 0 rfl) ?_
              refine g10_115 hc hP (nv_m hon3 (by decide) Nat.zero_lt_one) dX10_sign_128 ?_
              refine lv_iconst (v := 1) hx hb dX10_sign_131 (by decide) ?_
              refine lv_isub hx hb dX10_sign_132 ?_
              exact ne_i hc hP hS hr dX10_sign_133 (mR_of ((mG_t (by clear hP hS hl hc hx hb hr hT; simp_all [-Int32.not_le, -Int32.not_lt, i32_lt, nb_t, nb_f, nb_z, nb_o])).trans ((mG_t (by clear hP hS hl hc hx hb hr hT; simp_all [-Int32.not_le, -Int32.not_lt, i32_lt, nb_t, nb_f, nb_z, nb_o])).trans ((by rw [show mLoc T x v = false from (by clear hP hS hl hc hx hb hr hT; simp_all [-Int32.not_le, -Int32.not_lt, i32_lt, nb_t, nb_f, nb_z, nb_o, mLoc, nput])]; rfl)))))
            · refine lv_aload_n hx hb dX10_sign_96 rfl (lv_at hl 0 rfl) ?_
              refine g10_30 hc hP (nv_m hon3 (by decide) Nat.zero_lt_one) dX10_sign_97 ?_
              refine lv_iload_n hx hb dX10_sign_100 rfl (lv_at hl 2 rfl) ?_
              refine la_40 hc hP (nv_m hon3 (by decide) Nat.zero_lt_one) (mvp (nb_nz.mp c_18) hok.nv hok.nv40 (by decide)) dX10_sign_101 ?_
              refine lv_aload_n hx hb dX10_sign_102 rfl (lv_at hl 0 rfl) ?_
              refine g10_36 hc hP (nv_m hon3 (by decide) Nat.zero_lt_one) dX10_sign_103 ?_
              refine lv_iload_n hx hb dX10_sign_106 rfl (lv_at hl 1 rfl) ?_
              refine la_43 hc hP (nv_m hon3 (by decide) Nat.zero_lt_one) (mvp (nb_nz.mp c_10) hok.np hok.np12 (by decide)) dX10_sign_107 ?_
              refine lv_icmp_ne (tgt := 115) hx hb dX10_sign_108 (by decide) (fun c_108 => ?_) (fun c_108 => ?_)
              · refine lv_iconst (v := 0) hx hb dX10_sign_115 (by decide) ?_
                refine sa_55 hc hP hS (nv_m hon3 (by decide) Nat.zero_lt_one) (mroom hok.ns hok.ns150 c_50 (by decide)) dX10_sign_116 (fun H locs hP hS => ?_)
                refine lv_aload_n hx hb dX10_sign_117 rfl (lv_at hl 0 rfl) ?_
                refine lv_dup hx hb dX10_sign_118 rfl ?_
                refine g10_115 hc hP (nv_m hon3 (by decide) Nat.zero_lt_one) dX10_sign_119 ?_
                refine lv_iconst (v := 1) hx hb dX10_sign_122 (by decide) ?_
                refine lv_iadd hx hb dX10_sign_123 ?_
                refine p10_115 hc hP hS (nv_m hon3 (by decide) Nat.zero_lt_one) dX10_sign_124 (fun H locs hP hS => ?_)
                refine lv_aload_n hx hb dX10_sign_127 rfl (lv_at hl 0 rfl) ?_
                refine g10_115 hc hP (nv_m hon3 (by decide) Nat.zero_lt_one) dX10_sign_128 ?_
                refine lv_iconst (v := 1) hx hb dX10_sign_131 (by decide) ?_
                refine lv_isub hx hb dX10_sign_132 ?_
                exact ne_i hc hP hS hr dX10_sign_133 (mR_of ((mG_t (by clear hP hS hl hc hx hb hr hT; simp_all [-Int32.not_le, -Int32.not_lt, i32_lt, nb_t, nb_f, nb_z, nb_o])).trans ((mG_t (by clear hP hS hl hc hx hb hr hT; simp_all [-Int32.not_le, -Int32.not_lt, i32_lt, nb_t, nb_f, nb_z, nb_o])).trans ((by rw [show mLoc T x v = false from (by clear hP hS hl hc hx hb hr hT; simp_all [-Int32.not_le, -Int32.not_lt, i32_lt, nb_t, nb_f, nb_z, nb_o, mLoc, nput])]; rfl)))))
              · refine lv_iconst (v := 1) hx hb dX10_sign_111 (by decide) ?_
                refine lv_goto (tgt := 116) hx hb dX10_sign_112 (by decide) ?_
                refine sa_55 hc hP hS (nv_m hon3 (by decide) Nat.zero_lt_one) (mroom hok.ns hok.ns150 c_50 (by decide)) dX10_sign_116 (fun H locs hP hS => ?_)
                refine lv_aload_n hx hb dX10_sign_117 rfl (lv_at hl 0 rfl) ?_
                refine lv_dup hx hb dX10_sign_118 rfl ?_
                refine g10_115 hc hP (nv_m hon3 (by decide) Nat.zero_lt_one) dX10_sign_119 ?_
                refine lv_iconst (v := 1) hx hb dX10_sign_122 (by decide) ?_
                refine lv_iadd hx hb dX10_sign_123 ?_
                refine p10_115 hc hP hS (nv_m hon3 (by decide) Nat.zero_lt_one) dX10_sign_124 (fun H locs hP hS => ?_)
                refine lv_aload_n hx hb dX10_sign_127 rfl (lv_at hl 0 rfl) ?_
                refine g10_115 hc hP (nv_m hon3 (by decide) Nat.zero_lt_one) dX10_sign_128 ?_
                refine lv_iconst (v := 1) hx hb dX10_sign_131 (by decide) ?_
                refine lv_isub hx hb dX10_sign_132 ?_
                exact ne_i hc hP hS hr dX10_sign_133 (mR_of ((mG_t (by clear hP hS hl hc hx hb hr hT; simp_all [-Int32.not_le, -Int32.not_lt, i32_lt, nb_t, nb_f, nb_z, nb_o])).trans ((mG_t (by clear hP hS hl hc hx hb hr hT; simp_all [-Int32.not_le, -Int32.not_lt, i32_lt, nb_t, nb_f, nb_z, nb_o])).trans ((by rw [show mLoc T x v = true from (by clear hP hS hl hc hx hb hr hT; simp_all [-Int32.not_le, -Int32.not_lt, i32_lt, nb_t, nb_f, nb_z, nb_o, mLoc, nput])]; rfl)))))
          · refine lv_aload_n hx hb dX10_sign_53 rfl (lv_at hl 0 rfl) ?_
            refine lv_iconst (v := 2) hx hb dX10_sign_54 (by decide) ?_
            refine nc_Vi (c_X10_fails hI hon3) hc hP hS hl.1 gd10_104 (nrecv (q := (RX10, TX10, 31)) hc (npic_eta hP) (nv_m hon3 (by decide) Nat.zero_lt_one) rfl rfl) ⟨rfl, rfl⟩ nok_X10_fails rfl ⟨Nat.le_of_ble_eq_true rfl, Nat.le_of_ble_eq_true rfl⟩ ⟨Nat.le_of_ble_eq_true rfl, Nat.le_of_ble_eq_true rfl⟩ dX10_sign_55 rfl (Nat.le_of_ble_eq_true rfl) (fun r X1 H locs hp hP hS => ?_)
            obtain ⟨hr9, hX9⟩ := hp
            rw [hX9] at hP
            subst hr9
            exact ne_i hc hP hS hr dX10_sign_58 (mR_of ((mG_t (by clear hP hS hl hc hx hb hr hT; simp_all [-Int32.not_le, -Int32.not_lt, i32_lt, nb_t, nb_f, nb_z, nb_o])).trans (mG_f (by clear hP hS hl hc hx hb hr hT; simp_all [-Int32.not_le, -Int32.not_lt, i32_lt, nb_t, nb_f, nb_z, nb_o]))))
    · refine lv_aload_n hx hb dX10_sign_21 rfl (lv_at hl 0 rfl) ?_
      refine lv_iconst (v := 1) hx hb dX10_sign_22 (by decide) ?_
      refine nc_Vi (c_X10_fails hI hon3) hc hP hS hl.1 gd10_104 (nrecv (q := (RX10, TX10, 31)) hc (npic_eta hP) (nv_m hon3 (by decide) Nat.zero_lt_one) rfl rfl) ⟨rfl, rfl⟩ nok_X10_fails rfl ⟨Nat.le_of_ble_eq_true rfl, Nat.le_of_ble_eq_true rfl⟩ ⟨Nat.le_of_ble_eq_true rfl, Nat.le_of_ble_eq_true rfl⟩ dX10_sign_23 rfl (Nat.le_of_ble_eq_true rfl) (fun r X1 H locs hp hP hS => ?_)
      obtain ⟨hr9, hX9⟩ := hp
      rw [hX9] at hP
      subst hr9
      exact ne_i hc hP hS hr dX10_sign_26 (mR_of (mG_f (by clear hP hS hl hc hx hb hr hT; simp_all [-Int32.not_le, -Int32.not_lt, i32_lt, nb_t, nb_f, nb_z, nb_o])))
set_option maxHeartbeats 4000000 in
set_option maxRecDepth 100000 in
theorem c_X10_pay (hI : ninj ad on) (hon3 : on 3) (hT : nput M 30 0 0 0 = T) (hok : mOk T) {x a : Int32} : nMi l D dA ad on yX10_pay cX10_pay 3 (some .int) (nrm 9) [.ref (ad 3 30 0), .int x, .int a] (wdo X 3 M) (fun r X' => r = (mG (mIn x 0 (T 30 0 12 - 1)) 1 T (0 : Int32) (mG (mIn a 1 1000) 2 T (0 : Int32) (mG (mOpen T && decide (T 46 0 (nix x) ≤ 0)) 3 T (0 : Int32) ((T 47 0 (nix x) + a, nput T 47 0 (nix x) (T 47 0 (nix x) + a)))))).1 ∧ X' = wdo X 3 (mG (mIn x 0 (T 30 0 12 - 1)) 1 T (0 : Int32) (mG (mIn a 1 1000) 2 T (0 : Int32) (mG (mOpen T && decide (T 46 0 (nix x) ≤ 0)) 3 T (0 : Int32) ((T 47 0 (nix x) + a, nput T 47 0 (nix x) (T 47 0 (nix x) + a)))))).2) := by
  refine nM_of hI (by decide +kernel) (Nat.le_of_ble_eq_true rfl) ?_
  intro p e s m args below meth cd ls hc hr _ hP hl hS
  have hx := hc.1
  have hb := hc.2.1
  have hl : lv_has ls 3 [(0, .ref (ad 3 30 0)), (1, .int x), (2, .int a)] := hl
  refine lv_aload_n hx hb dX10_pay_0 rfl (lv_at hl 0 rfl) ?_
  refine lv_iconst (v := 0) hx hb dX10_pay_1 (by decide) ?_
  refine p10_85 hc hP hS (nv_m hon3 (by decide) Nat.zero_lt_one) dX10_pay_2 (fun H locs hP hS => ?_)
  rw [hT] at hP
  refine lv_aload_n hx hb dX10_pay_5 rfl (lv_at hl 0 rfl) ?_
  refine lv_iload_n hx hb dX10_pay_6 rfl (lv_at hl 1 rfl) ?_
  refine nc_Vi (c_X10_isPaper hI hon3 ) hc hP hS hl.1 gd10_152 (nrecv (q := (RX10, TX10, 31)) hc (npic_eta hP) (nv_m hon3 (by decide) Nat.zero_lt_one) rfl rfl) ⟨rfl, rfl⟩ nok_X10_isPaper rfl ⟨Nat.le_of_ble_eq_true rfl, Nat.le_of_ble_eq_true rfl⟩ ⟨Nat.le_of_ble_eq_true rfl, Nat.le_of_ble_eq_true rfl⟩ dX10_pay_7 rfl (Nat.le_of_ble_eq_true rfl) (fun r X1 H locs hp hP hS => ?_)
  obtain ⟨hr9, hX9⟩ := hp
  rw [hX9] at hP
  subst hr9
  refine lv_if_ne (tgt := 19) hx hb dX10_pay_10 (by decide) (fun c_10 => ?_) (fun c_10 => ?_)
  · refine lv_iload_n hx hb dX10_pay_19 rfl (lv_at hl 2 rfl) ?_
    refine lv_iconst (v := 1) hx hb dX10_pay_20 (by decide) ?_
    refine lv_sipush (v := 1000) hx hb dX10_pay_21 (by decide) ?_
    refine nc_Si (c_X10_isIn hI) hc hP hS hl.1 gd10_91 ⟨rfl, rfl⟩ nok_X10_isIn rfl ⟨Nat.le_of_ble_eq_true rfl, Nat.le_of_ble_eq_true rfl⟩ ⟨Nat.le_of_ble_eq_true rfl, Nat.le_of_ble_eq_true rfl⟩ dX10_pay_24 rfl (Nat.le_of_ble_eq_true rfl) (fun r X1 H locs hp hP hS => ?_)
    obtain ⟨hr9, hX9⟩ := hp
    rw [hX9] at hP
    subst hr9
    refine lv_if_ne (tgt := 36) hx hb dX10_pay_27 (by decide) (fun c_27 => ?_) (fun c_27 => ?_)
    · refine lv_aload_n hx hb dX10_pay_36 rfl (lv_at hl 0 rfl) ?_
      refine nc_Vi (c_X10_open hI hon3 ) hc hP hS hl.1 gd10_108 (nrecv (q := (RX10, TX10, 31)) hc (npic_eta hP) (nv_m hon3 (by decide) Nat.zero_lt_one) rfl rfl) ⟨rfl, rfl⟩ nok_X10_open rfl ⟨Nat.le_of_ble_eq_true rfl, Nat.le_of_ble_eq_true rfl⟩ ⟨Nat.le_of_ble_eq_true rfl, Nat.le_of_ble_eq_true rfl⟩ dX10_pay_37 rfl (Nat.le_of_ble_eq_true rfl) (fun r X1 H locs hp hP hS => ?_)
      obtain ⟨hr9, hX9⟩ := hp
      rw [hX9] at hP
      subst hr9
      refine lv_if_eq (tgt := 52) hx hb dX10_pay_40 (by decide) (fun c_40 => ?_) (fun c_40 => ?_)
      · refine lv_aload_n hx hb dX10_pay_52 rfl (lv_at hl 0 rfl) ?_
        refine lv_iconst (v := 3) hx hb dX10_pay_53 (by decide) ?_
        refine nc_Vi (c_X10_fails hI hon3) hc hP hS hl.1 gd10_104 (nrecv (q := (RX10, TX10, 31)) hc (npic_eta hP) (nv_m hon3 (by decide) Nat.zero_lt_one) rfl rfl) ⟨rfl, rfl⟩ nok_X10_fails rfl ⟨Nat.le_of_ble_eq_true rfl, Nat.le_of_ble_eq_true rfl⟩ ⟨Nat.le_of_ble_eq_true rfl, Nat.le_of_ble_eq_true rfl⟩ dX10_pay_54 rfl (Nat.le_of_ble_eq_true rfl) (fun r X1 H locs hp hP hS => ?_)
        obtain ⟨hr9, hX9⟩ := hp
        rw [hX9] at hP
        subst hr9
        exact ne_i hc hP hS hr dX10_pay_57 (mR_of ((mG_t (by clear hP hS hl hc hx hb hr hT; simp_all [-Int32.not_le, -Int32.not_lt, i32_lt, nb_t, nb_f, nb_z, nb_o])).trans ((mG_t (by clear hP hS hl hc hx hb hr hT; simp_all [-Int32.not_le, -Int32.not_lt, i32_lt, nb_t, nb_f, nb_z, nb_o])).trans (mG_f (by clear hP hS hl hc hx hb hr hT; simp_all [-Int32.not_le, -Int32.not_lt, i32_lt, nb_t, nb_f, nb_z, nb_o])))))
      · refine lv_aload_n hx hb dX10_pay_43 rfl (lv_at hl 0 rfl) ?_
        refine g10_46 hc hP (nv_m hon3 (by decide) Nat.zero_lt_one) dX10_pay_44 ?_
        refine lv_iload_n hx hb dX10_pay_47 rfl (lv_at hl 1 rfl) ?_
        refine la_46 hc hP (nv_m hon3 (by decide) Nat.zero_lt_one) (mvp (nb_nz.mp c_10) hok.np hok.np12 (by decide)) dX10_pay_48 ?_
        refine lv_if_le (tgt := 58) hx hb dX10_pay_49 (by decide) (fun c_49 => ?_) (fun c_49 => ?_)
        · refine lv_aload_n hx hb dX10_pay_58 rfl (lv_at hl 0 rfl) ?_
          refine g10_49 hc hP (nv_m hon3 (by decide) Nat.zero_lt_one) dX10_pay_59 ?_
          refine lv_iload_n hx hb dX10_pay_62 rfl (lv_at hl 1 rfl) ?_
          refine lv_dup2_11 hx hb dX10_pay_63 rfl rfl ?_
          refine la_47 hc hP (nv_m hon3 (by decide) Nat.zero_lt_one) (mvp (nb_nz.mp c_10) hok.np hok.np12 (by decide)) dX10_pay_64 ?_
          refine lv_iload_n hx hb dX10_pay_65 rfl (lv_at hl 2 rfl) ?_
          refine lv_iadd hx hb dX10_pay_66 ?_
          refine sa_47 hc hP hS (nv_m hon3 (by decide) Nat.zero_lt_one) (mvp (nb_nz.mp c_10) hok.np hok.np12 (by decide)) dX10_pay_67 (fun H locs hP hS => ?_)
          refine lv_aload_n hx hb dX10_pay_68 rfl (lv_at hl 0 rfl) ?_
          refine g10_49 hc hP (nv_m hon3 (by decide) Nat.zero_lt_one) dX10_pay_69 ?_
          refine lv_iload_n hx hb dX10_pay_72 rfl (lv_at hl 1 rfl) ?_
          refine la_47 hc hP (nv_m hon3 (by decide) Nat.zero_lt_one) (mvp (nb_nz.mp c_10) hok.np hok.np12 (by decide)) dX10_pay_73 ?_
          exact ne_i hc hP hS hr dX10_pay_74 (mR_of ((mG_t (by clear hP hS hl hc hx hb hr hT; simp_all [-Int32.not_le, -Int32.not_lt, i32_lt, nb_t, nb_f, nb_z, nb_o])).trans ((mG_t (by clear hP hS hl hc hx hb hr hT; simp_all [-Int32.not_le, -Int32.not_lt, i32_lt, nb_t, nb_f, nb_z, nb_o])).trans ((mG_t (by clear hP hS hl hc hx hb hr hT; simp_all [-Int32.not_le, -Int32.not_lt, i32_lt, nb_t, nb_f, nb_z, nb_o])).trans ((by rw [nput_at]))))))
        · refine lv_aload_n hx hb dX10_pay_52 rfl (lv_at hl 0 rfl) ?_
          refine lv_iconst (v := 3) hx hb dX10_pay_53 (by decide) ?_
          refine nc_Vi (c_X10_fails hI hon3) hc hP hS hl.1 gd10_104 (nrecv (q := (RX10, TX10, 31)) hc (npic_eta hP) (nv_m hon3 (by decide) Nat.zero_lt_one) rfl rfl) ⟨rfl, rfl⟩ nok_X10_fails rfl ⟨Nat.le_of_ble_eq_true rfl, Nat.le_of_ble_eq_true rfl⟩ ⟨Nat.le_of_ble_eq_true rfl, Nat.le_of_ble_eq_true rfl⟩ dX10_pay_54 rfl (Nat.le_of_ble_eq_true rfl) (fun r X1 H locs hp hP hS => ?_)
          obtain ⟨hr9, hX9⟩ := hp
          rw [hX9] at hP
          subst hr9
          exact ne_i hc hP hS hr dX10_pay_57 (mR_of ((mG_t (by clear hP hS hl hc hx hb hr hT; simp_all [-Int32.not_le, -Int32.not_lt, i32_lt, nb_t, nb_f, nb_z, nb_o])).trans ((mG_t (by clear hP hS hl hc hx hb hr hT; simp_all [-Int32.not_le, -Int32.not_lt, i32_lt, nb_t, nb_f, nb_z, nb_o])).trans (mG_f (by clear hP hS hl hc hx hb hr hT; simp_all [-Int32.not_le, -Int32.not_lt, i32_lt, nb_t, nb_f, nb_z, nb_o])))))
    · refine lv_aload_n hx hb dX10_pay_30 rfl (lv_at hl 0 rfl) ?_
      refine lv_iconst (v := 2) hx hb dX10_pay_31 (by decide) ?_
      refine nc_Vi (c_X10_fails hI hon3) hc hP hS hl.1 gd10_104 (nrecv (q := (RX10, TX10, 31)) hc (npic_eta hP) (nv_m hon3 (by decide) Nat.zero_lt_one) rfl rfl) ⟨rfl, rfl⟩ nok_X10_fails rfl ⟨Nat.le_of_ble_eq_true rfl, Nat.le_of_ble_eq_true rfl⟩ ⟨Nat.le_of_ble_eq_true rfl, Nat.le_of_ble_eq_true rfl⟩ dX10_pay_32 rfl (Nat.le_of_ble_eq_true rfl) (fun r X1 H locs hp hP hS => ?_)
      obtain ⟨hr9, hX9⟩ := hp
      rw [hX9] at hP
      subst hr9
      exact ne_i hc hP hS hr dX10_pay_35 (mR_of ((mG_t (by clear hP hS hl hc hx hb hr hT; simp_all [-Int32.not_le, -Int32.not_lt, i32_lt, nb_t, nb_f, nb_z, nb_o])).trans (mG_f (by clear hP hS hl hc hx hb hr hT; simp_all [-Int32.not_le, -Int32.not_lt, i32_lt, nb_t, nb_f, nb_z, nb_o]))))
  · refine lv_aload_n hx hb dX10_pay_13 rfl (lv_at hl 0 rfl) ?_
    refine lv_iconst (v := 1) hx hb dX10_pay_14 (by decide) ?_
    refine nc_Vi (c_X10_fails hI hon3) hc hP hS hl.1 gd10_104 (nrecv (q := (RX10, TX10, 31)) hc (npic_eta hP) (nv_m hon3 (by decide) Nat.zero_lt_one) rfl rfl) ⟨rfl, rfl⟩ nok_X10_fails rfl ⟨Nat.le_of_ble_eq_true rfl, Nat.le_of_ble_eq_true rfl⟩ ⟨Nat.le_of_ble_eq_true rfl, Nat.le_of_ble_eq_true rfl⟩ dX10_pay_15 rfl (Nat.le_of_ble_eq_true rfl) (fun r X1 H locs hp hP hS => ?_)
    obtain ⟨hr9, hX9⟩ := hp
    rw [hX9] at hP
    subst hr9
    exact ne_i hc hP hS hr dX10_pay_18 (mR_of (mG_f (by clear hP hS hl hc hx hb hr hT; simp_all [-Int32.not_le, -Int32.not_lt, i32_lt, nb_t, nb_f, nb_z, nb_o])))
set_option maxHeartbeats 4000000 in
set_option maxRecDepth 100000 in
theorem c_X10_die (hI : ninj ad on) (hon3 : on 3) (hT : nput M 30 0 0 0 = T) (hok : mOk T) {x : Int32} : nMi l D dA ad on yX10_die cX10_die 2 (some .boolean) (nrm 9) [.ref (ad 3 30 0), .int x] (wdo X 3 M) (fun r X' => r = (mG (mIn x 0 (T 30 0 12 - 1)) 1 T (0 : Int32) (mG (decide (T 46 0 (nix x) ≤ 0) && !mRej T x && decide (T 48 0 (nix x) = 0) && decide (T 30 0 4 < T 30 0 3)) 2 T (0 : Int32) ((nb (mRepl (nput T 48 0 (nix x) 1) x), nput T 48 0 (nix x) 1)))).1 ∧ X' = wdo X 3 (mG (mIn x 0 (T 30 0 12 - 1)) 1 T (0 : Int32) (mG (decide (T 46 0 (nix x) ≤ 0) && !mRej T x && decide (T 48 0 (nix x) = 0) && decide (T 30 0 4 < T 30 0 3)) 2 T (0 : Int32) ((nb (mRepl (nput T 48 0 (nix x) 1) x), nput T 48 0 (nix x) 1)))).2) := by
  refine nM_of hI (by decide +kernel) (Nat.le_of_ble_eq_true rfl) ?_
  intro p e s m args below meth cd ls hc hr _ hP hl hS
  have hx := hc.1
  have hb := hc.2.1
  have hl : lv_has ls 2 [(0, .ref (ad 3 30 0)), (1, .int x)] := hl
  refine lv_aload_n hx hb dX10_die_0 rfl (lv_at hl 0 rfl) ?_
  refine lv_iconst (v := 0) hx hb dX10_die_1 (by decide) ?_
  refine p10_85 hc hP hS (nv_m hon3 (by decide) Nat.zero_lt_one) dX10_die_2 (fun H locs hP hS => ?_)
  rw [hT] at hP
  refine lv_aload_n hx hb dX10_die_5 rfl (lv_at hl 0 rfl) ?_
  refine lv_iload_n hx hb dX10_die_6 rfl (lv_at hl 1 rfl) ?_
  refine nc_Vi (c_X10_isPaper hI hon3 ) hc hP hS hl.1 gd10_152 (nrecv (q := (RX10, TX10, 31)) hc (npic_eta hP) (nv_m hon3 (by decide) Nat.zero_lt_one) rfl rfl) ⟨rfl, rfl⟩ nok_X10_isPaper rfl ⟨Nat.le_of_ble_eq_true rfl, Nat.le_of_ble_eq_true rfl⟩ ⟨Nat.le_of_ble_eq_true rfl, Nat.le_of_ble_eq_true rfl⟩ dX10_die_7 rfl (Nat.le_of_ble_eq_true rfl) (fun r X1 H locs hp hP hS => ?_)
  obtain ⟨hr9, hX9⟩ := hp
  rw [hX9] at hP
  subst hr9
  refine lv_if_ne (tgt := 20) hx hb dX10_die_10 (by decide) (fun c_10 => ?_) (fun c_10 => ?_)
  · refine lv_aload_n hx hb dX10_die_20 rfl (lv_at hl 0 rfl) ?_
    refine g10_46 hc hP (nv_m hon3 (by decide) Nat.zero_lt_one) dX10_die_21 ?_
    refine lv_iload_n hx hb dX10_die_24 rfl (lv_at hl 1 rfl) ?_
    refine la_46 hc hP (nv_m hon3 (by decide) Nat.zero_lt_one) (mvp (nb_nz.mp c_10) hok.np hok.np12 (by decide)) dX10_die_25 ?_
    refine lv_if_gt (tgt := 57) hx hb dX10_die_26 (by decide) (fun c_26 => ?_) (fun c_26 => ?_)
    · refine lv_aload_n hx hb dX10_die_57 rfl (lv_at hl 0 rfl) ?_
      refine lv_iconst (v := 2) hx hb dX10_die_58 (by decide) ?_
      refine p10_85 hc hP hS (nv_m hon3 (by decide) Nat.zero_lt_one) dX10_die_59 (fun H locs hP hS => ?_)
      refine lv_iconst (v := 0) hx hb dX10_die_62 (by decide) ?_
      exact ne_z hc hP hS hr rfl dX10_die_63 (mR_of ((mG_t (by clear hP hS hl hc hx hb hr hT; simp_all [-Int32.not_le, -Int32.not_lt, i32_lt, nb_t, nb_f, nb_z, nb_o])).trans (mG_f (by clear hP hS hl hc hx hb hr hT; simp_all [-Int32.not_le, -Int32.not_lt, i32_lt, nb_t, nb_f, nb_z, nb_o]))))
    · refine lv_aload_n hx hb dX10_die_29 rfl (lv_at hl 0 rfl) ?_
      refine lv_iload_n hx hb dX10_die_30 rfl (lv_at hl 1 rfl) ?_
      refine nc_Vi (c_X10_isRejected hI hon3 (mvp (nb_nz.mp c_10) hok.np hok.np12 (by decide))) hc hP hS hl.1 gd10_155 (nrecv (q := (RX10, TX10, 31)) hc (npic_eta hP) (nv_m hon3 (by decide) Nat.zero_lt_one) rfl rfl) ⟨rfl, rfl⟩ nok_X10_isRejected rfl ⟨Nat.le_of_ble_eq_true rfl, Nat.le_of_ble_eq_true rfl⟩ ⟨Nat.le_of_ble_eq_true rfl, Nat.le_of_ble_eq_true rfl⟩ dX10_die_31 rfl (Nat.le_of_ble_eq_true rfl) (fun r X1 H locs hp hP hS => ?_)
      obtain ⟨hr9, hX9⟩ := hp
      rw [hX9] at hP
      subst hr9
      refine lv_if_ne (tgt := 57) hx hb dX10_die_34 (by decide) (fun c_34 => ?_) (fun c_34 => ?_)
      · refine lv_aload_n hx hb dX10_die_57 rfl (lv_at hl 0 rfl) ?_
        refine lv_iconst (v := 2) hx hb dX10_die_58 (by decide) ?_
        refine p10_85 hc hP hS (nv_m hon3 (by decide) Nat.zero_lt_one) dX10_die_59 (fun H locs hP hS => ?_)
        refine lv_iconst (v := 0) hx hb dX10_die_62 (by decide) ?_
        exact ne_z hc hP hS hr rfl dX10_die_63 (mR_of ((mG_t (by clear hP hS hl hc hx hb hr hT; simp_all [-Int32.not_le, -Int32.not_lt, i32_lt, nb_t, nb_f, nb_z, nb_o])).trans (mG_f (by clear hP hS hl hc hx hb hr hT; simp_all [-Int32.not_le, -Int32.not_lt, i32_lt, nb_t, nb_f, nb_z, nb_o]))))
      · refine lv_aload_n hx hb dX10_die_37 rfl (lv_at hl 0 rfl) ?_
        refine g10_52 hc hP (nv_m hon3 (by decide) Nat.zero_lt_one) dX10_die_38 ?_
        refine lv_iload_n hx hb dX10_die_41 rfl (lv_at hl 1 rfl) ?_
        refine la_48 hc hP (nv_m hon3 (by decide) Nat.zero_lt_one) (mvp (nb_nz.mp c_10) hok.np hok.np12 (by decide)) dX10_die_42 ?_
        refine lv_if_ne (tgt := 57) hx hb dX10_die_43 (by decide) (fun c_43 => ?_) (fun c_43 => ?_)
        · refine lv_aload_n hx hb dX10_die_57 rfl (lv_at hl 0 rfl) ?_
          refine lv_iconst (v := 2) hx hb dX10_die_58 (by decide) ?_
          refine p10_85 hc hP hS (nv_m hon3 (by decide) Nat.zero_lt_one) dX10_die_59 (fun H locs hP hS => ?_)
          refine lv_iconst (v := 0) hx hb dX10_die_62 (by decide) ?_
          exact ne_z hc hP hS hr rfl dX10_die_63 (mR_of ((mG_t (by clear hP hS hl hc hx hb hr hT; simp_all [-Int32.not_le, -Int32.not_lt, i32_lt, nb_t, nb_f, nb_z, nb_o])).trans (mG_f (by clear hP hS hl hc hx hb hr hT; simp_all [-Int32.not_le, -Int32.not_lt, i32_lt, nb_t, nb_f, nb_z, nb_o]))))
        · refine lv_aload_n hx hb dX10_die_46 rfl (lv_at hl 0 rfl) ?_
          refine g10_101 hc hP (nv_m hon3 (by decide) Nat.zero_lt_one) dX10_die_47 ?_
          refine lv_aload_n hx hb dX10_die_50 rfl (lv_at hl 0 rfl) ?_
          refine g10_16 hc hP (nv_m hon3 (by decide) Nat.zero_lt_one) dX10_die_51 ?_
          refine lv_icmp_lt (tgt := 64) hx hb dX10_die_54 (by decide) (fun c_54 => ?_) (fun c_54 => ?_)
          · refine lv_aload_n hx hb dX10_die_64 rfl (lv_at hl 0 rfl) ?_
            refine g10_52 hc hP (nv_m hon3 (by decide) Nat.zero_lt_one) dX10_die_65 ?_
            refine lv_iload_n hx hb dX10_die_68 rfl (lv_at hl 1 rfl) ?_
            refine lv_iconst (v := 1) hx hb dX10_die_69 (by decide) ?_
            refine sa_48 hc hP hS (nv_m hon3 (by decide) Nat.zero_lt_one) (mvp (nb_nz.mp c_10) hok.np hok.np12 (by decide)) dX10_die_70 (fun H locs hP hS => ?_)
            refine lv_aload_n hx hb dX10_die_71 rfl (lv_at hl 0 rfl) ?_
            refine lv_iload_n hx hb dX10_die_72 rfl (lv_at hl 1 rfl) ?_
            refine nc_Vi (c_X10_canReplace hI hon3 (mvp (nb_nz.mp c_10) hok.np hok.np12 (by decide))) hc hP hS hl.1 gd10_158 (nrecv (q := (RX10, TX10, 31)) hc (npic_eta hP) (nv_m hon3 (by decide) Nat.zero_lt_one) rfl rfl) ⟨rfl, rfl⟩ nok_X10_canReplace rfl ⟨Nat.le_of_ble_eq_true rfl, Nat.le_of_ble_eq_true rfl⟩ ⟨Nat.le_of_ble_eq_true rfl, Nat.le_of_ble_eq_true rfl⟩ dX10_die_73 rfl (Nat.le_of_ble_eq_true rfl) (fun r X1 H locs hp hP hS => ?_)
            obtain ⟨hr9, hX9⟩ := hp
            rw [hX9] at hP
            subst hr9
            exact ne_z hc hP hS hr (nbz _) dX10_die_76 (mR_of ((mG_t (by clear hP hS hl hc hx hb hr hT; simp_all [-Int32.not_le, -Int32.not_lt, i32_lt, nb_t, nb_f, nb_z, nb_o])).trans ((mG_t (by clear hP hS hl hc hx hb hr hT; simp_all [-Int32.not_le, -Int32.not_lt, i32_lt, nb_t, nb_f, nb_z, nb_o])).trans (rfl))))
          · refine lv_aload_n hx hb dX10_die_57 rfl (lv_at hl 0 rfl) ?_
            refine lv_iconst (v := 2) hx hb dX10_die_58 (by decide) ?_
            refine p10_85 hc hP hS (nv_m hon3 (by decide) Nat.zero_lt_one) dX10_die_59 (fun H locs hP hS => ?_)
            refine lv_iconst (v := 0) hx hb dX10_die_62 (by decide) ?_
            exact ne_z hc hP hS hr rfl dX10_die_63 (mR_of ((mG_t (by clear hP hS hl hc hx hb hr hT; simp_all [-Int32.not_le, -Int32.not_lt, i32_lt, nb_t, nb_f, nb_z, nb_o])).trans (mG_f (by clear hP hS hl hc hx hb hr hT; simp_all [-Int32.not_le, -Int32.not_lt, i32_lt, nb_t, nb_f, nb_z, nb_o]))))
  · refine lv_aload_n hx hb dX10_die_13 rfl (lv_at hl 0 rfl) ?_
    refine lv_iconst (v := 1) hx hb dX10_die_14 (by decide) ?_
    refine p10_85 hc hP hS (nv_m hon3 (by decide) Nat.zero_lt_one) dX10_die_15 (fun H locs hP hS => ?_)
    refine lv_iconst (v := 0) hx hb dX10_die_18 (by decide) ?_
    exact ne_z hc hP hS hr rfl dX10_die_19 (mR_of (mG_f (by clear hP hS hl hc hx hb hr hT; simp_all [-Int32.not_le, -Int32.not_lt, i32_lt, nb_t, nb_f, nb_z, nb_o])))
set_option maxHeartbeats 4000000 in
set_option maxRecDepth 100000 in
theorem c_X10_replace (hI : ninj ad on) (hon3 : on 3) (hT : nput M 30 0 0 0 = T) (hok : mOk T) {x n1 n2 n3 n4 : Int32} : nMi l D dA ad on yX10_replace cX10_replace 6 (some .int) (nrm 9) [.ref (ad 3 30 0), .int x, .int n1, .int n2, .int n3, .int n4] (wdo X 3 M) (fun r X' => r = (mG (mIn x 0 (T 30 0 12 - 1)) 1 T (0 : Int32) (mG (mSur n1 n2 n3 n4) 2 T (0 : Int32) (mG (mRepl T x) 3 T (0 : Int32) ((T 49 0 (nix x) + 1, nput (nput (mName T x n1 n2 n3 n4) 48 0 (nix x) 0) 49 0 (nix x) (T 49 0 (nix x) + 1)))))).1 ∧ X' = wdo X 3 (mG (mIn x 0 (T 30 0 12 - 1)) 1 T (0 : Int32) (mG (mSur n1 n2 n3 n4) 2 T (0 : Int32) (mG (mRepl T x) 3 T (0 : Int32) ((T 49 0 (nix x) + 1, nput (nput (mName T x n1 n2 n3 n4) 48 0 (nix x) 0) 49 0 (nix x) (T 49 0 (nix x) + 1)))))).2) := by
  refine nM_of hI (by decide +kernel) (Nat.le_of_ble_eq_true rfl) ?_
  intro p e s m args below meth cd ls hc hr _ hP hl hS
  have hx := hc.1
  have hb := hc.2.1
  have hl : lv_has ls 6 [(0, .ref (ad 3 30 0)), (1, .int x), (2, .int n1), (3, .int n2), (4, .int n3), (5, .int n4)] := hl
  refine lv_aload_n hx hb dX10_replace_0 rfl (lv_at hl 0 rfl) ?_
  refine lv_iconst (v := 0) hx hb dX10_replace_1 (by decide) ?_
  refine p10_85 hc hP hS (nv_m hon3 (by decide) Nat.zero_lt_one) dX10_replace_2 (fun H locs hP hS => ?_)
  rw [hT] at hP
  refine lv_aload_n hx hb dX10_replace_5 rfl (lv_at hl 0 rfl) ?_
  refine lv_iload_n hx hb dX10_replace_6 rfl (lv_at hl 1 rfl) ?_
  refine nc_Vi (c_X10_isPaper hI hon3 ) hc hP hS hl.1 gd10_152 (nrecv (q := (RX10, TX10, 31)) hc (npic_eta hP) (nv_m hon3 (by decide) Nat.zero_lt_one) rfl rfl) ⟨rfl, rfl⟩ nok_X10_isPaper rfl ⟨Nat.le_of_ble_eq_true rfl, Nat.le_of_ble_eq_true rfl⟩ ⟨Nat.le_of_ble_eq_true rfl, Nat.le_of_ble_eq_true rfl⟩ dX10_replace_7 rfl (Nat.le_of_ble_eq_true rfl) (fun r X1 H locs hp hP hS => ?_)
  obtain ⟨hr9, hX9⟩ := hp
  rw [hX9] at hP
  subst hr9
  refine lv_if_ne (tgt := 19) hx hb dX10_replace_10 (by decide) (fun c_10 => ?_) (fun c_10 => ?_)
  · refine lv_iload_n hx hb dX10_replace_19 rfl (lv_at hl 2 rfl) ?_
    refine lv_iload_n hx hb dX10_replace_20 rfl (lv_at hl 3 rfl) ?_
    refine lv_iload hx hb dX10_replace_21 (lv_at hl 4 rfl) ?_
    refine lv_iload hx hb dX10_replace_23 (lv_at hl 5 rfl) ?_
    refine nc_Si (c_X10_isSurname hI) hc hP hS hl.1 gd10_144 ⟨rfl, rfl⟩ nok_X10_isSurname rfl ⟨Nat.le_of_ble_eq_true rfl, Nat.le_of_ble_eq_true rfl⟩ ⟨Nat.le_of_ble_eq_true rfl, Nat.le_of_ble_eq_true rfl⟩ dX10_replace_25 rfl (Nat.le_of_ble_eq_true rfl) (fun r X1 H locs hp hP hS => ?_)
    obtain ⟨hr9, hX9⟩ := hp
    rw [hX9] at hP
    subst hr9
    refine lv_if_ne (tgt := 37) hx hb dX10_replace_28 (by decide) (fun c_28 => ?_) (fun c_28 => ?_)
    · refine lv_aload_n hx hb dX10_replace_37 rfl (lv_at hl 0 rfl) ?_
      refine lv_iload_n hx hb dX10_replace_38 rfl (lv_at hl 1 rfl) ?_
      refine nc_Vi (c_X10_canReplace hI hon3 (mvp (nb_nz.mp c_10) hok.np hok.np12 (by decide))) hc hP hS hl.1 gd10_158 (nrecv (q := (RX10, TX10, 31)) hc (npic_eta hP) (nv_m hon3 (by decide) Nat.zero_lt_one) rfl rfl) ⟨rfl, rfl⟩ nok_X10_canReplace rfl ⟨Nat.le_of_ble_eq_true rfl, Nat.le_of_ble_eq_true rfl⟩ ⟨Nat.le_of_ble_eq_true rfl, Nat.le_of_ble_eq_true rfl⟩ dX10_replace_39 rfl (Nat.le_of_ble_eq_true rfl) (fun r X1 H locs hp hP hS => ?_)
      obtain ⟨hr9, hX9⟩ := hp
      rw [hX9] at hP
      subst hr9
      refine lv_if_ne (tgt := 51) hx hb dX10_replace_42 (by decide) (fun c_42 => ?_) (fun c_42 => ?_)
      · refine lv_aload_n hx hb dX10_replace_51 rfl (lv_at hl 0 rfl) ?_
        refine lv_iload_n hx hb dX10_replace_52 rfl (lv_at hl 1 rfl) ?_
        refine lv_iload_n hx hb dX10_replace_53 rfl (lv_at hl 2 rfl) ?_
        refine lv_iload_n hx hb dX10_replace_54 rfl (lv_at hl 3 rfl) ?_
        refine lv_iload hx hb dX10_replace_55 (lv_at hl 4 rfl) ?_
        refine lv_iload hx hb dX10_replace_57 (lv_at hl 5 rfl) ?_
        refine nc_Vv (c_X10_writeName hI hon3 (mvp (nb_nz.mp c_10) hok.np hok.np12 (by decide))) hc hP hS hl.1 gd10_148 (nrecv (q := (RX10, TX10, 31)) hc (npic_eta hP) (nv_m hon3 (by decide) Nat.zero_lt_one) rfl rfl) ⟨rfl, rfl⟩ nok_X10_writeName rfl ⟨Nat.le_of_ble_eq_true rfl, Nat.le_of_ble_eq_true rfl⟩ ⟨Nat.le_of_ble_eq_true rfl, Nat.le_of_ble_eq_true rfl⟩ dX10_replace_59 rfl (Nat.le_of_ble_eq_true rfl) (fun X1 H locs hp hP hS => ?_)
        rw [hp] at hP
        refine lv_aload_n hx hb dX10_replace_62 rfl (lv_at hl 0 rfl) ?_
        refine g10_52 hc hP (nv_m hon3 (by decide) Nat.zero_lt_one) dX10_replace_63 ?_
        refine lv_iload_n hx hb dX10_replace_66 rfl (lv_at hl 1 rfl) ?_
        refine lv_iconst (v := 0) hx hb dX10_replace_67 (by decide) ?_
        refine sa_48 hc hP hS (nv_m hon3 (by decide) Nat.zero_lt_one) (mvp (nb_nz.mp c_10) hok.np hok.np12 (by decide)) dX10_replace_68 (fun H locs hP hS => ?_)
        refine lv_aload_n hx hb dX10_replace_69 rfl (lv_at hl 0 rfl) ?_
        refine g10_55 hc hP (nv_m hon3 (by decide) Nat.zero_lt_one) dX10_replace_70 ?_
        refine lv_iload_n hx hb dX10_replace_73 rfl (lv_at hl 1 rfl) ?_
        refine lv_dup2_11 hx hb dX10_replace_74 rfl rfl ?_
        refine la_49 hc hP (nv_m hon3 (by decide) Nat.zero_lt_one) (mvp (nb_nz.mp c_10) hok.np hok.np12 (by decide)) dX10_replace_75 ?_
        refine lv_iconst (v := 1) hx hb dX10_replace_76 (by decide) ?_
        refine lv_iadd hx hb dX10_replace_77 ?_
        refine sa_49 hc hP hS (nv_m hon3 (by decide) Nat.zero_lt_one) (mvp (nb_nz.mp c_10) hok.np hok.np12 (by decide)) dX10_replace_78 (fun H locs hP hS => ?_)
        refine lv_aload_n hx hb dX10_replace_79 rfl (lv_at hl 0 rfl) ?_
        refine g10_55 hc hP (nv_m hon3 (by decide) Nat.zero_lt_one) dX10_replace_80 ?_
        refine lv_iload_n hx hb dX10_replace_83 rfl (lv_at hl 1 rfl) ?_
        refine la_49 hc hP (nv_m hon3 (by decide) Nat.zero_lt_one) (mvp (nb_nz.mp c_10) hok.np hok.np12 (by decide)) dX10_replace_84 ?_
        exact ne_i hc hP hS hr dX10_replace_85 (mR_of ((mG_t (by clear hP hS hl hc hx hb hr hT; simp_all [-Int32.not_le, -Int32.not_lt, i32_lt, nb_t, nb_f, nb_z, nb_o])).trans ((mG_t (by clear hP hS hl hc hx hb hr hT; simp_all [-Int32.not_le, -Int32.not_lt, i32_lt, nb_t, nb_f, nb_z, nb_o])).trans ((mG_t (by clear hP hS hl hc hx hb hr hT; simp_all [-Int32.not_le, -Int32.not_lt, i32_lt, nb_t, nb_f, nb_z, nb_o])).trans ((by rw [nput_at]; rfl))))))
      · refine lv_aload_n hx hb dX10_replace_45 rfl (lv_at hl 0 rfl) ?_
        refine lv_iconst (v := 3) hx hb dX10_replace_46 (by decide) ?_
        refine nc_Vi (c_X10_fails hI hon3) hc hP hS hl.1 gd10_104 (nrecv (q := (RX10, TX10, 31)) hc (npic_eta hP) (nv_m hon3 (by decide) Nat.zero_lt_one) rfl rfl) ⟨rfl, rfl⟩ nok_X10_fails rfl ⟨Nat.le_of_ble_eq_true rfl, Nat.le_of_ble_eq_true rfl⟩ ⟨Nat.le_of_ble_eq_true rfl, Nat.le_of_ble_eq_true rfl⟩ dX10_replace_47 rfl (Nat.le_of_ble_eq_true rfl) (fun r X1 H locs hp hP hS => ?_)
        obtain ⟨hr9, hX9⟩ := hp
        rw [hX9] at hP
        subst hr9
        exact ne_i hc hP hS hr dX10_replace_50 (mR_of ((mG_t (by clear hP hS hl hc hx hb hr hT; simp_all [-Int32.not_le, -Int32.not_lt, i32_lt, nb_t, nb_f, nb_z, nb_o])).trans ((mG_t (by clear hP hS hl hc hx hb hr hT; simp_all [-Int32.not_le, -Int32.not_lt, i32_lt, nb_t, nb_f, nb_z, nb_o])).trans (mG_f (by clear hP hS hl hc hx hb hr hT; simp_all [-Int32.not_le, -Int32.not_lt, i32_lt, nb_t, nb_f, nb_z, nb_o])))))
    · refine lv_aload_n hx hb dX10_replace_31 rfl (lv_at hl 0 rfl) ?_
      refine lv_iconst (v := 2) hx hb dX10_replace_32 (by decide) ?_
      refine nc_Vi (c_X10_fails hI hon3) hc hP hS hl.1 gd10_104 (nrecv (q := (RX10, TX10, 31)) hc (npic_eta hP) (nv_m hon3 (by decide) Nat.zero_lt_one) rfl rfl) ⟨rfl, rfl⟩ nok_X10_fails rfl ⟨Nat.le_of_ble_eq_true rfl, Nat.le_of_ble_eq_true rfl⟩ ⟨Nat.le_of_ble_eq_true rfl, Nat.le_of_ble_eq_true rfl⟩ dX10_replace_33 rfl (Nat.le_of_ble_eq_true rfl) (fun r X1 H locs hp hP hS => ?_)
      obtain ⟨hr9, hX9⟩ := hp
      rw [hX9] at hP
      subst hr9
      exact ne_i hc hP hS hr dX10_replace_36 (mR_of ((mG_t (by clear hP hS hl hc hx hb hr hT; simp_all [-Int32.not_le, -Int32.not_lt, i32_lt, nb_t, nb_f, nb_z, nb_o])).trans (mG_f (by clear hP hS hl hc hx hb hr hT; simp_all [-Int32.not_le, -Int32.not_lt, i32_lt, nb_t, nb_f, nb_z, nb_o]))))
  · refine lv_aload_n hx hb dX10_replace_13 rfl (lv_at hl 0 rfl) ?_
    refine lv_iconst (v := 1) hx hb dX10_replace_14 (by decide) ?_
    refine nc_Vi (c_X10_fails hI hon3) hc hP hS hl.1 gd10_104 (nrecv (q := (RX10, TX10, 31)) hc (npic_eta hP) (nv_m hon3 (by decide) Nat.zero_lt_one) rfl rfl) ⟨rfl, rfl⟩ nok_X10_fails rfl ⟨Nat.le_of_ble_eq_true rfl, Nat.le_of_ble_eq_true rfl⟩ ⟨Nat.le_of_ble_eq_true rfl, Nat.le_of_ble_eq_true rfl⟩ dX10_replace_15 rfl (Nat.le_of_ble_eq_true rfl) (fun r X1 H locs hp hP hS => ?_)
    obtain ⟨hr9, hX9⟩ := hp
    rw [hX9] at hP
    subst hr9
    exact ne_i hc hP hS hr dX10_replace_18 (mR_of (mG_f (by clear hP hS hl hc hx hb hr hT; simp_all [-Int32.not_le, -Int32.not_lt, i32_lt, nb_t, nb_f, nb_z, nb_o])))
set_option maxHeartbeats 4000000 in
set_option maxRecDepth 100000 in
theorem c_X10_isReplaceable (hI : ninj ad on) (hon3 : on 3) (hT : nput M 30 0 0 0 = T) (hok : mOk T) {x : Int32} : nMi l D dA ad on yX10_isReplaceable cX10_isReplaceable 2 (some .boolean) (nrm 9) [.ref (ad 3 30 0), .int x] (wdo X 3 M) (fun r X' => r = (mG (mIn x 0 (T 30 0 12 - 1)) 1 T (0 : Int32) ((nb (mRepl T x), T))).1 ∧ X' = wdo X 3 (mG (mIn x 0 (T 30 0 12 - 1)) 1 T (0 : Int32) ((nb (mRepl T x), T))).2) := by
  refine nM_of hI (by decide +kernel) (Nat.le_of_ble_eq_true rfl) ?_
  intro p e s m args below meth cd ls hc hr _ hP hl hS
  have hx := hc.1
  have hb := hc.2.1
  have hl : lv_has ls 2 [(0, .ref (ad 3 30 0)), (1, .int x)] := hl
  refine lv_aload_n hx hb dX10_isReplaceable_0 rfl (lv_at hl 0 rfl) ?_
  refine lv_iconst (v := 0) hx hb dX10_isReplaceable_1 (by decide) ?_
  refine p10_85 hc hP hS (nv_m hon3 (by decide) Nat.zero_lt_one) dX10_isReplaceable_2 (fun H locs hP hS => ?_)
  rw [hT] at hP
  refine lv_aload_n hx hb dX10_isReplaceable_5 rfl (lv_at hl 0 rfl) ?_
  refine lv_iload_n hx hb dX10_isReplaceable_6 rfl (lv_at hl 1 rfl) ?_
  refine nc_Vi (c_X10_isPaper hI hon3 ) hc hP hS hl.1 gd10_152 (nrecv (q := (RX10, TX10, 31)) hc (npic_eta hP) (nv_m hon3 (by decide) Nat.zero_lt_one) rfl rfl) ⟨rfl, rfl⟩ nok_X10_isPaper rfl ⟨Nat.le_of_ble_eq_true rfl, Nat.le_of_ble_eq_true rfl⟩ ⟨Nat.le_of_ble_eq_true rfl, Nat.le_of_ble_eq_true rfl⟩ dX10_isReplaceable_7 rfl (Nat.le_of_ble_eq_true rfl) (fun r X1 H locs hp hP hS => ?_)
  obtain ⟨hr9, hX9⟩ := hp
  rw [hX9] at hP
  subst hr9
  refine lv_if_ne (tgt := 20) hx hb dX10_isReplaceable_10 (by decide) (fun c_10 => ?_) (fun c_10 => ?_)
  · refine lv_aload_n hx hb dX10_isReplaceable_20 rfl (lv_at hl 0 rfl) ?_
    refine lv_iload_n hx hb dX10_isReplaceable_21 rfl (lv_at hl 1 rfl) ?_
    refine nc_Vi (c_X10_canReplace hI hon3 (mvp (nb_nz.mp c_10) hok.np hok.np12 (by decide))) hc hP hS hl.1 gd10_158 (nrecv (q := (RX10, TX10, 31)) hc (npic_eta hP) (nv_m hon3 (by decide) Nat.zero_lt_one) rfl rfl) ⟨rfl, rfl⟩ nok_X10_canReplace rfl ⟨Nat.le_of_ble_eq_true rfl, Nat.le_of_ble_eq_true rfl⟩ ⟨Nat.le_of_ble_eq_true rfl, Nat.le_of_ble_eq_true rfl⟩ dX10_isReplaceable_22 rfl (Nat.le_of_ble_eq_true rfl) (fun r X1 H locs hp hP hS => ?_)
    obtain ⟨hr9, hX9⟩ := hp
    rw [hX9] at hP
    subst hr9
    exact ne_z hc hP hS hr (nbz _) dX10_isReplaceable_25 (mR_of ((mG_t (by clear hP hS hl hc hx hb hr hT; simp_all [-Int32.not_le, -Int32.not_lt, i32_lt, nb_t, nb_f, nb_z, nb_o])).trans (rfl)))
  · refine lv_aload_n hx hb dX10_isReplaceable_13 rfl (lv_at hl 0 rfl) ?_
    refine lv_iconst (v := 1) hx hb dX10_isReplaceable_14 (by decide) ?_
    refine p10_85 hc hP hS (nv_m hon3 (by decide) Nat.zero_lt_one) dX10_isReplaceable_15 (fun H locs hP hS => ?_)
    refine lv_iconst (v := 0) hx hb dX10_isReplaceable_18 (by decide) ?_
    exact ne_z hc hP hS hr rfl dX10_isReplaceable_19 (mR_of (mG_f (by clear hP hS hl hc hx hb hr hT; simp_all [-Int32.not_le, -Int32.not_lt, i32_lt, nb_t, nb_f, nb_z, nb_o])))
set_option maxHeartbeats 4000000 in
set_option maxRecDepth 100000 in
theorem c_X10_votes (hI : ninj ad on) (hon3 : on 3) (hT : nput M 30 0 0 0 = T) (hok : mOk T) {x : Int32} : nMi l D dA ad on yX10_votes cX10_votes 2 (some .int) (nrm 9) [.ref (ad 3 30 0), .int x] (wdo X 3 M) (fun r X' => r = (mG (mIn x 0 (T 30 0 12 - 1)) 1 T (0 : Int32) ((T 50 0 (nix x), T))).1 ∧ X' = wdo X 3 (mG (mIn x 0 (T 30 0 12 - 1)) 1 T (0 : Int32) ((T 50 0 (nix x), T))).2) := by
  refine nM_of hI (by decide +kernel) (Nat.le_of_ble_eq_true rfl) ?_
  intro p e s m args below meth cd ls hc hr _ hP hl hS
  have hx := hc.1
  have hb := hc.2.1
  have hl : lv_has ls 2 [(0, .ref (ad 3 30 0)), (1, .int x)] := hl
  refine lv_aload_n hx hb dX10_votes_0 rfl (lv_at hl 0 rfl) ?_
  refine lv_iconst (v := 0) hx hb dX10_votes_1 (by decide) ?_
  refine p10_85 hc hP hS (nv_m hon3 (by decide) Nat.zero_lt_one) dX10_votes_2 (fun H locs hP hS => ?_)
  rw [hT] at hP
  refine lv_aload_n hx hb dX10_votes_5 rfl (lv_at hl 0 rfl) ?_
  refine lv_iload_n hx hb dX10_votes_6 rfl (lv_at hl 1 rfl) ?_
  refine nc_Vi (c_X10_isPaper hI hon3 ) hc hP hS hl.1 gd10_152 (nrecv (q := (RX10, TX10, 31)) hc (npic_eta hP) (nv_m hon3 (by decide) Nat.zero_lt_one) rfl rfl) ⟨rfl, rfl⟩ nok_X10_isPaper rfl ⟨Nat.le_of_ble_eq_true rfl, Nat.le_of_ble_eq_true rfl⟩ ⟨Nat.le_of_ble_eq_true rfl, Nat.le_of_ble_eq_true rfl⟩ dX10_votes_7 rfl (Nat.le_of_ble_eq_true rfl) (fun r X1 H locs hp hP hS => ?_)
  obtain ⟨hr9, hX9⟩ := hp
  rw [hX9] at hP
  subst hr9
  refine lv_if_eq (tgt := 22) hx hb dX10_votes_10 (by decide) (fun c_10 => ?_) (fun c_10 => ?_)
  · refine lv_aload_n hx hb dX10_votes_22 rfl (lv_at hl 0 rfl) ?_
    refine lv_iconst (v := 1) hx hb dX10_votes_23 (by decide) ?_
    refine nc_Vi (c_X10_fails hI hon3) hc hP hS hl.1 gd10_104 (nrecv (q := (RX10, TX10, 31)) hc (npic_eta hP) (nv_m hon3 (by decide) Nat.zero_lt_one) rfl rfl) ⟨rfl, rfl⟩ nok_X10_fails rfl ⟨Nat.le_of_ble_eq_true rfl, Nat.le_of_ble_eq_true rfl⟩ ⟨Nat.le_of_ble_eq_true rfl, Nat.le_of_ble_eq_true rfl⟩ dX10_votes_24 rfl (Nat.le_of_ble_eq_true rfl) (fun r X1 H locs hp hP hS => ?_)
    obtain ⟨hr9, hX9⟩ := hp
    rw [hX9] at hP
    subst hr9
    exact ne_i hc hP hS hr dX10_votes_27 (mR_of (mG_f (by clear hP hS hl hc hx hb hr hT; simp_all [-Int32.not_le, -Int32.not_lt, i32_lt, nb_t, nb_f, nb_z, nb_o])))
  · refine lv_aload_n hx hb dX10_votes_13 rfl (lv_at hl 0 rfl) ?_
    refine g10_58 hc hP (nv_m hon3 (by decide) Nat.zero_lt_one) dX10_votes_14 ?_
    refine lv_iload_n hx hb dX10_votes_17 rfl (lv_at hl 1 rfl) ?_
    refine la_50 hc hP (nv_m hon3 (by decide) Nat.zero_lt_one) (mvp (nb_nz.mp c_10) hok.np hok.np12 (by decide)) dX10_votes_18 ?_
    refine lv_goto (tgt := 27) hx hb dX10_votes_19 (by decide) ?_
    exact ne_i hc hP hS hr dX10_votes_27 (mR_of ((mG_t (by clear hP hS hl hc hx hb hr hT; simp_all [-Int32.not_le, -Int32.not_lt, i32_lt, nb_t, nb_f, nb_z, nb_o])).trans (rfl)))
set_option maxHeartbeats 4000000 in
set_option maxRecDepth 100000 in
theorem c_X10_paid (hI : ninj ad on) (hon3 : on 3) (hT : nput M 30 0 0 0 = T) (hok : mOk T) {x : Int32} : nMi l D dA ad on yX10_paid cX10_paid 2 (some .int) (nrm 9) [.ref (ad 3 30 0), .int x] (wdo X 3 M) (fun r X' => r = (mG (mIn x 0 (T 30 0 12 - 1)) 1 T (0 : Int32) ((T 47 0 (nix x), T))).1 ∧ X' = wdo X 3 (mG (mIn x 0 (T 30 0 12 - 1)) 1 T (0 : Int32) ((T 47 0 (nix x), T))).2) := by
  refine nM_of hI (by decide +kernel) (Nat.le_of_ble_eq_true rfl) ?_
  intro p e s m args below meth cd ls hc hr _ hP hl hS
  have hx := hc.1
  have hb := hc.2.1
  have hl : lv_has ls 2 [(0, .ref (ad 3 30 0)), (1, .int x)] := hl
  refine lv_aload_n hx hb dX10_paid_0 rfl (lv_at hl 0 rfl) ?_
  refine lv_iconst (v := 0) hx hb dX10_paid_1 (by decide) ?_
  refine p10_85 hc hP hS (nv_m hon3 (by decide) Nat.zero_lt_one) dX10_paid_2 (fun H locs hP hS => ?_)
  rw [hT] at hP
  refine lv_aload_n hx hb dX10_paid_5 rfl (lv_at hl 0 rfl) ?_
  refine lv_iload_n hx hb dX10_paid_6 rfl (lv_at hl 1 rfl) ?_
  refine nc_Vi (c_X10_isPaper hI hon3 ) hc hP hS hl.1 gd10_152 (nrecv (q := (RX10, TX10, 31)) hc (npic_eta hP) (nv_m hon3 (by decide) Nat.zero_lt_one) rfl rfl) ⟨rfl, rfl⟩ nok_X10_isPaper rfl ⟨Nat.le_of_ble_eq_true rfl, Nat.le_of_ble_eq_true rfl⟩ ⟨Nat.le_of_ble_eq_true rfl, Nat.le_of_ble_eq_true rfl⟩ dX10_paid_7 rfl (Nat.le_of_ble_eq_true rfl) (fun r X1 H locs hp hP hS => ?_)
  obtain ⟨hr9, hX9⟩ := hp
  rw [hX9] at hP
  subst hr9
  refine lv_if_eq (tgt := 22) hx hb dX10_paid_10 (by decide) (fun c_10 => ?_) (fun c_10 => ?_)
  · refine lv_aload_n hx hb dX10_paid_22 rfl (lv_at hl 0 rfl) ?_
    refine lv_iconst (v := 1) hx hb dX10_paid_23 (by decide) ?_
    refine nc_Vi (c_X10_fails hI hon3) hc hP hS hl.1 gd10_104 (nrecv (q := (RX10, TX10, 31)) hc (npic_eta hP) (nv_m hon3 (by decide) Nat.zero_lt_one) rfl rfl) ⟨rfl, rfl⟩ nok_X10_fails rfl ⟨Nat.le_of_ble_eq_true rfl, Nat.le_of_ble_eq_true rfl⟩ ⟨Nat.le_of_ble_eq_true rfl, Nat.le_of_ble_eq_true rfl⟩ dX10_paid_24 rfl (Nat.le_of_ble_eq_true rfl) (fun r X1 H locs hp hP hS => ?_)
    obtain ⟨hr9, hX9⟩ := hp
    rw [hX9] at hP
    subst hr9
    exact ne_i hc hP hS hr dX10_paid_27 (mR_of (mG_f (by clear hP hS hl hc hx hb hr hT; simp_all [-Int32.not_le, -Int32.not_lt, i32_lt, nb_t, nb_f, nb_z, nb_o])))
  · refine lv_aload_n hx hb dX10_paid_13 rfl (lv_at hl 0 rfl) ?_
    refine g10_49 hc hP (nv_m hon3 (by decide) Nat.zero_lt_one) dX10_paid_14 ?_
    refine lv_iload_n hx hb dX10_paid_17 rfl (lv_at hl 1 rfl) ?_
    refine la_47 hc hP (nv_m hon3 (by decide) Nat.zero_lt_one) (mvp (nb_nz.mp c_10) hok.np hok.np12 (by decide)) dX10_paid_18 ?_
    refine lv_goto (tgt := 27) hx hb dX10_paid_19 (by decide) ?_
    exact ne_i hc hP hS hr dX10_paid_27 (mR_of ((mG_t (by clear hP hS hl hc hx hb hr hT; simp_all [-Int32.not_le, -Int32.not_lt, i32_lt, nb_t, nb_f, nb_z, nb_o])).trans (rfl)))
set_option maxHeartbeats 4000000 in
set_option maxRecDepth 100000 in
theorem c_X10_surname (hI : ninj ad on) (hon3 : on 3) (hT : nput M 30 0 0 0 = T) (hok : mOk T) {x q : Int32} (hch : ∀ k, k < 48 → narrow .char (.int (T 45 0 k)) = .int (T 45 0 k)) : nMi l D dA ad on yX10_surname cX10_surname 3 (some .char) (nrm 9) [.ref (ad 3 30 0), .int x, .int q] (wdo X 3 M) (fun r X' => r = (mG (mIn x 0 (T 30 0 12 - 1) && mIn q 0 3) 1 T (0 : Int32) ((T 45 0 (nix (4 * x + q)), T))).1 ∧ X' = wdo X 3 (mG (mIn x 0 (T 30 0 12 - 1) && mIn q 0 3) 1 T (0 : Int32) ((T 45 0 (nix (4 * x + q)), T))).2) := by
  refine nM_of hI (by decide +kernel) (Nat.le_of_ble_eq_true rfl) ?_
  intro p e s m args below meth cd ls hc hr _ hP hl hS
  have hx := hc.1
  have hb := hc.2.1
  have hl : lv_has ls 3 [(0, .ref (ad 3 30 0)), (1, .int x), (2, .int q)] := hl
  refine lv_aload_n hx hb dX10_surname_0 rfl (lv_at hl 0 rfl) ?_
  refine lv_iconst (v := 0) hx hb dX10_surname_1 (by decide) ?_
  refine p10_85 hc hP hS (nv_m hon3 (by decide) Nat.zero_lt_one) dX10_surname_2 (fun H locs hP hS => ?_)
  rw [hT] at hP
  refine lv_aload_n hx hb dX10_surname_5 rfl (lv_at hl 0 rfl) ?_
  refine lv_iload_n hx hb dX10_surname_6 rfl (lv_at hl 1 rfl) ?_
  refine nc_Vi (c_X10_isPaper hI hon3 ) hc hP hS hl.1 gd10_152 (nrecv (q := (RX10, TX10, 31)) hc (npic_eta hP) (nv_m hon3 (by decide) Nat.zero_lt_one) rfl rfl) ⟨rfl, rfl⟩ nok_X10_isPaper rfl ⟨Nat.le_of_ble_eq_true rfl, Nat.le_of_ble_eq_true rfl⟩ ⟨Nat.le_of_ble_eq_true rfl, Nat.le_of_ble_eq_true rfl⟩ dX10_surname_7 rfl (Nat.le_of_ble_eq_true rfl) (fun r X1 H locs hp hP hS => ?_)
  obtain ⟨hr9, hX9⟩ := hp
  rw [hX9] at hP
  subst hr9
  refine lv_if_eq (tgt := 22) hx hb dX10_surname_10 (by decide) (fun c_10 => ?_) (fun c_10 => ?_)
  · refine lv_aload_n hx hb dX10_surname_22 rfl (lv_at hl 0 rfl) ?_
    refine lv_iconst (v := 1) hx hb dX10_surname_23 (by decide) ?_
    refine p10_85 hc hP hS (nv_m hon3 (by decide) Nat.zero_lt_one) dX10_surname_24 (fun H locs hP hS => ?_)
    refine lv_iconst (v := 0) hx hb dX10_surname_27 (by decide) ?_
    exact ne_z hc hP hS hr rfl dX10_surname_28 (mR_of (mG_f (by clear hP hS hl hc hx hb hr hT; simp_all [-Int32.not_le, -Int32.not_lt, i32_lt, nb_t, nb_f, nb_z, nb_o])))
  · refine lv_iload_n hx hb dX10_surname_13 rfl (lv_at hl 2 rfl) ?_
    refine lv_iconst (v := 0) hx hb dX10_surname_14 (by decide) ?_
    refine lv_iconst (v := 3) hx hb dX10_surname_15 (by decide) ?_
    refine nc_Si (c_X10_isIn hI) hc hP hS hl.1 gd10_91 ⟨rfl, rfl⟩ nok_X10_isIn rfl ⟨Nat.le_of_ble_eq_true rfl, Nat.le_of_ble_eq_true rfl⟩ ⟨Nat.le_of_ble_eq_true rfl, Nat.le_of_ble_eq_true rfl⟩ dX10_surname_16 rfl (Nat.le_of_ble_eq_true rfl) (fun r X1 H locs hp hP hS => ?_)
    obtain ⟨hr9, hX9⟩ := hp
    rw [hX9] at hP
    subst hr9
    refine lv_if_ne (tgt := 29) hx hb dX10_surname_19 (by decide) (fun c_19 => ?_) (fun c_19 => ?_)
    · refine lv_aload_n hx hb dX10_surname_29 rfl (lv_at hl 0 rfl) ?_
      refine g10_42 hc hP (nv_m hon3 (by decide) Nat.zero_lt_one) dX10_surname_30 ?_
      refine lv_iconst (v := 4) hx hb dX10_surname_33 (by decide) ?_
      refine lv_iload_n hx hb dX10_surname_34 rfl (lv_at hl 1 rfl) ?_
      refine lv_imul hx hb dX10_surname_35 ?_
      refine lv_iload_n hx hb dX10_surname_36 rfl (lv_at hl 2 rfl) ?_
      refine lv_iadd hx hb dX10_surname_37 ?_
      refine la_45 hc hP (nv_m hon3 (by decide) Nat.zero_lt_one) (vp4q (mvp (nb_nz.mp c_10) hok.np hok.np12 (by decide)) (nb_nz.mp c_19)) dX10_surname_38 ?_
      exact ne_z hc hP hS hr (hch _ (vp_lt (vp4q (mvp (nb_nz.mp c_10) hok.np hok.np12 (by decide)) (nb_nz.mp c_19)))) dX10_surname_39 (mR_of ((mG_t (by clear hP hS hl hc hx hb hr hT; simp_all [-Int32.not_le, -Int32.not_lt, i32_lt, nb_t, nb_f, nb_z, nb_o])).trans (rfl)))
    · refine lv_aload_n hx hb dX10_surname_22 rfl (lv_at hl 0 rfl) ?_
      refine lv_iconst (v := 1) hx hb dX10_surname_23 (by decide) ?_
      refine p10_85 hc hP hS (nv_m hon3 (by decide) Nat.zero_lt_one) dX10_surname_24 (fun H locs hP hS => ?_)
      refine lv_iconst (v := 0) hx hb dX10_surname_27 (by decide) ?_
      exact ne_z hc hP hS hr rfl dX10_surname_28 (mR_of (mG_f (by clear hP hS hl hc hx hb hr hT; simp_all [-Int32.not_le, -Int32.not_lt, i32_lt, nb_t, nb_f, nb_z, nb_o])))
set_option maxHeartbeats 4000000 in
set_option maxRecDepth 100000 in
theorem c_X10_letter (hI : ninj ad on) (hon3 : on 3) (hT : nput M 30 0 0 0 = T) (hok : mOk T) {q : Int32} (hch : ∀ k, k < 26 → narrow .char (.int (T 58 0 k)) = .int (T 58 0 k)) : nMi l D dA ad on yX10_letter cX10_letter 2 (some .char) (nrm 9) [.ref (ad 3 30 0), .int q] (wdo X 3 M) (fun r X' => r = (mG (mIn q 0 25) 1 T (0 : Int32) (mG (!decide (T 30 0 27 = 0)) 2 T (0 : Int32) ((T 58 0 (nix q), T)))).1 ∧ X' = wdo X 3 (mG (mIn q 0 25) 1 T (0 : Int32) (mG (!decide (T 30 0 27 = 0)) 2 T (0 : Int32) ((T 58 0 (nix q), T)))).2) := by
  refine nM_of hI (by decide +kernel) (Nat.le_of_ble_eq_true rfl) ?_
  intro p e s m args below meth cd ls hc hr _ hP hl hS
  have hx := hc.1
  have hb := hc.2.1
  have hl : lv_has ls 2 [(0, .ref (ad 3 30 0)), (1, .int q)] := hl
  refine lv_aload_n hx hb dX10_letter_0 rfl (lv_at hl 0 rfl) ?_
  refine lv_iconst (v := 0) hx hb dX10_letter_1 (by decide) ?_
  refine p10_85 hc hP hS (nv_m hon3 (by decide) Nat.zero_lt_one) dX10_letter_2 (fun H locs hP hS => ?_)
  rw [hT] at hP
  refine lv_iload_n hx hb dX10_letter_5 rfl (lv_at hl 1 rfl) ?_
  refine lv_iconst (v := 0) hx hb dX10_letter_6 (by decide) ?_
  refine lv_bipush (v := 25) hx hb dX10_letter_7 (by decide) ?_
  refine nc_Si (c_X10_isIn hI) hc hP hS hl.1 gd10_91 ⟨rfl, rfl⟩ nok_X10_isIn rfl ⟨Nat.le_of_ble_eq_true rfl, Nat.le_of_ble_eq_true rfl⟩ ⟨Nat.le_of_ble_eq_true rfl, Nat.le_of_ble_eq_true rfl⟩ dX10_letter_9 rfl (Nat.le_of_ble_eq_true rfl) (fun r X1 H locs hp hP hS => ?_)
  obtain ⟨hr9, hX9⟩ := hp
  rw [hX9] at hP
  subst hr9
  refine lv_if_ne (tgt := 22) hx hb dX10_letter_12 (by decide) (fun c_12 => ?_) (fun c_12 => ?_)
  · refine lv_aload_n hx hb dX10_letter_22 rfl (lv_at hl 0 rfl) ?_
    refine g10_186 hc hP (nv_m hon3 (by decide) Nat.zero_lt_one) dX10_letter_23 ?_
    refine lv_if_ne (tgt := 36) hx hb dX10_letter_26 (by decide) (fun c_26 => ?_) (fun c_26 => ?_)
    · refine lv_aload_n hx hb dX10_letter_36 rfl (lv_at hl 0 rfl) ?_
      refine g10_76 hc hP (nv_m hon3 (by decide) Nat.zero_lt_one) dX10_letter_37 ?_
      refine lv_iload_n hx hb dX10_letter_40 rfl (lv_at hl 1 rfl) ?_
      refine la_58 hc hP (nv_m hon3 (by decide) Nat.zero_lt_one) (vp25 (nb_nz.mp c_12)) dX10_letter_41 ?_
      exact ne_z hc hP hS hr (hch _ (vp_lt (vp25 (nb_nz.mp c_12)))) dX10_letter_42 (mR_of ((mG_t (by clear hP hS hl hc hx hb hr hT; simp_all [-Int32.not_le, -Int32.not_lt, i32_lt, nb_t, nb_f, nb_z, nb_o])).trans ((mG_t (by clear hP hS hl hc hx hb hr hT; simp_all [-Int32.not_le, -Int32.not_lt, i32_lt, nb_t, nb_f, nb_z, nb_o])).trans (rfl))))
    · refine lv_aload_n hx hb dX10_letter_29 rfl (lv_at hl 0 rfl) ?_
      refine lv_iconst (v := 2) hx hb dX10_letter_30 (by decide) ?_
      refine p10_85 hc hP hS (nv_m hon3 (by decide) Nat.zero_lt_one) dX10_letter_31 (fun H locs hP hS => ?_)
      refine lv_iconst (v := 0) hx hb dX10_letter_34 (by decide) ?_
      exact ne_z hc hP hS hr rfl dX10_letter_35 (mR_of ((mG_t (by clear hP hS hl hc hx hb hr hT; simp_all [-Int32.not_le, -Int32.not_lt, i32_lt, nb_t, nb_f, nb_z, nb_o])).trans (mG_f (by clear hP hS hl hc hx hb hr hT; simp_all [-Int32.not_le, -Int32.not_lt, i32_lt, nb_t, nb_f, nb_z, nb_o]))))
  · refine lv_aload_n hx hb dX10_letter_15 rfl (lv_at hl 0 rfl) ?_
    refine lv_iconst (v := 1) hx hb dX10_letter_16 (by decide) ?_
    refine p10_85 hc hP hS (nv_m hon3 (by decide) Nat.zero_lt_one) dX10_letter_17 (fun H locs hP hS => ?_)
    refine lv_iconst (v := 0) hx hb dX10_letter_20 (by decide) ?_
    exact ne_z hc hP hS hr rfl dX10_letter_21 (mR_of (mG_f (by clear hP hS hl hc hx hb hr hT; simp_all [-Int32.not_le, -Int32.not_lt, i32_lt, nb_t, nb_f, nb_z, nb_o])))
end N18
