/-! the small classes: what their methods do -/
def nb (b : Bool) : Int32 := if b then 1 else 0
theorem nb_t : nb true = 1 := rfl
theorem nb_f : nb false = 0 := rfl
theorem nb_z {b : Bool} : nb b = 0 ↔ b = false := by cases b <;> decide
theorem nb_nz {b : Bool} : ¬ nb b = 0 ↔ b = true := by cases b <;> decide
theorem nb_o {b : Bool} : nb b = 1 ↔ b = true := by cases b <;> decide
theorem nb_inj {a b : Bool} : nb a = nb b ↔ a = b := by cases a <;> cases b <;> decide
theorem nb_01 (b : Bool) : nb b = 0 ∨ nb b = 1 := by cases b <;> decide
theorem nbz (b : Bool) : narrow .boolean (.int (nb b)) = .int (nb b) := by cases b <;> decide
theorem i32_lt {a b : Int32} : a < b ↔ ¬ b ≤ a := Int32.not_le.symm
theorem vp_lt {x : Int32} {n : Nat} (h : vp_in x n) : nix x < n := Nat.not_le.mp fun q => h (Or.inr q)
def calFix (S : NSt) (a b c : Int32) : NSt := nput (nput (nput S 1 0 1 a) 1 0 2 b) 1 0 3 c
def calRestart (S : NSt) : NSt := calFix (nput S 1 0 0 0) 20 25 40
def oOpen (S : NSt) : Bool := decide (S 1 0 0 ≤ S 1 0 1)
def oChg (S : NSt) : Bool := decide (S 1 0 0 ≤ S 1 0 2)
def oPoll (S : NSt) : Bool := decide (S 1 0 3 ≤ S 1 0 0)
def areaBegin (S : NSt) (i : Nat) (a b : Int32) : NSt := nput (nput (nput S 4 i 0 a) 4 i 1 b) 4 i 2 0
def voterBegin (S : NSt) (i : Nat) (a : Int32) : NSt := nput (nput (nput S 6 i 0 a) 6 i 1 1) 6 i 2 0
def paperBegin (S : NSt) (i : Nat) (a b c : Int32) : NSt := nput (nput (nput (nput (nput (nput (nput (nput (nput (nput S 11 i 0 a) 11 i 1 b) 11 i 2 c) 11 i 3 0) 11 i 4 0) 11 i 5 0) 11 i 6 0) 11 i 7 0) 11 i 8 0) 11 i 9 0
def paperRenew (S : NSt) (i : Nat) (a : Int32) : NSt := nput (nput (nput S 11 i 2 a) 11 i 5 (S 11 i 5 + 1)) 11 i 6 0
def sigBegin (S : NSt) (i : Nat) (a b c d : Int32) : NSt := nput (nput (nput (nput (nput S 13 i 0 a) 13 i 1 b) 13 i 2 c) 13 i 3 d) 13 i 4 0
def rollRestart (S : NSt) : NSt := nput (nput S 2 0 2 0) 2 0 3 0
def rollArea (S : NSt) (a b : Int32) : NSt := nput (areaBegin S (nix (S 2 0 2)) a b) 2 0 2 (S 2 0 2 + 1)
def rollVoter (S : NSt) (a : Int32) : NSt := nput (voterBegin S (nix (S 2 0 3)) a) 2 0 3 (S 2 0 3 + 1)
def letRestart (S : NSt) : NSt := nput S 7 0 2 0
def letExch (S : NSt) (a b : Int32) : NSt := nput (nput S 8 0 (nix a) (vp_nar .char (S 8 0 (nix b)))) 8 0 (nix b) (vp_nar .char (S 8 0 (nix a)))
def cSmall (c : Int32) : Bool := decide (97 ≤ c) && decide (c ≤ 122)
def cFollow (b c : Int32) : Bool := decide (c = 32) || (!decide (b = 32) && cSmall c)
def cName (a b c d : Int32) : Int32 := a <<< (24 &&& 31) ||| b <<< (16 &&& 31) ||| c <<< (8 &&& 31) ||| d
def cChar (x k : Int32) : Int32 := (((x >>> (8 * (3 - k) &&& 31)) &&& 255).toUInt32 % 65536).toInt32
def oGone (S : NSt) (x : Int32) : Bool := decide (¬ (S 0 0 8 &&& (1 <<< (x &&& 31))) = 0)
section N10
variable {l : Launch} {D : va_G} {dA : Nat → ClassId} {ad : Nat → Nat → Nat → Nat} {on : Nat → Prop} {X : NWd} {o i : Nat} {S : NSt}
set_option maxHeartbeats 4000000 in
set_option maxRecDepth 100000 in
theorem c_X1_fix (hI : ninj ad on) (hon : on o) (ho : o < 2) {a b c : Int32} : nMv l D dA ad on yX1_fix cX1_fix 4 (nrm 1) [.ref (ad o 1 0), .int a, .int b, .int c] (wdo X o S) (fun X' => X' = wdo X o (calFix S a b c)) := by
  refine nM_of hI (by decide +kernel) (Nat.le_of_ble_eq_true rfl) ?_
  intro p e s m args below meth cd ls hc hr _ hP hl hS
  have hx := hc.1
  have hb := hc.2.1
  have hl : lv_has ls 4 [(0, .ref (ad o 1 0)), (1, .int a), (2, .int b), (3, .int c)] := hl
  refine lv_aload_n hx hb dX1_fix_0 rfl (lv_at hl 0 rfl) ?_
  refine lv_iload_n hx hb dX1_fix_1 rfl (lv_at hl 1 rfl) ?_
  refine p1_19 hc hP hS (nv_o hon ho (by decide) Nat.zero_lt_one) dX1_fix_2 (fun H locs hP hS => ?_)
  refine lv_aload_n hx hb dX1_fix_5 rfl (lv_at hl 0 rfl) ?_
  refine lv_iload_n hx hb dX1_fix_6 rfl (lv_at hl 2 rfl) ?_
  refine p1_22 hc hP hS (nv_o hon ho (by decide) Nat.zero_lt_one) dX1_fix_7 (fun H locs hP hS => ?_)
  refine lv_aload_n hx hb dX1_fix_10 rfl (lv_at hl 0 rfl) ?_
  refine lv_iload_n hx hb dX1_fix_11 rfl (lv_at hl 3 rfl) ?_
  refine p1_25 hc hP hS (nv_o hon ho (by decide) Nat.zero_lt_one) dX1_fix_12 (fun H locs hP hS => ?_)
  exact ne_v hc hP hS hr dX1_fix_15 rfl
set_option maxHeartbeats 4000000 in
set_option maxRecDepth 100000 in
theorem c_X1_restart (hI : ninj ad on) (hon : on o) (ho : o < 2) : nMv l D dA ad on yX1_restart cX1_restart 1 (nrm 2) [.ref (ad o 1 0)] (wdo X o S) (fun X' => X' = wdo X o (calRestart S)) := by
  refine nM_of hI (by decide +kernel) (Nat.le_of_ble_eq_true rfl) ?_
  intro p e s m args below meth cd ls hc hr _ hP hl hS
  have hx := hc.1
  have hb := hc.2.1
  have hl : lv_has ls 1 [(0, .ref (ad o 1 0))] := hl
  refine lv_aload_n hx hb dX1_restart_0 rfl (lv_at hl 0 rfl) ?_
  refine lv_iconst (v := 0) hx hb dX1_restart_1 (by decide) ?_
  refine p1_9 hc hP hS (nv_o hon ho (by decide) Nat.zero_lt_one) dX1_restart_2 (fun H locs hP hS => ?_)
  refine lv_aload_n hx hb dX1_restart_5 rfl (lv_at hl 0 rfl) ?_
  refine lv_bipush (v := 20) hx hb dX1_restart_6 (by decide) ?_
  refine lv_bipush (v := 25) hx hb dX1_restart_8 (by decide) ?_
  refine lv_bipush (v := 40) hx hb dX1_restart_10 (by decide) ?_
  refine nc_Vv (c_X1_fix hI hon ho ) hc hP hS hl.1 gd1_15 (nrecv (q := (RX1, TX1, 4)) hc (npic_eta hP) (nv_o hon ho (by decide) Nat.zero_lt_one) rfl rfl) ⟨rfl, rfl⟩ nok_X1_fix rfl ⟨Nat.le_of_ble_eq_true rfl, Nat.le_of_ble_eq_true rfl⟩ ⟨Nat.le_of_ble_eq_true rfl, Nat.le_of_ble_eq_true rfl⟩ dX1_restart_12 rfl (Nat.le_of_ble_eq_true rfl) (fun X1 H locs hp hP hS => ?_)
  rw [hp] at hP
  exact ne_v hc hP hS hr dX1_restart_15 rfl
set_option maxHeartbeats 4000000 in
set_option maxRecDepth 100000 in
theorem c_X1_isBeforeClose (hI : ninj ad on) (hon : on o) (ho : o < 2) : nMi l D dA ad on yX1_isBeforeClose cX1_isBeforeClose 1 (some .boolean) (nrm 1) [.ref (ad o 1 0)] (wdo X o S) (fun r X' => r = nb (oOpen S) ∧ X' = wdo X o S) := by
  refine nM_of hI (by decide +kernel) (Nat.le_of_ble_eq_true rfl) ?_
  intro p e s m args below meth cd ls hc hr _ hP hl hS
  have hx := hc.1
  have hb := hc.2.1
  have hl : lv_has ls 1 [(0, .ref (ad o 1 0))] := hl
  refine lv_aload_n hx hb dX1_isBeforeClose_0 rfl (lv_at hl 0 rfl) ?_
  refine g1_9 hc hP (nv_o hon ho (by decide) Nat.zero_lt_one) dX1_isBeforeClose_1 ?_
  refine lv_aload_n hx hb dX1_isBeforeClose_4 rfl (lv_at hl 0 rfl) ?_
  refine g1_19 hc hP (nv_o hon ho (by decide) Nat.zero_lt_one) dX1_isBeforeClose_5 ?_
  refine lv_icmp_gt (tgt := 15) hx hb dX1_isBeforeClose_8 (by decide) (fun c_8 => ?_) (fun c_8 => ?_)
  · refine lv_iconst (v := 0) hx hb dX1_isBeforeClose_15 (by decide) ?_
    exact ne_z hc hP hS hr rfl dX1_isBeforeClose_16 ⟨by clear hP hS hl hc hx hb hr; simp_all [-Int32.not_le, -Int32.not_lt, i32_lt, oOpen, nb_t, nb_f, nb_z, nb_o], rfl⟩
  · refine lv_iconst (v := 1) hx hb dX1_isBeforeClose_11 (by decide) ?_
    refine lv_goto (tgt := 16) hx hb dX1_isBeforeClose_12 (by decide) ?_
    exact ne_z hc hP hS hr rfl dX1_isBeforeClose_16 ⟨by clear hP hS hl hc hx hb hr; simp_all [-Int32.not_le, -Int32.not_lt, i32_lt, oOpen, nb_t, nb_f, nb_z, nb_o], rfl⟩
set_option maxHeartbeats 4000000 in
set_option maxRecDepth 100000 in
theorem c_X1_allowsChanges (hI : ninj ad on) (hon : on o) (ho : o < 2) : nMi l D dA ad on yX1_allowsChanges cX1_allowsChanges 1 (some .boolean) (nrm 1) [.ref (ad o 1 0)] (wdo X o S) (fun r X' => r = nb (oChg S) ∧ X' = wdo X o S) := by
  refine nM_of hI (by decide +kernel) (Nat.le_of_ble_eq_true rfl) ?_
  intro p e s m args below meth cd ls hc hr _ hP hl hS
  have hx := hc.1
  have hb := hc.2.1
  have hl : lv_has ls 1 [(0, .ref (ad o 1 0))] := hl
  refine lv_aload_n hx hb dX1_allowsChanges_0 rfl (lv_at hl 0 rfl) ?_
  refine g1_9 hc hP (nv_o hon ho (by decide) Nat.zero_lt_one) dX1_allowsChanges_1 ?_
  refine lv_aload_n hx hb dX1_allowsChanges_4 rfl (lv_at hl 0 rfl) ?_
  refine g1_22 hc hP (nv_o hon ho (by decide) Nat.zero_lt_one) dX1_allowsChanges_5 ?_
  refine lv_icmp_gt (tgt := 15) hx hb dX1_allowsChanges_8 (by decide) (fun c_8 => ?_) (fun c_8 => ?_)
  · refine lv_iconst (v := 0) hx hb dX1_allowsChanges_15 (by decide) ?_
    exact ne_z hc hP hS hr rfl dX1_allowsChanges_16 ⟨by clear hP hS hl hc hx hb hr; simp_all [-Int32.not_le, -Int32.not_lt, i32_lt, oChg, nb_t, nb_f, nb_z, nb_o], rfl⟩
  · refine lv_iconst (v := 1) hx hb dX1_allowsChanges_11 (by decide) ?_
    refine lv_goto (tgt := 16) hx hb dX1_allowsChanges_12 (by decide) ?_
    exact ne_z hc hP hS hr rfl dX1_allowsChanges_16 ⟨by clear hP hS hl hc hx hb hr; simp_all [-Int32.not_le, -Int32.not_lt, i32_lt, oChg, nb_t, nb_f, nb_z, nb_o], rfl⟩
set_option maxHeartbeats 4000000 in
set_option maxRecDepth 100000 in
theorem c_X1_isPollingOpen (hI : ninj ad on) (hon : on o) (ho : o < 2) : nMi l D dA ad on yX1_isPollingOpen cX1_isPollingOpen 1 (some .boolean) (nrm 1) [.ref (ad o 1 0)] (wdo X o S) (fun r X' => r = nb (oPoll S) ∧ X' = wdo X o S) := by
  refine nM_of hI (by decide +kernel) (Nat.le_of_ble_eq_true rfl) ?_
  intro p e s m args below meth cd ls hc hr _ hP hl hS
  have hx := hc.1
  have hb := hc.2.1
  have hl : lv_has ls 1 [(0, .ref (ad o 1 0))] := hl
  refine lv_aload_n hx hb dX1_isPollingOpen_0 rfl (lv_at hl 0 rfl) ?_
  refine g1_9 hc hP (nv_o hon ho (by decide) Nat.zero_lt_one) dX1_isPollingOpen_1 ?_
  refine lv_aload_n hx hb dX1_isPollingOpen_4 rfl (lv_at hl 0 rfl) ?_
  refine g1_25 hc hP (nv_o hon ho (by decide) Nat.zero_lt_one) dX1_isPollingOpen_5 ?_
  refine lv_icmp_lt (tgt := 15) hx hb dX1_isPollingOpen_8 (by decide) (fun c_8 => ?_) (fun c_8 => ?_)
  · refine lv_iconst (v := 0) hx hb dX1_isPollingOpen_15 (by decide) ?_
    exact ne_z hc hP hS hr rfl dX1_isPollingOpen_16 ⟨by clear hP hS hl hc hx hb hr; simp_all [-Int32.not_le, -Int32.not_lt, i32_lt, oPoll, nb_t, nb_f, nb_z, nb_o], rfl⟩
  · refine lv_iconst (v := 1) hx hb dX1_isPollingOpen_11 (by decide) ?_
    refine lv_goto (tgt := 16) hx hb dX1_isPollingOpen_12 (by decide) ?_
    exact ne_z hc hP hS hr rfl dX1_isPollingOpen_16 ⟨by clear hP hS hl hc hx hb hr; simp_all [-Int32.not_le, -Int32.not_lt, i32_lt, oPoll, nb_t, nb_f, nb_z, nb_o], rfl⟩
set_option maxHeartbeats 4000000 in
set_option maxRecDepth 100000 in
theorem c_X0_begin (hI : ninj ad on) (hon : on o) (ho : o < 2) (hi : i < 5) {a b : Int32} : nMv l D dA ad on yX0_begin cX0_begin 3 (nrm 1) [.ref (ad o 4 i), .int a, .int b] (wdo X o S) (fun X' => X' = wdo X o (areaBegin S i a b)) := by
  refine nM_of hI (by decide +kernel) (Nat.le_of_ble_eq_true rfl) ?_
  intro p e s m args below meth cd ls hc hr _ hP hl hS
  have hx := hc.1
  have hb := hc.2.1
  have hl : lv_has ls 3 [(0, .ref (ad o 4 i)), (1, .int a), (2, .int b)] := hl
  refine lv_aload_n hx hb dX0_begin_0 rfl (lv_at hl 0 rfl) ?_
  refine lv_iload_n hx hb dX0_begin_1 rfl (lv_at hl 1 rfl) ?_
  refine p0_7 hc hP hS (nv_o hon ho (by decide) hi) dX0_begin_2 (fun H locs hP hS => ?_)
  refine lv_aload_n hx hb dX0_begin_5 rfl (lv_at hl 0 rfl) ?_
  refine lv_iload_n hx hb dX0_begin_6 rfl (lv_at hl 2 rfl) ?_
  refine p0_13 hc hP hS (nv_o hon ho (by decide) hi) dX0_begin_7 (fun H locs hP hS => ?_)
  refine lv_aload_n hx hb dX0_begin_10 rfl (lv_at hl 0 rfl) ?_
  refine lv_iconst (v := 0) hx hb dX0_begin_11 (by decide) ?_
  refine p0_16 hc hP hS (nv_o hon ho (by decide) hi) (Or.inl rfl) dX0_begin_12 (fun H locs hP hS => ?_)
  exact ne_v hc hP hS hr dX0_begin_15 rfl
set_option maxHeartbeats 4000000 in
set_option maxRecDepth 100000 in
theorem c_X8_begin (hI : ninj ad on) (hon : on o) (ho : o < 2) (hi : i < 40) {a : Int32} : nMv l D dA ad on yX8_begin cX8_begin 2 (nrm 1) [.ref (ad o 6 i), .int a] (wdo X o S) (fun X' => X' = wdo X o (voterBegin S i a)) := by
  refine nM_of hI (by decide +kernel) (Nat.le_of_ble_eq_true rfl) ?_
  intro p e s m args below meth cd ls hc hr _ hP hl hS
  have hx := hc.1
  have hb := hc.2.1
  have hl : lv_has ls 2 [(0, .ref (ad o 6 i)), (1, .int a)] := hl
  refine lv_aload_n hx hb dX8_begin_0 rfl (lv_at hl 0 rfl) ?_
  refine lv_iload_n hx hb dX8_begin_1 rfl (lv_at hl 1 rfl) ?_
  refine p8_7 hc hP hS (nv_o hon ho (by decide) hi) dX8_begin_2 (fun H locs hP hS => ?_)
  refine lv_aload_n hx hb dX8_begin_5 rfl (lv_at hl 0 rfl) ?_
  refine lv_iconst (v := 1) hx hb dX8_begin_6 (by decide) ?_
  refine p8_13 hc hP hS (nv_o hon ho (by decide) hi) (Or.inr rfl) dX8_begin_7 (fun H locs hP hS => ?_)
  refine lv_aload_n hx hb dX8_begin_10 rfl (lv_at hl 0 rfl) ?_
  refine lv_iconst (v := 0) hx hb dX8_begin_11 (by decide) ?_
  refine p8_17 hc hP hS (nv_o hon ho (by decide) hi) dX8_begin_12 (fun H locs hP hS => ?_)
  exact ne_v hc hP hS hr dX8_begin_15 rfl
set_option maxHeartbeats 4000000 in
set_option maxRecDepth 100000 in
theorem c_X5_begin (hI : ninj ad on) (hon : on o) (ho : o < 2) (hi : i < 12) {a b c : Int32} : nMv l D dA ad on yX5_begin cX5_begin 4 (nrm 1) [.ref (ad o 11 i), .int a, .int b, .int c] (wdo X o S) (fun X' => X' = wdo X o (paperBegin S i a b c)) := by
  refine nM_of hI (by decide +kernel) (Nat.le_of_ble_eq_true rfl) ?_
  intro p e s m args below meth cd ls hc hr _ hP hl hS
  have hx := hc.1
  have hb := hc.2.1
  have hl : lv_has ls 4 [(0, .ref (ad o 11 i)), (1, .int a), (2, .int b), (3, .int c)] := hl
  refine lv_aload_n hx hb dX5_begin_0 rfl (lv_at hl 0 rfl) ?_
  refine lv_iload_n hx hb dX5_begin_1 rfl (lv_at hl 1 rfl) ?_
  refine p5_9 hc hP hS (nv_o hon ho (by decide) hi) dX5_begin_2 (fun H locs hP hS => ?_)
  refine lv_aload_n hx hb dX5_begin_5 rfl (lv_at hl 0 rfl) ?_
  refine lv_iload_n hx hb dX5_begin_6 rfl (lv_at hl 2 rfl) ?_
  refine p5_15 hc hP hS (nv_o hon ho (by decide) hi) dX5_begin_7 (fun H locs hP hS => ?_)
  refine lv_aload_n hx hb dX5_begin_10 rfl (lv_at hl 0 rfl) ?_
  refine lv_iload_n hx hb dX5_begin_11 rfl (lv_at hl 3 rfl) ?_
  refine p5_18 hc hP hS (nv_o hon ho (by decide) hi) dX5_begin_12 (fun H locs hP hS => ?_)
  refine lv_aload_n hx hb dX5_begin_15 rfl (lv_at hl 0 rfl) ?_
  refine lv_iconst (v := 0) hx hb dX5_begin_16 (by decide) ?_
  refine p5_21 hc hP hS (nv_o hon ho (by decide) hi) dX5_begin_17 (fun H locs hP hS => ?_)
  refine lv_aload_n hx hb dX5_begin_20 rfl (lv_at hl 0 rfl) ?_
  refine lv_iconst (v := 0) hx hb dX5_begin_21 (by decide) ?_
  refine p5_24 hc hP hS (nv_o hon ho (by decide) hi) dX5_begin_22 (fun H locs hP hS => ?_)
  refine lv_aload_n hx hb dX5_begin_25 rfl (lv_at hl 0 rfl) ?_
  refine lv_iconst (v := 0) hx hb dX5_begin_26 (by decide) ?_
  refine p5_27 hc hP hS (nv_o hon ho (by decide) hi) dX5_begin_27 (fun H locs hP hS => ?_)
  refine lv_aload_n hx hb dX5_begin_30 rfl (lv_at hl 0 rfl) ?_
  refine lv_iconst (v := 0) hx hb dX5_begin_31 (by decide) ?_
  refine p5_30 hc hP hS (nv_o hon ho (by decide) hi) (Or.inl rfl) dX5_begin_32 (fun H locs hP hS => ?_)
  refine lv_aload_n hx hb dX5_begin_35 rfl (lv_at hl 0 rfl) ?_
  refine lv_iconst (v := 0) hx hb dX5_begin_36 (by decide) ?_
  refine p5_34 hc hP hS (nv_o hon ho (by decide) hi) (Or.inl rfl) dX5_begin_37 (fun H locs hP hS => ?_)
  refine lv_aload_n hx hb dX5_begin_40 rfl (lv_at hl 0 rfl) ?_
  refine lv_iconst (v := 0) hx hb dX5_begin_41 (by decide) ?_
  refine p5_37 hc hP hS (nv_o hon ho (by decide) hi) dX5_begin_42 (fun H locs hP hS => ?_)
  refine lv_aload_n hx hb dX5_begin_45 rfl (lv_at hl 0 rfl) ?_
  refine lv_iconst (v := 0) hx hb dX5_begin_46 (by decide) ?_
  refine p5_40 hc hP hS (nv_o hon ho (by decide) hi) dX5_begin_47 (fun H locs hP hS => ?_)
  exact ne_v hc hP hS hr dX5_begin_50 rfl
set_option maxHeartbeats 4000000 in
set_option maxRecDepth 100000 in
theorem c_X5_renew (hI : ninj ad on) (hon : on o) (ho : o < 2) (hi : i < 12) {a : Int32} : nMv l D dA ad on yX5_renew cX5_renew 2 (nrm 1) [.ref (ad o 11 i), .int a] (wdo X o S) (fun X' => X' = wdo X o (paperRenew S i a)) := by
  refine nM_of hI (by decide +kernel) (Nat.le_of_ble_eq_true rfl) ?_
  intro p e s m args below meth cd ls hc hr _ hP hl hS
  have hx := hc.1
  have hb := hc.2.1
  have hl : lv_has ls 2 [(0, .ref (ad o 11 i)), (1, .int a)] := hl
  refine lv_aload_n hx hb dX5_renew_0 rfl (lv_at hl 0 rfl) ?_
  refine lv_iload_n hx hb dX5_renew_1 rfl (lv_at hl 1 rfl) ?_
  refine p5_18 hc hP hS (nv_o hon ho (by decide) hi) dX5_renew_2 (fun H locs hP hS => ?_)
  refine lv_aload_n hx hb dX5_renew_5 rfl (lv_at hl 0 rfl) ?_
  refine lv_dup hx hb dX5_renew_6 rfl ?_
  refine g5_27 hc hP (nv_o hon ho (by decide) hi) dX5_renew_7 ?_
  refine lv_iconst (v := 1) hx hb dX5_renew_10 (by decide) ?_
  refine lv_iadd hx hb dX5_renew_11 ?_
  refine p5_27 hc hP hS (nv_o hon ho (by decide) hi) dX5_renew_12 (fun H locs hP hS => ?_)
  refine lv_aload_n hx hb dX5_renew_15 rfl (lv_at hl 0 rfl) ?_
  refine lv_iconst (v := 0) hx hb dX5_renew_16 (by decide) ?_
  refine p5_30 hc hP hS (nv_o hon ho (by decide) hi) (Or.inl rfl) dX5_renew_17 (fun H locs hP hS => ?_)
  exact ne_v hc hP hS hr dX5_renew_20 rfl
set_option maxHeartbeats 4000000 in
set_option maxRecDepth 100000 in
theorem c_X7_begin (hI : ninj ad on) (hon : on o) (ho : o < 2) (hi : i < 150) {a b c d : Int32} (hc01 : c = 0 ∨ c = 1) : nMv l D dA ad on yX7_begin cX7_begin 5 (nrm 1) [.ref (ad o 13 i), .int a, .int b, .int c, .int d] (wdo X o S) (fun X' => X' = wdo X o (sigBegin S i a b c d)) := by
  refine nM_of hI (by decide +kernel) (Nat.le_of_ble_eq_true rfl) ?_
  intro p e s m args below meth cd ls hc hr _ hP hl hS
  have hx := hc.1
  have hb := hc.2.1
  have hl : lv_has ls 5 [(0, .ref (ad o 13 i)), (1, .int a), (2, .int b), (3, .int c), (4, .int d)] := hl
  refine lv_aload_n hx hb dX7_begin_0 rfl (lv_at hl 0 rfl) ?_
  refine lv_iload_n hx hb dX7_begin_1 rfl (lv_at hl 1 rfl) ?_
  refine p7_9 hc hP hS (nv_o hon ho (by decide) hi) dX7_begin_2 (fun H locs hP hS => ?_)
  refine lv_aload_n hx hb dX7_begin_5 rfl (lv_at hl 0 rfl) ?_
  refine lv_iload_n hx hb dX7_begin_6 rfl (lv_at hl 2 rfl) ?_
  refine p7_15 hc hP hS (nv_o hon ho (by decide) hi) dX7_begin_7 (fun H locs hP hS => ?_)
  refine lv_aload_n hx hb dX7_begin_10 rfl (lv_at hl 0 rfl) ?_
  refine lv_iload_n hx hb dX7_begin_11 rfl (lv_at hl 3 rfl) ?_
  refine p7_18 hc hP hS (nv_o hon ho (by decide) hi) hc01 dX7_begin_12 (fun H locs hP hS => ?_)
  refine lv_aload_n hx hb dX7_begin_15 rfl (lv_at hl 0 rfl) ?_
  refine lv_iload hx hb dX7_begin_16 (lv_at hl 4 rfl) ?_
  refine p7_22 hc hP hS (nv_o hon ho (by decide) hi) dX7_begin_18 (fun H locs hP hS => ?_)
  refine lv_aload_n hx hb dX7_begin_21 rfl (lv_at hl 0 rfl) ?_
  refine lv_iconst (v := 0) hx hb dX7_begin_22 (by decide) ?_
  refine p7_25 hc hP hS (nv_o hon ho (by decide) hi) dX7_begin_23 (fun H locs hP hS => ?_)
  exact ne_v hc hP hS hr dX7_begin_26 rfl
set_option maxHeartbeats 4000000 in
set_option maxRecDepth 100000 in
theorem c_X6_restart (hI : ninj ad on) (hon : on o) (ho : o < 2) : nMv l D dA ad on yX6_restart cX6_restart 1 (nrm 1) [.ref (ad o 2 0)] (wdo X o S) (fun X' => X' = wdo X o (rollRestart S)) := by
  refine nM_of hI (by decide +kernel) (Nat.le_of_ble_eq_true rfl) ?_
  intro p e s m args below meth cd ls hc hr _ hP hl hS
  have hx := hc.1
  have hb := hc.2.1
  have hl : lv_has ls 1 [(0, .ref (ad o 2 0))] := hl
  refine lv_aload_n hx hb dX6_restart_0 rfl (lv_at hl 0 rfl) ?_
  refine lv_iconst (v := 0) hx hb dX6_restart_1 (by decide) ?_
  refine p6_25 hc hP hS (nv_o hon ho (by decide) Nat.zero_lt_one) dX6_restart_2 (fun H locs hP hS => ?_)
  refine lv_aload_n hx hb dX6_restart_5 rfl (lv_at hl 0 rfl) ?_
  refine lv_iconst (v := 0) hx hb dX6_restart_6 (by decide) ?_
  refine p6_29 hc hP hS (nv_o hon ho (by decide) Nat.zero_lt_one) dX6_restart_7 (fun H locs hP hS => ?_)
  exact ne_v hc hP hS hr dX6_restart_10 rfl
set_option maxHeartbeats 4000000 in
set_option maxRecDepth 100000 in
theorem c_X6_beginArea (hI : ninj ad on) (hon : on o) (ho : o < 2) {a b : Int32} (hk : vp_in (S 2 0 2) 5) : nMv l D dA ad on yX6_beginArea cX6_beginArea 3 (nrm 2) [.ref (ad o 2 0), .int a, .int b] (wdo X o S) (fun X' => X' = wdo X o (rollArea S a b)) := by
  refine nM_of hI (by decide +kernel) (Nat.le_of_ble_eq_true rfl) ?_
  intro p e s m args below meth cd ls hc hr _ hP hl hS
  have hx := hc.1
  have hb := hc.2.1
  have hl : lv_has ls 3 [(0, .ref (ad o 2 0)), (1, .int a), (2, .int b)] := hl
  refine lv_aload_n hx hb dX6_beginArea_0 rfl (lv_at hl 0 rfl) ?_
  refine g6_11 hc hP (nv_o hon ho (by decide) Nat.zero_lt_one) dX6_beginArea_1 ?_
  refine lv_aload_n hx hb dX6_beginArea_4 rfl (lv_at hl 0 rfl) ?_
  refine g6_25 hc hP (nv_o hon ho (by decide) Nat.zero_lt_one) dX6_beginArea_5 ?_
  refine ga_3 hc hP (nv_o hon ho (by decide) Nat.zero_lt_one) hk dX6_beginArea_8 ?_
  refine lv_iload_n hx hb dX6_beginArea_9 rfl (lv_at hl 1 rfl) ?_
  refine lv_iload_n hx hb dX6_beginArea_10 rfl (lv_at hl 2 rfl) ?_
  refine nc_Vv (c_X0_begin hI hon ho (vp_lt hk)) hc hP hS hl.1 gd6_32 (nrecv (q := (RX0, TX0, 3)) hc (npic_eta hP) (nv_o hon ho (by decide) (vp_lt hk)) rfl rfl) ⟨rfl, rfl⟩ nok_X0_begin rfl ⟨Nat.le_of_ble_eq_true rfl, Nat.le_of_ble_eq_true rfl⟩ ⟨Nat.le_of_ble_eq_true rfl, Nat.le_of_ble_eq_true rfl⟩ dX6_beginArea_11 rfl (Nat.le_of_ble_eq_true rfl) (fun X1 H locs hp hP hS => ?_)
  rw [hp] at hP
  refine lv_aload_n hx hb dX6_beginArea_14 rfl (lv_at hl 0 rfl) ?_
  refine lv_dup hx hb dX6_beginArea_15 rfl ?_
  refine g6_25 hc hP (nv_o hon ho (by decide) Nat.zero_lt_one) dX6_beginArea_16 ?_
  refine lv_iconst (v := 1) hx hb dX6_beginArea_19 (by decide) ?_
  refine lv_iadd hx hb dX6_beginArea_20 ?_
  refine p6_25 hc hP hS (nv_o hon ho (by decide) Nat.zero_lt_one) dX6_beginArea_21 (fun H locs hP hS => ?_)
  exact ne_v hc hP hS hr dX6_beginArea_24 rfl
set_option maxHeartbeats 4000000 in
set_option maxRecDepth 100000 in
theorem c_X6_beginVoter (hI : ninj ad on) (hon : on o) (ho : o < 2) {a : Int32} (hk : vp_in (S 2 0 3) 40) : nMv l D dA ad on yX6_beginVoter cX6_beginVoter 2 (nrm 2) [.ref (ad o 2 0), .int a] (wdo X o S) (fun X' => X' = wdo X o (rollVoter S a)) := by
  refine nM_of hI (by decide +kernel) (Nat.le_of_ble_eq_true rfl) ?_
  intro p e s m args below meth cd ls hc hr _ hP hl hS
  have hx := hc.1
  have hb := hc.2.1
  have hl : lv_has ls 2 [(0, .ref (ad o 2 0)), (1, .int a)] := hl
  refine lv_aload_n hx hb dX6_beginVoter_0 rfl (lv_at hl 0 rfl) ?_
  refine g6_19 hc hP (nv_o hon ho (by decide) Nat.zero_lt_one) dX6_beginVoter_1 ?_
  refine lv_aload_n hx hb dX6_beginVoter_4 rfl (lv_at hl 0 rfl) ?_
  refine g6_29 hc hP (nv_o hon ho (by decide) Nat.zero_lt_one) dX6_beginVoter_5 ?_
  refine ga_5 hc hP (nv_o hon ho (by decide) Nat.zero_lt_one) hk dX6_beginVoter_8 ?_
  refine lv_iload_n hx hb dX6_beginVoter_9 rfl (lv_at hl 1 rfl) ?_
  refine nc_Vv (c_X8_begin hI hon ho (vp_lt hk)) hc hP hS hl.1 gd6_36 (nrecv (q := (RX8, TX8, 3)) hc (npic_eta hP) (nv_o hon ho (by decide) (vp_lt hk)) rfl rfl) ⟨rfl, rfl⟩ nok_X8_begin rfl ⟨Nat.le_of_ble_eq_true rfl, Nat.le_of_ble_eq_true rfl⟩ ⟨Nat.le_of_ble_eq_true rfl, Nat.le_of_ble_eq_true rfl⟩ dX6_beginVoter_10 rfl (Nat.le_of_ble_eq_true rfl) (fun X1 H locs hp hP hS => ?_)
  rw [hp] at hP
  refine lv_aload_n hx hb dX6_beginVoter_13 rfl (lv_at hl 0 rfl) ?_
  refine lv_dup hx hb dX6_beginVoter_14 rfl ?_
  refine g6_29 hc hP (nv_o hon ho (by decide) Nat.zero_lt_one) dX6_beginVoter_15 ?_
  refine lv_iconst (v := 1) hx hb dX6_beginVoter_18 (by decide) ?_
  refine lv_iadd hx hb dX6_beginVoter_19 ?_
  refine p6_29 hc hP hS (nv_o hon ho (by decide) Nat.zero_lt_one) dX6_beginVoter_20 (fun H locs hP hS => ?_)
  exact ne_v hc hP hS hr dX6_beginVoter_23 rfl
set_option maxHeartbeats 4000000 in
set_option maxRecDepth 100000 in
theorem c_X3_restart (hI : ninj ad on) (hon : on o) (ho : o < 2) : nMv l D dA ad on yX3_restart cX3_restart 1 (nrm 1) [.ref (ad o 7 0)] (wdo X o S) (fun X' => X' = wdo X o (letRestart S)) := by
  refine nM_of hI (by decide +kernel) (Nat.le_of_ble_eq_true rfl) ?_
  intro p e s m args below meth cd ls hc hr _ hP hl hS
  have hx := hc.1
  have hb := hc.2.1
  have hl : lv_has ls 1 [(0, .ref (ad o 7 0))] := hl
  refine lv_aload_n hx hb dX3_restart_0 rfl (lv_at hl 0 rfl) ?_
  refine lv_iconst (v := 0) hx hb dX3_restart_1 (by decide) ?_
  refine p3_19 hc hP hS (nv_o hon ho (by decide) Nat.zero_lt_one) (Or.inl rfl) dX3_restart_2 (fun H locs hP hS => ?_)
  exact ne_v hc hP hS hr dX3_restart_5 rfl
set_option maxHeartbeats 4000000 in
set_option maxRecDepth 100000 in
theorem c_X3_exchange (hI : ninj ad on) (hon : on o) (ho : o < 2) {a b : Int32} (ha : vp_in a 26) (hb2 : vp_in b 26) : nMv l D dA ad on yX3_exchange cX3_exchange 4 (nrm 1) [.ref (ad o 7 0), .int a, .int b] (wdo X o S) (fun X' => X' = wdo X o (letExch S a b)) := by
  refine nM_of hI (by decide +kernel) (Nat.le_of_ble_eq_true rfl) ?_
  intro p e s m args below meth cd ls hc hr _ hP hl hS
  have hx := hc.1
  have hb := hc.2.1
  have hl : lv_has ls 4 [(0, .ref (ad o 7 0)), (1, .int a), (2, .int b)] := hl
  refine lv_aload_n hx hb dX3_exchange_0 rfl (lv_at hl 0 rfl) ?_
  refine g3_9 hc hP (nv_o hon ho (by decide) Nat.zero_lt_one) dX3_exchange_1 ?_
  refine lv_iload_n hx hb dX3_exchange_4 rfl (lv_at hl 1 rfl) ?_
  refine la_8 hc hP (nv_o hon ho (by decide) Nat.zero_lt_one) ha dX3_exchange_5 ?_
  refine lv_istore_n (lv' := [(3, .int _), (0, .ref _), (1, .int _), (2, .int _)]) hx hb dX3_exchange_6 rfl hl (by decide) rfl (fun ls hl => ?_)
  refine lv_aload_n hx hb dX3_exchange_7 rfl (lv_at hl 1 rfl) ?_
  refine g3_9 hc hP (nv_o hon ho (by decide) Nat.zero_lt_one) dX3_exchange_8 ?_
  refine lv_iload_n hx hb dX3_exchange_11 rfl (lv_at hl 2 rfl) ?_
  refine lv_aload_n hx hb dX3_exchange_12 rfl (lv_at hl 1 rfl) ?_
  refine g3_9 hc hP (nv_o hon ho (by decide) Nat.zero_lt_one) dX3_exchange_13 ?_
  refine lv_iload_n hx hb dX3_exchange_16 rfl (lv_at hl 3 rfl) ?_
  refine la_8 hc hP (nv_o hon ho (by decide) Nat.zero_lt_one) hb2 dX3_exchange_17 ?_
  refine sa_8 hc hP hS (nv_o hon ho (by decide) Nat.zero_lt_one) ha dX3_exchange_18 (fun H locs hP hS => ?_)
  refine lv_aload_n hx hb dX3_exchange_19 rfl (lv_at hl 1 rfl) ?_
  refine g3_9 hc hP (nv_o hon ho (by decide) Nat.zero_lt_one) dX3_exchange_20 ?_
  refine lv_iload_n hx hb dX3_exchange_23 rfl (lv_at hl 3 rfl) ?_
  refine lv_iload_n hx hb dX3_exchange_24 rfl (lv_at hl 0 rfl) ?_
  refine sa_8 hc hP hS (nv_o hon ho (by decide) Nat.zero_lt_one) hb2 dX3_exchange_25 (fun H locs hP hS => ?_)
  exact ne_v hc hP hS hr dX3_exchange_26 rfl
set_option maxHeartbeats 4000000 in
set_option maxRecDepth 100000 in
theorem c_X9_isSmallLetter (hI : ninj ad on) {c : Int32} : nMi l D dA ad on yX9_isSmallLetter cX9_isSmallLetter 1 (some .boolean) (nrm 1) [.int c] (X) (fun r X' => r = nb (cSmall c) ∧ X' = X) := by
  refine nM_of hI (by decide +kernel) (Nat.le_of_ble_eq_true rfl) ?_
  intro p e s m args below meth cd ls hc hr _ hP hl hS
  have hx := hc.1
  have hb := hc.2.1
  have hl : lv_has ls 1 [(0, .int c)] := hl
  refine lv_iload_n hx hb dX9_isSmallLetter_0 rfl (lv_at hl 0 rfl) ?_
  refine lv_bipush (v := 97) hx hb dX9_isSmallLetter_1 (by decide) ?_
  refine lv_icmp_lt (tgt := 16) hx hb dX9_isSmallLetter_3 (by decide) (fun c_3 => ?_) (fun c_3 => ?_)
  · refine lv_iconst (v := 0) hx hb dX9_isSmallLetter_16 (by decide) ?_
    exact ne_z hc hP hS hr rfl dX9_isSmallLetter_17 ⟨by clear hP hS hl hc hx hb hr; simp_all [-Int32.not_le, -Int32.not_lt, i32_lt, cSmall, nb_t, nb_f, nb_z, nb_o], rfl⟩
  · refine lv_iload_n hx hb dX9_isSmallLetter_6 rfl (lv_at hl 0 rfl) ?_
    refine lv_bipush (v := 122) hx hb dX9_isSmallLetter_7 (by decide) ?_
    refine lv_icmp_gt (tgt := 16) hx hb dX9_isSmallLetter_9 (by decide) (fun c_9 => ?_) (fun c_9 => ?_)
    · refine lv_iconst (v := 0) hx hb dX9_isSmallLetter_16 (by decide) ?_
      exact ne_z hc hP hS hr rfl dX9_isSmallLetter_17 ⟨by clear hP hS hl hc hx hb hr; simp_all [-Int32.not_le, -Int32.not_lt, i32_lt, cSmall, nb_t, nb_f, nb_z, nb_o], rfl⟩
    · refine lv_iconst (v := 1) hx hb dX9_isSmallLetter_12 (by decide) ?_
      refine lv_goto (tgt := 17) hx hb dX9_isSmallLetter_13 (by decide) ?_
      exact ne_z hc hP hS hr rfl dX9_isSmallLetter_17 ⟨by clear hP hS hl hc hx hb hr; simp_all [-Int32.not_le, -Int32.not_lt, i32_lt, cSmall, nb_t, nb_f, nb_z, nb_o], rfl⟩
set_option maxHeartbeats 4000000 in
set_option maxRecDepth 100000 in
theorem c_X9_mayFollow (hI : ninj ad on) {b c : Int32} : nMi l D dA ad on yX9_mayFollow cX9_mayFollow 2 (some .boolean) (nrm 2) [.int b, .int c] (X) (fun r X' => r = nb (cFollow b c) ∧ X' = X) := by
  refine nM_of hI (by decide +kernel) (Nat.le_of_ble_eq_true rfl) ?_
  intro p e s m args below meth cd ls hc hr _ hP hl hS
  have hx := hc.1
  have hb := hc.2.1
  have hl : lv_has ls 2 [(0, .int b), (1, .int c)] := hl
  refine lv_iload_n hx hb dX9_mayFollow_0 rfl (lv_at hl 1 rfl) ?_
  refine lv_bipush (v := 32) hx hb dX9_mayFollow_1 (by decide) ?_
  refine lv_icmp_eq (tgt := 19) hx hb dX9_mayFollow_3 (by decide) (fun c_3 => ?_) (fun c_3 => ?_)
  · refine lv_iconst (v := 1) hx hb dX9_mayFollow_19 (by decide) ?_
    refine lv_goto (tgt := 24) hx hb dX9_mayFollow_20 (by decide) ?_
    exact ne_z hc hP hS hr rfl dX9_mayFollow_24 ⟨by clear hP hS hl hc hx hb hr; simp_all [-Int32.not_le, -Int32.not_lt, i32_lt, cFollow, nb_t, nb_f, nb_z, nb_o], rfl⟩
  · refine lv_iload_n hx hb dX9_mayFollow_6 rfl (lv_at hl 0 rfl) ?_
    refine lv_bipush (v := 32) hx hb dX9_mayFollow_7 (by decide) ?_
    refine lv_icmp_eq (tgt := 23) hx hb dX9_mayFollow_9 (by decide) (fun c_9 => ?_) (fun c_9 => ?_)
    · refine lv_iconst (v := 0) hx hb dX9_mayFollow_23 (by decide) ?_
      exact ne_z hc hP hS hr rfl dX9_mayFollow_24 ⟨by clear hP hS hl hc hx hb hr; simp_all [-Int32.not_le, -Int32.not_lt, i32_lt, cFollow, nb_t, nb_f, nb_z, nb_o], rfl⟩
    · refine lv_iload_n hx hb dX9_mayFollow_12 rfl (lv_at hl 1 rfl) ?_
      refine nc_Si (c_X9_isSmallLetter hI) hc hP hS hl.1 gd9_353 ⟨rfl, rfl⟩ nok_X9_isSmallLetter rfl ⟨Nat.le_of_ble_eq_true rfl, Nat.le_of_ble_eq_true rfl⟩ ⟨Nat.le_of_ble_eq_true rfl, Nat.le_of_ble_eq_true rfl⟩ dX9_mayFollow_13 rfl (Nat.le_of_ble_eq_true rfl) (fun r X1 H locs hp hP hS => ?_)
      obtain ⟨hr9, hX9⟩ := hp
      rw [hX9] at hP
      subst hr9
      refine lv_if_eq (tgt := 23) hx hb dX9_mayFollow_16 (by decide) (fun c_16 => ?_) (fun c_16 => ?_)
      · refine lv_iconst (v := 0) hx hb dX9_mayFollow_23 (by decide) ?_
        exact ne_z hc hP hS hr rfl dX9_mayFollow_24 ⟨by clear hP hS hl hc hx hb hr; simp_all [-Int32.not_le, -Int32.not_lt, i32_lt, cFollow, nb_t, nb_f, nb_z, nb_o], rfl⟩
      · refine lv_iconst (v := 1) hx hb dX9_mayFollow_19 (by decide) ?_
        refine lv_goto (tgt := 24) hx hb dX9_mayFollow_20 (by decide) ?_
        exact ne_z hc hP hS hr rfl dX9_mayFollow_24 ⟨by clear hP hS hl hc hx hb hr; simp_all [-Int32.not_le, -Int32.not_lt, i32_lt, cFollow, nb_t, nb_f, nb_z, nb_o], rfl⟩
set_option maxHeartbeats 4000000 in
set_option maxRecDepth 100000 in
theorem c_X9_nameOf (hI : ninj ad on) {a b c d : Int32} : nMi l D dA ad on yX9_nameOf cX9_nameOf 4 (some .int) (nrm 1) [.int a, .int b, .int c, .int d] (X) (fun r X' => r = cName a b c d ∧ X' = X) := by
  refine nM_of hI (by decide +kernel) (Nat.le_of_ble_eq_true rfl) ?_
  intro p e s m args below meth cd ls hc hr _ hP hl hS
  have hx := hc.1
  have hb := hc.2.1
  have hl : lv_has ls 4 [(0, .int a), (1, .int b), (2, .int c), (3, .int d)] := hl
  refine lv_iload_n hx hb dX9_nameOf_0 rfl (lv_at hl 0 rfl) ?_
  refine lv_bipush (v := 24) hx hb dX9_nameOf_1 (by decide) ?_
  refine lv_ishl hx hb dX9_nameOf_3 ?_
  refine lv_iload_n hx hb dX9_nameOf_4 rfl (lv_at hl 1 rfl) ?_
  refine lv_bipush (v := 16) hx hb dX9_nameOf_5 (by decide) ?_
  refine lv_ishl hx hb dX9_nameOf_7 ?_
  refine lv_ior hx hb dX9_nameOf_8 ?_
  refine lv_iload_n hx hb dX9_nameOf_9 rfl (lv_at hl 2 rfl) ?_
  refine lv_bipush (v := 8) hx hb dX9_nameOf_10 (by decide) ?_
  refine lv_ishl hx hb dX9_nameOf_12 ?_
  refine lv_ior hx hb dX9_nameOf_13 ?_
  refine lv_iload_n hx hb dX9_nameOf_14 rfl (lv_at hl 3 rfl) ?_
  refine lv_ior hx hb dX9_nameOf_15 ?_
  exact ne_i hc hP hS hr dX9_nameOf_16 ⟨rfl, rfl⟩
set_option maxHeartbeats 4000000 in
set_option maxRecDepth 100000 in
theorem c_X9_characterOf (hI : ninj ad on) {x k : Int32} : nMi l D dA ad on yX9_characterOf cX9_characterOf 2 (some .char) (nrm 1) [.int x, .int k] (X) (fun r X' => r = cChar x k ∧ X' = X) := by
  refine nM_of hI (by decide +kernel) (Nat.le_of_ble_eq_true rfl) ?_
  intro p e s m args below meth cd ls hc hr _ hP hl hS
  have hx := hc.1
  have hb := hc.2.1
  have hl : lv_has ls 2 [(0, .int x), (1, .int k)] := hl
  refine lv_iload_n hx hb dX9_characterOf_0 rfl (lv_at hl 0 rfl) ?_
  refine lv_bipush (v := 8) hx hb dX9_characterOf_1 (by decide) ?_
  refine lv_iconst (v := 3) hx hb dX9_characterOf_3 (by decide) ?_
  refine lv_iload_n hx hb dX9_characterOf_4 rfl (lv_at hl 1 rfl) ?_
  refine lv_isub hx hb dX9_characterOf_5 ?_
  refine lv_imul hx hb dX9_characterOf_6 ?_
  refine lv_ishr hx hb dX9_characterOf_7 ?_
  refine lv_sipush (v := 255) hx hb dX9_characterOf_8 (by decide) ?_
  refine lv_iand hx hb dX9_characterOf_11 ?_
  refine lv_i2c (v := _) hx hb dX9_characterOf_12 rfl ?_
  exact ne_z hc hP hS hr (pk_nc _) dX9_characterOf_13 ⟨rfl, rfl⟩
set_option maxHeartbeats 4000000 in
set_option maxRecDepth 100000 in
theorem c_X4_isWithdrawn (hI : ninj ad on) (hon : on o) (ho : o < 2) {x : Int32} : nMi l D dA ad on yX4_isWithdrawn cX4_isWithdrawn 2 (some .boolean) (nrm 1) [.ref (ad o 0 0), .int x] (wdo X o S) (fun r X' => r = nb (oGone S x) ∧ X' = wdo X o S) := by
  refine nM_of hI (by decide +kernel) (Nat.le_of_ble_eq_true rfl) ?_
  intro p e s m args below meth cd ls hc hr _ hP hl hS
  have hx := hc.1
  have hb := hc.2.1
  have hl : lv_has ls 2 [(0, .ref (ad o 0 0)), (1, .int x)] := hl
  refine lv_aload_n hx hb dX4_isWithdrawn_0 rfl (lv_at hl 0 rfl) ?_
  refine g4_63 hc hP (nv_o hon ho (by decide) Nat.zero_lt_one) dX4_isWithdrawn_1 ?_
  refine lv_iconst (v := 1) hx hb dX4_isWithdrawn_4 (by decide) ?_
  refine lv_iload_n hx hb dX4_isWithdrawn_5 rfl (lv_at hl 1 rfl) ?_
  refine lv_ishl hx hb dX4_isWithdrawn_6 ?_
  refine lv_iand hx hb dX4_isWithdrawn_7 ?_
  refine lv_if_eq (tgt := 15) hx hb dX4_isWithdrawn_8 (by decide) (fun c_8 => ?_) (fun c_8 => ?_)
  · refine lv_iconst (v := 0) hx hb dX4_isWithdrawn_15 (by decide) ?_
    exact ne_z hc hP hS hr rfl dX4_isWithdrawn_16 ⟨by clear hP hS hl hc hx hb hr; simp_all [-Int32.not_le, -Int32.not_lt, i32_lt, oGone, nb_t, nb_f, nb_z, nb_o], rfl⟩
  · refine lv_iconst (v := 1) hx hb dX4_isWithdrawn_11 (by decide) ?_
    refine lv_goto (tgt := 16) hx hb dX4_isWithdrawn_12 (by decide) ?_
    exact ne_z hc hP hS hr rfl dX4_isWithdrawn_16 ⟨by clear hP hS hl hc hx hb hr; simp_all [-Int32.not_le, -Int32.not_lt, i32_lt, oGone, nb_t, nb_f, nb_z, nb_o], rfl⟩
end N10
