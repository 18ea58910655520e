/-! the office: the loops -/
theorem i32_inc (x : Int32) : x + Int32.ofInt 1 = x + 1 := by rw [show Int32.ofInt 1 = 1 from by decide]
theorem oOk.off14 {S T : NSt} (h : ∀ k i j, k ≠ 14 → T k i j = S k i j) (g : oOk S) : oOk T := by
  obtain ⟨g1, g2, g3, g4, g5, g6, g7, g8, g9, g10⟩ := g
  have e1 : onp T = onp S := by unfold onp; rw [h 0 0 6 (by decide)]
  have e2 : ons T = ons S := by unfold ons; rw [h 0 0 7 (by decide)]
  have e3 : onv T = onv S := by unfold onv; rw [h 2 0 3 (by decide)]
  have e4 : ona T = ona S := by unfold ona; rw [h 2 0 2 (by decide)]
  refine ⟨?_, ?_, ?_, ?_, ?_, ?_, ?_, ?_, ?_, ?_⟩
  · rw [e1, h 0 0 6 (by decide)]; exact g1
  · rw [e1]; exact g2
  · rw [e2, h 0 0 7 (by decide)]; exact g3
  · rw [e2]; exact g4
  · rw [e3, h 2 0 3 (by decide)]; exact g5
  · rw [e3]; exact g6
  · rw [e4, h 2 0 2 (by decide)]; exact g7
  · rw [e4]; exact g8
  · intro k hk
    rw [e1] at hk
    rw [h 11 k 0 (by decide)]; exact g9 k hk
  · intro k hk
    rw [e2] at hk
    rw [h 13 k 0 (by decide), h 13 k 1 (by decide)]; exact g10 k hk
def gcond (S : NSt) (x : Int32) (k : Nat) : Bool := decide (S 13 k 0 = x) && !decide (S 13 k 2 = 0) && !decide (S 6 (nix (S 13 k 1)) 1 = 0) && decide ((S 13 k 3 &&& (1 <<< (x &&& 31))) = 0)
def gth (S : NSt) (x : Int32) : Nat → Nat × NSt
  | 0 => (0, S)
  | n + 1 => if gcond S x n then ((gth S x n).1 + 1, nput (gth S x n).2 14 0 (gth S x n).1 (S 13 n 3 &&& (S 0 0 8 ^^^ -1))) else gth S x n
theorem gth_le (S : NSt) (x : Int32) : ∀ n, (gth S x n).1 ≤ n
  | 0 => Nat.le_refl 0
  | n + 1 => by
    have h := gth_le S x n
    unfold gth
    split
    · exact Nat.succ_le_succ h
    · exact Nat.le_succ_of_le h
theorem gth_ne (S : NSt) (x : Int32) : ∀ (n k i j : Nat), k ≠ 14 → (gth S x n).2 k i j = S k i j
  | 0, _, _, _, _ => rfl
  | n + 1, k, i, j, hk => by
    have h := gth_ne S x n k i j hk
    unfold gth
    split
    · show nput _ _ _ _ _ k i j = _
      unfold nput
      rw [if_neg (fun z => hk z.1)]
      exact h
    · exact h
def iors (f : Nat → Int32) : Nat → Int32
  | 0 => 0
  | n + 1 => iors f n ||| f n
theorem iors_s (f : Nat → Int32) (n : Nat) : iors f (n + 1) = iors f n ||| f n := rfl
def oCw (T : NSt) (t : Int32) (n : Nat) : Int32 := isum (fun k => if (T 14 0 k &&& (t ^^^ -1)) = 0 then 1 else 0) n
def oAll (T : NSt) (n : Nat) : Int32 := iors (fun k => T 14 0 k) n
def oFreed (S : NSt) (x z : Int32) : Int32 := oCw (gth S x (ons S)).2 (1 <<< (z &&& 31)) (gth S x (ons S)).1 - oCw (gth S x (ons S)).2 0 (gth S x (ons S)).1
def rkv (S : NSt) (x : Int32) : Nat → Int32
  | 0 => 0
  | n + 1 => rkv S x n * 27 + (if cSmall (cChar x (nI n)) then S 9 0 (nix (cChar x (nI n) - 97)) + 1 else 0)
theorem rkv_s (S : NSt) (x : Int32) (n : Nat) : rkv S x (n + 1) = rkv S x n * 27 + (if cSmall (cChar x (nI n)) then S 9 0 (nix (cChar x (nI n) - 97)) + 1 else 0) := rfl
def oBef (S : NSt) (x z : Int32) : Bool := decide (rkv S (S 11 (nix x) 2) 4 < rkv S (S 11 (nix z) 2) 4) || (decide (rkv S (S 11 (nix x) 2) 4 = rkv S (S 11 (nix z) 2) 4) && decide (x < z))
def oPlace (S : NSt) (x : Int32) : Int32 := isum (fun k => if oIn S (nI k) (S 11 (nix x) 0) && oBef S (nI k) x then 1 else 0) (onp S)
def oAt (S : NSt) (a q : Int32) : Int32 := match ffind (fun k => oIn S (nI k) a && decide (oPlace S (nI k) = q)) (onp S) with
  | some k => nI k
  | none => -1
def oVotes (S : NSt) (a : Int32) : Int32 := isum (fun k => if S 11 k 0 = a then S 11 k 4 else 0) (onp S)
def mvs (S : NSt) (a : Int32) : Nat → Int32
  | 0 => -1
  | n + 1 => if oIn S (nI n) a && (decide (mvs S a n = -1) || decide (S 11 (nix (mvs S a n)) 4 < S 11 n 4)) then nI n else mvs S a n
theorem mvs_s (S : NSt) (a : Int32) (n : Nat) : mvs S a (n + 1) = if oIn S (nI n) a && (decide (mvs S a n = -1) || decide (S 11 (nix (mvs S a n)) 4 < S 11 n 4)) then nI n else mvs S a n := rfl
theorem mvs_in (S : NSt) (a : Int32) : ∀ n, n < 2 ^ 31 → mvs S a n = -1 ∨ vp_in (mvs S a n) n
  | 0, _ => Or.inl rfl
  | n + 1, hn => by
    rw [mvs_s]
    split
    · exact Or.inr (vp_in_nI (Nat.lt_succ_self n) hn)
    · exact (mvs_in S a n (by omega)).elim Or.inl (fun h => Or.inr (vp_mono h (Nat.le_succ n)))
def oDep (S : NSt) (x : Int32) : Int32 := if oGone S x then (if S 11 (nix x) 7 = 0 then 1 else 2) else if oOpen S then 0 else if oRej S x then 1 else if S 11 (nix x) 6 = 0 then (if S 4 (nix (S 11 (nix x) 0)) 2 = 0 then 0 else if 20 * S 11 (nix x) 4 < oVotes S (S 11 (nix x) 0) then 2 else 1) else if oRepl S x then 0 else 1
def oLostIn (S : NSt) (a : Int32) : Int32 := isum (fun k => if oIn S (nI k) a && decide (oDep S (nI k) = 2) then 1 else 0) (onp S)
def oSum (S : NSt) (q : Int32) : Int32 := isum (fun k => if oDep S (nI k) = q then S 11 k 3 else 0) (onp S)
def oSumPaid (S : NSt) : Int32 := isum (fun k => S 11 k 3) (onp S)
def oRoll (S : NSt) : Int32 := isum (fun k => if S 6 k 1 = 0 then 0 else 1) (onv S)
def oBegin (S : NSt) (a b c : Int32) : NSt := nput (paperBegin S (onp S) a b c) 0 0 6 (S 0 0 6 + 1)
def oLocal (S : NSt) (x v : Int32) : Bool := !decide (S 6 (nix v) 1 = 0) && decide (S 6 (nix v) 0 = S 11 (nix x) 0)
def oSig1 (S : NSt) (x v : Int32) : NSt := nput (sigBegin S (ons S) x v (nb (oLocal S x v)) (S 6 (nix v) 2)) 0 0 7 (S 0 0 7 + 1)
def oSign (S : NSt) (x v : Int32) : NSt := if oLocal S x v then nput (oSig1 S x v) 6 (nix v) 2 (S 6 (nix v) 2 ||| (1 <<< (x &&& 31))) else oSig1 S x v
def oRestart (S : NSt) : NSt := nput (nput (nput (letRestart (rollRestart (calRestart S))) 0 0 6 0) 0 0 7 0) 0 0 8 0
theorem cSmall_in {c : Int32} (h : cSmall c = true) : vp_in (c - 97) 26 := by
  simp only [cSmall, Bool.and_eq_true, decide_eq_true_eq] at h
  obtain ⟨h1, h2⟩ := h
  rw [Int32.le_iff_toInt_le] at h1 h2
  have e1 : (97 : Int32).toInt = 97 := by decide
  have e2 : (122 : Int32).toInt = 122 := by decide
  rw [e1] at h1
  rw [e2] at h2
  rw [vp_in_iff, Int32.toInt_sub, e1]
  rw [Int.bmod_eq_of_le (by omega) (by omega)]
  omega
set_option maxRecDepth 20000 in
theorem nbn4_11 : Cond.methodLinkNest "Nominator$Office" 11 yX1_init "Nominator" ∈ nbw := List.mem_filter.mpr ⟨List.mem_of_getElem? (i := 39) (by rfl), by rfl⟩
set_option maxRecDepth 20000 in
theorem nbn6_23 : Cond.methodLinkNest "Nominator$Roll" 23 yX0_init "Nominator" ∈ nbw := List.mem_filter.mpr ⟨List.mem_of_getElem? (i := 69) (by rfl), by rfl⟩
set_option maxRecDepth 20000 in
theorem nbn6_24 : Cond.methodLinkNest "Nominator$Roll" 24 yX8_init "Nominator" ∈ nbw := List.mem_filter.mpr ⟨List.mem_of_getElem? (i := 88) (by rfl), by rfl⟩
set_option maxRecDepth 20000 in
theorem nbn4_27 : Cond.methodLinkNest "Nominator$Office" 27 yX3_init "Nominator" ∈ nbw := List.mem_filter.mpr ⟨List.mem_of_getElem? (i := 129) (by rfl), by rfl⟩
set_option maxRecDepth 20000 in
theorem nbn4_48 : Cond.methodLinkNest "Nominator$Office" 48 yX5_init "Nominator" ∈ nbw := List.mem_filter.mpr ⟨List.mem_of_getElem? (i := 152) (by rfl), by rfl⟩
set_option maxRecDepth 20000 in
theorem nbn4_49 : Cond.methodLinkNest "Nominator$Office" 49 yX7_init "Nominator" ∈ nbw := List.mem_filter.mpr ⟨List.mem_of_getElem? (i := 205) (by rfl), by rfl⟩
set_option maxRecDepth 20000 in
theorem nbn9_21 : Cond.methodLinkNest "Nominator" 21 yX2_init "Nominator" ∈ nbw := List.mem_filter.mpr ⟨List.mem_of_getElem? (i := 288) (by rfl), by rfl⟩
set_option maxRecDepth 20000 in
theorem nbn3_28 : Cond.methodLinkNest "Nominator$Letters" 28 yX9_characterOf "Nominator" ∈ nbw := List.mem_filter.mpr ⟨List.mem_of_getElem? (i := 841) (by rfl), by rfl⟩
set_option maxRecDepth 20000 in
theorem nbn3_32 : Cond.methodLinkNest "Nominator$Letters" 32 yX9_isSmallLetter "Nominator" ∈ nbw := List.mem_filter.mpr ⟨List.mem_of_getElem? (i := 844) (by rfl), by rfl⟩
section N12
variable {l : Launch} {D : va_G} {dA : Nat → ClassId} {ad : Nat → Nat → Nat → Nat} {on : Nat → Prop} {X : NWd} {o i : Nat} {S : NSt}
set_option maxHeartbeats 4000000 in
set_option maxRecDepth 100000 in
theorem c_X4_countOfOthers (hI : ninj ad on) (hon : on o) (ho : o < 2) {x : Int32} (hok : oOk S) : nMi l D dA ad on yX4_countOfOthers cX4_countOfOthers 4 (some .int) (nrm 1) [.ref (ad o 0 0), .int x] (wdo X o S) (fun r X' => r = oOthers S x ∧ X' = wdo X o S) := by
  refine nM_of hI (by decide +kernel) (Nat.le_of_ble_eq_true rfl) ?_
  intro p e s m args below meth cd ls hc hr _ hP hl hS
  have hx := hc.1
  have hb := hc.2.1
  have hl : lv_has ls 4 [(0, .ref (ad o 0 0)), (1, .int x)] := hl
  have lp : ∀ (r j : Nat) (acc : Int32), j + r = onp S → acc = isum (fun k => if nI k = x then 0 else S 11 k 8) j → ∀ (H : Heap) (locs : List Loc) (ls : Array Slot), npic D dA ad on (wdo X o S) H → va_S (nA ad on) s.heap H locs → lv_has ls 4 [(3, .int (nI j)), (2, .int acc), (1, .int x), (0, .ref (ad o 0 0))] → W p l e (nrm 1) s m args below meth cd H locs 0 0 (MQ below (va_Qi (fun r X' => r = oOthers S x ∧ X' = wdo X o S) (fun X' t => npic D dA ad on X' t.heap) (nA ad on)) args s 0 0 (nA ad on)) (F0 m 4 ls []) := by
    intro r
    induction r with
    | zero =>
      intro j acc hj ha H locs ls hP hS hl
      have hjn : j = onp S := by omega
      refine lv_iload_n hx hb dX4_countOfOthers_4 rfl (lv_at hl 0 rfl) ?_
      refine lv_aload_n hx hb dX4_countOfOthers_5 rfl (lv_at hl 3 rfl) ?_
      refine g4_56 hc hP (nv_o hon ho (by decide) Nat.zero_lt_one) dX4_countOfOthers_6 ?_
      refine lv_icmp_ge (tgt := 35) hx hb dX4_countOfOthers_9 (by decide) (fun c_9 => ?_) (fun c_9 => absurd (lp_le hok.np hjn) c_9)
      refine lv_iload_n hx hb dX4_countOfOthers_35 rfl (lv_at hl 1 rfl) ?_
      exact ne_i hc hP hS hr dX4_countOfOthers_36 ⟨by rw [ha, hjn] <;> rfl, rfl⟩
    | succ r ih =>
      intro j acc hj ha H locs ls hP hS hl
      have hjn : j < onp S := by omega
      have hj12 : j < 12 := Nat.lt_of_lt_of_le hjn hok.np12
      have ej : nix (nI j) = j := nI_clamp (by omega)
      have hjv : vp_in (nI j) 12 := vp_in_nI hj12 (by decide)
      have hjp : vp_in (nI j) (onp S) := vp_in_nI hjn hok.npL
      refine lv_iload_n hx hb dX4_countOfOthers_4 rfl (lv_at hl 0 rfl) ?_
      refine lv_aload_n hx hb dX4_countOfOthers_5 rfl (lv_at hl 3 rfl) ?_
      refine g4_56 hc hP (nv_o hon ho (by decide) Nat.zero_lt_one) dX4_countOfOthers_6 ?_
      refine lv_icmp_ge (tgt := 35) hx hb dX4_countOfOthers_9 (by decide) (fun c_9 => absurd c_9 (lp_gt hok.np hjn hok.npL)) (fun c_9 => ?_)
      refine lv_iload_n hx hb dX4_countOfOthers_12 rfl (lv_at hl 0 rfl) ?_
      refine lv_iload_n hx hb dX4_countOfOthers_13 rfl (lv_at hl 2 rfl) ?_
      refine lv_icmp_eq (tgt := 29) hx hb dX4_countOfOthers_14 (by decide) (fun c_14 => ?_) (fun c_14 => ?_)
      · refine lv_iinc (v := nI (j + 1)) (lv' := [(3, .int _), (2, .int _), (1, .int _), (0, .ref _)]) hx hb dX4_countOfOthers_29 hl (k := 0) rfl (nI_inc j) (by decide) rfl (fun ls hl => ?_)
        refine lv_goto (tgt := 4) hx hb dX4_countOfOthers_32 (by decide) ?_
        exact ih (j + 1) _ (by omega) (by rw [isum_s, ← ha]; clear hP hS hl hc hx hb hr ih; simp_all [-Int32.not_le, -Int32.not_lt, i32_lt, nb_t, nb_f, nb_z, nb_o]) _ _ _ hP hS (lv_sub hl [0, 1, 2, 3] rfl)
      · refine lv_iload_n hx hb dX4_countOfOthers_17 rfl (lv_at hl 1 rfl) ?_
        refine lv_aload_n hx hb dX4_countOfOthers_18 rfl (lv_at hl 3 rfl) ?_
        refine g4_34 hc hP (nv_o hon ho (by decide) Nat.zero_lt_one) dX4_countOfOthers_19 ?_
        refine lv_iload_n hx hb dX4_countOfOthers_22 rfl (lv_at hl 0 rfl) ?_
        refine ga_10 hc hP (nv_o hon ho (by decide) Nat.zero_lt_one) hjv dX4_countOfOthers_23 ?_
        refine g4_158 hc hP (nv_o hon ho (by decide) (vp_lt hjv)) dX4_countOfOthers_24 ?_
        refine lv_iadd hx hb dX4_countOfOthers_27 ?_
        refine lv_istore_n (lv' := [(2, .int _), (3, .int _), (1, .int _), (0, .ref _)]) hx hb dX4_countOfOthers_28 rfl hl (by decide) rfl (fun ls hl => ?_)
        refine lv_iinc (v := nI (j + 1)) (lv' := [(3, .int _), (2, .int _), (1, .int _), (0, .ref _)]) hx hb dX4_countOfOthers_29 hl (k := 1) rfl (nI_inc j) (by decide) rfl (fun ls hl => ?_)
        refine lv_goto (tgt := 4) hx hb dX4_countOfOthers_32 (by decide) ?_
        exact ih (j + 1) _ (by omega) (by rw [isum_s, ← ha]; clear hP hS hl hc hx hb hr ih; simp_all [-Int32.not_le, -Int32.not_lt, i32_lt, nb_t, nb_f, nb_z, nb_o]) _ _ _ hP hS (lv_sub hl [0, 1, 2, 3] rfl)
  refine lv_iconst (v := 0) hx hb dX4_countOfOthers_0 (by decide) ?_
  refine lv_istore_n (lv' := [(2, .int _), (0, .ref _), (1, .int _)]) hx hb dX4_countOfOthers_1 rfl hl (by decide) rfl (fun ls hl => ?_)
  refine lv_iconst (v := nI 0) hx hb dX4_countOfOthers_2 (by decide) ?_
  refine lv_istore_n (lv' := [(3, .int _), (2, .int _), (0, .ref _), (1, .int _)]) hx hb dX4_countOfOthers_3 rfl hl (by decide) rfl (fun ls hl => ?_)
  exact lp _ 0 _ (Nat.zero_add _) rfl _ _ _ hP hS (lv_sub hl [0, 1, 3, 2] rfl)
set_option maxHeartbeats 4000000 in
set_option maxRecDepth 100000 in
theorem c_X4_supportedBy (hI : ninj ad on) (hon : on o) (ho : o < 2) {v : Int32} (hok : oOk S) : nMi l D dA ad on yX4_supportedBy cX4_supportedBy 3 (some .int) (nrm 1) [.ref (ad o 0 0), .int v] (wdo X o S) (fun r X' => r = oSup S v ∧ X' = wdo X o S) := by
  refine nM_of hI (by decide +kernel) (Nat.le_of_ble_eq_true rfl) ?_
  intro p e s m args below meth cd ls hc hr _ hP hl hS
  have hx := hc.1
  have hb := hc.2.1
  have hl : lv_has ls 3 [(0, .ref (ad o 0 0)), (1, .int v)] := hl
  have lp : ∀ (r j : Nat) , j + r = ons S → ffind (fun k => decide (S 13 k 1 = v) && decide (S 13 k 4 = 0)) j = none → ∀ (H : Heap) (locs : List Loc) (ls : Array Slot), npic D dA ad on (wdo X o S) H → va_S (nA ad on) s.heap H locs → lv_has ls 3 [(2, .int (nI j)), (1, .int v), (0, .ref (ad o 0 0))] → W p l e (nrm 1) s m args below meth cd H locs 0 0 (MQ below (va_Qi (fun r X' => r = oSup S v ∧ X' = wdo X o S) (fun X' t => npic D dA ad on X' t.heap) (nA ad on)) args s 0 0 (nA ad on)) (F0 m 2 ls []) := by
    intro r
    induction r with
    | zero =>
      intro j  hj hf H locs ls hP hS hl
      have hjn : j = ons S := by omega
      refine lv_iload_n hx hb dX4_supportedBy_2 rfl (lv_at hl 0 rfl) ?_
      refine lv_aload_n hx hb dX4_supportedBy_3 rfl (lv_at hl 2 rfl) ?_
      refine g4_60 hc hP (nv_o hon ho (by decide) Nat.zero_lt_one) dX4_supportedBy_4 ?_
      refine lv_icmp_ge (tgt := 51) hx hb dX4_supportedBy_7 (by decide) (fun c_7 => ?_) (fun c_7 => absurd (lp_le hok.ns hjn) c_7)
      refine lv_iconst (v := (-1)) hx hb dX4_supportedBy_51 (by decide) ?_
      exact ne_i hc hP hS hr dX4_supportedBy_52 ⟨by rw [hjn] at hf; rw [oSup, hf], rfl⟩
    | succ r ih =>
      intro j  hj hf H locs ls hP hS hl
      have hjn : j < ons S := by omega
      have hj150 : j < 150 := Nat.lt_of_lt_of_le hjn hok.ns150
      have ej : nix (nI j) = j := nI_clamp (by omega)
      have hjv : vp_in (nI j) 150 := vp_in_nI hj150 (by decide)
      have hjs : nix (nI j) < ons S := by rw [ej]; exact hjn
      refine lv_iload_n hx hb dX4_supportedBy_2 rfl (lv_at hl 0 rfl) ?_
      refine lv_aload_n hx hb dX4_supportedBy_3 rfl (lv_at hl 2 rfl) ?_
      refine g4_60 hc hP (nv_o hon ho (by decide) Nat.zero_lt_one) dX4_supportedBy_4 ?_
      refine lv_icmp_ge (tgt := 51) hx hb dX4_supportedBy_7 (by decide) (fun c_7 => absurd c_7 (lp_gt hok.ns hjn hok.nsL)) (fun c_7 => ?_)
      refine lv_aload_n hx hb dX4_supportedBy_10 rfl (lv_at hl 2 rfl) ?_
      refine g4_40 hc hP (nv_o hon ho (by decide) Nat.zero_lt_one) dX4_supportedBy_11 ?_
      refine lv_iload_n hx hb dX4_supportedBy_14 rfl (lv_at hl 0 rfl) ?_
      refine ga_12 hc hP (nv_o hon ho (by decide) Nat.zero_lt_one) hjv dX4_supportedBy_15 ?_
      refine g4_174 hc hP (nv_o hon ho (by decide) (vp_lt hjv)) dX4_supportedBy_16 ?_
      refine lv_iload_n hx hb dX4_supportedBy_19 rfl (lv_at hl 1 rfl) ?_
      refine lv_icmp_ne (tgt := 45) hx hb dX4_supportedBy_20 (by decide) (fun c_20 => ?_) (fun c_20 => ?_)
      · refine lv_iinc (v := nI (j + 1)) (lv' := [(2, .int _), (1, .int _), (0, .ref _)]) hx hb dX4_supportedBy_45 hl (k := 0) rfl (nI_inc j) (by decide) rfl (fun ls hl => ?_)
        refine lv_goto (tgt := 2) hx hb dX4_supportedBy_48 (by decide) ?_
        exact ih (j + 1) (by omega) (by rw [ffind_s hf]; clear hP hS hl hc hx hb hr ih; simp_all) _ _ _ hP hS (lv_sub hl [0, 1, 2] rfl)
      · refine lv_aload_n hx hb dX4_supportedBy_23 rfl (lv_at hl 2 rfl) ?_
        refine g4_40 hc hP (nv_o hon ho (by decide) Nat.zero_lt_one) dX4_supportedBy_24 ?_
        refine lv_iload_n hx hb dX4_supportedBy_27 rfl (lv_at hl 0 rfl) ?_
        refine ga_12 hc hP (nv_o hon ho (by decide) Nat.zero_lt_one) hjv dX4_supportedBy_28 ?_
        refine g4_165 hc hP (nv_o hon ho (by decide) (vp_lt hjv)) dX4_supportedBy_29 ?_
        refine lv_if_ne (tgt := 45) hx hb dX4_supportedBy_32 (by decide) (fun c_32 => ?_) (fun c_32 => ?_)
        · refine lv_iinc (v := nI (j + 1)) (lv' := [(2, .int _), (1, .int _), (0, .ref _)]) hx hb dX4_supportedBy_45 hl (k := 0) rfl (nI_inc j) (by decide) rfl (fun ls hl => ?_)
          refine lv_goto (tgt := 2) hx hb dX4_supportedBy_48 (by decide) ?_
          exact ih (j + 1) (by omega) (by rw [ffind_s hf]; clear hP hS hl hc hx hb hr ih; simp_all) _ _ _ hP hS (lv_sub hl [0, 1, 2] rfl)
        · refine lv_aload_n hx hb dX4_supportedBy_35 rfl (lv_at hl 2 rfl) ?_
          refine g4_40 hc hP (nv_o hon ho (by decide) Nat.zero_lt_one) dX4_supportedBy_36 ?_
          refine lv_iload_n hx hb dX4_supportedBy_39 rfl (lv_at hl 0 rfl) ?_
          refine ga_12 hc hP (nv_o hon ho (by decide) Nat.zero_lt_one) hjv dX4_supportedBy_40 ?_
          refine g4_168 hc hP (nv_o hon ho (by decide) (vp_lt hjv)) dX4_supportedBy_41 ?_
          exact ne_i hc hP hS hr dX4_supportedBy_44 ⟨by have h9 := ffind_at hf (by clear hP hS hl hc hx hb hr ih; simp_all) hjn; rw [oSup, h9, ej], rfl⟩
  refine lv_iconst (v := nI 0) hx hb dX4_supportedBy_0 (by decide) ?_
  refine lv_istore_n (lv' := [(2, .int _), (0, .ref _), (1, .int _)]) hx hb dX4_supportedBy_1 rfl hl (by decide) rfl (fun ls hl => ?_)
  exact lp _ 0 (Nat.zero_add _) rfl _ _ _ hP hS (lv_sub hl [0, 2, 1] rfl)
set_option maxHeartbeats 4000000 in
set_option maxRecDepth 100000 in
theorem c_X4_countStanding (hI : ninj ad on) (hon : on o) (ho : o < 2) {a : Int32} (hok : oOk S) : nMi l D dA ad on yX4_countStanding cX4_countStanding 4 (some .int) (nrm 4) [.ref (ad o 0 0), .int a] (wdo X o S) (fun r X' => r = oStand S a ∧ X' = wdo X o S) := by
  refine nM_of hI (by decide +kernel) (Nat.le_of_ble_eq_true rfl) ?_
  intro p e s m args below meth cd ls hc hr _ hP hl hS
  have hx := hc.1
  have hb := hc.2.1
  have hl : lv_has ls 4 [(0, .ref (ad o 0 0)), (1, .int a)] := hl
  have lp : ∀ (r j : Nat) (acc : Int32), j + r = onp S → acc = isum (fun k => if oIn S (nI k) a then 1 else 0) j → ∀ (H : Heap) (locs : List Loc) (ls : Array Slot), npic D dA ad on (wdo X o S) H → va_S (nA ad on) s.heap H locs → lv_has ls 4 [(3, .int (nI j)), (2, .int acc), (1, .int a), (0, .ref (ad o 0 0))] → W p l e (nrm 4) s m args below meth cd H locs 0 0 (MQ below (va_Qi (fun r X' => r = oStand S a ∧ X' = wdo X o S) (fun X' t => npic D dA ad on X' t.heap) (nA ad on)) args s 0 0 (nA ad on)) (F0 m 4 ls []) := by
    intro r
    induction r with
    | zero =>
      intro j acc hj ha H locs ls hP hS hl
      have hjn : j = onp S := by omega
      refine lv_iload_n hx hb dX4_countStanding_4 rfl (lv_at hl 0 rfl) ?_
      refine lv_aload_n hx hb dX4_countStanding_5 rfl (lv_at hl 3 rfl) ?_
      refine g4_56 hc hP (nv_o hon ho (by decide) Nat.zero_lt_one) dX4_countStanding_6 ?_
      refine lv_icmp_ge (tgt := 30) hx hb dX4_countStanding_9 (by decide) (fun c_9 => ?_) (fun c_9 => absurd (lp_le hok.np hjn) c_9)
      refine lv_iload_n hx hb dX4_countStanding_30 rfl (lv_at hl 1 rfl) ?_
      exact ne_i hc hP hS hr dX4_countStanding_31 ⟨by rw [ha, hjn] <;> rfl, rfl⟩
    | succ r ih =>
      intro j acc hj ha H locs ls hP hS hl
      have hjn : j < onp S := by omega
      have hj12 : j < 12 := Nat.lt_of_lt_of_le hjn hok.np12
      have ej : nix (nI j) = j := nI_clamp (by omega)
      have hjv : vp_in (nI j) 12 := vp_in_nI hj12 (by decide)
      have hjp : vp_in (nI j) (onp S) := vp_in_nI hjn hok.npL
      refine lv_iload_n hx hb dX4_countStanding_4 rfl (lv_at hl 0 rfl) ?_
      refine lv_aload_n hx hb dX4_countStanding_5 rfl (lv_at hl 3 rfl) ?_
      refine g4_56 hc hP (nv_o hon ho (by decide) Nat.zero_lt_one) dX4_countStanding_6 ?_
      refine lv_icmp_ge (tgt := 30) hx hb dX4_countStanding_9 (by decide) (fun c_9 => absurd c_9 (lp_gt hok.np hjn hok.npL)) (fun c_9 => ?_)
      refine lv_aload_n hx hb dX4_countStanding_12 rfl (lv_at hl 3 rfl) ?_
      refine lv_iload_n hx hb dX4_countStanding_13 rfl (lv_at hl 0 rfl) ?_
      refine lv_iload_n hx hb dX4_countStanding_14 rfl (lv_at hl 2 rfl) ?_
      refine nc_Vi (c_X4_standsIn hI hon ho hjv) hc hP hS hl.1 gd4_223 (nrecv (q := (RX4, TX4, 9)) hc (npic_eta hP) (nv_o hon ho (by decide) Nat.zero_lt_one) rfl rfl) ⟨rfl, rfl⟩ nok_X4_standsIn rfl ⟨Nat.le_of_ble_eq_true rfl, Nat.le_of_ble_eq_true rfl⟩ ⟨Nat.le_of_ble_eq_true rfl, Nat.le_of_ble_eq_true rfl⟩ dX4_countStanding_15 rfl (Nat.le_of_ble_eq_true rfl) (fun r X1 H locs hp hP hS => ?_)
      obtain ⟨hr9, hX9⟩ := hp
      rw [hX9] at hP
      subst hr9
      refine lv_if_eq (tgt := 24) hx hb dX4_countStanding_18 (by decide) (fun c_18 => ?_) (fun c_18 => ?_)
      · refine lv_iinc (v := nI (j + 1)) (lv' := [(3, .int _), (2, .int _), (1, .int _), (0, .ref _)]) hx hb dX4_countStanding_24 hl (k := 0) rfl (nI_inc j) (by decide) rfl (fun ls hl => ?_)
        refine lv_goto (tgt := 4) hx hb dX4_countStanding_27 (by decide) ?_
        exact ih (j + 1) _ (by omega) (by rw [isum_s, ← ha]; clear hP hS hl hc hx hb hr ih; simp_all [-Int32.not_le, -Int32.not_lt, i32_lt, nb_t, nb_f, nb_z, nb_o]) _ _ _ hP hS (lv_sub hl [0, 1, 2, 3] rfl)
      · refine lv_iinc (v := acc + 1) (lv' := [(2, .int _), (3, .int _), (1, .int _), (0, .ref _)]) hx hb dX4_countStanding_21 hl (k := 1) rfl (i32_inc acc) (by decide) rfl (fun ls hl => ?_)
        refine lv_iinc (v := nI (j + 1)) (lv' := [(3, .int _), (2, .int _), (1, .int _), (0, .ref _)]) hx hb dX4_countStanding_24 hl (k := 1) rfl (nI_inc j) (by decide) rfl (fun ls hl => ?_)
        refine lv_goto (tgt := 4) hx hb dX4_countStanding_27 (by decide) ?_
        exact ih (j + 1) _ (by omega) (by rw [isum_s, ← ha]; clear hP hS hl hc hx hb hr ih; simp_all [-Int32.not_le, -Int32.not_lt, i32_lt, nb_t, nb_f, nb_z, nb_o]) _ _ _ hP hS (lv_sub hl [0, 1, 2, 3] rfl)
  refine lv_iconst (v := 0) hx hb dX4_countStanding_0 (by decide) ?_
  refine lv_istore_n (lv' := [(2, .int _), (0, .ref _), (1, .int _)]) hx hb dX4_countStanding_1 rfl hl (by decide) rfl (fun ls hl => ?_)
  refine lv_iconst (v := nI 0) hx hb dX4_countStanding_2 (by decide) ?_
  refine lv_istore_n (lv' := [(3, .int _), (2, .int _), (0, .ref _), (1, .int _)]) hx hb dX4_countStanding_3 rfl hl (by decide) rfl (fun ls hl => ?_)
  exact lp _ 0 _ (Nat.zero_add _) rfl _ _ _ hP hS (lv_sub hl [0, 1, 3, 2] rfl)
set_option maxHeartbeats 4000000 in
set_option maxRecDepth 100000 in
theorem c_X4_votesIn (hI : ninj ad on) (hon : on o) (ho : o < 2) {a : Int32} (hok : oOk S) : nMi l D dA ad on yX4_votesIn cX4_votesIn 4 (some .int) (nrm 1) [.ref (ad o 0 0), .int a] (wdo X o S) (fun r X' => r = oVotes S a ∧ X' = wdo X o S) := by
  refine nM_of hI (by decide +kernel) (Nat.le_of_ble_eq_true rfl) ?_
  intro p e s m args below meth cd ls hc hr _ hP hl hS
  have hx := hc.1
  have hb := hc.2.1
  have hl : lv_has ls 4 [(0, .ref (ad o 0 0)), (1, .int a)] := hl
  have lp : ∀ (r j : Nat) (acc : Int32), j + r = onp S → acc = isum (fun k => if S 11 k 0 = a then S 11 k 4 else 0) j → ∀ (H : Heap) (locs : List Loc) (ls : Array Slot), npic D dA ad on (wdo X o S) H → va_S (nA ad on) s.heap H locs → lv_has ls 4 [(3, .int (nI j)), (2, .int acc), (1, .int a), (0, .ref (ad o 0 0))] → W p l e (nrm 1) s m args below meth cd H locs 0 0 (MQ below (va_Qi (fun r X' => r = oVotes S a ∧ X' = wdo X o S) (fun X' t => npic D dA ad on X' t.heap) (nA ad on)) args s 0 0 (nA ad on)) (F0 m 4 ls []) := by
    intro r
    induction r with
    | zero =>
      intro j acc hj ha H locs ls hP hS hl
      have hjn : j = onp S := by omega
      refine lv_iload_n hx hb dX4_votesIn_4 rfl (lv_at hl 0 rfl) ?_
      refine lv_aload_n hx hb dX4_votesIn_5 rfl (lv_at hl 3 rfl) ?_
      refine g4_56 hc hP (nv_o hon ho (by decide) Nat.zero_lt_one) dX4_votesIn_6 ?_
      refine lv_icmp_ge (tgt := 43) hx hb dX4_votesIn_9 (by decide) (fun c_9 => ?_) (fun c_9 => absurd (lp_le hok.np hjn) c_9)
      refine lv_iload_n hx hb dX4_votesIn_43 rfl (lv_at hl 1 rfl) ?_
      exact ne_i hc hP hS hr dX4_votesIn_44 ⟨by rw [ha, hjn] <;> rfl, rfl⟩
    | succ r ih =>
      intro j acc hj ha H locs ls hP hS hl
      have hjn : j < onp S := by omega
      have hj12 : j < 12 := Nat.lt_of_lt_of_le hjn hok.np12
      have ej : nix (nI j) = j := nI_clamp (by omega)
      have hjv : vp_in (nI j) 12 := vp_in_nI hj12 (by decide)
      have hjp : vp_in (nI j) (onp S) := vp_in_nI hjn hok.npL
      refine lv_iload_n hx hb dX4_votesIn_4 rfl (lv_at hl 0 rfl) ?_
      refine lv_aload_n hx hb dX4_votesIn_5 rfl (lv_at hl 3 rfl) ?_
      refine g4_56 hc hP (nv_o hon ho (by decide) Nat.zero_lt_one) dX4_votesIn_6 ?_
      refine lv_icmp_ge (tgt := 43) hx hb dX4_votesIn_9 (by decide) (fun c_9 => absurd c_9 (lp_gt hok.np hjn hok.npL)) (fun c_9 => ?_)
      refine lv_aload_n hx hb dX4_votesIn_12 rfl (lv_at hl 3 rfl) ?_
      refine g4_34 hc hP (nv_o hon ho (by decide) Nat.zero_lt_one) dX4_votesIn_13 ?_
      refine lv_iload_n hx hb dX4_votesIn_16 rfl (lv_at hl 0 rfl) ?_
      refine ga_10 hc hP (nv_o hon ho (by decide) Nat.zero_lt_one) hjv dX4_votesIn_17 ?_
      refine g4_141 hc hP (nv_o hon ho (by decide) (vp_lt hjv)) dX4_votesIn_18 ?_
      refine lv_iload_n hx hb dX4_votesIn_21 rfl (lv_at hl 2 rfl) ?_
      refine lv_icmp_ne (tgt := 37) hx hb dX4_votesIn_22 (by decide) (fun c_22 => ?_) (fun c_22 => ?_)
      · refine lv_iinc (v := nI (j + 1)) (lv' := [(3, .int _), (2, .int _), (1, .int _), (0, .ref _)]) hx hb dX4_votesIn_37 hl (k := 0) rfl (nI_inc j) (by decide) rfl (fun ls hl => ?_)
        refine lv_goto (tgt := 4) hx hb dX4_votesIn_40 (by decide) ?_
        exact ih (j + 1) _ (by omega) (by rw [isum_s, ← ha]; clear hP hS hl hc hx hb hr ih; simp_all [-Int32.not_le, -Int32.not_lt, i32_lt, nb_t, nb_f, nb_z, nb_o]) _ _ _ hP hS (lv_sub hl [0, 1, 2, 3] rfl)
      · refine lv_iload_n hx hb dX4_votesIn_25 rfl (lv_at hl 1 rfl) ?_
        refine lv_aload_n hx hb dX4_votesIn_26 rfl (lv_at hl 3 rfl) ?_
        refine g4_34 hc hP (nv_o hon ho (by decide) Nat.zero_lt_one) dX4_votesIn_27 ?_
        refine lv_iload_n hx hb dX4_votesIn_30 rfl (lv_at hl 0 rfl) ?_
        refine ga_10 hc hP (nv_o hon ho (by decide) Nat.zero_lt_one) hjv dX4_votesIn_31 ?_
        refine g4_135 hc hP (nv_o hon ho (by decide) (vp_lt hjv)) dX4_votesIn_32 ?_
        refine lv_iadd hx hb dX4_votesIn_35 ?_
        refine lv_istore_n (lv' := [(2, .int _), (3, .int _), (1, .int _), (0, .ref _)]) hx hb dX4_votesIn_36 rfl hl (by decide) rfl (fun ls hl => ?_)
        refine lv_iinc (v := nI (j + 1)) (lv' := [(3, .int _), (2, .int _), (1, .int _), (0, .ref _)]) hx hb dX4_votesIn_37 hl (k := 1) rfl (nI_inc j) (by decide) rfl (fun ls hl => ?_)
        refine lv_goto (tgt := 4) hx hb dX4_votesIn_40 (by decide) ?_
        exact ih (j + 1) _ (by omega) (by rw [isum_s, ← ha]; clear hP hS hl hc hx hb hr ih; simp_all [-Int32.not_le, -Int32.not_lt, i32_lt, nb_t, nb_f, nb_z, nb_o]) _ _ _ hP hS (lv_sub hl [0, 1, 2, 3] rfl)
  refine lv_iconst (v := 0) hx hb dX4_votesIn_0 (by decide) ?_
  refine lv_istore_n (lv' := [(2, .int _), (0, .ref _), (1, .int _)]) hx hb dX4_votesIn_1 rfl hl (by decide) rfl (fun ls hl => ?_)
  refine lv_iconst (v := nI 0) hx hb dX4_votesIn_2 (by decide) ?_
  refine lv_istore_n (lv' := [(3, .int _), (2, .int _), (0, .ref _), (1, .int _)]) hx hb dX4_votesIn_3 rfl hl (by decide) rfl (fun ls hl => ?_)
  exact lp _ 0 _ (Nat.zero_add _) rfl _ _ _ hP hS (lv_sub hl [0, 1, 3, 2] rfl)
set_option maxHeartbeats 4000000 in
set_option maxRecDepth 100000 in
theorem c_X4_stateOfDeposit (hI : ninj ad on) (hon : on o) (ho : o < 2) {x : Int32} (hok : oOk S) (hx0 : vp_in x (onp S)) : nMi l D dA ad on yX4_stateOfDeposit cX4_stateOfDeposit 3 (some .int) (nrm 4) [.ref (ad o 0 0), .int x] (wdo X o S) (fun r X' => r = oDep S x ∧ X' = wdo X o S) := by
  refine nM_of hI (by decide +kernel) (Nat.le_of_ble_eq_true rfl) ?_
  intro p e s m args below meth cd ls hc hr _ hP hl hS
  have hx := hc.1
  have hb := hc.2.1
  have hl : lv_has ls 3 [(0, .ref (ad o 0 0)), (1, .int x)] := hl
  refine lv_aload_n hx hb dX4_stateOfDeposit_0 rfl (lv_at hl 0 rfl) ?_
  refine g4_34 hc hP (nv_o hon ho (by decide) Nat.zero_lt_one) dX4_stateOfDeposit_1 ?_
  refine lv_iload_n hx hb dX4_stateOfDeposit_4 rfl (lv_at hl 1 rfl) ?_
  refine ga_10 hc hP (nv_o hon ho (by decide) Nat.zero_lt_one) (vp_mono hx0 hok.np12) dX4_stateOfDeposit_5 ?_
  refine lv_astore_n (lv' := [(2, .ref _), (0, .ref _), (1, .int _)]) hx hb dX4_stateOfDeposit_6 rfl hl (by decide) rfl (fun ls hl => ?_)
  refine lv_aload_n hx hb dX4_stateOfDeposit_7 rfl (lv_at hl 1 rfl) ?_
  refine lv_iload_n hx hb dX4_stateOfDeposit_8 rfl (lv_at hl 2 rfl) ?_
  refine nc_Vi (c_X4_isWithdrawn hI hon ho ) hc hP hS hl.1 gd4_177 (nrecv (q := (RX4, TX4, 9)) hc (npic_eta hP) (nv_o hon ho (by decide) Nat.zero_lt_one) rfl rfl) ⟨rfl, rfl⟩ nok_X4_isWithdrawn rfl ⟨Nat.le_of_ble_eq_true rfl, Nat.le_of_ble_eq_true rfl⟩ ⟨Nat.le_of_ble_eq_true rfl, Nat.le_of_ble_eq_true rfl⟩ dX4_stateOfDeposit_9 rfl (Nat.le_of_ble_eq_true rfl) (fun r X1 H locs hp hP hS => ?_)
  obtain ⟨hr9, hX9⟩ := hp
  rw [hX9] at hP
  subst hr9
  refine lv_if_eq (tgt := 28) hx hb dX4_stateOfDeposit_12 (by decide) (fun c_12 => ?_) (fun c_12 => ?_)
  · refine lv_aload_n hx hb dX4_stateOfDeposit_28 rfl (lv_at hl 1 rfl) ?_
    refine g4_12 hc hP (nv_o hon ho (by decide) Nat.zero_lt_one) dX4_stateOfDeposit_29 ?_
    refine nc_Vi (c_X1_isBeforeClose hI hon ho ) hc hP hS hl.1 gd4_122 (nrecv (q := (RX1, TX1, 4)) hc (npic_eta hP) (nv_o hon ho (by decide) Nat.zero_lt_one) rfl rfl) ⟨rfl, rfl⟩ nok_X1_isBeforeClose rfl ⟨Nat.le_of_ble_eq_true rfl, Nat.le_of_ble_eq_true rfl⟩ ⟨Nat.le_of_ble_eq_true rfl, Nat.le_of_ble_eq_true rfl⟩ dX4_stateOfDeposit_32 rfl (Nat.le_of_ble_eq_true rfl) (fun r X1 H locs hp hP hS => ?_)
    obtain ⟨hr9, hX9⟩ := hp
    rw [hX9] at hP
    subst hr9
    refine lv_if_eq (tgt := 40) hx hb dX4_stateOfDeposit_35 (by decide) (fun c_35 => ?_) (fun c_35 => ?_)
    · refine lv_aload_n hx hb dX4_stateOfDeposit_40 rfl (lv_at hl 1 rfl) ?_
      refine lv_iload_n hx hb dX4_stateOfDeposit_41 rfl (lv_at hl 2 rfl) ?_
      refine nc_Vi (c_X4_isRejected hI hon ho (vp_mono hx0 hok.np12)) hc hP hS hl.1 gd4_196 (nrecv (q := (RX4, TX4, 9)) hc (npic_eta hP) (nv_o hon ho (by decide) Nat.zero_lt_one) rfl rfl) ⟨rfl, rfl⟩ nok_X4_isRejected rfl ⟨Nat.le_of_ble_eq_true rfl, Nat.le_of_ble_eq_true rfl⟩ ⟨Nat.le_of_ble_eq_true rfl, Nat.le_of_ble_eq_true rfl⟩ dX4_stateOfDeposit_42 rfl (Nat.le_of_ble_eq_true rfl) (fun r X1 H locs hp hP hS => ?_)
      obtain ⟨hr9, hX9⟩ := hp
      rw [hX9] at hP
      subst hr9
      refine lv_if_eq (tgt := 50) hx hb dX4_stateOfDeposit_45 (by decide) (fun c_45 => ?_) (fun c_45 => ?_)
      · refine lv_aload_n hx hb dX4_stateOfDeposit_50 rfl (lv_at hl 0 rfl) ?_
        refine g4_129 hc hP (nv_o hon ho (by decide) (vp_lt (vp_mono hx0 hok.np12))) dX4_stateOfDeposit_51 ?_
        refine lv_if_eq (tgt := 71) hx hb dX4_stateOfDeposit_54 (by decide) (fun c_54 => ?_) (fun c_54 => ?_)
        · refine lv_aload_n hx hb dX4_stateOfDeposit_71 rfl (lv_at hl 1 rfl) ?_
          refine g4_21 hc hP (nv_o hon ho (by decide) Nat.zero_lt_one) dX4_stateOfDeposit_72 ?_
          refine g4_100 hc hP (nv_o hon ho (by decide) Nat.zero_lt_one) dX4_stateOfDeposit_75 ?_
          refine lv_aload_n hx hb dX4_stateOfDeposit_78 rfl (lv_at hl 0 rfl) ?_
          refine g4_141 hc hP (nv_o hon ho (by decide) (vp_lt (vp_mono hx0 hok.np12))) dX4_stateOfDeposit_79 ?_
          refine ga_3 hc hP (nv_o hon ho (by decide) Nat.zero_lt_one) (hok.ar (vp_lt hx0)) dX4_stateOfDeposit_82 ?_
          refine g4_104 hc hP (nv_o hon ho (by decide) (vp_lt (hok.ar (vp_lt hx0)))) dX4_stateOfDeposit_83 ?_
          refine lv_if_ne (tgt := 91) hx hb dX4_stateOfDeposit_86 (by decide) (fun c_86 => ?_) (fun c_86 => ?_)
          · refine lv_bipush (v := 20) hx hb dX4_stateOfDeposit_91 (by decide) ?_
            refine lv_aload_n hx hb dX4_stateOfDeposit_93 rfl (lv_at hl 0 rfl) ?_
            refine g4_135 hc hP (nv_o hon ho (by decide) (vp_lt (vp_mono hx0 hok.np12))) dX4_stateOfDeposit_94 ?_
            refine lv_imul hx hb dX4_stateOfDeposit_97 ?_
            refine lv_aload_n hx hb dX4_stateOfDeposit_98 rfl (lv_at hl 1 rfl) ?_
            refine lv_aload_n hx hb dX4_stateOfDeposit_99 rfl (lv_at hl 0 rfl) ?_
            refine g4_141 hc hP (nv_o hon ho (by decide) (vp_lt (vp_mono hx0 hok.np12))) dX4_stateOfDeposit_100 ?_
            refine nc_Vi (c_X4_votesIn hI hon ho hok) hc hP hS hl.1 gd4_245 (nrecv (q := (RX4, TX4, 9)) hc (npic_eta hP) (nv_o hon ho (by decide) Nat.zero_lt_one) rfl rfl) ⟨rfl, rfl⟩ nok_X4_votesIn rfl ⟨Nat.le_of_ble_eq_true rfl, Nat.le_of_ble_eq_true rfl⟩ ⟨Nat.le_of_ble_eq_true rfl, Nat.le_of_ble_eq_true rfl⟩ dX4_stateOfDeposit_103 rfl (Nat.le_of_ble_eq_true rfl) (fun r X1 H locs hp hP hS => ?_)
            obtain ⟨hr9, hX9⟩ := hp
            rw [hX9] at hP
            subst hr9
            refine lv_icmp_ge (tgt := 113) hx hb dX4_stateOfDeposit_106 (by decide) (fun c_106 => ?_) (fun c_106 => ?_)
            · refine lv_iconst (v := 1) hx hb dX4_stateOfDeposit_113 (by decide) ?_
              exact ne_i hc hP hS hr dX4_stateOfDeposit_114 ⟨by clear hP hS hl hc hx hb hr; simp_all [-Int32.not_le, -Int32.not_lt, i32_lt, oDep, nb_t, nb_f, nb_z, nb_o], rfl⟩
            · refine lv_iconst (v := 2) hx hb dX4_stateOfDeposit_109 (by decide) ?_
              refine lv_goto (tgt := 114) hx hb dX4_stateOfDeposit_110 (by decide) ?_
              exact ne_i hc hP hS hr dX4_stateOfDeposit_114 ⟨by clear hP hS hl hc hx hb hr; simp_all [-Int32.not_le, -Int32.not_lt, i32_lt, oDep, nb_t, nb_f, nb_z, nb_o], rfl⟩
          · refine lv_iconst (v := 0) hx hb dX4_stateOfDeposit_89 (by decide) ?_
            exact ne_i hc hP hS hr dX4_stateOfDeposit_90 ⟨by clear hP hS hl hc hx hb hr; simp_all [-Int32.not_le, -Int32.not_lt, i32_lt, oDep, nb_t, nb_f, nb_z, nb_o], rfl⟩
        · refine lv_aload_n hx hb dX4_stateOfDeposit_57 rfl (lv_at hl 1 rfl) ?_
          refine lv_iload_n hx hb dX4_stateOfDeposit_58 rfl (lv_at hl 2 rfl) ?_
          refine nc_Vi (c_X4_canReplace hI hon ho (vp_mono hx0 hok.np12)) hc hP hS hl.1 gd4_242 (nrecv (q := (RX4, TX4, 9)) hc (npic_eta hP) (nv_o hon ho (by decide) Nat.zero_lt_one) rfl rfl) ⟨rfl, rfl⟩ nok_X4_canReplace rfl ⟨Nat.le_of_ble_eq_true rfl, Nat.le_of_ble_eq_true rfl⟩ ⟨Nat.le_of_ble_eq_true rfl, Nat.le_of_ble_eq_true rfl⟩ dX4_stateOfDeposit_59 rfl (Nat.le_of_ble_eq_true rfl) (fun r X1 H locs hp hP hS => ?_)
          obtain ⟨hr9, hX9⟩ := hp
          rw [hX9] at hP
          subst hr9
          refine lv_if_eq (tgt := 69) hx hb dX4_stateOfDeposit_62 (by decide) (fun c_62 => ?_) (fun c_62 => ?_)
          · refine lv_iconst (v := 1) hx hb dX4_stateOfDeposit_69 (by decide) ?_
            exact ne_i hc hP hS hr dX4_stateOfDeposit_70 ⟨by clear hP hS hl hc hx hb hr; simp_all [-Int32.not_le, -Int32.not_lt, i32_lt, oDep, nb_t, nb_f, nb_z, nb_o], rfl⟩
          · refine lv_iconst (v := 0) hx hb dX4_stateOfDeposit_65 (by decide) ?_
            refine lv_goto (tgt := 70) hx hb dX4_stateOfDeposit_66 (by decide) ?_
            exact ne_i hc hP hS hr dX4_stateOfDeposit_70 ⟨by clear hP hS hl hc hx hb hr; simp_all [-Int32.not_le, -Int32.not_lt, i32_lt, oDep, nb_t, nb_f, nb_z, nb_o], rfl⟩
      · refine lv_iconst (v := 1) hx hb dX4_stateOfDeposit_48 (by decide) ?_
        exact ne_i hc hP hS hr dX4_stateOfDeposit_49 ⟨by clear hP hS hl hc hx hb hr; simp_all [-Int32.not_le, -Int32.not_lt, i32_lt, oDep, nb_t, nb_f, nb_z, nb_o], rfl⟩
    · refine lv_iconst (v := 0) hx hb dX4_stateOfDeposit_38 (by decide) ?_
      exact ne_i hc hP hS hr dX4_stateOfDeposit_39 ⟨by clear hP hS hl hc hx hb hr; simp_all [-Int32.not_le, -Int32.not_lt, i32_lt, oDep, nb_t, nb_f, nb_z, nb_o], rfl⟩
  · refine lv_aload_n hx hb dX4_stateOfDeposit_15 rfl (lv_at hl 0 rfl) ?_
    refine g4_126 hc hP (nv_o hon ho (by decide) (vp_lt (vp_mono hx0 hok.np12))) dX4_stateOfDeposit_16 ?_
    refine lv_if_eq (tgt := 26) hx hb dX4_stateOfDeposit_19 (by decide) (fun c_19 => ?_) (fun c_19 => ?_)
    · refine lv_iconst (v := 1) hx hb dX4_stateOfDeposit_26 (by decide) ?_
      exact ne_i hc hP hS hr dX4_stateOfDeposit_27 ⟨by clear hP hS hl hc hx hb hr; simp_all [-Int32.not_le, -Int32.not_lt, i32_lt, oDep, nb_t, nb_f, nb_z, nb_o], rfl⟩
    · refine lv_iconst (v := 2) hx hb dX4_stateOfDeposit_22 (by decide) ?_
      refine lv_goto (tgt := 27) hx hb dX4_stateOfDeposit_23 (by decide) ?_
      exact ne_i hc hP hS hr dX4_stateOfDeposit_27 ⟨by clear hP hS hl hc hx hb hr; simp_all [-Int32.not_le, -Int32.not_lt, i32_lt, oDep, nb_t, nb_f, nb_z, nb_o], rfl⟩
set_option maxHeartbeats 4000000 in
set_option maxRecDepth 100000 in
theorem c_X4_countStandingAndLost (hI : ninj ad on) (hon : on o) (ho : o < 2) {a : Int32} (hok : oOk S) : nMi l D dA ad on yX4_countStandingAndLost cX4_countStandingAndLost 4 (some .int) (nrm 5) [.ref (ad o 0 0), .int a] (wdo X o S) (fun r X' => r = oLostIn S a ∧ X' = wdo X o S) := by
  refine nM_of hI (by decide +kernel) (Nat.le_of_ble_eq_true rfl) ?_
  intro p e s m args below meth cd ls hc hr _ hP hl hS
  have hx := hc.1
  have hb := hc.2.1
  have hl : lv_has ls 4 [(0, .ref (ad o 0 0)), (1, .int a)] := hl
  have lp : ∀ (r j : Nat) (acc : Int32), j + r = onp S → acc = isum (fun k => if oIn S (nI k) a && decide (oDep S (nI k) = 2) then 1 else 0) j → ∀ (H : Heap) (locs : List Loc) (ls : Array Slot), npic D dA ad on (wdo X o S) H → va_S (nA ad on) s.heap H locs → lv_has ls 4 [(3, .int (nI j)), (2, .int acc), (1, .int a), (0, .ref (ad o 0 0))] → W p l e (nrm 5) s m args below meth cd H locs 0 0 (MQ below (va_Qi (fun r X' => r = oLostIn S a ∧ X' = wdo X o S) (fun X' t => npic D dA ad on X' t.heap) (nA ad on)) args s 0 0 (nA ad on)) (F0 m 4 ls []) := by
    intro r
    induction r with
    | zero =>
      intro j acc hj ha H locs ls hP hS hl
      have hjn : j = onp S := by omega
      refine lv_iload_n hx hb dX4_countStandingAndLost_4 rfl (lv_at hl 0 rfl) ?_
      refine lv_aload_n hx hb dX4_countStandingAndLost_5 rfl (lv_at hl 3 rfl) ?_
      refine g4_56 hc hP (nv_o hon ho (by decide) Nat.zero_lt_one) dX4_countStandingAndLost_6 ?_
      refine lv_icmp_ge (tgt := 39) hx hb dX4_countStandingAndLost_9 (by decide) (fun c_9 => ?_) (fun c_9 => absurd (lp_le hok.np hjn) c_9)
      refine lv_iload_n hx hb dX4_countStandingAndLost_39 rfl (lv_at hl 1 rfl) ?_
      exact ne_i hc hP hS hr dX4_countStandingAndLost_40 ⟨by rw [ha, hjn] <;> rfl, rfl⟩
    | succ r ih =>
      intro j acc hj ha H locs ls hP hS hl
      have hjn : j < onp S := by omega
      have hj12 : j < 12 := Nat.lt_of_lt_of_le hjn hok.np12
      have ej : nix (nI j) = j := nI_clamp (by omega)
      have hjv : vp_in (nI j) 12 := vp_in_nI hj12 (by decide)
      have hjp : vp_in (nI j) (onp S) := vp_in_nI hjn hok.npL
      refine lv_iload_n hx hb dX4_countStandingAndLost_4 rfl (lv_at hl 0 rfl) ?_
      refine lv_aload_n hx hb dX4_countStandingAndLost_5 rfl (lv_at hl 3 rfl) ?_
      refine g4_56 hc hP (nv_o hon ho (by decide) Nat.zero_lt_one) dX4_countStandingAndLost_6 ?_
      refine lv_icmp_ge (tgt := 39) hx hb dX4_countStandingAndLost_9 (by decide) (fun c_9 => absurd c_9 (lp_gt hok.np hjn hok.npL)) (fun c_9 => ?_)
      refine lv_aload_n hx hb dX4_countStandingAndLost_12 rfl (lv_at hl 3 rfl) ?_
      refine lv_iload_n hx hb dX4_countStandingAndLost_13 rfl (lv_at hl 0 rfl) ?_
      refine lv_iload_n hx hb dX4_countStandingAndLost_14 rfl (lv_at hl 2 rfl) ?_
      refine nc_Vi (c_X4_standsIn hI hon ho hjv) hc hP hS hl.1 gd4_223 (nrecv (q := (RX4, TX4, 9)) hc (npic_eta hP) (nv_o hon ho (by decide) Nat.zero_lt_one) rfl rfl) ⟨rfl, rfl⟩ nok_X4_standsIn rfl ⟨Nat.le_of_ble_eq_true rfl, Nat.le_of_ble_eq_true rfl⟩ ⟨Nat.le_of_ble_eq_true rfl, Nat.le_of_ble_eq_true rfl⟩ dX4_countStandingAndLost_15 rfl (Nat.le_of_ble_eq_true rfl) (fun r X1 H locs hp hP hS => ?_)
      obtain ⟨hr9, hX9⟩ := hp
      rw [hX9] at hP
      subst hr9
      refine lv_if_eq (tgt := 33) hx hb dX4_countStandingAndLost_18 (by decide) (fun c_18 => ?_) (fun c_18 => ?_)
      · refine lv_iinc (v := nI (j + 1)) (lv' := [(3, .int _), (2, .int _), (1, .int _), (0, .ref _)]) hx hb dX4_countStandingAndLost_33 hl (k := 0) rfl (nI_inc j) (by decide) rfl (fun ls hl => ?_)
        refine lv_goto (tgt := 4) hx hb dX4_countStandingAndLost_36 (by decide) ?_
        exact ih (j + 1) _ (by omega) (by rw [isum_s, ← ha]; clear hP hS hl hc hx hb hr ih; simp_all [-Int32.not_le, -Int32.not_lt, i32_lt, nb_t, nb_f, nb_z, nb_o]) _ _ _ hP hS (lv_sub hl [0, 1, 2, 3] rfl)
      · refine lv_aload_n hx hb dX4_countStandingAndLost_21 rfl (lv_at hl 3 rfl) ?_
        refine lv_iload_n hx hb dX4_countStandingAndLost_22 rfl (lv_at hl 0 rfl) ?_
        refine nc_Vi (c_X4_stateOfDeposit hI hon ho hok hjp) hc hP hS hl.1 gd4_239 (nrecv (q := (RX4, TX4, 9)) hc (npic_eta hP) (nv_o hon ho (by decide) Nat.zero_lt_one) rfl rfl) ⟨rfl, rfl⟩ nok_X4_stateOfDeposit rfl ⟨Nat.le_of_ble_eq_true rfl, Nat.le_of_ble_eq_true rfl⟩ ⟨Nat.le_of_ble_eq_true rfl, Nat.le_of_ble_eq_true rfl⟩ dX4_countStandingAndLost_23 rfl (Nat.le_of_ble_eq_true rfl) (fun r X1 H locs hp hP hS => ?_)
        obtain ⟨hr9, hX9⟩ := hp
        rw [hX9] at hP
        subst hr9
        refine lv_iconst (v := 2) hx hb dX4_countStandingAndLost_26 (by decide) ?_
        refine lv_icmp_ne (tgt := 33) hx hb dX4_countStandingAndLost_27 (by decide) (fun c_27 => ?_) (fun c_27 => ?_)
        · refine lv_iinc (v := nI (j + 1)) (lv' := [(3, .int _), (2, .int _), (1, .int _), (0, .ref _)]) hx hb dX4_countStandingAndLost_33 hl (k := 0) rfl (nI_inc j) (by decide) rfl (fun ls hl => ?_)
          refine lv_goto (tgt := 4) hx hb dX4_countStandingAndLost_36 (by decide) ?_
          exact ih (j + 1) _ (by omega) (by rw [isum_s, ← ha]; clear hP hS hl hc hx hb hr ih; simp_all [-Int32.not_le, -Int32.not_lt, i32_lt, nb_t, nb_f, nb_z, nb_o]) _ _ _ hP hS (lv_sub hl [0, 1, 2, 3] rfl)
        · refine lv_iinc (v := acc + 1) (lv' := [(2, .int _), (3, .int _), (1, .int _), (0, .ref _)]) hx hb dX4_countStandingAndLost_30 hl (k := 1) rfl (i32_inc acc) (by decide) rfl (fun ls hl => ?_)
          refine lv_iinc (v := nI (j + 1)) (lv' := [(3, .int _), (2, .int _), (1, .int _), (0, .ref _)]) hx hb dX4_countStandingAndLost_33 hl (k := 1) rfl (nI_inc j) (by decide) rfl (fun ls hl => ?_)
          refine lv_goto (tgt := 4) hx hb dX4_countStandingAndLost_36 (by decide) ?_
          exact ih (j + 1) _ (by omega) (by rw [isum_s, ← ha]; clear hP hS hl hc hx hb hr ih; simp_all [-Int32.not_le, -Int32.not_lt, i32_lt, nb_t, nb_f, nb_z, nb_o]) _ _ _ hP hS (lv_sub hl [0, 1, 2, 3] rfl)
  refine lv_iconst (v := 0) hx hb dX4_countStandingAndLost_0 (by decide) ?_
  refine lv_istore_n (lv' := [(2, .int _), (0, .ref _), (1, .int _)]) hx hb dX4_countStandingAndLost_1 rfl hl (by decide) rfl (fun ls hl => ?_)
  refine lv_iconst (v := nI 0) hx hb dX4_countStandingAndLost_2 (by decide) ?_
  refine lv_istore_n (lv' := [(3, .int _), (2, .int _), (0, .ref _), (1, .int _)]) hx hb dX4_countStandingAndLost_3 rfl hl (by decide) rfl (fun ls hl => ?_)
  exact lp _ 0 _ (Nat.zero_add _) rfl _ _ _ hP hS (lv_sub hl [0, 1, 3, 2] rfl)
set_option maxHeartbeats 4000000 in
set_option maxRecDepth 100000 in
theorem c_X4_sumOfDeposits (hI : ninj ad on) (hon : on o) (ho : o < 2) {q : Int32} (hok : oOk S) : nMi l D dA ad on yX4_sumOfDeposits cX4_sumOfDeposits 4 (some .int) (nrm 5) [.ref (ad o 0 0), .int q] (wdo X o S) (fun r X' => r = oSum S q ∧ X' = wdo X o S) := by
  refine nM_of hI (by decide +kernel) (Nat.le_of_ble_eq_true rfl) ?_
  intro p e s m args below meth cd ls hc hr _ hP hl hS
  have hx := hc.1
  have hb := hc.2.1
  have hl : lv_has ls 4 [(0, .ref (ad o 0 0)), (1, .int q)] := hl
  have lp : ∀ (r j : Nat) (acc : Int32), j + r = onp S → acc = isum (fun k => if oDep S (nI k) = q then S 11 k 3 else 0) j → ∀ (H : Heap) (locs : List Loc) (ls : Array Slot), npic D dA ad on (wdo X o S) H → va_S (nA ad on) s.heap H locs → lv_has ls 4 [(3, .int (nI j)), (2, .int acc), (1, .int q), (0, .ref (ad o 0 0))] → W p l e (nrm 5) s m args below meth cd H locs 0 0 (MQ below (va_Qi (fun r X' => r = oSum S q ∧ X' = wdo X o S) (fun X' t => npic D dA ad on X' t.heap) (nA ad on)) args s 0 0 (nA ad on)) (F0 m 4 ls []) := by
    intro r
    induction r with
    | zero =>
      intro j acc hj ha H locs ls hP hS hl
      have hjn : j = onp S := by omega
      refine lv_iload_n hx hb dX4_sumOfDeposits_4 rfl (lv_at hl 0 rfl) ?_
      refine lv_aload_n hx hb dX4_sumOfDeposits_5 rfl (lv_at hl 3 rfl) ?_
      refine g4_56 hc hP (nv_o hon ho (by decide) Nat.zero_lt_one) dX4_sumOfDeposits_6 ?_
      refine lv_icmp_ge (tgt := 39) hx hb dX4_sumOfDeposits_9 (by decide) (fun c_9 => ?_) (fun c_9 => absurd (lp_le hok.np hjn) c_9)
      refine lv_iload_n hx hb dX4_sumOfDeposits_39 rfl (lv_at hl 1 rfl) ?_
      exact ne_i hc hP hS hr dX4_sumOfDeposits_40 ⟨by rw [ha, hjn] <;> rfl, rfl⟩
    | succ r ih =>
      intro j acc hj ha H locs ls hP hS hl
      have hjn : j < onp S := by omega
      have hj12 : j < 12 := Nat.lt_of_lt_of_le hjn hok.np12
      have ej : nix (nI j) = j := nI_clamp (by omega)
      have hjv : vp_in (nI j) 12 := vp_in_nI hj12 (by decide)
      have hjp : vp_in (nI j) (onp S) := vp_in_nI hjn hok.npL
      refine lv_iload_n hx hb dX4_sumOfDeposits_4 rfl (lv_at hl 0 rfl) ?_
      refine lv_aload_n hx hb dX4_sumOfDeposits_5 rfl (lv_at hl 3 rfl) ?_
      refine g4_56 hc hP (nv_o hon ho (by decide) Nat.zero_lt_one) dX4_sumOfDeposits_6 ?_
      refine lv_icmp_ge (tgt := 39) hx hb dX4_sumOfDeposits_9 (by decide) (fun c_9 => absurd c_9 (lp_gt hok.np hjn hok.npL)) (fun c_9 => ?_)
      refine lv_aload_n hx hb dX4_sumOfDeposits_12 rfl (lv_at hl 3 rfl) ?_
      refine lv_iload_n hx hb dX4_sumOfDeposits_13 rfl (lv_at hl 0 rfl) ?_
      refine nc_Vi (c_X4_stateOfDeposit hI hon ho hok hjp) hc hP hS hl.1 gd4_239 (nrecv (q := (RX4, TX4, 9)) hc (npic_eta hP) (nv_o hon ho (by decide) Nat.zero_lt_one) rfl rfl) ⟨rfl, rfl⟩ nok_X4_stateOfDeposit rfl ⟨Nat.le_of_ble_eq_true rfl, Nat.le_of_ble_eq_true rfl⟩ ⟨Nat.le_of_ble_eq_true rfl, Nat.le_of_ble_eq_true rfl⟩ dX4_sumOfDeposits_14 rfl (Nat.le_of_ble_eq_true rfl) (fun r X1 H locs hp hP hS => ?_)
      obtain ⟨hr9, hX9⟩ := hp
      rw [hX9] at hP
      subst hr9
      refine lv_iload_n hx hb dX4_sumOfDeposits_17 rfl (lv_at hl 2 rfl) ?_
      refine lv_icmp_ne (tgt := 33) hx hb dX4_sumOfDeposits_18 (by decide) (fun c_18 => ?_) (fun c_18 => ?_)
      · refine lv_iinc (v := nI (j + 1)) (lv' := [(3, .int _), (2, .int _), (1, .int _), (0, .ref _)]) hx hb dX4_sumOfDeposits_33 hl (k := 0) rfl (nI_inc j) (by decide) rfl (fun ls hl => ?_)
        refine lv_goto (tgt := 4) hx hb dX4_sumOfDeposits_36 (by decide) ?_
        exact ih (j + 1) _ (by omega) (by rw [isum_s, ← ha]; clear hP hS hl hc hx hb hr ih; simp_all [-Int32.not_le, -Int32.not_lt, i32_lt, nb_t, nb_f, nb_z, nb_o]) _ _ _ hP hS (lv_sub hl [0, 1, 2, 3] rfl)
      · refine lv_iload_n hx hb dX4_sumOfDeposits_21 rfl (lv_at hl 1 rfl) ?_
        refine lv_aload_n hx hb dX4_sumOfDeposits_22 rfl (lv_at hl 3 rfl) ?_
        refine g4_34 hc hP (nv_o hon ho (by decide) Nat.zero_lt_one) dX4_sumOfDeposits_23 ?_
        refine lv_iload_n hx hb dX4_sumOfDeposits_26 rfl (lv_at hl 0 rfl) ?_
        refine ga_10 hc hP (nv_o hon ho (by decide) Nat.zero_lt_one) hjv dX4_sumOfDeposits_27 ?_
        refine g4_119 hc hP (nv_o hon ho (by decide) (vp_lt hjv)) dX4_sumOfDeposits_28 ?_
        refine lv_iadd hx hb dX4_sumOfDeposits_31 ?_
        refine lv_istore_n (lv' := [(2, .int _), (3, .int _), (1, .int _), (0, .ref _)]) hx hb dX4_sumOfDeposits_32 rfl hl (by decide) rfl (fun ls hl => ?_)
        refine lv_iinc (v := nI (j + 1)) (lv' := [(3, .int _), (2, .int _), (1, .int _), (0, .ref _)]) hx hb dX4_sumOfDeposits_33 hl (k := 1) rfl (nI_inc j) (by decide) rfl (fun ls hl => ?_)
        refine lv_goto (tgt := 4) hx hb dX4_sumOfDeposits_36 (by decide) ?_
        exact ih (j + 1) _ (by omega) (by rw [isum_s, ← ha]; clear hP hS hl hc hx hb hr ih; simp_all [-Int32.not_le, -Int32.not_lt, i32_lt, nb_t, nb_f, nb_z, nb_o]) _ _ _ hP hS (lv_sub hl [0, 1, 2, 3] rfl)
  refine lv_iconst (v := 0) hx hb dX4_sumOfDeposits_0 (by decide) ?_
  refine lv_istore_n (lv' := [(2, .int _), (0, .ref _), (1, .int _)]) hx hb dX4_sumOfDeposits_1 rfl hl (by decide) rfl (fun ls hl => ?_)
  refine lv_iconst (v := nI 0) hx hb dX4_sumOfDeposits_2 (by decide) ?_
  refine lv_istore_n (lv' := [(3, .int _), (2, .int _), (0, .ref _), (1, .int _)]) hx hb dX4_sumOfDeposits_3 rfl hl (by decide) rfl (fun ls hl => ?_)
  exact lp _ 0 _ (Nat.zero_add _) rfl _ _ _ hP hS (lv_sub hl [0, 1, 3, 2] rfl)
set_option maxHeartbeats 4000000 in
set_option maxRecDepth 100000 in
theorem c_X6_countOnRoll (hI : ninj ad on) (hon : on o) (ho : o < 2) (hok : oOk S) : nMi l D dA ad on yX6_countOnRoll cX6_countOnRoll 3 (some .int) (nrm 1) [.ref (ad o 2 0)] (wdo X o S) (fun r X' => r = oRoll S ∧ X' = wdo X o S) := by
  refine nM_of hI (by decide +kernel) (Nat.le_of_ble_eq_true rfl) ?_
  intro p e s m args below meth cd ls hc hr _ hP hl hS
  have hx := hc.1
  have hb := hc.2.1
  have hl : lv_has ls 3 [(0, .ref (ad o 2 0))] := hl
  have lp : ∀ (r j : Nat) (acc : Int32), j + r = onv S → acc = isum (fun k => if S 6 k 1 = 0 then 0 else 1) j → ∀ (H : Heap) (locs : List Loc) (ls : Array Slot), npic D dA ad on (wdo X o S) H → va_S (nA ad on) s.heap H locs → lv_has ls 3 [(2, .int (nI j)), (1, .int acc), (0, .ref (ad o 2 0))] → W p l e (nrm 1) s m args below meth cd H locs 0 0 (MQ below (va_Qi (fun r X' => r = oRoll S ∧ X' = wdo X o S) (fun X' t => npic D dA ad on X' t.heap) (nA ad on)) args s 0 0 (nA ad on)) (F0 m 4 ls []) := by
    intro r
    induction r with
    | zero =>
      intro j acc hj ha H locs ls hP hS hl
      have hjn : j = onv S := by omega
      refine lv_iload_n hx hb dX6_countOnRoll_4 rfl (lv_at hl 0 rfl) ?_
      refine lv_aload_n hx hb dX6_countOnRoll_5 rfl (lv_at hl 2 rfl) ?_
      refine g6_29 hc hP (nv_o hon ho (by decide) Nat.zero_lt_one) dX6_countOnRoll_6 ?_
      refine lv_icmp_ge (tgt := 33) hx hb dX6_countOnRoll_9 (by decide) (fun c_9 => ?_) (fun c_9 => absurd (lp_le hok.nv hjn) c_9)
      refine lv_iload_n hx hb dX6_countOnRoll_33 rfl (lv_at hl 1 rfl) ?_
      exact ne_i hc hP hS hr dX6_countOnRoll_34 ⟨by rw [ha, hjn] <;> rfl, rfl⟩
    | succ r ih =>
      intro j acc hj ha H locs ls hP hS hl
      have hjn : j < onv S := by omega
      have hj40 : j < 40 := Nat.lt_of_lt_of_le hjn hok.nv40
      have ej : nix (nI j) = j := nI_clamp (by omega)
      have hjv : vp_in (nI j) 40 := vp_in_nI hj40 (by decide)
      refine lv_iload_n hx hb dX6_countOnRoll_4 rfl (lv_at hl 0 rfl) ?_
      refine lv_aload_n hx hb dX6_countOnRoll_5 rfl (lv_at hl 2 rfl) ?_
      refine g6_29 hc hP (nv_o hon ho (by decide) Nat.zero_lt_one) dX6_countOnRoll_6 ?_
      refine lv_icmp_ge (tgt := 33) hx hb dX6_countOnRoll_9 (by decide) (fun c_9 => absurd c_9 (lp_gt hok.nv hjn hok.nvL)) (fun c_9 => ?_)
      refine lv_aload_n hx hb dX6_countOnRoll_12 rfl (lv_at hl 2 rfl) ?_
      refine g6_19 hc hP (nv_o hon ho (by decide) Nat.zero_lt_one) dX6_countOnRoll_13 ?_
      refine lv_iload_n hx hb dX6_countOnRoll_16 rfl (lv_at hl 0 rfl) ?_
      refine ga_5 hc hP (nv_o hon ho (by decide) Nat.zero_lt_one) hjv dX6_countOnRoll_17 ?_
      refine g6_39 hc hP (nv_o hon ho (by decide) (vp_lt hjv)) dX6_countOnRoll_18 ?_
      refine lv_if_eq (tgt := 27) hx hb dX6_countOnRoll_21 (by decide) (fun c_21 => ?_) (fun c_21 => ?_)
      · refine lv_iinc (v := nI (j + 1)) (lv' := [(2, .int _), (1, .int _), (0, .ref _)]) hx hb dX6_countOnRoll_27 hl (k := 0) rfl (nI_inc j) (by decide) rfl (fun ls hl => ?_)
        refine lv_goto (tgt := 4) hx hb dX6_countOnRoll_30 (by decide) ?_
        exact ih (j + 1) _ (by omega) (by rw [isum_s, ← ha]; clear hP hS hl hc hx hb hr ih; simp_all [-Int32.not_le, -Int32.not_lt, i32_lt, nb_t, nb_f, nb_z, nb_o]) _ _ _ hP hS (lv_sub hl [0, 1, 2] rfl)
      · refine lv_iinc (v := acc + 1) (lv' := [(1, .int _), (2, .int _), (0, .ref _)]) hx hb dX6_countOnRoll_24 hl (k := 1) rfl (i32_inc acc) (by decide) rfl (fun ls hl => ?_)
        refine lv_iinc (v := nI (j + 1)) (lv' := [(2, .int _), (1, .int _), (0, .ref _)]) hx hb dX6_countOnRoll_27 hl (k := 1) rfl (nI_inc j) (by decide) rfl (fun ls hl => ?_)
        refine lv_goto (tgt := 4) hx hb dX6_countOnRoll_30 (by decide) ?_
        exact ih (j + 1) _ (by omega) (by rw [isum_s, ← ha]; clear hP hS hl hc hx hb hr ih; simp_all [-Int32.not_le, -Int32.not_lt, i32_lt, nb_t, nb_f, nb_z, nb_o]) _ _ _ hP hS (lv_sub hl [0, 1, 2] rfl)
  refine lv_iconst (v := 0) hx hb dX6_countOnRoll_0 (by decide) ?_
  refine lv_istore_n (lv' := [(1, .int _), (0, .ref _)]) hx hb dX6_countOnRoll_1 rfl hl (by decide) rfl (fun ls hl => ?_)
  refine lv_iconst (v := nI 0) hx hb dX6_countOnRoll_2 (by decide) ?_
  refine lv_istore_n (lv' := [(2, .int _), (1, .int _), (0, .ref _)]) hx hb dX6_countOnRoll_3 rfl hl (by decide) rfl (fun ls hl => ?_)
  exact lp _ 0 _ (Nat.zero_add _) rfl _ _ _ hP hS (lv_sub hl [0, 1, 2] rfl)
set_option maxHeartbeats 4000000 in
set_option maxRecDepth 100000 in
theorem c_X3_rankOf (hI : ninj ad on) (hon : on o) (ho : o < 2) {x : Int32} : nMi l D dA ad on yX3_rankOf cX3_rankOf 5 (some .int) (nrm 2) [.ref (ad o 7 0), .int x] (wdo X o S) (fun r X' => r = rkv S x 4 ∧ X' = wdo X o S) := by
  refine nM_of hI (by decide +kernel) (Nat.le_of_ble_eq_true rfl) ?_
  intro p e s m args below meth cd ls hc hr _ hP hl hS
  have hx := hc.1
  have hb := hc.2.1
  have hl : lv_has ls 5 [(0, .ref (ad o 7 0)), (1, .int x)] := hl
  have lp : ∀ (r j : Nat) (acc : Int32), j + r = 4 → acc = rkv S x j → ∀ (H : Heap) (locs : List Loc) (ls : Array Slot), npic D dA ad on (wdo X o S) H → va_S (nA ad on) s.heap H locs → lv_has ls 5 [(3, .int (nI j)), (2, .int acc), (1, .int x), (0, .ref (ad o 7 0))] → W p l e (nrm 2) s m args below meth cd H locs 0 0 (MQ below (va_Qi (fun r X' => r = rkv S x 4 ∧ X' = wdo X o S) (fun X' t => npic D dA ad on X' t.heap) (nA ad on)) args s 0 0 (nA ad on)) (F0 m 4 ls []) := by
    intro r
    induction r with
    | zero =>
      intro j acc hj ha H locs ls hP hS hl
      have hjn : j = 4 := by omega
      refine lv_iload_n hx hb dX3_rankOf_4 rfl (lv_at hl 0 rfl) ?_
      refine lv_iconst (v := 4) hx hb dX3_rankOf_5 (by decide) ?_
      refine lv_icmp_ge (tgt := 52) hx hb dX3_rankOf_6 (by decide) (fun c_6 => ?_) (fun c_6 => absurd (lp_le rfl hjn) c_6)
      refine lv_iload_n hx hb dX3_rankOf_52 rfl (lv_at hl 1 rfl) ?_
      exact ne_i hc hP hS hr dX3_rankOf_53 ⟨by rw [ha, hjn], rfl⟩
    | succ r ih =>
      intro j acc hj ha H locs ls hP hS hl
      have hjn : j < 4 := by omega
      refine lv_iload_n hx hb dX3_rankOf_4 rfl (lv_at hl 0 rfl) ?_
      refine lv_iconst (v := 4) hx hb dX3_rankOf_5 (by decide) ?_
      refine lv_icmp_ge (tgt := 52) hx hb dX3_rankOf_6 (by decide) (fun c_6 => absurd c_6 (lp_gt rfl hjn (by decide))) (fun c_6 => ?_)
      refine lv_iload_n hx hb dX3_rankOf_9 rfl (lv_at hl 2 rfl) ?_
      refine lv_iload_n hx hb dX3_rankOf_10 rfl (lv_at hl 0 rfl) ?_
      refine nc_SNi (c_X9_characterOf hI) hc hP hS hl.1 (nbn3_28) q842 q1 q843 ⟨rfl, rfl⟩ nok_X9_characterOf rfl ⟨Nat.le_of_ble_eq_true rfl, Nat.le_of_ble_eq_true rfl⟩ ⟨Nat.le_of_ble_eq_true rfl, Nat.le_of_ble_eq_true rfl⟩ dX3_rankOf_11 rfl (Nat.le_of_ble_eq_true rfl) (fun r X1 H locs hp hP hS => ?_)
      obtain ⟨hr9, hX9⟩ := hp
      rw [hX9] at hP
      subst hr9
      refine lv_istore (lv' := [(4, .int _), (3, .int _), (2, .int _), (1, .int _), (0, .ref _)]) hx hb dX3_rankOf_14 hl (by decide) rfl (fun ls hl => ?_)
      refine lv_iload_n hx hb dX3_rankOf_16 rfl (lv_at hl 2 rfl) ?_
      refine lv_bipush (v := 27) hx hb dX3_rankOf_17 (by decide) ?_
      refine lv_imul hx hb dX3_rankOf_19 ?_
      refine lv_iload hx hb dX3_rankOf_20 (lv_at hl 0 rfl) ?_
      refine nc_SNi (c_X9_isSmallLetter hI) hc hP hS hl.1 (nbn3_32) q845 q1 q846 ⟨rfl, rfl⟩ nok_X9_isSmallLetter rfl ⟨Nat.le_of_ble_eq_true rfl, Nat.le_of_ble_eq_true rfl⟩ ⟨Nat.le_of_ble_eq_true rfl, Nat.le_of_ble_eq_true rfl⟩ dX3_rankOf_22 rfl (Nat.le_of_ble_eq_true rfl) (fun r X1 H locs hp hP hS => ?_)
      obtain ⟨hr9, hX9⟩ := hp
      rw [hX9] at hP
      subst hr9
      refine lv_if_eq (tgt := 43) hx hb dX3_rankOf_25 (by decide) (fun c_25 => ?_) (fun c_25 => ?_)
      · refine lv_iconst (v := 0) hx hb dX3_rankOf_43 (by decide) ?_
        refine lv_iadd hx hb dX3_rankOf_44 ?_
        refine lv_istore_n (lv' := [(2, .int _), (4, .int _), (3, .int _), (1, .int _), (0, .ref _)]) hx hb dX3_rankOf_45 rfl hl (by decide) rfl (fun ls hl => ?_)
        refine lv_iinc (v := nI (j + 1)) (lv' := [(3, .int _), (2, .int _), (4, .int _), (1, .int _), (0, .ref _)]) hx hb dX3_rankOf_46 hl (k := 2) rfl (nI_inc j) (by decide) rfl (fun ls hl => ?_)
        refine lv_goto (tgt := 4) hx hb dX3_rankOf_49 (by decide) ?_
        exact ih (j + 1) _ (by omega) (by rw [rkv_s, ← ha]; clear hP hS hl hc hx hb hr ih; simp_all [-Int32.not_le, -Int32.not_lt, i32_lt, nb_t, nb_f, nb_z, nb_o]) _ _ _ hP hS (lv_sub hl [0, 1, 3, 4] rfl)
      · refine lv_aload_n hx hb dX3_rankOf_28 rfl (lv_at hl 4 rfl) ?_
        refine g3_15 hc hP (nv_o hon ho (by decide) Nat.zero_lt_one) dX3_rankOf_29 ?_
        refine lv_iload hx hb dX3_rankOf_32 (lv_at hl 0 rfl) ?_
        refine lv_bipush (v := 97) hx hb dX3_rankOf_34 (by decide) ?_
        refine lv_isub hx hb dX3_rankOf_36 ?_
        refine la_9 hc hP (nv_o hon ho (by decide) Nat.zero_lt_one) (cSmall_in (nb_nz.mp c_25)) dX3_rankOf_37 ?_
        refine lv_iconst (v := 1) hx hb dX3_rankOf_38 (by decide) ?_
        refine lv_iadd hx hb dX3_rankOf_39 ?_
        refine lv_goto (tgt := 44) hx hb dX3_rankOf_40 (by decide) ?_
        refine lv_iadd hx hb dX3_rankOf_44 ?_
        refine lv_istore_n (lv' := [(2, .int _), (4, .int _), (3, .int _), (1, .int _), (0, .ref _)]) hx hb dX3_rankOf_45 rfl hl (by decide) rfl (fun ls hl => ?_)
        refine lv_iinc (v := nI (j + 1)) (lv' := [(3, .int _), (2, .int _), (4, .int _), (1, .int _), (0, .ref _)]) hx hb dX3_rankOf_46 hl (k := 2) rfl (nI_inc j) (by decide) rfl (fun ls hl => ?_)
        refine lv_goto (tgt := 4) hx hb dX3_rankOf_49 (by decide) ?_
        exact ih (j + 1) _ (by omega) (by rw [rkv_s, ← ha]; clear hP hS hl hc hx hb hr ih; simp_all [-Int32.not_le, -Int32.not_lt, i32_lt, nb_t, nb_f, nb_z, nb_o]) _ _ _ hP hS (lv_sub hl [0, 1, 3, 4] rfl)
  refine lv_iconst (v := 0) hx hb dX3_rankOf_0 (by decide) ?_
  refine lv_istore_n (lv' := [(2, .int _), (0, .ref _), (1, .int _)]) hx hb dX3_rankOf_1 rfl hl (by decide) rfl (fun ls hl => ?_)
  refine lv_iconst (v := nI 0) hx hb dX3_rankOf_2 (by decide) ?_
  refine lv_istore_n (lv' := [(3, .int _), (2, .int _), (0, .ref _), (1, .int _)]) hx hb dX3_rankOf_3 rfl hl (by decide) rfl (fun ls hl => ?_)
  exact lp _ 0 _ (Nat.zero_add _) rfl _ _ _ hP hS (lv_sub hl [0, 1, 3, 2] rfl)
set_option maxHeartbeats 4000000 in
set_option maxRecDepth 100000 in
theorem c_X4_comesBefore (hI : ninj ad on) (hon : on o) (ho : o < 2) {x z : Int32} (hx0 : vp_in x 12) (hz0 : vp_in z 12) : nMi l D dA ad on yX4_comesBefore cX4_comesBefore 5 (some .boolean) (nrm 3) [.ref (ad o 0 0), .int x, .int z] (wdo X o S) (fun r X' => r = nb (oBef S x z) ∧ X' = wdo X o S) := by
  refine nM_of hI (by decide +kernel) (Nat.le_of_ble_eq_true rfl) ?_
  intro p e s m args below meth cd ls hc hr _ hP hl hS
  have hx := hc.1
  have hb := hc.2.1
  have hl : lv_has ls 5 [(0, .ref (ad o 0 0)), (1, .int x), (2, .int z)] := hl
  refine lv_aload_n hx hb dX4_comesBefore_0 rfl (lv_at hl 0 rfl) ?_
  refine g4_28 hc hP (nv_o hon ho (by decide) Nat.zero_lt_one) dX4_comesBefore_1 ?_
  refine lv_aload_n hx hb dX4_comesBefore_4 rfl (lv_at hl 0 rfl) ?_
  refine g4_34 hc hP (nv_o hon ho (by decide) Nat.zero_lt_one) dX4_comesBefore_5 ?_
  refine lv_iload_n hx hb dX4_comesBefore_8 rfl (lv_at hl 1 rfl) ?_
  refine ga_10 hc hP (nv_o hon ho (by decide) Nat.zero_lt_one) hx0 dX4_comesBefore_9 ?_
  refine g4_233 hc hP (nv_o hon ho (by decide) (vp_lt hx0)) dX4_comesBefore_10 ?_
  refine nc_Vi (c_X3_rankOf hI hon ho ) hc hP hS hl.1 gd4_236 (nrecv (q := (RX3, TX3, 3)) hc (npic_eta hP) (nv_o hon ho (by decide) Nat.zero_lt_one) rfl rfl) ⟨rfl, rfl⟩ nok_X3_rankOf rfl ⟨Nat.le_of_ble_eq_true rfl, Nat.le_of_ble_eq_true rfl⟩ ⟨Nat.le_of_ble_eq_true rfl, Nat.le_of_ble_eq_true rfl⟩ dX4_comesBefore_13 rfl (Nat.le_of_ble_eq_true rfl) (fun r X1 H locs hp hP hS => ?_)
  obtain ⟨hr9, hX9⟩ := hp
  rw [hX9] at hP
  subst hr9
  refine lv_istore_n (lv' := [(3, .int _), (0, .ref _), (1, .int _), (2, .int _)]) hx hb dX4_comesBefore_16 rfl hl (by decide) rfl (fun ls hl => ?_)
  refine lv_aload_n hx hb dX4_comesBefore_17 rfl (lv_at hl 1 rfl) ?_
  refine g4_28 hc hP (nv_o hon ho (by decide) Nat.zero_lt_one) dX4_comesBefore_18 ?_
  refine lv_aload_n hx hb dX4_comesBefore_21 rfl (lv_at hl 1 rfl) ?_
  refine g4_34 hc hP (nv_o hon ho (by decide) Nat.zero_lt_one) dX4_comesBefore_22 ?_
  refine lv_iload_n hx hb dX4_comesBefore_25 rfl (lv_at hl 3 rfl) ?_
  refine ga_10 hc hP (nv_o hon ho (by decide) Nat.zero_lt_one) hz0 dX4_comesBefore_26 ?_
  refine g4_233 hc hP (nv_o hon ho (by decide) (vp_lt hz0)) dX4_comesBefore_27 ?_
  refine nc_Vi (c_X3_rankOf hI hon ho ) hc hP hS hl.1 gd4_236 (nrecv (q := (RX3, TX3, 3)) hc (npic_eta hP) (nv_o hon ho (by decide) Nat.zero_lt_one) rfl rfl) ⟨rfl, rfl⟩ nok_X3_rankOf rfl ⟨Nat.le_of_ble_eq_true rfl, Nat.le_of_ble_eq_true rfl⟩ ⟨Nat.le_of_ble_eq_true rfl, Nat.le_of_ble_eq_true rfl⟩ dX4_comesBefore_30 rfl (Nat.le_of_ble_eq_true rfl) (fun r X1 H locs hp hP hS => ?_)
  obtain ⟨hr9, hX9⟩ := hp
  rw [hX9] at hP
  subst hr9
  refine lv_istore (lv' := [(4, .int _), (3, .int _), (0, .ref _), (1, .int _), (2, .int _)]) hx hb dX4_comesBefore_33 hl (by decide) rfl (fun ls hl => ?_)
  refine lv_iload_n hx hb dX4_comesBefore_35 rfl (lv_at hl 1 rfl) ?_
  refine lv_iload hx hb dX4_comesBefore_36 (lv_at hl 0 rfl) ?_
  refine lv_icmp_lt (tgt := 52) hx hb dX4_comesBefore_38 (by decide) (fun c_38 => ?_) (fun c_38 => ?_)
  · refine lv_iconst (v := 1) hx hb dX4_comesBefore_52 (by decide) ?_
    refine lv_goto (tgt := 57) hx hb dX4_comesBefore_53 (by decide) ?_
    exact ne_z hc hP hS hr rfl dX4_comesBefore_57 ⟨by clear hP hS hl hc hx hb hr; simp_all [-Int32.not_le, -Int32.not_lt, i32_lt, oBef, nb_t, nb_f, nb_z, nb_o], rfl⟩
  · refine lv_iload_n hx hb dX4_comesBefore_41 rfl (lv_at hl 1 rfl) ?_
    refine lv_iload hx hb dX4_comesBefore_42 (lv_at hl 0 rfl) ?_
    refine lv_icmp_ne (tgt := 56) hx hb dX4_comesBefore_44 (by decide) (fun c_44 => ?_) (fun c_44 => ?_)
    · refine lv_iconst (v := 0) hx hb dX4_comesBefore_56 (by decide) ?_
      exact ne_z hc hP hS hr rfl dX4_comesBefore_57 ⟨by clear hP hS hl hc hx hb hr; simp_all [-Int32.not_le, -Int32.not_lt, i32_lt, oBef, nb_t, nb_f, nb_z, nb_o], rfl⟩
    · refine lv_iload_n hx hb dX4_comesBefore_47 rfl (lv_at hl 3 rfl) ?_
      refine lv_iload_n hx hb dX4_comesBefore_48 rfl (lv_at hl 4 rfl) ?_
      refine lv_icmp_ge (tgt := 56) hx hb dX4_comesBefore_49 (by decide) (fun c_49 => ?_) (fun c_49 => ?_)
      · refine lv_iconst (v := 0) hx hb dX4_comesBefore_56 (by decide) ?_
        exact ne_z hc hP hS hr rfl dX4_comesBefore_57 ⟨by clear hP hS hl hc hx hb hr; simp_all [-Int32.not_le, -Int32.not_lt, i32_lt, oBef, nb_t, nb_f, nb_z, nb_o], rfl⟩
      · refine lv_iconst (v := 1) hx hb dX4_comesBefore_52 (by decide) ?_
        refine lv_goto (tgt := 57) hx hb dX4_comesBefore_53 (by decide) ?_
        exact ne_z hc hP hS hr rfl dX4_comesBefore_57 ⟨by clear hP hS hl hc hx hb hr; simp_all [-Int32.not_le, -Int32.not_lt, i32_lt, oBef, nb_t, nb_f, nb_z, nb_o], rfl⟩
set_option maxHeartbeats 4000000 in
set_option maxRecDepth 100000 in
theorem c_X4_placeOnList (hI : ninj ad on) (hon : on o) (ho : o < 2) {x : Int32} (hok : oOk S) (hx0 : vp_in x 12) : nMi l D dA ad on yX4_placeOnList cX4_placeOnList 4 (some .int) (nrm 4) [.ref (ad o 0 0), .int x] (wdo X o S) (fun r X' => r = oPlace S x ∧ X' = wdo X o S) := by
  refine nM_of hI (by decide +kernel) (Nat.le_of_ble_eq_true rfl) ?_
  intro p e s m args below meth cd ls hc hr _ hP hl hS
  have hx := hc.1
  have hb := hc.2.1
  have hl : lv_has ls 4 [(0, .ref (ad o 0 0)), (1, .int x)] := hl
  have lp : ∀ (r j : Nat) (acc : Int32), j + r = onp S → acc = isum (fun k => if oIn S (nI k) (S 11 (nix x) 0) && oBef S (nI k) x then 1 else 0) j → ∀ (H : Heap) (locs : List Loc) (ls : Array Slot), npic D dA ad on (wdo X o S) H → va_S (nA ad on) s.heap H locs → lv_has ls 4 [(3, .int (nI j)), (2, .int acc), (1, .int x), (0, .ref (ad o 0 0))] → W p l e (nrm 4) s m args below meth cd H locs 0 0 (MQ below (va_Qi (fun r X' => r = oPlace S x ∧ X' = wdo X o S) (fun X' t => npic D dA ad on X' t.heap) (nA ad on)) args s 0 0 (nA ad on)) (F0 m 4 ls []) := by
    intro r
    induction r with
    | zero =>
      intro j acc hj ha H locs ls hP hS hl
      have hjn : j = onp S := by omega
      refine lv_iload_n hx hb dX4_placeOnList_4 rfl (lv_at hl 0 rfl) ?_
      refine lv_aload_n hx hb dX4_placeOnList_5 rfl (lv_at hl 3 rfl) ?_
      refine g4_56 hc hP (nv_o hon ho (by decide) Nat.zero_lt_one) dX4_placeOnList_6 ?_
      refine lv_icmp_ge (tgt := 47) hx hb dX4_placeOnList_9 (by decide) (fun c_9 => ?_) (fun c_9 => absurd (lp_le hok.np hjn) c_9)
      refine lv_iload_n hx hb dX4_placeOnList_47 rfl (lv_at hl 1 rfl) ?_
      exact ne_i hc hP hS hr dX4_placeOnList_48 ⟨by rw [ha, hjn] <;> rfl, rfl⟩
    | succ r ih =>
      intro j acc hj ha H locs ls hP hS hl
      have hjn : j < onp S := by omega
      have hj12 : j < 12 := Nat.lt_of_lt_of_le hjn hok.np12
      have ej : nix (nI j) = j := nI_clamp (by omega)
      have hjv : vp_in (nI j) 12 := vp_in_nI hj12 (by decide)
      have hjp : vp_in (nI j) (onp S) := vp_in_nI hjn hok.npL
      refine lv_iload_n hx hb dX4_placeOnList_4 rfl (lv_at hl 0 rfl) ?_
      refine lv_aload_n hx hb dX4_placeOnList_5 rfl (lv_at hl 3 rfl) ?_
      refine g4_56 hc hP (nv_o hon ho (by decide) Nat.zero_lt_one) dX4_placeOnList_6 ?_
      refine lv_icmp_ge (tgt := 47) hx hb dX4_placeOnList_9 (by decide) (fun c_9 => absurd c_9 (lp_gt hok.np hjn hok.npL)) (fun c_9 => ?_)
      refine lv_aload_n hx hb dX4_placeOnList_12 rfl (lv_at hl 3 rfl) ?_
      refine lv_iload_n hx hb dX4_placeOnList_13 rfl (lv_at hl 0 rfl) ?_
      refine lv_aload_n hx hb dX4_placeOnList_14 rfl (lv_at hl 3 rfl) ?_
      refine g4_34 hc hP (nv_o hon ho (by decide) Nat.zero_lt_one) dX4_placeOnList_15 ?_
      refine lv_iload_n hx hb dX4_placeOnList_18 rfl (lv_at hl 2 rfl) ?_
      refine ga_10 hc hP (nv_o hon ho (by decide) Nat.zero_lt_one) hx0 dX4_placeOnList_19 ?_
      refine g4_141 hc hP (nv_o hon ho (by decide) (vp_lt hx0)) dX4_placeOnList_20 ?_
      refine nc_Vi (c_X4_standsIn hI hon ho hjv) hc hP hS hl.1 gd4_223 (nrecv (q := (RX4, TX4, 9)) hc (npic_eta hP) (nv_o hon ho (by decide) Nat.zero_lt_one) rfl rfl) ⟨rfl, rfl⟩ nok_X4_standsIn rfl ⟨Nat.le_of_ble_eq_true rfl, Nat.le_of_ble_eq_true rfl⟩ ⟨Nat.le_of_ble_eq_true rfl, Nat.le_of_ble_eq_true rfl⟩ dX4_placeOnList_23 rfl (Nat.le_of_ble_eq_true rfl) (fun r X1 H locs hp hP hS => ?_)
      obtain ⟨hr9, hX9⟩ := hp
      rw [hX9] at hP
      subst hr9
      refine lv_if_eq (tgt := 41) hx hb dX4_placeOnList_26 (by decide) (fun c_26 => ?_) (fun c_26 => ?_)
      · refine lv_iinc (v := nI (j + 1)) (lv' := [(3, .int _), (2, .int _), (1, .int _), (0, .ref _)]) hx hb dX4_placeOnList_41 hl (k := 0) rfl (nI_inc j) (by decide) rfl (fun ls hl => ?_)
        refine lv_goto (tgt := 4) hx hb dX4_placeOnList_44 (by decide) ?_
        exact ih (j + 1) _ (by omega) (by rw [isum_s, ← ha]; clear hP hS hl hc hx hb hr ih; simp_all [-Int32.not_le, -Int32.not_lt, i32_lt, nb_t, nb_f, nb_z, nb_o]) _ _ _ hP hS (lv_sub hl [0, 1, 2, 3] rfl)
      · refine lv_aload_n hx hb dX4_placeOnList_29 rfl (lv_at hl 3 rfl) ?_
        refine lv_iload_n hx hb dX4_placeOnList_30 rfl (lv_at hl 0 rfl) ?_
        refine lv_iload_n hx hb dX4_placeOnList_31 rfl (lv_at hl 2 rfl) ?_
        refine nc_Vi (c_X4_comesBefore hI hon ho hjv hx0) hc hP hS hl.1 gd4_230 (nrecv (q := (RX4, TX4, 9)) hc (npic_eta hP) (nv_o hon ho (by decide) Nat.zero_lt_one) rfl rfl) ⟨rfl, rfl⟩ nok_X4_comesBefore rfl ⟨Nat.le_of_ble_eq_true rfl, Nat.le_of_ble_eq_true rfl⟩ ⟨Nat.le_of_ble_eq_true rfl, Nat.le_of_ble_eq_true rfl⟩ dX4_placeOnList_32 rfl (Nat.le_of_ble_eq_true rfl) (fun r X1 H locs hp hP hS => ?_)
        obtain ⟨hr9, hX9⟩ := hp
        rw [hX9] at hP
        subst hr9
        refine lv_if_eq (tgt := 41) hx hb dX4_placeOnList_35 (by decide) (fun c_35 => ?_) (fun c_35 => ?_)
        · refine lv_iinc (v := nI (j + 1)) (lv' := [(3, .int _), (2, .int _), (1, .int _), (0, .ref _)]) hx hb dX4_placeOnList_41 hl (k := 0) rfl (nI_inc j) (by decide) rfl (fun ls hl => ?_)
          refine lv_goto (tgt := 4) hx hb dX4_placeOnList_44 (by decide) ?_
          exact ih (j + 1) _ (by omega) (by rw [isum_s, ← ha]; clear hP hS hl hc hx hb hr ih; simp_all [-Int32.not_le, -Int32.not_lt, i32_lt, nb_t, nb_f, nb_z, nb_o]) _ _ _ hP hS (lv_sub hl [0, 1, 2, 3] rfl)
        · refine lv_iinc (v := acc + 1) (lv' := [(2, .int _), (3, .int _), (1, .int _), (0, .ref _)]) hx hb dX4_placeOnList_38 hl (k := 1) rfl (i32_inc acc) (by decide) rfl (fun ls hl => ?_)
          refine lv_iinc (v := nI (j + 1)) (lv' := [(3, .int _), (2, .int _), (1, .int _), (0, .ref _)]) hx hb dX4_placeOnList_41 hl (k := 1) rfl (nI_inc j) (by decide) rfl (fun ls hl => ?_)
          refine lv_goto (tgt := 4) hx hb dX4_placeOnList_44 (by decide) ?_
          exact ih (j + 1) _ (by omega) (by rw [isum_s, ← ha]; clear hP hS hl hc hx hb hr ih; simp_all [-Int32.not_le, -Int32.not_lt, i32_lt, nb_t, nb_f, nb_z, nb_o]) _ _ _ hP hS (lv_sub hl [0, 1, 2, 3] rfl)
  refine lv_iconst (v := 0) hx hb dX4_placeOnList_0 (by decide) ?_
  refine lv_istore_n (lv' := [(2, .int _), (0, .ref _), (1, .int _)]) hx hb dX4_placeOnList_1 rfl hl (by decide) rfl (fun ls hl => ?_)
  refine lv_iconst (v := nI 0) hx hb dX4_placeOnList_2 (by decide) ?_
  refine lv_istore_n (lv' := [(3, .int _), (2, .int _), (0, .ref _), (1, .int _)]) hx hb dX4_placeOnList_3 rfl hl (by decide) rfl (fun ls hl => ?_)
  exact lp _ 0 _ (Nat.zero_add _) rfl _ _ _ hP hS (lv_sub hl [0, 1, 3, 2] rfl)
set_option maxHeartbeats 4000000 in
set_option maxRecDepth 100000 in
theorem c_X4_mostVotedIn (hI : ninj ad on) (hon : on o) (ho : o < 2) {a : Int32} (hok : oOk S) : nMi l D dA ad on yX4_mostVotedIn cX4_mostVotedIn 4 (some .int) (nrm 4) [.ref (ad o 0 0), .int a] (wdo X o S) (fun r X' => r = mvs S a (onp S) ∧ X' = wdo X o S) := by
  refine nM_of hI (by decide +kernel) (Nat.le_of_ble_eq_true rfl) ?_
  intro p e s m args below meth cd ls hc hr _ hP hl hS
  have hx := hc.1
  have hb := hc.2.1
  have hl : lv_has ls 4 [(0, .ref (ad o 0 0)), (1, .int a)] := hl
  have lp : ∀ (r j : Nat) (acc : Int32), j + r = onp S → acc = mvs S a j → ∀ (H : Heap) (locs : List Loc) (ls : Array Slot), npic D dA ad on (wdo X o S) H → va_S (nA ad on) s.heap H locs → lv_has ls 4 [(3, .int (nI j)), (2, .int acc), (1, .int a), (0, .ref (ad o 0 0))] → W p l e (nrm 4) s m args below meth cd H locs 0 0 (MQ below (va_Qi (fun r X' => r = mvs S a (onp S) ∧ X' = wdo X o S) (fun X' t => npic D dA ad on X' t.heap) (nA ad on)) args s 0 0 (nA ad on)) (F0 m 4 ls []) := by
    intro r
    induction r with
    | zero =>
      intro j acc hj ha H locs ls hP hS hl
      have hjn : j = onp S := by omega
      refine lv_iload_n hx hb dX4_mostVotedIn_4 rfl (lv_at hl 0 rfl) ?_
      refine lv_aload_n hx hb dX4_mostVotedIn_5 rfl (lv_at hl 3 rfl) ?_
      refine g4_56 hc hP (nv_o hon ho (by decide) Nat.zero_lt_one) dX4_mostVotedIn_6 ?_
      refine lv_icmp_ge (tgt := 55) hx hb dX4_mostVotedIn_9 (by decide) (fun c_9 => ?_) (fun c_9 => absurd (lp_le hok.np hjn) c_9)
      refine lv_iload_n hx hb dX4_mostVotedIn_55 rfl (lv_at hl 1 rfl) ?_
      exact ne_i hc hP hS hr dX4_mostVotedIn_56 ⟨by rw [ha, hjn], rfl⟩
    | succ r ih =>
      intro j acc hj ha H locs ls hP hS hl
      have hjn : j < onp S := by omega
      have hj12 : j < 12 := Nat.lt_of_lt_of_le hjn hok.np12
      have ej : nix (nI j) = j := nI_clamp (by omega)
      have hjv : vp_in (nI j) 12 := vp_in_nI hj12 (by decide)
      have hjp : vp_in (nI j) (onp S) := vp_in_nI hjn hok.npL
      have hacc : ¬ acc = -1 → vp_in acc 12 := fun h => vp_mono (by rw [ha] at h ⊢; exact (mvs_in S a j (by omega)).resolve_left h) (Nat.le_of_lt hj12)
      refine lv_iload_n hx hb dX4_mostVotedIn_4 rfl (lv_at hl 0 rfl) ?_
      refine lv_aload_n hx hb dX4_mostVotedIn_5 rfl (lv_at hl 3 rfl) ?_
      refine g4_56 hc hP (nv_o hon ho (by decide) Nat.zero_lt_one) dX4_mostVotedIn_6 ?_
      refine lv_icmp_ge (tgt := 55) hx hb dX4_mostVotedIn_9 (by decide) (fun c_9 => absurd c_9 (lp_gt hok.np hjn hok.npL)) (fun c_9 => ?_)
      refine lv_aload_n hx hb dX4_mostVotedIn_12 rfl (lv_at hl 3 rfl) ?_
      refine lv_iload_n hx hb dX4_mostVotedIn_13 rfl (lv_at hl 0 rfl) ?_
      refine lv_iload_n hx hb dX4_mostVotedIn_14 rfl (lv_at hl 2 rfl) ?_
      refine nc_Vi (c_X4_standsIn hI hon ho hjv) hc hP hS hl.1 gd4_223 (nrecv (q := (RX4, TX4, 9)) hc (npic_eta hP) (nv_o hon ho (by decide) Nat.zero_lt_one) rfl rfl) ⟨rfl, rfl⟩ nok_X4_standsIn rfl ⟨Nat.le_of_ble_eq_true rfl, Nat.le_of_ble_eq_true rfl⟩ ⟨Nat.le_of_ble_eq_true rfl, Nat.le_of_ble_eq_true rfl⟩ dX4_mostVotedIn_15 rfl (Nat.le_of_ble_eq_true rfl) (fun r X1 H locs hp hP hS => ?_)
      obtain ⟨hr9, hX9⟩ := hp
      rw [hX9] at hP
      subst hr9
      refine lv_if_eq (tgt := 49) hx hb dX4_mostVotedIn_18 (by decide) (fun c_18 => ?_) (fun c_18 => ?_)
      · refine lv_iinc (v := nI (j + 1)) (lv' := [(3, .int _), (2, .int _), (1, .int _), (0, .ref _)]) hx hb dX4_mostVotedIn_49 hl (k := 0) rfl (nI_inc j) (by decide) rfl (fun ls hl => ?_)
        refine lv_goto (tgt := 4) hx hb dX4_mostVotedIn_52 (by decide) ?_
        exact ih (j + 1) _ (by omega) (by rw [mvs_s, ← ha]; clear hP hS hl hc hx hb hr ih; simp_all [-Int32.not_le, -Int32.not_lt, i32_lt, nb_t, nb_f, nb_z, nb_o]) _ _ _ hP hS (lv_sub hl [0, 1, 2, 3] rfl)
      · refine lv_iload_n hx hb dX4_mostVotedIn_21 rfl (lv_at hl 1 rfl) ?_
        refine lv_iconst (v := (-1)) hx hb dX4_mostVotedIn_22 (by decide) ?_
        refine lv_icmp_eq (tgt := 47) hx hb dX4_mostVotedIn_23 (by decide) (fun c_23 => ?_) (fun c_23 => ?_)
        · refine lv_iload_n hx hb dX4_mostVotedIn_47 rfl (lv_at hl 0 rfl) ?_
          refine lv_istore_n (lv' := [(2, .int _), (3, .int _), (1, .int _), (0, .ref _)]) hx hb dX4_mostVotedIn_48 rfl hl (by decide) rfl (fun ls hl => ?_)
          refine lv_iinc (v := nI (j + 1)) (lv' := [(3, .int _), (2, .int _), (1, .int _), (0, .ref _)]) hx hb dX4_mostVotedIn_49 hl (k := 1) rfl (nI_inc j) (by decide) rfl (fun ls hl => ?_)
          refine lv_goto (tgt := 4) hx hb dX4_mostVotedIn_52 (by decide) ?_
          exact ih (j + 1) _ (by omega) (by rw [mvs_s, ← ha]; clear hP hS hl hc hx hb hr ih; simp_all [-Int32.not_le, -Int32.not_lt, i32_lt, nb_t, nb_f, nb_z, nb_o]) _ _ _ hP hS (lv_sub hl [0, 1, 2, 3] rfl)
        · refine lv_aload_n hx hb dX4_mostVotedIn_26 rfl (lv_at hl 3 rfl) ?_
          refine g4_34 hc hP (nv_o hon ho (by decide) Nat.zero_lt_one) dX4_mostVotedIn_27 ?_
          refine lv_iload_n hx hb dX4_mostVotedIn_30 rfl (lv_at hl 0 rfl) ?_
          refine ga_10 hc hP (nv_o hon ho (by decide) Nat.zero_lt_one) hjv dX4_mostVotedIn_31 ?_
          refine g4_135 hc hP (nv_o hon ho (by decide) (vp_lt hjv)) dX4_mostVotedIn_32 ?_
          refine lv_aload_n hx hb dX4_mostVotedIn_35 rfl (lv_at hl 3 rfl) ?_
          refine g4_34 hc hP (nv_o hon ho (by decide) Nat.zero_lt_one) dX4_mostVotedIn_36 ?_
          refine lv_iload_n hx hb dX4_mostVotedIn_39 rfl (lv_at hl 1 rfl) ?_
          refine ga_10 hc hP (nv_o hon ho (by decide) Nat.zero_lt_one) (hacc c_23) dX4_mostVotedIn_40 ?_
          refine g4_135 hc hP (nv_o hon ho (by decide) (vp_lt (hacc c_23))) dX4_mostVotedIn_41 ?_
          refine lv_icmp_le (tgt := 49) hx hb dX4_mostVotedIn_44 (by decide) (fun c_44 => ?_) (fun c_44 => ?_)
          · refine lv_iinc (v := nI (j + 1)) (lv' := [(3, .int _), (2, .int _), (1, .int _), (0, .ref _)]) hx hb dX4_mostVotedIn_49 hl (k := 0) rfl (nI_inc j) (by decide) rfl (fun ls hl => ?_)
            refine lv_goto (tgt := 4) hx hb dX4_mostVotedIn_52 (by decide) ?_
            exact ih (j + 1) _ (by omega) (by rw [mvs_s, ← ha]; clear hP hS hl hc hx hb hr ih; simp_all [-Int32.not_le, -Int32.not_lt, i32_lt, nb_t, nb_f, nb_z, nb_o]) _ _ _ hP hS (lv_sub hl [0, 1, 2, 3] rfl)
          · refine lv_iload_n hx hb dX4_mostVotedIn_47 rfl (lv_at hl 0 rfl) ?_
            refine lv_istore_n (lv' := [(2, .int _), (3, .int _), (1, .int _), (0, .ref _)]) hx hb dX4_mostVotedIn_48 rfl hl (by decide) rfl (fun ls hl => ?_)
            refine lv_iinc (v := nI (j + 1)) (lv' := [(3, .int _), (2, .int _), (1, .int _), (0, .ref _)]) hx hb dX4_mostVotedIn_49 hl (k := 1) rfl (nI_inc j) (by decide) rfl (fun ls hl => ?_)
            refine lv_goto (tgt := 4) hx hb dX4_mostVotedIn_52 (by decide) ?_
            exact ih (j + 1) _ (by omega) (by rw [mvs_s, ← ha]; clear hP hS hl hc hx hb hr ih; simp_all [-Int32.not_le, -Int32.not_lt, i32_lt, nb_t, nb_f, nb_z, nb_o]) _ _ _ hP hS (lv_sub hl [0, 1, 2, 3] rfl)
  refine lv_iconst (v := (-1)) hx hb dX4_mostVotedIn_0 (by decide) ?_
  refine lv_istore_n (lv' := [(2, .int _), (0, .ref _), (1, .int _)]) hx hb dX4_mostVotedIn_1 rfl hl (by decide) rfl (fun ls hl => ?_)
  refine lv_iconst (v := nI 0) hx hb dX4_mostVotedIn_2 (by decide) ?_
  refine lv_istore_n (lv' := [(3, .int _), (2, .int _), (0, .ref _), (1, .int _)]) hx hb dX4_mostVotedIn_3 rfl hl (by decide) rfl (fun ls hl => ?_)
  exact lp _ 0 _ (Nat.zero_add _) rfl _ _ _ hP hS (lv_sub hl [0, 1, 3, 2] rfl)
end N12
