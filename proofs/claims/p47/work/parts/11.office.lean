/-! the office: what its methods do -/
def isum (f : Nat → Int32) : Nat → Int32
  | 0 => 0
  | n + 1 => isum f n + f n
theorem isum_s (f : Nat → Int32) (n : Nat) : isum f (n + 1) = isum f n + f n := rfl
def ffind (p : Nat → Bool) : Nat → Option Nat
  | 0 => none
  | n + 1 => match ffind p n with
    | some k => some k
    | none => if p n then some n else none
theorem ffind_s {p : Nat → Bool} {n : Nat} (h : ffind p n = none) : ffind p (n + 1) = if p n then some n else none := by simp [ffind, h]
theorem ffind_mono {p : Nat → Bool} {k : Nat} : ∀ {n m : Nat}, n ≤ m → ffind p n = some k → ffind p m = some k := by
  intro n m h
  induction m with
  | zero => intro h1; rw [Nat.le_zero.mp h] at h1; exact h1
  | succ m ih =>
    intro h1
    rcases Nat.lt_or_ge m n with q | q
    · rw [show m + 1 = n by omega]; exact h1
    · have h2 := ih q h1
      simp [ffind, h2]
theorem ffind_at {p : Nat → Bool} {n m : Nat} (h : ffind p n = none) (hp : p n = true) (hm : n < m) : ffind p m = some n := ffind_mono (n := n + 1) hm (by rw [ffind_s h, hp]; rfl)
def itr {α : Type} (f : Nat → α → α) : Nat → α → α
  | 0, a => a
  | n + 1, a => f n (itr f n a)
theorem itr_s {α : Type} (f : Nat → α → α) (n : Nat) (a : α) : itr f (n + 1) a = f n (itr f n a) := rfl
theorem lp_le {b : Int32} {n j : Nat} (hb : b = nI n) (hj : j = n) : b ≤ nI j := by rw [hb, hj]; exact Int32.le_refl _
theorem lp_gt {b : Int32} {n j : Nat} (hb : b = nI n) (hj : j < n) (hn : n < 2 ^ 31) : ¬ b ≤ nI j := by rw [hb]; exact nI_ge hj hn
theorem nI_inc (j : Nat) : nI j + Int32.ofInt 1 = nI (j + 1) := nI_1 j
theorem vp_mono {x : Int32} {n m : Nat} (h : vp_in x n) (hm : n ≤ m) : vp_in x m := fun q => h (q.elim Or.inl (fun z => Or.inr (Nat.le_trans hm z)))
theorem vp_eq {x : Int32} {n : Nat} (h : vp_in x n) : x = nI (nix x) := by
  have h0 : ¬ x < 0 := fun q => h (Or.inl q)
  obtain ⟨j, hj, rfl⟩ := nI_of h0
  show nI j = nI (nI j).toNatClampNeg
  rw [nI_clamp hj]
def onp (S : NSt) : Nat := nix (S 0 0 6)
def ons (S : NSt) : Nat := nix (S 0 0 7)
def onv (S : NSt) : Nat := nix (S 2 0 3)
def ona (S : NSt) : Nat := nix (S 2 0 2)
def oOk (S : NSt) : Prop := S 0 0 6 = nI (onp S) ∧ onp S ≤ 12 ∧ S 0 0 7 = nI (ons S) ∧ ons S ≤ 150 ∧ S 2 0 3 = nI (onv S) ∧ onv S ≤ 40 ∧ S 2 0 2 = nI (ona S) ∧ ona S ≤ 5 ∧ (∀ k, k < onp S → vp_in (S 11 k 0) 5) ∧ ∀ k, k < ons S → vp_in (S 13 k 0) 12 ∧ vp_in (S 13 k 1) 40
theorem oOk.np {S : NSt} (h : oOk S) : S 0 0 6 = nI (onp S) := h.1
theorem oOk.np12 {S : NSt} (h : oOk S) : onp S ≤ 12 := h.2.1
theorem oOk.npL {S : NSt} (h : oOk S) : onp S < 2 ^ 31 := Nat.lt_of_le_of_lt h.2.1 (by decide)
theorem oOk.ns {S : NSt} (h : oOk S) : S 0 0 7 = nI (ons S) := h.2.2.1
theorem oOk.ns150 {S : NSt} (h : oOk S) : ons S ≤ 150 := h.2.2.2.1
theorem oOk.nsL {S : NSt} (h : oOk S) : ons S < 2 ^ 31 := Nat.lt_of_le_of_lt h.2.2.2.1 (by decide)
theorem oOk.nv {S : NSt} (h : oOk S) : S 2 0 3 = nI (onv S) := h.2.2.2.2.1
theorem oOk.nv40 {S : NSt} (h : oOk S) : onv S ≤ 40 := h.2.2.2.2.2.1
theorem oOk.nvL {S : NSt} (h : oOk S) : onv S < 2 ^ 31 := Nat.lt_of_le_of_lt h.2.2.2.2.2.1 (by decide)
theorem oOk.na {S : NSt} (h : oOk S) : S 2 0 2 = nI (ona S) := h.2.2.2.2.2.2.1
theorem oOk.na5 {S : NSt} (h : oOk S) : ona S ≤ 5 := h.2.2.2.2.2.2.2.1
theorem oOk.ar {S : NSt} (h : oOk S) {k : Nat} (hk : k < onp S) : vp_in (S 11 k 0) 5 := h.2.2.2.2.2.2.2.2.1 k hk
theorem oOk.sp {S : NSt} (h : oOk S) {k : Nat} (hk : k < ons S) : vp_in (S 13 k 0) 12 := (h.2.2.2.2.2.2.2.2.2 k hk).1
theorem oOk.sv {S : NSt} (h : oOk S) {k : Nat} (hk : k < ons S) : vp_in (S 13 k 1) 40 := (h.2.2.2.2.2.2.2.2.2 k hk).2
/-- the same but for what was judged -/
def oSame (S T : NSt) : Prop := ∀ k i j, ¬ (k = 11 ∧ (j = 8 ∨ j = 9)) → ¬ (k = 13 ∧ j = 4) → T k i j = S k i j
theorem oSame.rf {S : NSt} : oSame S S := fun _ _ _ _ _ => rfl
theorem oSame.tr {S T U : NSt} (h : oSame S T) (g : oSame T U) : oSame S U := fun k i j a b => (g k i j a b).trans (h k i j a b)
theorem oSame.put8 {S : NSt} {i : Nat} {v : Int32} : oSame S (nput S 11 i 8 v) := by
  intro k i' j a b
  unfold nput
  rw [if_neg (fun z => a ⟨z.1, Or.inl z.2.1⟩)]
theorem oSame.put9 {S : NSt} {i : Nat} {v : Int32} : oSame S (nput S 11 i 9 v) := by
  intro k i' j a b
  unfold nput
  rw [if_neg (fun z => a ⟨z.1, Or.inr z.2.1⟩)]
theorem oSame.put4 {S : NSt} {i : Nat} {v : Int32} : oSame S (nput S 13 i 4 v) := by
  intro k i' j a b
  unfold nput
  rw [if_neg (fun z => b ⟨z.1, z.2.1⟩)]
theorem oSame.itr {f : Nat → NSt → NSt} (hf : ∀ k T, oSame T (f k T)) : ∀ (n : Nat) (S : NSt), oSame S (itr f n S)
  | 0, _ => oSame.rf
  | n + 1, S => (oSame.itr hf n S).tr (hf n _)
theorem oSame.eonp {S T : NSt} (h : oSame S T) : onp T = onp S := by unfold onp; rw [h 0 0 6 (by decide) (by decide)]
theorem oSame.eons {S T : NSt} (h : oSame S T) : ons T = ons S := by unfold ons; rw [h 0 0 7 (by decide) (by decide)]
theorem oSame.eonv {S T : NSt} (h : oSame S T) : onv T = onv S := by unfold onv; rw [h 2 0 3 (by decide) (by decide)]
theorem oSame.eona {S T : NSt} (h : oSame S T) : ona T = ona S := by unfold ona; rw [h 2 0 2 (by decide) (by decide)]
theorem oSame.ok {S T : NSt} (h : oSame S T) (g : oOk S) : oOk T := by
  obtain ⟨g1, g2, g3, g4, g5, g6, g7, g8, g9, g10⟩ := g
  refine ⟨?_, ?_, ?_, ?_, ?_, ?_, ?_, ?_, ?_, ?_⟩
  · rw [h.eonp, h 0 0 6 (by decide) (by decide)]; exact g1
  · rw [h.eonp]; exact g2
  · rw [h.eons, h 0 0 7 (by decide) (by decide)]; exact g3
  · rw [h.eons]; exact g4
  · rw [h.eonv, h 2 0 3 (by decide) (by decide)]; exact g5
  · rw [h.eonv]; exact g6
  · rw [h.eona, h 2 0 2 (by decide) (by decide)]; exact g7
  · rw [h.eona]; exact g8
  · intro k hk
    rw [h.eonp] at hk
    rw [h 11 k 0 (by decide) (by decide)]; exact g9 k hk
  · intro k hk
    rw [h.eons] at hk
    rw [h 13 k 0 (by decide) (by decide), h 13 k 1 (by decide) (by decide)]; exact g10 k hk
def oRes (S : NSt) (k : Nat) : Int32 := if S 13 k 2 = 0 then 1 else if S 6 (nix (S 13 k 1)) 1 = 0 then 2 else if oGone S (S 13 k 0) then 3 else if (S 13 k 3 &&& (S 0 0 8 ^^^ -1)) = 0 then 0 else 4
def oDouble (S : NSt) (x : Int32) : Bool := !decide (S 11 (nix x) 1 = -1) && (ffind (fun j => decide (S 11 j 1 = S 11 (nix x) 1) && decide (S 11 j 0 = S 11 (nix x) 0) && decide (S 11 j 9 = 0)) (nix x)).isSome
def oVerdict (S : NSt) (x : Int32) : Int32 := if oGone S x then 1 else if S 11 (nix x) 3 < S 4 (nix (S 11 (nix x) 0)) 1 then 2 else if S 11 (nix x) 8 < S 4 (nix (S 11 (nix x) 0)) 0 then 3 else if oDouble S x then 4 else 0
def jc0 (S : NSt) (j : Nat) : NSt := itr (fun k T => nput T 11 k 8 0) j S
def jst (k : Nat) (T : NSt) : NSt := if oRes T k = 0 then nput (nput T 13 k 4 (oRes T k)) 11 (nix (T 13 k 0)) 8 (T 11 (nix (T 13 k 0)) 8 + 1) else nput T 13 k 4 (oRes T k)
def jsg (S : NSt) (j : Nat) : NSt := itr jst j (jc0 S (onp S))
def jvd (S : NSt) (j : Nat) : NSt := itr (fun k T => nput T 11 k 9 (oVerdict T (nI k))) j (jsg S (ons S))
def oJudge (S : NSt) : NSt := if oOpen S then jvd S (onp S) else S
theorem jc0_same (S : NSt) (j : Nat) : oSame S (jc0 S j) := oSame.itr (fun _ _ => oSame.put8) j S
theorem jst_same (k : Nat) (T : NSt) : oSame T (jst k T) := by
  unfold jst
  split
  · exact oSame.put4.tr oSame.put8
  · exact oSame.put4
theorem jsg_same (S : NSt) (j : Nat) : oSame S (jsg S j) := (jc0_same S _).tr (oSame.itr jst_same j _)
theorem jvd_same (S : NSt) (j : Nat) : oSame S (jvd S j) := (jsg_same S _).tr (oSame.itr (fun _ _ => oSame.put9) j _)
theorem oJudge_same (S : NSt) : oSame S (oJudge S) := by
  unfold oJudge
  split
  · exact jvd_same S _
  · exact oSame.rf
def oRej (S : NSt) (x : Int32) : Bool := !oOpen S && !decide (S 11 (nix x) 9 = 0) && !decide (S 11 (nix x) 9 = 1)
def oRepl (S : NSt) (x : Int32) : Bool := !decide (S 11 (nix x) 1 = -1) && !oGone S x && !oRej S x && !decide (2 ≤ S 11 (nix x) 5) && oChg S && (oOpen S || !decide (S 11 (nix x) 6 = 0))
def oWhy (S : NSt) (x : Int32) : Int32 := if oGone S x then 1 else if S 11 (nix x) 9 = 0 then (if S 11 (nix x) 6 = 0 then 0 else 5) else S 11 (nix x) 9
def oOthers (S : NSt) (x : Int32) : Int32 := isum (fun k => if nI k = x then 0 else S 11 k 8) (onp S)
def oWould (S : NSt) (x v : Int32) : Bool := !decide (S 6 (nix v) 1 = 0) && decide (S 6 (nix v) 0 = S 11 (nix x) 0) && decide ((S 6 (nix v) 2 &&& (S 0 0 8 ^^^ -1)) = 0)
def oSup (S : NSt) (v : Int32) : Int32 := match ffind (fun k => decide (S 13 k 1 = v) && decide (S 13 k 4 = 0)) (ons S) with
  | some k => S 13 k 0
  | none => -1
def oIn (S : NSt) (x a : Int32) : Bool := decide (S 11 (nix x) 0 = a) && decide (oWhy S x = 0)
def oStand (S : NSt) (a : Int32) : Int32 := isum (fun k => if oIn S (nI k) a then 1 else 0) (onp S)
section N11
variable {l : Launch} {D : va_G} {dA : Nat → ClassId} {ad : Nat → Nat → Nat → Nat} {on : Nat → Prop} {X : NWd} {o i : Nat} {S : NSt}
set_option maxHeartbeats 4000000 in
set_option maxRecDepth 100000 in
theorem c_X4_resultOf (hI : ninj ad on) (hon : on o) (ho : o < 2) {k : Nat} (hk : k < 150) (hv1 : vp_in (S 13 k 1) 40) : nMi l D dA ad on yX4_resultOf cX4_resultOf 2 (some .int) (nrm 2) [.ref (ad o 0 0), .ref (ad o 13 k)] (wdo X o S) (fun r X' => r = oRes S k ∧ X' = wdo X o S) := by
  refine nM_of hI (by decide +kernel) (Nat.le_of_ble_eq_true rfl) ?_
  intro p e s m args below meth cd ls hc hr _ hP hl hS
  have hx := hc.1
  have hb := hc.2.1
  have hl : lv_has ls 2 [(0, .ref (ad o 0 0)), (1, .ref (ad o 13 k))] := hl
  refine lv_aload_n hx hb dX4_resultOf_0 rfl (lv_at hl 1 rfl) ?_
  refine g4_171 hc hP (nv_o hon ho (by decide) hk) dX4_resultOf_1 ?_
  refine lv_if_ne (tgt := 9) hx hb dX4_resultOf_4 (by decide) (fun c_4 => ?_) (fun c_4 => ?_)
  · refine lv_aload_n hx hb dX4_resultOf_9 rfl (lv_at hl 0 rfl) ?_
    refine g4_21 hc hP (nv_o hon ho (by decide) Nat.zero_lt_one) dX4_resultOf_10 ?_
    refine g4_84 hc hP (nv_o hon ho (by decide) Nat.zero_lt_one) dX4_resultOf_13 ?_
    refine lv_aload_n hx hb dX4_resultOf_16 rfl (lv_at hl 1 rfl) ?_
    refine g4_174 hc hP (nv_o hon ho (by decide) hk) dX4_resultOf_17 ?_
    refine ga_5 hc hP (nv_o hon ho (by decide) Nat.zero_lt_one) hv1 dX4_resultOf_20 ?_
    refine g4_93 hc hP (nv_o hon ho (by decide) (vp_lt hv1)) dX4_resultOf_21 ?_
    refine lv_if_ne (tgt := 29) hx hb dX4_resultOf_24 (by decide) (fun c_24 => ?_) (fun c_24 => ?_)
    · refine lv_aload_n hx hb dX4_resultOf_29 rfl (lv_at hl 0 rfl) ?_
      refine lv_aload_n hx hb dX4_resultOf_30 rfl (lv_at hl 1 rfl) ?_
      refine g4_168 hc hP (nv_o hon ho (by decide) hk) dX4_resultOf_31 ?_
      refine nc_Vi (c_X4_isWithdrawn hI hon ho ) hc hP hS hl.1 gd4_177 (nrecv (q := (RX4, TX4, 9)) hc (npic_eta hP) (nv_o hon ho (by decide) Nat.zero_lt_one) rfl rfl) ⟨rfl, rfl⟩ nok_X4_isWithdrawn rfl ⟨Nat.le_of_ble_eq_true rfl, Nat.le_of_ble_eq_true rfl⟩ ⟨Nat.le_of_ble_eq_true rfl, Nat.le_of_ble_eq_true rfl⟩ dX4_resultOf_34 rfl (Nat.le_of_ble_eq_true rfl) (fun r X1 H locs hp hP hS => ?_)
      obtain ⟨hr9, hX9⟩ := hp
      rw [hX9] at hP
      subst hr9
      refine lv_if_eq (tgt := 42) hx hb dX4_resultOf_37 (by decide) (fun c_37 => ?_) (fun c_37 => ?_)
      · refine lv_aload_n hx hb dX4_resultOf_42 rfl (lv_at hl 1 rfl) ?_
        refine g4_181 hc hP (nv_o hon ho (by decide) hk) dX4_resultOf_43 ?_
        refine lv_aload_n hx hb dX4_resultOf_46 rfl (lv_at hl 0 rfl) ?_
        refine g4_63 hc hP (nv_o hon ho (by decide) Nat.zero_lt_one) dX4_resultOf_47 ?_
        refine lv_iconst (v := (-1)) hx hb dX4_resultOf_50 (by decide) ?_
        refine lv_ixor hx hb dX4_resultOf_51 ?_
        refine lv_iand hx hb dX4_resultOf_52 ?_
        refine lv_if_eq (tgt := 60) hx hb dX4_resultOf_53 (by decide) (fun c_53 => ?_) (fun c_53 => ?_)
        · refine lv_iconst (v := 0) hx hb dX4_resultOf_60 (by decide) ?_
          exact ne_i hc hP hS hr dX4_resultOf_61 ⟨by clear hP hS hl hc hx hb hr; simp_all [-Int32.not_le, -Int32.not_lt, i32_lt, oRes, nb_t, nb_f, nb_z, nb_o], rfl⟩
        · refine lv_iconst (v := 4) hx hb dX4_resultOf_56 (by decide) ?_
          refine lv_goto (tgt := 61) hx hb dX4_resultOf_57 (by decide) ?_
          exact ne_i hc hP hS hr dX4_resultOf_61 ⟨by clear hP hS hl hc hx hb hr; simp_all [-Int32.not_le, -Int32.not_lt, i32_lt, oRes, nb_t, nb_f, nb_z, nb_o], rfl⟩
      · refine lv_iconst (v := 3) hx hb dX4_resultOf_40 (by decide) ?_
        exact ne_i hc hP hS hr dX4_resultOf_41 ⟨by clear hP hS hl hc hx hb hr; simp_all [-Int32.not_le, -Int32.not_lt, i32_lt, oRes, nb_t, nb_f, nb_z, nb_o], rfl⟩
    · refine lv_iconst (v := 2) hx hb dX4_resultOf_27 (by decide) ?_
      exact ne_i hc hP hS hr dX4_resultOf_28 ⟨by clear hP hS hl hc hx hb hr; simp_all [-Int32.not_le, -Int32.not_lt, i32_lt, oRes, nb_t, nb_f, nb_z, nb_o], rfl⟩
  · refine lv_iconst (v := 1) hx hb dX4_resultOf_7 (by decide) ?_
    exact ne_i hc hP hS hr dX4_resultOf_8 ⟨by clear hP hS hl hc hx hb hr; simp_all [-Int32.not_le, -Int32.not_lt, i32_lt, oRes, nb_t, nb_f, nb_z, nb_o], rfl⟩
set_option maxHeartbeats 4000000 in
set_option maxRecDepth 100000 in
theorem c_X4_isDouble (hI : ninj ad on) (hon : on o) (ho : o < 2) {x : Int32} (hok : oOk S) (hx0 : vp_in x (onp S)) : nMi l D dA ad on yX4_isDouble cX4_isDouble 5 (some .boolean) (nrm 1) [.ref (ad o 0 0), .int x] (wdo X o S) (fun r X' => r = nb (oDouble S x) ∧ X' = wdo X o S) := by
  refine nM_of hI (by decide +kernel) (Nat.le_of_ble_eq_true rfl) ?_
  intro p e s m args below meth cd ls hc hr _ hP hl hS
  have hx := hc.1
  have hb := hc.2.1
  have hl : lv_has ls 5 [(0, .ref (ad o 0 0)), (1, .int x)] := hl
  have lp19 : ∀ (r j : Nat) , j + r = nix x → (¬ S 11 (nix x) 1 = -1) → ffind (fun j => decide (S 11 j 1 = S 11 (nix x) 1) && decide (S 11 j 0 = S 11 (nix x) 0) && decide (S 11 j 9 = 0)) j = none → ∀ (H : Heap) (locs : List Loc) (ls : Array Slot), npic D dA ad on (wdo X o S) H → va_S (nA ad on) s.heap H locs → lv_has ls 5 [(3, .int (nI j)), (2, .ref (ad o 11 (nix x))), (1, .int x), (0, .ref (ad o 0 0))] → W p l e (nrm 1) s m args below meth cd H locs 0 0 (MQ below (va_Qi (fun r X' => r = nb (oDouble S x) ∧ X' = wdo X o S) (fun X' t => npic D dA ad on X' t.heap) (nA ad on)) args s 0 0 (nA ad on)) (F0 m 19 ls []) := by
    intro r
    induction r with
    | zero =>
      intro j  hj hq hf H locs ls hP hS hl
      have hjn : j = nix x := by omega
      have hjn2 := hjn
      refine lv_iload_n hx hb dX4_isDouble_19 rfl (lv_at hl 0 rfl) ?_
      refine lv_iload_n hx hb dX4_isDouble_20 rfl (lv_at hl 2 rfl) ?_
      refine lv_icmp_ge (tgt := 72) hx hb dX4_isDouble_21 (by decide) (fun c_21 => ?_) (fun c_21 => absurd (lp_le (vp_eq hx0) hjn) c_21)
      refine lv_iconst (v := 0) hx hb dX4_isDouble_72 (by decide) ?_
      exact ne_z hc hP hS hr rfl dX4_isDouble_73 ⟨by rw [hjn] at hf; rw [oDouble, hf]; simp [nb_f], rfl⟩
    | succ r ih =>
      intro j  hj hq hf H locs ls hP hS hl
      have hjn : j < nix x := by omega
      have hj12 : j < 12 := Nat.lt_trans hjn (vp_lt (vp_mono hx0 hok.np12))
      have ej : nix (nI j) = j := nI_clamp (by omega)
      have hjv : vp_in (nI j) 12 := vp_in_nI hj12 (by decide)
      refine lv_iload_n hx hb dX4_isDouble_19 rfl (lv_at hl 0 rfl) ?_
      refine lv_iload_n hx hb dX4_isDouble_20 rfl (lv_at hl 2 rfl) ?_
      refine lv_icmp_ge (tgt := 72) hx hb dX4_isDouble_21 (by decide) (fun c_21 => absurd c_21 (lp_gt (vp_eq hx0) hjn (Nat.lt_trans (vp_lt (vp_mono hx0 hok.np12)) (by decide)))) (fun c_21 => ?_)
      refine lv_aload_n hx hb dX4_isDouble_24 rfl (lv_at hl 3 rfl) ?_
      refine g4_34 hc hP (nv_o hon ho (by decide) Nat.zero_lt_one) dX4_isDouble_25 ?_
      refine lv_iload_n hx hb dX4_isDouble_28 rfl (lv_at hl 0 rfl) ?_
      refine ga_10 hc hP (nv_o hon ho (by decide) Nat.zero_lt_one) hjv dX4_isDouble_29 ?_
      refine lv_astore (lv' := [(4, .ref _), (3, .int _), (2, .ref _), (1, .int _), (0, .ref _)]) hx hb dX4_isDouble_30 hl (by decide) rfl (fun ls hl => ?_)
      refine lv_aload hx hb dX4_isDouble_32 (lv_at hl 0 rfl) ?_
      refine g4_193 hc hP (nv_o hon ho (by decide) (vp_lt hjv)) dX4_isDouble_34 ?_
      refine lv_aload_n hx hb dX4_isDouble_37 rfl (lv_at hl 2 rfl) ?_
      refine g4_193 hc hP (nv_o hon ho (by decide) (vp_lt (vp_mono hx0 hok.np12))) dX4_isDouble_38 ?_
      refine lv_icmp_ne (tgt := 66) hx hb dX4_isDouble_41 (by decide) (fun c_41 => ?_) (fun c_41 => ?_)
      · refine lv_iinc (v := nI (j + 1)) (lv' := [(3, .int _), (4, .ref _), (2, .ref _), (1, .int _), (0, .ref _)]) hx hb dX4_isDouble_66 hl (k := 1) rfl (nI_inc j) (by decide) rfl (fun ls hl => ?_)
        refine lv_goto (tgt := 19) hx hb dX4_isDouble_69 (by decide) ?_
        exact ih (j + 1) (by omega) hq (by rw [ffind_s hf]; clear hP hS hl hc hx hb hr ih; simp_all) _ _ _ hP hS (lv_sub hl [0, 2, 3, 4] rfl)
      · refine lv_aload hx hb dX4_isDouble_44 (lv_at hl 0 rfl) ?_
        refine g4_141 hc hP (nv_o hon ho (by decide) (vp_lt hjv)) dX4_isDouble_46 ?_
        refine lv_aload_n hx hb dX4_isDouble_49 rfl (lv_at hl 2 rfl) ?_
        refine g4_141 hc hP (nv_o hon ho (by decide) (vp_lt (vp_mono hx0 hok.np12))) dX4_isDouble_50 ?_
        refine lv_icmp_ne (tgt := 66) hx hb dX4_isDouble_53 (by decide) (fun c_53 => ?_) (fun c_53 => ?_)
        · refine lv_iinc (v := nI (j + 1)) (lv' := [(3, .int _), (4, .ref _), (2, .ref _), (1, .int _), (0, .ref _)]) hx hb dX4_isDouble_66 hl (k := 1) rfl (nI_inc j) (by decide) rfl (fun ls hl => ?_)
          refine lv_goto (tgt := 19) hx hb dX4_isDouble_69 (by decide) ?_
          exact ih (j + 1) (by omega) hq (by rw [ffind_s hf]; clear hP hS hl hc hx hb hr ih; simp_all) _ _ _ hP hS (lv_sub hl [0, 2, 3, 4] rfl)
        · refine lv_aload hx hb dX4_isDouble_56 (lv_at hl 0 rfl) ?_
          refine g4_155 hc hP (nv_o hon ho (by decide) (vp_lt hjv)) dX4_isDouble_58 ?_
          refine lv_if_ne (tgt := 66) hx hb dX4_isDouble_61 (by decide) (fun c_61 => ?_) (fun c_61 => ?_)
          · refine lv_iinc (v := nI (j + 1)) (lv' := [(3, .int _), (4, .ref _), (2, .ref _), (1, .int _), (0, .ref _)]) hx hb dX4_isDouble_66 hl (k := 1) rfl (nI_inc j) (by decide) rfl (fun ls hl => ?_)
            refine lv_goto (tgt := 19) hx hb dX4_isDouble_69 (by decide) ?_
            exact ih (j + 1) (by omega) hq (by rw [ffind_s hf]; clear hP hS hl hc hx hb hr ih; simp_all) _ _ _ hP hS (lv_sub hl [0, 2, 3, 4] rfl)
          · refine lv_iconst (v := 1) hx hb dX4_isDouble_64 (by decide) ?_
            exact ne_z hc hP hS hr rfl dX4_isDouble_65 ⟨by have h9 := ffind_at hf (by clear hP hS hl hc hx hb hr ih; simp_all) hjn; rw [oDouble, h9]; clear hP hS hl hc hx hb hr ih; simp_all [nb_t], rfl⟩
  refine lv_aload_n hx hb dX4_isDouble_0 rfl (lv_at hl 0 rfl) ?_
  refine g4_34 hc hP (nv_o hon ho (by decide) Nat.zero_lt_one) dX4_isDouble_1 ?_
  refine lv_iload_n hx hb dX4_isDouble_4 rfl (lv_at hl 1 rfl) ?_
  refine ga_10 hc hP (nv_o hon ho (by decide) Nat.zero_lt_one) (vp_mono hx0 hok.np12) dX4_isDouble_5 ?_
  refine lv_astore_n (lv' := [(2, .ref _), (0, .ref _), (1, .int _)]) hx hb dX4_isDouble_6 rfl hl (by decide) rfl (fun ls hl => ?_)
  refine lv_aload_n hx hb dX4_isDouble_7 rfl (lv_at hl 0 rfl) ?_
  refine g4_193 hc hP (nv_o hon ho (by decide) (vp_lt (vp_mono hx0 hok.np12))) dX4_isDouble_8 ?_
  refine lv_iconst (v := (-1)) hx hb dX4_isDouble_11 (by decide) ?_
  refine lv_icmp_ne (tgt := 17) hx hb dX4_isDouble_12 (by decide) (fun c_12 => ?_) (fun c_12 => ?_)
  · refine lv_iconst (v := nI 0) hx hb dX4_isDouble_17 (by decide) ?_
    refine lv_istore_n (lv' := [(3, .int _), (2, .ref _), (0, .ref _), (1, .int _)]) hx hb dX4_isDouble_18 rfl hl (by decide) rfl (fun ls hl => ?_)
    exact lp19 _ 0 (Nat.zero_add _) c_12 rfl _ _ _ hP hS (lv_sub hl [0, 1, 3, 2] rfl)
  · refine lv_iconst (v := 0) hx hb dX4_isDouble_15 (by decide) ?_
    exact ne_z hc hP hS hr rfl dX4_isDouble_16 ⟨by clear hP hS hl hc hx hb hr; simp_all [oDouble, nb_f], rfl⟩
set_option maxHeartbeats 4000000 in
set_option maxRecDepth 100000 in
theorem c_X4_verdictOn (hI : ninj ad on) (hon : on o) (ho : o < 2) {x : Int32} (hok : oOk S) (hx0 : vp_in x (onp S)) : nMi l D dA ad on yX4_verdictOn cX4_verdictOn 4 (some .int) (nrm 2) [.ref (ad o 0 0), .int x] (wdo X o S) (fun r X' => r = oVerdict S x ∧ X' = wdo X o S) := by
  refine nM_of hI (by decide +kernel) (Nat.le_of_ble_eq_true rfl) ?_
  intro p e s m args below meth cd ls hc hr _ hP hl hS
  have hx := hc.1
  have hb := hc.2.1
  have hl : lv_has ls 4 [(0, .ref (ad o 0 0)), (1, .int x)] := hl
  refine lv_aload_n hx hb dX4_verdictOn_0 rfl (lv_at hl 0 rfl) ?_
  refine g4_34 hc hP (nv_o hon ho (by decide) Nat.zero_lt_one) dX4_verdictOn_1 ?_
  refine lv_iload_n hx hb dX4_verdictOn_4 rfl (lv_at hl 1 rfl) ?_
  refine ga_10 hc hP (nv_o hon ho (by decide) Nat.zero_lt_one) (vp_mono hx0 hok.np12) dX4_verdictOn_5 ?_
  refine lv_astore_n (lv' := [(2, .ref _), (0, .ref _), (1, .int _)]) hx hb dX4_verdictOn_6 rfl hl (by decide) rfl (fun ls hl => ?_)
  refine lv_aload_n hx hb dX4_verdictOn_7 rfl (lv_at hl 1 rfl) ?_
  refine g4_21 hc hP (nv_o hon ho (by decide) Nat.zero_lt_one) dX4_verdictOn_8 ?_
  refine g4_100 hc hP (nv_o hon ho (by decide) Nat.zero_lt_one) dX4_verdictOn_11 ?_
  refine lv_aload_n hx hb dX4_verdictOn_14 rfl (lv_at hl 0 rfl) ?_
  refine g4_141 hc hP (nv_o hon ho (by decide) (vp_lt (vp_mono hx0 hok.np12))) dX4_verdictOn_15 ?_
  refine ga_3 hc hP (nv_o hon ho (by decide) Nat.zero_lt_one) (hok.ar (vp_lt hx0)) dX4_verdictOn_18 ?_
  refine lv_astore_n (lv' := [(3, .ref _), (2, .ref _), (0, .ref _), (1, .int _)]) hx hb dX4_verdictOn_19 rfl hl (by decide) rfl (fun ls hl => ?_)
  refine lv_aload_n hx hb dX4_verdictOn_20 rfl (lv_at hl 2 rfl) ?_
  refine lv_iload_n hx hb dX4_verdictOn_21 rfl (lv_at hl 3 rfl) ?_
  refine nc_Vi (c_X4_isWithdrawn hI hon ho ) hc hP hS hl.1 gd4_177 (nrecv (q := (RX4, TX4, 9)) hc (npic_eta hP) (nv_o hon ho (by decide) Nat.zero_lt_one) rfl rfl) ⟨rfl, rfl⟩ nok_X4_isWithdrawn rfl ⟨Nat.le_of_ble_eq_true rfl, Nat.le_of_ble_eq_true rfl⟩ ⟨Nat.le_of_ble_eq_true rfl, Nat.le_of_ble_eq_true rfl⟩ dX4_verdictOn_22 rfl (Nat.le_of_ble_eq_true rfl) (fun r X1 H locs hp hP hS => ?_)
  obtain ⟨hr9, hX9⟩ := hp
  rw [hX9] at hP
  subst hr9
  refine lv_if_eq (tgt := 30) hx hb dX4_verdictOn_25 (by decide) (fun c_25 => ?_) (fun c_25 => ?_)
  · refine lv_aload_n hx hb dX4_verdictOn_30 rfl (lv_at hl 1 rfl) ?_
    refine g4_119 hc hP (nv_o hon ho (by decide) (vp_lt (vp_mono hx0 hok.np12))) dX4_verdictOn_31 ?_
    refine lv_aload_n hx hb dX4_verdictOn_34 rfl (lv_at hl 0 rfl) ?_
    refine g4_184 hc hP (nv_o hon ho (by decide) (vp_lt (hok.ar (vp_lt hx0)))) dX4_verdictOn_35 ?_
    refine lv_icmp_ge (tgt := 43) hx hb dX4_verdictOn_38 (by decide) (fun c_38 => ?_) (fun c_38 => ?_)
    · refine lv_aload_n hx hb dX4_verdictOn_43 rfl (lv_at hl 1 rfl) ?_
      refine g4_158 hc hP (nv_o hon ho (by decide) (vp_lt (vp_mono hx0 hok.np12))) dX4_verdictOn_44 ?_
      refine lv_aload_n hx hb dX4_verdictOn_47 rfl (lv_at hl 0 rfl) ?_
      refine g4_187 hc hP (nv_o hon ho (by decide) (vp_lt (hok.ar (vp_lt hx0)))) dX4_verdictOn_48 ?_
      refine lv_icmp_ge (tgt := 56) hx hb dX4_verdictOn_51 (by decide) (fun c_51 => ?_) (fun c_51 => ?_)
      · refine lv_aload_n hx hb dX4_verdictOn_56 rfl (lv_at hl 2 rfl) ?_
        refine lv_iload_n hx hb dX4_verdictOn_57 rfl (lv_at hl 3 rfl) ?_
        refine nc_Vi (c_X4_isDouble hI hon ho hok hx0) hc hP hS hl.1 gd4_190 (nrecv (q := (RX4, TX4, 9)) hc (npic_eta hP) (nv_o hon ho (by decide) Nat.zero_lt_one) rfl rfl) ⟨rfl, rfl⟩ nok_X4_isDouble rfl ⟨Nat.le_of_ble_eq_true rfl, Nat.le_of_ble_eq_true rfl⟩ ⟨Nat.le_of_ble_eq_true rfl, Nat.le_of_ble_eq_true rfl⟩ dX4_verdictOn_58 rfl (Nat.le_of_ble_eq_true rfl) (fun r X1 H locs hp hP hS => ?_)
        obtain ⟨hr9, hX9⟩ := hp
        rw [hX9] at hP
        subst hr9
        refine lv_if_eq (tgt := 68) hx hb dX4_verdictOn_61 (by decide) (fun c_61 => ?_) (fun c_61 => ?_)
        · refine lv_iconst (v := 0) hx hb dX4_verdictOn_68 (by decide) ?_
          exact ne_i hc hP hS hr dX4_verdictOn_69 ⟨by clear hP hS hl hc hx hb hr; simp_all [-Int32.not_le, -Int32.not_lt, i32_lt, oVerdict, nb_t, nb_f, nb_z, nb_o], rfl⟩
        · refine lv_iconst (v := 4) hx hb dX4_verdictOn_64 (by decide) ?_
          refine lv_goto (tgt := 69) hx hb dX4_verdictOn_65 (by decide) ?_
          exact ne_i hc hP hS hr dX4_verdictOn_69 ⟨by clear hP hS hl hc hx hb hr; simp_all [-Int32.not_le, -Int32.not_lt, i32_lt, oVerdict, nb_t, nb_f, nb_z, nb_o], rfl⟩
      · refine lv_iconst (v := 3) hx hb dX4_verdictOn_54 (by decide) ?_
        exact ne_i hc hP hS hr dX4_verdictOn_55 ⟨by clear hP hS hl hc hx hb hr; simp_all [-Int32.not_le, -Int32.not_lt, i32_lt, oVerdict, nb_t, nb_f, nb_z, nb_o], rfl⟩
    · refine lv_iconst (v := 2) hx hb dX4_verdictOn_41 (by decide) ?_
      exact ne_i hc hP hS hr dX4_verdictOn_42 ⟨by clear hP hS hl hc hx hb hr; simp_all [-Int32.not_le, -Int32.not_lt, i32_lt, oVerdict, nb_t, nb_f, nb_z, nb_o], rfl⟩
  · refine lv_iconst (v := 1) hx hb dX4_verdictOn_28 (by decide) ?_
    exact ne_i hc hP hS hr dX4_verdictOn_29 ⟨by clear hP hS hl hc hx hb hr; simp_all [-Int32.not_le, -Int32.not_lt, i32_lt, oVerdict, nb_t, nb_f, nb_z, nb_o], rfl⟩
set_option maxHeartbeats 4000000 in
set_option maxRecDepth 100000 in
theorem c_X4_isRejected (hI : ninj ad on) (hon : on o) (ho : o < 2) {x : Int32} (hx0 : vp_in x 12) : nMi l D dA ad on yX4_isRejected cX4_isRejected 3 (some .boolean) (nrm 2) [.ref (ad o 0 0), .int x] (wdo X o S) (fun r X' => r = nb (oRej S x) ∧ X' = wdo X o S) := by
  refine nM_of hI (by decide +kernel) (Nat.le_of_ble_eq_true rfl) ?_
  intro p e s m args below meth cd ls hc hr _ hP hl hS
  have hx := hc.1
  have hb := hc.2.1
  have hl : lv_has ls 3 [(0, .ref (ad o 0 0)), (1, .int x)] := hl
  refine lv_aload_n hx hb dX4_isRejected_0 rfl (lv_at hl 0 rfl) ?_
  refine g4_34 hc hP (nv_o hon ho (by decide) Nat.zero_lt_one) dX4_isRejected_1 ?_
  refine lv_iload_n hx hb dX4_isRejected_4 rfl (lv_at hl 1 rfl) ?_
  refine ga_10 hc hP (nv_o hon ho (by decide) Nat.zero_lt_one) hx0 dX4_isRejected_5 ?_
  refine g4_155 hc hP (nv_o hon ho (by decide) (vp_lt hx0)) dX4_isRejected_6 ?_
  refine lv_istore_n (lv' := [(2, .int _), (0, .ref _), (1, .int _)]) hx hb dX4_isRejected_9 rfl hl (by decide) rfl (fun ls hl => ?_)
  refine lv_aload_n hx hb dX4_isRejected_10 rfl (lv_at hl 1 rfl) ?_
  refine g4_12 hc hP (nv_o hon ho (by decide) Nat.zero_lt_one) dX4_isRejected_11 ?_
  refine nc_Vi (c_X1_isBeforeClose hI hon ho ) hc hP hS hl.1 gd4_122 (nrecv (q := (RX1, TX1, 4)) hc (npic_eta hP) (nv_o hon ho (by decide) Nat.zero_lt_one) rfl rfl) ⟨rfl, rfl⟩ nok_X1_isBeforeClose rfl ⟨Nat.le_of_ble_eq_true rfl, Nat.le_of_ble_eq_true rfl⟩ ⟨Nat.le_of_ble_eq_true rfl, Nat.le_of_ble_eq_true rfl⟩ dX4_isRejected_14 rfl (Nat.le_of_ble_eq_true rfl) (fun r X1 H locs hp hP hS => ?_)
  obtain ⟨hr9, hX9⟩ := hp
  rw [hX9] at hP
  subst hr9
  refine lv_if_ne (tgt := 33) hx hb dX4_isRejected_17 (by decide) (fun c_17 => ?_) (fun c_17 => ?_)
  · refine lv_iconst (v := 0) hx hb dX4_isRejected_33 (by decide) ?_
    exact ne_z hc hP hS hr rfl dX4_isRejected_34 ⟨by clear hP hS hl hc hx hb hr; simp_all [-Int32.not_le, -Int32.not_lt, i32_lt, oRej, nb_t, nb_f, nb_z, nb_o], rfl⟩
  · refine lv_iload_n hx hb dX4_isRejected_20 rfl (lv_at hl 0 rfl) ?_
    refine lv_if_eq (tgt := 33) hx hb dX4_isRejected_21 (by decide) (fun c_21 => ?_) (fun c_21 => ?_)
    · refine lv_iconst (v := 0) hx hb dX4_isRejected_33 (by decide) ?_
      exact ne_z hc hP hS hr rfl dX4_isRejected_34 ⟨by clear hP hS hl hc hx hb hr; simp_all [-Int32.not_le, -Int32.not_lt, i32_lt, oRej, nb_t, nb_f, nb_z, nb_o], rfl⟩
    · refine lv_iload_n hx hb dX4_isRejected_24 rfl (lv_at hl 0 rfl) ?_
      refine lv_iconst (v := 1) hx hb dX4_isRejected_25 (by decide) ?_
      refine lv_icmp_eq (tgt := 33) hx hb dX4_isRejected_26 (by decide) (fun c_26 => ?_) (fun c_26 => ?_)
      · refine lv_iconst (v := 0) hx hb dX4_isRejected_33 (by decide) ?_
        exact ne_z hc hP hS hr rfl dX4_isRejected_34 ⟨by clear hP hS hl hc hx hb hr; simp_all [-Int32.not_le, -Int32.not_lt, i32_lt, oRej, nb_t, nb_f, nb_z, nb_o], rfl⟩
      · refine lv_iconst (v := 1) hx hb dX4_isRejected_29 (by decide) ?_
        refine lv_goto (tgt := 34) hx hb dX4_isRejected_30 (by decide) ?_
        exact ne_z hc hP hS hr rfl dX4_isRejected_34 ⟨by clear hP hS hl hc hx hb hr; simp_all [-Int32.not_le, -Int32.not_lt, i32_lt, oRej, nb_t, nb_f, nb_z, nb_o], rfl⟩
set_option maxHeartbeats 4000000 in
set_option maxRecDepth 100000 in
theorem c_X4_canReplace (hI : ninj ad on) (hon : on o) (ho : o < 2) {x : Int32} (hx0 : vp_in x 12) : nMi l D dA ad on yX4_canReplace cX4_canReplace 3 (some .boolean) (nrm 3) [.ref (ad o 0 0), .int x] (wdo X o S) (fun r X' => r = nb (oRepl S x) ∧ X' = wdo X o S) := by
  refine nM_of hI (by decide +kernel) (Nat.le_of_ble_eq_true rfl) ?_
  intro p e s m args below meth cd ls hc hr _ hP hl hS
  have hx := hc.1
  have hb := hc.2.1
  have hl : lv_has ls 3 [(0, .ref (ad o 0 0)), (1, .int x)] := hl
  refine lv_aload_n hx hb dX4_canReplace_0 rfl (lv_at hl 0 rfl) ?_
  refine g4_34 hc hP (nv_o hon ho (by decide) Nat.zero_lt_one) dX4_canReplace_1 ?_
  refine lv_iload_n hx hb dX4_canReplace_4 rfl (lv_at hl 1 rfl) ?_
  refine ga_10 hc hP (nv_o hon ho (by decide) Nat.zero_lt_one) hx0 dX4_canReplace_5 ?_
  refine lv_astore_n (lv' := [(2, .ref _), (0, .ref _), (1, .int _)]) hx hb dX4_canReplace_6 rfl hl (by decide) rfl (fun ls hl => ?_)
  refine lv_aload_n hx hb dX4_canReplace_7 rfl (lv_at hl 0 rfl) ?_
  refine g4_193 hc hP (nv_o hon ho (by decide) (vp_lt hx0)) dX4_canReplace_8 ?_
  refine lv_iconst (v := (-1)) hx hb dX4_canReplace_11 (by decide) ?_
  refine lv_icmp_eq (tgt := 70) hx hb dX4_canReplace_12 (by decide) (fun c_12 => ?_) (fun c_12 => ?_)
  · refine lv_iconst (v := 0) hx hb dX4_canReplace_70 (by decide) ?_
    exact ne_z hc hP hS hr rfl dX4_canReplace_71 ⟨by clear hP hS hl hc hx hb hr; simp_all [-Int32.not_le, -Int32.not_lt, i32_lt, oRepl, nb_t, nb_f, nb_z, nb_o], rfl⟩
  · refine lv_aload_n hx hb dX4_canReplace_15 rfl (lv_at hl 1 rfl) ?_
    refine lv_iload_n hx hb dX4_canReplace_16 rfl (lv_at hl 2 rfl) ?_
    refine nc_Vi (c_X4_isWithdrawn hI hon ho ) hc hP hS hl.1 gd4_177 (nrecv (q := (RX4, TX4, 9)) hc (npic_eta hP) (nv_o hon ho (by decide) Nat.zero_lt_one) rfl rfl) ⟨rfl, rfl⟩ nok_X4_isWithdrawn rfl ⟨Nat.le_of_ble_eq_true rfl, Nat.le_of_ble_eq_true rfl⟩ ⟨Nat.le_of_ble_eq_true rfl, Nat.le_of_ble_eq_true rfl⟩ dX4_canReplace_17 rfl (Nat.le_of_ble_eq_true rfl) (fun r X1 H locs hp hP hS => ?_)
    obtain ⟨hr9, hX9⟩ := hp
    rw [hX9] at hP
    subst hr9
    refine lv_if_ne (tgt := 70) hx hb dX4_canReplace_20 (by decide) (fun c_20 => ?_) (fun c_20 => ?_)
    · refine lv_iconst (v := 0) hx hb dX4_canReplace_70 (by decide) ?_
      exact ne_z hc hP hS hr rfl dX4_canReplace_71 ⟨by clear hP hS hl hc hx hb hr; simp_all [-Int32.not_le, -Int32.not_lt, i32_lt, oRepl, nb_t, nb_f, nb_z, nb_o], rfl⟩
    · refine lv_aload_n hx hb dX4_canReplace_23 rfl (lv_at hl 1 rfl) ?_
      refine lv_iload_n hx hb dX4_canReplace_24 rfl (lv_at hl 2 rfl) ?_
      refine nc_Vi (c_X4_isRejected hI hon ho hx0) hc hP hS hl.1 gd4_196 (nrecv (q := (RX4, TX4, 9)) hc (npic_eta hP) (nv_o hon ho (by decide) Nat.zero_lt_one) rfl rfl) ⟨rfl, rfl⟩ nok_X4_isRejected rfl ⟨Nat.le_of_ble_eq_true rfl, Nat.le_of_ble_eq_true rfl⟩ ⟨Nat.le_of_ble_eq_true rfl, Nat.le_of_ble_eq_true rfl⟩ dX4_canReplace_25 rfl (Nat.le_of_ble_eq_true rfl) (fun r X1 H locs hp hP hS => ?_)
      obtain ⟨hr9, hX9⟩ := hp
      rw [hX9] at hP
      subst hr9
      refine lv_if_ne (tgt := 70) hx hb dX4_canReplace_28 (by decide) (fun c_28 => ?_) (fun c_28 => ?_)
      · refine lv_iconst (v := 0) hx hb dX4_canReplace_70 (by decide) ?_
        exact ne_z hc hP hS hr rfl dX4_canReplace_71 ⟨by clear hP hS hl hc hx hb hr; simp_all [-Int32.not_le, -Int32.not_lt, i32_lt, oRepl, nb_t, nb_f, nb_z, nb_o], rfl⟩
      · refine lv_aload_n hx hb dX4_canReplace_31 rfl (lv_at hl 0 rfl) ?_
        refine g4_199 hc hP (nv_o hon ho (by decide) (vp_lt hx0)) dX4_canReplace_32 ?_
        refine lv_iconst (v := 2) hx hb dX4_canReplace_35 (by decide) ?_
        refine lv_icmp_ge (tgt := 70) hx hb dX4_canReplace_36 (by decide) (fun c_36 => ?_) (fun c_36 => ?_)
        · refine lv_iconst (v := 0) hx hb dX4_canReplace_70 (by decide) ?_
          exact ne_z hc hP hS hr rfl dX4_canReplace_71 ⟨by clear hP hS hl hc hx hb hr; simp_all [-Int32.not_le, -Int32.not_lt, i32_lt, oRepl, nb_t, nb_f, nb_z, nb_o], rfl⟩
        · refine lv_aload_n hx hb dX4_canReplace_39 rfl (lv_at hl 1 rfl) ?_
          refine g4_12 hc hP (nv_o hon ho (by decide) Nat.zero_lt_one) dX4_canReplace_40 ?_
          refine nc_Vi (c_X1_allowsChanges hI hon ho ) hc hP hS hl.1 gd4_202 (nrecv (q := (RX1, TX1, 4)) hc (npic_eta hP) (nv_o hon ho (by decide) Nat.zero_lt_one) rfl rfl) ⟨rfl, rfl⟩ nok_X1_allowsChanges rfl ⟨Nat.le_of_ble_eq_true rfl, Nat.le_of_ble_eq_true rfl⟩ ⟨Nat.le_of_ble_eq_true rfl, Nat.le_of_ble_eq_true rfl⟩ dX4_canReplace_43 rfl (Nat.le_of_ble_eq_true rfl) (fun r X1 H locs hp hP hS => ?_)
          obtain ⟨hr9, hX9⟩ := hp
          rw [hX9] at hP
          subst hr9
          refine lv_if_eq (tgt := 70) hx hb dX4_canReplace_46 (by decide) (fun c_46 => ?_) (fun c_46 => ?_)
          · refine lv_iconst (v := 0) hx hb dX4_canReplace_70 (by decide) ?_
            exact ne_z hc hP hS hr rfl dX4_canReplace_71 ⟨by clear hP hS hl hc hx hb hr; simp_all [-Int32.not_le, -Int32.not_lt, i32_lt, oRepl, nb_t, nb_f, nb_z, nb_o], rfl⟩
          · refine lv_aload_n hx hb dX4_canReplace_49 rfl (lv_at hl 1 rfl) ?_
            refine g4_12 hc hP (nv_o hon ho (by decide) Nat.zero_lt_one) dX4_canReplace_50 ?_
            refine nc_Vi (c_X1_isBeforeClose hI hon ho ) hc hP hS hl.1 gd4_122 (nrecv (q := (RX1, TX1, 4)) hc (npic_eta hP) (nv_o hon ho (by decide) Nat.zero_lt_one) rfl rfl) ⟨rfl, rfl⟩ nok_X1_isBeforeClose rfl ⟨Nat.le_of_ble_eq_true rfl, Nat.le_of_ble_eq_true rfl⟩ ⟨Nat.le_of_ble_eq_true rfl, Nat.le_of_ble_eq_true rfl⟩ dX4_canReplace_53 rfl (Nat.le_of_ble_eq_true rfl) (fun r X1 H locs hp hP hS => ?_)
            obtain ⟨hr9, hX9⟩ := hp
            rw [hX9] at hP
            subst hr9
            refine lv_if_ne (tgt := 66) hx hb dX4_canReplace_56 (by decide) (fun c_56 => ?_) (fun c_56 => ?_)
            · refine lv_iconst (v := 1) hx hb dX4_canReplace_66 (by decide) ?_
              refine lv_goto (tgt := 71) hx hb dX4_canReplace_67 (by decide) ?_
              exact ne_z hc hP hS hr rfl dX4_canReplace_71 ⟨by clear hP hS hl hc hx hb hr; simp_all [-Int32.not_le, -Int32.not_lt, i32_lt, oRepl, nb_t, nb_f, nb_z, nb_o], rfl⟩
            · refine lv_aload_n hx hb dX4_canReplace_59 rfl (lv_at hl 0 rfl) ?_
              refine g4_129 hc hP (nv_o hon ho (by decide) (vp_lt hx0)) dX4_canReplace_60 ?_
              refine lv_if_eq (tgt := 70) hx hb dX4_canReplace_63 (by decide) (fun c_63 => ?_) (fun c_63 => ?_)
              · refine lv_iconst (v := 0) hx hb dX4_canReplace_70 (by decide) ?_
                exact ne_z hc hP hS hr rfl dX4_canReplace_71 ⟨by clear hP hS hl hc hx hb hr; simp_all [-Int32.not_le, -Int32.not_lt, i32_lt, oRepl, nb_t, nb_f, nb_z, nb_o], rfl⟩
              · refine lv_iconst (v := 1) hx hb dX4_canReplace_66 (by decide) ?_
                refine lv_goto (tgt := 71) hx hb dX4_canReplace_67 (by decide) ?_
                exact ne_z hc hP hS hr rfl dX4_canReplace_71 ⟨by clear hP hS hl hc hx hb hr; simp_all [-Int32.not_le, -Int32.not_lt, i32_lt, oRepl, nb_t, nb_f, nb_z, nb_o], rfl⟩
set_option maxHeartbeats 4000000 in
set_option maxRecDepth 100000 in
theorem c_X4_whyNotStanding (hI : ninj ad on) (hon : on o) (ho : o < 2) {x : Int32} (hx0 : vp_in x 12) : nMi l D dA ad on yX4_whyNotStanding cX4_whyNotStanding 3 (some .int) (nrm 2) [.ref (ad o 0 0), .int x] (wdo X o S) (fun r X' => r = oWhy S x ∧ X' = wdo X o S) := by
  refine nM_of hI (by decide +kernel) (Nat.le_of_ble_eq_true rfl) ?_
  intro p e s m args below meth cd ls hc hr _ hP hl hS
  have hx := hc.1
  have hb := hc.2.1
  have hl : lv_has ls 3 [(0, .ref (ad o 0 0)), (1, .int x)] := hl
  refine lv_aload_n hx hb dX4_whyNotStanding_0 rfl (lv_at hl 0 rfl) ?_
  refine g4_34 hc hP (nv_o hon ho (by decide) Nat.zero_lt_one) dX4_whyNotStanding_1 ?_
  refine lv_iload_n hx hb dX4_whyNotStanding_4 rfl (lv_at hl 1 rfl) ?_
  refine ga_10 hc hP (nv_o hon ho (by decide) Nat.zero_lt_one) hx0 dX4_whyNotStanding_5 ?_
  refine lv_astore_n (lv' := [(2, .ref _), (0, .ref _), (1, .int _)]) hx hb dX4_whyNotStanding_6 rfl hl (by decide) rfl (fun ls hl => ?_)
  refine lv_aload_n hx hb dX4_whyNotStanding_7 rfl (lv_at hl 1 rfl) ?_
  refine lv_iload_n hx hb dX4_whyNotStanding_8 rfl (lv_at hl 2 rfl) ?_
  refine nc_Vi (c_X4_isWithdrawn hI hon ho ) hc hP hS hl.1 gd4_177 (nrecv (q := (RX4, TX4, 9)) hc (npic_eta hP) (nv_o hon ho (by decide) Nat.zero_lt_one) rfl rfl) ⟨rfl, rfl⟩ nok_X4_isWithdrawn rfl ⟨Nat.le_of_ble_eq_true rfl, Nat.le_of_ble_eq_true rfl⟩ ⟨Nat.le_of_ble_eq_true rfl, Nat.le_of_ble_eq_true rfl⟩ dX4_whyNotStanding_9 rfl (Nat.le_of_ble_eq_true rfl) (fun r X1 H locs hp hP hS => ?_)
  obtain ⟨hr9, hX9⟩ := hp
  rw [hX9] at hP
  subst hr9
  refine lv_if_eq (tgt := 17) hx hb dX4_whyNotStanding_12 (by decide) (fun c_12 => ?_) (fun c_12 => ?_)
  · refine lv_aload_n hx hb dX4_whyNotStanding_17 rfl (lv_at hl 0 rfl) ?_
    refine g4_155 hc hP (nv_o hon ho (by decide) (vp_lt hx0)) dX4_whyNotStanding_18 ?_
    refine lv_if_eq (tgt := 29) hx hb dX4_whyNotStanding_21 (by decide) (fun c_21 => ?_) (fun c_21 => ?_)
    · refine lv_aload_n hx hb dX4_whyNotStanding_29 rfl (lv_at hl 0 rfl) ?_
      refine g4_129 hc hP (nv_o hon ho (by decide) (vp_lt hx0)) dX4_whyNotStanding_30 ?_
      refine lv_if_eq (tgt := 40) hx hb dX4_whyNotStanding_33 (by decide) (fun c_33 => ?_) (fun c_33 => ?_)
      · refine lv_iconst (v := 0) hx hb dX4_whyNotStanding_40 (by decide) ?_
        exact ne_i hc hP hS hr dX4_whyNotStanding_41 ⟨by clear hP hS hl hc hx hb hr; simp_all [-Int32.not_le, -Int32.not_lt, i32_lt, oWhy, nb_t, nb_f, nb_z, nb_o], rfl⟩
      · refine lv_iconst (v := 5) hx hb dX4_whyNotStanding_36 (by decide) ?_
        refine lv_goto (tgt := 41) hx hb dX4_whyNotStanding_37 (by decide) ?_
        exact ne_i hc hP hS hr dX4_whyNotStanding_41 ⟨by clear hP hS hl hc hx hb hr; simp_all [-Int32.not_le, -Int32.not_lt, i32_lt, oWhy, nb_t, nb_f, nb_z, nb_o], rfl⟩
    · refine lv_aload_n hx hb dX4_whyNotStanding_24 rfl (lv_at hl 0 rfl) ?_
      refine g4_155 hc hP (nv_o hon ho (by decide) (vp_lt hx0)) dX4_whyNotStanding_25 ?_
      exact ne_i hc hP hS hr dX4_whyNotStanding_28 ⟨by clear hP hS hl hc hx hb hr; simp_all [-Int32.not_le, -Int32.not_lt, i32_lt, oWhy, nb_t, nb_f, nb_z, nb_o], rfl⟩
  · refine lv_iconst (v := 1) hx hb dX4_whyNotStanding_15 (by decide) ?_
    exact ne_i hc hP hS hr dX4_whyNotStanding_16 ⟨by clear hP hS hl hc hx hb hr; simp_all [-Int32.not_le, -Int32.not_lt, i32_lt, oWhy, nb_t, nb_f, nb_z, nb_o], rfl⟩
set_option maxHeartbeats 4000000 in
set_option maxRecDepth 100000 in
theorem c_X4_wouldSupport (hI : ninj ad on) (hon : on o) (ho : o < 2) {x v : Int32} (hx0 : vp_in x 12) (hv0 : vp_in v 40) : nMi l D dA ad on yX4_wouldSupport cX4_wouldSupport 4 (some .boolean) (nrm 1) [.ref (ad o 0 0), .int x, .int v] (wdo X o S) (fun r X' => r = nb (oWould S x v) ∧ X' = wdo X o S) := by
  refine nM_of hI (by decide +kernel) (Nat.le_of_ble_eq_true rfl) ?_
  intro p e s m args below meth cd ls hc hr _ hP hl hS
  have hx := hc.1
  have hb := hc.2.1
  have hl : lv_has ls 4 [(0, .ref (ad o 0 0)), (1, .int x), (2, .int v)] := hl
  refine lv_aload_n hx hb dX4_wouldSupport_0 rfl (lv_at hl 0 rfl) ?_
  refine g4_21 hc hP (nv_o hon ho (by decide) Nat.zero_lt_one) dX4_wouldSupport_1 ?_
  refine g4_84 hc hP (nv_o hon ho (by decide) Nat.zero_lt_one) dX4_wouldSupport_4 ?_
  refine lv_iload_n hx hb dX4_wouldSupport_7 rfl (lv_at hl 2 rfl) ?_
  refine ga_5 hc hP (nv_o hon ho (by decide) Nat.zero_lt_one) hv0 dX4_wouldSupport_8 ?_
  refine lv_astore_n (lv' := [(3, .ref _), (0, .ref _), (1, .int _), (2, .int _)]) hx hb dX4_wouldSupport_9 rfl hl (by decide) rfl (fun ls hl => ?_)
  refine lv_aload_n hx hb dX4_wouldSupport_10 rfl (lv_at hl 0 rfl) ?_
  refine g4_93 hc hP (nv_o hon ho (by decide) (vp_lt hv0)) dX4_wouldSupport_11 ?_
  refine lv_if_eq (tgt := 51) hx hb dX4_wouldSupport_14 (by decide) (fun c_14 => ?_) (fun c_14 => ?_)
  · refine lv_iconst (v := 0) hx hb dX4_wouldSupport_51 (by decide) ?_
    exact ne_z hc hP hS hr rfl dX4_wouldSupport_52 ⟨by clear hP hS hl hc hx hb hr; simp_all [-Int32.not_le, -Int32.not_lt, i32_lt, oWould, nb_t, nb_f, nb_z, nb_o], rfl⟩
  · refine lv_aload_n hx hb dX4_wouldSupport_17 rfl (lv_at hl 0 rfl) ?_
    refine g4_88 hc hP (nv_o hon ho (by decide) (vp_lt hv0)) dX4_wouldSupport_18 ?_
    refine lv_aload_n hx hb dX4_wouldSupport_21 rfl (lv_at hl 1 rfl) ?_
    refine g4_34 hc hP (nv_o hon ho (by decide) Nat.zero_lt_one) dX4_wouldSupport_22 ?_
    refine lv_iload_n hx hb dX4_wouldSupport_25 rfl (lv_at hl 2 rfl) ?_
    refine ga_10 hc hP (nv_o hon ho (by decide) Nat.zero_lt_one) hx0 dX4_wouldSupport_26 ?_
    refine g4_141 hc hP (nv_o hon ho (by decide) (vp_lt hx0)) dX4_wouldSupport_27 ?_
    refine lv_icmp_ne (tgt := 51) hx hb dX4_wouldSupport_30 (by decide) (fun c_30 => ?_) (fun c_30 => ?_)
    · refine lv_iconst (v := 0) hx hb dX4_wouldSupport_51 (by decide) ?_
      exact ne_z hc hP hS hr rfl dX4_wouldSupport_52 ⟨by clear hP hS hl hc hx hb hr; simp_all [-Int32.not_le, -Int32.not_lt, i32_lt, oWould, nb_t, nb_f, nb_z, nb_o], rfl⟩
    · refine lv_aload_n hx hb dX4_wouldSupport_33 rfl (lv_at hl 0 rfl) ?_
      refine g4_142 hc hP (nv_o hon ho (by decide) (vp_lt hv0)) dX4_wouldSupport_34 ?_
      refine lv_aload_n hx hb dX4_wouldSupport_37 rfl (lv_at hl 1 rfl) ?_
      refine g4_63 hc hP (nv_o hon ho (by decide) Nat.zero_lt_one) dX4_wouldSupport_38 ?_
      refine lv_iconst (v := (-1)) hx hb dX4_wouldSupport_41 (by decide) ?_
      refine lv_ixor hx hb dX4_wouldSupport_42 ?_
      refine lv_iand hx hb dX4_wouldSupport_43 ?_
      refine lv_if_ne (tgt := 51) hx hb dX4_wouldSupport_44 (by decide) (fun c_44 => ?_) (fun c_44 => ?_)
      · refine lv_iconst (v := 0) hx hb dX4_wouldSupport_51 (by decide) ?_
        exact ne_z hc hP hS hr rfl dX4_wouldSupport_52 ⟨by clear hP hS hl hc hx hb hr; simp_all [-Int32.not_le, -Int32.not_lt, i32_lt, oWould, nb_t, nb_f, nb_z, nb_o], rfl⟩
      · refine lv_iconst (v := 1) hx hb dX4_wouldSupport_47 (by decide) ?_
        refine lv_goto (tgt := 52) hx hb dX4_wouldSupport_48 (by decide) ?_
        exact ne_z hc hP hS hr rfl dX4_wouldSupport_52 ⟨by clear hP hS hl hc hx hb hr; simp_all [-Int32.not_le, -Int32.not_lt, i32_lt, oWould, nb_t, nb_f, nb_z, nb_o], rfl⟩
set_option maxHeartbeats 4000000 in
set_option maxRecDepth 100000 in
theorem c_X4_standsIn (hI : ninj ad on) (hon : on o) (ho : o < 2) {x a : Int32} (hx0 : vp_in x 12) : nMi l D dA ad on yX4_standsIn cX4_standsIn 3 (some .boolean) (nrm 3) [.ref (ad o 0 0), .int x, .int a] (wdo X o S) (fun r X' => r = nb (oIn S x a) ∧ X' = wdo X o S) := by
  refine nM_of hI (by decide +kernel) (Nat.le_of_ble_eq_true rfl) ?_
  intro p e s m args below meth cd ls hc hr _ hP hl hS
  have hx := hc.1
  have hb := hc.2.1
  have hl : lv_has ls 3 [(0, .ref (ad o 0 0)), (1, .int x), (2, .int a)] := hl
  refine lv_aload_n hx hb dX4_standsIn_0 rfl (lv_at hl 0 rfl) ?_
  refine g4_34 hc hP (nv_o hon ho (by decide) Nat.zero_lt_one) dX4_standsIn_1 ?_
  refine lv_iload_n hx hb dX4_standsIn_4 rfl (lv_at hl 1 rfl) ?_
  refine ga_10 hc hP (nv_o hon ho (by decide) Nat.zero_lt_one) hx0 dX4_standsIn_5 ?_
  refine g4_141 hc hP (nv_o hon ho (by decide) (vp_lt hx0)) dX4_standsIn_6 ?_
  refine lv_iload_n hx hb dX4_standsIn_9 rfl (lv_at hl 2 rfl) ?_
  refine lv_icmp_ne (tgt := 25) hx hb dX4_standsIn_10 (by decide) (fun c_10 => ?_) (fun c_10 => ?_)
  · refine lv_iconst (v := 0) hx hb dX4_standsIn_25 (by decide) ?_
    exact ne_z hc hP hS hr rfl dX4_standsIn_26 ⟨by clear hP hS hl hc hx hb hr; simp_all [-Int32.not_le, -Int32.not_lt, i32_lt, oIn, nb_t, nb_f, nb_z, nb_o], rfl⟩
  · refine lv_aload_n hx hb dX4_standsIn_13 rfl (lv_at hl 0 rfl) ?_
    refine lv_iload_n hx hb dX4_standsIn_14 rfl (lv_at hl 1 rfl) ?_
    refine nc_Vi (c_X4_whyNotStanding hI hon ho hx0) hc hP hS hl.1 gd4_220 (nrecv (q := (RX4, TX4, 9)) hc (npic_eta hP) (nv_o hon ho (by decide) Nat.zero_lt_one) rfl rfl) ⟨rfl, rfl⟩ nok_X4_whyNotStanding rfl ⟨Nat.le_of_ble_eq_true rfl, Nat.le_of_ble_eq_true rfl⟩ ⟨Nat.le_of_ble_eq_true rfl, Nat.le_of_ble_eq_true rfl⟩ dX4_standsIn_15 rfl (Nat.le_of_ble_eq_true rfl) (fun r X1 H locs hp hP hS => ?_)
    obtain ⟨hr9, hX9⟩ := hp
    rw [hX9] at hP
    subst hr9
    refine lv_if_ne (tgt := 25) hx hb dX4_standsIn_18 (by decide) (fun c_18 => ?_) (fun c_18 => ?_)
    · refine lv_iconst (v := 0) hx hb dX4_standsIn_25 (by decide) ?_
      exact ne_z hc hP hS hr rfl dX4_standsIn_26 ⟨by clear hP hS hl hc hx hb hr; simp_all [-Int32.not_le, -Int32.not_lt, i32_lt, oIn, nb_t, nb_f, nb_z, nb_o], rfl⟩
    · refine lv_iconst (v := 1) hx hb dX4_standsIn_21 (by decide) ?_
      refine lv_goto (tgt := 26) hx hb dX4_standsIn_22 (by decide) ?_
      exact ne_z hc hP hS hr rfl dX4_standsIn_26 ⟨by clear hP hS hl hc hx hb hr; simp_all [-Int32.not_le, -Int32.not_lt, i32_lt, oIn, nb_t, nb_f, nb_z, nb_o], rfl⟩
end N11
