/-! the events keep the ranges -/
theorem oOk.same {S T : NSt} (g : oOk S) (h06 : T 0 0 6 = S 0 0 6) (h07 : T 0 0 7 = S 0 0 7) (h23 : T 2 0 3 = S 2 0 3) (h22 : T 2 0 2 = S 2 0 2) (h11 : ∀ k, T 11 k 0 = S 11 k 0) (h130 : ∀ k, T 13 k 0 = S 13 k 0) (h131 : ∀ k, T 13 k 1 = S 13 k 1) : oOk T := by
  obtain ⟨g1, g2, g3, g4, g5, g6, g7, g8, g9, g10⟩ := g
  have e1 : onp T = onp S := by unfold onp; rw [h06]
  have e2 : ons T = ons S := by unfold ons; rw [h07]
  have e3 : onv T = onv S := by unfold onv; rw [h23]
  have e4 : ona T = ona S := by unfold ona; rw [h22]
  refine ⟨by rw [e1, h06]; exact g1, by rw [e1]; exact g2, by rw [e2, h07]; exact g3, by rw [e2]; exact g4, by rw [e3, h23]; exact g5, by rw [e3]; exact g6, by rw [e4, h22]; exact g7, by rw [e4]; exact g8, ?_, ?_⟩
  · intro k hk
    rw [e1] at hk
    rw [h11]; exact g9 k hk
  · intro k hk
    rw [e2] at hk
    rw [h130, h131]; exact g10 k hk
theorem oOk.naL {S : NSt} (g : oOk S) : ona S < 2 ^ 31 := by have := g.na5; omega
theorem vp_lo {x : Int32} {n m : Nat} (h : vp_in x n) (hm : nix x < m) : vp_in x m := fun q => q.elim (fun z => h (Or.inl z)) (fun z => Nat.not_le.mpr hm z)
/-- an event that may happen -/
def oEv (S : NSt) (x f z : Int32) : Prop := vp_in x 16 ∧ (x = 2 → ona S < 5) ∧ (x = 3 → onv S < 40) ∧ (x = 4 ∨ x = 5 ∨ x = 6 → vp_in f (onv S)) ∧ (x = 7 → onp S < 12 ∧ vp_in f (ona S)) ∧ (x = 8 → ons S < 150 ∧ vp_in f (onp S) ∧ vp_in z (onv S)) ∧ (x = 9 ∨ x = 10 ∨ x = 11 ∨ x = 12 ∨ x = 14 → vp_in f (onp S)) ∧ (x = 15 → vp_in f (ona S))
theorem oNeed_of {S : NSt} {x f z : Int32} (g : oOk S) (h : oEv S x f z) : oNeed S x f z := by
  obtain ⟨h0, h2, h3, h4, h7, h8, h9, h15⟩ := h
  refine ⟨h0, fun _ => g, fun e => ?_, fun e => ?_, fun e => vp_mono (h4 e) g.nv40, fun e => ?_, fun e => ?_, fun e => vp_mono (h9 e) g.np12, fun e => vp_mono (h15 e) g.na5⟩
  · rw [g.na]; exact vp_in_nI (h2 e) (by decide)
  · rw [g.nv]; exact vp_in_nI (h3 e) (by decide)
  · rw [g.np]; exact vp_in_nI (h7 e).1 (by decide)
  · obtain ⟨a, b, c⟩ := h8 e
    exact ⟨by rw [g.ns]; exact vp_in_nI a (by decide), vp_mono b g.np12, vp_mono c g.nv40⟩
theorem nix_nI {n : Nat} (h : n < 2 ^ 31) : nix (nI n) = n := nI_clamp h
theorem oBegin_ok {S : NSt} (g : oOk S) {a b c : Int32} (h1 : onp S < 12) (h2 : vp_in a (ona S)) : oOk (oBegin S a b c) := by
  have e6 : oBegin S a b c 0 0 6 = nI (onp S + 1) := by show S 0 0 6 + 1 = _; rw [g.np]; exact nI_1 _
  have e1 : onp (oBegin S a b c) = onp S + 1 := by show nix (oBegin S a b c 0 0 6) = _; rw [e6, nix_nI (by omega)]
  obtain ⟨g1, g2, g3, g4, g5, g6, g7, g8, g9, g10⟩ := g
  refine ⟨by rw [e1]; exact e6, by rw [e1]; exact h1, g3, g4, g5, g6, g7, g8, ?_, g10⟩
  intro k hk
  rw [e1] at hk
  show vp_in (if (11 : Nat) = 11 ∧ (0 : Nat) = 0 ∧ k = onp S then a else S 11 k 0) 5
  split
  · exact vp_mono h2 g8
  · next h => exact g9 k (Nat.lt_of_le_of_ne (Nat.le_of_lt_succ hk) (fun e => h ⟨rfl, rfl, e⟩))
theorem oSig1_ok {S : NSt} (g : oOk S) {x v : Int32} (h1 : ons S < 150) (h2 : vp_in x (onp S)) (h3 : vp_in v (onv S)) : oOk (oSig1 S x v) := by
  have e6 : oSig1 S x v 0 0 7 = nI (ons S + 1) := by show S 0 0 7 + 1 = _; rw [g.ns]; exact nI_1 _
  have e1 : ons (oSig1 S x v) = ons S + 1 := by show nix (oSig1 S x v 0 0 7) = _; rw [e6, nix_nI (by omega)]
  obtain ⟨g1, g2, g3, g4, g5, g6, g7, g8, g9, g10⟩ := g
  refine ⟨g1, g2, by rw [e1]; exact e6, by rw [e1]; exact h1, g5, g6, g7, g8, g9, ?_⟩
  intro k hk
  rw [e1] at hk
  show vp_in (if (13 : Nat) = 13 ∧ (0 : Nat) = 0 ∧ k = ons S then x else S 13 k 0) 12 ∧ vp_in (if (13 : Nat) = 13 ∧ (1 : Nat) = 1 ∧ k = ons S then v else S 13 k 1) 40
  by_cases e : k = ons S
  · rw [if_pos ⟨rfl, rfl, e⟩, if_pos ⟨rfl, rfl, e⟩]
    exact ⟨vp_mono h2 g2, vp_mono h3 g6⟩
  · rw [if_neg (fun z => e z.2.2), if_neg (fun z => e z.2.2)]
    exact g10 k (Nat.lt_of_le_of_ne (Nat.le_of_lt_succ hk) e)
theorem shf1_ne (S : NSt) : ∀ (n k i j : Nat), k ≠ 8 → shf1 S n k i j = S k i j
  | 0, _, _, _, _ => rfl
  | n + 1, k, i, j, hk => by
    show nput _ _ _ _ _ k i j = _
    unfold nput
    rw [if_neg (fun z => hk z.1)]
    exact shf1_ne S n k i j hk
theorem letExch_ne (T : NSt) (a b : Int32) {k i j : Nat} (hk : k ≠ 8) : letExch T a b k i j = T k i j := by
  unfold letExch nput
  rw [if_neg (fun z => hk z.1), if_neg (fun z => hk z.1)]
theorem shf2_ne : ∀ (n : Nat) (st : Int32) (T : NSt) (k i j : Nat), k ≠ 8 → shf2 n st T k i j = T k i j
  | 0, _, _, _, _, _, _ => rfl
  | n + 1, st, T, k, i, j, hk => by
    unfold shf2
    rw [shf2_ne n _ _ k i j hk, letExch_ne _ _ _ hk]
theorem oShuf_ne (S : NSt) (f : Int32) {k i j : Nat} (h7 : k ≠ 7) (h8 : k ≠ 8) (h9 : k ≠ 9) : oShuf S f k i j = S k i j := by
  unfold oShuf nput
  rw [if_neg (fun z => h7 z.1), shf3_ne _ _ _ _ _ h9, shf2_ne _ _ _ _ _ _ h8, shf1_ne _ _ _ _ _ h8]
theorem oHap_ok {S : NSt} {x f z t : Int32} (g : oOk S) (h : oEv S x f z) : oOk (oHap S x f z t) := by
  obtain ⟨h0, h2, h3, h4, h7, h8, h9, h15⟩ := h
  obtain ⟨n, hn, rfl⟩ := vp_in_of h0 (by decide)
  rcases (show n = 0 ∨ n = 1 ∨ n = 2 ∨ n = 3 ∨ n = 4 ∨ n = 5 ∨ n = 6 ∨ n = 7 ∨ n = 8 ∨ n = 9 ∨ n = 10 ∨ n = 11 ∨ n = 12 ∨ n = 13 ∨ n = 14 ∨ n = 15 by omega) with rfl | rfl | rfl | rfl | rfl | rfl | rfl | rfl | rfl | rfl | rfl | rfl | rfl | rfl | rfl | rfl
  · exact g.same rfl rfl rfl rfl (fun _ => rfl) (fun _ => rfl) (fun _ => rfl)
  · exact ((oJudge_same S).ok g).same rfl rfl rfl rfl (fun _ => rfl) (fun _ => rfl) (fun _ => rfl)
  · show oOk (rollArea S f z)
    have h5 := h2 (by decide)
    have e6 : rollArea S f z 2 0 2 = nI (ona S + 1) := by show S 2 0 2 + 1 = _; rw [g.na]; exact nI_1 _
    have e1 : ona (rollArea S f z) = ona S + 1 := by show nix (rollArea S f z 2 0 2) = _; rw [e6, nix_nI (by omega)]
    obtain ⟨g1, g2, g3, g4, g5, g6, g7, g8, g9, g10⟩ := g
    exact ⟨g1, g2, g3, g4, g5, g6, by rw [e1]; exact e6, by rw [e1]; exact h5, g9, g10⟩
  · show oOk (rollVoter S f)
    have h5 := h3 (by decide)
    have e6 : rollVoter S f 2 0 3 = nI (onv S + 1) := by show S 2 0 3 + 1 = _; rw [g.nv]; exact nI_1 _
    have e1 : onv (rollVoter S f) = onv S + 1 := by show nix (rollVoter S f 2 0 3) = _; rw [e6, nix_nI (by omega)]
    obtain ⟨g1, g2, g3, g4, g5, g6, g7, g8, g9, g10⟩ := g
    exact ⟨g1, g2, g3, g4, by rw [e1]; exact e6, by rw [e1]; exact h5, g7, g8, g9, g10⟩
  · exact g.same rfl rfl rfl rfl (fun _ => rfl) (fun _ => rfl) (fun _ => rfl)
  · exact g.same rfl rfl rfl rfl (fun _ => rfl) (fun _ => rfl) (fun _ => rfl)
  · exact g.same rfl rfl rfl rfl (fun _ => rfl) (fun _ => rfl) (fun _ => rfl)
  · exact oBegin_ok g (h7 (by decide)).1 (h7 (by decide)).2
  · obtain ⟨a1, a2, a3⟩ := h8 (by decide)
    have q := oSig1_ok g a1 a2 a3
    show oOk (oSign S f z)
    unfold oSign
    split
    · exact q.same rfl rfl rfl rfl (fun _ => rfl) (fun _ => rfl) (fun _ => rfl)
    · exact q
  · exact g.same rfl rfl rfl rfl (fun _ => rfl) (fun _ => rfl) (fun _ => rfl)
  · exact g.same rfl rfl rfl rfl (fun _ => rfl) (fun _ => rfl) (fun _ => rfl)
  · exact g.same rfl rfl rfl rfl (fun _ => rfl) (fun _ => rfl) (fun _ => rfl)
  · exact g.same rfl rfl rfl rfl (fun _ => rfl) (fun _ => rfl) (fun _ => rfl)
  · show oOk (oShuf S f)
    exact g.same (oShuf_ne S f (by decide) (by decide) (by decide)) (oShuf_ne S f (by decide) (by decide) (by decide)) (oShuf_ne S f (by decide) (by decide) (by decide)) (oShuf_ne S f (by decide) (by decide) (by decide)) (fun _ => oShuf_ne S f (by decide) (by decide) (by decide)) (fun _ => oShuf_ne S f (by decide) (by decide) (by decide)) (fun _ => oShuf_ne S f (by decide) (by decide) (by decide))
  · exact g.same rfl rfl rfl rfl (fun _ => rfl) (fun _ => rfl) (fun _ => rfl)
  · exact g.same rfl rfl rfl rfl (fun _ => rfl) (fun _ => rfl) (fun _ => rfl)
def dWr (T : NSt) (x a b c : Int32) : NSt := if T 21 0 4 < 512 then nput (nput (nput (nput (nput T 22 0 (nix (T 21 0 4)) x) 23 0 (nix (T 21 0 4)) a) 24 0 (nix (T 21 0 4)) b) 25 0 (nix (T 21 0 4)) c) 21 0 4 (T 21 0 4 + 1) else T
theorem wdo_comm {X : NWd} {a b : Nat} {S T : NSt} (h : a ≠ b) : wdo (wdo X a S) b T = wdo (wdo X b T) a S := by
  funext q
  unfold wdo
  by_cases e1 : q = b
  · rw [if_pos e1, if_neg (fun z => h (z.symm.trans e1)), if_pos e1]
  · rw [if_neg e1]
    by_cases e2 : q = a
    · rw [if_pos e2, if_pos e2]
    · rw [if_neg e2, if_neg e2, if_neg e1]
def nEv (X : NWd) (S : NSt) (x f z t : Int32) : NWd := wdo (wdo X 2 (dWr (X 2) x f z t)) 0 (oJudge (oHap S x f z t))
def inB (x : Int32) (n : Nat) : Bool := !decide (x < 0) && decide (nix x < n)
theorem inB_t {x : Int32} {n : Nat} : inB x n = true ↔ vp_in x n := by
  unfold inB vp_in
  rw [Bool.and_eq_true, Bool.not_eq_true', decide_eq_false_iff_not, decide_eq_true_eq, not_or, Nat.not_le]
theorem inB_lt {x b : Int32} {n : Nat} (h0 : ¬ x < 0) (hb : b = nI n) (hn : n < 2 ^ 31) : inB x n = decide (x < b) := by
  obtain ⟨j, hj, rfl⟩ := nI_of h0
  unfold inB
  rw [hb, nix_nI hj]
  simp only [h0, nI_ltI hj hn, decide_false, Bool.not_false, Bool.true_and]
theorem inB_neg {x : Int32} {n : Nat} (h0 : x < 0) : inB x n = false := by
  unfold inB
  rw [decide_eq_true h0]; rfl
abbrev NRes : Type := Nat ⊕ (Int32 × NWd)
def nG {α : Type} (b : Bool) (k : Nat) (r : Nat ⊕ α) : Nat ⊕ α := if b then r else .inl k
theorem nG_t {α : Type} {b : Bool} {k : Nat} {r : Nat ⊕ α} (h : b = true) : nG b k r = r := by rw [h]; rfl
theorem nG_f {α : Type} {b : Bool} {k : Nat} {r : Nat ⊕ α} (h : b = false) : nG b k r = .inl k := by rw [h]; rfl
def nmOk (a b c d : Int32) : Bool := cSmall a && cFollow a b && cFollow b c && cFollow c d
theorem oRepl_x {S : NSt} : True := trivial
theorem oEv_0 {S : NSt} {f z : Int32}  : oEv S 0 f z := by
  refine ⟨by unfold vp_in; decide, ?_, ?_, ?_, ?_, ?_, ?_, ?_⟩ <;> intro h9 <;> first | exact absurd h9 (by decide)
theorem oEv_1 {S : NSt} {f z : Int32}  : oEv S 1 f z := by
  refine ⟨by unfold vp_in; decide, ?_, ?_, ?_, ?_, ?_, ?_, ?_⟩ <;> intro h9 <;> first | exact absurd h9 (by decide)
theorem oEv_2 {S : NSt} {f z : Int32} (h : ona S < 5) : oEv S 2 f z := by
  refine ⟨by unfold vp_in; decide, ?_, ?_, ?_, ?_, ?_, ?_, ?_⟩ <;> intro h9 <;> first | exact h | exact absurd h9 (by decide)
theorem oEv_3 {S : NSt} {f z : Int32} (h : onv S < 40) : oEv S 3 f z := by
  refine ⟨by unfold vp_in; decide, ?_, ?_, ?_, ?_, ?_, ?_, ?_⟩ <;> intro h9 <;> first | exact h | exact absurd h9 (by decide)
theorem oEv_4 {S : NSt} {f z : Int32} (h : vp_in f (onv S)) : oEv S 4 f z := by
  refine ⟨by unfold vp_in; decide, ?_, ?_, ?_, ?_, ?_, ?_, ?_⟩ <;> intro h9 <;> first | exact h | exact absurd h9 (by decide)
theorem oEv_5 {S : NSt} {f z : Int32} (h : vp_in f (onv S)) : oEv S 5 f z := by
  refine ⟨by unfold vp_in; decide, ?_, ?_, ?_, ?_, ?_, ?_, ?_⟩ <;> intro h9 <;> first | exact h | exact absurd h9 (by decide)
theorem oEv_6 {S : NSt} {f z : Int32} (h : vp_in f (onv S)) : oEv S 6 f z := by
  refine ⟨by unfold vp_in; decide, ?_, ?_, ?_, ?_, ?_, ?_, ?_⟩ <;> intro h9 <;> first | exact h | exact absurd h9 (by decide)
theorem oEv_7 {S : NSt} {f z : Int32} (h : onp S < 12 ∧ vp_in f (ona S)) : oEv S 7 f z := by
  refine ⟨by unfold vp_in; decide, ?_, ?_, ?_, ?_, ?_, ?_, ?_⟩ <;> intro h9 <;> first | exact h | exact absurd h9 (by decide)
theorem oEv_8 {S : NSt} {f z : Int32} (h : ons S < 150 ∧ vp_in f (onp S) ∧ vp_in z (onv S)) : oEv S 8 f z := by
  refine ⟨by unfold vp_in; decide, ?_, ?_, ?_, ?_, ?_, ?_, ?_⟩ <;> intro h9 <;> first | exact h | exact absurd h9 (by decide)
theorem oEv_9 {S : NSt} {f z : Int32} (h : vp_in f (onp S)) : oEv S 9 f z := by
  refine ⟨by unfold vp_in; decide, ?_, ?_, ?_, ?_, ?_, ?_, ?_⟩ <;> intro h9 <;> first | exact h | exact absurd h9 (by decide)
theorem oEv_10 {S : NSt} {f z : Int32} (h : vp_in f (onp S)) : oEv S 10 f z := by
  refine ⟨by unfold vp_in; decide, ?_, ?_, ?_, ?_, ?_, ?_, ?_⟩ <;> intro h9 <;> first | exact h | exact absurd h9 (by decide)
theorem oEv_11 {S : NSt} {f z : Int32} (h : vp_in f (onp S)) : oEv S 11 f z := by
  refine ⟨by unfold vp_in; decide, ?_, ?_, ?_, ?_, ?_, ?_, ?_⟩ <;> intro h9 <;> first | exact h | exact absurd h9 (by decide)
theorem oEv_12 {S : NSt} {f z : Int32} (h : vp_in f (onp S)) : oEv S 12 f z := by
  refine ⟨by unfold vp_in; decide, ?_, ?_, ?_, ?_, ?_, ?_, ?_⟩ <;> intro h9 <;> first | exact h | exact absurd h9 (by decide)
theorem oEv_13 {S : NSt} {f z : Int32}  : oEv S 13 f z := by
  refine ⟨by unfold vp_in; decide, ?_, ?_, ?_, ?_, ?_, ?_, ?_⟩ <;> intro h9 <;> first | exact absurd h9 (by decide)
theorem oEv_14 {S : NSt} {f z : Int32} (h : vp_in f (onp S)) : oEv S 14 f z := by
  refine ⟨by unfold vp_in; decide, ?_, ?_, ?_, ?_, ?_, ?_, ?_⟩ <;> intro h9 <;> first | exact h | exact absurd h9 (by decide)
theorem oEv_15 {S : NSt} {f z : Int32} (h : vp_in f (ona S)) : oEv S 15 f z := by
  refine ⟨by unfold vp_in; decide, ?_, ?_, ?_, ?_, ?_, ?_, ?_⟩ <;> intro h9 <;> first | exact h | exact absurd h9 (by decide)
section N15
variable {l : Launch} {D : va_G} {dA : Nat → ClassId} {ad : Nat → Nat → Nat → Nat} {on : Nat → Prop} {X : NWd} {o i : Nat} {S : NSt}
set_option maxHeartbeats 4000000 in
set_option maxRecDepth 100000 in
theorem c_X2_write (hI : ninj ad on) (hon2 : on 2) {x a b t : Int32} (hd : vp_in (S 21 0 4) 513) : nMv l D dA ad on yX2_write cX2_write 5 (nrm 1) [.ref (ad 2 21 0), .int x, .int a, .int b, .int t] (wdo X 2 S) (fun X' => X' = wdo X 2 (dWr S x a b t)) := by
  refine nM_of hI (by decide +kernel) (Nat.le_of_ble_eq_true rfl) ?_
  intro p e s m args below meth cd ls hc hr _ hP hl hS
  have hx := hc.1
  have hb := hc.2.1
  have hl : lv_has ls 5 [(0, .ref (ad 2 21 0)), (1, .int x), (2, .int a), (3, .int b), (4, .int t)] := hl
  refine lv_aload_n hx hb dX2_write_0 rfl (lv_at hl 0 rfl) ?_
  refine g2_24 hc hP (nv_n hon2 (by decide) Nat.zero_lt_one) dX2_write_1 ?_
  refine lv_sipush (v := 512) hx hb dX2_write_4 (by decide) ?_
  refine lv_icmp_ge (tgt := 61) hx hb dX2_write_7 (by decide) (fun c_7 => ?_) (fun c_7 => ?_)
  · exact ne_v hc hP hS hr dX2_write_61 (by show _ = _; rw [dWr, if_neg (Int32.not_lt.mpr c_7)]; try rfl)
  · have hdv : vp_in (S 21 0 4) 512 := vp_lo hd (by have h5 := c_7; rw [vp_eq hd] at h5; have h6 : ¬ 512 ≤ nix (S 21 0 4) := fun z => h5 ((nI_leI (a := 512) (b := nix (S 21 0 4)) (by decide) (by have := vp_lt hd; omega)).mpr z); omega)
    refine lv_aload_n hx hb dX2_write_10 rfl (lv_at hl 0 rfl) ?_
    refine g2_9 hc hP (nv_n hon2 (by decide) Nat.zero_lt_one) dX2_write_11 ?_
    refine lv_aload_n hx hb dX2_write_14 rfl (lv_at hl 0 rfl) ?_
    refine g2_24 hc hP (nv_n hon2 (by decide) Nat.zero_lt_one) dX2_write_15 ?_
    refine lv_iload_n hx hb dX2_write_18 rfl (lv_at hl 1 rfl) ?_
    refine sa_22 hc hP hS (nv_n hon2 (by decide) Nat.zero_lt_one) hdv dX2_write_19 (fun H locs hP hS => ?_)
    refine lv_aload_n hx hb dX2_write_20 rfl (lv_at hl 0 rfl) ?_
    refine g2_15 hc hP (nv_n hon2 (by decide) Nat.zero_lt_one) dX2_write_21 ?_
    refine lv_aload_n hx hb dX2_write_24 rfl (lv_at hl 0 rfl) ?_
    refine g2_24 hc hP (nv_n hon2 (by decide) Nat.zero_lt_one) dX2_write_25 ?_
    refine lv_iload_n hx hb dX2_write_28 rfl (lv_at hl 2 rfl) ?_
    refine sa_23 hc hP hS (nv_n hon2 (by decide) Nat.zero_lt_one) hdv dX2_write_29 (fun H locs hP hS => ?_)
    refine lv_aload_n hx hb dX2_write_30 rfl (lv_at hl 0 rfl) ?_
    refine g2_18 hc hP (nv_n hon2 (by decide) Nat.zero_lt_one) dX2_write_31 ?_
    refine lv_aload_n hx hb dX2_write_34 rfl (lv_at hl 0 rfl) ?_
    refine g2_24 hc hP (nv_n hon2 (by decide) Nat.zero_lt_one) dX2_write_35 ?_
    refine lv_iload_n hx hb dX2_write_38 rfl (lv_at hl 3 rfl) ?_
    refine sa_24 hc hP hS (nv_n hon2 (by decide) Nat.zero_lt_one) hdv dX2_write_39 (fun H locs hP hS => ?_)
    refine lv_aload_n hx hb dX2_write_40 rfl (lv_at hl 0 rfl) ?_
    refine g2_21 hc hP (nv_n hon2 (by decide) Nat.zero_lt_one) dX2_write_41 ?_
    refine lv_aload_n hx hb dX2_write_44 rfl (lv_at hl 0 rfl) ?_
    refine g2_24 hc hP (nv_n hon2 (by decide) Nat.zero_lt_one) dX2_write_45 ?_
    refine lv_iload hx hb dX2_write_48 (lv_at hl 4 rfl) ?_
    refine sa_25 hc hP hS (nv_n hon2 (by decide) Nat.zero_lt_one) hdv dX2_write_50 (fun H locs hP hS => ?_)
    refine lv_aload_n hx hb dX2_write_51 rfl (lv_at hl 0 rfl) ?_
    refine lv_dup hx hb dX2_write_52 rfl ?_
    refine g2_24 hc hP (nv_n hon2 (by decide) Nat.zero_lt_one) dX2_write_53 ?_
    refine lv_iconst (v := 1) hx hb dX2_write_56 (by decide) ?_
    refine lv_iadd hx hb dX2_write_57 ?_
    refine p2_24 hc hP hS (nv_n hon2 (by decide) Nat.zero_lt_one) dX2_write_58 (fun H locs hP hS => ?_)
    exact ne_v hc hP hS hr dX2_write_61 (by show _ = _; rw [dWr, if_pos (Int32.not_le.mp c_7)]; try rfl)
set_option maxHeartbeats 4000000 in
set_option maxRecDepth 100000 in
theorem c_X9_happen (hI : ninj ad on) (hon0 : on 0) (hon1 : on 1) (hon2 : on 2) {x f z t : Int32} (hok : oOk S) (hev : oEv S x f z) (hd : vp_in (X 2 21 0 4) 513) : nMv l D dA ad on yX9_happen cX9_happen 5 (nrm 6) [.ref (ad 2 20 0), .int x, .int f, .int z, .int t] (wdo X 0 S) (fun X' => X' = nEv X S x f z t) := by
  refine nM_of hI (by decide +kernel) (Nat.le_of_ble_eq_true rfl) ?_
  intro p e s m args below meth cd ls hc hr _ hP hl hS
  have hx := hc.1
  have hb := hc.2.1
  have hl : lv_has ls 5 [(0, .ref (ad 2 20 0)), (1, .int x), (2, .int f), (3, .int z), (4, .int t)] := hl
  refine lv_aload_n hx hb dX9_happen_0 rfl (lv_at hl 0 rfl) ?_
  refine g9_22 hc hP (nv_n hon2 (by decide) Nat.zero_lt_one) dX9_happen_1 ?_
  refine lv_iload_n hx hb dX9_happen_4 rfl (lv_at hl 1 rfl) ?_
  refine lv_iload_n hx hb dX9_happen_5 rfl (lv_at hl 2 rfl) ?_
  refine lv_iload_n hx hb dX9_happen_6 rfl (lv_at hl 3 rfl) ?_
  refine lv_iload hx hb dX9_happen_7 (lv_at hl 4 rfl) ?_
  rw [show wdo X 0 S = wdo (wdo X 0 S) 2 (X 2) from wdo_eta.symm] at hP
  refine nc_Vv (c_X2_write hI hon2 hd) hc hP hS hl.1 gd9_385 (nrecv (q := (RX2, TX2, 5)) hc (npic_eta hP) (nv_n hon2 (by decide) Nat.zero_lt_one) rfl rfl) ⟨rfl, rfl⟩ nok_X2_write rfl ⟨Nat.le_of_ble_eq_true rfl, Nat.le_of_ble_eq_true rfl⟩ ⟨Nat.le_of_ble_eq_true rfl, Nat.le_of_ble_eq_true rfl⟩ dX9_happen_9 rfl (Nat.le_of_ble_eq_true rfl) (fun X1 H locs hp hP hS => ?_)
  rw [hp, wdo_comm (by decide)] at hP
  refine lv_aload_n hx hb dX9_happen_12 rfl (lv_at hl 0 rfl) ?_
  refine g9_10 hc hP (nv_n hon2 (by decide) Nat.zero_lt_one) dX9_happen_13 ?_
  refine lv_iload_n hx hb dX9_happen_16 rfl (lv_at hl 1 rfl) ?_
  refine lv_iload_n hx hb dX9_happen_17 rfl (lv_at hl 2 rfl) ?_
  refine lv_iload_n hx hb dX9_happen_18 rfl (lv_at hl 3 rfl) ?_
  refine lv_iload hx hb dX9_happen_19 (lv_at hl 4 rfl) ?_
  refine nc_Vv (c_X4_happen hI hon0 (by decide) (oNeed_of hok hev)) hc hP hS hl.1 gd9_256 (nrecv (q := (RX4, TX4, 9)) hc (npic_eta hP) (nv_o hon0 (by decide) (by decide) Nat.zero_lt_one) rfl rfl) ⟨rfl, rfl⟩ nok_X4_happen rfl ⟨Nat.le_of_ble_eq_true rfl, Nat.le_of_ble_eq_true rfl⟩ ⟨Nat.le_of_ble_eq_true rfl, Nat.le_of_ble_eq_true rfl⟩ dX9_happen_21 rfl (Nat.le_of_ble_eq_true rfl) (fun X1 H locs hp hP hS => ?_)
  rw [hp] at hP
  refine lv_aload_n hx hb dX9_happen_24 rfl (lv_at hl 0 rfl) ?_
  refine g9_10 hc hP (nv_n hon2 (by decide) Nat.zero_lt_one) dX9_happen_25 ?_
  refine nc_Vv (c_X4_judge hI hon0 (by decide) (oHap_ok hok hev)) hc hP hS hl.1 gd9_257 (nrecv (q := (RX4, TX4, 9)) hc (npic_eta hP) (nv_o hon0 (by decide) (by decide) Nat.zero_lt_one) rfl rfl) ⟨rfl, rfl⟩ nok_X4_judge rfl ⟨Nat.le_of_ble_eq_true rfl, Nat.le_of_ble_eq_true rfl⟩ ⟨Nat.le_of_ble_eq_true rfl, Nat.le_of_ble_eq_true rfl⟩ dX9_happen_28 rfl (Nat.le_of_ble_eq_true rfl) (fun X1 H locs hp hP hS => ?_)
  rw [hp] at hP
  exact ne_v hc hP hS hr dX9_happen_31 rfl
set_option maxHeartbeats 4000000 in
set_option maxRecDepth 100000 in
theorem c_X9_needArea (hfl : l.stackTraces = false) (hI : ninj ad on) (hon0 : on 0) (hon1 : on 1) (hon2 : on 2) {x : Int32} (hok : oOk S) : nXv l D dA ad on yX9_needArea cX9_needArea 2 (nrx 8 1) [.ref (ad 2 20 0), .int x] (wdo X 0 S) 1 (fun X' => (inB x (ona S)) = true ∧ X' = wdo X 0 S) (fun k => k = 2 ∧ (inB x (ona S)) = false) := by
  refine nX_of hI (by decide +kernel) (Nat.le_of_ble_eq_true rfl) ?_
  intro p e s m args below meth cd ls hc hr htb hP hl hS
  have hx := hc.1
  have hb := hc.2.1
  have hl : lv_has ls 2 [(0, .ref (ad 2 20 0)), (1, .int x)] := hl
  refine lv_iload_n hx hb dX9_needArea_0 rfl (lv_at hl 1 rfl) ?_
  refine lv_if_lt (tgt := 18) hx hb dX9_needArea_1 (by decide) (fun c_1 => ?_) (fun c_1 => ?_)
  · exact nt_throwW hfl 2 (by decide) (by decide) (is := 347) (text := "no such area") (by decide) hc htb hP hS hl.1 dX9_needArea_18 dX9_needArea_21 dX9_needArea_22 dX9_needArea_25 dX9_needArea_28 (Nat.le_of_ble_eq_true rfl) (Nat.le_of_ble_eq_true rfl) (Nat.le_of_ble_eq_true rfl) (Nat.le_of_ble_eq_true rfl) ⟨rfl, inB_neg c_1⟩ (Nat.le_of_ble_eq_true rfl) (Nat.le_of_ble_eq_true rfl)
  · refine lv_iload_n hx hb dX9_needArea_4 rfl (lv_at hl 1 rfl) ?_
    refine lv_aload_n hx hb dX9_needArea_5 rfl (lv_at hl 0 rfl) ?_
    refine g9_10 hc hP (nv_n hon2 (by decide) Nat.zero_lt_one) dX9_needArea_6 ?_
    refine g9_68 hc hP (nv_o hon0 (by decide) (by decide) Nat.zero_lt_one) dX9_needArea_9 ?_
    refine g9_72 hc hP (nv_o hon0 (by decide) (by decide) Nat.zero_lt_one) dX9_needArea_12 ?_
    refine lv_icmp_lt (tgt := 29) hx hb dX9_needArea_15 (by decide) (fun c_15 => ?_) (fun c_15 => ?_)
    · exact ne_xv hc hP hS hr dX9_needArea_29 (Nat.le_of_ble_eq_true rfl) (Nat.le_of_ble_eq_true rfl) ⟨by rw [inB_lt c_1 hok.na hok.naL]; exact decide_eq_true c_15, rfl⟩
    · exact nt_throwW hfl 2 (by decide) (by decide) (is := 347) (text := "no such area") (by decide) hc htb hP hS hl.1 dX9_needArea_18 dX9_needArea_21 dX9_needArea_22 dX9_needArea_25 dX9_needArea_28 (Nat.le_of_ble_eq_true rfl) (Nat.le_of_ble_eq_true rfl) (Nat.le_of_ble_eq_true rfl) (Nat.le_of_ble_eq_true rfl) ⟨rfl, by rw [inB_lt c_1 hok.na hok.naL]; exact decide_eq_false c_15⟩ (Nat.le_of_ble_eq_true rfl) (Nat.le_of_ble_eq_true rfl)
set_option maxHeartbeats 4000000 in
set_option maxRecDepth 100000 in
theorem c_X9_needVoter (hfl : l.stackTraces = false) (hI : ninj ad on) (hon0 : on 0) (hon1 : on 1) (hon2 : on 2) {x : Int32} (hok : oOk S) : nXv l D dA ad on yX9_needVoter cX9_needVoter 2 (nrx 8 1) [.ref (ad 2 20 0), .int x] (wdo X 0 S) 1 (fun X' => (inB x (onv S)) = true ∧ X' = wdo X 0 S) (fun k => k = 2 ∧ (inB x (onv S)) = false) := by
  refine nX_of hI (by decide +kernel) (Nat.le_of_ble_eq_true rfl) ?_
  intro p e s m args below meth cd ls hc hr htb hP hl hS
  have hx := hc.1
  have hb := hc.2.1
  have hl : lv_has ls 2 [(0, .ref (ad 2 20 0)), (1, .int x)] := hl
  refine lv_iload_n hx hb dX9_needVoter_0 rfl (lv_at hl 1 rfl) ?_
  refine lv_if_lt (tgt := 18) hx hb dX9_needVoter_1 (by decide) (fun c_1 => ?_) (fun c_1 => ?_)
  · exact nt_throwW hfl 2 (by decide) (by decide) (is := 349) (text := "no such voter") (by decide) hc htb hP hS hl.1 dX9_needVoter_18 dX9_needVoter_21 dX9_needVoter_22 dX9_needVoter_25 dX9_needVoter_28 (Nat.le_of_ble_eq_true rfl) (Nat.le_of_ble_eq_true rfl) (Nat.le_of_ble_eq_true rfl) (Nat.le_of_ble_eq_true rfl) ⟨rfl, inB_neg c_1⟩ (Nat.le_of_ble_eq_true rfl) (Nat.le_of_ble_eq_true rfl)
  · refine lv_iload_n hx hb dX9_needVoter_4 rfl (lv_at hl 1 rfl) ?_
    refine lv_aload_n hx hb dX9_needVoter_5 rfl (lv_at hl 0 rfl) ?_
    refine g9_10 hc hP (nv_n hon2 (by decide) Nat.zero_lt_one) dX9_needVoter_6 ?_
    refine g9_68 hc hP (nv_o hon0 (by decide) (by decide) Nat.zero_lt_one) dX9_needVoter_9 ?_
    refine g9_83 hc hP (nv_o hon0 (by decide) (by decide) Nat.zero_lt_one) dX9_needVoter_12 ?_
    refine lv_icmp_lt (tgt := 29) hx hb dX9_needVoter_15 (by decide) (fun c_15 => ?_) (fun c_15 => ?_)
    · exact ne_xv hc hP hS hr dX9_needVoter_29 (Nat.le_of_ble_eq_true rfl) (Nat.le_of_ble_eq_true rfl) ⟨by rw [inB_lt c_1 hok.nv hok.nvL]; exact decide_eq_true c_15, rfl⟩
    · exact nt_throwW hfl 2 (by decide) (by decide) (is := 349) (text := "no such voter") (by decide) hc htb hP hS hl.1 dX9_needVoter_18 dX9_needVoter_21 dX9_needVoter_22 dX9_needVoter_25 dX9_needVoter_28 (Nat.le_of_ble_eq_true rfl) (Nat.le_of_ble_eq_true rfl) (Nat.le_of_ble_eq_true rfl) (Nat.le_of_ble_eq_true rfl) ⟨rfl, by rw [inB_lt c_1 hok.nv hok.nvL]; exact decide_eq_false c_15⟩ (Nat.le_of_ble_eq_true rfl) (Nat.le_of_ble_eq_true rfl)
set_option maxHeartbeats 4000000 in
set_option maxRecDepth 100000 in
theorem c_X9_needPaper (hfl : l.stackTraces = false) (hI : ninj ad on) (hon0 : on 0) (hon1 : on 1) (hon2 : on 2) {x : Int32} (hok : oOk S) : nXv l D dA ad on yX9_needPaper cX9_needPaper 2 (nrx 8 1) [.ref (ad 2 20 0), .int x] (wdo X 0 S) 1 (fun X' => (inB x (onp S)) = true ∧ X' = wdo X 0 S) (fun k => k = 2 ∧ (inB x (onp S)) = false) := by
  refine nX_of hI (by decide +kernel) (Nat.le_of_ble_eq_true rfl) ?_
  intro p e s m args below meth cd ls hc hr htb hP hl hS
  have hx := hc.1
  have hb := hc.2.1
  have hl : lv_has ls 2 [(0, .ref (ad 2 20 0)), (1, .int x)] := hl
  refine lv_iload_n hx hb dX9_needPaper_0 rfl (lv_at hl 1 rfl) ?_
  refine lv_if_lt (tgt := 15) hx hb dX9_needPaper_1 (by decide) (fun c_1 => ?_) (fun c_1 => ?_)
  · exact nt_throwW hfl 2 (by decide) (by decide) (is := 351) (text := "no such paper") (by decide) hc htb hP hS hl.1 dX9_needPaper_15 dX9_needPaper_18 dX9_needPaper_19 dX9_needPaper_22 dX9_needPaper_25 (Nat.le_of_ble_eq_true rfl) (Nat.le_of_ble_eq_true rfl) (Nat.le_of_ble_eq_true rfl) (Nat.le_of_ble_eq_true rfl) ⟨rfl, inB_neg c_1⟩ (Nat.le_of_ble_eq_true rfl) (Nat.le_of_ble_eq_true rfl)
  · refine lv_iload_n hx hb dX9_needPaper_4 rfl (lv_at hl 1 rfl) ?_
    refine lv_aload_n hx hb dX9_needPaper_5 rfl (lv_at hl 0 rfl) ?_
    refine g9_10 hc hP (nv_n hon2 (by decide) Nat.zero_lt_one) dX9_needPaper_6 ?_
    refine g9_43 hc hP (nv_o hon0 (by decide) (by decide) Nat.zero_lt_one) dX9_needPaper_9 ?_
    refine lv_icmp_lt (tgt := 26) hx hb dX9_needPaper_12 (by decide) (fun c_12 => ?_) (fun c_12 => ?_)
    · exact ne_xv hc hP hS hr dX9_needPaper_26 (Nat.le_of_ble_eq_true rfl) (Nat.le_of_ble_eq_true rfl) ⟨by rw [inB_lt c_1 hok.np hok.npL]; exact decide_eq_true c_12, rfl⟩
    · exact nt_throwW hfl 2 (by decide) (by decide) (is := 351) (text := "no such paper") (by decide) hc htb hP hS hl.1 dX9_needPaper_15 dX9_needPaper_18 dX9_needPaper_19 dX9_needPaper_22 dX9_needPaper_25 (Nat.le_of_ble_eq_true rfl) (Nat.le_of_ble_eq_true rfl) (Nat.le_of_ble_eq_true rfl) (Nat.le_of_ble_eq_true rfl) ⟨rfl, by rw [inB_lt c_1 hok.np hok.npL]; exact decide_eq_false c_12⟩ (Nat.le_of_ble_eq_true rfl) (Nat.le_of_ble_eq_true rfl)
set_option maxHeartbeats 4000000 in
set_option maxRecDepth 100000 in
theorem c_X9_needName (hfl : l.stackTraces = false) (hI : ninj ad on) (hon0 : on 0) (hon1 : on 1) (hon2 : on 2) {na nbb nc nd : Int32} : nXv l D dA ad on yX9_needName cX9_needName 5 (nrx 8 1) [.ref (ad 2 20 0), .int na, .int nbb, .int nc, .int nd] (wdo X 0 S) 1 (fun X' => (nmOk na nbb nc nd) = true ∧ X' = wdo X 0 S) (fun k => k = 0 ∧ (nmOk na nbb nc nd) = false) := by
  refine nX_of hI (by decide +kernel) (Nat.le_of_ble_eq_true rfl) ?_
  intro p e s m args below meth cd ls hc hr htb hP hl hS
  have hx := hc.1
  have hb := hc.2.1
  have hl : lv_has ls 5 [(0, .ref (ad 2 20 0)), (1, .int na), (2, .int nbb), (3, .int nc), (4, .int nd)] := hl
  refine lv_iload_n hx hb dX9_needName_0 rfl (lv_at hl 1 rfl) ?_
  refine nc_Si (c_X9_isSmallLetter hI) hc hP hS hl.1 gd9_353 ⟨rfl, rfl⟩ nok_X9_isSmallLetter rfl ⟨Nat.le_of_ble_eq_true rfl, Nat.le_of_ble_eq_true rfl⟩ ⟨Nat.le_of_ble_eq_true rfl, Nat.le_of_ble_eq_true rfl⟩ dX9_needName_1 rfl (Nat.le_of_ble_eq_true rfl) (fun r X1 H locs hp hP hS => ?_)
  obtain ⟨hr9, hX9⟩ := hp
  rw [hX9] at hP
  subst hr9
  refine lv_if_eq (tgt := 32) hx hb dX9_needName_4 (by decide) (fun c_4 => ?_) (fun c_4 => ?_)
  · exact nt_throwW hfl 0 (by decide) (by decide) (is := 361) (text := "the characters are not a surname") (by decide) hc htb hP hS hl.1 dX9_needName_32 dX9_needName_35 dX9_needName_36 dX9_needName_39 dX9_needName_42 (Nat.le_of_ble_eq_true rfl) (Nat.le_of_ble_eq_true rfl) (Nat.le_of_ble_eq_true rfl) (Nat.le_of_ble_eq_true rfl) ⟨rfl, by clear hP hS hl hc hx hb hr htb; simp_all [-Int32.not_le, -Int32.not_lt, i32_lt, nmOk, nb_t, nb_f, nb_z, nb_o]⟩ (Nat.le_of_ble_eq_true rfl) (Nat.le_of_ble_eq_true rfl)
  · refine lv_iload_n hx hb dX9_needName_7 rfl (lv_at hl 1 rfl) ?_
    refine lv_iload_n hx hb dX9_needName_8 rfl (lv_at hl 2 rfl) ?_
    refine nc_Si (c_X9_mayFollow hI) hc hP hS hl.1 gd9_357 ⟨rfl, rfl⟩ nok_X9_mayFollow rfl ⟨Nat.le_of_ble_eq_true rfl, Nat.le_of_ble_eq_true rfl⟩ ⟨Nat.le_of_ble_eq_true rfl, Nat.le_of_ble_eq_true rfl⟩ dX9_needName_9 rfl (Nat.le_of_ble_eq_true rfl) (fun r X1 H locs hp hP hS => ?_)
    obtain ⟨hr9, hX9⟩ := hp
    rw [hX9] at hP
    subst hr9
    refine lv_if_eq (tgt := 32) hx hb dX9_needName_12 (by decide) (fun c_12 => ?_) (fun c_12 => ?_)
    · exact nt_throwW hfl 0 (by decide) (by decide) (is := 361) (text := "the characters are not a surname") (by decide) hc htb hP hS hl.1 dX9_needName_32 dX9_needName_35 dX9_needName_36 dX9_needName_39 dX9_needName_42 (Nat.le_of_ble_eq_true rfl) (Nat.le_of_ble_eq_true rfl) (Nat.le_of_ble_eq_true rfl) (Nat.le_of_ble_eq_true rfl) ⟨rfl, by clear hP hS hl hc hx hb hr htb; simp_all [-Int32.not_le, -Int32.not_lt, i32_lt, nmOk, nb_t, nb_f, nb_z, nb_o]⟩ (Nat.le_of_ble_eq_true rfl) (Nat.le_of_ble_eq_true rfl)
    · refine lv_iload_n hx hb dX9_needName_15 rfl (lv_at hl 2 rfl) ?_
      refine lv_iload_n hx hb dX9_needName_16 rfl (lv_at hl 3 rfl) ?_
      refine nc_Si (c_X9_mayFollow hI) hc hP hS hl.1 gd9_357 ⟨rfl, rfl⟩ nok_X9_mayFollow rfl ⟨Nat.le_of_ble_eq_true rfl, Nat.le_of_ble_eq_true rfl⟩ ⟨Nat.le_of_ble_eq_true rfl, Nat.le_of_ble_eq_true rfl⟩ dX9_needName_17 rfl (Nat.le_of_ble_eq_true rfl) (fun r X1 H locs hp hP hS => ?_)
      obtain ⟨hr9, hX9⟩ := hp
      rw [hX9] at hP
      subst hr9
      refine lv_if_eq (tgt := 32) hx hb dX9_needName_20 (by decide) (fun c_20 => ?_) (fun c_20 => ?_)
      · exact nt_throwW hfl 0 (by decide) (by decide) (is := 361) (text := "the characters are not a surname") (by decide) hc htb hP hS hl.1 dX9_needName_32 dX9_needName_35 dX9_needName_36 dX9_needName_39 dX9_needName_42 (Nat.le_of_ble_eq_true rfl) (Nat.le_of_ble_eq_true rfl) (Nat.le_of_ble_eq_true rfl) (Nat.le_of_ble_eq_true rfl) ⟨rfl, by clear hP hS hl hc hx hb hr htb; simp_all [-Int32.not_le, -Int32.not_lt, i32_lt, nmOk, nb_t, nb_f, nb_z, nb_o]⟩ (Nat.le_of_ble_eq_true rfl) (Nat.le_of_ble_eq_true rfl)
      · refine lv_iload_n hx hb dX9_needName_23 rfl (lv_at hl 3 rfl) ?_
        refine lv_iload hx hb dX9_needName_24 (lv_at hl 4 rfl) ?_
        refine nc_Si (c_X9_mayFollow hI) hc hP hS hl.1 gd9_357 ⟨rfl, rfl⟩ nok_X9_mayFollow rfl ⟨Nat.le_of_ble_eq_true rfl, Nat.le_of_ble_eq_true rfl⟩ ⟨Nat.le_of_ble_eq_true rfl, Nat.le_of_ble_eq_true rfl⟩ dX9_needName_26 rfl (Nat.le_of_ble_eq_true rfl) (fun r X1 H locs hp hP hS => ?_)
        obtain ⟨hr9, hX9⟩ := hp
        rw [hX9] at hP
        subst hr9
        refine lv_if_ne (tgt := 43) hx hb dX9_needName_29 (by decide) (fun c_29 => ?_) (fun c_29 => ?_)
        · exact ne_xv hc hP hS hr dX9_needName_43 (Nat.le_of_ble_eq_true rfl) (Nat.le_of_ble_eq_true rfl) ⟨by clear hP hS hl hc hx hb hr htb; simp_all [-Int32.not_le, -Int32.not_lt, i32_lt, nmOk, nb_t, nb_f, nb_z, nb_o], rfl⟩
        · exact nt_throwW hfl 0 (by decide) (by decide) (is := 361) (text := "the characters are not a surname") (by decide) hc htb hP hS hl.1 dX9_needName_32 dX9_needName_35 dX9_needName_36 dX9_needName_39 dX9_needName_42 (Nat.le_of_ble_eq_true rfl) (Nat.le_of_ble_eq_true rfl) (Nat.le_of_ble_eq_true rfl) (Nat.le_of_ble_eq_true rfl) ⟨rfl, by clear hP hS hl hc hx hb hr htb; simp_all [-Int32.not_le, -Int32.not_lt, i32_lt, nmOk, nb_t, nb_f, nb_z, nb_o]⟩ (Nat.le_of_ble_eq_true rfl) (Nat.le_of_ble_eq_true rfl)
set_option maxHeartbeats 4000000 in
set_option maxRecDepth 100000 in
theorem c_X9_needPrecinct (hfl : l.stackTraces = false) (hI : ninj ad on) (hon0 : on 0) (hon1 : on 1) (hon2 : on 2) {x : Int32} : nXv l D dA ad on yX9_needPrecinct cX9_needPrecinct 2 (nrx 8 1) [.ref (ad 2 20 0), .int x] (wdo X 0 S) 1 (fun X' => (decide (0 ≤ x) && decide (x ≤ 999)) = true ∧ X' = wdo X 0 S) (fun k => k = 0 ∧ (decide (0 ≤ x) && decide (x ≤ 999)) = false) := by
  refine nX_of hI (by decide +kernel) (Nat.le_of_ble_eq_true rfl) ?_
  intro p e s m args below meth cd ls hc hr htb hP hl hS
  have hx := hc.1
  have hb := hc.2.1
  have hl : lv_has ls 2 [(0, .ref (ad 2 20 0)), (1, .int x)] := hl
  refine lv_iload_n hx hb dX9_needPrecinct_0 rfl (lv_at hl 1 rfl) ?_
  refine lv_if_lt (tgt := 11) hx hb dX9_needPrecinct_1 (by decide) (fun c_1 => ?_) (fun c_1 => ?_)
  · exact nt_throwW hfl 0 (by decide) (by decide) (is := 363) (text := "the precinct is out of range") (by decide) hc htb hP hS hl.1 dX9_needPrecinct_11 dX9_needPrecinct_14 dX9_needPrecinct_15 dX9_needPrecinct_18 dX9_needPrecinct_21 (Nat.le_of_ble_eq_true rfl) (Nat.le_of_ble_eq_true rfl) (Nat.le_of_ble_eq_true rfl) (Nat.le_of_ble_eq_true rfl) ⟨rfl, by clear hP hS hl hc hx hb hr htb; simp_all [-Int32.not_le, -Int32.not_lt, i32_lt, nb_t, nb_f, nb_z, nb_o]⟩ (Nat.le_of_ble_eq_true rfl) (Nat.le_of_ble_eq_true rfl)
  · refine lv_iload_n hx hb dX9_needPrecinct_4 rfl (lv_at hl 1 rfl) ?_
    refine lv_sipush (v := 999) hx hb dX9_needPrecinct_5 (by decide) ?_
    refine lv_icmp_le (tgt := 22) hx hb dX9_needPrecinct_8 (by decide) (fun c_8 => ?_) (fun c_8 => ?_)
    · exact ne_xv hc hP hS hr dX9_needPrecinct_22 (Nat.le_of_ble_eq_true rfl) (Nat.le_of_ble_eq_true rfl) ⟨by clear hP hS hl hc hx hb hr htb; simp_all [-Int32.not_le, -Int32.not_lt, i32_lt, nb_t, nb_f, nb_z, nb_o], rfl⟩
    · exact nt_throwW hfl 0 (by decide) (by decide) (is := 363) (text := "the precinct is out of range") (by decide) hc htb hP hS hl.1 dX9_needPrecinct_11 dX9_needPrecinct_14 dX9_needPrecinct_15 dX9_needPrecinct_18 dX9_needPrecinct_21 (Nat.le_of_ble_eq_true rfl) (Nat.le_of_ble_eq_true rfl) (Nat.le_of_ble_eq_true rfl) (Nat.le_of_ble_eq_true rfl) ⟨rfl, by clear hP hS hl hc hx hb hr htb; simp_all [-Int32.not_le, -Int32.not_lt, i32_lt, nb_t, nb_f, nb_z, nb_o]⟩ (Nat.le_of_ble_eq_true rfl) (Nat.le_of_ble_eq_true rfl)
set_option maxHeartbeats 4000000 in
set_option maxRecDepth 100000 in
theorem c_X9_needOpen (hfl : l.stackTraces = false) (hI : ninj ad on) (hon0 : on 0) (hon1 : on 1) (hon2 : on 2) : nXv l D dA ad on yX9_needOpen cX9_needOpen 1 (nrx 8 1) [.ref (ad 2 20 0)] (wdo X 0 S) 1 (fun X' => (oOpen S) = true ∧ X' = wdo X 0 S) (fun k => k = 1 ∧ (oOpen S) = false) := by
  refine nX_of hI (by decide +kernel) (Nat.le_of_ble_eq_true rfl) ?_
  intro p e s m args below meth cd ls hc hr htb hP hl hS
  have hx := hc.1
  have hb := hc.2.1
  have hl : lv_has ls 1 [(0, .ref (ad 2 20 0))] := hl
  refine lv_aload_n hx hb dX9_needOpen_0 rfl (lv_at hl 0 rfl) ?_
  refine g9_10 hc hP (nv_n hon2 (by decide) Nat.zero_lt_one) dX9_needOpen_1 ?_
  refine g9_33 hc hP (nv_o hon0 (by decide) (by decide) Nat.zero_lt_one) dX9_needOpen_4 ?_
  refine nc_Vi (c_X1_isBeforeClose hI hon0 (by decide) ) hc hP hS hl.1 gd9_62 (nrecv (q := (RX1, TX1, 4)) hc (npic_eta hP) (nv_o hon0 (by decide) (by decide) Nat.zero_lt_one) rfl rfl) ⟨rfl, rfl⟩ nok_X1_isBeforeClose rfl ⟨Nat.le_of_ble_eq_true rfl, Nat.le_of_ble_eq_true rfl⟩ ⟨Nat.le_of_ble_eq_true rfl, Nat.le_of_ble_eq_true rfl⟩ dX9_needOpen_7 rfl (Nat.le_of_ble_eq_true rfl) (fun r X1 H locs hp hP hS => ?_)
  obtain ⟨hr9, hX9⟩ := hp
  rw [hX9] at hP
  subst hr9
  refine lv_if_ne (tgt := 24) hx hb dX9_needOpen_10 (by decide) (fun c_10 => ?_) (fun c_10 => ?_)
  · exact ne_xv hc hP hS hr dX9_needOpen_24 (Nat.le_of_ble_eq_true rfl) (Nat.le_of_ble_eq_true rfl) ⟨by clear hP hS hl hc hx hb hr htb; simp_all [-Int32.not_le, -Int32.not_lt, i32_lt, nb_t, nb_f, nb_z, nb_o], rfl⟩
  · exact nt_throwW hfl 1 (by decide) (by decide) (is := 365) (text := "the office is closed") (by decide) hc htb hP hS hl.1 dX9_needOpen_13 dX9_needOpen_16 dX9_needOpen_17 dX9_needOpen_20 dX9_needOpen_23 (Nat.le_of_ble_eq_true rfl) (Nat.le_of_ble_eq_true rfl) (Nat.le_of_ble_eq_true rfl) (Nat.le_of_ble_eq_true rfl) ⟨rfl, by clear hP hS hl hc hx hb hr htb; simp_all [-Int32.not_le, -Int32.not_lt, i32_lt, nb_t, nb_f, nb_z, nb_o]⟩ (Nat.le_of_ble_eq_true rfl) (Nat.le_of_ble_eq_true rfl)
set_option maxHeartbeats 4000000 in
set_option maxRecDepth 100000 in
theorem c_X9_needNotWithdrawn (hfl : l.stackTraces = false) (hI : ninj ad on) (hon0 : on 0) (hon1 : on 1) (hon2 : on 2) {x : Int32} : nXv l D dA ad on yX9_needNotWithdrawn cX9_needNotWithdrawn 2 (nrx 8 1) [.ref (ad 2 20 0), .int x] (wdo X 0 S) 1 (fun X' => (!oGone S x) = true ∧ X' = wdo X 0 S) (fun k => k = 1 ∧ (!oGone S x) = false) := by
  refine nX_of hI (by decide +kernel) (Nat.le_of_ble_eq_true rfl) ?_
  intro p e s m args below meth cd ls hc hr htb hP hl hS
  have hx := hc.1
  have hb := hc.2.1
  have hl : lv_has ls 2 [(0, .ref (ad 2 20 0)), (1, .int x)] := hl
  refine lv_aload_n hx hb dX9_needNotWithdrawn_0 rfl (lv_at hl 0 rfl) ?_
  refine g9_10 hc hP (nv_n hon2 (by decide) Nat.zero_lt_one) dX9_needNotWithdrawn_1 ?_
  refine lv_iload_n hx hb dX9_needNotWithdrawn_4 rfl (lv_at hl 1 rfl) ?_
  refine nc_Vi (c_X4_isWithdrawn hI hon0 (by decide) ) hc hP hS hl.1 gd9_367 (nrecv (q := (RX4, TX4, 9)) hc (npic_eta hP) (nv_o hon0 (by decide) (by decide) Nat.zero_lt_one) rfl rfl) ⟨rfl, rfl⟩ nok_X4_isWithdrawn rfl ⟨Nat.le_of_ble_eq_true rfl, Nat.le_of_ble_eq_true rfl⟩ ⟨Nat.le_of_ble_eq_true rfl, Nat.le_of_ble_eq_true rfl⟩ dX9_needNotWithdrawn_5 rfl (Nat.le_of_ble_eq_true rfl) (fun r X1 H locs hp hP hS => ?_)
  obtain ⟨hr9, hX9⟩ := hp
  rw [hX9] at hP
  subst hr9
  refine lv_if_eq (tgt := 22) hx hb dX9_needNotWithdrawn_8 (by decide) (fun c_8 => ?_) (fun c_8 => ?_)
  · exact ne_xv hc hP hS hr dX9_needNotWithdrawn_22 (Nat.le_of_ble_eq_true rfl) (Nat.le_of_ble_eq_true rfl) ⟨by clear hP hS hl hc hx hb hr htb; simp_all [-Int32.not_le, -Int32.not_lt, i32_lt, nb_t, nb_f, nb_z, nb_o], rfl⟩
  · exact nt_throwW hfl 1 (by decide) (by decide) (is := 370) (text := "the paper is withdrawn") (by decide) hc htb hP hS hl.1 dX9_needNotWithdrawn_11 dX9_needNotWithdrawn_14 dX9_needNotWithdrawn_15 dX9_needNotWithdrawn_18 dX9_needNotWithdrawn_21 (Nat.le_of_ble_eq_true rfl) (Nat.le_of_ble_eq_true rfl) (Nat.le_of_ble_eq_true rfl) (Nat.le_of_ble_eq_true rfl) ⟨rfl, by clear hP hS hl hc hx hb hr htb; simp_all [-Int32.not_le, -Int32.not_lt, i32_lt, nb_t, nb_f, nb_z, nb_o]⟩ (Nat.le_of_ble_eq_true rfl) (Nat.le_of_ble_eq_true rfl)
set_option maxHeartbeats 4000000 in
set_option maxRecDepth 100000 in
theorem c_X9_needNotRejected (hfl : l.stackTraces = false) (hI : ninj ad on) (hon0 : on 0) (hon1 : on 1) (hon2 : on 2) {x : Int32} (hx0 : vp_in x 12) : nXv l D dA ad on yX9_needNotRejected cX9_needNotRejected 2 (nrx 8 1) [.ref (ad 2 20 0), .int x] (wdo X 0 S) 1 (fun X' => (!oRej S x) = true ∧ X' = wdo X 0 S) (fun k => k = 1 ∧ (!oRej S x) = false) := by
  refine nX_of hI (by decide +kernel) (Nat.le_of_ble_eq_true rfl) ?_
  intro p e s m args below meth cd ls hc hr htb hP hl hS
  have hx := hc.1
  have hb := hc.2.1
  have hl : lv_has ls 2 [(0, .ref (ad 2 20 0)), (1, .int x)] := hl
  refine lv_aload_n hx hb dX9_needNotRejected_0 rfl (lv_at hl 0 rfl) ?_
  refine g9_10 hc hP (nv_n hon2 (by decide) Nat.zero_lt_one) dX9_needNotRejected_1 ?_
  refine lv_iload_n hx hb dX9_needNotRejected_4 rfl (lv_at hl 1 rfl) ?_
  refine nc_Vi (c_X4_isRejected hI hon0 (by decide) hx0) hc hP hS hl.1 gd9_372 (nrecv (q := (RX4, TX4, 9)) hc (npic_eta hP) (nv_o hon0 (by decide) (by decide) Nat.zero_lt_one) rfl rfl) ⟨rfl, rfl⟩ nok_X4_isRejected rfl ⟨Nat.le_of_ble_eq_true rfl, Nat.le_of_ble_eq_true rfl⟩ ⟨Nat.le_of_ble_eq_true rfl, Nat.le_of_ble_eq_true rfl⟩ dX9_needNotRejected_5 rfl (Nat.le_of_ble_eq_true rfl) (fun r X1 H locs hp hP hS => ?_)
  obtain ⟨hr9, hX9⟩ := hp
  rw [hX9] at hP
  subst hr9
  refine lv_if_eq (tgt := 22) hx hb dX9_needNotRejected_8 (by decide) (fun c_8 => ?_) (fun c_8 => ?_)
  · exact ne_xv hc hP hS hr dX9_needNotRejected_22 (Nat.le_of_ble_eq_true rfl) (Nat.le_of_ble_eq_true rfl) ⟨by clear hP hS hl hc hx hb hr htb; simp_all [-Int32.not_le, -Int32.not_lt, i32_lt, nb_t, nb_f, nb_z, nb_o], rfl⟩
  · exact nt_throwW hfl 1 (by decide) (by decide) (is := 375) (text := "the paper is rejected") (by decide) hc htb hP hS hl.1 dX9_needNotRejected_11 dX9_needNotRejected_14 dX9_needNotRejected_15 dX9_needNotRejected_18 dX9_needNotRejected_21 (Nat.le_of_ble_eq_true rfl) (Nat.le_of_ble_eq_true rfl) (Nat.le_of_ble_eq_true rfl) (Nat.le_of_ble_eq_true rfl) ⟨rfl, by clear hP hS hl hc hx hb hr htb; simp_all [-Int32.not_le, -Int32.not_lt, i32_lt, nb_t, nb_f, nb_z, nb_o]⟩ (Nat.le_of_ble_eq_true rfl) (Nat.le_of_ble_eq_true rfl)
set_option maxHeartbeats 4000000 in
set_option maxRecDepth 100000 in
theorem c_X9_needStanding (hfl : l.stackTraces = false) (hI : ninj ad on) (hon0 : on 0) (hon1 : on 1) (hon2 : on 2) {x : Int32} (hx0 : vp_in x 12) : nXv l D dA ad on yX9_needStanding cX9_needStanding 2 (nrx 8 1) [.ref (ad 2 20 0), .int x] (wdo X 0 S) 1 (fun X' => (decide (oWhy S x = 0)) = true ∧ X' = wdo X 0 S) (fun k => k = 1 ∧ (decide (oWhy S x = 0)) = false) := by
  refine nX_of hI (by decide +kernel) (Nat.le_of_ble_eq_true rfl) ?_
  intro p e s m args below meth cd ls hc hr htb hP hl hS
  have hx := hc.1
  have hb := hc.2.1
  have hl : lv_has ls 2 [(0, .ref (ad 2 20 0)), (1, .int x)] := hl
  refine lv_aload_n hx hb dX9_needStanding_0 rfl (lv_at hl 0 rfl) ?_
  refine g9_10 hc hP (nv_n hon2 (by decide) Nat.zero_lt_one) dX9_needStanding_1 ?_
  refine lv_iload_n hx hb dX9_needStanding_4 rfl (lv_at hl 1 rfl) ?_
  refine nc_Vi (c_X4_whyNotStanding hI hon0 (by decide) hx0) hc hP hS hl.1 gd9_234 (nrecv (q := (RX4, TX4, 9)) hc (npic_eta hP) (nv_o hon0 (by decide) (by decide) Nat.zero_lt_one) rfl rfl) ⟨rfl, rfl⟩ nok_X4_whyNotStanding rfl ⟨Nat.le_of_ble_eq_true rfl, Nat.le_of_ble_eq_true rfl⟩ ⟨Nat.le_of_ble_eq_true rfl, Nat.le_of_ble_eq_true rfl⟩ dX9_needStanding_5 rfl (Nat.le_of_ble_eq_true rfl) (fun r X1 H locs hp hP hS => ?_)
  obtain ⟨hr9, hX9⟩ := hp
  rw [hX9] at hP
  subst hr9
  refine lv_if_eq (tgt := 22) hx hb dX9_needStanding_8 (by decide) (fun c_8 => ?_) (fun c_8 => ?_)
  · exact ne_xv hc hP hS hr dX9_needStanding_22 (Nat.le_of_ble_eq_true rfl) (Nat.le_of_ble_eq_true rfl) ⟨by clear hP hS hl hc hx hb hr htb; simp_all [-Int32.not_le, -Int32.not_lt, i32_lt, nb_t, nb_f, nb_z, nb_o], rfl⟩
  · exact nt_throwW hfl 1 (by decide) (by decide) (is := 377) (text := "the paper does not stand") (by decide) hc htb hP hS hl.1 dX9_needStanding_11 dX9_needStanding_14 dX9_needStanding_15 dX9_needStanding_18 dX9_needStanding_21 (Nat.le_of_ble_eq_true rfl) (Nat.le_of_ble_eq_true rfl) (Nat.le_of_ble_eq_true rfl) (Nat.le_of_ble_eq_true rfl) ⟨rfl, by clear hP hS hl hc hx hb hr htb; simp_all [-Int32.not_le, -Int32.not_lt, i32_lt, nb_t, nb_f, nb_z, nb_o]⟩ (Nat.le_of_ble_eq_true rfl) (Nat.le_of_ble_eq_true rfl)
set_option maxHeartbeats 4000000 in
set_option maxRecDepth 100000 in
theorem c_X9_needLetters (hfl : l.stackTraces = false) (hI : ninj ad on) (hon0 : on 0) (hon1 : on 1) (hon2 : on 2) : nXv l D dA ad on yX9_needLetters cX9_needLetters 1 (nrx 8 1) [.ref (ad 2 20 0)] (wdo X 0 S) 1 (fun X' => (!decide (S 7 0 2 = 0)) = true ∧ X' = wdo X 0 S) (fun k => k = 1 ∧ (!decide (S 7 0 2 = 0)) = false) := by
  refine nX_of hI (by decide +kernel) (Nat.le_of_ble_eq_true rfl) ?_
  intro p e s m args below meth cd ls hc hr htb hP hl hS
  have hx := hc.1
  have hb := hc.2.1
  have hl : lv_has ls 1 [(0, .ref (ad 2 20 0))] := hl
  refine lv_aload_n hx hb dX9_needLetters_0 rfl (lv_at hl 0 rfl) ?_
  refine g9_10 hc hP (nv_n hon2 (by decide) Nat.zero_lt_one) dX9_needLetters_1 ?_
  refine g9_265 hc hP (nv_o hon0 (by decide) (by decide) Nat.zero_lt_one) dX9_needLetters_4 ?_
  refine g9_269 hc hP (nv_o hon0 (by decide) (by decide) Nat.zero_lt_one) dX9_needLetters_7 ?_
  refine lv_if_ne (tgt := 24) hx hb dX9_needLetters_10 (by decide) (fun c_10 => ?_) (fun c_10 => ?_)
  · exact ne_xv hc hP hS hr dX9_needLetters_24 (Nat.le_of_ble_eq_true rfl) (Nat.le_of_ble_eq_true rfl) ⟨by clear hP hS hl hc hx hb hr htb; simp_all [-Int32.not_le, -Int32.not_lt, i32_lt, nb_t, nb_f, nb_z, nb_o], rfl⟩
  · exact nt_throwW hfl 1 (by decide) (by decide) (is := 379) (text := "the letters have not been drawn") (by decide) hc htb hP hS hl.1 dX9_needLetters_13 dX9_needLetters_16 dX9_needLetters_17 dX9_needLetters_20 dX9_needLetters_23 (Nat.le_of_ble_eq_true rfl) (Nat.le_of_ble_eq_true rfl) (Nat.le_of_ble_eq_true rfl) (Nat.le_of_ble_eq_true rfl) ⟨rfl, by clear hP hS hl hc hx hb hr htb; simp_all [-Int32.not_le, -Int32.not_lt, i32_lt, nb_t, nb_f, nb_z, nb_o]⟩ (Nat.le_of_ble_eq_true rfl) (Nat.le_of_ble_eq_true rfl)
set_option maxHeartbeats 4000000 in
set_option maxRecDepth 100000 in
theorem c_X9_needCounting (hfl : l.stackTraces = false) (hI : ninj ad on) (hon0 : on 0) (hon1 : on 1) (hon2 : on 2) {x : Int32} (hx0 : vp_in x 5) : nXv l D dA ad on yX9_needCounting cX9_needCounting 2 (nrx 8 1) [.ref (ad 2 20 0), .int x] (wdo X 0 S) 1 (fun X' => (oPoll S && decide (S 4 (nix x) 2 = 0)) = true ∧ X' = wdo X 0 S) (fun k => k = 1 ∧ (oPoll S && decide (S 4 (nix x) 2 = 0)) = false) := by
  refine nX_of hI (by decide +kernel) (Nat.le_of_ble_eq_true rfl) ?_
  intro p e s m args below meth cd ls hc hr htb hP hl hS
  have hx := hc.1
  have hb := hc.2.1
  have hl : lv_has ls 2 [(0, .ref (ad 2 20 0)), (1, .int x)] := hl
  refine lv_aload_n hx hb dX9_needCounting_0 rfl (lv_at hl 0 rfl) ?_
  refine g9_10 hc hP (nv_n hon2 (by decide) Nat.zero_lt_one) dX9_needCounting_1 ?_
  refine g9_33 hc hP (nv_o hon0 (by decide) (by decide) Nat.zero_lt_one) dX9_needCounting_4 ?_
  refine nc_Vi (c_X1_isPollingOpen hI hon0 (by decide) ) hc hP hS hl.1 gd9_171 (nrecv (q := (RX1, TX1, 4)) hc (npic_eta hP) (nv_o hon0 (by decide) (by decide) Nat.zero_lt_one) rfl rfl) ⟨rfl, rfl⟩ nok_X1_isPollingOpen rfl ⟨Nat.le_of_ble_eq_true rfl, Nat.le_of_ble_eq_true rfl⟩ ⟨Nat.le_of_ble_eq_true rfl, Nat.le_of_ble_eq_true rfl⟩ dX9_needCounting_7 rfl (Nat.le_of_ble_eq_true rfl) (fun r X1 H locs hp hP hS => ?_)
  obtain ⟨hr9, hX9⟩ := hp
  rw [hX9] at hP
  subst hr9
  refine lv_if_ne (tgt := 24) hx hb dX9_needCounting_10 (by decide) (fun c_10 => ?_) (fun c_10 => ?_)
  · refine lv_aload_n hx hb dX9_needCounting_24 rfl (lv_at hl 0 rfl) ?_
    refine g9_10 hc hP (nv_n hon2 (by decide) Nat.zero_lt_one) dX9_needCounting_25 ?_
    refine g9_68 hc hP (nv_o hon0 (by decide) (by decide) Nat.zero_lt_one) dX9_needCounting_28 ?_
    refine g9_320 hc hP (nv_o hon0 (by decide) (by decide) Nat.zero_lt_one) dX9_needCounting_31 ?_
    refine lv_iload_n hx hb dX9_needCounting_34 rfl (lv_at hl 1 rfl) ?_
    refine ga_3 hc hP (nv_o hon0 (by decide) (by decide) Nat.zero_lt_one) hx0 dX9_needCounting_35 ?_
    refine g9_324 hc hP (nv_o hon0 (by decide) (by decide) (vp_lt hx0)) dX9_needCounting_36 ?_
    refine lv_if_eq (tgt := 53) hx hb dX9_needCounting_39 (by decide) (fun c_39 => ?_) (fun c_39 => ?_)
    · exact ne_xv hc hP hS hr dX9_needCounting_53 (Nat.le_of_ble_eq_true rfl) (Nat.le_of_ble_eq_true rfl) ⟨by clear hP hS hl hc hx hb hr htb; simp_all [-Int32.not_le, -Int32.not_lt, i32_lt, nb_t, nb_f, nb_z, nb_o], rfl⟩
    · exact nt_throwW hfl 1 (by decide) (by decide) (is := 383) (text := "the counting is finished") (by decide) hc htb hP hS hl.1 dX9_needCounting_42 dX9_needCounting_45 dX9_needCounting_46 dX9_needCounting_49 dX9_needCounting_52 (Nat.le_of_ble_eq_true rfl) (Nat.le_of_ble_eq_true rfl) (Nat.le_of_ble_eq_true rfl) (Nat.le_of_ble_eq_true rfl) ⟨rfl, by clear hP hS hl hc hx hb hr htb; simp_all [-Int32.not_le, -Int32.not_lt, i32_lt, nb_t, nb_f, nb_z, nb_o]⟩ (Nat.le_of_ble_eq_true rfl) (Nat.le_of_ble_eq_true rfl)
  · exact nt_throwW hfl 1 (by decide) (by decide) (is := 381) (text := "the polling day has not come") (by decide) hc htb hP hS hl.1 dX9_needCounting_13 dX9_needCounting_16 dX9_needCounting_17 dX9_needCounting_20 dX9_needCounting_23 (Nat.le_of_ble_eq_true rfl) (Nat.le_of_ble_eq_true rfl) (Nat.le_of_ble_eq_true rfl) (Nat.le_of_ble_eq_true rfl) ⟨rfl, by clear hP hS hl hc hx hb hr htb; simp_all [-Int32.not_le, -Int32.not_lt, i32_lt, nb_t, nb_f, nb_z, nb_o]⟩ (Nat.le_of_ble_eq_true rfl) (Nat.le_of_ble_eq_true rfl)
end N15
